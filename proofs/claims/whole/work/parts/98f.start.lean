/-! the start: what holds there -/
def WAb (f : Nat → Int32) : Nat → List (List Nat) → Bool
  | off, [] => decide (off = 146)
  | off, w :: l => ((List.range w.length).all (fun i => decide (f (off + i) = nI (w.getD i 0)) && (decide (w.getD i 0 ≠ 32) && decide (w.getD i 0 < 128)))) && (decide (f (off + w.length) = nI 32) && (decide (off + w.length < 146) && WAb f (off + w.length + 1) l))
theorem WAb_s {f : Nat → Int32} : ∀ (l : List (List Nat)) (off : Nat), WAb f off l = true → WA f off l
  | [], off, h => by
    have h : decide (off = 146) = true := h
    show off = 146
    exact of_decide_eq_true h
  | w :: l, off, h => by
    unfold WAb at h
    rw [Bool.and_eq_true, Bool.and_eq_true, Bool.and_eq_true] at h
    obtain ⟨h1, h2, h3, h4⟩ := h
    refine ⟨⟨fun i hi => ?_, of_decide_eq_true h2, of_decide_eq_true h3⟩, WAb_s l _ h4⟩
    have := List.all_eq_true.mp h1 i (List.mem_range.mpr hi)
    rw [Bool.and_eq_true, Bool.and_eq_true] at this
    exact ⟨of_decide_eq_true this.1, of_decide_eq_true this.2.1, of_decide_eq_true this.2.2⟩
def zIx : List (Nat × Nat × Int32) := [(424, 96, m1), (424, 203, nI 1), (424, 204, nI 0), (424, 205, nI 0), (424, 206, nI 0), (424, 207, m1), (2, 3, nI 0), (2, 4, nI 0), (2, 5, nI 0), (25, 2, nI 0), (25, 3, m1), (25, 4, nI 1), (25, 5, nI 0), (27, 2, nI 0), (30, 2, nI 0), (30, 3, nI 0), (422, 31, nI 0), (422, 0, nI 0), (422, 6, nI 0), (422, 13, nI 0), (422, 14, m1), (422, 33, m1), (422, 41, nI 0), (426, 0, nI 0), (426, 1, nI 0), (376, 3, nI 0), (392, 3, nI 0), (408, 1, nI 0), (1, 14, nI 0), (1, 15, m1), (1, 16, m1), (1, 19, nI 0), (419, 0, nI 0), (419, 1, nI 0), (419, 2, nI 0), (419, 3, nI 0), (419, 4, nI 0), (423, 1, nI 0), (423, 2, nI 0), (423, 3, nI 0), (423, 5, nI 0), (423, 6, nI 0)]
set_option maxRecDepth 100000 in
theorem init_x : zIx.all (fun q => decide (zhI.2.1 q.1 q.2.1 = q.2.2)) = true := by decide +kernel
set_option maxRecDepth 100000 in
theorem init_ra : (List.range 48).all (fun k => decide (zhI.2.1 424 (0 + k) = nI 0)) = true := by decide +kernel
set_option maxRecDepth 100000 in
theorem init_rb : (List.range 48).all (fun k => decide (zhI.2.1 424 (48 + k) = nI 0)) = true := by decide +kernel
set_option maxRecDepth 100000 in
theorem init_rc : (List.range 47).all (fun k => decide (zhI.2.1 424 (97 + k) = nI 0)) = true := by decide +kernel
set_option maxRecDepth 100000 in
theorem init_rd : (List.range 47).all (fun k => decide (zhI.2.1 424 (144 + k) = nI 0)) = true := by decide +kernel
set_option maxRecDepth 100000 in
theorem init_p : (List.range 10).all (fun d => (List.range 24).all (fun k => !okd d k || decide (zhI.2.1 (2 + d) k = zhI.2.1 424 (ofs d k)))) = true := by decide +kernel
set_option maxRecDepth 100000 in
theorem init_d : (List.range 24).all (fun k => decide (zhI.2.1 420 k = m1)) = true := by decide +kernel
set_option maxRecDepth 100000 in
theorem init_l : (List.range 6).all (fun i => Nat.beq (zhI.1.2.2.1 26 i) 0 && (Nat.beq (zhI.1.2.2.1 391 i) 0 && Nat.beq (zhI.1.2.2.1 407 i) 0)) = true := by decide +kernel
set_option maxRecDepth 100000 in
theorem init_wa : WAb (zhI.2.1 428) 0 WS = true := by decide +kernel
section
variable {h0 : zH}
theorem st_X (hx : zIx.all (fun q => decide (h0.2.1 q.1 q.2.1 = q.2.2)) = true) (a k : Nat) (x : Int32) (h : (a, k, x) ∈ zIx) : h0.2.1 a k = x := of_decide_eq_true (List.all_eq_true.mp hx (a, k, x) h)
theorem st_R (hra : (List.range 48).all (fun k => decide (h0.2.1 424 (0 + k) = nI 0)) = true) (hrb : (List.range 48).all (fun k => decide (h0.2.1 424 (48 + k) = nI 0)) = true) (hrc : (List.range 47).all (fun k => decide (h0.2.1 424 (97 + k) = nI 0)) = true) (hrd : (List.range 47).all (fun k => decide (h0.2.1 424 (144 + k) = nI 0)) = true) (k : Nat) (hk : k < 191) (h : k ≠ 96) : h0.2.1 424 k = nI 0 := by
  by_cases q1 : k < 48
  · have := of_decide_eq_true (List.all_eq_true.mp hra k (List.mem_range.mpr q1))
    rw [Nat.zero_add] at this
    exact this
  · by_cases q2 : k < 96
    · obtain ⟨j, rfl⟩ : ∃ j, k = 48 + j := ⟨k - 48, by omega⟩
      exact of_decide_eq_true (List.all_eq_true.mp hrb j (List.mem_range.mpr (by omega)))
    · by_cases q3 : k < 144
      · obtain ⟨j, rfl⟩ : ∃ j, k = 97 + j := ⟨k - 97, by omega⟩
        exact of_decide_eq_true (List.all_eq_true.mp hrc j (List.mem_range.mpr (by omega)))
      · obtain ⟨j, rfl⟩ : ∃ j, k = 144 + j := ⟨k - 144, by omega⟩
        exact of_decide_eq_true (List.all_eq_true.mp hrd j (List.mem_range.mpr (by omega)))
theorem bI_00 : ∀ p, p < 8 → bI 0 p = nI 0 := by decide
theorem st_WR (X : ∀ a k x, (a, k, x) ∈ zIx → h0.2.1 a k = x) (R : ∀ k, k < 191 → k ≠ 96 → h0.2.1 424 k = nI 0) (hp0 : (List.range 10).all (fun d => (List.range 24).all (fun k => !okd d k || decide (h0.2.1 (2 + d) k = h0.2.1 424 (ofs d k)))) = true) : WR h0.2.1 2 (h0.2.1 424) := by
  have B : ∀ k x, (2, k, nI 0) ∈ zIx → (∀ p, p < 8 → x + p < 191 ∧ x + p ≠ 96) → Bt (h0.2.1 2 k) (h0.2.1 424) x := fun k x h hx => ⟨0, by decide, X 2 k _ h, fun p hp => by rw [R _ (hx p hp).1 (hx p hp).2, bI_00 p hp]⟩
  refine ⟨fun a k i hp => ?_, ⟨fun j hj h => ?_, fun j hj h => ?_⟩, B 3 97 (by decide) (fun p hp => by omega), B 4 113 (by decide) (fun p hp => by omega), B 5 121 (by decide) (fun p hp => by omega)⟩
  · obtain ⟨d, d1, d2, d3, d4, d5⟩ := hp
    have h := List.all_eq_true.mp (List.all_eq_true.mp hp0 d (List.mem_range.mpr d1)) k (List.mem_range.mpr d2)
    rw [d3, Bool.not_true, Bool.false_or] at h
    rw [d4, d5]
    exact of_decide_eq_true h
  · rw [R 139 (by decide) (by decide), nLt (by omega) (by omega)] at h
    omega
  · rw [R 164 (by decide) (by decide), nLt (by omega) (by omega)] at h
    omega
theorem st_WI (X : ∀ a k x, (a, k, x) ∈ zIx → h0.2.1 a k = x) (R : ∀ k, k < 191 → k ≠ 96 → h0.2.1 424 k = nI 0) : WI (h0.2.1 424) := by
  have z01 : ¬ nI 0 = nI 1 := n01
  have z02 : ¬ nI 0 = nI 2 := by decide
  refine ⟨[], [], [], ⟨⟨X 424 96 m1 (by decide), List.Pairwise.nil⟩, ⟨fun c hc => Or.inl (R c (by omega) (by omega)), fun c hc => ?_, fun c hc => ?_, fun c hc => ⟨0, by decide, R _ (by omega) (by omega)⟩⟩, trivial, R 139 (by decide) (by decide), trivial, R 164 (by decide) (by decide), List.nodup_nil, fun c hc => absurd hc (by simp)⟩, fun p hp => ?_, ⟨fun _ => 0, fun q q1 q2 => ⟨show 0 < 4 by decide, R _ (by omega) (by omega)⟩, Or.inl ⟨R 129 (by decide) (by decide), rfl, fun _ _ _ => rfl, fun p hp => R _ (by omega) (by omega)⟩⟩⟩
  · rw [R c (by omega) (by omega)]
    exact ⟨fun h => absurd h z01, fun h => absurd h (by simp)⟩
  · rw [R c (by omega) (by omega)]
    exact ⟨fun h => absurd h z02, fun h => absurd h (by simp)⟩
  · rw [R (97 + p) (by omega) (by omega), R (113 + p) (by omega) (by omega), R (121 + p) (by omega) (by omega)]
    exact ⟨⟨Or.inl rfl, Or.inl rfl, Or.inl rfl⟩, fun h => absurd h z01, fun h => absurd h z01, fun h => absurd h z01⟩
theorem st_IV (hx : zIx.all (fun q => decide (h0.2.1 q.1 q.2.1 = q.2.2)) = true) (hra : (List.range 48).all (fun k => decide (h0.2.1 424 (0 + k) = nI 0)) = true) (hrb : (List.range 48).all (fun k => decide (h0.2.1 424 (48 + k) = nI 0)) = true) (hrc : (List.range 47).all (fun k => decide (h0.2.1 424 (97 + k) = nI 0)) = true) (hrd : (List.range 47).all (fun k => decide (h0.2.1 424 (144 + k) = nI 0)) = true) (hp0 : (List.range 10).all (fun d => (List.range 24).all (fun k => !okd d k || decide (h0.2.1 (2 + d) k = h0.2.1 424 (ofs d k)))) = true) (hd : (List.range 24).all (fun k => decide (h0.2.1 420 k = m1)) = true) (hll : (List.range 6).all (fun i => Nat.beq (h0.1.2.2.1 26 i) 0 && (Nat.beq (h0.1.2.2.1 391 i) 0 && Nat.beq (h0.1.2.2.1 407 i) 0)) = true) (hwa : WAb (h0.2.1 428) 0 WS = true) (hS : Sy h0.1) (hn : znx h0 = 439 ∧ zsl h0 ≤ 60000) : IV 0 h0.1 h0.2.1 := by
  have X := st_X hx
  have R := st_R hra hrb hrc hrd
  have IMs : ∀ j I w c r la, (426, j, nI 0) ∈ zIx → (I, 3, nI 0) ∈ zIx → IM (3000 * 0) h0.1 h0.2.1 j I w c r la := fun j I w c r la h1 h2 => ⟨Or.inl (X 426 j _ h1), by rw [X 426 j _ h1, X I 3 _ h2], fun h => by rw [X 426 j _ h1] at h; exact absurd h n01⟩
  have hnx : h0.1.2.2.2.1 = 439 := hn.1
  have hsl : h0.1.2.2.2.2 ≤ 60000 := hn.2
  refine ⟨⟨hS, by omega, by omega, by omega, fun la hla i hi => ?_⟩, ⟨st_WR X R hp0, st_WI X R, 0, by omega, Or.inl ⟨R 129 (by decide) (by decide), R 130 (by decide) (by decide)⟩, 0, by decide, R 190 (by decide) (by decide)⟩, ⟨0, ⟨by decide, X 25 2 _ (by decide), X 424 206 _ (by decide)⟩, ⟨by rw [X 25 3 m1 (by decide), X 424 207 m1 (by decide)], Or.inl (X 424 207 _ (by decide))⟩, ⟨by rw [X 25 4 (nI 1) (by decide), X 424 203 (nI 1) (by decide)], 1, by decide, X 424 203 _ (by decide)⟩, ⟨by rw [X 25 5 (nI 0) (by decide), X 424 204 (nI 0) (by decide)], 0, by decide, X 424 204 _ (by decide)⟩, fun i hi => absurd hi (by omega)⟩, ⟨0, by decide, X 27 2 _ (by decide), X 424 205 _ (by decide), fun k hk => absurd hk (by omega)⟩, ⟨0, 0, ⟨by decide, by decide, X 30 2 _ (by decide), X 30 3 _ (by decide)⟩, X 422 31 _ (by decide), fun i hi => absurd hi (by omega)⟩, ⟨IMs _ _ _ _ _ _ (by decide) (by decide), IMs _ _ _ _ _ _ (by decide) (by decide)⟩, ⟨fun _ => 0, 0, ⟨X 408 1 _ (by decide), by decide, fun i hi => absurd hi (by omega)⟩, ⟨by decide, fun i hi => absurd hi (by omega), WAb_s _ _ hwa⟩, X 422 13 _ (by decide)⟩, ⟨?_, ?_, ?_, ?_, ?_, ?_⟩, ⟨?_, ?_, ?_⟩, Or.inl ⟨X 422 41 _ (by decide), fun k hk => of_decide_eq_true (List.all_eq_true.mp hd k (List.mem_range.mpr hk))⟩⟩
  · have h := List.all_eq_true.mp hll i (List.mem_range.mpr hi)
    rw [Bool.and_eq_true, Bool.and_eq_true] at h
    rcases hla with q | q | q <;> subst q
    · exact Or.inl (Nat.eq_of_beq_eq_true h.1)
    · exact Or.inl (Nat.eq_of_beq_eq_true h.2.1)
    · exact Or.inl (Nat.eq_of_beq_eq_true h.2.2)
  · rw [X 1 19 (nI 0) (by decide), X 422 0 (nI 0) (by decide)]
  · rw [X 419 0 (nI 0) (by decide), X 423 1 (nI 0) (by decide)]
  · rw [X 419 1 (nI 0) (by decide), X 423 2 (nI 0) (by decide)]
  · rw [X 419 2 (nI 0) (by decide), X 423 3 (nI 0) (by decide)]
  · rw [X 419 3 (nI 0) (by decide), X 423 5 (nI 0) (by decide)]
  · rw [X 419 4 (nI 0) (by decide), X 423 6 (nI 0) (by decide)]
  · rw [X 1 14 (nI 0) (by decide), X 422 6 (nI 0) (by decide)]
  · rw [X 1 15 m1 (by decide), X 422 14 m1 (by decide)]
  · rw [X 1 16 m1 (by decide), X 422 33 m1 (by decide)]
end
theorem init_IV : IV 0 zhI.1 zhI.2.1 := st_IV (h0 := zhI) init_x init_ra init_rb init_rc init_rd init_p init_d init_l init_wa init_S ⟨init_B.2.1, init_B.2.2⟩
