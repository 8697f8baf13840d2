/-! the law answers 1 -/
theorem sm_get {Y : Option (Unit × zH)} {d : Unit × zH} (h : Y.isSome = true) : Y = some ((), (Y.getD d).2) := by
  cases Y with
  | none => exact absurd h (by simp)
  | some q => rfl
theorem et3 (h : zH) : ((h.1, h.2.1, h.2.2) : zH) = h := rfl
theorem law_go {n L : Nat} {xs : Nat → Int32} {hA hB : zH} (a1 : f_X11_init n 1 (znw zh0 12 0 20) = some ((), hA)) (a2 : znx hA = 421) (a3 : f_X12_init n 422 (znw hA 13 0 43) = some ((), hB)) : f_L_law n L xs zh0 = zlp3 (fb_L_law_18 n L xs) n 1 422 (nI 0) hB := by
  have e1 : znx zh0 + 1 = 1 := rfl
  unfold f_L_law znO
  rw [e1]
  dsimp only
  rw [a1, zb_s, a2, a3, zb_s]
  rfl
theorem pure_go {h : zH} (hI : IV 0 h.1 h.2.1) {L : Nat} {xs : Nat → Int32} (hL : L ≤ 3072) : ∃ h', zlp3 (fb_L_law_18 20000 L xs) 20000 1 422 (nI 0) h = some (nI 1, h') ∧ znx h' ≤ 439 + 4 * 512 ∧ zsl h' ≤ 60000 + 2000 * 512 := by
  obtain ⟨h', b1, b2⟩ := lw_loop (n := 20000) (L := L) (xs := xs) (by decide) hL (L / 6) 0 0 20000 h.1 h.2.1 h.2.2 rfl (by omega) (by omega) (by omega) hI
  rw [et3] at b1
  exact ⟨h', b1, b2⟩
theorem pure_law : ∀ (L : Nat) (xs : Nat → Int32), L ≤ 3072 → ∃ h', f_L_law 20000 L xs zh0 = some (1, h') ∧ znx h' ≤ 600000 ∧ zsl h' ≤ 7302250 := by
  intro L xs hL
  have a1 : f_X11_init 20000 1 (znw zh0 12 0 20) = some ((), zhA) := sm_get init_A.1
  have a3 : f_X12_init 20000 422 (znw zhA 13 0 43) = some ((), zhI) := sm_get init_B.1
  obtain ⟨h', b1, b2, b3⟩ := pure_go init_IV (L := L) (xs := xs) hL
  exact ⟨h', (law_go a1 init_A.2 a3).trans b1, by omega, by omega⟩
