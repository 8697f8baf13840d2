theorem pure_law : ∀ (L : Nat) (xs : Nat → Int32), L ≤ 3072 → ∃ h', f_L_law 20000 L xs zh0 = some (1, h') ∧ znx h' ≤ 600000 ∧ zsl h' ≤ 7302250 := sorry
