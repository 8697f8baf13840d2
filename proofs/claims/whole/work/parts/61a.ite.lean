/-! rows that are used ahead of what stands inside -/
section
variable {α : Sort _} {x y : α} {a b : Nat}
theorem iLe1 [Decidable (nI a ≤ nI b)] (h1 : a < 2147483648) (h2 : b < 2147483648) (h : a ≤ b) : (if nI a ≤ nI b then x else y) = x := if_pos (by rw [nLe h1 h2]; exact h)
theorem iLe0 [Decidable (nI a ≤ nI b)] (h1 : a < 2147483648) (h2 : b < 2147483648) (h : b < a) : (if nI a ≤ nI b then x else y) = y := if_neg (by rw [nLe h1 h2]; omega)
theorem iLt1 [Decidable (nI a < nI b)] (h1 : a < 2147483648) (h2 : b < 2147483648) (h : a < b) : (if nI a < nI b then x else y) = x := if_pos (by rw [nLt h1 h2]; exact h)
theorem iLt0 [Decidable (nI a < nI b)] (h1 : a < 2147483648) (h2 : b < 2147483648) (h : b ≤ a) : (if nI a < nI b then x else y) = y := if_neg (by rw [nLt h1 h2]; omega)
theorem iEq1 [Decidable (nI a = nI b)] (h : a = b) : (if nI a = nI b then x else y) = x := if_pos (by rw [h])
theorem iEq0 [Decidable (nI a = nI b)] (h1 : a < 2147483648) (h2 : b < 2147483648) (h : ¬ a = b) : (if nI a = nI b then x else y) = y := if_neg (by rw [nEq h1 h2]; exact h)
end
