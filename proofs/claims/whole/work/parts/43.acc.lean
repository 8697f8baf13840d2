/-! reads and writes at the places of the layout -/
theorem Sy_f {g : zS} (hs : Sy g) (q : Nat × Nat × Nat × Nat) (h : zFL.contains q = true) : zFv g q = q.2.2.2 := hs.1 q (List.contains_iff_mem.mp h)
theorem lit (k : Nat) : (OfNat.ofNat k : Int32) = nI k := rfl
def m1 : Int32 := -1
def m2 : Int32 := -2
def m3 : Int32 := -3
def m5 : Int32 := -5
def m6 : Int32 := -6
theorem ng1 : -(nI 1) = m1 := rfl
theorem ng2 : -(nI 2) = m2 := rfl
theorem ng3 : -(nI 3) = m3 := rfl
theorem ng5 : -(nI 5) = m5 := rfl
theorem ng6 : -(nI 6) = m6 := rfl
theorem nm1 {j : Nat} (h : j < 2147483648) : (nI j = m1) = False := eq_false (nI_nm h)
theorem m1n {j : Nat} (h : j < 2147483648) : (m1 = nI j) = False := eq_false (fun e => nI_nm h e.symm)
theorem m1lt {j : Nat} (h : j < 2147483648) : (m1 < nI j) = True := eq_true (by rw [Int32.lt_iff_toInt_lt, nI_toInt h]; have : m1.toInt = -1 := by decide
                                                                                omega)
theorem m1le {j : Nat} (h : j < 2147483648) : (m1 ≤ nI j) = True := eq_true (by rw [Int32.le_iff_toInt_le, nI_toInt h]; have : m1.toInt = -1 := by decide
                                                                                omega)
theorem nle1 {j : Nat} (h : j < 2147483648) : (nI j ≤ m1) = False := eq_false (by rw [Int32.le_iff_toInt_le, nI_toInt h]; have : m1.toInt = -1 := by decide
                                                                                  omega)
theorem nlt1 {j : Nat} (h : j < 2147483648) : (nI j < m1) = False := eq_false (by rw [Int32.lt_iff_toInt_lt, nI_toInt h]; have : m1.toInt = -1 := by decide
                                                                                  omega)
theorem nEq {a b : Nat} (ha : a < 2147483648) (hb : b < 2147483648) : (nI a = nI b) = (a = b) := propext (nI_eq ha hb)
theorem nLe {a b : Nat} (ha : a < 2147483648) (hb : b < 2147483648) : (nI a ≤ nI b) = (a ≤ b) := propext (nI_leI ha hb)
theorem nLt {a b : Nat} (ha : a < 2147483648) (hb : b < 2147483648) : (nI a < nI b) = (a < b) := propext (nI_ltI ha hb)
theorem zb_s {ρ β : Type} (r : β) (h : zH) (K : β → zH → Option ρ) : zb (some (r, h)) K = K r h := rfl
theorem if_T {ρ : Type} (a b : ρ) : (if True then a else b) = a := if_pos trivial
theorem if_F {ρ : Type} (a b : ρ) : (if False then a else b) = b := if_neg (fun h => h)
section
variable {g : zS} {mi : Nat → Nat → Int32} {ml : Nat → Nat → Int64} {ρ : Type} {k : Nat}
theorem S_gI1 {K : Int32 → Option ρ} (hs : Sy g) : zgI ((g, mi, ml) : zH) 12 1 k K = K (mi 1 k) := q_gI (Sy_f hs (0, 1, 0, 12) rfl)
theorem S_pI1 {K : zH → Option ρ} {x : Int32} (hs : Sy g) : zpI ((g, mi, ml) : zH) 12 1 k x K = K (g, zu mi 1 k x, ml) := q_pI (Sy_f hs (0, 1, 0, 12) rfl)
theorem S_pZ1 {K : zH → Option ρ} {x : Int32} (hs : Sy g) (hx : x = 0 ∨ x = 1) : zpZ ((g, mi, ml) : zH) 12 1 k x K = K (g, zu mi 1 k x, ml) := q_pZ (Sy_f hs (0, 1, 0, 12) rfl) hx
theorem S_ck1 {X : Option ρ} (hs : Sy g) : zck ((g, mi, ml) : zH) 12 1 X = X := q_ck (Sy_f hs (0, 1, 0, 12) rfl)
theorem S_gI22 {K : Int32 → Option ρ} (hs : Sy g) : zgI ((g, mi, ml) : zH) 5 22 k K = K (mi 22 k) := q_gI (Sy_f hs (0, 22, 0, 5) rfl)
theorem S_pI22 {K : zH → Option ρ} {x : Int32} (hs : Sy g) : zpI ((g, mi, ml) : zH) 5 22 k x K = K (g, zu mi 22 k x, ml) := q_pI (Sy_f hs (0, 22, 0, 5) rfl)
theorem S_pZ22 {K : zH → Option ρ} {x : Int32} (hs : Sy g) (hx : x = 0 ∨ x = 1) : zpZ ((g, mi, ml) : zH) 5 22 k x K = K (g, zu mi 22 k x, ml) := q_pZ (Sy_f hs (0, 22, 0, 5) rfl) hx
theorem S_ck22 {X : Option ρ} (hs : Sy g) : zck ((g, mi, ml) : zH) 5 22 X = X := q_ck (Sy_f hs (0, 22, 0, 5) rfl)
theorem S_gL22 {K : Int64 → Option ρ} (hs : Sy g) : zgL ((g, mi, ml) : zH) 5 22 k K = K (ml 22 k) := q_gL (Sy_f hs (0, 22, 0, 5) rfl)
theorem S_pL22 {K : zH → Option ρ} {x : Int64} (hs : Sy g) : zpL ((g, mi, ml) : zH) 5 22 k x K = K (g, mi, zu ml 22 k x) := q_pL (Sy_f hs (0, 22, 0, 5) rfl)
theorem S_aI23 {K : Int32 → Option ρ} {j : Nat} (hs : Sy g) (hj : j < 113) : zaI ((g, mi, ml) : zH) 21 23 (nI j) K = K (mi 23 j) := q_aI (Sy_f hs (0, 23, 0, 21) rfl) (Sy_f hs (1, 23, 0, 113) rfl) (by decide) hj
theorem S_ln23 {K : Int32 → Option ρ} (hs : Sy g) : zln' ((g, mi, ml) : zH) 21 23 K = K (nI 113) := q_ln (Sy_f hs (0, 23, 0, 21) rfl) (Sy_f hs (1, 23, 0, 113) rfl)
theorem S_eI23 {K : zH → Option ρ} {x : Int32} {j : Nat} (hs : Sy g) (hj : j < 113) : zeI ((g, mi, ml) : zH) 23 (nI j) x K = K (g, zu mi 23 j x, ml) := q_eI (Sy_f hs (0, 23, 0, 21) rfl) (Sy_f hs (1, 23, 0, 113) rfl) (by decide) hj
theorem S_aL24 {K : Int64 → Option ρ} {j : Nat} (hs : Sy g) (hj : j < 64) : zaL ((g, mi, ml) : zH) 24 (nI j) K = K (ml 24 j) := q_aL (Sy_f hs (0, 24, 0, 22) rfl) (Sy_f hs (1, 24, 0, 64) rfl) (by decide) hj
theorem S_eL24 {K : zH → Option ρ} {x : Int64} {j : Nat} (hs : Sy g) (hj : j < 64) : zeL ((g, mi, ml) : zH) 24 (nI j) x K = K (g, mi, zu ml 24 j x) := q_eL (Sy_f hs (0, 24, 0, 22) rfl) (Sy_f hs (1, 24, 0, 64) rfl) (by decide) hj
theorem S_gI25 {K : Int32 → Option ρ} (hs : Sy g) : zgI ((g, mi, ml) : zH) 7 25 k K = K (mi 25 k) := q_gI (Sy_f hs (0, 25, 0, 7) rfl)
theorem S_pI25 {K : zH → Option ρ} {x : Int32} (hs : Sy g) : zpI ((g, mi, ml) : zH) 7 25 k x K = K (g, zu mi 25 k x, ml) := q_pI (Sy_f hs (0, 25, 0, 7) rfl)
theorem S_pZ25 {K : zH → Option ρ} {x : Int32} (hs : Sy g) (hx : x = 0 ∨ x = 1) : zpZ ((g, mi, ml) : zH) 7 25 k x K = K (g, zu mi 25 k x, ml) := q_pZ (Sy_f hs (0, 25, 0, 7) rfl) hx
theorem S_ck25 {X : Option ρ} (hs : Sy g) : zck ((g, mi, ml) : zH) 7 25 X = X := q_ck (Sy_f hs (0, 25, 0, 7) rfl)
theorem S_gI27 {K : Int32 → Option ρ} (hs : Sy g) : zgI ((g, mi, ml) : zH) 2 27 k K = K (mi 27 k) := q_gI (Sy_f hs (0, 27, 0, 2) rfl)
theorem S_pI27 {K : zH → Option ρ} {x : Int32} (hs : Sy g) : zpI ((g, mi, ml) : zH) 2 27 k x K = K (g, zu mi 27 k x, ml) := q_pI (Sy_f hs (0, 27, 0, 2) rfl)
theorem S_pZ27 {K : zH → Option ρ} {x : Int32} (hs : Sy g) (hx : x = 0 ∨ x = 1) : zpZ ((g, mi, ml) : zH) 2 27 k x K = K (g, zu mi 27 k x, ml) := q_pZ (Sy_f hs (0, 27, 0, 2) rfl) hx
theorem S_ck27 {X : Option ρ} (hs : Sy g) : zck ((g, mi, ml) : zH) 2 27 X = X := q_ck (Sy_f hs (0, 27, 0, 2) rfl)
theorem S_aI28 {K : Int32 → Option ρ} {j : Nat} (hs : Sy g) (hj : j < 6) : zaI ((g, mi, ml) : zH) 21 28 (nI j) K = K (mi 28 j) := q_aI (Sy_f hs (0, 28, 0, 21) rfl) (Sy_f hs (1, 28, 0, 6) rfl) (by decide) hj
theorem S_ln28 {K : Int32 → Option ρ} (hs : Sy g) : zln' ((g, mi, ml) : zH) 21 28 K = K (nI 6) := q_ln (Sy_f hs (0, 28, 0, 21) rfl) (Sy_f hs (1, 28, 0, 6) rfl)
theorem S_eI28 {K : zH → Option ρ} {x : Int32} {j : Nat} (hs : Sy g) (hj : j < 6) : zeI ((g, mi, ml) : zH) 28 (nI j) x K = K (g, zu mi 28 j x, ml) := q_eI (Sy_f hs (0, 28, 0, 21) rfl) (Sy_f hs (1, 28, 0, 6) rfl) (by decide) hj
theorem S_aI29 {K : Int32 → Option ρ} {j : Nat} (hs : Sy g) (hj : j < 6) : zaI ((g, mi, ml) : zH) 21 29 (nI j) K = K (mi 29 j) := q_aI (Sy_f hs (0, 29, 0, 21) rfl) (Sy_f hs (1, 29, 0, 6) rfl) (by decide) hj
theorem S_ln29 {K : Int32 → Option ρ} (hs : Sy g) : zln' ((g, mi, ml) : zH) 21 29 K = K (nI 6) := q_ln (Sy_f hs (0, 29, 0, 21) rfl) (Sy_f hs (1, 29, 0, 6) rfl)
theorem S_eI29 {K : zH → Option ρ} {x : Int32} {j : Nat} (hs : Sy g) (hj : j < 6) : zeI ((g, mi, ml) : zH) 29 (nI j) x K = K (g, zu mi 29 j x, ml) := q_eI (Sy_f hs (0, 29, 0, 21) rfl) (Sy_f hs (1, 29, 0, 6) rfl) (by decide) hj
theorem S_gI30 {K : Int32 → Option ρ} (hs : Sy g) : zgI ((g, mi, ml) : zH) 3 30 k K = K (mi 30 k) := q_gI (Sy_f hs (0, 30, 0, 3) rfl)
theorem S_pI30 {K : zH → Option ρ} {x : Int32} (hs : Sy g) : zpI ((g, mi, ml) : zH) 3 30 k x K = K (g, zu mi 30 k x, ml) := q_pI (Sy_f hs (0, 30, 0, 3) rfl)
theorem S_pZ30 {K : zH → Option ρ} {x : Int32} (hs : Sy g) (hx : x = 0 ∨ x = 1) : zpZ ((g, mi, ml) : zH) 3 30 k x K = K (g, zu mi 30 k x, ml) := q_pZ (Sy_f hs (0, 30, 0, 3) rfl) hx
theorem S_ck30 {X : Option ρ} (hs : Sy g) : zck ((g, mi, ml) : zH) 3 30 X = X := q_ck (Sy_f hs (0, 30, 0, 3) rfl)
theorem S_aI32 {K : Int32 → Option ρ} {j : Nat} (hs : Sy g) (hj : j < 17) : zaI ((g, mi, ml) : zH) 21 32 (nI j) K = K (mi 32 j) := q_aI (Sy_f hs (0, 32, 0, 21) rfl) (Sy_f hs (1, 32, 0, 17) rfl) (by decide) hj
theorem S_ln32 {K : Int32 → Option ρ} (hs : Sy g) : zln' ((g, mi, ml) : zH) 21 32 K = K (nI 17) := q_ln (Sy_f hs (0, 32, 0, 21) rfl) (Sy_f hs (1, 32, 0, 17) rfl)
theorem S_eI32 {K : zH → Option ρ} {x : Int32} {j : Nat} (hs : Sy g) (hj : j < 17) : zeI ((g, mi, ml) : zH) 32 (nI j) x K = K (g, zu mi 32 j x, ml) := q_eI (Sy_f hs (0, 32, 0, 21) rfl) (Sy_f hs (1, 32, 0, 17) rfl) (by decide) hj
theorem S_gI203 {K : Int32 → Option ρ} (hs : Sy g) : zgI ((g, mi, ml) : zH) 3 203 k K = K (mi 203 k) := q_gI (Sy_f hs (0, 203, 0, 3) rfl)
theorem S_pI203 {K : zH → Option ρ} {x : Int32} (hs : Sy g) : zpI ((g, mi, ml) : zH) 3 203 k x K = K (g, zu mi 203 k x, ml) := q_pI (Sy_f hs (0, 203, 0, 3) rfl)
theorem S_pZ203 {K : zH → Option ρ} {x : Int32} (hs : Sy g) (hx : x = 0 ∨ x = 1) : zpZ ((g, mi, ml) : zH) 3 203 k x K = K (g, zu mi 203 k x, ml) := q_pZ (Sy_f hs (0, 203, 0, 3) rfl) hx
theorem S_ck203 {X : Option ρ} (hs : Sy g) : zck ((g, mi, ml) : zH) 3 203 X = X := q_ck (Sy_f hs (0, 203, 0, 3) rfl)
theorem S_aI205 {K : Int32 → Option ρ} {j : Nat} (hs : Sy g) (hj : j < 17) : zaI ((g, mi, ml) : zH) 21 205 (nI j) K = K (mi 205 j) := q_aI (Sy_f hs (0, 205, 0, 21) rfl) (Sy_f hs (1, 205, 0, 17) rfl) (by decide) hj
theorem S_ln205 {K : Int32 → Option ρ} (hs : Sy g) : zln' ((g, mi, ml) : zH) 21 205 K = K (nI 17) := q_ln (Sy_f hs (0, 205, 0, 21) rfl) (Sy_f hs (1, 205, 0, 17) rfl)
theorem S_eI205 {K : zH → Option ρ} {x : Int32} {j : Nat} (hs : Sy g) (hj : j < 17) : zeI ((g, mi, ml) : zH) 205 (nI j) x K = K (g, zu mi 205 j x, ml) := q_eI (Sy_f hs (0, 205, 0, 21) rfl) (Sy_f hs (1, 205, 0, 17) rfl) (by decide) hj
theorem S_gI376 {K : Int32 → Option ρ} (hs : Sy g) : zgI ((g, mi, ml) : zH) 4 376 k K = K (mi 376 k) := q_gI (Sy_f hs (0, 376, 0, 4) rfl)
theorem S_pI376 {K : zH → Option ρ} {x : Int32} (hs : Sy g) : zpI ((g, mi, ml) : zH) 4 376 k x K = K (g, zu mi 376 k x, ml) := q_pI (Sy_f hs (0, 376, 0, 4) rfl)
theorem S_pZ376 {K : zH → Option ρ} {x : Int32} (hs : Sy g) (hx : x = 0 ∨ x = 1) : zpZ ((g, mi, ml) : zH) 4 376 k x K = K (g, zu mi 376 k x, ml) := q_pZ (Sy_f hs (0, 376, 0, 4) rfl) hx
theorem S_ck376 {X : Option ρ} (hs : Sy g) : zck ((g, mi, ml) : zH) 4 376 X = X := q_ck (Sy_f hs (0, 376, 0, 4) rfl)
theorem S_gI387 {K : Int32 → Option ρ} (hs : Sy g) : zgI ((g, mi, ml) : zH) 2 387 k K = K (mi 387 k) := q_gI (Sy_f hs (0, 387, 0, 2) rfl)
theorem S_pI387 {K : zH → Option ρ} {x : Int32} (hs : Sy g) : zpI ((g, mi, ml) : zH) 2 387 k x K = K (g, zu mi 387 k x, ml) := q_pI (Sy_f hs (0, 387, 0, 2) rfl)
theorem S_pZ387 {K : zH → Option ρ} {x : Int32} (hs : Sy g) (hx : x = 0 ∨ x = 1) : zpZ ((g, mi, ml) : zH) 2 387 k x K = K (g, zu mi 387 k x, ml) := q_pZ (Sy_f hs (0, 387, 0, 2) rfl) hx
theorem S_ck387 {X : Option ρ} (hs : Sy g) : zck ((g, mi, ml) : zH) 2 387 X = X := q_ck (Sy_f hs (0, 387, 0, 2) rfl)
theorem S_aI388 {K : Int32 → Option ρ} {j : Nat} (hs : Sy g) (hj : j < 6) : zaI ((g, mi, ml) : zH) 21 388 (nI j) K = K (mi 388 j) := q_aI (Sy_f hs (0, 388, 0, 21) rfl) (Sy_f hs (1, 388, 0, 6) rfl) (by decide) hj
theorem S_ln388 {K : Int32 → Option ρ} (hs : Sy g) : zln' ((g, mi, ml) : zH) 21 388 K = K (nI 6) := q_ln (Sy_f hs (0, 388, 0, 21) rfl) (Sy_f hs (1, 388, 0, 6) rfl)
theorem S_eI388 {K : zH → Option ρ} {x : Int32} {j : Nat} (hs : Sy g) (hj : j < 6) : zeI ((g, mi, ml) : zH) 388 (nI j) x K = K (g, zu mi 388 j x, ml) := q_eI (Sy_f hs (0, 388, 0, 21) rfl) (Sy_f hs (1, 388, 0, 6) rfl) (by decide) hj
theorem S_aI389 {K : Int32 → Option ρ} {j : Nat} (hs : Sy g) (hj : j < 6) : zaI ((g, mi, ml) : zH) 21 389 (nI j) K = K (mi 389 j) := q_aI (Sy_f hs (0, 389, 0, 21) rfl) (Sy_f hs (1, 389, 0, 6) rfl) (by decide) hj
theorem S_ln389 {K : Int32 → Option ρ} (hs : Sy g) : zln' ((g, mi, ml) : zH) 21 389 K = K (nI 6) := q_ln (Sy_f hs (0, 389, 0, 21) rfl) (Sy_f hs (1, 389, 0, 6) rfl)
theorem S_eI389 {K : zH → Option ρ} {x : Int32} {j : Nat} (hs : Sy g) (hj : j < 6) : zeI ((g, mi, ml) : zH) 389 (nI j) x K = K (g, zu mi 389 j x, ml) := q_eI (Sy_f hs (0, 389, 0, 21) rfl) (Sy_f hs (1, 389, 0, 6) rfl) (by decide) hj
theorem S_gI390 {K : Int32 → Option ρ} (hs : Sy g) : zgI ((g, mi, ml) : zH) 7 390 k K = K (mi 390 k) := q_gI (Sy_f hs (0, 390, 0, 7) rfl)
theorem S_pI390 {K : zH → Option ρ} {x : Int32} (hs : Sy g) : zpI ((g, mi, ml) : zH) 7 390 k x K = K (g, zu mi 390 k x, ml) := q_pI (Sy_f hs (0, 390, 0, 7) rfl)
theorem S_pZ390 {K : zH → Option ρ} {x : Int32} (hs : Sy g) (hx : x = 0 ∨ x = 1) : zpZ ((g, mi, ml) : zH) 7 390 k x K = K (g, zu mi 390 k x, ml) := q_pZ (Sy_f hs (0, 390, 0, 7) rfl) hx
theorem S_ck390 {X : Option ρ} (hs : Sy g) : zck ((g, mi, ml) : zH) 7 390 X = X := q_ck (Sy_f hs (0, 390, 0, 7) rfl)
theorem S_gI392 {K : Int32 → Option ρ} (hs : Sy g) : zgI ((g, mi, ml) : zH) 4 392 k K = K (mi 392 k) := q_gI (Sy_f hs (0, 392, 0, 4) rfl)
theorem S_pI392 {K : zH → Option ρ} {x : Int32} (hs : Sy g) : zpI ((g, mi, ml) : zH) 4 392 k x K = K (g, zu mi 392 k x, ml) := q_pI (Sy_f hs (0, 392, 0, 4) rfl)
theorem S_pZ392 {K : zH → Option ρ} {x : Int32} (hs : Sy g) (hx : x = 0 ∨ x = 1) : zpZ ((g, mi, ml) : zH) 4 392 k x K = K (g, zu mi 392 k x, ml) := q_pZ (Sy_f hs (0, 392, 0, 4) rfl) hx
theorem S_ck392 {X : Option ρ} (hs : Sy g) : zck ((g, mi, ml) : zH) 4 392 X = X := q_ck (Sy_f hs (0, 392, 0, 4) rfl)
theorem S_gI403 {K : Int32 → Option ρ} (hs : Sy g) : zgI ((g, mi, ml) : zH) 2 403 k K = K (mi 403 k) := q_gI (Sy_f hs (0, 403, 0, 2) rfl)
theorem S_pI403 {K : zH → Option ρ} {x : Int32} (hs : Sy g) : zpI ((g, mi, ml) : zH) 2 403 k x K = K (g, zu mi 403 k x, ml) := q_pI (Sy_f hs (0, 403, 0, 2) rfl)
theorem S_pZ403 {K : zH → Option ρ} {x : Int32} (hs : Sy g) (hx : x = 0 ∨ x = 1) : zpZ ((g, mi, ml) : zH) 2 403 k x K = K (g, zu mi 403 k x, ml) := q_pZ (Sy_f hs (0, 403, 0, 2) rfl) hx
theorem S_ck403 {X : Option ρ} (hs : Sy g) : zck ((g, mi, ml) : zH) 2 403 X = X := q_ck (Sy_f hs (0, 403, 0, 2) rfl)
theorem S_aI404 {K : Int32 → Option ρ} {j : Nat} (hs : Sy g) (hj : j < 6) : zaI ((g, mi, ml) : zH) 21 404 (nI j) K = K (mi 404 j) := q_aI (Sy_f hs (0, 404, 0, 21) rfl) (Sy_f hs (1, 404, 0, 6) rfl) (by decide) hj
theorem S_ln404 {K : Int32 → Option ρ} (hs : Sy g) : zln' ((g, mi, ml) : zH) 21 404 K = K (nI 6) := q_ln (Sy_f hs (0, 404, 0, 21) rfl) (Sy_f hs (1, 404, 0, 6) rfl)
theorem S_eI404 {K : zH → Option ρ} {x : Int32} {j : Nat} (hs : Sy g) (hj : j < 6) : zeI ((g, mi, ml) : zH) 404 (nI j) x K = K (g, zu mi 404 j x, ml) := q_eI (Sy_f hs (0, 404, 0, 21) rfl) (Sy_f hs (1, 404, 0, 6) rfl) (by decide) hj
theorem S_aI405 {K : Int32 → Option ρ} {j : Nat} (hs : Sy g) (hj : j < 6) : zaI ((g, mi, ml) : zH) 21 405 (nI j) K = K (mi 405 j) := q_aI (Sy_f hs (0, 405, 0, 21) rfl) (Sy_f hs (1, 405, 0, 6) rfl) (by decide) hj
theorem S_ln405 {K : Int32 → Option ρ} (hs : Sy g) : zln' ((g, mi, ml) : zH) 21 405 K = K (nI 6) := q_ln (Sy_f hs (0, 405, 0, 21) rfl) (Sy_f hs (1, 405, 0, 6) rfl)
theorem S_eI405 {K : zH → Option ρ} {x : Int32} {j : Nat} (hs : Sy g) (hj : j < 6) : zeI ((g, mi, ml) : zH) 405 (nI j) x K = K (g, zu mi 405 j x, ml) := q_eI (Sy_f hs (0, 405, 0, 21) rfl) (Sy_f hs (1, 405, 0, 6) rfl) (by decide) hj
theorem S_gI406 {K : Int32 → Option ρ} (hs : Sy g) : zgI ((g, mi, ml) : zH) 7 406 k K = K (mi 406 k) := q_gI (Sy_f hs (0, 406, 0, 7) rfl)
theorem S_pI406 {K : zH → Option ρ} {x : Int32} (hs : Sy g) : zpI ((g, mi, ml) : zH) 7 406 k x K = K (g, zu mi 406 k x, ml) := q_pI (Sy_f hs (0, 406, 0, 7) rfl)
theorem S_pZ406 {K : zH → Option ρ} {x : Int32} (hs : Sy g) (hx : x = 0 ∨ x = 1) : zpZ ((g, mi, ml) : zH) 7 406 k x K = K (g, zu mi 406 k x, ml) := q_pZ (Sy_f hs (0, 406, 0, 7) rfl) hx
theorem S_ck406 {X : Option ρ} (hs : Sy g) : zck ((g, mi, ml) : zH) 7 406 X = X := q_ck (Sy_f hs (0, 406, 0, 7) rfl)
theorem S_gI408 {K : Int32 → Option ρ} (hs : Sy g) : zgI ((g, mi, ml) : zH) 8 408 k K = K (mi 408 k) := q_gI (Sy_f hs (0, 408, 0, 8) rfl)
theorem S_pI408 {K : zH → Option ρ} {x : Int32} (hs : Sy g) : zpI ((g, mi, ml) : zH) 8 408 k x K = K (g, zu mi 408 k x, ml) := q_pI (Sy_f hs (0, 408, 0, 8) rfl)
theorem S_pZ408 {K : zH → Option ρ} {x : Int32} (hs : Sy g) (hx : x = 0 ∨ x = 1) : zpZ ((g, mi, ml) : zH) 8 408 k x K = K (g, zu mi 408 k x, ml) := q_pZ (Sy_f hs (0, 408, 0, 8) rfl) hx
theorem S_ck408 {X : Option ρ} (hs : Sy g) : zck ((g, mi, ml) : zH) 8 408 X = X := q_ck (Sy_f hs (0, 408, 0, 8) rfl)
theorem S_aI409 {K : Int32 → Option ρ} {j : Nat} (hs : Sy g) (hj : j < 400) : zaI ((g, mi, ml) : zH) 21 409 (nI j) K = K (mi 409 j) := q_aI (Sy_f hs (0, 409, 0, 21) rfl) (Sy_f hs (1, 409, 0, 400) rfl) (by decide) hj
theorem S_ln409 {K : Int32 → Option ρ} (hs : Sy g) : zln' ((g, mi, ml) : zH) 21 409 K = K (nI 400) := q_ln (Sy_f hs (0, 409, 0, 21) rfl) (Sy_f hs (1, 409, 0, 400) rfl)
theorem S_eI409 {K : zH → Option ρ} {x : Int32} {j : Nat} (hs : Sy g) (hj : j < 400) : zeI ((g, mi, ml) : zH) 409 (nI j) x K = K (g, zu mi 409 j x, ml) := q_eI (Sy_f hs (0, 409, 0, 21) rfl) (Sy_f hs (1, 409, 0, 400) rfl) (by decide) hj
theorem S_gI410 {K : Int32 → Option ρ} (hs : Sy g) : zgI ((g, mi, ml) : zH) 6 410 k K = K (mi 410 k) := q_gI (Sy_f hs (0, 410, 0, 6) rfl)
theorem S_pI410 {K : zH → Option ρ} {x : Int32} (hs : Sy g) : zpI ((g, mi, ml) : zH) 6 410 k x K = K (g, zu mi 410 k x, ml) := q_pI (Sy_f hs (0, 410, 0, 6) rfl)
theorem S_pZ410 {K : zH → Option ρ} {x : Int32} (hs : Sy g) (hx : x = 0 ∨ x = 1) : zpZ ((g, mi, ml) : zH) 6 410 k x K = K (g, zu mi 410 k x, ml) := q_pZ (Sy_f hs (0, 410, 0, 6) rfl) hx
theorem S_ck410 {X : Option ρ} (hs : Sy g) : zck ((g, mi, ml) : zH) 6 410 X = X := q_ck (Sy_f hs (0, 410, 0, 6) rfl)
theorem S_gI411 {K : Int32 → Option ρ} (hs : Sy g) : zgI ((g, mi, ml) : zH) 9 411 k K = K (mi 411 k) := q_gI (Sy_f hs (0, 411, 0, 9) rfl)
theorem S_pI411 {K : zH → Option ρ} {x : Int32} (hs : Sy g) : zpI ((g, mi, ml) : zH) 9 411 k x K = K (g, zu mi 411 k x, ml) := q_pI (Sy_f hs (0, 411, 0, 9) rfl)
theorem S_pZ411 {K : zH → Option ρ} {x : Int32} (hs : Sy g) (hx : x = 0 ∨ x = 1) : zpZ ((g, mi, ml) : zH) 9 411 k x K = K (g, zu mi 411 k x, ml) := q_pZ (Sy_f hs (0, 411, 0, 9) rfl) hx
theorem S_ck411 {X : Option ρ} (hs : Sy g) : zck ((g, mi, ml) : zH) 9 411 X = X := q_ck (Sy_f hs (0, 411, 0, 9) rfl)
theorem S_aI412 {K : Int32 → Option ρ} {j : Nat} (hs : Sy g) (hj : j < 400) : zaI ((g, mi, ml) : zH) 21 412 (nI j) K = K (mi 412 j) := q_aI (Sy_f hs (0, 412, 0, 21) rfl) (Sy_f hs (1, 412, 0, 400) rfl) (by decide) hj
theorem S_ln412 {K : Int32 → Option ρ} (hs : Sy g) : zln' ((g, mi, ml) : zH) 21 412 K = K (nI 400) := q_ln (Sy_f hs (0, 412, 0, 21) rfl) (Sy_f hs (1, 412, 0, 400) rfl)
theorem S_eI412 {K : zH → Option ρ} {x : Int32} {j : Nat} (hs : Sy g) (hj : j < 400) : zeI ((g, mi, ml) : zH) 412 (nI j) x K = K (g, zu mi 412 j x, ml) := q_eI (Sy_f hs (0, 412, 0, 21) rfl) (Sy_f hs (1, 412, 0, 400) rfl) (by decide) hj
theorem S_aI413 {K : Int32 → Option ρ} {j : Nat} (hs : Sy g) (hj : j < 400) : zaI ((g, mi, ml) : zH) 21 413 (nI j) K = K (mi 413 j) := q_aI (Sy_f hs (0, 413, 0, 21) rfl) (Sy_f hs (1, 413, 0, 400) rfl) (by decide) hj
theorem S_ln413 {K : Int32 → Option ρ} (hs : Sy g) : zln' ((g, mi, ml) : zH) 21 413 K = K (nI 400) := q_ln (Sy_f hs (0, 413, 0, 21) rfl) (Sy_f hs (1, 413, 0, 400) rfl)
theorem S_eI413 {K : zH → Option ρ} {x : Int32} {j : Nat} (hs : Sy g) (hj : j < 400) : zeI ((g, mi, ml) : zH) 413 (nI j) x K = K (g, zu mi 413 j x, ml) := q_eI (Sy_f hs (0, 413, 0, 21) rfl) (Sy_f hs (1, 413, 0, 400) rfl) (by decide) hj
theorem S_aI414 {K : Int32 → Option ρ} {j : Nat} (hs : Sy g) (hj : j < 60) : zaI ((g, mi, ml) : zH) 21 414 (nI j) K = K (mi 414 j) := q_aI (Sy_f hs (0, 414, 0, 21) rfl) (Sy_f hs (1, 414, 0, 60) rfl) (by decide) hj
theorem S_ln414 {K : Int32 → Option ρ} (hs : Sy g) : zln' ((g, mi, ml) : zH) 21 414 K = K (nI 60) := q_ln (Sy_f hs (0, 414, 0, 21) rfl) (Sy_f hs (1, 414, 0, 60) rfl)
theorem S_eI414 {K : zH → Option ρ} {x : Int32} {j : Nat} (hs : Sy g) (hj : j < 60) : zeI ((g, mi, ml) : zH) 414 (nI j) x K = K (g, zu mi 414 j x, ml) := q_eI (Sy_f hs (0, 414, 0, 21) rfl) (Sy_f hs (1, 414, 0, 60) rfl) (by decide) hj
theorem S_gI415 {K : Int32 → Option ρ} (hs : Sy g) : zgI ((g, mi, ml) : zH) 10 415 k K = K (mi 415 k) := q_gI (Sy_f hs (0, 415, 0, 10) rfl)
theorem S_pI415 {K : zH → Option ρ} {x : Int32} (hs : Sy g) : zpI ((g, mi, ml) : zH) 10 415 k x K = K (g, zu mi 415 k x, ml) := q_pI (Sy_f hs (0, 415, 0, 10) rfl)
theorem S_pZ415 {K : zH → Option ρ} {x : Int32} (hs : Sy g) (hx : x = 0 ∨ x = 1) : zpZ ((g, mi, ml) : zH) 10 415 k x K = K (g, zu mi 415 k x, ml) := q_pZ (Sy_f hs (0, 415, 0, 10) rfl) hx
theorem S_ck415 {X : Option ρ} (hs : Sy g) : zck ((g, mi, ml) : zH) 10 415 X = X := q_ck (Sy_f hs (0, 415, 0, 10) rfl)
theorem S_aI416 {K : Int32 → Option ρ} {j : Nat} (hs : Sy g) (hj : j < 401) : zaI ((g, mi, ml) : zH) 21 416 (nI j) K = K (mi 416 j) := q_aI (Sy_f hs (0, 416, 0, 21) rfl) (Sy_f hs (1, 416, 0, 401) rfl) (by decide) hj
theorem S_ln416 {K : Int32 → Option ρ} (hs : Sy g) : zln' ((g, mi, ml) : zH) 21 416 K = K (nI 401) := q_ln (Sy_f hs (0, 416, 0, 21) rfl) (Sy_f hs (1, 416, 0, 401) rfl)
theorem S_eI416 {K : zH → Option ρ} {x : Int32} {j : Nat} (hs : Sy g) (hj : j < 401) : zeI ((g, mi, ml) : zH) 416 (nI j) x K = K (g, zu mi 416 j x, ml) := q_eI (Sy_f hs (0, 416, 0, 21) rfl) (Sy_f hs (1, 416, 0, 401) rfl) (by decide) hj
theorem S_aI417 {K : Int32 → Option ρ} {j : Nat} (hs : Sy g) (hj : j < 401) : zaI ((g, mi, ml) : zH) 21 417 (nI j) K = K (mi 417 j) := q_aI (Sy_f hs (0, 417, 0, 21) rfl) (Sy_f hs (1, 417, 0, 401) rfl) (by decide) hj
theorem S_ln417 {K : Int32 → Option ρ} (hs : Sy g) : zln' ((g, mi, ml) : zH) 21 417 K = K (nI 401) := q_ln (Sy_f hs (0, 417, 0, 21) rfl) (Sy_f hs (1, 417, 0, 401) rfl)
theorem S_eI417 {K : zH → Option ρ} {x : Int32} {j : Nat} (hs : Sy g) (hj : j < 401) : zeI ((g, mi, ml) : zH) 417 (nI j) x K = K (g, zu mi 417 j x, ml) := q_eI (Sy_f hs (0, 417, 0, 21) rfl) (Sy_f hs (1, 417, 0, 401) rfl) (by decide) hj
theorem S_aI418 {K : Int32 → Option ρ} {j : Nat} (hs : Sy g) (hj : j < 401) : zaI ((g, mi, ml) : zH) 21 418 (nI j) K = K (mi 418 j) := q_aI (Sy_f hs (0, 418, 0, 21) rfl) (Sy_f hs (1, 418, 0, 401) rfl) (by decide) hj
theorem S_ln418 {K : Int32 → Option ρ} (hs : Sy g) : zln' ((g, mi, ml) : zH) 21 418 K = K (nI 401) := q_ln (Sy_f hs (0, 418, 0, 21) rfl) (Sy_f hs (1, 418, 0, 401) rfl)
theorem S_eI418 {K : zH → Option ρ} {x : Int32} {j : Nat} (hs : Sy g) (hj : j < 401) : zeI ((g, mi, ml) : zH) 418 (nI j) x K = K (g, zu mi 418 j x, ml) := q_eI (Sy_f hs (0, 418, 0, 21) rfl) (Sy_f hs (1, 418, 0, 401) rfl) (by decide) hj
theorem S_aI419 {K : Int32 → Option ρ} {j : Nat} (hs : Sy g) (hj : j < 5) : zaI ((g, mi, ml) : zH) 21 419 (nI j) K = K (mi 419 j) := q_aI (Sy_f hs (0, 419, 0, 21) rfl) (Sy_f hs (1, 419, 0, 5) rfl) (by decide) hj
theorem S_ln419 {K : Int32 → Option ρ} (hs : Sy g) : zln' ((g, mi, ml) : zH) 21 419 K = K (nI 5) := q_ln (Sy_f hs (0, 419, 0, 21) rfl) (Sy_f hs (1, 419, 0, 5) rfl)
theorem S_eI419 {K : zH → Option ρ} {x : Int32} {j : Nat} (hs : Sy g) (hj : j < 5) : zeI ((g, mi, ml) : zH) 419 (nI j) x K = K (g, zu mi 419 j x, ml) := q_eI (Sy_f hs (0, 419, 0, 21) rfl) (Sy_f hs (1, 419, 0, 5) rfl) (by decide) hj
theorem S_aI420 {K : Int32 → Option ρ} {j : Nat} (hs : Sy g) (hj : j < 24) : zaI ((g, mi, ml) : zH) 21 420 (nI j) K = K (mi 420 j) := q_aI (Sy_f hs (0, 420, 0, 21) rfl) (Sy_f hs (1, 420, 0, 24) rfl) (by decide) hj
theorem S_ln420 {K : Int32 → Option ρ} (hs : Sy g) : zln' ((g, mi, ml) : zH) 21 420 K = K (nI 24) := q_ln (Sy_f hs (0, 420, 0, 21) rfl) (Sy_f hs (1, 420, 0, 24) rfl)
theorem S_eI420 {K : zH → Option ρ} {x : Int32} {j : Nat} (hs : Sy g) (hj : j < 24) : zeI ((g, mi, ml) : zH) 420 (nI j) x K = K (g, zu mi 420 j x, ml) := q_eI (Sy_f hs (0, 420, 0, 21) rfl) (Sy_f hs (1, 420, 0, 24) rfl) (by decide) hj
theorem S_aL421 {K : Int64 → Option ρ} {j : Nat} (hs : Sy g) (hj : j < 20) : zaL ((g, mi, ml) : zH) 421 (nI j) K = K (ml 421 j) := q_aL (Sy_f hs (0, 421, 0, 22) rfl) (Sy_f hs (1, 421, 0, 20) rfl) (by decide) hj
theorem S_eL421 {K : zH → Option ρ} {x : Int64} {j : Nat} (hs : Sy g) (hj : j < 20) : zeL ((g, mi, ml) : zH) 421 (nI j) x K = K (g, mi, zu ml 421 j x) := q_eL (Sy_f hs (0, 421, 0, 22) rfl) (Sy_f hs (1, 421, 0, 20) rfl) (by decide) hj
theorem S_gI422 {K : Int32 → Option ρ} (hs : Sy g) : zgI ((g, mi, ml) : zH) 13 422 k K = K (mi 422 k) := q_gI (Sy_f hs (0, 422, 0, 13) rfl)
theorem S_pI422 {K : zH → Option ρ} {x : Int32} (hs : Sy g) : zpI ((g, mi, ml) : zH) 13 422 k x K = K (g, zu mi 422 k x, ml) := q_pI (Sy_f hs (0, 422, 0, 13) rfl)
theorem S_pZ422 {K : zH → Option ρ} {x : Int32} (hs : Sy g) (hx : x = 0 ∨ x = 1) : zpZ ((g, mi, ml) : zH) 13 422 k x K = K (g, zu mi 422 k x, ml) := q_pZ (Sy_f hs (0, 422, 0, 13) rfl) hx
theorem S_ck422 {X : Option ρ} (hs : Sy g) : zck ((g, mi, ml) : zH) 13 422 X = X := q_ck (Sy_f hs (0, 422, 0, 13) rfl)
theorem S_aI423 {K : Int32 → Option ρ} {j : Nat} (hs : Sy g) (hj : j < 7) : zaI ((g, mi, ml) : zH) 21 423 (nI j) K = K (mi 423 j) := q_aI (Sy_f hs (0, 423, 0, 21) rfl) (Sy_f hs (1, 423, 0, 7) rfl) (by decide) hj
theorem S_ln423 {K : Int32 → Option ρ} (hs : Sy g) : zln' ((g, mi, ml) : zH) 21 423 K = K (nI 7) := q_ln (Sy_f hs (0, 423, 0, 21) rfl) (Sy_f hs (1, 423, 0, 7) rfl)
theorem S_eI423 {K : zH → Option ρ} {x : Int32} {j : Nat} (hs : Sy g) (hj : j < 7) : zeI ((g, mi, ml) : zH) 423 (nI j) x K = K (g, zu mi 423 j x, ml) := q_eI (Sy_f hs (0, 423, 0, 21) rfl) (Sy_f hs (1, 423, 0, 7) rfl) (by decide) hj
theorem S_aI424 {K : Int32 → Option ρ} {j : Nat} (hs : Sy g) (hj : j < 5815) : zaI ((g, mi, ml) : zH) 21 424 (nI j) K = K (mi 424 j) := q_aI (Sy_f hs (0, 424, 0, 21) rfl) (Sy_f hs (1, 424, 0, 5815) rfl) (by decide) hj
theorem S_ln424 {K : Int32 → Option ρ} (hs : Sy g) : zln' ((g, mi, ml) : zH) 21 424 K = K (nI 5815) := q_ln (Sy_f hs (0, 424, 0, 21) rfl) (Sy_f hs (1, 424, 0, 5815) rfl)
theorem S_eI424 {K : zH → Option ρ} {x : Int32} {j : Nat} (hs : Sy g) (hj : j < 5815) : zeI ((g, mi, ml) : zH) 424 (nI j) x K = K (g, zu mi 424 j x, ml) := q_eI (Sy_f hs (0, 424, 0, 21) rfl) (Sy_f hs (1, 424, 0, 5815) rfl) (by decide) hj
theorem S_aI425 {K : Int32 → Option ρ} {j : Nat} (hs : Sy g) (hj : j < 11630) : zaI ((g, mi, ml) : zH) 21 425 (nI j) K = K (mi 425 j) := q_aI (Sy_f hs (0, 425, 0, 21) rfl) (Sy_f hs (1, 425, 0, 11630) rfl) (by decide) hj
theorem S_ln425 {K : Int32 → Option ρ} (hs : Sy g) : zln' ((g, mi, ml) : zH) 21 425 K = K (nI 11630) := q_ln (Sy_f hs (0, 425, 0, 21) rfl) (Sy_f hs (1, 425, 0, 11630) rfl)
theorem S_eI425 {K : zH → Option ρ} {x : Int32} {j : Nat} (hs : Sy g) (hj : j < 11630) : zeI ((g, mi, ml) : zH) 425 (nI j) x K = K (g, zu mi 425 j x, ml) := q_eI (Sy_f hs (0, 425, 0, 21) rfl) (Sy_f hs (1, 425, 0, 11630) rfl) (by decide) hj
theorem S_aI426 {K : Int32 → Option ρ} {j : Nat} (hs : Sy g) (hj : j < 2) : zaI ((g, mi, ml) : zH) 24 426 (nI j) K = K (mi 426 j) := q_aI (Sy_f hs (0, 426, 0, 24) rfl) (Sy_f hs (1, 426, 0, 2) rfl) (by decide) hj
theorem S_ln426 {K : Int32 → Option ρ} (hs : Sy g) : zln' ((g, mi, ml) : zH) 24 426 K = K (nI 2) := q_ln (Sy_f hs (0, 426, 0, 24) rfl) (Sy_f hs (1, 426, 0, 2) rfl)
theorem S_eZ426 {K : zH → Option ρ} {x : Int32} {j : Nat} (hs : Sy g) (hx : x = 0 ∨ x = 1) (hj : j < 2) : zeZ ((g, mi, ml) : zH) 426 (nI j) x K = K (g, zu mi 426 j x, ml) := q_eZ hx (Sy_f hs (0, 426, 0, 24) rfl) (Sy_f hs (1, 426, 0, 2) rfl) (by decide) hj
theorem S_aI427 {K : Int32 → Option ρ} {j : Nat} (hs : Sy g) (hj : j < 573) : zaI ((g, mi, ml) : zH) 21 427 (nI j) K = K (mi 427 j) := q_aI (Sy_f hs (0, 427, 0, 21) rfl) (Sy_f hs (1, 427, 0, 573) rfl) (by decide) hj
theorem S_ln427 {K : Int32 → Option ρ} (hs : Sy g) : zln' ((g, mi, ml) : zH) 21 427 K = K (nI 573) := q_ln (Sy_f hs (0, 427, 0, 21) rfl) (Sy_f hs (1, 427, 0, 573) rfl)
theorem S_eI427 {K : zH → Option ρ} {x : Int32} {j : Nat} (hs : Sy g) (hj : j < 573) : zeI ((g, mi, ml) : zH) 427 (nI j) x K = K (g, zu mi 427 j x, ml) := q_eI (Sy_f hs (0, 427, 0, 21) rfl) (Sy_f hs (1, 427, 0, 573) rfl) (by decide) hj
theorem S_aI428 {K : Int32 → Option ρ} {j : Nat} (hs : Sy g) (hj : j < 146) : zaI ((g, mi, ml) : zH) 23 428 (nI j) K = K (mi 428 j) := q_aI (Sy_f hs (0, 428, 0, 23) rfl) (Sy_f hs (1, 428, 0, 146) rfl) (by decide) hj
theorem S_ln428 {K : Int32 → Option ρ} (hs : Sy g) : zln' ((g, mi, ml) : zH) 23 428 K = K (nI 146) := q_ln (Sy_f hs (0, 428, 0, 23) rfl) (Sy_f hs (1, 428, 0, 146) rfl)
theorem S_eB428 {K : zH → Option ρ} {x : Int32} {j : Nat} (hs : Sy g) (hj : j < 146) : zeB ((g, mi, ml) : zH) 428 (nI j) x K = K (g, zu mi 428 j x.toInt8.toInt32, ml) := q_eB (Sy_f hs (0, 428, 0, 23) rfl) (Sy_f hs (1, 428, 0, 146) rfl) (by decide) hj
theorem S_aI429 {K : Int32 → Option ρ} {j : Nat} (hs : Sy g) (hj : j < 400) : zaI ((g, mi, ml) : zH) 23 429 (nI j) K = K (mi 429 j) := q_aI (Sy_f hs (0, 429, 0, 23) rfl) (Sy_f hs (1, 429, 0, 400) rfl) (by decide) hj
theorem S_ln429 {K : Int32 → Option ρ} (hs : Sy g) : zln' ((g, mi, ml) : zH) 23 429 K = K (nI 400) := q_ln (Sy_f hs (0, 429, 0, 23) rfl) (Sy_f hs (1, 429, 0, 400) rfl)
theorem S_eB429 {K : zH → Option ρ} {x : Int32} {j : Nat} (hs : Sy g) (hj : j < 400) : zeB ((g, mi, ml) : zH) 429 (nI j) x K = K (g, zu mi 429 j x.toInt8.toInt32, ml) := q_eB (Sy_f hs (0, 429, 0, 23) rfl) (Sy_f hs (1, 429, 0, 400) rfl) (by decide) hj
theorem S_aI430 {K : Int32 → Option ρ} {j : Nat} (hs : Sy g) (hj : j < 5) : zaI ((g, mi, ml) : zH) 21 430 (nI j) K = K (mi 430 j) := q_aI (Sy_f hs (0, 430, 0, 21) rfl) (Sy_f hs (1, 430, 0, 5) rfl) (by decide) hj
theorem S_ln430 {K : Int32 → Option ρ} (hs : Sy g) : zln' ((g, mi, ml) : zH) 21 430 K = K (nI 5) := q_ln (Sy_f hs (0, 430, 0, 21) rfl) (Sy_f hs (1, 430, 0, 5) rfl)
theorem S_eI430 {K : zH → Option ρ} {x : Int32} {j : Nat} (hs : Sy g) (hj : j < 5) : zeI ((g, mi, ml) : zH) 430 (nI j) x K = K (g, zu mi 430 j x, ml) := q_eI (Sy_f hs (0, 430, 0, 21) rfl) (Sy_f hs (1, 430, 0, 5) rfl) (by decide) hj
theorem S_aI431 {K : Int32 → Option ρ} {j : Nat} (hs : Sy g) (hj : j < 401) : zaI ((g, mi, ml) : zH) 21 431 (nI j) K = K (mi 431 j) := q_aI (Sy_f hs (0, 431, 0, 21) rfl) (Sy_f hs (1, 431, 0, 401) rfl) (by decide) hj
theorem S_ln431 {K : Int32 → Option ρ} (hs : Sy g) : zln' ((g, mi, ml) : zH) 21 431 K = K (nI 401) := q_ln (Sy_f hs (0, 431, 0, 21) rfl) (Sy_f hs (1, 431, 0, 401) rfl)
theorem S_eI431 {K : zH → Option ρ} {x : Int32} {j : Nat} (hs : Sy g) (hj : j < 401) : zeI ((g, mi, ml) : zH) 431 (nI j) x K = K (g, zu mi 431 j x, ml) := q_eI (Sy_f hs (0, 431, 0, 21) rfl) (Sy_f hs (1, 431, 0, 401) rfl) (by decide) hj
theorem S_aI432 {K : Int32 → Option ρ} {j : Nat} (hs : Sy g) (hj : j < 401) : zaI ((g, mi, ml) : zH) 21 432 (nI j) K = K (mi 432 j) := q_aI (Sy_f hs (0, 432, 0, 21) rfl) (Sy_f hs (1, 432, 0, 401) rfl) (by decide) hj
theorem S_ln432 {K : Int32 → Option ρ} (hs : Sy g) : zln' ((g, mi, ml) : zH) 21 432 K = K (nI 401) := q_ln (Sy_f hs (0, 432, 0, 21) rfl) (Sy_f hs (1, 432, 0, 401) rfl)
theorem S_eI432 {K : zH → Option ρ} {x : Int32} {j : Nat} (hs : Sy g) (hj : j < 401) : zeI ((g, mi, ml) : zH) 432 (nI j) x K = K (g, zu mi 432 j x, ml) := q_eI (Sy_f hs (0, 432, 0, 21) rfl) (Sy_f hs (1, 432, 0, 401) rfl) (by decide) hj
theorem S_aI433 {K : Int32 → Option ρ} {j : Nat} (hs : Sy g) (hj : j < 401) : zaI ((g, mi, ml) : zH) 21 433 (nI j) K = K (mi 433 j) := q_aI (Sy_f hs (0, 433, 0, 21) rfl) (Sy_f hs (1, 433, 0, 401) rfl) (by decide) hj
theorem S_ln433 {K : Int32 → Option ρ} (hs : Sy g) : zln' ((g, mi, ml) : zH) 21 433 K = K (nI 401) := q_ln (Sy_f hs (0, 433, 0, 21) rfl) (Sy_f hs (1, 433, 0, 401) rfl)
theorem S_eI433 {K : zH → Option ρ} {x : Int32} {j : Nat} (hs : Sy g) (hj : j < 401) : zeI ((g, mi, ml) : zH) 433 (nI j) x K = K (g, zu mi 433 j x, ml) := q_eI (Sy_f hs (0, 433, 0, 21) rfl) (Sy_f hs (1, 433, 0, 401) rfl) (by decide) hj
theorem S_aI434 {K : Int32 → Option ρ} {j : Nat} (hs : Sy g) (hj : j < 7) : zaI ((g, mi, ml) : zH) 21 434 (nI j) K = K (mi 434 j) := q_aI (Sy_f hs (0, 434, 0, 21) rfl) (Sy_f hs (1, 434, 0, 7) rfl) (by decide) hj
theorem S_ln434 {K : Int32 → Option ρ} (hs : Sy g) : zln' ((g, mi, ml) : zH) 21 434 K = K (nI 7) := q_ln (Sy_f hs (0, 434, 0, 21) rfl) (Sy_f hs (1, 434, 0, 7) rfl)
theorem S_eI434 {K : zH → Option ρ} {x : Int32} {j : Nat} (hs : Sy g) (hj : j < 7) : zeI ((g, mi, ml) : zH) 434 (nI j) x K = K (g, zu mi 434 j x, ml) := q_eI (Sy_f hs (0, 434, 0, 21) rfl) (Sy_f hs (1, 434, 0, 7) rfl) (by decide) hj
theorem S_aI435 {K : Int32 → Option ρ} {j : Nat} (hs : Sy g) (hj : j < 3072) : zaI ((g, mi, ml) : zH) 21 435 (nI j) K = K (mi 435 j) := q_aI (Sy_f hs (0, 435, 0, 21) rfl) (Sy_f hs (1, 435, 0, 3072) rfl) (by decide) hj
theorem S_ln435 {K : Int32 → Option ρ} (hs : Sy g) : zln' ((g, mi, ml) : zH) 21 435 K = K (nI 3072) := q_ln (Sy_f hs (0, 435, 0, 21) rfl) (Sy_f hs (1, 435, 0, 3072) rfl)
theorem S_eI435 {K : zH → Option ρ} {x : Int32} {j : Nat} (hs : Sy g) (hj : j < 3072) : zeI ((g, mi, ml) : zH) 435 (nI j) x K = K (g, zu mi 435 j x, ml) := q_eI (Sy_f hs (0, 435, 0, 21) rfl) (Sy_f hs (1, 435, 0, 3072) rfl) (by decide) hj
theorem S_aI436 {K : Int32 → Option ρ} {j : Nat} (hs : Sy g) (hj : j < 3072) : zaI ((g, mi, ml) : zH) 21 436 (nI j) K = K (mi 436 j) := q_aI (Sy_f hs (0, 436, 0, 21) rfl) (Sy_f hs (1, 436, 0, 3072) rfl) (by decide) hj
theorem S_ln436 {K : Int32 → Option ρ} (hs : Sy g) : zln' ((g, mi, ml) : zH) 21 436 K = K (nI 3072) := q_ln (Sy_f hs (0, 436, 0, 21) rfl) (Sy_f hs (1, 436, 0, 3072) rfl)
theorem S_eI436 {K : zH → Option ρ} {x : Int32} {j : Nat} (hs : Sy g) (hj : j < 3072) : zeI ((g, mi, ml) : zH) 436 (nI j) x K = K (g, zu mi 436 j x, ml) := q_eI (Sy_f hs (0, 436, 0, 21) rfl) (Sy_f hs (1, 436, 0, 3072) rfl) (by decide) hj
theorem S_aL437 {K : Int64 → Option ρ} {j : Nat} (hs : Sy g) (hj : j < 21) : zaL ((g, mi, ml) : zH) 437 (nI j) K = K (ml 437 j) := q_aL (Sy_f hs (0, 437, 0, 22) rfl) (Sy_f hs (1, 437, 0, 21) rfl) (by decide) hj
theorem S_eL437 {K : zH → Option ρ} {x : Int64} {j : Nat} (hs : Sy g) (hj : j < 21) : zeL ((g, mi, ml) : zH) 437 (nI j) x K = K (g, mi, zu ml 437 j x) := q_eL (Sy_f hs (0, 437, 0, 22) rfl) (Sy_f hs (1, 437, 0, 21) rfl) (by decide) hj
theorem S_aL438 {K : Int64 → Option ρ} {j : Nat} (hs : Sy g) (hj : j < 2) : zaL ((g, mi, ml) : zH) 438 (nI j) K = K (ml 438 j) := q_aL (Sy_f hs (0, 438, 0, 22) rfl) (Sy_f hs (1, 438, 0, 2) rfl) (by decide) hj
theorem S_eL438 {K : zH → Option ρ} {x : Int64} {j : Nat} (hs : Sy g) (hj : j < 2) : zeL ((g, mi, ml) : zH) 438 (nI j) x K = K (g, mi, zu ml 438 j x) := q_eL (Sy_f hs (0, 438, 0, 22) rfl) (Sy_f hs (1, 438, 0, 2) rfl) (by decide) hj
theorem S_aI439 {K : Int32 → Option ρ} {j : Nat} (hs : Sy g) (hj : j < 24) : zaI ((g, mi, ml) : zH) 21 439 (nI j) K = K (mi 439 j) := q_aI (Sy_f hs (0, 439, 0, 21) rfl) (Sy_f hs (1, 439, 0, 24) rfl) (by decide) hj
theorem S_ln439 {K : Int32 → Option ρ} (hs : Sy g) : zln' ((g, mi, ml) : zH) 21 439 K = K (nI 24) := q_ln (Sy_f hs (0, 439, 0, 21) rfl) (Sy_f hs (1, 439, 0, 24) rfl)
theorem S_eI439 {K : zH → Option ρ} {x : Int32} {j : Nat} (hs : Sy g) (hj : j < 24) : zeI ((g, mi, ml) : zH) 439 (nI j) x K = K (g, zu mi 439 j x, ml) := q_eI (Sy_f hs (0, 439, 0, 21) rfl) (Sy_f hs (1, 439, 0, 24) rfl) (by decide) hj
theorem S_gR1_0 {K : Nat → Option ρ} (hs : Sy g) : zgR ((g, mi, ml) : zH) 12 1 0 K = K 2 := q_gR (Sy_f hs (0, 1, 0, 12) rfl) (Sy_f hs (2, 1, 0, 2) rfl) (by decide)
theorem S_gR1_1 {K : Nat → Option ρ} (hs : Sy g) : zgR ((g, mi, ml) : zH) 12 1 1 K = K 12 := q_gR (Sy_f hs (0, 1, 0, 12) rfl) (Sy_f hs (2, 1, 1, 12) rfl) (by decide)
theorem S_gR1_2 {K : Nat → Option ρ} (hs : Sy g) : zgR ((g, mi, ml) : zH) 12 1 2 K = K 22 := q_gR (Sy_f hs (0, 1, 0, 12) rfl) (Sy_f hs (2, 1, 2, 22) rfl) (by decide)
theorem S_gR1_3 {K : Nat → Option ρ} (hs : Sy g) : zgR ((g, mi, ml) : zH) 12 1 3 K = K 25 := q_gR (Sy_f hs (0, 1, 0, 12) rfl) (Sy_f hs (2, 1, 3, 25) rfl) (by decide)
theorem S_gR1_4 {K : Nat → Option ρ} (hs : Sy g) : zgR ((g, mi, ml) : zH) 12 1 4 K = K 27 := q_gR (Sy_f hs (0, 1, 0, 12) rfl) (Sy_f hs (2, 1, 4, 27) rfl) (by decide)
theorem S_gR1_5 {K : Nat → Option ρ} (hs : Sy g) : zgR ((g, mi, ml) : zH) 12 1 5 K = K 30 := q_gR (Sy_f hs (0, 1, 0, 12) rfl) (Sy_f hs (2, 1, 5, 30) rfl) (by decide)
theorem S_gR1_6 {K : Nat → Option ρ} (hs : Sy g) : zgR ((g, mi, ml) : zH) 12 1 6 K = K 203 := q_gR (Sy_f hs (0, 1, 0, 12) rfl) (Sy_f hs (2, 1, 6, 203) rfl) (by decide)
theorem S_gR1_7 {K : Nat → Option ρ} (hs : Sy g) : zgR ((g, mi, ml) : zH) 12 1 7 K = K 376 := q_gR (Sy_f hs (0, 1, 0, 12) rfl) (Sy_f hs (2, 1, 7, 376) rfl) (by decide)
theorem S_gR1_8 {K : Nat → Option ρ} (hs : Sy g) : zgR ((g, mi, ml) : zH) 12 1 8 K = K 392 := q_gR (Sy_f hs (0, 1, 0, 12) rfl) (Sy_f hs (2, 1, 8, 392) rfl) (by decide)
theorem S_gR1_9 {K : Nat → Option ρ} (hs : Sy g) : zgR ((g, mi, ml) : zH) 12 1 9 K = K 408 := q_gR (Sy_f hs (0, 1, 0, 12) rfl) (Sy_f hs (2, 1, 9, 408) rfl) (by decide)
theorem S_gR1_10 {K : Nat → Option ρ} (hs : Sy g) : zgR ((g, mi, ml) : zH) 12 1 10 K = K 410 := q_gR (Sy_f hs (0, 1, 0, 12) rfl) (Sy_f hs (2, 1, 10, 410) rfl) (by decide)
theorem S_gR1_11 {K : Nat → Option ρ} (hs : Sy g) : zgR ((g, mi, ml) : zH) 12 1 11 K = K 419 := q_gR (Sy_f hs (0, 1, 0, 12) rfl) (Sy_f hs (2, 1, 11, 419) rfl) (by decide)
theorem S_gR1_12 {K : Nat → Option ρ} (hs : Sy g) : zgR ((g, mi, ml) : zH) 12 1 12 K = K 420 := q_gR (Sy_f hs (0, 1, 0, 12) rfl) (Sy_f hs (2, 1, 12, 420) rfl) (by decide)
theorem S_gR1_13 {K : Nat → Option ρ} (hs : Sy g) : zgR ((g, mi, ml) : zH) 12 1 13 K = K 421 := q_gR (Sy_f hs (0, 1, 0, 12) rfl) (Sy_f hs (2, 1, 13, 421) rfl) (by decide)
theorem S_gR22_0 {K : Nat → Option ρ} (hs : Sy g) : zgR ((g, mi, ml) : zH) 5 22 0 K = K 23 := q_gR (Sy_f hs (0, 22, 0, 5) rfl) (Sy_f hs (2, 22, 0, 23) rfl) (by decide)
theorem S_gR22_1 {K : Nat → Option ρ} (hs : Sy g) : zgR ((g, mi, ml) : zH) 5 22 1 K = K 24 := q_gR (Sy_f hs (0, 22, 0, 5) rfl) (Sy_f hs (2, 22, 1, 24) rfl) (by decide)
theorem S_gR25_0 {K : Nat → Option ρ} (hs : Sy g) : zgR ((g, mi, ml) : zH) 7 25 0 K = K 22 := q_gR (Sy_f hs (0, 25, 0, 7) rfl) (Sy_f hs (2, 25, 0, 22) rfl) (by decide)
theorem S_gR25_1 {K : Nat → Option ρ} (hs : Sy g) : zgR ((g, mi, ml) : zH) 7 25 1 K = K 26 := q_gR (Sy_f hs (0, 25, 0, 7) rfl) (Sy_f hs (2, 25, 1, 26) rfl) (by decide)
theorem S_gR27_0 {K : Nat → Option ρ} (hs : Sy g) : zgR ((g, mi, ml) : zH) 2 27 0 K = K 28 := q_gR (Sy_f hs (0, 27, 0, 2) rfl) (Sy_f hs (2, 27, 0, 28) rfl) (by decide)
theorem S_gR27_1 {K : Nat → Option ρ} (hs : Sy g) : zgR ((g, mi, ml) : zH) 2 27 1 K = K 29 := q_gR (Sy_f hs (0, 27, 0, 2) rfl) (Sy_f hs (2, 27, 1, 29) rfl) (by decide)
theorem S_gR30_0 {K : Nat → Option ρ} (hs : Sy g) : zgR ((g, mi, ml) : zH) 3 30 0 K = K 31 := q_gR (Sy_f hs (0, 30, 0, 3) rfl) (Sy_f hs (2, 30, 0, 31) rfl) (by decide)
theorem S_gR30_1 {K : Nat → Option ρ} (hs : Sy g) : zgR ((g, mi, ml) : zH) 3 30 1 K = K 32 := q_gR (Sy_f hs (0, 30, 0, 3) rfl) (Sy_f hs (2, 30, 1, 32) rfl) (by decide)
theorem S_gR203_0 {K : Nat → Option ρ} (hs : Sy g) : zgR ((g, mi, ml) : zH) 3 203 0 K = K 204 := q_gR (Sy_f hs (0, 203, 0, 3) rfl) (Sy_f hs (2, 203, 0, 204) rfl) (by decide)
theorem S_gR203_1 {K : Nat → Option ρ} (hs : Sy g) : zgR ((g, mi, ml) : zH) 3 203 1 K = K 205 := q_gR (Sy_f hs (0, 203, 0, 3) rfl) (Sy_f hs (2, 203, 1, 205) rfl) (by decide)
theorem S_gR376_0 {K : Nat → Option ρ} (hs : Sy g) : zgR ((g, mi, ml) : zH) 4 376 0 K = K 377 := q_gR (Sy_f hs (0, 376, 0, 4) rfl) (Sy_f hs (2, 376, 0, 377) rfl) (by decide)
theorem S_gR376_2 {K : Nat → Option ρ} (hs : Sy g) : zgR ((g, mi, ml) : zH) 4 376 2 K = K 387 := q_gR (Sy_f hs (0, 376, 0, 4) rfl) (Sy_f hs (2, 376, 2, 387) rfl) (by decide)
theorem S_gR376_1 {K : Nat → Option ρ} (hs : Sy g) : zgR ((g, mi, ml) : zH) 4 376 1 K = K 390 := q_gR (Sy_f hs (0, 376, 0, 4) rfl) (Sy_f hs (2, 376, 1, 390) rfl) (by decide)
theorem S_gR387_0 {K : Nat → Option ρ} (hs : Sy g) : zgR ((g, mi, ml) : zH) 2 387 0 K = K 388 := q_gR (Sy_f hs (0, 387, 0, 2) rfl) (Sy_f hs (2, 387, 0, 388) rfl) (by decide)
theorem S_gR387_1 {K : Nat → Option ρ} (hs : Sy g) : zgR ((g, mi, ml) : zH) 2 387 1 K = K 389 := q_gR (Sy_f hs (0, 387, 0, 2) rfl) (Sy_f hs (2, 387, 1, 389) rfl) (by decide)
theorem S_gR390_0 {K : Nat → Option ρ} (hs : Sy g) : zgR ((g, mi, ml) : zH) 7 390 0 K = K 22 := q_gR (Sy_f hs (0, 390, 0, 7) rfl) (Sy_f hs (2, 390, 0, 22) rfl) (by decide)
theorem S_gR390_1 {K : Nat → Option ρ} (hs : Sy g) : zgR ((g, mi, ml) : zH) 7 390 1 K = K 391 := q_gR (Sy_f hs (0, 390, 0, 7) rfl) (Sy_f hs (2, 390, 1, 391) rfl) (by decide)
theorem S_gR392_0 {K : Nat → Option ρ} (hs : Sy g) : zgR ((g, mi, ml) : zH) 4 392 0 K = K 393 := q_gR (Sy_f hs (0, 392, 0, 4) rfl) (Sy_f hs (2, 392, 0, 393) rfl) (by decide)
theorem S_gR392_2 {K : Nat → Option ρ} (hs : Sy g) : zgR ((g, mi, ml) : zH) 4 392 2 K = K 403 := q_gR (Sy_f hs (0, 392, 0, 4) rfl) (Sy_f hs (2, 392, 2, 403) rfl) (by decide)
theorem S_gR392_1 {K : Nat → Option ρ} (hs : Sy g) : zgR ((g, mi, ml) : zH) 4 392 1 K = K 406 := q_gR (Sy_f hs (0, 392, 0, 4) rfl) (Sy_f hs (2, 392, 1, 406) rfl) (by decide)
theorem S_gR403_0 {K : Nat → Option ρ} (hs : Sy g) : zgR ((g, mi, ml) : zH) 2 403 0 K = K 404 := q_gR (Sy_f hs (0, 403, 0, 2) rfl) (Sy_f hs (2, 403, 0, 404) rfl) (by decide)
theorem S_gR403_1 {K : Nat → Option ρ} (hs : Sy g) : zgR ((g, mi, ml) : zH) 2 403 1 K = K 405 := q_gR (Sy_f hs (0, 403, 0, 2) rfl) (Sy_f hs (2, 403, 1, 405) rfl) (by decide)
theorem S_gR406_0 {K : Nat → Option ρ} (hs : Sy g) : zgR ((g, mi, ml) : zH) 7 406 0 K = K 22 := q_gR (Sy_f hs (0, 406, 0, 7) rfl) (Sy_f hs (2, 406, 0, 22) rfl) (by decide)
theorem S_gR406_1 {K : Nat → Option ρ} (hs : Sy g) : zgR ((g, mi, ml) : zH) 7 406 1 K = K 407 := q_gR (Sy_f hs (0, 406, 0, 7) rfl) (Sy_f hs (2, 406, 1, 407) rfl) (by decide)
theorem S_gR408_0 {K : Nat → Option ρ} (hs : Sy g) : zgR ((g, mi, ml) : zH) 8 408 0 K = K 409 := q_gR (Sy_f hs (0, 408, 0, 8) rfl) (Sy_f hs (2, 408, 0, 409) rfl) (by decide)
theorem S_gR410_0 {K : Nat → Option ρ} (hs : Sy g) : zgR ((g, mi, ml) : zH) 6 410 0 K = K 411 := q_gR (Sy_f hs (0, 410, 0, 6) rfl) (Sy_f hs (2, 410, 0, 411) rfl) (by decide)
theorem S_gR410_1 {K : Nat → Option ρ} (hs : Sy g) : zgR ((g, mi, ml) : zH) 6 410 1 K = K 415 := q_gR (Sy_f hs (0, 410, 0, 6) rfl) (Sy_f hs (2, 410, 1, 415) rfl) (by decide)
theorem S_gR411_0 {K : Nat → Option ρ} (hs : Sy g) : zgR ((g, mi, ml) : zH) 9 411 0 K = K 412 := q_gR (Sy_f hs (0, 411, 0, 9) rfl) (Sy_f hs (2, 411, 0, 412) rfl) (by decide)
theorem S_gR411_1 {K : Nat → Option ρ} (hs : Sy g) : zgR ((g, mi, ml) : zH) 9 411 1 K = K 413 := q_gR (Sy_f hs (0, 411, 0, 9) rfl) (Sy_f hs (2, 411, 1, 413) rfl) (by decide)
theorem S_gR411_2 {K : Nat → Option ρ} (hs : Sy g) : zgR ((g, mi, ml) : zH) 9 411 2 K = K 414 := q_gR (Sy_f hs (0, 411, 0, 9) rfl) (Sy_f hs (2, 411, 2, 414) rfl) (by decide)
theorem S_gR415_0 {K : Nat → Option ρ} (hs : Sy g) : zgR ((g, mi, ml) : zH) 10 415 0 K = K 416 := q_gR (Sy_f hs (0, 415, 0, 10) rfl) (Sy_f hs (2, 415, 0, 416) rfl) (by decide)
theorem S_gR415_1 {K : Nat → Option ρ} (hs : Sy g) : zgR ((g, mi, ml) : zH) 10 415 1 K = K 417 := q_gR (Sy_f hs (0, 415, 0, 10) rfl) (Sy_f hs (2, 415, 1, 417) rfl) (by decide)
theorem S_gR415_2 {K : Nat → Option ρ} (hs : Sy g) : zgR ((g, mi, ml) : zH) 10 415 2 K = K 418 := q_gR (Sy_f hs (0, 415, 0, 10) rfl) (Sy_f hs (2, 415, 2, 418) rfl) (by decide)
theorem S_gR422_1 {K : Nat → Option ρ} (hs : Sy g) : zgR ((g, mi, ml) : zH) 13 422 1 K = K 423 := q_gR (Sy_f hs (0, 422, 0, 13) rfl) (Sy_f hs (2, 422, 1, 423) rfl) (by decide)
theorem S_gR422_2 {K : Nat → Option ρ} (hs : Sy g) : zgR ((g, mi, ml) : zH) 13 422 2 K = K 424 := q_gR (Sy_f hs (0, 422, 0, 13) rfl) (Sy_f hs (2, 422, 2, 424) rfl) (by decide)
theorem S_gR422_3 {K : Nat → Option ρ} (hs : Sy g) : zgR ((g, mi, ml) : zH) 13 422 3 K = K 425 := q_gR (Sy_f hs (0, 422, 0, 13) rfl) (Sy_f hs (2, 422, 3, 425) rfl) (by decide)
theorem S_gR422_4 {K : Nat → Option ρ} (hs : Sy g) : zgR ((g, mi, ml) : zH) 13 422 4 K = K 426 := q_gR (Sy_f hs (0, 422, 0, 13) rfl) (Sy_f hs (2, 422, 4, 426) rfl) (by decide)
theorem S_gR422_5 {K : Nat → Option ρ} (hs : Sy g) : zgR ((g, mi, ml) : zH) 13 422 5 K = K 427 := q_gR (Sy_f hs (0, 422, 0, 13) rfl) (Sy_f hs (2, 422, 5, 427) rfl) (by decide)
theorem S_gR422_7 {K : Nat → Option ρ} (hs : Sy g) : zgR ((g, mi, ml) : zH) 13 422 7 K = K 428 := q_gR (Sy_f hs (0, 422, 0, 13) rfl) (Sy_f hs (2, 422, 7, 428) rfl) (by decide)
theorem S_gR422_11 {K : Nat → Option ρ} (hs : Sy g) : zgR ((g, mi, ml) : zH) 13 422 11 K = K 429 := q_gR (Sy_f hs (0, 422, 0, 13) rfl) (Sy_f hs (2, 422, 11, 429) rfl) (by decide)
theorem S_gR422_12 {K : Nat → Option ρ} (hs : Sy g) : zgR ((g, mi, ml) : zH) 13 422 12 K = K 430 := q_gR (Sy_f hs (0, 422, 0, 13) rfl) (Sy_f hs (2, 422, 12, 430) rfl) (by decide)
theorem S_gR422_15 {K : Nat → Option ρ} (hs : Sy g) : zgR ((g, mi, ml) : zH) 13 422 15 K = K 431 := q_gR (Sy_f hs (0, 422, 0, 13) rfl) (Sy_f hs (2, 422, 15, 431) rfl) (by decide)
theorem S_gR422_16 {K : Nat → Option ρ} (hs : Sy g) : zgR ((g, mi, ml) : zH) 13 422 16 K = K 432 := q_gR (Sy_f hs (0, 422, 0, 13) rfl) (Sy_f hs (2, 422, 16, 432) rfl) (by decide)
theorem S_gR422_17 {K : Nat → Option ρ} (hs : Sy g) : zgR ((g, mi, ml) : zH) 13 422 17 K = K 433 := q_gR (Sy_f hs (0, 422, 0, 13) rfl) (Sy_f hs (2, 422, 17, 433) rfl) (by decide)
theorem S_gR422_26 {K : Nat → Option ρ} (hs : Sy g) : zgR ((g, mi, ml) : zH) 13 422 26 K = K 434 := q_gR (Sy_f hs (0, 422, 0, 13) rfl) (Sy_f hs (2, 422, 26, 434) rfl) (by decide)
theorem S_gR422_29 {K : Nat → Option ρ} (hs : Sy g) : zgR ((g, mi, ml) : zH) 13 422 29 K = K 435 := q_gR (Sy_f hs (0, 422, 0, 13) rfl) (Sy_f hs (2, 422, 29, 435) rfl) (by decide)
theorem S_gR422_30 {K : Nat → Option ρ} (hs : Sy g) : zgR ((g, mi, ml) : zH) 13 422 30 K = K 436 := q_gR (Sy_f hs (0, 422, 0, 13) rfl) (Sy_f hs (2, 422, 30, 436) rfl) (by decide)
theorem S_gR422_32 {K : Nat → Option ρ} (hs : Sy g) : zgR ((g, mi, ml) : zH) 13 422 32 K = K 437 := q_gR (Sy_f hs (0, 422, 0, 13) rfl) (Sy_f hs (2, 422, 32, 437) rfl) (by decide)
theorem S_gR422_39 {K : Nat → Option ρ} (hs : Sy g) : zgR ((g, mi, ml) : zH) 13 422 39 K = K 438 := q_gR (Sy_f hs (0, 422, 0, 13) rfl) (Sy_f hs (2, 422, 39, 438) rfl) (by decide)
theorem S_gR422_40 {K : Nat → Option ρ} (hs : Sy g) : zgR ((g, mi, ml) : zH) 13 422 40 K = K 439 := q_gR (Sy_f hs (0, 422, 0, 13) rfl) (Sy_f hs (2, 422, 40, 439) rfl) (by decide)
end
