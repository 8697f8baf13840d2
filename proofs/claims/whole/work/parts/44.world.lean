/-! worlds: their places; the plain row at 424 -/
theorem Sy_w {g : zS} {w : Nat} (hs : Sy g) (hw : zWL.contains w = true) {q : Nat × Nat × Nat × Nat} (h : q ∈ zWl w) : zFv g q = q.2.2.2 := hs.2.1 w (List.contains_iff_mem.mp hw) q h
theorem Sy_h {g : zS} (hs : Sy g) (q : Nat × Nat × Nat × Nat) (h : zHL.contains q = true) : zFv g q = q.2.2.2 := hs.2.2 q (List.contains_iff_mem.mp h)
theorem zrZ0 (h : zH) : zrZ (nI 0) h = some (nI 0, h) := rfl
theorem zrZ1 (h : zH) : zrZ (nI 1) h = some (nI 1, h) := rfl
section
variable {g : zS} {mi M : Nat → Nat → Int32} {v : Nat → Int32} {ml : Nat → Nat → Int64} {ρ : Type} {k w j : Nat}
theorem R_a {K : Int32 → Option ρ} (hs : Sy g) (hj : j < 5815) : zaI ((g, zrw M 424 v, ml) : zH) 21 424 (nI j) K = K (v j) := by
  rw [S_aI424 hs hj, zrw_eq]
theorem R_e {K : zH → Option ρ} {x : Int32} (hs : Sy g) (hj : j < 5815) : zeI ((g, zrw M 424 v, ml) : zH) 424 (nI j) x K = K (g, zrw M 424 (upd v j x), ml) := by
  rw [S_eI424 hs hj, u_ru]
theorem W_gI {K : Int32 → Option ρ} (hs : Sy g) (hw : zWL.contains w = true) : zgI ((g, mi, ml) : zH) 11 w k K = K (mi w k) := q_gI (Sy_w (q := (0, w, 0, 11)) hs hw (by simp [zWl]))
theorem W_pI {K : zH → Option ρ} {x : Int32} (hs : Sy g) (hw : zWL.contains w = true) : zpI ((g, mi, ml) : zH) 11 w k x K = K (g, zu mi w k x, ml) := q_pI (Sy_w (q := (0, w, 0, 11)) hs hw (by simp [zWl]))
theorem W_pZ {K : zH → Option ρ} {x : Int32} (hs : Sy g) (hw : zWL.contains w = true) (hx : x = nI 0 ∨ x = nI 1) : zpZ ((g, mi, ml) : zH) 11 w k x K = K (g, zu mi w k x, ml) := q_pZ (Sy_w (q := (0, w, 0, 11)) hs hw (by simp [zWl])) hx
theorem W_ck {X : Option ρ} (hs : Sy g) (hw : zWL.contains w = true) : zck ((g, mi, ml) : zH) 11 w X = X := q_ck (Sy_w (q := (0, w, 0, 11)) hs hw (by simp [zWl]))
theorem C_gI {K : Int32 → Option ρ} (hs : Sy g) (hw : zWL.contains w = true) : zgI ((g, mi, ml) : zH) 1 (w + 1) k K = K (mi (w + 1) k) := q_gI (Sy_w (q := (0, w + 1, 0, 1)) hs hw (by simp [zWl]))
theorem C_pI {K : zH → Option ρ} {x : Int32} (hs : Sy g) (hw : zWL.contains w = true) : zpI ((g, mi, ml) : zH) 1 (w + 1) k x K = K (g, zu mi (w + 1) k x, ml) := q_pI (Sy_w (q := (0, w + 1, 0, 1)) hs hw (by simp [zWl]))
theorem C_ck {X : Option ρ} (hs : Sy g) (hw : zWL.contains w = true) : zck ((g, mi, ml) : zH) 1 (w + 1) X = X := q_ck (Sy_w (q := (0, w + 1, 0, 1)) hs hw (by simp [zWl]))
theorem W_gR0 {K : Nat → Option ρ} (hs : Sy g) (hw : zWL.contains w = true) : zgR ((g, mi, ml) : zH) 11 w 0 K = K (w + 1) := q_gR (Sy_w (q := (0, w, 0, 11)) hs hw (by simp [zWl])) (Sy_w (q := (2, w, 0, w + 1)) hs hw (by simp [zWl])) (by omega)
theorem W_gR1 {K : Nat → Option ρ} (hs : Sy g) (hw : zWL.contains w = true) : zgR ((g, mi, ml) : zH) 11 w 1 K = K (w + 8) := q_gR (Sy_w (q := (0, w, 0, 11)) hs hw (by simp [zWl])) (Sy_w (q := (2, w, 1, w + 8)) hs hw (by simp [zWl])) (by omega)
theorem W_gR2 {K : Nat → Option ρ} (hs : Sy g) (hw : zWL.contains w = true) : zgR ((g, mi, ml) : zH) 11 w 2 K = K (w + 9) := q_gR (Sy_w (q := (0, w, 0, 11)) hs hw (by simp [zWl])) (Sy_w (q := (2, w, 2, w + 9)) hs hw (by simp [zWl])) (by omega)
theorem C_gR0 {K : Nat → Option ρ} (hs : Sy g) (hw : zWL.contains w = true) : zgR ((g, mi, ml) : zH) 1 (w + 1) 0 K = K (w + 2) := q_gR (Sy_w (q := (0, w + 1, 0, 1)) hs hw (by simp [zWl])) (Sy_w (q := (2, w + 1, 0, w + 2)) hs hw (by simp [zWl])) (by omega)
theorem C_gR1 {K : Nat → Option ρ} (hs : Sy g) (hw : zWL.contains w = true) : zgR ((g, mi, ml) : zH) 1 (w + 1) 1 K = K (w + 3) := q_gR (Sy_w (q := (0, w + 1, 0, 1)) hs hw (by simp [zWl])) (Sy_w (q := (2, w + 1, 1, w + 3)) hs hw (by simp [zWl])) (by omega)
theorem C_gR2 {K : Nat → Option ρ} (hs : Sy g) (hw : zWL.contains w = true) : zgR ((g, mi, ml) : zH) 1 (w + 1) 2 K = K (w + 4) := q_gR (Sy_w (q := (0, w + 1, 0, 1)) hs hw (by simp [zWl])) (Sy_w (q := (2, w + 1, 2, w + 4)) hs hw (by simp [zWl])) (by omega)
theorem C_gR3 {K : Nat → Option ρ} (hs : Sy g) (hw : zWL.contains w = true) : zgR ((g, mi, ml) : zH) 1 (w + 1) 3 K = K (w + 5) := q_gR (Sy_w (q := (0, w + 1, 0, 1)) hs hw (by simp [zWl])) (Sy_w (q := (2, w + 1, 3, w + 5)) hs hw (by simp [zWl])) (by omega)
theorem C_gR4 {K : Nat → Option ρ} (hs : Sy g) (hw : zWL.contains w = true) : zgR ((g, mi, ml) : zH) 1 (w + 1) 4 K = K (w + 6) := q_gR (Sy_w (q := (0, w + 1, 0, 1)) hs hw (by simp [zWl])) (Sy_w (q := (2, w + 1, 4, w + 6)) hs hw (by simp [zWl])) (by omega)
theorem C_gR5 {K : Nat → Option ρ} (hs : Sy g) (hw : zWL.contains w = true) : zgR ((g, mi, ml) : zH) 1 (w + 1) 5 K = K (w + 7) := q_gR (Sy_w (q := (0, w + 1, 0, 1)) hs hw (by simp [zWl])) (Sy_w (q := (2, w + 1, 5, w + 7)) hs hw (by simp [zWl])) (by omega)
theorem A_aI2 {K : Int32 → Option ρ} (hs : Sy g) (hw : zWL.contains w = true) (hj : j < 24) : zaI ((g, mi, ml) : zH) 21 (w + 2) (nI j) K = K (mi (w + 2) j) := q_aI (N := 24) (Sy_w (q := (0, w + 2, 0, 21)) hs hw (by simp [zWl])) (Sy_w (q := (1, w + 2, 0, 24)) hs hw (by simp [zWl])) (by decide) hj
theorem A_eI2 {K : zH → Option ρ} {x : Int32} (hs : Sy g) (hw : zWL.contains w = true) (hj : j < 24) : zeI ((g, mi, ml) : zH) (w + 2) (nI j) x K = K (g, zu mi (w + 2) j x, ml) := q_eI (N := 24) (Sy_w (q := (0, w + 2, 0, 21)) hs hw (by simp [zWl])) (Sy_w (q := (1, w + 2, 0, 24)) hs hw (by simp [zWl])) (by decide) hj
theorem A_cp2 {K : zH → Option ρ} {u : Nat} (hs : Sy g) (hw : zWL.contains w = true) (hu : zWL.contains u = true) : zcp ((g, mi, ml) : zH) (w + 2) (nI 0) (u + 2) (nI 0) (nI 24) K = K (g, zrw mi (u + 2) (va_cpy (mi (w + 2)) (mi (u + 2)) 0 0 24), ml) := q_cp (N := 24) (M := 24) (Sy_w (q := (0, w + 2, 0, 21)) hs hw (by simp [zWl])) (Sy_w (q := (0, u + 2, 0, 21)) hs hu (by simp [zWl])) (Sy_w (q := (1, w + 2, 0, 24)) hs hw (by simp [zWl])) (Sy_w (q := (1, u + 2, 0, 24)) hs hu (by simp [zWl])) (by decide) (by decide) (by decide) (by decide)
theorem A_aI3 {K : Int32 → Option ρ} (hs : Sy g) (hw : zWL.contains w = true) (hj : j < 24) : zaI ((g, mi, ml) : zH) 21 (w + 3) (nI j) K = K (mi (w + 3) j) := q_aI (N := 24) (Sy_w (q := (0, w + 3, 0, 21)) hs hw (by simp [zWl])) (Sy_w (q := (1, w + 3, 0, 24)) hs hw (by simp [zWl])) (by decide) hj
theorem A_eI3 {K : zH → Option ρ} {x : Int32} (hs : Sy g) (hw : zWL.contains w = true) (hj : j < 24) : zeI ((g, mi, ml) : zH) (w + 3) (nI j) x K = K (g, zu mi (w + 3) j x, ml) := q_eI (N := 24) (Sy_w (q := (0, w + 3, 0, 21)) hs hw (by simp [zWl])) (Sy_w (q := (1, w + 3, 0, 24)) hs hw (by simp [zWl])) (by decide) hj
theorem A_cp3 {K : zH → Option ρ} {u : Nat} (hs : Sy g) (hw : zWL.contains w = true) (hu : zWL.contains u = true) : zcp ((g, mi, ml) : zH) (w + 3) (nI 0) (u + 3) (nI 0) (nI 24) K = K (g, zrw mi (u + 3) (va_cpy (mi (w + 3)) (mi (u + 3)) 0 0 24), ml) := q_cp (N := 24) (M := 24) (Sy_w (q := (0, w + 3, 0, 21)) hs hw (by simp [zWl])) (Sy_w (q := (0, u + 3, 0, 21)) hs hu (by simp [zWl])) (Sy_w (q := (1, w + 3, 0, 24)) hs hw (by simp [zWl])) (Sy_w (q := (1, u + 3, 0, 24)) hs hu (by simp [zWl])) (by decide) (by decide) (by decide) (by decide)
theorem A_aI4 {K : Int32 → Option ρ} (hs : Sy g) (hw : zWL.contains w = true) (hj : j < 24) : zaI ((g, mi, ml) : zH) 21 (w + 4) (nI j) K = K (mi (w + 4) j) := q_aI (N := 24) (Sy_w (q := (0, w + 4, 0, 21)) hs hw (by simp [zWl])) (Sy_w (q := (1, w + 4, 0, 24)) hs hw (by simp [zWl])) (by decide) hj
theorem A_eI4 {K : zH → Option ρ} {x : Int32} (hs : Sy g) (hw : zWL.contains w = true) (hj : j < 24) : zeI ((g, mi, ml) : zH) (w + 4) (nI j) x K = K (g, zu mi (w + 4) j x, ml) := q_eI (N := 24) (Sy_w (q := (0, w + 4, 0, 21)) hs hw (by simp [zWl])) (Sy_w (q := (1, w + 4, 0, 24)) hs hw (by simp [zWl])) (by decide) hj
theorem A_cp4 {K : zH → Option ρ} {u : Nat} (hs : Sy g) (hw : zWL.contains w = true) (hu : zWL.contains u = true) : zcp ((g, mi, ml) : zH) (w + 4) (nI 0) (u + 4) (nI 0) (nI 24) K = K (g, zrw mi (u + 4) (va_cpy (mi (w + 4)) (mi (u + 4)) 0 0 24), ml) := q_cp (N := 24) (M := 24) (Sy_w (q := (0, w + 4, 0, 21)) hs hw (by simp [zWl])) (Sy_w (q := (0, u + 4, 0, 21)) hs hu (by simp [zWl])) (Sy_w (q := (1, w + 4, 0, 24)) hs hw (by simp [zWl])) (Sy_w (q := (1, u + 4, 0, 24)) hs hu (by simp [zWl])) (by decide) (by decide) (by decide) (by decide)
theorem A_aI5 {K : Int32 → Option ρ} (hs : Sy g) (hw : zWL.contains w = true) (hj : j < 24) : zaI ((g, mi, ml) : zH) 21 (w + 5) (nI j) K = K (mi (w + 5) j) := q_aI (N := 24) (Sy_w (q := (0, w + 5, 0, 21)) hs hw (by simp [zWl])) (Sy_w (q := (1, w + 5, 0, 24)) hs hw (by simp [zWl])) (by decide) hj
theorem A_eI5 {K : zH → Option ρ} {x : Int32} (hs : Sy g) (hw : zWL.contains w = true) (hj : j < 24) : zeI ((g, mi, ml) : zH) (w + 5) (nI j) x K = K (g, zu mi (w + 5) j x, ml) := q_eI (N := 24) (Sy_w (q := (0, w + 5, 0, 21)) hs hw (by simp [zWl])) (Sy_w (q := (1, w + 5, 0, 24)) hs hw (by simp [zWl])) (by decide) hj
theorem A_cp5 {K : zH → Option ρ} {u : Nat} (hs : Sy g) (hw : zWL.contains w = true) (hu : zWL.contains u = true) : zcp ((g, mi, ml) : zH) (w + 5) (nI 0) (u + 5) (nI 0) (nI 24) K = K (g, zrw mi (u + 5) (va_cpy (mi (w + 5)) (mi (u + 5)) 0 0 24), ml) := q_cp (N := 24) (M := 24) (Sy_w (q := (0, w + 5, 0, 21)) hs hw (by simp [zWl])) (Sy_w (q := (0, u + 5, 0, 21)) hs hu (by simp [zWl])) (Sy_w (q := (1, w + 5, 0, 24)) hs hw (by simp [zWl])) (Sy_w (q := (1, u + 5, 0, 24)) hs hu (by simp [zWl])) (by decide) (by decide) (by decide) (by decide)
theorem A_aI6 {K : Int32 → Option ρ} (hs : Sy g) (hw : zWL.contains w = true) (hj : j < 24) : zaI ((g, mi, ml) : zH) 21 (w + 6) (nI j) K = K (mi (w + 6) j) := q_aI (N := 24) (Sy_w (q := (0, w + 6, 0, 21)) hs hw (by simp [zWl])) (Sy_w (q := (1, w + 6, 0, 24)) hs hw (by simp [zWl])) (by decide) hj
theorem A_eI6 {K : zH → Option ρ} {x : Int32} (hs : Sy g) (hw : zWL.contains w = true) (hj : j < 24) : zeI ((g, mi, ml) : zH) (w + 6) (nI j) x K = K (g, zu mi (w + 6) j x, ml) := q_eI (N := 24) (Sy_w (q := (0, w + 6, 0, 21)) hs hw (by simp [zWl])) (Sy_w (q := (1, w + 6, 0, 24)) hs hw (by simp [zWl])) (by decide) hj
theorem A_cp6 {K : zH → Option ρ} {u : Nat} (hs : Sy g) (hw : zWL.contains w = true) (hu : zWL.contains u = true) : zcp ((g, mi, ml) : zH) (w + 6) (nI 0) (u + 6) (nI 0) (nI 24) K = K (g, zrw mi (u + 6) (va_cpy (mi (w + 6)) (mi (u + 6)) 0 0 24), ml) := q_cp (N := 24) (M := 24) (Sy_w (q := (0, w + 6, 0, 21)) hs hw (by simp [zWl])) (Sy_w (q := (0, u + 6, 0, 21)) hs hu (by simp [zWl])) (Sy_w (q := (1, w + 6, 0, 24)) hs hw (by simp [zWl])) (Sy_w (q := (1, u + 6, 0, 24)) hs hu (by simp [zWl])) (by decide) (by decide) (by decide) (by decide)
theorem A_aI7 {K : Int32 → Option ρ} (hs : Sy g) (hw : zWL.contains w = true) (hj : j < 24) : zaI ((g, mi, ml) : zH) 21 (w + 7) (nI j) K = K (mi (w + 7) j) := q_aI (N := 24) (Sy_w (q := (0, w + 7, 0, 21)) hs hw (by simp [zWl])) (Sy_w (q := (1, w + 7, 0, 24)) hs hw (by simp [zWl])) (by decide) hj
theorem A_eI7 {K : zH → Option ρ} {x : Int32} (hs : Sy g) (hw : zWL.contains w = true) (hj : j < 24) : zeI ((g, mi, ml) : zH) (w + 7) (nI j) x K = K (g, zu mi (w + 7) j x, ml) := q_eI (N := 24) (Sy_w (q := (0, w + 7, 0, 21)) hs hw (by simp [zWl])) (Sy_w (q := (1, w + 7, 0, 24)) hs hw (by simp [zWl])) (by decide) hj
theorem A_cp7 {K : zH → Option ρ} {u : Nat} (hs : Sy g) (hw : zWL.contains w = true) (hu : zWL.contains u = true) : zcp ((g, mi, ml) : zH) (w + 7) (nI 0) (u + 7) (nI 0) (nI 24) K = K (g, zrw mi (u + 7) (va_cpy (mi (w + 7)) (mi (u + 7)) 0 0 24), ml) := q_cp (N := 24) (M := 24) (Sy_w (q := (0, w + 7, 0, 21)) hs hw (by simp [zWl])) (Sy_w (q := (0, u + 7, 0, 21)) hs hu (by simp [zWl])) (Sy_w (q := (1, w + 7, 0, 24)) hs hw (by simp [zWl])) (Sy_w (q := (1, u + 7, 0, 24)) hs hu (by simp [zWl])) (by decide) (by decide) (by decide) (by decide)
theorem A_aI8 {K : Int32 → Option ρ} (hs : Sy g) (hw : zWL.contains w = true) (hj : j < 8) : zaI ((g, mi, ml) : zH) 21 (w + 8) (nI j) K = K (mi (w + 8) j) := q_aI (N := 8) (Sy_w (q := (0, w + 8, 0, 21)) hs hw (by simp [zWl])) (Sy_w (q := (1, w + 8, 0, 8)) hs hw (by simp [zWl])) (by decide) hj
theorem A_eI8 {K : zH → Option ρ} {x : Int32} (hs : Sy g) (hw : zWL.contains w = true) (hj : j < 8) : zeI ((g, mi, ml) : zH) (w + 8) (nI j) x K = K (g, zu mi (w + 8) j x, ml) := q_eI (N := 8) (Sy_w (q := (0, w + 8, 0, 21)) hs hw (by simp [zWl])) (Sy_w (q := (1, w + 8, 0, 8)) hs hw (by simp [zWl])) (by decide) hj
theorem A_cp8 {K : zH → Option ρ} {u : Nat} (hs : Sy g) (hw : zWL.contains w = true) (hu : zWL.contains u = true) : zcp ((g, mi, ml) : zH) (w + 8) (nI 0) (u + 8) (nI 0) (nI 8) K = K (g, zrw mi (u + 8) (va_cpy (mi (w + 8)) (mi (u + 8)) 0 0 8), ml) := q_cp (N := 8) (M := 8) (Sy_w (q := (0, w + 8, 0, 21)) hs hw (by simp [zWl])) (Sy_w (q := (0, u + 8, 0, 21)) hs hu (by simp [zWl])) (Sy_w (q := (1, w + 8, 0, 8)) hs hw (by simp [zWl])) (Sy_w (q := (1, u + 8, 0, 8)) hs hu (by simp [zWl])) (by decide) (by decide) (by decide) (by decide)
theorem A_aI9 {K : Int32 → Option ρ} (hs : Sy g) (hw : zWL.contains w = true) (hj : j < 8) : zaI ((g, mi, ml) : zH) 21 (w + 9) (nI j) K = K (mi (w + 9) j) := q_aI (N := 8) (Sy_w (q := (0, w + 9, 0, 21)) hs hw (by simp [zWl])) (Sy_w (q := (1, w + 9, 0, 8)) hs hw (by simp [zWl])) (by decide) hj
theorem A_eI9 {K : zH → Option ρ} {x : Int32} (hs : Sy g) (hw : zWL.contains w = true) (hj : j < 8) : zeI ((g, mi, ml) : zH) (w + 9) (nI j) x K = K (g, zu mi (w + 9) j x, ml) := q_eI (N := 8) (Sy_w (q := (0, w + 9, 0, 21)) hs hw (by simp [zWl])) (Sy_w (q := (1, w + 9, 0, 8)) hs hw (by simp [zWl])) (by decide) hj
theorem A_cp9 {K : zH → Option ρ} {u : Nat} (hs : Sy g) (hw : zWL.contains w = true) (hu : zWL.contains u = true) : zcp ((g, mi, ml) : zH) (w + 9) (nI 0) (u + 9) (nI 0) (nI 8) K = K (g, zrw mi (u + 9) (va_cpy (mi (w + 9)) (mi (u + 9)) 0 0 8), ml) := q_cp (N := 8) (M := 8) (Sy_w (q := (0, w + 9, 0, 21)) hs hw (by simp [zWl])) (Sy_w (q := (0, u + 9, 0, 21)) hs hu (by simp [zWl])) (Sy_w (q := (1, w + 9, 0, 8)) hs hw (by simp [zWl])) (Sy_w (q := (1, u + 9, 0, 8)) hs hu (by simp [zWl])) (by decide) (by decide) (by decide) (by decide)
theorem A_cpx {K : zH → Option ρ} (hs : Sy g) (hw : zWL.contains w = true) : zcp ((g, mi, ml) : zH) (w + 6) (nI 0) (w + 7) (nI 0) (nI 24) K = K (g, zrw mi (w + 7) (va_cpy (mi (w + 6)) (mi (w + 7)) 0 0 24), ml) := q_cp (N := 24) (M := 24) (Sy_w (q := (0, w + 6, 0, 21)) hs hw (by simp [zWl])) (Sy_w (q := (0, w + 7, 0, 21)) hs hw (by simp [zWl])) (Sy_w (q := (1, w + 6, 0, 24)) hs hw (by simp [zWl])) (Sy_w (q := (1, w + 7, 0, 24)) hs hw (by simp [zWl])) (by decide) (by decide) (by decide) (by decide)
end
theorem zu_s {α : Type} (m : Nat → Nat → α) (a k : Nat) (x : α) : zu m a k x a k = x := by simp [zu]
theorem zu_k {α : Type} {m : Nat → Nat → α} {a k j : Nat} {x : α} (h : j ≠ k) : zu m a k x a j = m a j := by simp [zu, h]
theorem zu_a {α : Type} {m : Nat → Nat → α} {a k b : Nat} {x : α} (h : b ≠ a) : zu m a k x b = m b := by simp [zu, h]
theorem zrw_a {α : Type} {m : Nat → Nat → α} {a b : Nat} {f : Nat → α} (h : b ≠ a) : zrw m a f b = m b := by simp [zrw, h]
/-! bits of a small number -/
def bI (b p : Nat) : Int32 := if Nat.testBit b p then nI 1 else nI 0
theorem bI_0 (b p : Nat) : (bI b p = nI 0) = (Nat.testBit b p = false) := by
  unfold bI
  cases Nat.testBit b p <;> simp <;> decide
theorem bI_1 (b p : Nat) : (bI b p = nI 1) = (Nat.testBit b p = true) := by
  unfold bI
  cases Nat.testBit b p <;> simp <;> decide
theorem bI_or (b p : Nat) : bI b p = nI 0 ∨ bI b p = nI 1 := by
  unfold bI
  cases Nat.testBit b p
  · exact Or.inl rfl
  · exact Or.inr rfl
theorem bt_and : ∀ b, b < 256 → ∀ p, p < 8 → (nI b &&& (nI 1 <<< (nI p &&& nI 31)) = nI 0 ↔ Nat.testBit b p = false) := by decide +kernel
theorem bt_or : ∀ b, b < 256 → ∀ p, p < 8 → nI b ||| (nI 1 <<< (nI p &&& nI 31)) = nI (b ||| 2 ^ p) ∧ b ||| 2 ^ p < 256 := by decide +kernel
theorem bt_nd : ∀ b, b < 256 → ∀ p, p < 8 → nI b &&& ((nI 1 <<< (nI p &&& nI 31)) ^^^ m1) = nI (b &&& (255 - 2 ^ p)) ∧ b &&& (255 - 2 ^ p) < 256 := by decide +kernel
theorem bt_orT : ∀ b, b < 256 → ∀ p, p < 8 → ∀ q, q < 8 → Nat.testBit (b ||| 2 ^ p) q = (decide (q = p) || Nat.testBit b q) := by decide +kernel
theorem bt_ndT : ∀ b, b < 256 → ∀ p, p < 8 → ∀ q, q < 8 → Nat.testBit (b &&& (255 - 2 ^ p)) q = (!decide (q = p) && Nat.testBit b q) := by decide +kernel
/-! a world and the row that it is told by -/
def Bt (x : Int32) (v : Nat → Int32) (k : Nat) : Prop := ∃ b, b < 256 ∧ x = nI b ∧ ∀ p, p < 8 → v (k + p) = bI b p
def ofs (d k : Nat) : Nat := if d = 2 then k else if d = 3 then 24 + k else if d = 4 then 48 + k else if d = 5 then 72 + k else if d = 8 then 105 + k else if d = 9 then 131 + k else if d = 1 then (if k = 6 then 96 else if k = 7 then 139 else 164) else (if k = 6 then 129 else if k = 7 then 130 else if k = 8 then 189 else 190)
def okd (d k : Nat) : Bool := if d = 0 then decide (6 ≤ k) && decide (k ≤ 9) else if d = 1 then decide (6 ≤ k) && decide (k ≤ 8) else if d = 8 then decide (k < 8) else if d = 9 then decide (0 < k) && decide (k < 8) else if d = 6 then false else if d = 7 then false else true
def PL (w a k i : Nat) : Prop := ∃ d, d < 10 ∧ k < 24 ∧ okd d k = true ∧ a = w + d ∧ i = ofs d k
theorem PL_t0 : ∀ d, d < 10 → ∀ k, k < 24 → ∀ d', d' < 10 → ∀ k', k' < 24 → (!(okd d k && (okd d' k' && Nat.beq (ofs d k) (ofs d' k'))) || (Nat.beq d d' && Nat.beq k k')) = true := by decide +kernel
theorem PL_t1 (d : Nat) (hd : d < 10) (k : Nat) (hk : k < 24) (d' : Nat) (hd' : d' < 10) (k' : Nat) (hk' : k' < 24) (h1 : okd d k = true) (h2 : okd d' k' = true) (h3 : ofs d k = ofs d' k') : d = d' ∧ k = k' := by
  have h := PL_t0 d hd k hk d' hd' k' hk'
  rw [h1, h2, h3, Nat.beq_refl] at h
  have h4 : (Nat.beq d d' && Nat.beq k k') = true := h
  rw [Bool.and_eq_true] at h4
  exact ⟨Nat.eq_of_beq_eq_true h4.1, Nat.eq_of_beq_eq_true h4.2⟩
def in_r (a b x : Nat) : Bool := Nat.ble a x && Nat.blt x b
theorem in_rF {a b x : Nat} (h : in_r a b x = false) : ¬ (a ≤ x ∧ x < b) := by
  rintro ⟨h1, h2⟩
  have h3 : Nat.ble a x = true := Nat.ble_eq.mpr h1
  have h4 : Nat.blt x b = true := Nat.ble_eq.mpr h2
  unfold in_r at h
  rw [h3, h4] at h
  exact absurd h (by decide)
theorem PL_t3 : ∀ d, d < 10 → ∀ k, k < 24 → (!okd d k || (Nat.blt (ofs d k) 191 && (!in_r 97 105 (ofs d k) && (!in_r 113 129 (ofs d k) && (!in_r 140 164 (ofs d k) && !in_r 165 189 (ofs d k)))))) = true := by decide +kernel
theorem PL_t4 : ∀ d, d < 10 → ∀ k, k < 24 → (!okd d k || (!Nat.beq d 6 && (!Nat.beq d 7 && !(Nat.beq d 0 && Nat.blt k 6)))) = true := by decide +kernel
theorem PL_t2 (d : Nat) (hd : d < 10) (k : Nat) (hk : k < 24) (h1 : okd d k = true) : ofs d k < 191 ∧ (¬ (97 ≤ ofs d k ∧ ofs d k < 105) ∧ ¬ (113 ≤ ofs d k ∧ ofs d k < 129) ∧ ¬ (140 ≤ ofs d k ∧ ofs d k < 164) ∧ ¬ (165 ≤ ofs d k ∧ ofs d k < 189)) ∧ d ≠ 6 ∧ d ≠ 7 ∧ ¬ (d = 0 ∧ k < 6) := by
  have h3 := PL_t3 d hd k hk
  have h4 := PL_t4 d hd k hk
  rw [h1] at h3 h4
  simp only [Bool.not_true, Bool.false_or, Bool.and_eq_true, Bool.not_eq_true'] at h3 h4
  obtain ⟨a0, a1, a2, a3, a4⟩ := h3
  obtain ⟨b1, b2, b3⟩ := h4
  refine ⟨Nat.ble_eq.mp a0, ⟨in_rF a1, in_rF a2, in_rF a3, in_rF a4⟩, ?_, ?_, ?_⟩
  · intro e; rw [e] at b1; exact absurd b1 (by decide)
  · intro e; rw [e] at b2; exact absurd b2 (by decide)
  · rintro ⟨e, e2⟩
    have e3 : Nat.blt k 6 = true := Nat.ble_eq.mpr e2
    rw [e, e3] at b3
    exact absurd b3 (by decide)
def WR (mi : Nat → Nat → Int32) (w : Nat) (v : Nat → Int32) : Prop :=
  (∀ a k i, PL w a k i → mi a k = v i) ∧ ((∀ j, j < 24 → nI j < v 139 → mi (w + 6) j = v (140 + j)) ∧ ∀ j, j < 24 → nI j < v 164 → mi (w + 7) j = v (165 + j)) ∧ Bt (mi w 3) v 97 ∧ Bt (mi w 4) v 113 ∧ Bt (mi w 5) v 121
theorem PL_r {w a k i : Nat} (h : PL w a k i) : w ≤ a ∧ a < w + 10 ∧ i < 191 := by
  obtain ⟨d, h1, h2, h3, h4, h5⟩ := h
  exact ⟨by omega, by omega, by rw [h5]; exact (PL_t2 d h1 k h2 h3).1⟩
theorem WR_cong {mi mi' : Nat → Nat → Int32} {w : Nat} {v : Nat → Int32} (h : WR mi w v) (e : ∀ a, w ≤ a → a < w + 10 → mi' a = mi a) : WR mi' w v := by
  unfold WR at h ⊢
  rw [e w (by omega) (by omega), e (w + 6) (by omega) (by omega), e (w + 7) (by omega) (by omega)]
  exact ⟨fun a k i hp => by rw [e a (PL_r hp).1 (PL_r hp).2.1]; exact h.1 a k i hp, h.2⟩
theorem Bt_cong {x : Int32} {v v' : Nat → Int32} {k : Nat} (h : Bt x v k) (e : ∀ p, p < 8 → v' (k + p) = v (k + p)) : Bt x v' k := by
  obtain ⟨b, h1, h2, h3⟩ := h
  exact ⟨b, h1, h2, fun p hp => by rw [e p hp, h3 p hp]⟩
theorem WR_congv {mi : Nat → Nat → Int32} {w : Nat} {v v' : Nat → Int32} (h : WR mi w v) (e : ∀ k, k < 191 → v' k = v k) : WR mi w v' := by
  obtain ⟨h1, ⟨c1, c2⟩, e1, e2, e3⟩ := h
  refine ⟨fun a k i hp => ?_, ⟨fun j hj hh => ?_, fun j hj hh => ?_⟩, Bt_cong e1 ?_, Bt_cong e2 ?_, Bt_cong e3 ?_⟩
  · rw [e _ (PL_r hp).2.2]; exact h1 a k i hp
  · rw [e _ (by omega), c1 j hj (by rw [e _ (by omega)] at hh; exact hh)]
  · rw [e _ (by omega), c2 j hj (by rw [e _ (by omega)] at hh; exact hh)]
  · intro p hp; rw [e _ (by omega)]
  · intro p hp; rw [e _ (by omega)]
  · intro p hp; rw [e _ (by omega)]
theorem PL_i {w a k i a0 k0 i0 : Nat} (h : PL w a k i) (h0 : PL w a0 k0 i0) : (i = i0 ↔ a = a0 ∧ k = k0) := by
  obtain ⟨d, h1, h2, h3, h4, h5⟩ := h
  obtain ⟨d0, g1, g2, g3, g4, g5⟩ := h0
  constructor
  · intro e
    obtain ⟨e1, e2⟩ := PL_t1 d h1 k h2 d0 g1 k0 g2 h3 g3 (by rw [← h5, ← g5]; exact e)
    exact ⟨by omega, e2⟩
  · rintro ⟨e1, e2⟩
    have : d = d0 := by omega
    rw [h5, g5, this, e2]
theorem PL_n {w a k i : Nat} (h : PL w a k i) : (¬ (97 ≤ i ∧ i < 105) ∧ ¬ (113 ≤ i ∧ i < 129) ∧ ¬ (140 ≤ i ∧ i < 164) ∧ ¬ (165 ≤ i ∧ i < 189)) ∧ a ≠ w + 6 ∧ a ≠ w + 7 ∧ ¬ (a = w ∧ k < 6) := by
  obtain ⟨d, h1, h2, h3, h4, h5⟩ := h
  obtain ⟨q0, q1, q2, q3, q4⟩ := PL_t2 d h1 k h2 h3
  rw [← h5] at q1
  exact ⟨q1, by omega, by omega, by omega⟩
theorem zu_e {α : Type} {m : Nat → Nat → α} {a k b j : Nat} {x : α} (h : ¬ (b = a ∧ j = k)) : zu m a k x b j = m b j := by
  unfold zu
  by_cases hb : b = a
  · rw [if_pos hb]
    show (if j = k then x else m a j) = _
    rw [if_neg (fun q => h ⟨hb, q⟩), hb]
  · rw [if_neg hb]
theorem L_pl {mi : Nat → Nat → Int32} {w a0 k0 i0 : Nat} {v : Nat → Int32} {x : Int32} (h : WR mi w v) (h0 : PL w a0 k0 i0) (h1 : i0 ≠ 139) (h2 : i0 ≠ 164) : WR (zu mi a0 k0 x) w (upd v i0 x) := by
  obtain ⟨g1, ⟨c1, c2⟩, e1, e2, e3⟩ := h
  have n0 := PL_n h0
  refine ⟨fun a k i hp => ?_, ⟨fun j hj hh => ?_, fun j hj hh => ?_⟩, ?_, ?_, ?_⟩
  · by_cases q : i = i0
    · obtain ⟨q1, q2⟩ := (PL_i hp h0).mp q
      rw [q, q1, q2, zu_s, upd_eq]
    · rw [upd_ne q, zu_e (fun z => q ((PL_i hp h0).mpr z)), g1 a k i hp]
  · rw [upd_ne (by omega)] at hh ⊢
    rw [zu_a (by omega), c1 j hj hh]
  · rw [upd_ne (by omega)] at hh ⊢
    rw [zu_a (by omega), c2 j hj hh]
  · rw [zu_e (by omega)]
    exact Bt_cong e1 (fun p hp => upd_ne (by omega))
  · rw [zu_e (by omega)]
    exact Bt_cong e2 (fun p hp => upd_ne (by omega))
  · rw [zu_e (by omega)]
    exact Bt_cong e3 (fun p hp => upd_ne (by omega))
theorem L_in {mi : Nat → Nat → Int32} {w : Nat} {v v' : Nat → Int32} {x : Int32} (h : WR mi w v) (hb : Bt x v' 97) (e : ∀ k, k < 191 → ¬ (97 ≤ k ∧ k < 105) → v' k = v k) : WR (zu mi w 3 x) w v' := by
  obtain ⟨g1, ⟨c1, c2⟩, e1, e2, e3⟩ := h
  refine ⟨fun a k i hp => ?_, ⟨fun j hj hh => ?_, fun j hj hh => ?_⟩, ?_, ?_, ?_⟩
  · have n0 := PL_n hp
    rw [e i (PL_r hp).2.2 n0.1.1, zu_e (by omega), g1 a k i hp]
  · rw [e _ (by omega) (by omega)] at hh ⊢
    rw [zu_a (by omega), c1 j hj hh]
  · rw [e _ (by omega) (by omega)] at hh ⊢
    rw [zu_a (by omega), c2 j hj hh]
  · rw [zu_s]; exact hb
  · rw [zu_e (by omega)]
    exact Bt_cong e2 (fun p hp => e _ (by omega) (by omega))
  · rw [zu_e (by omega)]
    exact Bt_cong e3 (fun p hp => e _ (by omega) (by omega))
theorem L_pa {mi : Nat → Nat → Int32} {w : Nat} {v v' : Nat → Int32} {x : Int32} (h : WR mi w v) (hb : Bt x v' 113) (e : ∀ k, k < 191 → ¬ (113 ≤ k ∧ k < 121) → v' k = v k) : WR (zu mi w 4 x) w v' := by
  obtain ⟨g1, ⟨c1, c2⟩, e1, e2, e3⟩ := h
  refine ⟨fun a k i hp => ?_, ⟨fun j hj hh => ?_, fun j hj hh => ?_⟩, ?_, ?_, ?_⟩
  · have n0 := PL_n hp
    rw [e i (PL_r hp).2.2 (by omega), zu_e (by omega), g1 a k i hp]
  · rw [e _ (by omega) (by omega)] at hh ⊢
    rw [zu_a (by omega), c1 j hj hh]
  · rw [e _ (by omega) (by omega)] at hh ⊢
    rw [zu_a (by omega), c2 j hj hh]
  · rw [zu_e (by omega)]
    exact Bt_cong e1 (fun p hp => e _ (by omega) (by omega))
  · rw [zu_s]; exact hb
  · rw [zu_e (by omega)]
    exact Bt_cong e3 (fun p hp => e _ (by omega) (by omega))
theorem L_he {mi : Nat → Nat → Int32} {w : Nat} {v v' : Nat → Int32} {x : Int32} (h : WR mi w v) (hb : Bt x v' 121) (e : ∀ k, k < 191 → ¬ (121 ≤ k ∧ k < 129) → v' k = v k) : WR (zu mi w 5 x) w v' := by
  obtain ⟨g1, ⟨c1, c2⟩, e1, e2, e3⟩ := h
  refine ⟨fun a k i hp => ?_, ⟨fun j hj hh => ?_, fun j hj hh => ?_⟩, ?_, ?_, ?_⟩
  · have n0 := PL_n hp
    rw [e i (PL_r hp).2.2 (by omega), zu_e (by omega), g1 a k i hp]
  · rw [e _ (by omega) (by omega)] at hh ⊢
    rw [zu_a (by omega), c1 j hj hh]
  · rw [e _ (by omega) (by omega)] at hh ⊢
    rw [zu_a (by omega), c2 j hj hh]
  · rw [zu_e (by omega)]
    exact Bt_cong e1 (fun p hp => e _ (by omega) (by omega))
  · rw [zu_e (by omega)]
    exact Bt_cong e2 (fun p hp => e _ (by omega) (by omega))
  · rw [zu_s]; exact hb
theorem L_wt {mi : Nat → Nat → Int32} {w a : Nat} {v : Nat → Int32} {x : Int32} (h : WR mi w v) (ha : a < 24) (hv : v 139 = nI a) : WR (zu (zu mi (w + 6) a x) (w + 1) 7 (nI (a + 1))) w (upd (upd v (140 + a) x) 139 (nI (a + 1))) := by
  obtain ⟨g1, ⟨c1, c2⟩, e1, e2, e3⟩ := h
  have h0 : PL w (w + 1) 7 139 := ⟨1, by decide, by decide, rfl, rfl, rfl⟩
  refine ⟨fun b k i hp => ?_, ⟨fun j hj hh => ?_, fun j hj hh => ?_⟩, ?_, ?_, ?_⟩
  · have n0 := PL_n hp
    by_cases q : i = 139
    · obtain ⟨q1, q2⟩ := (PL_i hp h0).mp q
      rw [q, q1, q2, zu_s, upd_eq]
    · rw [upd_ne q, upd_ne (by omega), zu_e (fun z => q ((PL_i hp h0).mpr z)), zu_e (by omega), g1 b k i hp]
  · rw [upd_eq, nLt (by omega) (by omega)] at hh
    rw [upd_ne (by omega), zu_a (by omega)]
    by_cases q : j = a
    · rw [q, upd_eq, zu_s]
    · rw [upd_ne (by omega), zu_k q, c1 j hj (by rw [hv, nLt (by omega) (by omega)]; omega)]
  · rw [upd_ne (by omega), upd_ne (by omega)] at hh ⊢
    rw [zu_a (by omega), zu_a (by omega), c2 j hj hh]
  · rw [zu_e (by omega), zu_e (by omega)]
    exact Bt_cong e1 (fun p hp => by rw [upd_ne (by omega), upd_ne (by omega)])
  · rw [zu_e (by omega), zu_e (by omega)]
    exact Bt_cong e2 (fun p hp => by rw [upd_ne (by omega), upd_ne (by omega)])
  · rw [zu_e (by omega), zu_e (by omega)]
    exact Bt_cong e3 (fun p hp => by rw [upd_ne (by omega), upd_ne (by omega)])
section
variable {mi : Nat → Nat → Int32} {w j : Nat} {v : Nat → Int32}
theorem pl_kind (hj : j < 24) : PL w (w + 2) j j := ⟨2, by decide, (by omega), rfl, rfl, rfl⟩
theorem rd_kind (h : WR mi w v) (hj : j < 24) : mi (w + 2) j = v j := h.1 _ _ _ (pl_kind hj)
theorem pl_key (hj : j < 24) : PL w (w + 3) j (24 + j) := ⟨3, by decide, (by omega), rfl, rfl, rfl⟩
theorem rd_key (h : WR mi w v) (hj : j < 24) : mi (w + 3) j = v (24 + j) := h.1 _ _ _ (pl_key hj)
theorem pl_val (hj : j < 24) : PL w (w + 4) j (48 + j) := ⟨4, by decide, (by omega), rfl, rfl, rfl⟩
theorem rd_val (h : WR mi w v) (hj : j < 24) : mi (w + 4) j = v (48 + j) := h.1 _ _ _ (pl_val hj)
theorem pl_next (hj : j < 24) : PL w (w + 5) j (72 + j) := ⟨5, by decide, (by omega), rfl, rfl, rfl⟩
theorem rd_next (h : WR mi w v) (hj : j < 24) : mi (w + 5) j = v (72 + j) := h.1 _ _ _ (pl_next hj)
theorem pl_head  : PL w (w + 1) 6 96 := ⟨1, by decide, (by decide), rfl, rfl, rfl⟩
theorem rd_head (h : WR mi w v)  : mi (w + 1) 6 = v 96 := h.1 _ _ _ (pl_head)
theorem pl_at (hj : j < 8) : PL w (w + 8) j (105 + j) := ⟨8, by decide, (by omega), (by simp [okd]; omega), rfl, rfl⟩
theorem rd_at (h : WR mi w v) (hj : j < 8) : mi (w + 8) j = v (105 + j) := h.1 _ _ _ (pl_at hj)
theorem pl_miss (h0 : 0 < j) (hj : j < 8) : PL w (w + 9) j (131 + j) := ⟨9, by decide, (by omega), (by simp [okd]; omega), rfl, rfl⟩
theorem rd_miss (h : WR mi w v) (h0 : 0 < j) (hj : j < 8) : mi (w + 9) j = v (131 + j) := h.1 _ _ _ (pl_miss h0 hj)
theorem pl_runs  : PL w w 6 129 := ⟨0, by decide, (by decide), rfl, rfl, rfl⟩
theorem rd_runs (h : WR mi w v)  : mi w 6 = v 129 := h.1 _ _ _ (pl_runs)
theorem pl_begun  : PL w w 7 130 := ⟨0, by decide, (by decide), rfl, rfl, rfl⟩
theorem rd_begun (h : WR mi w v)  : mi w 7 = v 130 := h.1 _ _ _ (pl_begun)
theorem pl_cost  : PL w w 8 189 := ⟨0, by decide, (by decide), rfl, rfl, rfl⟩
theorem rd_cost (h : WR mi w v)  : mi w 8 = v 189 := h.1 _ _ _ (pl_cost)
theorem pl_time  : PL w w 9 190 := ⟨0, by decide, (by decide), rfl, rfl, rfl⟩
theorem rd_time (h : WR mi w v)  : mi w 9 = v 190 := h.1 _ _ _ (pl_time)
theorem pl_wc  : PL w (w + 1) 7 139 := ⟨1, by decide, (by decide), rfl, rfl, rfl⟩
theorem rd_wc (h : WR mi w v)  : mi (w + 1) 7 = v 139 := h.1 _ _ _ (pl_wc)
theorem pl_cc  : PL w (w + 1) 8 164 := ⟨1, by decide, (by decide), rfl, rfl, rfl⟩
theorem rd_cc (h : WR mi w v)  : mi (w + 1) 8 = v 164 := h.1 _ _ _ (pl_cc)
end
