/-! worlds: their places; the plain row at 424 -/
theorem Sy_w {g : zS} {w : Nat} (hs : Sy g) (hw : zWL.contains w = true) {q : Nat × Nat × Nat × Nat} (h : q ∈ zWl w) : zFv g q = q.2.2.2 := hs.2.1 w (List.contains_iff_mem.mp hw) q h
theorem Sy_h {g : zS} (hs : Sy g) (q : Nat × Nat × Nat × Nat) (h : zHL.contains q = true) : zFv g q = q.2.2.2 := hs.2.2 q (List.contains_iff_mem.mp h)
theorem zrZ0 (h : zH) : zrZ (nI 0) h = some (nI 0, h) := rfl
theorem zrZ1 (h : zH) : zrZ (nI 1) h = some (nI 1, h) := rfl
section
variable {g : zS} {mi M : Nat → Nat → Int32} {v : Nat → Int32} {ml : Nat → Nat → Int64} {ρ : Type} {k w j : Nat}
theorem R_a {K : Int32 → Option ρ} (hs : Sy g) (hj : j < 5815) : zaI ((g, zrw M 424 v, ml) : zH) 21 424 (nI j) K = K (v j) := by
  rw [S_aI424 hs hj, zrw_eq]
theorem R_e {K : zH → Option ρ} {x : Int32} (hs : Sy g) (hj : j < 5815) : zeI ((g, zrw M 424 v, ml) : zH) 424 (nI j) x K = K (g, zrw M 424 (upd v j x), ml) := by
  rw [S_eI424 hs hj, u_ru]
theorem W_gI {K : Int32 → Option ρ} (hs : Sy g) (hw : zWL.contains w = true) : zgI ((g, mi, ml) : zH) 11 w k K = K (mi w k) := q_gI (Sy_w (q := (0, w, 0, 11)) hs hw (by simp [zWl]))
theorem W_pI {K : zH → Option ρ} {x : Int32} (hs : Sy g) (hw : zWL.contains w = true) : zpI ((g, mi, ml) : zH) 11 w k x K = K (g, zu mi w k x, ml) := q_pI (Sy_w (q := (0, w, 0, 11)) hs hw (by simp [zWl]))
theorem W_pZ {K : zH → Option ρ} {x : Int32} (hs : Sy g) (hw : zWL.contains w = true) (hx : x = nI 0 ∨ x = nI 1) : zpZ ((g, mi, ml) : zH) 11 w k x K = K (g, zu mi w k x, ml) := q_pZ (Sy_w (q := (0, w, 0, 11)) hs hw (by simp [zWl])) hx
theorem W_ck {X : Option ρ} (hs : Sy g) (hw : zWL.contains w = true) : zck ((g, mi, ml) : zH) 11 w X = X := q_ck (Sy_w (q := (0, w, 0, 11)) hs hw (by simp [zWl]))
theorem C_gI {K : Int32 → Option ρ} (hs : Sy g) (hw : zWL.contains w = true) : zgI ((g, mi, ml) : zH) 1 (w + 1) k K = K (mi (w + 1) k) := q_gI (Sy_w (q := (0, w + 1, 0, 1)) hs hw (by simp [zWl]))
theorem C_pI {K : zH → Option ρ} {x : Int32} (hs : Sy g) (hw : zWL.contains w = true) : zpI ((g, mi, ml) : zH) 1 (w + 1) k x K = K (g, zu mi (w + 1) k x, ml) := q_pI (Sy_w (q := (0, w + 1, 0, 1)) hs hw (by simp [zWl]))
theorem C_ck {X : Option ρ} (hs : Sy g) (hw : zWL.contains w = true) : zck ((g, mi, ml) : zH) 1 (w + 1) X = X := q_ck (Sy_w (q := (0, w + 1, 0, 1)) hs hw (by simp [zWl]))
theorem W_gR0 {K : Nat → Option ρ} (hs : Sy g) (hw : zWL.contains w = true) : zgR ((g, mi, ml) : zH) 11 w 0 K = K (w + 1) := q_gR (Sy_w (q := (0, w, 0, 11)) hs hw (by simp [zWl])) (Sy_w (q := (2, w, 0, w + 1)) hs hw (by simp [zWl])) (by omega)
theorem W_gR1 {K : Nat → Option ρ} (hs : Sy g) (hw : zWL.contains w = true) : zgR ((g, mi, ml) : zH) 11 w 1 K = K (w + 8) := q_gR (Sy_w (q := (0, w, 0, 11)) hs hw (by simp [zWl])) (Sy_w (q := (2, w, 1, w + 8)) hs hw (by simp [zWl])) (by omega)
theorem W_gR2 {K : Nat → Option ρ} (hs : Sy g) (hw : zWL.contains w = true) : zgR ((g, mi, ml) : zH) 11 w 2 K = K (w + 9) := q_gR (Sy_w (q := (0, w, 0, 11)) hs hw (by simp [zWl])) (Sy_w (q := (2, w, 2, w + 9)) hs hw (by simp [zWl])) (by omega)
theorem C_gR0 {K : Nat → Option ρ} (hs : Sy g) (hw : zWL.contains w = true) : zgR ((g, mi, ml) : zH) 1 (w + 1) 0 K = K (w + 2) := q_gR (Sy_w (q := (0, w + 1, 0, 1)) hs hw (by simp [zWl])) (Sy_w (q := (2, w + 1, 0, w + 2)) hs hw (by simp [zWl])) (by omega)
theorem C_gR1 {K : Nat → Option ρ} (hs : Sy g) (hw : zWL.contains w = true) : zgR ((g, mi, ml) : zH) 1 (w + 1) 1 K = K (w + 3) := q_gR (Sy_w (q := (0, w + 1, 0, 1)) hs hw (by simp [zWl])) (Sy_w (q := (2, w + 1, 1, w + 3)) hs hw (by simp [zWl])) (by omega)
theorem C_gR2 {K : Nat → Option ρ} (hs : Sy g) (hw : zWL.contains w = true) : zgR ((g, mi, ml) : zH) 1 (w + 1) 2 K = K (w + 4) := q_gR (Sy_w (q := (0, w + 1, 0, 1)) hs hw (by simp [zWl])) (Sy_w (q := (2, w + 1, 2, w + 4)) hs hw (by simp [zWl])) (by omega)
theorem C_gR3 {K : Nat → Option ρ} (hs : Sy g) (hw : zWL.contains w = true) : zgR ((g, mi, ml) : zH) 1 (w + 1) 3 K = K (w + 5) := q_gR (Sy_w (q := (0, w + 1, 0, 1)) hs hw (by simp [zWl])) (Sy_w (q := (2, w + 1, 3, w + 5)) hs hw (by simp [zWl])) (by omega)
theorem C_gR4 {K : Nat → Option ρ} (hs : Sy g) (hw : zWL.contains w = true) : zgR ((g, mi, ml) : zH) 1 (w + 1) 4 K = K (w + 6) := q_gR (Sy_w (q := (0, w + 1, 0, 1)) hs hw (by simp [zWl])) (Sy_w (q := (2, w + 1, 4, w + 6)) hs hw (by simp [zWl])) (by omega)
theorem C_gR5 {K : Nat → Option ρ} (hs : Sy g) (hw : zWL.contains w = true) : zgR ((g, mi, ml) : zH) 1 (w + 1) 5 K = K (w + 7) := q_gR (Sy_w (q := (0, w + 1, 0, 1)) hs hw (by simp [zWl])) (Sy_w (q := (2, w + 1, 5, w + 7)) hs hw (by simp [zWl])) (by omega)
theorem A_aI2 {K : Int32 → Option ρ} (hs : Sy g) (hw : zWL.contains w = true) (hj : j < 24) : zaI ((g, mi, ml) : zH) 21 (w + 2) (nI j) K = K (mi (w + 2) j) := q_aI (N := 24) (Sy_w (q := (0, w + 2, 0, 21)) hs hw (by simp [zWl])) (Sy_w (q := (1, w + 2, 0, 24)) hs hw (by simp [zWl])) (by decide) hj
theorem A_eI2 {K : zH → Option ρ} {x : Int32} (hs : Sy g) (hw : zWL.contains w = true) (hj : j < 24) : zeI ((g, mi, ml) : zH) (w + 2) (nI j) x K = K (g, zu mi (w + 2) j x, ml) := q_eI (N := 24) (Sy_w (q := (0, w + 2, 0, 21)) hs hw (by simp [zWl])) (Sy_w (q := (1, w + 2, 0, 24)) hs hw (by simp [zWl])) (by decide) hj
theorem A_cp2 {K : zH → Option ρ} {u : Nat} (hs : Sy g) (hw : zWL.contains w = true) (hu : zWL.contains u = true) : zcp ((g, mi, ml) : zH) (w + 2) (nI 0) (u + 2) (nI 0) (nI 24) K = K (g, zrw mi (u + 2) (va_cpy (mi (w + 2)) (mi (u + 2)) 0 0 24), ml) := q_cp (N := 24) (M := 24) (Sy_w (q := (0, w + 2, 0, 21)) hs hw (by simp [zWl])) (Sy_w (q := (0, u + 2, 0, 21)) hs hu (by simp [zWl])) (Sy_w (q := (1, w + 2, 0, 24)) hs hw (by simp [zWl])) (Sy_w (q := (1, u + 2, 0, 24)) hs hu (by simp [zWl])) (by decide) (by decide) (by decide) (by decide)
theorem A_aI3 {K : Int32 → Option ρ} (hs : Sy g) (hw : zWL.contains w = true) (hj : j < 24) : zaI ((g, mi, ml) : zH) 21 (w + 3) (nI j) K = K (mi (w + 3) j) := q_aI (N := 24) (Sy_w (q := (0, w + 3, 0, 21)) hs hw (by simp [zWl])) (Sy_w (q := (1, w + 3, 0, 24)) hs hw (by simp [zWl])) (by decide) hj
theorem A_eI3 {K : zH → Option ρ} {x : Int32} (hs : Sy g) (hw : zWL.contains w = true) (hj : j < 24) : zeI ((g, mi, ml) : zH) (w + 3) (nI j) x K = K (g, zu mi (w + 3) j x, ml) := q_eI (N := 24) (Sy_w (q := (0, w + 3, 0, 21)) hs hw (by simp [zWl])) (Sy_w (q := (1, w + 3, 0, 24)) hs hw (by simp [zWl])) (by decide) hj
theorem A_cp3 {K : zH → Option ρ} {u : Nat} (hs : Sy g) (hw : zWL.contains w = true) (hu : zWL.contains u = true) : zcp ((g, mi, ml) : zH) (w + 3) (nI 0) (u + 3) (nI 0) (nI 24) K = K (g, zrw mi (u + 3) (va_cpy (mi (w + 3)) (mi (u + 3)) 0 0 24), ml) := q_cp (N := 24) (M := 24) (Sy_w (q := (0, w + 3, 0, 21)) hs hw (by simp [zWl])) (Sy_w (q := (0, u + 3, 0, 21)) hs hu (by simp [zWl])) (Sy_w (q := (1, w + 3, 0, 24)) hs hw (by simp [zWl])) (Sy_w (q := (1, u + 3, 0, 24)) hs hu (by simp [zWl])) (by decide) (by decide) (by decide) (by decide)
theorem A_aI4 {K : Int32 → Option ρ} (hs : Sy g) (hw : zWL.contains w = true) (hj : j < 24) : zaI ((g, mi, ml) : zH) 21 (w + 4) (nI j) K = K (mi (w + 4) j) := q_aI (N := 24) (Sy_w (q := (0, w + 4, 0, 21)) hs hw (by simp [zWl])) (Sy_w (q := (1, w + 4, 0, 24)) hs hw (by simp [zWl])) (by decide) hj
theorem A_eI4 {K : zH → Option ρ} {x : Int32} (hs : Sy g) (hw : zWL.contains w = true) (hj : j < 24) : zeI ((g, mi, ml) : zH) (w + 4) (nI j) x K = K (g, zu mi (w + 4) j x, ml) := q_eI (N := 24) (Sy_w (q := (0, w + 4, 0, 21)) hs hw (by simp [zWl])) (Sy_w (q := (1, w + 4, 0, 24)) hs hw (by simp [zWl])) (by decide) hj
theorem A_cp4 {K : zH → Option ρ} {u : Nat} (hs : Sy g) (hw : zWL.contains w = true) (hu : zWL.contains u = true) : zcp ((g, mi, ml) : zH) (w + 4) (nI 0) (u + 4) (nI 0) (nI 24) K = K (g, zrw mi (u + 4) (va_cpy (mi (w + 4)) (mi (u + 4)) 0 0 24), ml) := q_cp (N := 24) (M := 24) (Sy_w (q := (0, w + 4, 0, 21)) hs hw (by simp [zWl])) (Sy_w (q := (0, u + 4, 0, 21)) hs hu (by simp [zWl])) (Sy_w (q := (1, w + 4, 0, 24)) hs hw (by simp [zWl])) (Sy_w (q := (1, u + 4, 0, 24)) hs hu (by simp [zWl])) (by decide) (by decide) (by decide) (by decide)
theorem A_aI5 {K : Int32 → Option ρ} (hs : Sy g) (hw : zWL.contains w = true) (hj : j < 24) : zaI ((g, mi, ml) : zH) 21 (w + 5) (nI j) K = K (mi (w + 5) j) := q_aI (N := 24) (Sy_w (q := (0, w + 5, 0, 21)) hs hw (by simp [zWl])) (Sy_w (q := (1, w + 5, 0, 24)) hs hw (by simp [zWl])) (by decide) hj
theorem A_eI5 {K : zH → Option ρ} {x : Int32} (hs : Sy g) (hw : zWL.contains w = true) (hj : j < 24) : zeI ((g, mi, ml) : zH) (w + 5) (nI j) x K = K (g, zu mi (w + 5) j x, ml) := q_eI (N := 24) (Sy_w (q := (0, w + 5, 0, 21)) hs hw (by simp [zWl])) (Sy_w (q := (1, w + 5, 0, 24)) hs hw (by simp [zWl])) (by decide) hj
theorem A_cp5 {K : zH → Option ρ} {u : Nat} (hs : Sy g) (hw : zWL.contains w = true) (hu : zWL.contains u = true) : zcp ((g, mi, ml) : zH) (w + 5) (nI 0) (u + 5) (nI 0) (nI 24) K = K (g, zrw mi (u + 5) (va_cpy (mi (w + 5)) (mi (u + 5)) 0 0 24), ml) := q_cp (N := 24) (M := 24) (Sy_w (q := (0, w + 5, 0, 21)) hs hw (by simp [zWl])) (Sy_w (q := (0, u + 5, 0, 21)) hs hu (by simp [zWl])) (Sy_w (q := (1, w + 5, 0, 24)) hs hw (by simp [zWl])) (Sy_w (q := (1, u + 5, 0, 24)) hs hu (by simp [zWl])) (by decide) (by decide) (by decide) (by decide)
theorem A_aI6 {K : Int32 → Option ρ} (hs : Sy g) (hw : zWL.contains w = true) (hj : j < 24) : zaI ((g, mi, ml) : zH) 21 (w + 6) (nI j) K = K (mi (w + 6) j) := q_aI (N := 24) (Sy_w (q := (0, w + 6, 0, 21)) hs hw (by simp [zWl])) (Sy_w (q := (1, w + 6, 0, 24)) hs hw (by simp [zWl])) (by decide) hj
theorem A_eI6 {K : zH → Option ρ} {x : Int32} (hs : Sy g) (hw : zWL.contains w = true) (hj : j < 24) : zeI ((g, mi, ml) : zH) (w + 6) (nI j) x K = K (g, zu mi (w + 6) j x, ml) := q_eI (N := 24) (Sy_w (q := (0, w + 6, 0, 21)) hs hw (by simp [zWl])) (Sy_w (q := (1, w + 6, 0, 24)) hs hw (by simp [zWl])) (by decide) hj
theorem A_cp6 {K : zH → Option ρ} {u : Nat} (hs : Sy g) (hw : zWL.contains w = true) (hu : zWL.contains u = true) : zcp ((g, mi, ml) : zH) (w + 6) (nI 0) (u + 6) (nI 0) (nI 24) K = K (g, zrw mi (u + 6) (va_cpy (mi (w + 6)) (mi (u + 6)) 0 0 24), ml) := q_cp (N := 24) (M := 24) (Sy_w (q := (0, w + 6, 0, 21)) hs hw (by simp [zWl])) (Sy_w (q := (0, u + 6, 0, 21)) hs hu (by simp [zWl])) (Sy_w (q := (1, w + 6, 0, 24)) hs hw (by simp [zWl])) (Sy_w (q := (1, u + 6, 0, 24)) hs hu (by simp [zWl])) (by decide) (by decide) (by decide) (by decide)
theorem A_aI7 {K : Int32 → Option ρ} (hs : Sy g) (hw : zWL.contains w = true) (hj : j < 24) : zaI ((g, mi, ml) : zH) 21 (w + 7) (nI j) K = K (mi (w + 7) j) := q_aI (N := 24) (Sy_w (q := (0, w + 7, 0, 21)) hs hw (by simp [zWl])) (Sy_w (q := (1, w + 7, 0, 24)) hs hw (by simp [zWl])) (by decide) hj
theorem A_eI7 {K : zH → Option ρ} {x : Int32} (hs : Sy g) (hw : zWL.contains w = true) (hj : j < 24) : zeI ((g, mi, ml) : zH) (w + 7) (nI j) x K = K (g, zu mi (w + 7) j x, ml) := q_eI (N := 24) (Sy_w (q := (0, w + 7, 0, 21)) hs hw (by simp [zWl])) (Sy_w (q := (1, w + 7, 0, 24)) hs hw (by simp [zWl])) (by decide) hj
theorem A_cp7 {K : zH → Option ρ} {u : Nat} (hs : Sy g) (hw : zWL.contains w = true) (hu : zWL.contains u = true) : zcp ((g, mi, ml) : zH) (w + 7) (nI 0) (u + 7) (nI 0) (nI 24) K = K (g, zrw mi (u + 7) (va_cpy (mi (w + 7)) (mi (u + 7)) 0 0 24), ml) := q_cp (N := 24) (M := 24) (Sy_w (q := (0, w + 7, 0, 21)) hs hw (by simp [zWl])) (Sy_w (q := (0, u + 7, 0, 21)) hs hu (by simp [zWl])) (Sy_w (q := (1, w + 7, 0, 24)) hs hw (by simp [zWl])) (Sy_w (q := (1, u + 7, 0, 24)) hs hu (by simp [zWl])) (by decide) (by decide) (by decide) (by decide)
theorem A_aI8 {K : Int32 → Option ρ} (hs : Sy g) (hw : zWL.contains w = true) (hj : j < 8) : zaI ((g, mi, ml) : zH) 21 (w + 8) (nI j) K = K (mi (w + 8) j) := q_aI (N := 8) (Sy_w (q := (0, w + 8, 0, 21)) hs hw (by simp [zWl])) (Sy_w (q := (1, w + 8, 0, 8)) hs hw (by simp [zWl])) (by decide) hj
theorem A_eI8 {K : zH → Option ρ} {x : Int32} (hs : Sy g) (hw : zWL.contains w = true) (hj : j < 8) : zeI ((g, mi, ml) : zH) (w + 8) (nI j) x K = K (g, zu mi (w + 8) j x, ml) := q_eI (N := 8) (Sy_w (q := (0, w + 8, 0, 21)) hs hw (by simp [zWl])) (Sy_w (q := (1, w + 8, 0, 8)) hs hw (by simp [zWl])) (by decide) hj
theorem A_cp8 {K : zH → Option ρ} {u : Nat} (hs : Sy g) (hw : zWL.contains w = true) (hu : zWL.contains u = true) : zcp ((g, mi, ml) : zH) (w + 8) (nI 0) (u + 8) (nI 0) (nI 8) K = K (g, zrw mi (u + 8) (va_cpy (mi (w + 8)) (mi (u + 8)) 0 0 8), ml) := q_cp (N := 8) (M := 8) (Sy_w (q := (0, w + 8, 0, 21)) hs hw (by simp [zWl])) (Sy_w (q := (0, u + 8, 0, 21)) hs hu (by simp [zWl])) (Sy_w (q := (1, w + 8, 0, 8)) hs hw (by simp [zWl])) (Sy_w (q := (1, u + 8, 0, 8)) hs hu (by simp [zWl])) (by decide) (by decide) (by decide) (by decide)
theorem A_aI9 {K : Int32 → Option ρ} (hs : Sy g) (hw : zWL.contains w = true) (hj : j < 8) : zaI ((g, mi, ml) : zH) 21 (w + 9) (nI j) K = K (mi (w + 9) j) := q_aI (N := 8) (Sy_w (q := (0, w + 9, 0, 21)) hs hw (by simp [zWl])) (Sy_w (q := (1, w + 9, 0, 8)) hs hw (by simp [zWl])) (by decide) hj
theorem A_eI9 {K : zH → Option ρ} {x : Int32} (hs : Sy g) (hw : zWL.contains w = true) (hj : j < 8) : zeI ((g, mi, ml) : zH) (w + 9) (nI j) x K = K (g, zu mi (w + 9) j x, ml) := q_eI (N := 8) (Sy_w (q := (0, w + 9, 0, 21)) hs hw (by simp [zWl])) (Sy_w (q := (1, w + 9, 0, 8)) hs hw (by simp [zWl])) (by decide) hj
theorem A_cp9 {K : zH → Option ρ} {u : Nat} (hs : Sy g) (hw : zWL.contains w = true) (hu : zWL.contains u = true) : zcp ((g, mi, ml) : zH) (w + 9) (nI 0) (u + 9) (nI 0) (nI 8) K = K (g, zrw mi (u + 9) (va_cpy (mi (w + 9)) (mi (u + 9)) 0 0 8), ml) := q_cp (N := 8) (M := 8) (Sy_w (q := (0, w + 9, 0, 21)) hs hw (by simp [zWl])) (Sy_w (q := (0, u + 9, 0, 21)) hs hu (by simp [zWl])) (Sy_w (q := (1, w + 9, 0, 8)) hs hw (by simp [zWl])) (Sy_w (q := (1, u + 9, 0, 8)) hs hu (by simp [zWl])) (by decide) (by decide) (by decide) (by decide)
theorem A_cpx {K : zH → Option ρ} (hs : Sy g) (hw : zWL.contains w = true) : zcp ((g, mi, ml) : zH) (w + 6) (nI 0) (w + 7) (nI 0) (nI 24) K = K (g, zrw mi (w + 7) (va_cpy (mi (w + 6)) (mi (w + 7)) 0 0 24), ml) := q_cp (N := 24) (M := 24) (Sy_w (q := (0, w + 6, 0, 21)) hs hw (by simp [zWl])) (Sy_w (q := (0, w + 7, 0, 21)) hs hw (by simp [zWl])) (Sy_w (q := (1, w + 6, 0, 24)) hs hw (by simp [zWl])) (Sy_w (q := (1, w + 7, 0, 24)) hs hw (by simp [zWl])) (by decide) (by decide) (by decide) (by decide)
end
theorem zu_s {α : Type} (m : Nat → Nat → α) (a k : Nat) (x : α) : zu m a k x a k = x := by simp [zu]
theorem zu_k {α : Type} {m : Nat → Nat → α} {a k j : Nat} {x : α} (h : j ≠ k) : zu m a k x a j = m a j := by simp [zu, h]
theorem zu_a {α : Type} {m : Nat → Nat → α} {a k b : Nat} {x : α} (h : b ≠ a) : zu m a k x b = m b := by simp [zu, h]
theorem zrw_a {α : Type} {m : Nat → Nat → α} {a b : Nat} {f : Nat → α} (h : b ≠ a) : zrw m a f b = m b := by simp [zrw, h]
/-! bits of a small number -/
def bI (b p : Nat) : Int32 := if Nat.testBit b p then nI 1 else nI 0
theorem bI_0 (b p : Nat) : (bI b p = nI 0) = (Nat.testBit b p = false) := by
  unfold bI
  cases Nat.testBit b p <;> simp <;> decide
theorem bI_1 (b p : Nat) : (bI b p = nI 1) = (Nat.testBit b p = true) := by
  unfold bI
  cases Nat.testBit b p <;> simp <;> decide
theorem bI_or (b p : Nat) : bI b p = nI 0 ∨ bI b p = nI 1 := by
  unfold bI
  cases Nat.testBit b p
  · exact Or.inl rfl
  · exact Or.inr rfl
theorem bt_and : ∀ b, b < 256 → ∀ p, p < 8 → (nI b &&& (nI 1 <<< (nI p &&& nI 31)) = nI 0 ↔ Nat.testBit b p = false) := by decide +kernel
theorem bt_or : ∀ b, b < 256 → ∀ p, p < 8 → nI b ||| (nI 1 <<< (nI p &&& nI 31)) = nI (b ||| 2 ^ p) ∧ b ||| 2 ^ p < 256 := by decide +kernel
theorem bt_nd : ∀ b, b < 256 → ∀ p, p < 8 → nI b &&& ((nI 1 <<< (nI p &&& nI 31)) ^^^ m1) = nI (b &&& (255 - 2 ^ p)) ∧ b &&& (255 - 2 ^ p) < 256 := by decide +kernel
theorem bt_orT : ∀ b, b < 256 → ∀ p, p < 8 → ∀ q, q < 8 → Nat.testBit (b ||| 2 ^ p) q = (decide (q = p) || Nat.testBit b q) := by decide +kernel
theorem bt_ndT : ∀ b, b < 256 → ∀ p, p < 8 → ∀ q, q < 8 → Nat.testBit (b &&& (255 - 2 ^ p)) q = (!decide (q = p) && Nat.testBit b q) := by decide +kernel
/-! a world and the row that it is told by -/
def Bt (x : Int32) (v : Nat → Int32) (k : Nat) : Prop := ∃ b, b < 256 ∧ x = nI b ∧ ∀ p, p < 8 → v (k + p) = bI b p
def WR (mi : Nat → Nat → Int32) (w : Nat) (v : Nat → Int32) : Prop :=
  ((∀ j, j < 24 → mi (w + 2) j = v j) ∧ (∀ j, j < 24 → mi (w + 3) j = v (24 + j)) ∧ (∀ j, j < 24 → mi (w + 4) j = v (48 + j)) ∧ ∀ j, j < 24 → mi (w + 5) j = v (72 + j)) ∧
  (mi (w + 1) 6 = v 96 ∧ mi (w + 1) 7 = v 139 ∧ mi (w + 1) 8 = v 164) ∧
  ((∀ j, j < 24 → nI j < v 139 → mi (w + 6) j = v (140 + j)) ∧ ∀ j, j < 24 → nI j < v 164 → mi (w + 7) j = v (165 + j)) ∧
  ((∀ p, p < 8 → mi (w + 8) p = v (105 + p)) ∧ ∀ q, q < 8 → 0 < q → mi (w + 9) q = v (131 + q)) ∧
  (Bt (mi w 3) v 97 ∧ Bt (mi w 4) v 113 ∧ Bt (mi w 5) v 121) ∧
  (mi w 6 = v 129 ∧ mi w 7 = v 130 ∧ mi w 8 = v 189 ∧ mi w 9 = v 190)
theorem WR_cong {mi mi' : Nat → Nat → Int32} {w : Nat} {v : Nat → Int32} (h : WR mi w v) (e : ∀ a, w ≤ a → a < w + 10 → mi' a = mi a) : WR mi' w v := by
  unfold WR at h ⊢
  rw [e w (by omega) (by omega), e (w + 1) (by omega) (by omega), e (w + 2) (by omega) (by omega), e (w + 3) (by omega) (by omega), e (w + 4) (by omega) (by omega), e (w + 5) (by omega) (by omega), e (w + 6) (by omega) (by omega), e (w + 7) (by omega) (by omega), e (w + 8) (by omega) (by omega), e (w + 9) (by omega) (by omega)]
  exact h
theorem Bt_cong {x : Int32} {v v' : Nat → Int32} {k : Nat} (h : Bt x v k) (e : ∀ p, p < 8 → v' (k + p) = v (k + p)) : Bt x v' k := by
  obtain ⟨b, h1, h2, h3⟩ := h
  exact ⟨b, h1, h2, fun p hp => by rw [e p hp, h3 p hp]⟩
theorem WR_congv {mi : Nat → Nat → Int32} {w : Nat} {v v' : Nat → Int32} (h : WR mi w v) (e : ∀ k, k < 191 → v' k = v k) : WR mi w v' := by
  obtain ⟨⟨a1, a2, a3, a4⟩, ⟨b1, b2, b3⟩, ⟨c1, c2⟩, ⟨d1, d2⟩, ⟨e1, e2, e3⟩, f1, f2, f3, f4⟩ := h
  refine ⟨⟨fun j hj => ?_, fun j hj => ?_, fun j hj => ?_, fun j hj => ?_⟩, ⟨?_, ?_, ?_⟩, ⟨fun j hj hh => ?_, fun j hj hh => ?_⟩, ⟨fun j hj => ?_, fun j hj hh => ?_⟩, ⟨Bt_cong e1 ?_, Bt_cong e2 ?_, Bt_cong e3 ?_⟩, ?_, ?_, ?_, ?_⟩
  · rw [e _ (by omega), a1 j hj]
  · rw [e _ (by omega), a2 j hj]
  · rw [e _ (by omega), a3 j hj]
  · rw [e _ (by omega), a4 j hj]
  · rw [e _ (by omega), b1]
  · rw [e _ (by omega), b2]
  · rw [e _ (by omega), b3]
  · rw [e _ (by omega), c1 j hj (by rw [e _ (by omega)] at hh; exact hh)]
  · rw [e _ (by omega), c2 j hj (by rw [e _ (by omega)] at hh; exact hh)]
  · rw [e _ (by omega), d1 j hj]
  · rw [e _ (by omega), d2 j hj hh]
  · intro p hp; rw [e _ (by omega)]
  · intro p hp; rw [e _ (by omega)]
  · intro p hp; rw [e _ (by omega)]
  · rw [e _ (by omega), f1]
  · rw [e _ (by omega), f2]
  · rw [e _ (by omega), f3]
  · rw [e _ (by omega), f4]
