/-! the Java side knows the words -/
theorem z10 {α : Type} {x y : α} : (if (1 : Int32) = 0 then x else y) = y := if_neg (by decide)
theorem z00 {α : Type} {x y : α} : (if (0 : Int32) = 0 then x else y) = x := if_pos rfl
section
variable {g : zS} {M : Nat → Nat → Int32} {ml : Nat → Nat → Int64} {ct : Int32} {k1 k2 k3 : Nat → Int32} {n len : Nat} {b : Nat → Nat}
theorem q_sz {ρ : Type} {K : Int32 → zH → Option ρ} (hs : Sy g) (h : TPc M b len) (hn : 3000 < n) {s k to : Nat} {w : List Nat} (hs9 : s < 29) (hk : k ≤ to) (ht : to ≤ len) (hw : WN.getD s [] = w) : zb (f_X9_same n 408 (nI k) (nI to) s (g, Qs M ct k1 k2 k3, ml)) K = if sg b (to - k) k = w then K 1 (g, Qs M ct k1 k2 k3, ml) else K 0 (g, Qs M ct k1 k2 k3, ml) := by
  rw [q_sm hs h hn hs9 hk ht, zb_s, hw]
  by_cases z : sg b (to - k) k = w
  · rw [if_pos z, if_pos z]; rfl
  · rw [if_neg z, if_neg z]; rfl
theorem q_wl (hs : Sy g) (h : TPc M b len) (hn : 3000 < n) {k to : Nat} (hk : k ≤ to) (ht : to ≤ len) : f_X9_wordFrom n 408 (nI k) (nI to) (tB false) (g, Qs M ct k1 k2 k3, ml) = some (nI (km false (wd (sg b (to - k) k))), (g, Qs M ct k1 k2 k3, ml)) := by
  have e : tB false = (0 : Int32) := rfl
  rw [e]
  unfold f_X9_wordFrom
  simp only [↓q_sz hs h hn (s := 0) (w := [105, 102]) (by decide) hk ht rfl, ↓q_sz hs h hn (s := 1) (w := [111, 114]) (by decide) hk ht rfl, ↓q_sz hs h hn (s := 2) (w := [97, 110, 100]) (by decide) hk ht rfl, ↓q_sz hs h hn (s := 3) (w := [110, 111, 116]) (by decide) hk ht rfl, ↓z10, ↓z00]
  unfold f_X9_lawWord
  simp only [↓q_sz hs h hn (s := 4) (w := [99, 111, 115, 116, 115]) (by decide) hk ht rfl, ↓q_sz hs h hn (s := 5) (w := [98, 97, 114, 115]) (by decide) hk ht rfl, ↓q_sz hs h hn (s := 6) (w := [110, 111, 100, 101]) (by decide) hk ht rfl, ↓q_sz hs h hn (s := 7) (w := [108, 101, 118, 101, 108]) (by decide) hk ht rfl, ↓q_sz hs h hn (s := 8) (w := [99, 104, 105, 108, 100]) (by decide) hk ht rfl, ↓q_sz hs h hn (s := 9) (w := [109, 97, 110, 121]) (by decide) hk ht rfl, ↓q_sz hs h hn (s := 10) (w := [107, 101, 121]) (by decide) hk ht rfl, ↓q_sz hs h hn (s := 11) (w := [116, 105, 109, 101]) (by decide) hk ht rfl, ↓q_sz hs h hn (s := 12) (w := [109, 111, 111, 100]) (by decide) hk ht rfl, ↓z10, ↓z00]
  generalize sg b (to - k) k = s
  by_cases h0 : s = [105, 102]
  · subst h0; rfl
  by_cases h1 : s = [111, 114]
  · subst h1; rfl
  by_cases h2 : s = [97, 110, 100]
  · subst h2; rfl
  by_cases h3 : s = [110, 111, 116]
  · subst h3; rfl
  by_cases h4 : s = [99, 111, 115, 116, 115]
  · subst h4; rfl
  by_cases h5 : s = [98, 97, 114, 115]
  · subst h5; rfl
  by_cases h6 : s = [110, 111, 100, 101]
  · subst h6; rfl
  by_cases h7 : s = [108, 101, 118, 101, 108]
  · subst h7; rfl
  by_cases h8 : s = [99, 104, 105, 108, 100]
  · subst h8; rfl
  by_cases h9 : s = [109, 97, 110, 121]
  · subst h9; rfl
  by_cases h10 : s = [107, 101, 121]
  · subst h10; rfl
  by_cases h11 : s = [116, 105, 109, 101]
  · subst h11; rfl
  by_cases h12 : s = [109, 111, 111, 100]
  · subst h12; rfl
  have e : km false (wd s) = 2 := by
    by_cases h25 : s = [100, 111, 110, 101]
    · subst h25; rfl
    by_cases h26 : s = [108, 97, 116, 101, 115, 116]
    · subst h26; rfl
    by_cases h27 : s = [119, 97, 105, 116, 115]
    · subst h27; rfl
    by_cases h28 : s = [103, 114, 97, 99, 101, 115]
    · subst h28; rfl
    by_cases h23 : s = [97, 116]
    · subst h23; rfl
    by_cases h24 : s = [118, 97, 108, 117, 101]
    · subst h24; rfl
    by_cases h13 : s = [112, 117, 116]
    · subst h13; rfl
    by_cases h21 : s = [97, 115]
    · subst h21; rfl
    by_cases h14 : s = [100, 114, 111, 112]
    · subst h14; rfl
    by_cases h15 : s = [101, 110, 116, 101, 114]
    · subst h15; rfl
    by_cases h16 : s = [115, 116, 101, 112]
    · subst h16; rfl
    by_cases h17 : s = [112, 97, 114, 107]
    · subst h17; rfl
    by_cases h18 : s = [108, 101, 97, 118, 101]
    · subst h18; rfl
    by_cases h19 : s = [116, 105, 99, 107]
    · subst h19; rfl
    by_cases h20 : s = [98, 101, 103, 105, 110]
    · subst h20; rfl
    by_cases h22 : s = [116, 105, 109, 101, 115]
    · subst h22; rfl
    unfold wd WS
    simp only [wdx, h4, h5, h0, h1, h2, h3, h6, h7, h8, h9, h10, h12, h11, h25, h26, h27, h28, h23, h24, h13, h21, h14, h15, h16, h17, h18, h19, h20, h22, if_F]
    rfl
  rw [e]
  simp only [h0, h1, h2, h3, h4, h5, h6, h7, h8, h9, h10, h11, h12, if_F, if_T]
  rfl
theorem q_wo (hs : Sy g) (h : TPc M b len) (hn : 3000 < n) {k to : Nat} (hk : k ≤ to) (ht : to ≤ len) : f_X9_wordFrom n 408 (nI k) (nI to) (tB true) (g, Qs M ct k1 k2 k3, ml) = some (nI (km true (wd (sg b (to - k) k))), (g, Qs M ct k1 k2 k3, ml)) := by
  have e : tB true = (1 : Int32) := rfl
  rw [e]
  unfold f_X9_wordFrom
  simp only [↓q_sz hs h hn (s := 0) (w := [105, 102]) (by decide) hk ht rfl, ↓q_sz hs h hn (s := 1) (w := [111, 114]) (by decide) hk ht rfl, ↓q_sz hs h hn (s := 2) (w := [97, 110, 100]) (by decide) hk ht rfl, ↓q_sz hs h hn (s := 3) (w := [110, 111, 116]) (by decide) hk ht rfl, ↓z10, ↓z00]
  have ea : ∀ H : zH, H = (g, Qs M ct k1 k2 k3, ml) → f_X9_actWord n 408 (nI k) (nI to) H = some (if sg b (to - k) k = [112, 117, 116] then 300 else if sg b (to - k) k = [100, 114, 111, 112] then 301 else if sg b (to - k) k = [101, 110, 116, 101, 114] then 302 else if sg b (to - k) k = [115, 116, 101, 112] then 303 else if sg b (to - k) k = [112, 97, 114, 107] then 304 else if sg b (to - k) k = [108, 101, 97, 118, 101] then 305 else if sg b (to - k) k = [116, 105, 99, 107] then 306 else if sg b (to - k) k = [98, 101, 103, 105, 110] then 307 else 2, H) := by
    intro H hH
    subst hH
    unfold f_X9_actWord
    simp only [↓q_sz hs h hn (s := 13) (w := [112, 117, 116]) (by decide) hk ht rfl, ↓q_sz hs h hn (s := 14) (w := [100, 114, 111, 112]) (by decide) hk ht rfl, ↓q_sz hs h hn (s := 15) (w := [101, 110, 116, 101, 114]) (by decide) hk ht rfl, ↓q_sz hs h hn (s := 16) (w := [115, 116, 101, 112]) (by decide) hk ht rfl, ↓q_sz hs h hn (s := 17) (w := [112, 97, 114, 107]) (by decide) hk ht rfl, ↓q_sz hs h hn (s := 18) (w := [108, 101, 97, 118, 101]) (by decide) hk ht rfl, ↓q_sz hs h hn (s := 19) (w := [116, 105, 99, 107]) (by decide) hk ht rfl, ↓q_sz hs h hn (s := 20) (w := [98, 101, 103, 105, 110]) (by decide) hk ht rfl, ↓z10, ↓z00]
    generalize sg b (to - k) k = s
    repeat
      split
      · rfl
    rfl
  have eo : ∀ H : zH, H = (g, Qs M ct k1 k2 k3, ml) → f_X9_orderWord n 408 (nI k) (nI to) H = some (if sg b (to - k) k = [97, 115] then 260 else if sg b (to - k) k = [116, 105, 109, 101, 115] then 261 else if sg b (to - k) k = [97, 116] then 264 else if sg b (to - k) k = [118, 97, 108, 117, 101] then 265 else if sg b (to - k) k = [116, 105, 109, 101] then 400 else if sg b (to - k) k = [100, 111, 110, 101] then 401 else if sg b (to - k) k = [108, 97, 116, 101, 115, 116] then 402 else if sg b (to - k) k = [119, 97, 105, 116, 115] then 403 else if sg b (to - k) k = [103, 114, 97, 99, 101, 115] then 404 else 2, H) := by
    intro H hH
    subst hH
    unfold f_X9_orderWord
    simp only [↓q_sz hs h hn (s := 21) (w := [97, 115]) (by decide) hk ht rfl, ↓q_sz hs h hn (s := 22) (w := [116, 105, 109, 101, 115]) (by decide) hk ht rfl, ↓q_sz hs h hn (s := 23) (w := [97, 116]) (by decide) hk ht rfl, ↓q_sz hs h hn (s := 24) (w := [118, 97, 108, 117, 101]) (by decide) hk ht rfl, ↓q_sz hs h hn (s := 11) (w := [116, 105, 109, 101]) (by decide) hk ht rfl, ↓q_sz hs h hn (s := 25) (w := [100, 111, 110, 101]) (by decide) hk ht rfl, ↓q_sz hs h hn (s := 26) (w := [108, 97, 116, 101, 115, 116]) (by decide) hk ht rfl, ↓q_sz hs h hn (s := 27) (w := [119, 97, 105, 116, 115]) (by decide) hk ht rfl, ↓q_sz hs h hn (s := 28) (w := [103, 114, 97, 99, 101, 115]) (by decide) hk ht rfl, ↓z10, ↓z00]
    generalize sg b (to - k) k = s
    repeat
      split
      · rfl
    rfl
  rw [ea _ rfl, zb_s, eo _ rfl, zb_s]
  generalize sg b (to - k) k = s
  by_cases h0 : s = [105, 102]
  · subst h0; rfl
  by_cases h1 : s = [111, 114]
  · subst h1; rfl
  by_cases h2 : s = [97, 110, 100]
  · subst h2; rfl
  by_cases h3 : s = [110, 111, 116]
  · subst h3; rfl
  by_cases h13 : s = [112, 117, 116]
  · subst h13; rfl
  by_cases h14 : s = [100, 114, 111, 112]
  · subst h14; rfl
  by_cases h15 : s = [101, 110, 116, 101, 114]
  · subst h15; rfl
  by_cases h16 : s = [115, 116, 101, 112]
  · subst h16; rfl
  by_cases h17 : s = [112, 97, 114, 107]
  · subst h17; rfl
  by_cases h18 : s = [108, 101, 97, 118, 101]
  · subst h18; rfl
  by_cases h19 : s = [116, 105, 99, 107]
  · subst h19; rfl
  by_cases h20 : s = [98, 101, 103, 105, 110]
  · subst h20; rfl
  by_cases h21 : s = [97, 115]
  · subst h21; rfl
  by_cases h22 : s = [116, 105, 109, 101, 115]
  · subst h22; rfl
  by_cases h23 : s = [97, 116]
  · subst h23; rfl
  by_cases h24 : s = [118, 97, 108, 117, 101]
  · subst h24; rfl
  by_cases h11 : s = [116, 105, 109, 101]
  · subst h11; rfl
  by_cases h25 : s = [100, 111, 110, 101]
  · subst h25; rfl
  by_cases h26 : s = [108, 97, 116, 101, 115, 116]
  · subst h26; rfl
  by_cases h27 : s = [119, 97, 105, 116, 115]
  · subst h27; rfl
  by_cases h28 : s = [103, 114, 97, 99, 101, 115]
  · subst h28; rfl
  have e : km true (wd s) = 2 := by
    by_cases h4 : s = [99, 111, 115, 116, 115]
    · subst h4; rfl
    by_cases h5 : s = [98, 97, 114, 115]
    · subst h5; rfl
    by_cases h6 : s = [110, 111, 100, 101]
    · subst h6; rfl
    by_cases h7 : s = [108, 101, 118, 101, 108]
    · subst h7; rfl
    by_cases h8 : s = [99, 104, 105, 108, 100]
    · subst h8; rfl
    by_cases h9 : s = [109, 97, 110, 121]
    · subst h9; rfl
    by_cases h10 : s = [107, 101, 121]
    · subst h10; rfl
    by_cases h12 : s = [109, 111, 111, 100]
    · subst h12; rfl
    unfold wd WS
    simp only [wdx, h4, h5, h0, h1, h2, h3, h6, h7, h8, h9, h10, h12, h11, h25, h26, h27, h28, h23, h24, h13, h21, h14, h15, h16, h17, h18, h19, h20, h22, if_F]
    rfl
  rw [e]
  simp only [h0, h1, h2, h3, h13, h14, h15, h16, h17, h18, h19, h20, h21, h22, h23, h24, h11, h25, h26, h27, h28, if_F, if_T]
  rfl
end
