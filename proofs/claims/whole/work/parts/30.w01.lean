set_option maxRecDepth 20000 in
set_option maxHeartbeats 1000000 in
theorem wb_X4_runs_329 (G : zG) (n : Nat) (k20 : Nat → Nat → Int32 → Int32 → Int32 → zH → Option (Int32 × zH)) (hk20 : ∀ (l0 : Nat) (l1 : Nat) (l3 : Int32) (l4 : Int32) (l5 : Int32) (h : zH), zW G yX4_runs cX4_runs 9 (some .boolean) zvI 2 20 [(0, .ref (zbase G + l0)), (1, .ref (zbase G + l1)), (3, .int l3), (4, .int l4), (5, .int l5)] [] h (k20 l0 l1 l3 l4 l5 h)) (l0 : Nat) (l1 : Nat) (l3 : Int32) (l4 : Int32) (l5 : Int32) (h : zH) : zW G yX4_runs cX4_runs 9 (some .boolean) zvI 2 329 [(0, .ref (zbase G + l0)), (1, .ref (zbase G + l1)), (3, .int l3), (4, .int l4), (5, .int l5)] [] h (fb_X4_runs_329 n k20 l0 l1 l3 l4 l5 h) := by
  unfold fb_X4_runs_329
  refine zi_iinc (j := 4) (v := l5 + 1) (l' := [(5, .int (l5 + 1)), (0, .ref (zbase G + l0)), (1, .ref (zbase G + l1)), (3, .int l3), (4, .int l4)]) dX4_runs_329 rfl rfl (by decide) rfl ?_
  refine zi_goto (tgt := 20) dX4_runs_332 (by decide) ?_
  refine zi_sub [1, 2, 3, 4, 0] rfl ?_
  exact hk20 l0 l1 l3 l4 (l5 + 1) h
set_option maxRecDepth 20000 in
set_option maxHeartbeats 1000000 in
theorem wb_X4_runs_134 (G : zG) (n : Nat) (k20 : Nat → Nat → Int32 → Int32 → Int32 → zH → Option (Int32 × zH)) (hk20 : ∀ (l0 : Nat) (l1 : Nat) (l3 : Int32) (l4 : Int32) (l5 : Int32) (h : zH), zW G yX4_runs cX4_runs 9 (some .boolean) zvI 2 20 [(0, .ref (zbase G + l0)), (1, .ref (zbase G + l1)), (3, .int l3), (4, .int l4), (5, .int l5)] [] h (k20 l0 l1 l3 l4 l5 h)) (l0 : Nat) (l1 : Nat) (l3 : Int32) (l4 : Int32) (l5 : Int32) (s0 : Nat) (s1 : Int32) (s2 : Int64) (h : zH) : zW G yX4_runs cX4_runs 9 (some .boolean) zvI 2 134 [(0, .ref (zbase G + l0)), (1, .ref (zbase G + l1)), (3, .int l3), (4, .int l4), (5, .int l5)] [.long s2, .int s1, .ref (zbase G + s0)] h (fb_X4_runs_134 n k20 l0 l1 l3 l4 l5 s0 s1 s2 h) := by
  unfold fb_X4_runs_134
  refine zi_last dX4_runs_134 (fun h1 => ?_)
  refine zi_iinc (j := 2) (v := l3 + 1) (l' := [(3, .int (l3 + 1)), (0, .ref (zbase G + l0)), (1, .ref (zbase G + l1)), (4, .int l4), (5, .int l5)]) dX4_runs_135 rfl rfl (by decide) rfl ?_
  refine zi_goto (tgt := 329) dX4_runs_138 (by decide) ?_
  refine zi_sub [1, 2, 0, 3, 4] rfl ?_
  exact wb_X4_runs_329 G n k20 hk20 l0 l1 (l3 + 1) l4 l5 h1
set_option maxRecDepth 20000 in
set_option maxHeartbeats 1000000 in
theorem wb_X4_runs_110 (G : zG) (n : Nat) (k20 : Nat → Nat → Int32 → Int32 → Int32 → zH → Option (Int32 × zH)) (hk20 : ∀ (l0 : Nat) (l1 : Nat) (l3 : Int32) (l4 : Int32) (l5 : Int32) (h : zH), zW G yX4_runs cX4_runs 9 (some .boolean) zvI 2 20 [(0, .ref (zbase G + l0)), (1, .ref (zbase G + l1)), (3, .int l3), (4, .int l4), (5, .int l5)] [] h (k20 l0 l1 l3 l4 l5 h)) (l0 : Nat) (l1 : Nat) (l3 : Int32) (l4 : Int32) (l5 : Int32) (l6 : Int32) (l7 : Int32) (h : zH) : zW G yX4_runs cX4_runs 9 (some .boolean) zvI 2 110 [(0, .ref (zbase G + l0)), (1, .ref (zbase G + l1)), (3, .int l3), (4, .int l4), (5, .int l5), (6, .int l6), (7, .int l7)] [] h (fb_X4_runs_110 n k20 l0 l1 l3 l4 l5 l6 l7 h) := by
  unfold fb_X4_runs_110
  refine zi_aload_n dX4_runs_110 rfl 0 rfl ?_
  refine zi_getR dX4_runs_111 gf_X4_17 (fun v1 => ?_)
  refine zi_iload_n dX4_runs_114 rfl 2 rfl ?_
  refine zi_iload dX4_runs_115 5 rfl ?_
  refine zi_if_ne (tgt := 126) dX4_runs_117 (by decide) ?_ ?_
  · refine zi_aload_n dX4_runs_126 rfl 0 rfl ?_
    refine zi_getR dX4_runs_127 gf_X4_11 (fun v2 => ?_)
    refine zi_iload dX4_runs_130 6 rfl ?_
    refine zi_iald dX4_runs_132 (fun v3 => ?_)
    refine zi_i2l dX4_runs_133 ?_
    refine zi_sub [0, 1, 2, 3, 4] rfl ?_
    exact wb_X4_runs_134 G n k20 hk20 l0 l1 l3 l4 l5 v1 l3 (Int32.toInt64 v3) h
  · refine zi_iload dX4_runs_120 6 rfl ?_
    refine zi_i2l dX4_runs_122 ?_
    refine zi_goto (tgt := 134) dX4_runs_123 (by decide) ?_
    refine zi_sub [0, 1, 2, 3, 4] rfl ?_
    exact wb_X4_runs_134 G n k20 hk20 l0 l1 l3 l4 l5 v1 l3 (Int32.toInt64 l7) h
set_option maxRecDepth 20000 in
set_option maxHeartbeats 1000000 in
theorem wb_X4_runs_77 (G : zG) (n : Nat) (k20 : Nat → Nat → Int32 → Int32 → Int32 → zH → Option (Int32 × zH)) (hk20 : ∀ (l0 : Nat) (l1 : Nat) (l3 : Int32) (l4 : Int32) (l5 : Int32) (h : zH), zW G yX4_runs cX4_runs 9 (some .boolean) zvI 2 20 [(0, .ref (zbase G + l0)), (1, .ref (zbase G + l1)), (3, .int l3), (4, .int l4), (5, .int l5)] [] h (k20 l0 l1 l3 l4 l5 h)) (l0 : Nat) (l1 : Nat) (l3 : Int32) (l4 : Int32) (l5 : Int32) (l6 : Int32) (l7 : Int32) (h : zH) : zW G yX4_runs cX4_runs 9 (some .boolean) zvI 2 77 [(0, .ref (zbase G + l0)), (1, .ref (zbase G + l1)), (3, .int l3), (4, .int l4), (5, .int l5), (6, .int l6), (7, .int l7)] [] h (fb_X4_runs_77 n k20 l0 l1 l3 l4 l5 l6 l7 h) := by
  unfold fb_X4_runs_77
  refine zi_iload_n dX4_runs_77 rfl 2 rfl ?_
  refine zi_if_lt (tgt := 108) dX4_runs_78 (by decide) ?_ ?_
  · refine zi_iconst (v := 0) dX4_runs_108 (by decide) ?_
    exact zi_ret0 dX4_runs_109
  · refine zi_iload_n dX4_runs_81 rfl 2 rfl ?_
    refine zi_bipush (v := 64) dX4_runs_82 (by decide) ?_
    refine zi_icmp_ge (tgt := 108) dX4_runs_84 (by decide) ?_ ?_
    · refine zi_iconst (v := 0) dX4_runs_108 (by decide) ?_
      exact zi_ret0 dX4_runs_109
    · refine zi_iload dX4_runs_87 6 rfl ?_
      refine zi_if_lt (tgt := 108) dX4_runs_89 (by decide) ?_ ?_
      · refine zi_iconst (v := 0) dX4_runs_108 (by decide) ?_
        exact zi_ret0 dX4_runs_109
      · refine zi_iload dX4_runs_92 5 rfl ?_
        refine zi_iconst (v := 1) dX4_runs_94 (by decide) ?_
        refine zi_icmp_ne (tgt := 110) dX4_runs_95 (by decide) ?_ ?_
        · refine zi_sub [0, 1, 2, 3, 4, 5, 6] rfl ?_
          exact wb_X4_runs_110 G n k20 hk20 l0 l1 l3 l4 l5 l6 l7 h
        · refine zi_iload dX4_runs_98 6 rfl ?_
          refine zi_aload_n dX4_runs_100 rfl 0 rfl ?_
          refine zi_getR dX4_runs_101 gf_X4_11 (fun v1 => ?_)
          refine zi_alen (Or.inl rfl) dX4_runs_104 (fun v2 => ?_)
          refine zi_icmp_lt (tgt := 110) dX4_runs_105 (by decide) ?_ ?_
          · refine zi_sub [0, 1, 2, 3, 4, 5, 6] rfl ?_
            exact wb_X4_runs_110 G n k20 hk20 l0 l1 l3 l4 l5 l6 l7 h
          · refine zi_iconst (v := 0) dX4_runs_108 (by decide) ?_
            exact zi_ret0 dX4_runs_109
set_option maxRecDepth 20000 in
set_option maxHeartbeats 1000000 in
theorem wb_X4_runs_278 (G : zG) (n : Nat) (k20 : Nat → Nat → Int32 → Int32 → Int32 → zH → Option (Int32 × zH)) (hk20 : ∀ (l0 : Nat) (l1 : Nat) (l3 : Int32) (l4 : Int32) (l5 : Int32) (h : zH), zW G yX4_runs cX4_runs 9 (some .boolean) zvI 2 20 [(0, .ref (zbase G + l0)), (1, .ref (zbase G + l1)), (3, .int l3), (4, .int l4), (5, .int l5)] [] h (k20 l0 l1 l3 l4 l5 h)) (l0 : Nat) (l1 : Nat) (l4 : Int32) (l5 : Int32) (s0 : Int32) (h : zH) : zW G yX4_runs cX4_runs 9 (some .boolean) zvI 2 278 [(0, .ref (zbase G + l0)), (1, .ref (zbase G + l1)), (4, .int l4), (5, .int l5)] [.int s0] h (fb_X4_runs_278 n k20 l0 l1 l4 l5 s0 h) := by
  unfold fb_X4_runs_278
  refine zi_istore_n (l' := [(3, .int s0), (0, .ref (zbase G + l0)), (1, .ref (zbase G + l1)), (4, .int l4), (5, .int l5)]) dX4_runs_278 rfl (by decide) rfl ?_
  refine zi_goto (tgt := 329) dX4_runs_279 (by decide) ?_
  refine zi_sub [1, 2, 0, 3, 4] rfl ?_
  exact wb_X4_runs_329 G n k20 hk20 l0 l1 s0 l4 l5 h
set_option maxRecDepth 20000 in
set_option maxHeartbeats 1000000 in
theorem wb_X4_runs_264 (G : zG) (n : Nat) (k20 : Nat → Nat → Int32 → Int32 → Int32 → zH → Option (Int32 × zH)) (hk20 : ∀ (l0 : Nat) (l1 : Nat) (l3 : Int32) (l4 : Int32) (l5 : Int32) (h : zH), zW G yX4_runs cX4_runs 9 (some .boolean) zvI 2 20 [(0, .ref (zbase G + l0)), (1, .ref (zbase G + l1)), (3, .int l3), (4, .int l4), (5, .int l5)] [] h (k20 l0 l1 l3 l4 l5 h)) (l0 : Nat) (l1 : Nat) (l3 : Int32) (l5 : Int32) (l8 : Int32) (s0 : Int32) (h : zH) : zW G yX4_runs cX4_runs 9 (some .boolean) zvI 2 264 [(0, .ref (zbase G + l0)), (1, .ref (zbase G + l1)), (3, .int l3), (5, .int l5), (8, .int l8)] [.int s0] h (fb_X4_runs_264 n k20 l0 l1 l3 l5 l8 s0 h) := by
  unfold fb_X4_runs_264
  refine zi_istore (l' := [(4, .int s0), (0, .ref (zbase G + l0)), (1, .ref (zbase G + l1)), (3, .int l3), (5, .int l5), (8, .int l8)]) dX4_runs_264 (by decide) rfl ?_
  refine zi_iload dX4_runs_266 5 rfl ?_
  refine zi_if_eq (tgt := 275) dX4_runs_268 (by decide) ?_ ?_
  · refine zi_iload_n dX4_runs_275 rfl 3 rfl ?_
    refine zi_iconst (v := 1) dX4_runs_276 (by decide) ?_
    refine zi_isub dX4_runs_277 ?_
    refine zi_sub [1, 2, 0, 4] rfl ?_
    exact wb_X4_runs_278 G n k20 hk20 l0 l1 s0 l5 (l3 - 1) h
  · refine zi_iload_n dX4_runs_271 rfl 3 rfl ?_
    refine zi_goto (tgt := 278) dX4_runs_272 (by decide) ?_
    refine zi_sub [1, 2, 0, 4] rfl ?_
    exact wb_X4_runs_278 G n k20 hk20 l0 l1 s0 l5 l3 h
set_option maxRecDepth 20000 in
set_option maxHeartbeats 1000000 in
theorem wb_X4_runs_250 (G : zG) (n : Nat) (k20 : Nat → Nat → Int32 → Int32 → Int32 → zH → Option (Int32 × zH)) (hk20 : ∀ (l0 : Nat) (l1 : Nat) (l3 : Int32) (l4 : Int32) (l5 : Int32) (h : zH), zW G yX4_runs cX4_runs 9 (some .boolean) zvI 2 20 [(0, .ref (zbase G + l0)), (1, .ref (zbase G + l1)), (3, .int l3), (4, .int l4), (5, .int l5)] [] h (k20 l0 l1 l3 l4 l5 h)) (l0 : Nat) (l1 : Nat) (l3 : Int32) (l4 : Int32) (l5 : Int32) (l7 : Int32) (s0 : Int32) (h : zH) : zW G yX4_runs cX4_runs 9 (some .boolean) zvI 2 250 [(0, .ref (zbase G + l0)), (1, .ref (zbase G + l1)), (3, .int l3), (4, .int l4), (5, .int l5), (7, .int l7)] [.int s0] h (fb_X4_runs_250 n k20 l0 l1 l3 l4 l5 l7 s0 h) := by
  unfold fb_X4_runs_250
  refine zi_istore (l' := [(8, .int s0), (0, .ref (zbase G + l0)), (1, .ref (zbase G + l1)), (3, .int l3), (4, .int l4), (5, .int l5), (7, .int l7)]) dX4_runs_250 (by decide) rfl ?_
  refine zi_iload dX4_runs_252 0 rfl ?_
  refine zi_if_eq (tgt := 262) dX4_runs_254 (by decide) ?_ ?_
  · refine zi_iload dX4_runs_262 4 rfl ?_
    refine zi_sub [1, 2, 3, 5, 0] rfl ?_
    exact wb_X4_runs_264 G n k20 hk20 l0 l1 l3 l5 s0 l4 h
  · refine zi_iload dX4_runs_257 6 rfl ?_
    refine zi_goto (tgt := 264) dX4_runs_259 (by decide) ?_
    refine zi_sub [1, 2, 3, 5, 0] rfl ?_
    exact wb_X4_runs_264 G n k20 hk20 l0 l1 l3 l5 s0 l7 h
set_option maxRecDepth 20000 in
set_option maxHeartbeats 1000000 in
theorem wb_X4_runs_242 (G : zG) (n : Nat) (k20 : Nat → Nat → Int32 → Int32 → Int32 → zH → Option (Int32 × zH)) (hk20 : ∀ (l0 : Nat) (l1 : Nat) (l3 : Int32) (l4 : Int32) (l5 : Int32) (h : zH), zW G yX4_runs cX4_runs 9 (some .boolean) zvI 2 20 [(0, .ref (zbase G + l0)), (1, .ref (zbase G + l1)), (3, .int l3), (4, .int l4), (5, .int l5)] [] h (k20 l0 l1 l3 l4 l5 h)) (l0 : Nat) (l1 : Nat) (l3 : Int32) (l4 : Int32) (l5 : Int32) (l7 : Int32) (s0 : Int32) (s1 : Int32) (h : zH) : zW G yX4_runs cX4_runs 9 (some .boolean) zvI 2 242 [(0, .ref (zbase G + l0)), (1, .ref (zbase G + l1)), (3, .int l3), (4, .int l4), (5, .int l5), (7, .int l7)] [.int s1, .int s0] h (fb_X4_runs_242 n k20 l0 l1 l3 l4 l5 l7 s0 s1 h) := by
  unfold fb_X4_runs_242
  refine zi_icmp_ne (tgt := 249) dX4_runs_242 (by decide) ?_ ?_
  · refine zi_iconst (v := 0) dX4_runs_249 (by decide) ?_
    refine zi_sub [0, 1, 2, 3, 4, 5] rfl ?_
    exact wb_X4_runs_250 G n k20 hk20 l0 l1 l3 l4 l5 l7 0 h
  · refine zi_iconst (v := 1) dX4_runs_245 (by decide) ?_
    refine zi_goto (tgt := 250) dX4_runs_246 (by decide) ?_
    refine zi_sub [0, 1, 2, 3, 4, 5] rfl ?_
    exact wb_X4_runs_250 G n k20 hk20 l0 l1 l3 l4 l5 l7 1 h
set_option maxRecDepth 20000 in
set_option maxHeartbeats 1000000 in
theorem wb_X4_runs_231 (G : zG) (n : Nat) (k20 : Nat → Nat → Int32 → Int32 → Int32 → zH → Option (Int32 × zH)) (hk20 : ∀ (l0 : Nat) (l1 : Nat) (l3 : Int32) (l4 : Int32) (l5 : Int32) (h : zH), zW G yX4_runs cX4_runs 9 (some .boolean) zvI 2 20 [(0, .ref (zbase G + l0)), (1, .ref (zbase G + l1)), (3, .int l3), (4, .int l4), (5, .int l5)] [] h (k20 l0 l1 l3 l4 l5 h)) (l0 : Nat) (l1 : Nat) (l3 : Int32) (l4 : Int32) (l5 : Int32) (l6 : Int32) (l7 : Int32) (s0 : Int32) (h : zH) : zW G yX4_runs cX4_runs 9 (some .boolean) zvI 2 231 [(0, .ref (zbase G + l0)), (1, .ref (zbase G + l1)), (3, .int l3), (4, .int l4), (5, .int l5), (6, .int l6), (7, .int l7)] [.int s0] h (fb_X4_runs_231 n k20 l0 l1 l3 l4 l5 l6 l7 s0 h) := by
  unfold fb_X4_runs_231
  refine zi_iload dX4_runs_231 5 rfl ?_
  refine zi_iconst (v := 3) dX4_runs_233 (by decide) ?_
  refine zi_icmp_ne (tgt := 241) dX4_runs_234 (by decide) ?_ ?_
  · refine zi_iconst (v := 0) dX4_runs_241 (by decide) ?_
    refine zi_sub [0, 1, 2, 3, 4, 6] rfl ?_
    exact wb_X4_runs_242 G n k20 hk20 l0 l1 l3 l4 l5 l7 s0 0 h
  · refine zi_iconst (v := 1) dX4_runs_237 (by decide) ?_
    refine zi_goto (tgt := 242) dX4_runs_238 (by decide) ?_
    refine zi_sub [0, 1, 2, 3, 4, 6] rfl ?_
    exact wb_X4_runs_242 G n k20 hk20 l0 l1 l3 l4 l5 l7 s0 1 h
set_option maxRecDepth 20000 in
set_option maxHeartbeats 1000000 in
theorem wb_X4_runs_213 (G : zG) (n : Nat) (k20 : Nat → Nat → Int32 → Int32 → Int32 → zH → Option (Int32 × zH)) (hk20 : ∀ (l0 : Nat) (l1 : Nat) (l3 : Int32) (l4 : Int32) (l5 : Int32) (h : zH), zW G yX4_runs cX4_runs 9 (some .boolean) zvI 2 20 [(0, .ref (zbase G + l0)), (1, .ref (zbase G + l1)), (3, .int l3), (4, .int l4), (5, .int l5)] [] h (k20 l0 l1 l3 l4 l5 h)) (l0 : Nat) (l1 : Nat) (l3 : Int32) (l4 : Int32) (l5 : Int32) (l6 : Int32) (l7 : Int32) (h : zH) : zW G yX4_runs cX4_runs 9 (some .boolean) zvI 2 213 [(0, .ref (zbase G + l0)), (1, .ref (zbase G + l1)), (3, .int l3), (4, .int l4), (5, .int l5), (6, .int l6), (7, .int l7)] [] h (fb_X4_runs_213 n k20 l0 l1 l3 l4 l5 l6 l7 h) := by
  unfold fb_X4_runs_213
  refine zi_aload_n dX4_runs_213 rfl 0 rfl ?_
  refine zi_getR dX4_runs_214 gf_X4_17 (fun v1 => ?_)
  refine zi_iload_n dX4_runs_217 rfl 2 rfl ?_
  refine zi_iconst (v := 1) dX4_runs_218 (by decide) ?_
  refine zi_isub dX4_runs_219 ?_
  refine zi_lald dX4_runs_220 (fun v2 => ?_)
  refine zi_lconst (v := 0) dX4_runs_221 (by decide) ?_
  refine zi_lcmp dX4_runs_222 ?_
  refine zi_if_eq (tgt := 230) dX4_runs_223 (by decide) ?_ ?_
  · refine zi_iconst (v := 0) dX4_runs_230 (by decide) ?_
    refine zi_sub [0, 1, 2, 3, 4, 5, 6] rfl ?_
    exact wb_X4_runs_231 G n k20 hk20 l0 l1 l3 l4 l5 l6 l7 0 h
  · refine zi_iconst (v := 1) dX4_runs_226 (by decide) ?_
    refine zi_goto (tgt := 231) dX4_runs_227 (by decide) ?_
    refine zi_sub [0, 1, 2, 3, 4, 5, 6] rfl ?_
    exact wb_X4_runs_231 G n k20 hk20 l0 l1 l3 l4 l5 l6 l7 1 h
set_option maxRecDepth 20000 in
set_option maxHeartbeats 1000000 in
theorem wb_X4_runs_160 (G : zG) (n : Nat) (l0 : Nat) (l3 : Int32) (h : zH) : zW G yX4_runs cX4_runs 9 (some .boolean) zvI 2 160 [(0, .ref (zbase G + l0)), (3, .int l3)] [] h (fb_X4_runs_160 n l0 l3 h) := by
  unfold fb_X4_runs_160
  refine zi_aload_n dX4_runs_160 rfl 0 rfl ?_
  refine zi_aload_n dX4_runs_161 rfl 0 rfl ?_
  refine zi_getR dX4_runs_162 gf_X4_17 (fun v1 => ?_)
  refine zi_iload_n dX4_runs_165 rfl 1 rfl ?_
  refine zi_iconst (v := 1) dX4_runs_166 (by decide) ?_
  refine zi_isub dX4_runs_167 ?_
  refine zi_lald dX4_runs_168 (fun v2 => ?_)
  refine zi_putL dX4_runs_169 gf_X4_21 (fun h3 => ?_)
  refine zi_iconst (v := 1) dX4_runs_172 (by decide) ?_
  exact zi_ret1 dX4_runs_173
set_option maxRecDepth 20000 in
set_option maxHeartbeats 1000000 in
theorem wb_X4_runs_20 (G : zG) (n : Nat) (k20 : Nat → Nat → Int32 → Int32 → Int32 → zH → Option (Int32 × zH)) (hk20 : ∀ (l0 : Nat) (l1 : Nat) (l3 : Int32) (l4 : Int32) (l5 : Int32) (h : zH), zW G yX4_runs cX4_runs 9 (some .boolean) zvI 2 20 [(0, .ref (zbase G + l0)), (1, .ref (zbase G + l1)), (3, .int l3), (4, .int l4), (5, .int l5)] [] h (k20 l0 l1 l3 l4 l5 h)) (l0 : Nat) (l1 : Nat) (l3 : Int32) (l4 : Int32) (l5 : Int32) (h : zH) : zW G yX4_runs cX4_runs 9 (some .boolean) zvI 2 20 [(0, .ref (zbase G + l0)), (1, .ref (zbase G + l1)), (3, .int l3), (4, .int l4), (5, .int l5)] [] h (fb_X4_runs_20 n k20 l0 l1 l3 l4 l5 h) := by
  unfold fb_X4_runs_20
  refine zi_iload dX4_runs_20 4 rfl ?_
  refine zi_aload_n dX4_runs_22 rfl 1 rfl ?_
  refine zi_getI dX4_runs_23 gf_X4_25 (fun v1 => ?_)
  refine zi_icmp_ge (tgt := 335) dX4_runs_26 (by decide) ?_ ?_
  · refine zi_iconst (v := 0) dX4_runs_335 (by decide) ?_
    exact zi_ret0 dX4_runs_336
  · refine zi_iload dX4_runs_29 3 rfl ?_
    refine zi_if_lt (tgt := 43) dX4_runs_31 (by decide) ?_ ?_
    · refine zi_iconst (v := 0) dX4_runs_43 (by decide) ?_
      exact zi_ret0 dX4_runs_44
    · refine zi_iload dX4_runs_34 3 rfl ?_
      refine zi_aload_n dX4_runs_36 rfl 1 rfl ?_
      refine zi_getI dX4_runs_37 gf_X4_25 (fun v2 => ?_)
      refine zi_icmp_lt (tgt := 45) dX4_runs_40 (by decide) ?_ ?_
      · refine zi_aload_n dX4_runs_45 rfl 1 rfl ?_
        refine zi_getR dX4_runs_46 gf_X4_31 (fun v3 => ?_)
        refine zi_iload dX4_runs_49 3 rfl ?_
        refine zi_iald dX4_runs_51 (fun v4 => ?_)
        refine zi_istore (l' := [(6, .int v4), (0, .ref (zbase G + l0)), (1, .ref (zbase G + l1)), (3, .int l3), (4, .int l4), (5, .int l5)]) dX4_runs_52 (by decide) rfl ?_
        refine zi_aload_n dX4_runs_54 rfl 2 rfl ?_
        refine zi_getR dX4_runs_55 gf_X4_34 (fun v5 => ?_)
        refine zi_iload dX4_runs_58 4 rfl ?_
        refine zi_iald dX4_runs_60 (fun v6 => ?_)
        refine zi_istore (l' := [(7, .int v6), (6, .int v4), (0, .ref (zbase G + l0)), (1, .ref (zbase G + l1)), (3, .int l3), (4, .int l4), (5, .int l5)]) dX4_runs_61 (by decide) rfl ?_
        refine zi_iinc (j := 5) (v := l4 + 1) (l' := [(4, .int (l4 + 1)), (7, .int v6), (6, .int v4), (0, .ref (zbase G + l0)), (1, .ref (zbase G + l1)), (3, .int l3), (5, .int l5)]) dX4_runs_63 rfl rfl (by decide) rfl ?_
        refine zi_iload dX4_runs_66 2 rfl ?_
        refine zi_if_eq (tgt := 77) dX4_runs_68 (by decide) ?_ ?_
        · refine zi_sub [3, 4, 5, 0, 6, 2, 1] rfl ?_
          exact wb_X4_runs_77 G n k20 hk20 l0 l1 l3 (l4 + 1) l5 v4 v6 h
        · refine zi_iload dX4_runs_71 2 rfl ?_
          refine zi_iconst (v := 1) dX4_runs_73 (by decide) ?_
          refine zi_icmp_ne (tgt := 141) dX4_runs_74 (by decide) ?_ ?_
          · refine zi_iload_n dX4_runs_141 rfl 5 rfl ?_
            refine zi_iconst (v := 1) dX4_runs_142 (by decide) ?_
            refine zi_icmp_lt (tgt := 152) dX4_runs_143 (by decide) ?_ ?_
            · refine zi_iconst (v := 0) dX4_runs_152 (by decide) ?_
              exact zi_ret0 dX4_runs_153
            · refine zi_iload_n dX4_runs_146 rfl 5 rfl ?_
              refine zi_bipush (v := 64) dX4_runs_147 (by decide) ?_
              refine zi_icmp_le (tgt := 154) dX4_runs_149 (by decide) ?_ ?_
              · refine zi_iload dX4_runs_154 2 rfl ?_
                refine zi_iconst (v := 5) dX4_runs_156 (by decide) ?_
                refine zi_icmp_ne (tgt := 174) dX4_runs_157 (by decide) ?_ ?_
                · refine zi_iload dX4_runs_174 2 rfl ?_
                  refine zi_iconst (v := 2) dX4_runs_176 (by decide) ?_
                  refine zi_icmp_ne (tgt := 201) dX4_runs_177 (by decide) ?_ ?_
                  · refine zi_iload dX4_runs_201 2 rfl ?_
                    refine zi_iconst (v := 3) dX4_runs_203 (by decide) ?_
                    refine zi_icmp_eq (tgt := 213) dX4_runs_204 (by decide) ?_ ?_
                    · refine zi_sub [3, 4, 5, 0, 6, 2, 1] rfl ?_
                      exact wb_X4_runs_213 G n k20 hk20 l0 l1 l3 (l4 + 1) l5 v4 v6 h
                    · refine zi_iload dX4_runs_207 2 rfl ?_
                      refine zi_iconst (v := 4) dX4_runs_209 (by decide) ?_
                      refine zi_icmp_ne (tgt := 282) dX4_runs_210 (by decide) ?_ ?_
                      · refine zi_iload_n dX4_runs_282 rfl 5 rfl ?_
                        refine zi_iconst (v := 2) dX4_runs_283 (by decide) ?_
                        refine zi_icmp_lt (tgt := 312) dX4_runs_284 (by decide) ?_ ?_
                        · refine zi_iconst (v := 0) dX4_runs_312 (by decide) ?_
                          exact zi_ret0 dX4_runs_313
                        · refine zi_aload_n dX4_runs_287 rfl 3 rfl ?_
                          refine zi_iload dX4_runs_288 2 rfl ?_
                          refine zi_aload_n dX4_runs_290 rfl 3 rfl ?_
                          refine zi_getR dX4_runs_291 gf_X4_17 (fun v7 => ?_)
                          refine zi_iload_n dX4_runs_294 rfl 5 rfl ?_
                          refine zi_iconst (v := 2) dX4_runs_295 (by decide) ?_
                          refine zi_isub dX4_runs_296 ?_
                          refine zi_lald dX4_runs_297 (fun v8 => ?_)
                          refine zi_aload_n dX4_runs_298 rfl 3 rfl ?_
                          refine zi_getR dX4_runs_299 gf_X4_17 (fun v9 => ?_)
                          refine zi_iload_n dX4_runs_302 rfl 5 rfl ?_
                          refine zi_iconst (v := 1) dX4_runs_303 (by decide) ?_
                          refine zi_isub dX4_runs_304 ?_
                          refine zi_lald dX4_runs_305 (fun v10 => ?_)
                          refine zi_callVI (As := [.int v4, .long v8, .long v10]) (rest := []) (ci := 4) dX4_runs_306 ml_X4_37 md_X4_isBroken mv_X4_isBroken rfl (by decide) rfl rfl (Nat.le_of_ble_eq_true rfl) (Nat.le_of_ble_eq_true rfl) (k_X4_isBroken G n l0 v4 v8 v10 h) (fun r11 h12 => ?_)
                          refine zi_if_eq (tgt := 314) dX4_runs_309 (by decide) ?_ ?_
                          · refine zi_iinc (j := 5) (v := l3 + (-1)) (l' := [(3, .int (l3 + (-1))), (4, .int (l4 + 1)), (7, .int v6), (6, .int v4), (0, .ref (zbase G + l0)), (1, .ref (zbase G + l1)), (5, .int l5)]) dX4_runs_314 rfl rfl (by decide) rfl ?_
                            refine zi_aload_n dX4_runs_317 rfl 4 rfl ?_
                            refine zi_getR dX4_runs_318 gf_X4_17 (fun v13 => ?_)
                            refine zi_iload_n dX4_runs_321 rfl 0 rfl ?_
                            refine zi_iconst (v := 1) dX4_runs_322 (by decide) ?_
                            refine zi_isub dX4_runs_323 ?_
                            refine zi_aload_n dX4_runs_324 rfl 4 rfl ?_
                            refine zi_getL dX4_runs_325 gf_X4_21 (fun v14 => ?_)
                            refine zi_last dX4_runs_328 (fun h15 => ?_)
                            refine zi_sub [4, 5, 0, 1, 6] rfl ?_
                            exact wb_X4_runs_329 G n k20 hk20 l0 l1 (l3 + (-1)) (l4 + 1) l5 h15
                          · refine zi_iconst (v := 0) dX4_runs_312 (by decide) ?_
                            exact zi_ret0 dX4_runs_313
                      · refine zi_sub [3, 4, 5, 0, 6, 2, 1] rfl ?_
                        exact wb_X4_runs_213 G n k20 hk20 l0 l1 l3 (l4 + 1) l5 v4 v6 h
                  · refine zi_aload_n dX4_runs_180 rfl 3 rfl ?_
                    refine zi_getR dX4_runs_181 gf_X4_17 (fun v16 => ?_)
                    refine zi_iload_n dX4_runs_184 rfl 5 rfl ?_
                    refine zi_iconst (v := 1) dX4_runs_185 (by decide) ?_
                    refine zi_isub dX4_runs_186 ?_
                    refine zi_lconst (v := 1) dX4_runs_187 (by decide) ?_
                    refine zi_aload_n dX4_runs_188 rfl 3 rfl ?_
                    refine zi_getR dX4_runs_189 gf_X4_17 (fun v17 => ?_)
                    refine zi_iload_n dX4_runs_192 rfl 5 rfl ?_
                    refine zi_iconst (v := 1) dX4_runs_193 (by decide) ?_
                    refine zi_isub dX4_runs_194 ?_
                    refine zi_lald dX4_runs_195 (fun v18 => ?_)
                    refine zi_lsub dX4_runs_196 ?_
                    refine zi_last dX4_runs_197 (fun h19 => ?_)
                    refine zi_goto (tgt := 329) dX4_runs_198 (by decide) ?_
                    refine zi_sub [3, 4, 5, 0, 6] rfl ?_
                    exact wb_X4_runs_329 G n k20 hk20 l0 l1 l3 (l4 + 1) l5 h19
                · refine zi_sub [3, 5] rfl ?_
                  exact wb_X4_runs_160 G n l0 l3 h
              · refine zi_iconst (v := 0) dX4_runs_152 (by decide) ?_
                exact zi_ret0 dX4_runs_153
          · refine zi_sub [3, 4, 5, 0, 6, 2, 1] rfl ?_
            exact wb_X4_runs_77 G n k20 hk20 l0 l1 l3 (l4 + 1) l5 v4 v6 h
      · refine zi_iconst (v := 0) dX4_runs_43 (by decide) ?_
        exact zi_ret0 dX4_runs_44
theorem wl_X4_runs_20 (G : zG) (n : Nat) : ∀ (t : Nat) (l0 : Nat) (l1 : Nat) (l3 : Int32) (l4 : Int32) (l5 : Int32) (h : zH), zW G yX4_runs cX4_runs 9 (some .boolean) zvI 2 20 [(0, .ref (zbase G + l0)), (1, .ref (zbase G + l1)), (3, .int l3), (4, .int l4), (5, .int l5)] [] h (zlp5 (fb_X4_runs_20 n ) t l0 l1 l3 l4 l5 h) := by
  intro t
  induction t with
  | zero => intros; exact zW_none
  | succ t ih => intro l0 l1 l3 l4 l5 h; rw [zlp5_s]; exact wb_X4_runs_20 G n  _  ih l0 l1 l3 l4 l5 h
set_option maxRecDepth 20000 in
set_option maxHeartbeats 1000000 in
theorem k_X4_runs (G : zG) (n : Nat) (a0 : Nat) (a1 : Nat) (a2 : Int32) (h : zH) : zMet G yX4_runs cX4_runs 9 (some .boolean) zvI 2 [.ref (zbase G + a0), .ref (zbase G + a1), .int a2] h (f_X4_runs n a0 a1 a2 h) := by
  refine zMet_of (l := [(0, .ref (zbase G + a0)), (1, .ref (zbase G + a1)), (2, .int a2)]) (by decide) (Nat.le_of_ble_eq_true rfl) rfl ?_
  unfold f_X4_runs
  refine zi_aload_n dX4_runs_0 rfl 0 rfl ?_
  refine zi_lconst (v := 1) dX4_runs_1 (by decide) ?_
  refine zi_putL dX4_runs_2 gf_X4_21 (fun h1 => ?_)
  refine zi_iload_n dX4_runs_5 rfl 2 rfl ?_
  refine zi_iconst (v := (-1)) dX4_runs_6 (by decide) ?_
  refine zi_icmp_ne (tgt := 12) dX4_runs_7 (by decide) ?_ ?_
  · refine zi_iconst (v := 0) dX4_runs_12 (by decide) ?_
    refine zi_istore_n (l' := [(3, .int 0), (0, .ref (zbase G + a0)), (1, .ref (zbase G + a1)), (2, .int a2)]) dX4_runs_13 rfl (by decide) rfl ?_
    refine zi_iload_n dX4_runs_14 rfl 3 rfl ?_
    refine zi_istore (l' := [(4, .int a2), (3, .int 0), (0, .ref (zbase G + a0)), (1, .ref (zbase G + a1)), (2, .int a2)]) dX4_runs_15 (by decide) rfl ?_
    refine zi_iconst (v := 0) dX4_runs_17 (by decide) ?_
    refine zi_istore (l' := [(5, .int 0), (4, .int a2), (3, .int 0), (0, .ref (zbase G + a0)), (1, .ref (zbase G + a1)), (2, .int a2)]) dX4_runs_18 (by decide) rfl ?_
    refine zi_sub [3, 4, 2, 1, 0] rfl ?_
    exact wl_X4_runs_20 G n n a0 a1 0 a2 0 h1
  · refine zi_iconst (v := 1) dX4_runs_10 (by decide) ?_
    exact zi_ret1 dX4_runs_11
set_option maxRecDepth 20000 in
set_option maxHeartbeats 1000000 in
theorem wb_X6_bars_84 (G : zG) (n : Nat) (k32 : Nat → Nat → Int32 → zH → Option (Int32 × zH)) (hk32 : ∀ (l0 : Nat) (l3 : Nat) (l4 : Int32) (h : zH), zW G yX6_bars cX6_bars 5 (some .boolean) zvI 3 32 [(0, .ref (zbase G + l0)), (3, .ref (zbase G + l3)), (4, .int l4)] [] h (k32 l0 l3 l4 h)) (l0 : Nat) (l3 : Nat) (l4 : Int32) (h : zH) : zW G yX6_bars cX6_bars 5 (some .boolean) zvI 3 84 [(0, .ref (zbase G + l0)), (3, .ref (zbase G + l3)), (4, .int l4)] [] h (fb_X6_bars_84 n k32 l0 l3 l4 h) := by
  unfold fb_X6_bars_84
  refine zi_iinc (j := 2) (v := l4 + 1) (l' := [(4, .int (l4 + 1)), (0, .ref (zbase G + l0)), (3, .ref (zbase G + l3))]) dX6_bars_84 rfl rfl (by decide) rfl ?_
  refine zi_goto (tgt := 32) dX6_bars_87 (by decide) ?_
  refine zi_sub [1, 2, 0] rfl ?_
  exact hk32 l0 l3 (l4 + 1) h
set_option maxRecDepth 20000 in
set_option maxHeartbeats 1000000 in
theorem wb_X6_bars_32 (G : zG) (n : Nat) (k32 : Nat → Nat → Int32 → zH → Option (Int32 × zH)) (hk32 : ∀ (l0 : Nat) (l3 : Nat) (l4 : Int32) (h : zH), zW G yX6_bars cX6_bars 5 (some .boolean) zvI 3 32 [(0, .ref (zbase G + l0)), (3, .ref (zbase G + l3)), (4, .int l4)] [] h (k32 l0 l3 l4 h)) (l0 : Nat) (l3 : Nat) (l4 : Int32) (h : zH) : zW G yX6_bars cX6_bars 5 (some .boolean) zvI 3 32 [(0, .ref (zbase G + l0)), (3, .ref (zbase G + l3)), (4, .int l4)] [] h (fb_X6_bars_32 n k32 l0 l3 l4 h) := by
  unfold fb_X6_bars_32
  refine zi_iload dX6_bars_32 2 rfl ?_
  refine zi_aload_n dX6_bars_34 rfl 1 rfl ?_
  refine zi_getI dX6_bars_35 gf_X6_56 (fun v1 => ?_)
  refine zi_icmp_ge (tgt := 90) dX6_bars_38 (by decide) ?_ ?_
  · refine zi_iconst (v := 0) dX6_bars_90 (by decide) ?_
    exact zi_ret0 dX6_bars_91
  · refine zi_aload_n dX6_bars_41 rfl 1 rfl ?_
    refine zi_iload dX6_bars_42 2 rfl ?_
    refine zi_iconst (v := 0) dX6_bars_44 (by decide) ?_
    refine zi_callVI (As := [.int l4, .int 0]) (rest := []) (ci := 8) dX6_bars_45 ml_X6_59 md_X8_entry mv_X8_entry rfl (by decide) rfl rfl (Nat.le_of_ble_eq_true rfl) (Nat.le_of_ble_eq_true rfl) (k_X8_entry G n l3 l4 0 h) (fun r2 h3 => ?_)
    refine zi_iconst (v := 1) dX6_bars_48 (by decide) ?_
    refine zi_icmp_ne (tgt := 84) dX6_bars_49 (by decide) ?_ ?_
    · refine zi_sub [0, 1, 2] rfl ?_
      exact wb_X6_bars_84 G n k32 hk32 l0 l3 l4 h3
    · refine zi_aload_n dX6_bars_52 rfl 0 rfl ?_
      refine zi_getR dX6_bars_53 gf_X6_30 (fun v4 => ?_)
      refine zi_aload_n dX6_bars_56 rfl 1 rfl ?_
      refine zi_aload_n dX6_bars_57 rfl 1 rfl ?_
      refine zi_iload dX6_bars_58 2 rfl ?_
      refine zi_iconst (v := 4) dX6_bars_60 (by decide) ?_
      refine zi_callVI (As := [.int l4, .int 4]) (rest := [.ref (zbase G + l3), .ref (zbase G + v4)]) (ci := 8) dX6_bars_61 ml_X6_59 md_X8_entry mv_X8_entry rfl (by decide) rfl rfl (Nat.le_of_ble_eq_true rfl) (Nat.le_of_ble_eq_true rfl) (k_X8_entry G n l3 l4 4 h3) (fun r5 h6 => ?_)
      refine zi_callVI (As := [.ref (zbase G + l3), .int r5]) (rest := []) (ci := 4) dX6_bars_64 ml_X6_63 md_X4_runs mv_X4_runs rfl (by decide) rfl rfl (Nat.le_of_ble_eq_true rfl) (Nat.le_of_ble_eq_true rfl) (k_X4_runs G n v4 l3 r5 h6) (fun r7 h8 => ?_)
      refine zi_if_eq (tgt := 84) dX6_bars_67 (by decide) ?_ ?_
      · refine zi_sub [0, 1, 2] rfl ?_
        exact wb_X6_bars_84 G n k32 hk32 l0 l3 l4 h8
      · refine zi_aload_n dX6_bars_70 rfl 0 rfl ?_
        refine zi_getR dX6_bars_71 gf_X6_30 (fun v9 => ?_)
        refine zi_getL dX6_bars_74 gf_X6_69 (fun v10 => ?_)
        refine zi_lconst (v := 0) dX6_bars_77 (by decide) ?_
        refine zi_lcmp dX6_bars_78 ?_
        refine zi_if_eq (tgt := 84) dX6_bars_79 (by decide) ?_ ?_
        · refine zi_sub [0, 1, 2] rfl ?_
          exact wb_X6_bars_84 G n k32 hk32 l0 l3 l4 h8
        · refine zi_iconst (v := 1) dX6_bars_82 (by decide) ?_
          exact zi_ret1 dX6_bars_83
theorem wl_X6_bars_32 (G : zG) (n : Nat) : ∀ (t : Nat) (l0 : Nat) (l3 : Nat) (l4 : Int32) (h : zH), zW G yX6_bars cX6_bars 5 (some .boolean) zvI 3 32 [(0, .ref (zbase G + l0)), (3, .ref (zbase G + l3)), (4, .int l4)] [] h (zlp3 (fb_X6_bars_32 n ) t l0 l3 l4 h) := by
  intro t
  induction t with
  | zero => intros; exact zW_none
  | succ t ih => intro l0 l3 l4 h; rw [zlp3_s]; exact wb_X6_bars_32 G n  _  ih l0 l3 l4 h
set_option maxRecDepth 20000 in
set_option maxHeartbeats 1000000 in
theorem k_X6_bars (G : zG) (n : Nat) (a0 : Nat) (a1 : Int32) (a2 : Int32) (h : zH) : zMet G yX6_bars cX6_bars 5 (some .boolean) zvI 3 [.ref (zbase G + a0), .int a1, .int a2] h (f_X6_bars n a0 a1 a2 h) := by
  refine zMet_of (l := [(0, .ref (zbase G + a0)), (1, .int a1), (2, .int a2)]) (by decide) (Nat.le_of_ble_eq_true rfl) rfl ?_
  unfold f_X6_bars
  refine zi_aload_n dX6_bars_0 rfl 0 rfl ?_
  refine zi_aload_n dX6_bars_1 rfl 0 rfl ?_
  refine zi_getI dX6_bars_2 gf_X6_21 (fun v1 => ?_)
  refine zi_callVN (As := [.int v1]) (rest := []) (ci := 6) dX6_bars_5 ml_X6_84 md_X6_lawAt mv_X6_lawAt rfl (by decide) rfl rfl (Nat.le_of_ble_eq_true rfl) (Nat.le_of_ble_eq_true rfl) (k_X6_lawAt G n a0 v1 h) (fun r2 h3 => ?_)
  refine zi_astore_nz (l' := [(3, zrf G r2), (0, .ref (zbase G + a0)), (1, .int a1), (2, .int a2)]) dX6_bars_8 rfl (by decide) rfl ?_
  refine zi_aload_nz dX6_bars_9 rfl 0 rfl ?_
  refine zi_ifnonnull (lf := fun w => [(3, w), (0, .ref (zbase G + a0)), (1, .int a1), (2, .int a2)]) (tgt := 15) dX6_bars_10 (by decide) (fun _ => ?_) ?_
  · refine zi_aload_n dX6_bars_15 rfl 1 rfl ?_
    refine zi_iconst (v := (-1)) dX6_bars_16 (by decide) ?_
    refine zi_iconst (v := (-1)) dX6_bars_17 (by decide) ?_
    refine zi_iconst (v := (-1)) dX6_bars_18 (by decide) ?_
    refine zi_iconst (v := (-1)) dX6_bars_19 (by decide) ?_
    refine zi_callVU (As := [.int (-1), .int (-1), .int (-1), .int (-1)]) (rest := []) (ci := 6) dX6_bars_20 ml_X6_45 md_X6_tellWhere mv_X6_tellWhere rfl (by decide) rfl rfl (Nat.le_of_ble_eq_true rfl) (Nat.le_of_ble_eq_true rfl) (k_X6_tellWhere G n a0 (-1) (-1) (-1) (-1) h3) (fun _ h5 => ?_)
    refine zi_aload_n dX6_bars_23 rfl 1 rfl ?_
    refine zi_iload_n dX6_bars_24 rfl 2 rfl ?_
    refine zi_iload_n dX6_bars_25 rfl 3 rfl ?_
    refine zi_callVU (As := [.int a1, .int a2]) (rest := []) (ci := 6) dX6_bars_26 ml_X6_52 md_X6_tellWhat mv_X6_tellWhat rfl (by decide) rfl rfl (Nat.le_of_ble_eq_true rfl) (Nat.le_of_ble_eq_true rfl) (k_X6_tellWhat G n a0 a1 a2 h5) (fun _ h7 => ?_)
    refine zi_iconst (v := 0) dX6_bars_29 (by decide) ?_
    refine zi_istore (l' := [(4, .int 0), (3, .ref (zbase G + r2)), (0, .ref (zbase G + a0)), (1, .int a1), (2, .int a2)]) dX6_bars_30 (by decide) rfl ?_
    refine zi_sub [2, 1, 0] rfl ?_
    exact wl_X6_bars_32 G n n a0 r2 0 h7
  · refine zi_iconst (v := 0) dX6_bars_13 (by decide) ?_
    exact zi_ret0 dX6_bars_14
set_option maxRecDepth 20000 in
set_option maxHeartbeats 1000000 in
theorem wb_X0_lowestFree_2 (G : zG) (n : Nat) (k2 : Nat → Int32 → zH → Option (Int32 × zH)) (hk2 : ∀ (l0 : Nat) (l1 : Int32) (h : zH), zW G yX0_lowestFree cX0_lowestFree 2 (some .int) zvI 1 2 [(0, .ref (zbase G + l0)), (1, .int l1)] [] h (k2 l0 l1 h)) (l0 : Nat) (l1 : Int32) (h : zH) : zW G yX0_lowestFree cX0_lowestFree 2 (some .int) zvI 1 2 [(0, .ref (zbase G + l0)), (1, .int l1)] [] h (fb_X0_lowestFree_2 n k2 l0 l1 h) := by
  unfold fb_X0_lowestFree_2
  refine zi_iload_n dX0_lowestFree_2 rfl 1 rfl ?_
  refine zi_bipush (v := 24) dX0_lowestFree_3 (by decide) ?_
  refine zi_icmp_ge (tgt := 25) dX0_lowestFree_5 (by decide) ?_ ?_
  · refine zi_iconst (v := (-1)) dX0_lowestFree_25 (by decide) ?_
    exact zi_retI dX0_lowestFree_26
  · refine zi_aload_n dX0_lowestFree_8 rfl 0 rfl ?_
    refine zi_getR dX0_lowestFree_9 gf_X0_9 (fun v1 => ?_)
    refine zi_iload_n dX0_lowestFree_12 rfl 1 rfl ?_
    refine zi_iald dX0_lowestFree_13 (fun v2 => ?_)
    refine zi_if_ne (tgt := 19) dX0_lowestFree_14 (by decide) ?_ ?_
    · refine zi_iinc (j := 1) (v := l1 + 1) (l' := [(1, .int (l1 + 1)), (0, .ref (zbase G + l0))]) dX0_lowestFree_19 rfl rfl (by decide) rfl ?_
      refine zi_goto (tgt := 2) dX0_lowestFree_22 (by decide) ?_
      refine zi_sub [1, 0] rfl ?_
      exact hk2 l0 (l1 + 1) h
    · refine zi_iload_n dX0_lowestFree_17 rfl 1 rfl ?_
      exact zi_retI dX0_lowestFree_18
theorem wl_X0_lowestFree_2 (G : zG) (n : Nat) : ∀ (t : Nat) (l0 : Nat) (l1 : Int32) (h : zH), zW G yX0_lowestFree cX0_lowestFree 2 (some .int) zvI 1 2 [(0, .ref (zbase G + l0)), (1, .int l1)] [] h (zlp2 (fb_X0_lowestFree_2 n ) t l0 l1 h) := by
  intro t
  induction t with
  | zero => intros; exact zW_none
  | succ t ih => intro l0 l1 h; rw [zlp2_s]; exact wb_X0_lowestFree_2 G n  _  ih l0 l1 h
set_option maxRecDepth 20000 in
set_option maxHeartbeats 1000000 in
theorem k_X0_lowestFree (G : zG) (n : Nat) (a0 : Nat) (h : zH) : zMet G yX0_lowestFree cX0_lowestFree 2 (some .int) zvI 1 [.ref (zbase G + a0)] h (f_X0_lowestFree n a0 h) := by
  refine zMet_of (l := [(0, .ref (zbase G + a0))]) (by decide) (Nat.le_of_ble_eq_true rfl) rfl ?_
  unfold f_X0_lowestFree
  refine zi_iconst (v := 0) dX0_lowestFree_0 (by decide) ?_
  refine zi_istore_n (l' := [(1, .int 0), (0, .ref (zbase G + a0))]) dX0_lowestFree_1 rfl (by decide) rfl ?_
  refine zi_sub [1, 0] rfl ?_
  exact wl_X0_lowestFree_2 G n n a0 0 h
set_option maxRecDepth 20000 in
set_option maxHeartbeats 1000000 in
theorem k_X0_leadTo (G : zG) (n : Nat) (a0 : Nat) (a1 : Int32) (a2 : Int32) (h : zH) : zMet G yX0_leadTo cX0_leadTo 3 none zvU 2 [.ref (zbase G + a0), .int a1, .int a2] h (f_X0_leadTo n a0 a1 a2 h) := by
  refine zMet_of (l := [(0, .ref (zbase G + a0)), (1, .int a1), (2, .int a2)]) (by decide) (Nat.le_of_ble_eq_true rfl) rfl ?_
  unfold f_X0_leadTo
  refine zi_iload_n dX0_leadTo_0 rfl 1 rfl ?_
  refine zi_callNI (As := [.int a1]) (rest := []) (host := "GraceTree") dX0_leadTo_1 mn_X0_46 md_X11_isCell ms_X11_isCell rfl rfl (Nat.le_of_ble_eq_true rfl) (Nat.le_of_ble_eq_true rfl) (k_X11_isCell G n a1 h) (fun r1 h2 => ?_)
  refine zi_if_eq (tgt := 17) dX0_leadTo_4 (by decide) ?_ ?_
  · refine zi_aload_n dX0_leadTo_17 rfl 0 rfl ?_
    refine zi_iload_n dX0_leadTo_18 rfl 2 rfl ?_
    refine zi_putI dX0_leadTo_19 gf_X0_30 (fun h3 => ?_)
    exact zi_retV dX0_leadTo_22
  · refine zi_aload_n dX0_leadTo_7 rfl 0 rfl ?_
    refine zi_getR dX0_leadTo_8 gf_X0_21 (fun v4 => ?_)
    refine zi_iload_n dX0_leadTo_11 rfl 1 rfl ?_
    refine zi_iload_n dX0_leadTo_12 rfl 2 rfl ?_
    refine zi_iast dX0_leadTo_13 (fun h5 => ?_)
    refine zi_goto (tgt := 22) dX0_leadTo_14 (by decide) ?_
    exact zi_retV dX0_leadTo_22
set_option maxRecDepth 20000 in
set_option maxHeartbeats 1000000 in
theorem k_X0_retire (G : zG) (n : Nat) (a0 : Nat) (a1 : Int32) (h : zH) : zMet G yX0_retire cX0_retire 2 none zvU 1 [.ref (zbase G + a0), .int a1] h (f_X0_retire n a0 a1 h) := by
  refine zMet_of (l := [(0, .ref (zbase G + a0)), (1, .int a1)]) (by decide) (Nat.le_of_ble_eq_true rfl) rfl ?_
  unfold f_X0_retire
  refine zi_aload_n dX0_retire_0 rfl 0 rfl ?_
  refine zi_getI dX0_retire_1 gf_X0_34 (fun v1 => ?_)
  refine zi_bipush (v := 24) dX0_retire_4 (by decide) ?_
  refine zi_icmp_ge (tgt := 36) dX0_retire_6 (by decide) ?_ ?_
  · exact zi_retV dX0_retire_36
  · refine zi_aload_n dX0_retire_9 rfl 0 rfl ?_
    refine zi_getR dX0_retire_10 gf_X0_9 (fun v2 => ?_)
    refine zi_iload_n dX0_retire_13 rfl 1 rfl ?_
    refine zi_iconst (v := 2) dX0_retire_14 (by decide) ?_
    refine zi_iast dX0_retire_15 (fun h3 => ?_)
    refine zi_aload_n dX0_retire_16 rfl 0 rfl ?_
    refine zi_getR dX0_retire_17 gf_X0_24 (fun v4 => ?_)
    refine zi_aload_n dX0_retire_20 rfl 0 rfl ?_
    refine zi_getI dX0_retire_21 gf_X0_34 (fun v5 => ?_)
    refine zi_iload_n dX0_retire_24 rfl 1 rfl ?_
    refine zi_iast dX0_retire_25 (fun h6 => ?_)
    refine zi_aload_n dX0_retire_26 rfl 0 rfl ?_
    refine zi_dup dX0_retire_27 rfl ?_
    refine zi_getI dX0_retire_28 gf_X0_34 (fun v7 => ?_)
    refine zi_iconst (v := 1) dX0_retire_31 (by decide) ?_
    refine zi_iadd dX0_retire_32 ?_
    refine zi_putI dX0_retire_33 gf_X0_34 (fun h8 => ?_)
    exact zi_retV dX0_retire_36
set_option maxRecDepth 20000 in
set_option maxHeartbeats 1000000 in
theorem wb_X0_insert_99 (G : zG) (n : Nat) (l0 : Nat) (l3 : Int32) (l4 : Int32) (l5 : Int32) (l6 : Int32) (s0 : Nat) (s1 : Int32) (s2 : Int32) (h : zH) : zW G yX0_insert cX0_insert 7 (some .int) zvI 3 99 [(0, .ref (zbase G + l0)), (3, .int l3), (4, .int l4), (5, .int l5), (6, .int l6)] [.int s2, .int s1, .ref (zbase G + s0)] h (fb_X0_insert_99 n l0 l3 l4 l5 l6 s0 s1 s2 h) := by
  unfold fb_X0_insert_99
  refine zi_iast dX0_insert_99 (fun h1 => ?_)
  refine zi_aload_n dX0_insert_100 rfl 0 rfl ?_
  refine zi_iload dX0_insert_101 2 rfl ?_
  refine zi_iload_n dX0_insert_103 rfl 1 rfl ?_
  refine zi_callVU (As := [.int l4, .int l3]) (rest := []) (ci := 0) dX0_insert_104 ml_X0_61 md_X0_leadTo mv_X0_leadTo rfl (by decide) rfl rfl (Nat.le_of_ble_eq_true rfl) (Nat.le_of_ble_eq_true rfl) (k_X0_leadTo G n l0 l4 l3 h1) (fun _ h3 => ?_)
  refine zi_iload dX0_insert_107 4 rfl ?_
  refine zi_if_eq (tgt := 118) dX0_insert_109 (by decide) ?_ ?_
  · refine zi_iload_n dX0_insert_118 rfl 1 rfl ?_
    exact zi_retI dX0_insert_119
  · refine zi_aload_n dX0_insert_112 rfl 0 rfl ?_
    refine zi_iload dX0_insert_113 3 rfl ?_
    refine zi_callVU (As := [.int l5]) (rest := []) (ci := 0) dX0_insert_115 ml_X0_65 md_X0_retire mv_X0_retire rfl (by decide) rfl rfl (Nat.le_of_ble_eq_true rfl) (Nat.le_of_ble_eq_true rfl) (k_X0_retire G n l0 l5 h3) (fun _ h5 => ?_)
    refine zi_iload_n dX0_insert_118 rfl 1 rfl ?_
    exact zi_retI dX0_insert_119
set_option maxRecDepth 20000 in
set_option maxHeartbeats 1000000 in
theorem wb_X0_insert_54 (G : zG) (n : Nat) (l0 : Nat) (l1 : Int32) (l2 : Int32) (l3 : Int32) (l4 : Int32) (l5 : Int32) (s0 : Int32) (h : zH) : zW G yX0_insert cX0_insert 7 (some .int) zvI 3 54 [(0, .ref (zbase G + l0)), (1, .int l1), (2, .int l2), (3, .int l3), (4, .int l4), (5, .int l5)] [.int s0] h (fb_X0_insert_54 n l0 l1 l2 l3 l4 l5 s0 h) := by
  unfold fb_X0_insert_54
  refine zi_istore (l' := [(6, .int s0), (0, .ref (zbase G + l0)), (1, .int l1), (2, .int l2), (3, .int l3), (4, .int l4), (5, .int l5)]) dX0_insert_54 (by decide) rfl ?_
  refine zi_aload_n dX0_insert_56 rfl 1 rfl ?_
  refine zi_getR dX0_insert_57 gf_X0_9 (fun v1 => ?_)
  refine zi_iload_n dX0_insert_60 rfl 4 rfl ?_
  refine zi_iconst (v := 1) dX0_insert_61 (by decide) ?_
  refine zi_iast dX0_insert_62 (fun h2 => ?_)
  refine zi_aload_n dX0_insert_63 rfl 1 rfl ?_
  refine zi_getR dX0_insert_64 gf_X0_15 (fun v3 => ?_)
  refine zi_iload_n dX0_insert_67 rfl 4 rfl ?_
  refine zi_iload_n dX0_insert_68 rfl 2 rfl ?_
  refine zi_iast dX0_insert_69 (fun h4 => ?_)
  refine zi_aload_n dX0_insert_70 rfl 1 rfl ?_
  refine zi_getR dX0_insert_71 gf_X0_18 (fun v5 => ?_)
  refine zi_iload_n dX0_insert_74 rfl 4 rfl ?_
  refine zi_iload_n dX0_insert_75 rfl 3 rfl ?_
  refine zi_iast dX0_insert_76 (fun h6 => ?_)
  refine zi_aload_n dX0_insert_77 rfl 1 rfl ?_
  refine zi_getR dX0_insert_78 gf_X0_21 (fun v7 => ?_)
  refine zi_iload_n dX0_insert_81 rfl 4 rfl ?_
  refine zi_iload dX0_insert_82 0 rfl ?_
  refine zi_if_eq (tgt := 97) dX0_insert_84 (by decide) ?_ ?_
  · refine zi_iload dX0_insert_97 6 rfl ?_
    refine zi_sub [1, 4, 5, 6, 0] rfl ?_
    exact wb_X0_insert_99 G n l0 l3 l4 l5 s0 v7 l3 l5 h6
  · refine zi_aload_n dX0_insert_87 rfl 1 rfl ?_
    refine zi_getR dX0_insert_88 gf_X0_21 (fun v8 => ?_)
    refine zi_iload dX0_insert_91 6 rfl ?_
    refine zi_iald dX0_insert_93 (fun v9 => ?_)
    refine zi_goto (tgt := 99) dX0_insert_94 (by decide) ?_
    refine zi_sub [1, 4, 5, 6, 0] rfl ?_
    exact wb_X0_insert_99 G n l0 l3 l4 l5 s0 v7 l3 v9 h6
set_option maxRecDepth 20000 in
set_option maxHeartbeats 1000000 in
theorem wb_X0_insert_53 (G : zG) (n : Nat) (l0 : Nat) (l1 : Int32) (l2 : Int32) (l3 : Int32) (l4 : Int32) (l5 : Int32) (h : zH) : zW G yX0_insert cX0_insert 7 (some .int) zvI 3 53 [(0, .ref (zbase G + l0)), (1, .int l1), (2, .int l2), (3, .int l3), (4, .int l4), (5, .int l5)] [] h (fb_X0_insert_53 n l0 l1 l2 l3 l4 l5 h) := by
  unfold fb_X0_insert_53
  refine zi_iconst (v := 0) dX0_insert_53 (by decide) ?_
  refine zi_sub [0, 1, 2, 3, 4, 5] rfl ?_
  exact wb_X0_insert_54 G n l0 l1 l2 l3 l4 l5 0 h
set_option maxRecDepth 20000 in
set_option maxHeartbeats 1000000 in
theorem k_X0_insert (G : zG) (n : Nat) (a0 : Nat) (a1 : Int32) (a2 : Int32) (h : zH) : zMet G yX0_insert cX0_insert 7 (some .int) zvI 3 [.ref (zbase G + a0), .int a1, .int a2] h (f_X0_insert n a0 a1 a2 h) := by
  refine zMet_of (l := [(0, .ref (zbase G + a0)), (1, .int a1), (2, .int a2)]) (by decide) (Nat.le_of_ble_eq_true rfl) rfl ?_
  unfold f_X0_insert
  refine zi_aload_n dX0_insert_0 rfl 0 rfl ?_
  refine zi_callVI (As := []) (rest := []) (ci := 0) dX0_insert_1 ml_X0_57 md_X0_lowestFree mv_X0_lowestFree rfl (by decide) rfl rfl (Nat.le_of_ble_eq_true rfl) (Nat.le_of_ble_eq_true rfl) (k_X0_lowestFree G n a0 h) (fun r1 h2 => ?_)
  refine zi_istore_n (l' := [(3, .int r1), (0, .ref (zbase G + a0)), (1, .int a1), (2, .int a2)]) dX0_insert_4 rfl (by decide) rfl ?_
  refine zi_iload_n dX0_insert_5 rfl 0 rfl ?_
  refine zi_callNI (As := [.int r1]) (rest := []) (host := "GraceTree") dX0_insert_6 mn_X0_46 md_X11_isCell ms_X11_isCell rfl rfl (Nat.le_of_ble_eq_true rfl) (Nat.le_of_ble_eq_true rfl) (k_X11_isCell G n r1 h2) (fun r3 h4 => ?_)
  refine zi_if_ne (tgt := 15) dX0_insert_9 (by decide) ?_ ?_
  · refine zi_aload_n dX0_insert_15 rfl 1 rfl ?_
    refine zi_iload_n dX0_insert_16 rfl 2 rfl ?_
    refine zi_callVI (As := [.int a1]) (rest := []) (ci := 0) dX0_insert_17 ml_X0_50 md_X0_lastBelow mv_X0_lastBelow rfl (by decide) rfl rfl (Nat.le_of_ble_eq_true rfl) (Nat.le_of_ble_eq_true rfl) (k_X0_lastBelow G n a0 a1 h4) (fun r5 h6 => ?_)
    refine zi_istore (l' := [(4, .int r5), (3, .int r1), (0, .ref (zbase G + a0)), (1, .int a1), (2, .int a2)]) dX0_insert_20 (by decide) rfl ?_
    refine zi_aload_n dX0_insert_22 rfl 2 rfl ?_
    refine zi_iload dX0_insert_23 0 rfl ?_
    refine zi_callVI (As := [.int r5]) (rest := []) (ci := 0) dX0_insert_25 ml_X0_54 md_X0_follower mv_X0_follower rfl (by decide) rfl rfl (Nat.le_of_ble_eq_true rfl) (Nat.le_of_ble_eq_true rfl) (k_X0_follower G n a0 r5 h6) (fun r7 h8 => ?_)
    refine zi_istore (l' := [(5, .int r7), (4, .int r5), (3, .int r1), (0, .ref (zbase G + a0)), (1, .int a1), (2, .int a2)]) dX0_insert_28 (by decide) rfl ?_
    refine zi_iload dX0_insert_30 0 rfl ?_
    refine zi_callNI (As := [.int r7]) (rest := []) (host := "GraceTree") dX0_insert_32 mn_X0_46 md_X11_isCell ms_X11_isCell rfl rfl (Nat.le_of_ble_eq_true rfl) (Nat.le_of_ble_eq_true rfl) (k_X11_isCell G n r7 h8) (fun r9 h10 => ?_)
    refine zi_if_eq (tgt := 53) dX0_insert_35 (by decide) ?_ ?_
    · refine zi_sub [3, 4, 5, 2, 1, 0] rfl ?_
      exact wb_X0_insert_53 G n a0 a1 a2 r1 r5 r7 h10
    · refine zi_aload_n dX0_insert_38 rfl 3 rfl ?_
      refine zi_getR dX0_insert_39 gf_X0_15 (fun v11 => ?_)
      refine zi_iload dX0_insert_42 0 rfl ?_
      refine zi_iald dX0_insert_44 (fun v12 => ?_)
      refine zi_iload_n dX0_insert_45 rfl 4 rfl ?_
      refine zi_icmp_ne (tgt := 53) dX0_insert_46 (by decide) ?_ ?_
      · refine zi_sub [3, 4, 5, 2, 1, 0] rfl ?_
        exact wb_X0_insert_53 G n a0 a1 a2 r1 r5 r7 h10
      · refine zi_iconst (v := 1) dX0_insert_49 (by decide) ?_
        refine zi_goto (tgt := 54) dX0_insert_50 (by decide) ?_
        refine zi_sub [3, 4, 5, 2, 1, 0] rfl ?_
        exact wb_X0_insert_54 G n a0 a1 a2 r1 r5 r7 1 h10
  · refine zi_bipush (v := (-5)) dX0_insert_12 (by decide) ?_
    exact zi_retI dX0_insert_14
set_option maxRecDepth 20000 in
set_option maxHeartbeats 1000000 in
theorem k_X10_putKey (G : zG) (n : Nat) (a0 : Nat) (a1 : Int32) (a2 : Int32) (a3 : Nat) (h : zH) : zMet G yX10_putKey cX10_putKey 4 (some .int) zvI 4 [.ref (zbase G + a0), .int a1, .int a2, .ref (zbase G + a3)] h (f_X10_putKey n a0 a1 a2 a3 h) := by
  refine zMet_of (l := [(0, .ref (zbase G + a0)), (1, .int a1), (2, .int a2), (3, .ref (zbase G + a3))]) (by decide) (Nat.le_of_ble_eq_true rfl) rfl ?_
  unfold f_X10_putKey
  refine zi_iload_n dX10_putKey_0 rfl 1 rfl ?_
  refine zi_if_lt (tgt := 21) dX10_putKey_1 (by decide) ?_ ?_
  · refine zi_iconst (v := (-1)) dX10_putKey_21 (by decide) ?_
    exact zi_retI dX10_putKey_22
  · refine zi_iload_n dX10_putKey_4 rfl 1 rfl ?_
    refine zi_bipush (v := 100) dX10_putKey_5 (by decide) ?_
    refine zi_icmp_ge (tgt := 21) dX10_putKey_7 (by decide) ?_ ?_
    · refine zi_iconst (v := (-1)) dX10_putKey_21 (by decide) ?_
      exact zi_retI dX10_putKey_22
    · refine zi_iload_n dX10_putKey_10 rfl 2 rfl ?_
      refine zi_if_lt (tgt := 21) dX10_putKey_11 (by decide) ?_ ?_
      · refine zi_iconst (v := (-1)) dX10_putKey_21 (by decide) ?_
        exact zi_retI dX10_putKey_22
      · refine zi_iload_n dX10_putKey_14 rfl 2 rfl ?_
        refine zi_sipush (v := 1000) dX10_putKey_15 (by decide) ?_
        refine zi_icmp_lt (tgt := 23) dX10_putKey_18 (by decide) ?_ ?_
        · refine zi_aload_n dX10_putKey_23 rfl 3 rfl ?_
          refine zi_iload_n dX10_putKey_24 rfl 1 rfl ?_
          refine zi_aload_n dX10_putKey_25 rfl 0 rfl ?_
          refine zi_getI dX10_putKey_26 gf_X10_45 (fun v1 => ?_)
          refine zi_callVI (As := [.int a1, .int v1]) (rest := []) (ci := 6) dX10_putKey_29 ml_X10_93 md_X6_bars mv_X6_bars rfl (by decide) rfl rfl (Nat.le_of_ble_eq_true rfl) (Nat.le_of_ble_eq_true rfl) (k_X6_bars G n a3 a1 v1 h) (fun r2 h3 => ?_)
          refine zi_if_eq (tgt := 40) dX10_putKey_32 (by decide) ?_ ?_
          · refine zi_aload_n dX10_putKey_40 rfl 0 rfl ?_
            refine zi_getR dX10_putKey_41 gf_X10_12 (fun v4 => ?_)
            refine zi_iload_n dX10_putKey_44 rfl 1 rfl ?_
            refine zi_iload_n dX10_putKey_45 rfl 2 rfl ?_
            refine zi_callVI (As := [.int a1, .int a2]) (rest := []) (ci := 0) dX10_putKey_46 ml_X10_99 md_X0_insert mv_X0_insert rfl (by decide) rfl rfl (Nat.le_of_ble_eq_true rfl) (Nat.le_of_ble_eq_true rfl) (k_X0_insert G n v4 a1 a2 h3) (fun r5 h6 => ?_)
            exact zi_retI dX10_putKey_49
          · refine zi_bipush (v := (-3)) dX10_putKey_35 (by decide) ?_
            refine zi_goto (tgt := 49) dX10_putKey_37 (by decide) ?_
            exact zi_retI dX10_putKey_49
        · refine zi_iconst (v := (-1)) dX10_putKey_21 (by decide) ?_
          exact zi_retI dX10_putKey_22
set_option maxRecDepth 20000 in
set_option maxHeartbeats 1000000 in
theorem wb_X11_row_102 (G : zG) (n : Nat) (l0 : Nat) (l1 : Int32) (l2 : Int32) (h : zH) : zW G yX11_row cX11_row 4 (some .int) zvI 5 102 [(0, .ref (zbase G + l0)), (1, .int l1), (2, .int l2)] [] h (fb_X11_row_102 n l0 l1 l2 h) := by
  unfold fb_X11_row_102
  refine zi_aload_n dX11_row_102 rfl 0 rfl ?_
  refine zi_getR dX11_row_103 gf_X11_65 (fun v1 => ?_)
  refine zi_iconst (v := 0) dX11_row_106 (by decide) ?_
  refine zi_putI dX11_row_107 gf_X11_210 (fun h2 => ?_)
  refine zi_aload_n dX11_row_110 rfl 0 rfl ?_
  refine zi_iload_n dX11_row_111 rfl 2 rfl ?_
  refine zi_putI dX11_row_112 gf_X11_87 (fun h3 => ?_)
  refine zi_aload_n dX11_row_115 rfl 0 rfl ?_
  refine zi_getR dX11_row_116 gf_X11_45 (fun v4 => ?_)
  refine zi_callVU (As := []) (rest := []) (ci := 2) dX11_row_119 ml_X11_207 md_X2_clear mv_X2_clear rfl (by decide) rfl rfl (Nat.le_of_ble_eq_true rfl) (Nat.le_of_ble_eq_true rfl) (k_X2_clear G n v4 h3) (fun _ h6 => ?_)
  refine zi_aload_n dX11_row_122 rfl 0 rfl ?_
  refine zi_iload_n dX11_row_123 rfl 1 rfl ?_
  refine zi_callVI (As := [.int l1]) (rest := []) (ci := 11) dX11_row_124 ml_X11_192 md_X11_told mv_X11_told rfl (by decide) rfl rfl (Nat.le_of_ble_eq_true rfl) (Nat.le_of_ble_eq_true rfl) (k_X11_told G n l0 l1 h6) (fun r7 h8 => ?_)
  exact zi_retI dX11_row_127
set_option maxRecDepth 20000 in
set_option maxHeartbeats 1000000 in
theorem wb_X11_row_96 (G : zG) (n : Nat) (k31 : Nat → Int32 → Int32 → Int32 → zH → Option (Int32 × zH)) (hk31 : ∀ (l0 : Nat) (l1 : Int32) (l2 : Int32) (l3 : Int32) (h : zH), zW G yX11_row cX11_row 4 (some .int) zvI 5 31 [(0, .ref (zbase G + l0)), (1, .int l1), (2, .int l2), (3, .int l3)] [] h (k31 l0 l1 l2 l3 h)) (l0 : Nat) (l1 : Int32) (l2 : Int32) (l3 : Int32) (h : zH) : zW G yX11_row cX11_row 4 (some .int) zvI 5 96 [(0, .ref (zbase G + l0)), (1, .int l1), (2, .int l2), (3, .int l3)] [] h (fb_X11_row_96 n k31 l0 l1 l2 l3 h) := by
  unfold fb_X11_row_96
  refine zi_iinc (j := 3) (v := l3 + 2) (l' := [(3, .int (l3 + 2)), (0, .ref (zbase G + l0)), (1, .int l1), (2, .int l2)]) dX11_row_96 rfl rfl (by decide) rfl ?_
  refine zi_goto (tgt := 31) dX11_row_99 (by decide) ?_
  refine zi_sub [1, 2, 3, 0] rfl ?_
  exact hk31 l0 l1 l2 (l3 + 2) h
set_option maxRecDepth 20000 in
set_option maxHeartbeats 1000000 in
theorem wb_X11_row_31 (G : zG) (n : Nat) (k31 : Nat → Int32 → Int32 → Int32 → zH → Option (Int32 × zH)) (hk31 : ∀ (l0 : Nat) (l1 : Int32) (l2 : Int32) (l3 : Int32) (h : zH), zW G yX11_row cX11_row 4 (some .int) zvI 5 31 [(0, .ref (zbase G + l0)), (1, .int l1), (2, .int l2), (3, .int l3)] [] h (k31 l0 l1 l2 l3 h)) (l0 : Nat) (l1 : Int32) (l2 : Int32) (l3 : Int32) (h : zH) : zW G yX11_row cX11_row 4 (some .int) zvI 5 31 [(0, .ref (zbase G + l0)), (1, .int l1), (2, .int l2), (3, .int l3)] [] h (fb_X11_row_31 n k31 l0 l1 l2 l3 h) := by
  unfold fb_X11_row_31
  refine zi_iload_n dX11_row_31 rfl 3 rfl ?_
  refine zi_iconst (v := 1) dX11_row_32 (by decide) ?_
  refine zi_iadd dX11_row_33 ?_
  refine zi_aload_n dX11_row_34 rfl 0 rfl ?_
  refine zi_getR dX11_row_35 gf_X11_65 (fun v1 => ?_)
  refine zi_getI dX11_row_38 gf_X11_210 (fun v2 => ?_)
  refine zi_icmp_ge (tgt := 102) dX11_row_41 (by decide) ?_ ?_
  · refine zi_sub [0, 1, 2] rfl ?_
    exact wb_X11_row_102 G n l0 l1 l2 h
  · refine zi_iload_n dX11_row_44 rfl 3 rfl ?_
    refine zi_iconst (v := 1) dX11_row_45 (by decide) ?_
    refine zi_iadd dX11_row_46 ?_
    refine zi_sipush (v := 400) dX11_row_47 (by decide) ?_
    refine zi_icmp_ge (tgt := 102) dX11_row_50 (by decide) ?_ ?_
    · refine zi_sub [0, 1, 2] rfl ?_
      exact wb_X11_row_102 G n l0 l1 l2 h
    · refine zi_aload_n dX11_row_53 rfl 0 rfl ?_
      refine zi_getR dX11_row_54 gf_X11_10 (fun v3 => ?_)
      refine zi_aload_n dX11_row_57 rfl 0 rfl ?_
      refine zi_getR dX11_row_58 gf_X11_65 (fun v4 => ?_)
      refine zi_getR dX11_row_61 gf_X11_217 (fun v5 => ?_)
      refine zi_iload_n dX11_row_64 rfl 3 rfl ?_
      refine zi_iald dX11_row_65 (fun v6 => ?_)
      refine zi_aload_n dX11_row_66 rfl 0 rfl ?_
      refine zi_getR dX11_row_67 gf_X11_65 (fun v7 => ?_)
      refine zi_getR dX11_row_70 gf_X11_217 (fun v8 => ?_)
      refine zi_iload_n dX11_row_73 rfl 3 rfl ?_
      refine zi_iconst (v := 1) dX11_row_74 (by decide) ?_
      refine zi_iadd dX11_row_75 ?_
      refine zi_iald dX11_row_76 (fun v9 => ?_)
      refine zi_aload_n dX11_row_77 rfl 0 rfl ?_
      refine zi_getR dX11_row_78 gf_X11_31 (fun v10 => ?_)
      refine zi_callVI (As := [.int v6, .int v9, .ref (zbase G + v10)]) (rest := []) (ci := 10) dX11_row_81 ml_X11_220 md_X10_putKey mv_X10_putKey rfl (by decide) rfl rfl (Nat.le_of_ble_eq_true rfl) (Nat.le_of_ble_eq_true rfl) (k_X10_putKey G n v3 v6 v9 v10 h) (fun r11 h12 => ?_)
      refine zi_if_lt (tgt := 93) dX11_row_84 (by decide) ?_ ?_
      · refine zi_iinc (j := 2) (v := l2 + 1) (l' := [(2, .int (l2 + 1)), (0, .ref (zbase G + l0)), (1, .int l1), (3, .int l3)]) dX11_row_93 rfl rfl (by decide) rfl ?_
        refine zi_sub [1, 2, 0, 3] rfl ?_
        exact wb_X11_row_96 G n k31 hk31 l0 l1 (l2 + 1) l3 h12
      · refine zi_iinc (j := 1) (v := l1 + 1) (l' := [(1, .int (l1 + 1)), (0, .ref (zbase G + l0)), (2, .int l2), (3, .int l3)]) dX11_row_87 rfl rfl (by decide) rfl ?_
        refine zi_goto (tgt := 96) dX11_row_90 (by decide) ?_
        refine zi_sub [1, 0, 2, 3] rfl ?_
        exact wb_X11_row_96 G n k31 hk31 l0 (l1 + 1) l2 l3 h12
theorem wl_X11_row_31 (G : zG) (n : Nat) : ∀ (t : Nat) (l0 : Nat) (l1 : Int32) (l2 : Int32) (l3 : Int32) (h : zH), zW G yX11_row cX11_row 4 (some .int) zvI 5 31 [(0, .ref (zbase G + l0)), (1, .int l1), (2, .int l2), (3, .int l3)] [] h (zlp4 (fb_X11_row_31 n ) t l0 l1 l2 l3 h) := by
  intro t
  induction t with
  | zero => intros; exact zW_none
  | succ t ih => intro l0 l1 l2 l3 h; rw [zlp4_s]; exact wb_X11_row_31 G n  _  ih l0 l1 l2 l3 h
set_option maxRecDepth 20000 in
set_option maxHeartbeats 1000000 in
theorem k_X11_row (G : zG) (n : Nat) (a0 : Nat) (h : zH) : zMet G yX11_row cX11_row 4 (some .int) zvI 5 [.ref (zbase G + a0)] h (f_X11_row n a0 h) := by
  refine zMet_of (l := [(0, .ref (zbase G + a0))]) (by decide) (Nat.le_of_ble_eq_true rfl) rfl ?_
  unfold f_X11_row
  refine zi_aload_n dX11_row_0 rfl 0 rfl ?_
  refine zi_getR dX11_row_1 gf_X11_65 (fun v1 => ?_)
  refine zi_getI dX11_row_4 gf_X11_210 (fun v2 => ?_)
  refine zi_if_ne (tgt := 17) dX11_row_7 (by decide) ?_ ?_
  · refine zi_iconst (v := 0) dX11_row_17 (by decide) ?_
    refine zi_istore_n (l' := [(1, .int 0), (0, .ref (zbase G + a0))]) dX11_row_18 rfl (by decide) rfl ?_
    refine zi_aload_n dX11_row_19 rfl 1 rfl ?_
    refine zi_getR dX11_row_20 gf_X11_65 (fun v3 => ?_)
    refine zi_getI dX11_row_23 gf_X11_210 (fun v4 => ?_)
    refine zi_iconst (v := 2) dX11_row_26 (by decide) ?_
    refine zi_irem dX11_row_27 (by decide) ?_
    refine zi_let (sf := fun x5 => .int x5 :: []) (fun x5 => ?_)
    refine zi_istore_n (l' := [(2, .int x5), (1, .int 0), (0, .ref (zbase G + a0))]) dX11_row_28 rfl (by decide) rfl ?_
    refine zi_iconst (v := 0) dX11_row_29 (by decide) ?_
    refine zi_istore_n (l' := [(3, .int 0), (2, .int x5), (1, .int 0), (0, .ref (zbase G + a0))]) dX11_row_30 rfl (by decide) rfl ?_
    refine zi_sub [3, 2, 1, 0] rfl ?_
    exact wl_X11_row_31 G n n a0 0 x5 0 h
  · refine zi_aload_n dX11_row_10 rfl 0 rfl ?_
    refine zi_bipush (v := (-6)) dX11_row_11 (by decide) ?_
    refine zi_callVI (As := [.int (-6)]) (rest := []) (ci := 11) dX11_row_13 ml_X11_192 md_X11_told mv_X11_told rfl (by decide) rfl rfl (Nat.le_of_ble_eq_true rfl) (Nat.le_of_ble_eq_true rfl) (k_X11_told G n a0 (-6) h) (fun r6 h7 => ?_)
    exact zi_retI dX11_row_16
set_option maxRecDepth 20000 in
set_option maxHeartbeats 1000000 in
theorem k_X11_tears (G : zG) (n : Nat) (a0 : Nat) (h : zH) : zMet G yX11_tears cX11_tears 1 (some .int) zvI 1 [.ref (zbase G + a0)] h (f_X11_tears n a0 h) := by
  refine zMet_of (l := [(0, .ref (zbase G + a0))]) (by decide) (Nat.le_of_ble_eq_true rfl) rfl ?_
  unfold f_X11_tears
  refine zi_aload_n dX11_tears_0 rfl 0 rfl ?_
  refine zi_getI dX11_tears_1 gf_X11_87 (fun v1 => ?_)
  exact zi_retI dX11_tears_4
set_option maxRecDepth 20000 in
set_option maxHeartbeats 1000000 in
theorem k_X9_byteAt (G : zG) (n : Nat) (a0 : Nat) (a1 : Int32) (h : zH) : zMet G yX9_byteAt cX9_byteAt 2 (some .int) zvI 1 [.ref (zbase G + a0), .int a1] h (f_X9_byteAt n a0 a1 h) := by
  refine zMet_of (l := [(0, .ref (zbase G + a0)), (1, .int a1)]) (by decide) (Nat.le_of_ble_eq_true rfl) rfl ?_
  unfold f_X9_byteAt
  refine zi_iload_n dX9_byteAt_0 rfl 1 rfl ?_
  refine zi_if_lt (tgt := 20) dX9_byteAt_1 (by decide) ?_ ?_
  · refine zi_iconst (v := 0) dX9_byteAt_20 (by decide) ?_
    exact zi_retI dX9_byteAt_21
  · refine zi_iload_n dX9_byteAt_4 rfl 1 rfl ?_
    refine zi_sipush (v := 400) dX9_byteAt_5 (by decide) ?_
    refine zi_icmp_ge (tgt := 20) dX9_byteAt_8 (by decide) ?_ ?_
    · refine zi_iconst (v := 0) dX9_byteAt_20 (by decide) ?_
      exact zi_retI dX9_byteAt_21
    · refine zi_aload_n dX9_byteAt_11 rfl 0 rfl ?_
      refine zi_getR dX9_byteAt_12 gf_X9_138 (fun v1 => ?_)
      refine zi_iload_n dX9_byteAt_15 rfl 1 rfl ?_
      refine zi_iald dX9_byteAt_16 (fun v2 => ?_)
      refine zi_goto (tgt := 21) dX9_byteAt_17 (by decide) ?_
      exact zi_retI dX9_byteAt_21
set_option maxRecDepth 20000 in
set_option maxHeartbeats 1000000 in
theorem k_X9_isLetter (G : zG) (n : Nat) (a0 : Int32) (h : zH) : zMet G yX9_isLetter cX9_isLetter 1 (some .boolean) zvI 1 [.int a0] h (f_X9_isLetter n a0 h) := by
  refine zMet_of (l := [(0, .int a0)]) (by decide) (Nat.le_of_ble_eq_true rfl) rfl ?_
  unfold f_X9_isLetter
  refine zi_iload_n dX9_isLetter_0 rfl 0 rfl ?_
  refine zi_bipush (v := 97) dX9_isLetter_1 (by decide) ?_
  refine zi_icmp_lt (tgt := 16) dX9_isLetter_3 (by decide) ?_ ?_
  · refine zi_iconst (v := 0) dX9_isLetter_16 (by decide) ?_
    exact zi_ret0 dX9_isLetter_17
  · refine zi_iload_n dX9_isLetter_6 rfl 0 rfl ?_
    refine zi_bipush (v := 122) dX9_isLetter_7 (by decide) ?_
    refine zi_icmp_gt (tgt := 16) dX9_isLetter_9 (by decide) ?_ ?_
    · refine zi_iconst (v := 0) dX9_isLetter_16 (by decide) ?_
      exact zi_ret0 dX9_isLetter_17
    · refine zi_iconst (v := 1) dX9_isLetter_12 (by decide) ?_
      refine zi_goto (tgt := 17) dX9_isLetter_13 (by decide) ?_
      exact zi_ret1 dX9_isLetter_17
set_option maxRecDepth 20000 in
set_option maxHeartbeats 1000000 in
theorem wb_X9_same_15 (G : zG) (n : Nat) (k15 : Nat → Int32 → Nat → Int32 → zH → Option (Int32 × zH)) (hk15 : ∀ (l0 : Nat) (l1 : Int32) (l3 : Nat) (l4 : Int32) (h : zH), zW G yX9_same cX9_same 5 (some .boolean) zvI 7 15 [(0, .ref (zbase G + l0)), (1, .int l1), (3, .ref (G.2.2.2.2.1 l3)), (4, .int l4)] [] h (k15 l0 l1 l3 l4 h)) (l0 : Nat) (l1 : Int32) (l3 : Nat) (l4 : Int32) (h : zH) : zW G yX9_same cX9_same 5 (some .boolean) zvI 7 15 [(0, .ref (zbase G + l0)), (1, .int l1), (3, .ref (G.2.2.2.2.1 l3)), (4, .int l4)] [] h (fb_X9_same_15 n k15 l0 l1 l3 l4 h) := by
  unfold fb_X9_same_15
  refine zi_iload dX9_same_15 3 rfl ?_
  refine zi_aload_n dX9_same_17 rfl 2 rfl ?_
  refine zi_callStr (As := []) (rest := [.int l4]) dX9_same_18 ml_X9_129 md_J0_length_8abf5 mv_J0_length_8abf5 rfl rfl rfl (Nat.le_of_ble_eq_true rfl) (Nat.le_of_ble_eq_true rfl) (zStrLen_met G l3 h) (fun r1 h2 => ?_)
  refine zi_icmp_ge (tgt := 49) dX9_same_21 (by decide) ?_ ?_
  · refine zi_iconst (v := 1) dX9_same_49 (by decide) ?_
    exact zi_ret1 dX9_same_50
  · refine zi_aload_n dX9_same_24 rfl 0 rfl ?_
    refine zi_iload_n dX9_same_25 rfl 1 rfl ?_
    refine zi_iload dX9_same_26 3 rfl ?_
    refine zi_iadd dX9_same_28 ?_
    refine zi_callSI (As := [.ref (zbase G + l0), .int (l1 + l4)]) (rest := []) dX9_same_29 ml_X9_30 md_X9_byteAt ms_X9_byteAt rfl rfl (Nat.le_of_ble_eq_true rfl) (Nat.le_of_ble_eq_true rfl) (k_X9_byteAt G n l0 (l1 + l4) h2) (fun r3 h4 => ?_)
    refine zi_aload_n dX9_same_32 rfl 2 rfl ?_
    refine zi_iload dX9_same_33 3 rfl ?_
    refine zi_callStr (As := [.int l4]) (rest := [.int r3]) dX9_same_35 ml_X9_134 md_J0_charAt_5068e mv_J0_charAt_5068e rfl rfl rfl (Nat.le_of_ble_eq_true rfl) (Nat.le_of_ble_eq_true rfl) (zStrAt_met G l3 l4 h4) (fun r5 h6 => ?_)
    refine zi_icmp_eq (tgt := 43) dX9_same_38 (by decide) ?_ ?_
    · refine zi_iinc (j := 3) (v := l4 + 1) (l' := [(4, .int (l4 + 1)), (0, .ref (zbase G + l0)), (1, .int l1), (3, .ref (G.2.2.2.2.1 l3))]) dX9_same_43 rfl rfl (by decide) rfl ?_
      refine zi_goto (tgt := 15) dX9_same_46 (by decide) ?_
      refine zi_sub [1, 2, 3, 0] rfl ?_
      exact hk15 l0 l1 l3 (l4 + 1) h6
    · refine zi_iconst (v := 0) dX9_same_41 (by decide) ?_
      exact zi_ret0 dX9_same_42
theorem wl_X9_same_15 (G : zG) (n : Nat) : ∀ (t : Nat) (l0 : Nat) (l1 : Int32) (l3 : Nat) (l4 : Int32) (h : zH), zW G yX9_same cX9_same 5 (some .boolean) zvI 7 15 [(0, .ref (zbase G + l0)), (1, .int l1), (3, .ref (G.2.2.2.2.1 l3)), (4, .int l4)] [] h (zlp4 (fb_X9_same_15 n ) t l0 l1 l3 l4 h) := by
  intro t
  induction t with
  | zero => intros; exact zW_none
  | succ t ih => intro l0 l1 l3 l4 h; rw [zlp4_s]; exact wb_X9_same_15 G n  _  ih l0 l1 l3 l4 h
set_option maxRecDepth 20000 in
set_option maxHeartbeats 1000000 in
theorem k_X9_same (G : zG) (n : Nat) (a0 : Nat) (a1 : Int32) (a2 : Int32) (a3 : Nat) (h : zH) : zMet G yX9_same cX9_same 5 (some .boolean) zvI 7 [.ref (zbase G + a0), .int a1, .int a2, .ref (G.2.2.2.2.1 a3)] h (f_X9_same n a0 a1 a2 a3 h) := by
  refine zMet_of (l := [(0, .ref (zbase G + a0)), (1, .int a1), (2, .int a2), (3, .ref (G.2.2.2.2.1 a3))]) (by decide) (Nat.le_of_ble_eq_true rfl) rfl ?_
  unfold f_X9_same
  refine zi_iload_n dX9_same_0 rfl 2 rfl ?_
  refine zi_iload_n dX9_same_1 rfl 1 rfl ?_
  refine zi_isub dX9_same_2 ?_
  refine zi_aload_n dX9_same_3 rfl 3 rfl ?_
  refine zi_callStr (As := []) (rest := [.int (a2 - a1)]) dX9_same_4 ml_X9_129 md_J0_length_8abf5 mv_J0_length_8abf5 rfl rfl rfl (Nat.le_of_ble_eq_true rfl) (Nat.le_of_ble_eq_true rfl) (zStrLen_met G a3 h) (fun r1 h2 => ?_)
  refine zi_icmp_eq (tgt := 12) dX9_same_7 (by decide) ?_ ?_
  · refine zi_iconst (v := 0) dX9_same_12 (by decide) ?_
    refine zi_istore (l' := [(4, .int 0), (0, .ref (zbase G + a0)), (1, .int a1), (2, .int a2), (3, .ref (G.2.2.2.2.1 a3))]) dX9_same_13 (by decide) rfl ?_
    refine zi_sub [1, 2, 4, 0] rfl ?_
    exact wl_X9_same_15 G n n a0 a1 a3 0 h2
  · refine zi_iconst (v := 0) dX9_same_10 (by decide) ?_
    exact zi_ret0 dX9_same_11
set_option maxRecDepth 20000 in
set_option maxHeartbeats 1000000 in
theorem k_X9_lawWord (G : zG) (n : Nat) (a0 : Nat) (a1 : Int32) (a2 : Int32) (h : zH) : zMet G yX9_lawWord cX9_lawWord 3 (some .int) zvI 8 [.ref (zbase G + a0), .int a1, .int a2] h (f_X9_lawWord n a0 a1 a2 h) := by
  refine zMet_of (l := [(0, .ref (zbase G + a0)), (1, .int a1), (2, .int a2)]) (by decide) (Nat.le_of_ble_eq_true rfl) rfl ?_
  unfold f_X9_lawWord
  refine zi_aload_n dX9_lawWord_0 rfl 0 rfl ?_
  refine zi_iload_n dX9_lawWord_1 rfl 1 rfl ?_
  refine zi_iload_n dX9_lawWord_2 rfl 2 rfl ?_
  refine zi_ldcS dX9_lawWord_3 (i := 4) (by decide) (by decide) (by decide) ?_
  refine zi_callSI (As := [.ref (zbase G + a0), .int a1, .int a2, .ref (G.2.2.2.2.1 4)]) (rest := []) dX9_lawWord_5 ml_X9_57 md_X9_same ms_X9_same rfl rfl (Nat.le_of_ble_eq_true rfl) (Nat.le_of_ble_eq_true rfl) (k_X9_same G n a0 a1 a2 4 h) (fun r1 h2 => ?_)
  refine zi_if_eq (tgt := 15) dX9_lawWord_8 (by decide) ?_ ?_
  · refine zi_aload_n dX9_lawWord_15 rfl 0 rfl ?_
    refine zi_iload_n dX9_lawWord_16 rfl 1 rfl ?_
    refine zi_iload_n dX9_lawWord_17 rfl 2 rfl ?_
    refine zi_ldcS dX9_lawWord_18 (i := 5) (by decide) (by decide) (by decide) ?_
    refine zi_callSI (As := [.ref (zbase G + a0), .int a1, .int a2, .ref (G.2.2.2.2.1 5)]) (rest := []) dX9_lawWord_20 ml_X9_57 md_X9_same ms_X9_same rfl rfl (Nat.le_of_ble_eq_true rfl) (Nat.le_of_ble_eq_true rfl) (k_X9_same G n a0 a1 a2 5 h2) (fun r3 h4 => ?_)
    refine zi_if_eq (tgt := 30) dX9_lawWord_23 (by decide) ?_ ?_
    · refine zi_aload_n dX9_lawWord_30 rfl 0 rfl ?_
      refine zi_iload_n dX9_lawWord_31 rfl 1 rfl ?_
      refine zi_iload_n dX9_lawWord_32 rfl 2 rfl ?_
      refine zi_ldcS dX9_lawWord_33 (i := 6) (by decide) (by decide) (by decide) ?_
      refine zi_callSI (As := [.ref (zbase G + a0), .int a1, .int a2, .ref (G.2.2.2.2.1 6)]) (rest := []) dX9_lawWord_35 ml_X9_57 md_X9_same ms_X9_same rfl rfl (Nat.le_of_ble_eq_true rfl) (Nat.le_of_ble_eq_true rfl) (k_X9_same G n a0 a1 a2 6 h4) (fun r5 h6 => ?_)
      refine zi_if_eq (tgt := 45) dX9_lawWord_38 (by decide) ?_ ?_
      · refine zi_aload_n dX9_lawWord_45 rfl 0 rfl ?_
        refine zi_iload_n dX9_lawWord_46 rfl 1 rfl ?_
        refine zi_iload_n dX9_lawWord_47 rfl 2 rfl ?_
        refine zi_ldcS dX9_lawWord_48 (i := 7) (by decide) (by decide) (by decide) ?_
        refine zi_callSI (As := [.ref (zbase G + a0), .int a1, .int a2, .ref (G.2.2.2.2.1 7)]) (rest := []) dX9_lawWord_50 ml_X9_57 md_X9_same ms_X9_same rfl rfl (Nat.le_of_ble_eq_true rfl) (Nat.le_of_ble_eq_true rfl) (k_X9_same G n a0 a1 a2 7 h6) (fun r7 h8 => ?_)
        refine zi_if_eq (tgt := 60) dX9_lawWord_53 (by decide) ?_ ?_
        · refine zi_aload_n dX9_lawWord_60 rfl 0 rfl ?_
          refine zi_iload_n dX9_lawWord_61 rfl 1 rfl ?_
          refine zi_iload_n dX9_lawWord_62 rfl 2 rfl ?_
          refine zi_ldcS dX9_lawWord_63 (i := 8) (by decide) (by decide) (by decide) ?_
          refine zi_callSI (As := [.ref (zbase G + a0), .int a1, .int a2, .ref (G.2.2.2.2.1 8)]) (rest := []) dX9_lawWord_65 ml_X9_57 md_X9_same ms_X9_same rfl rfl (Nat.le_of_ble_eq_true rfl) (Nat.le_of_ble_eq_true rfl) (k_X9_same G n a0 a1 a2 8 h8) (fun r9 h10 => ?_)
          refine zi_if_eq (tgt := 75) dX9_lawWord_68 (by decide) ?_ ?_
          · refine zi_aload_n dX9_lawWord_75 rfl 0 rfl ?_
            refine zi_iload_n dX9_lawWord_76 rfl 1 rfl ?_
            refine zi_iload_n dX9_lawWord_77 rfl 2 rfl ?_
            refine zi_ldcS dX9_lawWord_78 (i := 9) (by decide) (by decide) (by decide) ?_
            refine zi_callSI (As := [.ref (zbase G + a0), .int a1, .int a2, .ref (G.2.2.2.2.1 9)]) (rest := []) dX9_lawWord_80 ml_X9_57 md_X9_same ms_X9_same rfl rfl (Nat.le_of_ble_eq_true rfl) (Nat.le_of_ble_eq_true rfl) (k_X9_same G n a0 a1 a2 9 h10) (fun r11 h12 => ?_)
            refine zi_if_eq (tgt := 90) dX9_lawWord_83 (by decide) ?_ ?_
            · refine zi_aload_n dX9_lawWord_90 rfl 0 rfl ?_
              refine zi_iload_n dX9_lawWord_91 rfl 1 rfl ?_
              refine zi_iload_n dX9_lawWord_92 rfl 2 rfl ?_
              refine zi_ldcS dX9_lawWord_93 (i := 10) (by decide) (by decide) (by decide) ?_
              refine zi_callSI (As := [.ref (zbase G + a0), .int a1, .int a2, .ref (G.2.2.2.2.1 10)]) (rest := []) dX9_lawWord_95 ml_X9_57 md_X9_same ms_X9_same rfl rfl (Nat.le_of_ble_eq_true rfl) (Nat.le_of_ble_eq_true rfl) (k_X9_same G n a0 a1 a2 10 h12) (fun r13 h14 => ?_)
              refine zi_if_eq (tgt := 105) dX9_lawWord_98 (by decide) ?_ ?_
              · refine zi_aload_n dX9_lawWord_105 rfl 0 rfl ?_
                refine zi_iload_n dX9_lawWord_106 rfl 1 rfl ?_
                refine zi_iload_n dX9_lawWord_107 rfl 2 rfl ?_
                refine zi_ldcS dX9_lawWord_108 (i := 11) (by decide) (by decide) (by decide) ?_
                refine zi_callSI (As := [.ref (zbase G + a0), .int a1, .int a2, .ref (G.2.2.2.2.1 11)]) (rest := []) dX9_lawWord_110 ml_X9_57 md_X9_same ms_X9_same rfl rfl (Nat.le_of_ble_eq_true rfl) (Nat.le_of_ble_eq_true rfl) (k_X9_same G n a0 a1 a2 11 h14) (fun r15 h16 => ?_)
                refine zi_if_eq (tgt := 120) dX9_lawWord_113 (by decide) ?_ ?_
                · refine zi_aload_n dX9_lawWord_120 rfl 0 rfl ?_
                  refine zi_iload_n dX9_lawWord_121 rfl 1 rfl ?_
                  refine zi_iload_n dX9_lawWord_122 rfl 2 rfl ?_
                  refine zi_ldcS dX9_lawWord_123 (i := 12) (by decide) (by decide) (by decide) ?_
                  refine zi_callSI (As := [.ref (zbase G + a0), .int a1, .int a2, .ref (G.2.2.2.2.1 12)]) (rest := []) dX9_lawWord_125 ml_X9_57 md_X9_same ms_X9_same rfl rfl (Nat.le_of_ble_eq_true rfl) (Nat.le_of_ble_eq_true rfl) (k_X9_same G n a0 a1 a2 12 h16) (fun r17 h18 => ?_)
                  refine zi_if_eq (tgt := 137) dX9_lawWord_128 (by decide) ?_ ?_
                  · refine zi_iconst (v := 2) dX9_lawWord_137 (by decide) ?_
                    exact zi_retI dX9_lawWord_138
                  · refine zi_sipush (v := 406) dX9_lawWord_131 (by decide) ?_
                    refine zi_goto (tgt := 138) dX9_lawWord_134 (by decide) ?_
                    exact zi_retI dX9_lawWord_138
                · refine zi_sipush (v := 405) dX9_lawWord_116 (by decide) ?_
                  exact zi_retI dX9_lawWord_119
              · refine zi_sipush (v := 404) dX9_lawWord_101 (by decide) ?_
                exact zi_retI dX9_lawWord_104
            · refine zi_sipush (v := 403) dX9_lawWord_86 (by decide) ?_
              exact zi_retI dX9_lawWord_89
          · refine zi_sipush (v := 402) dX9_lawWord_71 (by decide) ?_
            exact zi_retI dX9_lawWord_74
        · refine zi_sipush (v := 401) dX9_lawWord_56 (by decide) ?_
          exact zi_retI dX9_lawWord_59
      · refine zi_sipush (v := 400) dX9_lawWord_41 (by decide) ?_
        exact zi_retI dX9_lawWord_44
    · refine zi_sipush (v := 263) dX9_lawWord_26 (by decide) ?_
      exact zi_retI dX9_lawWord_29
  · refine zi_sipush (v := 262) dX9_lawWord_11 (by decide) ?_
    exact zi_retI dX9_lawWord_14
set_option maxRecDepth 20000 in
set_option maxHeartbeats 1000000 in
theorem k_X9_actWord (G : zG) (n : Nat) (a0 : Nat) (a1 : Int32) (a2 : Int32) (h : zH) : zMet G yX9_actWord cX9_actWord 3 (some .int) zvI 8 [.ref (zbase G + a0), .int a1, .int a2] h (f_X9_actWord n a0 a1 a2 h) := by
  refine zMet_of (l := [(0, .ref (zbase G + a0)), (1, .int a1), (2, .int a2)]) (by decide) (Nat.le_of_ble_eq_true rfl) rfl ?_
  unfold f_X9_actWord
  refine zi_aload_n dX9_actWord_0 rfl 0 rfl ?_
  refine zi_iload_n dX9_actWord_1 rfl 1 rfl ?_
  refine zi_iload_n dX9_actWord_2 rfl 2 rfl ?_
  refine zi_ldcS dX9_actWord_3 (i := 13) (by decide) (by decide) (by decide) ?_
  refine zi_callSI (As := [.ref (zbase G + a0), .int a1, .int a2, .ref (G.2.2.2.2.1 13)]) (rest := []) dX9_actWord_5 ml_X9_57 md_X9_same ms_X9_same rfl rfl (Nat.le_of_ble_eq_true rfl) (Nat.le_of_ble_eq_true rfl) (k_X9_same G n a0 a1 a2 13 h) (fun r1 h2 => ?_)
  refine zi_if_eq (tgt := 15) dX9_actWord_8 (by decide) ?_ ?_
  · refine zi_aload_n dX9_actWord_15 rfl 0 rfl ?_
    refine zi_iload_n dX9_actWord_16 rfl 1 rfl ?_
    refine zi_iload_n dX9_actWord_17 rfl 2 rfl ?_
    refine zi_ldcS dX9_actWord_18 (i := 14) (by decide) (by decide) (by decide) ?_
    refine zi_callSI (As := [.ref (zbase G + a0), .int a1, .int a2, .ref (G.2.2.2.2.1 14)]) (rest := []) dX9_actWord_20 ml_X9_57 md_X9_same ms_X9_same rfl rfl (Nat.le_of_ble_eq_true rfl) (Nat.le_of_ble_eq_true rfl) (k_X9_same G n a0 a1 a2 14 h2) (fun r3 h4 => ?_)
    refine zi_if_eq (tgt := 30) dX9_actWord_23 (by decide) ?_ ?_
    · refine zi_aload_n dX9_actWord_30 rfl 0 rfl ?_
      refine zi_iload_n dX9_actWord_31 rfl 1 rfl ?_
      refine zi_iload_n dX9_actWord_32 rfl 2 rfl ?_
      refine zi_ldcS dX9_actWord_33 (i := 15) (by decide) (by decide) (by decide) ?_
      refine zi_callSI (As := [.ref (zbase G + a0), .int a1, .int a2, .ref (G.2.2.2.2.1 15)]) (rest := []) dX9_actWord_35 ml_X9_57 md_X9_same ms_X9_same rfl rfl (Nat.le_of_ble_eq_true rfl) (Nat.le_of_ble_eq_true rfl) (k_X9_same G n a0 a1 a2 15 h4) (fun r5 h6 => ?_)
      refine zi_if_eq (tgt := 45) dX9_actWord_38 (by decide) ?_ ?_
      · refine zi_aload_n dX9_actWord_45 rfl 0 rfl ?_
        refine zi_iload_n dX9_actWord_46 rfl 1 rfl ?_
        refine zi_iload_n dX9_actWord_47 rfl 2 rfl ?_
        refine zi_ldcS dX9_actWord_48 (i := 16) (by decide) (by decide) (by decide) ?_
        refine zi_callSI (As := [.ref (zbase G + a0), .int a1, .int a2, .ref (G.2.2.2.2.1 16)]) (rest := []) dX9_actWord_50 ml_X9_57 md_X9_same ms_X9_same rfl rfl (Nat.le_of_ble_eq_true rfl) (Nat.le_of_ble_eq_true rfl) (k_X9_same G n a0 a1 a2 16 h6) (fun r7 h8 => ?_)
        refine zi_if_eq (tgt := 60) dX9_actWord_53 (by decide) ?_ ?_
        · refine zi_aload_n dX9_actWord_60 rfl 0 rfl ?_
          refine zi_iload_n dX9_actWord_61 rfl 1 rfl ?_
          refine zi_iload_n dX9_actWord_62 rfl 2 rfl ?_
          refine zi_ldcS dX9_actWord_63 (i := 17) (by decide) (by decide) (by decide) ?_
          refine zi_callSI (As := [.ref (zbase G + a0), .int a1, .int a2, .ref (G.2.2.2.2.1 17)]) (rest := []) dX9_actWord_65 ml_X9_57 md_X9_same ms_X9_same rfl rfl (Nat.le_of_ble_eq_true rfl) (Nat.le_of_ble_eq_true rfl) (k_X9_same G n a0 a1 a2 17 h8) (fun r9 h10 => ?_)
          refine zi_if_eq (tgt := 75) dX9_actWord_68 (by decide) ?_ ?_
          · refine zi_aload_n dX9_actWord_75 rfl 0 rfl ?_
            refine zi_iload_n dX9_actWord_76 rfl 1 rfl ?_
            refine zi_iload_n dX9_actWord_77 rfl 2 rfl ?_
            refine zi_ldcS dX9_actWord_78 (i := 18) (by decide) (by decide) (by decide) ?_
            refine zi_callSI (As := [.ref (zbase G + a0), .int a1, .int a2, .ref (G.2.2.2.2.1 18)]) (rest := []) dX9_actWord_80 ml_X9_57 md_X9_same ms_X9_same rfl rfl (Nat.le_of_ble_eq_true rfl) (Nat.le_of_ble_eq_true rfl) (k_X9_same G n a0 a1 a2 18 h10) (fun r11 h12 => ?_)
            refine zi_if_eq (tgt := 90) dX9_actWord_83 (by decide) ?_ ?_
            · refine zi_aload_n dX9_actWord_90 rfl 0 rfl ?_
              refine zi_iload_n dX9_actWord_91 rfl 1 rfl ?_
              refine zi_iload_n dX9_actWord_92 rfl 2 rfl ?_
              refine zi_ldcS dX9_actWord_93 (i := 19) (by decide) (by decide) (by decide) ?_
              refine zi_callSI (As := [.ref (zbase G + a0), .int a1, .int a2, .ref (G.2.2.2.2.1 19)]) (rest := []) dX9_actWord_95 ml_X9_57 md_X9_same ms_X9_same rfl rfl (Nat.le_of_ble_eq_true rfl) (Nat.le_of_ble_eq_true rfl) (k_X9_same G n a0 a1 a2 19 h12) (fun r13 h14 => ?_)
              refine zi_if_eq (tgt := 105) dX9_actWord_98 (by decide) ?_ ?_
              · refine zi_aload_n dX9_actWord_105 rfl 0 rfl ?_
                refine zi_iload_n dX9_actWord_106 rfl 1 rfl ?_
                refine zi_iload_n dX9_actWord_107 rfl 2 rfl ?_
                refine zi_ldcS dX9_actWord_108 (i := 20) (by decide) (by decide) (by decide) ?_
                refine zi_callSI (As := [.ref (zbase G + a0), .int a1, .int a2, .ref (G.2.2.2.2.1 20)]) (rest := []) dX9_actWord_110 ml_X9_57 md_X9_same ms_X9_same rfl rfl (Nat.le_of_ble_eq_true rfl) (Nat.le_of_ble_eq_true rfl) (k_X9_same G n a0 a1 a2 20 h14) (fun r15 h16 => ?_)
                refine zi_if_eq (tgt := 122) dX9_actWord_113 (by decide) ?_ ?_
                · refine zi_iconst (v := 2) dX9_actWord_122 (by decide) ?_
                  exact zi_retI dX9_actWord_123
                · refine zi_sipush (v := 307) dX9_actWord_116 (by decide) ?_
                  refine zi_goto (tgt := 123) dX9_actWord_119 (by decide) ?_
                  exact zi_retI dX9_actWord_123
              · refine zi_sipush (v := 306) dX9_actWord_101 (by decide) ?_
                exact zi_retI dX9_actWord_104
            · refine zi_sipush (v := 305) dX9_actWord_86 (by decide) ?_
              exact zi_retI dX9_actWord_89
          · refine zi_sipush (v := 304) dX9_actWord_71 (by decide) ?_
            exact zi_retI dX9_actWord_74
        · refine zi_sipush (v := 303) dX9_actWord_56 (by decide) ?_
          exact zi_retI dX9_actWord_59
      · refine zi_sipush (v := 302) dX9_actWord_41 (by decide) ?_
        exact zi_retI dX9_actWord_44
    · refine zi_sipush (v := 301) dX9_actWord_26 (by decide) ?_
      exact zi_retI dX9_actWord_29
  · refine zi_sipush (v := 300) dX9_actWord_11 (by decide) ?_
    exact zi_retI dX9_actWord_14
set_option maxRecDepth 20000 in
set_option maxHeartbeats 1000000 in
theorem k_X9_orderWord (G : zG) (n : Nat) (a0 : Nat) (a1 : Int32) (a2 : Int32) (h : zH) : zMet G yX9_orderWord cX9_orderWord 3 (some .int) zvI 8 [.ref (zbase G + a0), .int a1, .int a2] h (f_X9_orderWord n a0 a1 a2 h) := by
  refine zMet_of (l := [(0, .ref (zbase G + a0)), (1, .int a1), (2, .int a2)]) (by decide) (Nat.le_of_ble_eq_true rfl) rfl ?_
  unfold f_X9_orderWord
  refine zi_aload_n dX9_orderWord_0 rfl 0 rfl ?_
  refine zi_iload_n dX9_orderWord_1 rfl 1 rfl ?_
  refine zi_iload_n dX9_orderWord_2 rfl 2 rfl ?_
  refine zi_ldcS dX9_orderWord_3 (i := 21) (by decide) (by decide) (by decide) ?_
  refine zi_callSI (As := [.ref (zbase G + a0), .int a1, .int a2, .ref (G.2.2.2.2.1 21)]) (rest := []) dX9_orderWord_5 ml_X9_57 md_X9_same ms_X9_same rfl rfl (Nat.le_of_ble_eq_true rfl) (Nat.le_of_ble_eq_true rfl) (k_X9_same G n a0 a1 a2 21 h) (fun r1 h2 => ?_)
  refine zi_if_eq (tgt := 15) dX9_orderWord_8 (by decide) ?_ ?_
  · refine zi_aload_n dX9_orderWord_15 rfl 0 rfl ?_
    refine zi_iload_n dX9_orderWord_16 rfl 1 rfl ?_
    refine zi_iload_n dX9_orderWord_17 rfl 2 rfl ?_
    refine zi_ldcS dX9_orderWord_18 (i := 22) (by decide) (by decide) (by decide) ?_
    refine zi_callSI (As := [.ref (zbase G + a0), .int a1, .int a2, .ref (G.2.2.2.2.1 22)]) (rest := []) dX9_orderWord_20 ml_X9_57 md_X9_same ms_X9_same rfl rfl (Nat.le_of_ble_eq_true rfl) (Nat.le_of_ble_eq_true rfl) (k_X9_same G n a0 a1 a2 22 h2) (fun r3 h4 => ?_)
    refine zi_if_eq (tgt := 30) dX9_orderWord_23 (by decide) ?_ ?_
    · refine zi_aload_n dX9_orderWord_30 rfl 0 rfl ?_
      refine zi_iload_n dX9_orderWord_31 rfl 1 rfl ?_
      refine zi_iload_n dX9_orderWord_32 rfl 2 rfl ?_
      refine zi_ldcS dX9_orderWord_33 (i := 23) (by decide) (by decide) (by decide) ?_
      refine zi_callSI (As := [.ref (zbase G + a0), .int a1, .int a2, .ref (G.2.2.2.2.1 23)]) (rest := []) dX9_orderWord_35 ml_X9_57 md_X9_same ms_X9_same rfl rfl (Nat.le_of_ble_eq_true rfl) (Nat.le_of_ble_eq_true rfl) (k_X9_same G n a0 a1 a2 23 h4) (fun r5 h6 => ?_)
      refine zi_if_eq (tgt := 45) dX9_orderWord_38 (by decide) ?_ ?_
      · refine zi_aload_n dX9_orderWord_45 rfl 0 rfl ?_
        refine zi_iload_n dX9_orderWord_46 rfl 1 rfl ?_
        refine zi_iload_n dX9_orderWord_47 rfl 2 rfl ?_
        refine zi_ldcS dX9_orderWord_48 (i := 24) (by decide) (by decide) (by decide) ?_
        refine zi_callSI (As := [.ref (zbase G + a0), .int a1, .int a2, .ref (G.2.2.2.2.1 24)]) (rest := []) dX9_orderWord_50 ml_X9_57 md_X9_same ms_X9_same rfl rfl (Nat.le_of_ble_eq_true rfl) (Nat.le_of_ble_eq_true rfl) (k_X9_same G n a0 a1 a2 24 h6) (fun r7 h8 => ?_)
        refine zi_if_eq (tgt := 60) dX9_orderWord_53 (by decide) ?_ ?_
        · refine zi_aload_n dX9_orderWord_60 rfl 0 rfl ?_
          refine zi_iload_n dX9_orderWord_61 rfl 1 rfl ?_
          refine zi_iload_n dX9_orderWord_62 rfl 2 rfl ?_
          refine zi_ldcS dX9_orderWord_63 (i := 11) (by decide) (by decide) (by decide) ?_
          refine zi_callSI (As := [.ref (zbase G + a0), .int a1, .int a2, .ref (G.2.2.2.2.1 11)]) (rest := []) dX9_orderWord_65 ml_X9_57 md_X9_same ms_X9_same rfl rfl (Nat.le_of_ble_eq_true rfl) (Nat.le_of_ble_eq_true rfl) (k_X9_same G n a0 a1 a2 11 h8) (fun r9 h10 => ?_)
          refine zi_if_eq (tgt := 75) dX9_orderWord_68 (by decide) ?_ ?_
          · refine zi_aload_n dX9_orderWord_75 rfl 0 rfl ?_
            refine zi_iload_n dX9_orderWord_76 rfl 1 rfl ?_
            refine zi_iload_n dX9_orderWord_77 rfl 2 rfl ?_
            refine zi_ldcS dX9_orderWord_78 (i := 25) (by decide) (by decide) (by decide) ?_
            refine zi_callSI (As := [.ref (zbase G + a0), .int a1, .int a2, .ref (G.2.2.2.2.1 25)]) (rest := []) dX9_orderWord_80 ml_X9_57 md_X9_same ms_X9_same rfl rfl (Nat.le_of_ble_eq_true rfl) (Nat.le_of_ble_eq_true rfl) (k_X9_same G n a0 a1 a2 25 h10) (fun r11 h12 => ?_)
            refine zi_if_eq (tgt := 90) dX9_orderWord_83 (by decide) ?_ ?_
            · refine zi_aload_n dX9_orderWord_90 rfl 0 rfl ?_
              refine zi_iload_n dX9_orderWord_91 rfl 1 rfl ?_
              refine zi_iload_n dX9_orderWord_92 rfl 2 rfl ?_
              refine zi_ldcS dX9_orderWord_93 (i := 26) (by decide) (by decide) (by decide) ?_
              refine zi_callSI (As := [.ref (zbase G + a0), .int a1, .int a2, .ref (G.2.2.2.2.1 26)]) (rest := []) dX9_orderWord_95 ml_X9_57 md_X9_same ms_X9_same rfl rfl (Nat.le_of_ble_eq_true rfl) (Nat.le_of_ble_eq_true rfl) (k_X9_same G n a0 a1 a2 26 h12) (fun r13 h14 => ?_)
              refine zi_if_eq (tgt := 105) dX9_orderWord_98 (by decide) ?_ ?_
              · refine zi_aload_n dX9_orderWord_105 rfl 0 rfl ?_
                refine zi_iload_n dX9_orderWord_106 rfl 1 rfl ?_
                refine zi_iload_n dX9_orderWord_107 rfl 2 rfl ?_
                refine zi_ldcS dX9_orderWord_108 (i := 27) (by decide) (by decide) (by decide) ?_
                refine zi_callSI (As := [.ref (zbase G + a0), .int a1, .int a2, .ref (G.2.2.2.2.1 27)]) (rest := []) dX9_orderWord_110 ml_X9_57 md_X9_same ms_X9_same rfl rfl (Nat.le_of_ble_eq_true rfl) (Nat.le_of_ble_eq_true rfl) (k_X9_same G n a0 a1 a2 27 h14) (fun r15 h16 => ?_)
                refine zi_if_eq (tgt := 120) dX9_orderWord_113 (by decide) ?_ ?_
                · refine zi_aload_n dX9_orderWord_120 rfl 0 rfl ?_
                  refine zi_iload_n dX9_orderWord_121 rfl 1 rfl ?_
                  refine zi_iload_n dX9_orderWord_122 rfl 2 rfl ?_
                  refine zi_ldcS dX9_orderWord_123 (i := 28) (by decide) (by decide) (by decide) ?_
                  refine zi_callSI (As := [.ref (zbase G + a0), .int a1, .int a2, .ref (G.2.2.2.2.1 28)]) (rest := []) dX9_orderWord_125 ml_X9_57 md_X9_same ms_X9_same rfl rfl (Nat.le_of_ble_eq_true rfl) (Nat.le_of_ble_eq_true rfl) (k_X9_same G n a0 a1 a2 28 h16) (fun r17 h18 => ?_)
                  refine zi_if_eq (tgt := 137) dX9_orderWord_128 (by decide) ?_ ?_
                  · refine zi_iconst (v := 2) dX9_orderWord_137 (by decide) ?_
                    exact zi_retI dX9_orderWord_138
                  · refine zi_sipush (v := 404) dX9_orderWord_131 (by decide) ?_
                    refine zi_goto (tgt := 138) dX9_orderWord_134 (by decide) ?_
                    exact zi_retI dX9_orderWord_138
                · refine zi_sipush (v := 403) dX9_orderWord_116 (by decide) ?_
                  exact zi_retI dX9_orderWord_119
              · refine zi_sipush (v := 402) dX9_orderWord_101 (by decide) ?_
                exact zi_retI dX9_orderWord_104
            · refine zi_sipush (v := 401) dX9_orderWord_86 (by decide) ?_
              exact zi_retI dX9_orderWord_89
          · refine zi_sipush (v := 400) dX9_orderWord_71 (by decide) ?_
            exact zi_retI dX9_orderWord_74
        · refine zi_sipush (v := 265) dX9_orderWord_56 (by decide) ?_
          exact zi_retI dX9_orderWord_59
      · refine zi_sipush (v := 264) dX9_orderWord_41 (by decide) ?_
        exact zi_retI dX9_orderWord_44
    · refine zi_sipush (v := 261) dX9_orderWord_26 (by decide) ?_
      exact zi_retI dX9_orderWord_29
  · refine zi_sipush (v := 260) dX9_orderWord_11 (by decide) ?_
    exact zi_retI dX9_orderWord_14
set_option maxRecDepth 20000 in
set_option maxHeartbeats 1000000 in
theorem k_X9_wordFrom (G : zG) (n : Nat) (a0 : Nat) (a1 : Int32) (a2 : Int32) (a3 : Int32) (h : zH) : zMet G yX9_wordFrom cX9_wordFrom 5 (some .int) zvI 9 [.ref (zbase G + a0), .int a1, .int a2, .int a3] h (f_X9_wordFrom n a0 a1 a2 a3 h) := by
  refine zMet_of (l := [(0, .ref (zbase G + a0)), (1, .int a1), (2, .int a2), (3, .int a3)]) (by decide) (Nat.le_of_ble_eq_true rfl) rfl ?_
  unfold f_X9_wordFrom
  refine zi_aload_n dX9_wordFrom_0 rfl 0 rfl ?_
  refine zi_iload_n dX9_wordFrom_1 rfl 1 rfl ?_
  refine zi_iload_n dX9_wordFrom_2 rfl 2 rfl ?_
  refine zi_ldcS dX9_wordFrom_3 (i := 0) (by decide) (by decide) (by decide) ?_
  refine zi_callSI (As := [.ref (zbase G + a0), .int a1, .int a2, .ref (G.2.2.2.2.1 0)]) (rest := []) dX9_wordFrom_5 ml_X9_57 md_X9_same ms_X9_same rfl rfl (Nat.le_of_ble_eq_true rfl) (Nat.le_of_ble_eq_true rfl) (k_X9_same G n a0 a1 a2 0 h) (fun r1 h2 => ?_)
  refine zi_if_eq (tgt := 15) dX9_wordFrom_8 (by decide) ?_ ?_
  · refine zi_aload_n dX9_wordFrom_15 rfl 0 rfl ?_
    refine zi_iload_n dX9_wordFrom_16 rfl 1 rfl ?_
    refine zi_iload_n dX9_wordFrom_17 rfl 2 rfl ?_
    refine zi_ldcS dX9_wordFrom_18 (i := 1) (by decide) (by decide) (by decide) ?_
    refine zi_callSI (As := [.ref (zbase G + a0), .int a1, .int a2, .ref (G.2.2.2.2.1 1)]) (rest := []) dX9_wordFrom_20 ml_X9_57 md_X9_same ms_X9_same rfl rfl (Nat.le_of_ble_eq_true rfl) (Nat.le_of_ble_eq_true rfl) (k_X9_same G n a0 a1 a2 1 h2) (fun r3 h4 => ?_)
    refine zi_if_eq (tgt := 30) dX9_wordFrom_23 (by decide) ?_ ?_
    · refine zi_aload_n dX9_wordFrom_30 rfl 0 rfl ?_
      refine zi_iload_n dX9_wordFrom_31 rfl 1 rfl ?_
      refine zi_iload_n dX9_wordFrom_32 rfl 2 rfl ?_
      refine zi_ldcS dX9_wordFrom_33 (i := 2) (by decide) (by decide) (by decide) ?_
      refine zi_callSI (As := [.ref (zbase G + a0), .int a1, .int a2, .ref (G.2.2.2.2.1 2)]) (rest := []) dX9_wordFrom_35 ml_X9_57 md_X9_same ms_X9_same rfl rfl (Nat.le_of_ble_eq_true rfl) (Nat.le_of_ble_eq_true rfl) (k_X9_same G n a0 a1 a2 2 h4) (fun r5 h6 => ?_)
      refine zi_if_eq (tgt := 45) dX9_wordFrom_38 (by decide) ?_ ?_
      · refine zi_aload_n dX9_wordFrom_45 rfl 0 rfl ?_
        refine zi_iload_n dX9_wordFrom_46 rfl 1 rfl ?_
        refine zi_iload_n dX9_wordFrom_47 rfl 2 rfl ?_
        refine zi_ldcS dX9_wordFrom_48 (i := 3) (by decide) (by decide) (by decide) ?_
        refine zi_callSI (As := [.ref (zbase G + a0), .int a1, .int a2, .ref (G.2.2.2.2.1 3)]) (rest := []) dX9_wordFrom_50 ml_X9_57 md_X9_same ms_X9_same rfl rfl (Nat.le_of_ble_eq_true rfl) (Nat.le_of_ble_eq_true rfl) (k_X9_same G n a0 a1 a2 3 h6) (fun r7 h8 => ?_)
        refine zi_if_eq (tgt := 60) dX9_wordFrom_53 (by decide) ?_ ?_
        · refine zi_iload_n dX9_wordFrom_60 rfl 3 rfl ?_
          refine zi_if_ne (tgt := 71) dX9_wordFrom_61 (by decide) ?_ ?_
          · refine zi_aload_n dX9_wordFrom_71 rfl 0 rfl ?_
            refine zi_iload_n dX9_wordFrom_72 rfl 1 rfl ?_
            refine zi_iload_n dX9_wordFrom_73 rfl 2 rfl ?_
            refine zi_callSI (As := [.ref (zbase G + a0), .int a1, .int a2]) (rest := []) dX9_wordFrom_74 ml_X9_71 md_X9_actWord ms_X9_actWord rfl rfl (Nat.le_of_ble_eq_true rfl) (Nat.le_of_ble_eq_true rfl) (k_X9_actWord G n a0 a1 a2 h8) (fun r9 h10 => ?_)
            refine zi_istore (l' := [(4, .int r9), (0, .ref (zbase G + a0)), (1, .int a1), (2, .int a2), (3, .int a3)]) dX9_wordFrom_77 (by decide) rfl ?_
            refine zi_iload dX9_wordFrom_79 0 rfl ?_
            refine zi_iconst (v := 2) dX9_wordFrom_81 (by decide) ?_
            refine zi_icmp_eq (tgt := 90) dX9_wordFrom_82 (by decide) ?_ ?_
            · refine zi_aload_n dX9_wordFrom_90 rfl 1 rfl ?_
              refine zi_iload_n dX9_wordFrom_91 rfl 2 rfl ?_
              refine zi_iload_n dX9_wordFrom_92 rfl 3 rfl ?_
              refine zi_callSI (As := [.ref (zbase G + a0), .int a1, .int a2]) (rest := []) dX9_wordFrom_93 ml_X9_74 md_X9_orderWord ms_X9_orderWord rfl rfl (Nat.le_of_ble_eq_true rfl) (Nat.le_of_ble_eq_true rfl) (k_X9_orderWord G n a0 a1 a2 h10) (fun r11 h12 => ?_)
              exact zi_retI dX9_wordFrom_96
            · refine zi_iload dX9_wordFrom_85 0 rfl ?_
              refine zi_goto (tgt := 96) dX9_wordFrom_87 (by decide) ?_
              exact zi_retI dX9_wordFrom_96
          · refine zi_aload_n dX9_wordFrom_64 rfl 0 rfl ?_
            refine zi_iload_n dX9_wordFrom_65 rfl 1 rfl ?_
            refine zi_iload_n dX9_wordFrom_66 rfl 2 rfl ?_
            refine zi_callSI (As := [.ref (zbase G + a0), .int a1, .int a2]) (rest := []) dX9_wordFrom_67 ml_X9_67 md_X9_lawWord ms_X9_lawWord rfl rfl (Nat.le_of_ble_eq_true rfl) (Nat.le_of_ble_eq_true rfl) (k_X9_lawWord G n a0 a1 a2 h8) (fun r13 h14 => ?_)
            exact zi_retI dX9_wordFrom_70
        · refine zi_sipush (v := 259) dX9_wordFrom_56 (by decide) ?_
          exact zi_retI dX9_wordFrom_59
      · refine zi_sipush (v := 258) dX9_wordFrom_41 (by decide) ?_
        exact zi_retI dX9_wordFrom_44
    · refine zi_sipush (v := 257) dX9_wordFrom_26 (by decide) ?_
      exact zi_retI dX9_wordFrom_29
  · refine zi_sipush (v := 256) dX9_wordFrom_11 (by decide) ?_
    exact zi_retI dX9_wordFrom_14
set_option maxRecDepth 20000 in
set_option maxHeartbeats 1000000 in
theorem k_X9_add (G : zG) (n : Nat) (a0 : Nat) (a1 : Int32) (a2 : Int32) (a3 : Int32) (h : zH) : zMet G yX9_add cX9_add 4 none zvU 1 [.ref (zbase G + a0), .int a1, .int a2, .int a3] h (f_X9_add n a0 a1 a2 a3 h) := by
  refine zMet_of (l := [(0, .ref (zbase G + a0)), (1, .int a1), (2, .int a2), (3, .int a3)]) (by decide) (Nat.le_of_ble_eq_true rfl) rfl ?_
  unfold f_X9_add
  refine zi_aload_n dX9_add_0 rfl 0 rfl ?_
  refine zi_getI dX9_add_1 gf_X9_21 (fun v1 => ?_)
  refine zi_sipush (v := 401) dX9_add_4 (by decide) ?_
  refine zi_icmp_ge (tgt := 50) dX9_add_7 (by decide) ?_ ?_
  · exact zi_retV dX9_add_50
  · refine zi_aload_n dX9_add_10 rfl 0 rfl ?_
    refine zi_getR dX9_add_11 gf_X9_11 (fun v2 => ?_)
    refine zi_aload_n dX9_add_14 rfl 0 rfl ?_
    refine zi_getI dX9_add_15 gf_X9_21 (fun v3 => ?_)
    refine zi_iload_n dX9_add_18 rfl 1 rfl ?_
    refine zi_iast dX9_add_19 (fun h4 => ?_)
    refine zi_aload_n dX9_add_20 rfl 0 rfl ?_
    refine zi_getR dX9_add_21 gf_X9_15 (fun v5 => ?_)
    refine zi_aload_n dX9_add_24 rfl 0 rfl ?_
    refine zi_getI dX9_add_25 gf_X9_21 (fun v6 => ?_)
    refine zi_iload_n dX9_add_28 rfl 2 rfl ?_
    refine zi_iast dX9_add_29 (fun h7 => ?_)
    refine zi_aload_n dX9_add_30 rfl 0 rfl ?_
    refine zi_getR dX9_add_31 gf_X9_18 (fun v8 => ?_)
    refine zi_aload_n dX9_add_34 rfl 0 rfl ?_
    refine zi_getI dX9_add_35 gf_X9_21 (fun v9 => ?_)
    refine zi_iload_n dX9_add_38 rfl 3 rfl ?_
    refine zi_iast dX9_add_39 (fun h10 => ?_)
    refine zi_aload_n dX9_add_40 rfl 0 rfl ?_
    refine zi_dup dX9_add_41 rfl ?_
    refine zi_getI dX9_add_42 gf_X9_21 (fun v11 => ?_)
    refine zi_iconst (v := 1) dX9_add_45 (by decide) ?_
    refine zi_iadd dX9_add_46 ?_
    refine zi_putI dX9_add_47 gf_X9_21 (fun h12 => ?_)
    exact zi_retV dX9_add_50
set_option maxRecDepth 20000 in
set_option maxHeartbeats 1000000 in
theorem k_X9_isDigit (G : zG) (n : Nat) (a0 : Int32) (h : zH) : zMet G yX9_isDigit cX9_isDigit 1 (some .boolean) zvI 1 [.int a0] h (f_X9_isDigit n a0 h) := by
  refine zMet_of (l := [(0, .int a0)]) (by decide) (Nat.le_of_ble_eq_true rfl) rfl ?_
  unfold f_X9_isDigit
  refine zi_iload_n dX9_isDigit_0 rfl 0 rfl ?_
  refine zi_bipush (v := 48) dX9_isDigit_1 (by decide) ?_
  refine zi_icmp_lt (tgt := 16) dX9_isDigit_3 (by decide) ?_ ?_
  · refine zi_iconst (v := 0) dX9_isDigit_16 (by decide) ?_
    exact zi_ret0 dX9_isDigit_17
  · refine zi_iload_n dX9_isDigit_6 rfl 0 rfl ?_
    refine zi_bipush (v := 57) dX9_isDigit_7 (by decide) ?_
    refine zi_icmp_gt (tgt := 16) dX9_isDigit_9 (by decide) ?_ ?_
    · refine zi_iconst (v := 0) dX9_isDigit_16 (by decide) ?_
      exact zi_ret0 dX9_isDigit_17
    · refine zi_iconst (v := 1) dX9_isDigit_12 (by decide) ?_
      refine zi_goto (tgt := 17) dX9_isDigit_13 (by decide) ?_
      exact zi_ret1 dX9_isDigit_17
set_option maxRecDepth 20000 in
set_option maxHeartbeats 1000000 in
theorem wb_X9_split_193 (G : zG) (n : Nat) (l0 : Nat) (l1 : Nat) (h : zH) : zW G yX9_split cX9_split 8 none zvU 10 193 [(0, .ref (zbase G + l0)), (1, .ref (zbase G + l1))] [] h (fb_X9_split_193 n l0 l1 h) := by
  unfold fb_X9_split_193
  refine zi_aload_n dX9_split_193 rfl 0 rfl ?_
  refine zi_iconst (v := 0) dX9_split_194 (by decide) ?_
  refine zi_aload_n dX9_split_195 rfl 1 rfl ?_
  refine zi_getI dX9_split_196 gf_X9_25 (fun v1 => ?_)
  refine zi_iconst (v := 0) dX9_split_199 (by decide) ?_
  refine zi_callVU (As := [.int 0, .int v1, .int 0]) (rest := []) (ci := 9) dX9_split_200 ml_X9_42 md_X9_add mv_X9_add rfl (by decide) rfl rfl (Nat.le_of_ble_eq_true rfl) (Nat.le_of_ble_eq_true rfl) (k_X9_add G n l0 0 v1 0 h) (fun _ h3 => ?_)
  exact zi_retV dX9_split_203
set_option maxRecDepth 20000 in
set_option maxHeartbeats 1000000 in
theorem wb_X9_split_187 (G : zG) (n : Nat) (k10 : Nat → Nat → Int32 → Int32 → Int32 → zH → Option (Unit × zH)) (hk10 : ∀ (l0 : Nat) (l1 : Nat) (l2 : Int32) (l3 : Int32) (l4 : Int32) (h : zH), zW G yX9_split cX9_split 8 none zvU 10 10 [(0, .ref (zbase G + l0)), (1, .ref (zbase G + l1)), (2, .int l2), (3, .int l3), (4, .int l4)] [] h (k10 l0 l1 l2 l3 l4 h)) (l0 : Nat) (l1 : Nat) (l2 : Int32) (l3 : Int32) (l4 : Int32) (h : zH) : zW G yX9_split cX9_split 8 none zvU 10 187 [(0, .ref (zbase G + l0)), (1, .ref (zbase G + l1)), (2, .int l2), (3, .int l3), (4, .int l4)] [] h (fb_X9_split_187 n k10 l0 l1 l2 l3 l4 h) := by
  unfold fb_X9_split_187
  refine zi_iinc (j := 4) (v := l4 + 1) (l' := [(4, .int (l4 + 1)), (0, .ref (zbase G + l0)), (1, .ref (zbase G + l1)), (2, .int l2), (3, .int l3)]) dX9_split_187 rfl rfl (by decide) rfl ?_
  refine zi_goto (tgt := 10) dX9_split_190 (by decide) ?_
  refine zi_sub [1, 2, 3, 4, 0] rfl ?_
  exact hk10 l0 l1 l2 l3 (l4 + 1) h
set_option maxRecDepth 20000 in
set_option maxHeartbeats 1000000 in
theorem wb_X9_split_181 (G : zG) (n : Nat) (k10 : Nat → Nat → Int32 → Int32 → Int32 → zH → Option (Unit × zH)) (hk10 : ∀ (l0 : Nat) (l1 : Nat) (l2 : Int32) (l3 : Int32) (l4 : Int32) (h : zH), zW G yX9_split cX9_split 8 none zvU 10 10 [(0, .ref (zbase G + l0)), (1, .ref (zbase G + l1)), (2, .int l2), (3, .int l3), (4, .int l4)] [] h (k10 l0 l1 l2 l3 l4 h)) (l0 : Nat) (l1 : Nat) (l2 : Int32) (l3 : Int32) (l4 : Int32) (l6 : Int32) (s0 : Nat) (s1 : Int32) (h : zH) : zW G yX9_split cX9_split 8 none zvU 10 181 [(0, .ref (zbase G + l0)), (1, .ref (zbase G + l1)), (2, .int l2), (3, .int l3), (4, .int l4), (6, .int l6)] [.int s1, .ref (zbase G + s0)] h (fb_X9_split_181 n k10 l0 l1 l2 l3 l4 l6 s0 s1 h) := by
  unfold fb_X9_split_181
  refine zi_iload dX9_split_181 5 rfl ?_
  refine zi_iconst (v := 0) dX9_split_183 (by decide) ?_
  refine zi_callVU (As := [.int s1, .int l6, .int 0]) (rest := []) (ci := 9) dX9_split_184 ml_X9_42 md_X9_add mv_X9_add rfl (by decide) rfl rfl (Nat.le_of_ble_eq_true rfl) (Nat.le_of_ble_eq_true rfl) (k_X9_add G n s0 s1 l6 0 h) (fun _ h2 => ?_)
  refine zi_sub [0, 1, 2, 3, 4] rfl ?_
  exact wb_X9_split_187 G n k10 hk10 l0 l1 l2 l3 l4 h2
set_option maxRecDepth 20000 in
set_option maxHeartbeats 1000000 in
theorem wb_X9_split_145 (G : zG) (n : Nat) (k10 : Nat → Nat → Int32 → Int32 → Int32 → zH → Option (Unit × zH)) (hk10 : ∀ (l0 : Nat) (l1 : Nat) (l2 : Int32) (l3 : Int32) (l4 : Int32) (h : zH), zW G yX9_split cX9_split 8 none zvU 10 10 [(0, .ref (zbase G + l0)), (1, .ref (zbase G + l1)), (2, .int l2), (3, .int l3), (4, .int l4)] [] h (k10 l0 l1 l2 l3 l4 h)) (l0 : Nat) (l1 : Nat) (l2 : Int32) (l3 : Int32) (l4 : Int32) (l6 : Int32) (l7 : Int32) (h : zH) : zW G yX9_split cX9_split 8 none zvU 10 145 [(0, .ref (zbase G + l0)), (1, .ref (zbase G + l1)), (2, .int l2), (3, .int l3), (4, .int l4), (6, .int l6), (7, .int l7)] [] h (fb_X9_split_145 n k10 l0 l1 l2 l3 l4 l6 l7 h) := by
  unfold fb_X9_split_145
  refine zi_aload_n dX9_split_145 rfl 0 rfl ?_
  refine zi_iconst (v := 1) dX9_split_146 (by decide) ?_
  refine zi_iload dX9_split_147 5 rfl ?_
  refine zi_iload dX9_split_149 6 rfl ?_
  refine zi_callVU (As := [.int 1, .int l6, .int l7]) (rest := []) (ci := 9) dX9_split_151 ml_X9_42 md_X9_add mv_X9_add rfl (by decide) rfl rfl (Nat.le_of_ble_eq_true rfl) (Nat.le_of_ble_eq_true rfl) (k_X9_add G n l0 1 l6 l7 h) (fun _ h2 => ?_)
  refine zi_goto (tgt := 187) dX9_split_154 (by decide) ?_
  refine zi_sub [0, 1, 2, 3, 4] rfl ?_
  exact wb_X9_split_187 G n k10 hk10 l0 l1 l2 l3 l4 h2
set_option maxRecDepth 20000 in
set_option maxHeartbeats 1000000 in
theorem wb_X9_split_98 (G : zG) (n : Nat) (k10 : Nat → Nat → Int32 → Int32 → Int32 → zH → Option (Unit × zH)) (k98 : Nat → Nat → Int32 → Int32 → Int32 → Int32 → Int32 → zH → Option (Unit × zH)) (hk10 : ∀ (l0 : Nat) (l1 : Nat) (l2 : Int32) (l3 : Int32) (l4 : Int32) (h : zH), zW G yX9_split cX9_split 8 none zvU 10 10 [(0, .ref (zbase G + l0)), (1, .ref (zbase G + l1)), (2, .int l2), (3, .int l3), (4, .int l4)] [] h (k10 l0 l1 l2 l3 l4 h)) (hk98 : ∀ (l0 : Nat) (l1 : Nat) (l2 : Int32) (l3 : Int32) (l4 : Int32) (l6 : Int32) (l7 : Int32) (h : zH), zW G yX9_split cX9_split 8 none zvU 10 98 [(0, .ref (zbase G + l0)), (1, .ref (zbase G + l1)), (2, .int l2), (3, .int l3), (4, .int l4), (6, .int l6), (7, .int l7)] [] h (k98 l0 l1 l2 l3 l4 l6 l7 h)) (l0 : Nat) (l1 : Nat) (l2 : Int32) (l3 : Int32) (l4 : Int32) (l6 : Int32) (l7 : Int32) (h : zH) : zW G yX9_split cX9_split 8 none zvU 10 98 [(0, .ref (zbase G + l0)), (1, .ref (zbase G + l1)), (2, .int l2), (3, .int l3), (4, .int l4), (6, .int l6), (7, .int l7)] [] h (fb_X9_split_98 n k10 k98 l0 l1 l2 l3 l4 l6 l7 h) := by
  unfold fb_X9_split_98
  refine zi_iload_n dX9_split_98 rfl 3 rfl ?_
  refine zi_aload_n dX9_split_99 rfl 1 rfl ?_
  refine zi_getI dX9_split_100 gf_X9_25 (fun v1 => ?_)
  refine zi_icmp_ge (tgt := 145) dX9_split_103 (by decide) ?_ ?_
  · refine zi_sub [0, 1, 2, 3, 4, 5, 6] rfl ?_
    exact wb_X9_split_145 G n k10 hk10 l0 l1 l2 l3 l4 l6 l7 h
  · refine zi_aload_n dX9_split_106 rfl 1 rfl ?_
    refine zi_iload_n dX9_split_107 rfl 3 rfl ?_
    refine zi_callSI (As := [.ref (zbase G + l1), .int l3]) (rest := []) dX9_split_108 ml_X9_30 md_X9_byteAt ms_X9_byteAt rfl rfl (Nat.le_of_ble_eq_true rfl) (Nat.le_of_ble_eq_true rfl) (k_X9_byteAt G n l1 l3 h) (fun r2 h3 => ?_)
    refine zi_callSI (As := [.int r2]) (rest := []) dX9_split_111 ml_X9_46 md_X9_isDigit ms_X9_isDigit rfl rfl (Nat.le_of_ble_eq_true rfl) (Nat.le_of_ble_eq_true rfl) (k_X9_isDigit G n r2 h3) (fun r4 h5 => ?_)
    refine zi_if_eq (tgt := 145) dX9_split_114 (by decide) ?_ ?_
    · refine zi_sub [0, 1, 2, 3, 4, 5, 6] rfl ?_
      exact wb_X9_split_145 G n k10 hk10 l0 l1 l2 l3 l4 l6 l7 h5
    · refine zi_sipush (v := 10000) dX9_split_117 (by decide) ?_
      refine zi_bipush (v := 10) dX9_split_120 (by decide) ?_
      refine zi_iload dX9_split_122 6 rfl ?_
      refine zi_imul dX9_split_124 ?_
      refine zi_aload_n dX9_split_125 rfl 1 rfl ?_
      refine zi_iload_n dX9_split_126 rfl 3 rfl ?_
      refine zi_callSI (As := [.ref (zbase G + l1), .int l3]) (rest := [.int ((10 : Int32) * l7), .int 10000]) dX9_split_127 ml_X9_30 md_X9_byteAt ms_X9_byteAt rfl rfl (Nat.le_of_ble_eq_true rfl) (Nat.le_of_ble_eq_true rfl) (k_X9_byteAt G n l1 l3 h5) (fun r6 h7 => ?_)
      refine zi_iadd dX9_split_130 ?_
      refine zi_bipush (v := 48) dX9_split_131 (by decide) ?_
      refine zi_isub dX9_split_133 ?_
      refine zi_callSI (As := [.int 10000, .int ((((10 : Int32) * l7) + r6) - 48)]) (rest := []) dX9_split_134 ml_X9_49 md_J9_min_7cf53 ms_J9_min_7cf53 rfl rfl (Nat.le_of_ble_eq_true rfl) (Nat.le_of_ble_eq_true rfl) (k_J9_min_7cf53 G n 10000 ((((10 : Int32) * l7) + r6) - 48) h7) (fun r8 h9 => ?_)
      refine zi_istore (l' := [(7, .int r8), (0, .ref (zbase G + l0)), (1, .ref (zbase G + l1)), (2, .int l2), (3, .int l3), (4, .int l4), (6, .int l6)]) dX9_split_137 (by decide) rfl ?_
      refine zi_iinc (j := 4) (v := l3 + 1) (l' := [(3, .int (l3 + 1)), (7, .int r8), (0, .ref (zbase G + l0)), (1, .ref (zbase G + l1)), (2, .int l2), (4, .int l4), (6, .int l6)]) dX9_split_139 rfl rfl (by decide) rfl ?_
      refine zi_goto (tgt := 98) dX9_split_142 (by decide) ?_
      refine zi_sub [2, 3, 4, 0, 5, 6, 1] rfl ?_
      exact hk98 l0 l1 l2 (l3 + 1) l4 l6 r8 h9
theorem wl_X9_split_98 (G : zG) (n : Nat) (k10 : Nat → Nat → Int32 → Int32 → Int32 → zH → Option (Unit × zH)) (hk10 : ∀ (l0 : Nat) (l1 : Nat) (l2 : Int32) (l3 : Int32) (l4 : Int32) (h : zH), zW G yX9_split cX9_split 8 none zvU 10 10 [(0, .ref (zbase G + l0)), (1, .ref (zbase G + l1)), (2, .int l2), (3, .int l3), (4, .int l4)] [] h (k10 l0 l1 l2 l3 l4 h)) : ∀ (t : Nat) (l0 : Nat) (l1 : Nat) (l2 : Int32) (l3 : Int32) (l4 : Int32) (l6 : Int32) (l7 : Int32) (h : zH), zW G yX9_split cX9_split 8 none zvU 10 98 [(0, .ref (zbase G + l0)), (1, .ref (zbase G + l1)), (2, .int l2), (3, .int l3), (4, .int l4), (6, .int l6), (7, .int l7)] [] h (zlp7 (fb_X9_split_98 n k10 ) t l0 l1 l2 l3 l4 l6 l7 h) := by
  intro t
  induction t with
  | zero => intros; exact zW_none
  | succ t ih => intro l0 l1 l2 l3 l4 l6 l7 h; rw [zlp7_s]; exact wb_X9_split_98 G n k10  _ hk10  ih l0 l1 l2 l3 l4 l6 l7 h
set_option maxRecDepth 20000 in
set_option maxHeartbeats 1000000 in
theorem wb_X9_split_69 (G : zG) (n : Nat) (k10 : Nat → Nat → Int32 → Int32 → Int32 → zH → Option (Unit × zH)) (hk10 : ∀ (l0 : Nat) (l1 : Nat) (l2 : Int32) (l3 : Int32) (l4 : Int32) (h : zH), zW G yX9_split cX9_split 8 none zvU 10 10 [(0, .ref (zbase G + l0)), (1, .ref (zbase G + l1)), (2, .int l2), (3, .int l3), (4, .int l4)] [] h (k10 l0 l1 l2 l3 l4 h)) (l0 : Nat) (l1 : Nat) (l2 : Int32) (l3 : Int32) (l4 : Int32) (l6 : Int32) (h : zH) : zW G yX9_split cX9_split 8 none zvU 10 69 [(0, .ref (zbase G + l0)), (1, .ref (zbase G + l1)), (2, .int l2), (3, .int l3), (4, .int l4), (6, .int l6)] [] h (fb_X9_split_69 n k10 l0 l1 l2 l3 l4 l6 h) := by
  unfold fb_X9_split_69
  refine zi_aload_n dX9_split_69 rfl 0 rfl ?_
  refine zi_aload_n dX9_split_70 rfl 1 rfl ?_
  refine zi_iload dX9_split_71 5 rfl ?_
  refine zi_iload_n dX9_split_73 rfl 3 rfl ?_
  refine zi_iload_n dX9_split_74 rfl 2 rfl ?_
  refine zi_callSI (As := [.ref (zbase G + l1), .int l6, .int l3, .int l2]) (rest := [.ref (zbase G + l0)]) dX9_split_75 ml_X9_38 md_X9_wordFrom ms_X9_wordFrom rfl rfl (Nat.le_of_ble_eq_true rfl) (Nat.le_of_ble_eq_true rfl) (k_X9_wordFrom G n l1 l6 l3 l2 h) (fun r1 h2 => ?_)
  refine zi_iload dX9_split_78 5 rfl ?_
  refine zi_iconst (v := 0) dX9_split_80 (by decide) ?_
  refine zi_callVU (As := [.int r1, .int l6, .int 0]) (rest := []) (ci := 9) dX9_split_81 ml_X9_42 md_X9_add mv_X9_add rfl (by decide) rfl rfl (Nat.le_of_ble_eq_true rfl) (Nat.le_of_ble_eq_true rfl) (k_X9_add G n l0 r1 l6 0 h2) (fun _ h4 => ?_)
  refine zi_goto (tgt := 187) dX9_split_84 (by decide) ?_
  refine zi_sub [0, 1, 2, 3, 4] rfl ?_
  exact wb_X9_split_187 G n k10 hk10 l0 l1 l2 l3 l4 h4
set_option maxRecDepth 20000 in
set_option maxHeartbeats 1000000 in
theorem wb_X9_split_44 (G : zG) (n : Nat) (k10 : Nat → Nat → Int32 → Int32 → Int32 → zH → Option (Unit × zH)) (k44 : Nat → Nat → Int32 → Int32 → Int32 → Int32 → zH → Option (Unit × zH)) (hk10 : ∀ (l0 : Nat) (l1 : Nat) (l2 : Int32) (l3 : Int32) (l4 : Int32) (h : zH), zW G yX9_split cX9_split 8 none zvU 10 10 [(0, .ref (zbase G + l0)), (1, .ref (zbase G + l1)), (2, .int l2), (3, .int l3), (4, .int l4)] [] h (k10 l0 l1 l2 l3 l4 h)) (hk44 : ∀ (l0 : Nat) (l1 : Nat) (l2 : Int32) (l3 : Int32) (l4 : Int32) (l6 : Int32) (h : zH), zW G yX9_split cX9_split 8 none zvU 10 44 [(0, .ref (zbase G + l0)), (1, .ref (zbase G + l1)), (2, .int l2), (3, .int l3), (4, .int l4), (6, .int l6)] [] h (k44 l0 l1 l2 l3 l4 l6 h)) (l0 : Nat) (l1 : Nat) (l2 : Int32) (l3 : Int32) (l4 : Int32) (l6 : Int32) (h : zH) : zW G yX9_split cX9_split 8 none zvU 10 44 [(0, .ref (zbase G + l0)), (1, .ref (zbase G + l1)), (2, .int l2), (3, .int l3), (4, .int l4), (6, .int l6)] [] h (fb_X9_split_44 n k10 k44 l0 l1 l2 l3 l4 l6 h) := by
  unfold fb_X9_split_44
  refine zi_iload_n dX9_split_44 rfl 3 rfl ?_
  refine zi_aload_n dX9_split_45 rfl 1 rfl ?_
  refine zi_getI dX9_split_46 gf_X9_25 (fun v1 => ?_)
  refine zi_icmp_ge (tgt := 69) dX9_split_49 (by decide) ?_ ?_
  · refine zi_sub [0, 1, 2, 3, 4, 5] rfl ?_
    exact wb_X9_split_69 G n k10 hk10 l0 l1 l2 l3 l4 l6 h
  · refine zi_aload_n dX9_split_52 rfl 1 rfl ?_
    refine zi_iload_n dX9_split_53 rfl 3 rfl ?_
    refine zi_callSI (As := [.ref (zbase G + l1), .int l3]) (rest := []) dX9_split_54 ml_X9_30 md_X9_byteAt ms_X9_byteAt rfl rfl (Nat.le_of_ble_eq_true rfl) (Nat.le_of_ble_eq_true rfl) (k_X9_byteAt G n l1 l3 h) (fun r2 h3 => ?_)
    refine zi_callSI (As := [.int r2]) (rest := []) dX9_split_57 ml_X9_34 md_X9_isLetter ms_X9_isLetter rfl rfl (Nat.le_of_ble_eq_true rfl) (Nat.le_of_ble_eq_true rfl) (k_X9_isLetter G n r2 h3) (fun r4 h5 => ?_)
    refine zi_if_eq (tgt := 69) dX9_split_60 (by decide) ?_ ?_
    · refine zi_sub [0, 1, 2, 3, 4, 5] rfl ?_
      exact wb_X9_split_69 G n k10 hk10 l0 l1 l2 l3 l4 l6 h5
    · refine zi_iinc (j := 3) (v := l3 + 1) (l' := [(3, .int (l3 + 1)), (0, .ref (zbase G + l0)), (1, .ref (zbase G + l1)), (2, .int l2), (4, .int l4), (6, .int l6)]) dX9_split_63 rfl rfl (by decide) rfl ?_
      refine zi_goto (tgt := 44) dX9_split_66 (by decide) ?_
      refine zi_sub [1, 2, 3, 0, 4, 5] rfl ?_
      exact hk44 l0 l1 l2 (l3 + 1) l4 l6 h5
theorem wl_X9_split_44 (G : zG) (n : Nat) (k10 : Nat → Nat → Int32 → Int32 → Int32 → zH → Option (Unit × zH)) (hk10 : ∀ (l0 : Nat) (l1 : Nat) (l2 : Int32) (l3 : Int32) (l4 : Int32) (h : zH), zW G yX9_split cX9_split 8 none zvU 10 10 [(0, .ref (zbase G + l0)), (1, .ref (zbase G + l1)), (2, .int l2), (3, .int l3), (4, .int l4)] [] h (k10 l0 l1 l2 l3 l4 h)) : ∀ (t : Nat) (l0 : Nat) (l1 : Nat) (l2 : Int32) (l3 : Int32) (l4 : Int32) (l6 : Int32) (h : zH), zW G yX9_split cX9_split 8 none zvU 10 44 [(0, .ref (zbase G + l0)), (1, .ref (zbase G + l1)), (2, .int l2), (3, .int l3), (4, .int l4), (6, .int l6)] [] h (zlp6 (fb_X9_split_44 n k10 ) t l0 l1 l2 l3 l4 l6 h) := by
  intro t
  induction t with
  | zero => intros; exact zW_none
  | succ t ih => intro l0 l1 l2 l3 l4 l6 h; rw [zlp6_s]; exact wb_X9_split_44 G n k10  _ hk10  ih l0 l1 l2 l3 l4 l6 h
set_option maxRecDepth 20000 in
set_option maxHeartbeats 1000000 in
theorem wb_X9_split_10 (G : zG) (n : Nat) (k10 : Nat → Nat → Int32 → Int32 → Int32 → zH → Option (Unit × zH)) (hk10 : ∀ (l0 : Nat) (l1 : Nat) (l2 : Int32) (l3 : Int32) (l4 : Int32) (h : zH), zW G yX9_split cX9_split 8 none zvU 10 10 [(0, .ref (zbase G + l0)), (1, .ref (zbase G + l1)), (2, .int l2), (3, .int l3), (4, .int l4)] [] h (k10 l0 l1 l2 l3 l4 h)) (l0 : Nat) (l1 : Nat) (l2 : Int32) (l3 : Int32) (l4 : Int32) (h : zH) : zW G yX9_split cX9_split 8 none zvU 10 10 [(0, .ref (zbase G + l0)), (1, .ref (zbase G + l1)), (2, .int l2), (3, .int l3), (4, .int l4)] [] h (fb_X9_split_10 n k10 l0 l1 l2 l3 l4 h) := by
  unfold fb_X9_split_10
  refine zi_iload dX9_split_10 4 rfl ?_
  refine zi_sipush (v := 400) dX9_split_12 (by decide) ?_
  refine zi_icmp_ge (tgt := 193) dX9_split_15 (by decide) ?_ ?_
  · refine zi_sub [0, 1] rfl ?_
    exact wb_X9_split_193 G n l0 l1 h
  · refine zi_iload_n dX9_split_18 rfl 3 rfl ?_
    refine zi_aload_n dX9_split_19 rfl 1 rfl ?_
    refine zi_getI dX9_split_20 gf_X9_25 (fun v1 => ?_)
    refine zi_icmp_ge (tgt := 193) dX9_split_23 (by decide) ?_ ?_
    · refine zi_sub [0, 1] rfl ?_
      exact wb_X9_split_193 G n l0 l1 h
    · refine zi_aload_n dX9_split_26 rfl 1 rfl ?_
      refine zi_iload_n dX9_split_27 rfl 3 rfl ?_
      refine zi_callSI (As := [.ref (zbase G + l1), .int l3]) (rest := []) dX9_split_28 ml_X9_30 md_X9_byteAt ms_X9_byteAt rfl rfl (Nat.le_of_ble_eq_true rfl) (Nat.le_of_ble_eq_true rfl) (k_X9_byteAt G n l1 l3 h) (fun r2 h3 => ?_)
      refine zi_istore (l' := [(5, .int r2), (0, .ref (zbase G + l0)), (1, .ref (zbase G + l1)), (2, .int l2), (3, .int l3), (4, .int l4)]) dX9_split_31 (by decide) rfl ?_
      refine zi_iload_n dX9_split_33 rfl 4 rfl ?_
      refine zi_istore (l' := [(6, .int l3), (5, .int r2), (0, .ref (zbase G + l0)), (1, .ref (zbase G + l1)), (2, .int l2), (3, .int l3), (4, .int l4)]) dX9_split_34 (by decide) rfl ?_
      refine zi_iload dX9_split_36 1 rfl ?_
      refine zi_callSI (As := [.int r2]) (rest := []) dX9_split_38 ml_X9_34 md_X9_isLetter ms_X9_isLetter rfl rfl (Nat.le_of_ble_eq_true rfl) (Nat.le_of_ble_eq_true rfl) (k_X9_isLetter G n r2 h3) (fun r4 h5 => ?_)
      refine zi_if_eq (tgt := 87) dX9_split_41 (by decide) ?_ ?_
      · refine zi_iload dX9_split_87 1 rfl ?_
        refine zi_callSI (As := [.int r2]) (rest := []) dX9_split_89 ml_X9_46 md_X9_isDigit ms_X9_isDigit rfl rfl (Nat.le_of_ble_eq_true rfl) (Nat.le_of_ble_eq_true rfl) (k_X9_isDigit G n r2 h5) (fun r6 h7 => ?_)
        refine zi_if_eq (tgt := 157) dX9_split_92 (by decide) ?_ ?_
        · refine zi_iinc (j := 5) (v := l3 + 1) (l' := [(3, .int (l3 + 1)), (6, .int l3), (5, .int r2), (0, .ref (zbase G + l0)), (1, .ref (zbase G + l1)), (2, .int l2), (4, .int l4)]) dX9_split_157 rfl rfl (by decide) rfl ?_
          refine zi_iload dX9_split_160 2 rfl ?_
          refine zi_bipush (v := 32) dX9_split_162 (by decide) ?_
          refine zi_icmp_eq (tgt := 187) dX9_split_164 (by decide) ?_ ?_
          · refine zi_sub [3, 4, 5, 0, 6] rfl ?_
            exact wb_X9_split_187 G n k10 hk10 l0 l1 l2 (l3 + 1) l4 h7
          · refine zi_aload_n dX9_split_167 rfl 3 rfl ?_
            refine zi_iload dX9_split_168 2 rfl ?_
            refine zi_bipush (v := 32) dX9_split_170 (by decide) ?_
            refine zi_icmp_le (tgt := 180) dX9_split_172 (by decide) ?_ ?_
            · refine zi_iconst (v := 2) dX9_split_180 (by decide) ?_
              refine zi_sub [3, 4, 5, 0, 6, 1] rfl ?_
              exact wb_X9_split_181 G n k10 hk10 l0 l1 l2 (l3 + 1) l4 l3 l0 2 h7
            · refine zi_iload dX9_split_175 2 rfl ?_
              refine zi_goto (tgt := 181) dX9_split_177 (by decide) ?_
              refine zi_sub [3, 4, 5, 0, 6, 1] rfl ?_
              exact wb_X9_split_181 G n k10 hk10 l0 l1 l2 (l3 + 1) l4 l3 l0 r2 h7
        · refine zi_iconst (v := 0) dX9_split_95 (by decide) ?_
          refine zi_istore (l' := [(7, .int 0), (6, .int l3), (5, .int r2), (0, .ref (zbase G + l0)), (1, .ref (zbase G + l1)), (2, .int l2), (3, .int l3), (4, .int l4)]) dX9_split_96 (by decide) rfl ?_
          refine zi_sub [3, 4, 5, 6, 7, 1, 0] rfl ?_
          exact wl_X9_split_98 G n k10 hk10 n l0 l1 l2 l3 l4 l3 0 h7
      · refine zi_sub [2, 3, 4, 5, 6, 0] rfl ?_
        exact wl_X9_split_44 G n k10 hk10 n l0 l1 l2 l3 l4 l3 h5
theorem wl_X9_split_10 (G : zG) (n : Nat) : ∀ (t : Nat) (l0 : Nat) (l1 : Nat) (l2 : Int32) (l3 : Int32) (l4 : Int32) (h : zH), zW G yX9_split cX9_split 8 none zvU 10 10 [(0, .ref (zbase G + l0)), (1, .ref (zbase G + l1)), (2, .int l2), (3, .int l3), (4, .int l4)] [] h (zlp5 (fb_X9_split_10 n ) t l0 l1 l2 l3 l4 h) := by
  intro t
  induction t with
  | zero => intros; exact zW_none
  | succ t ih => intro l0 l1 l2 l3 l4 h; rw [zlp5_s]; exact wb_X9_split_10 G n  _  ih l0 l1 l2 l3 l4 h
set_option maxRecDepth 20000 in
set_option maxHeartbeats 1000000 in
theorem k_X9_split (G : zG) (n : Nat) (a0 : Nat) (a1 : Nat) (a2 : Int32) (h : zH) : zMet G yX9_split cX9_split 8 none zvU 10 [.ref (zbase G + a0), .ref (zbase G + a1), .int a2] h (f_X9_split n a0 a1 a2 h) := by
  refine zMet_of (l := [(0, .ref (zbase G + a0)), (1, .ref (zbase G + a1)), (2, .int a2)]) (by decide) (Nat.le_of_ble_eq_true rfl) rfl ?_
  unfold f_X9_split
  refine zi_aload_n dX9_split_0 rfl 0 rfl ?_
  refine zi_iconst (v := 0) dX9_split_1 (by decide) ?_
  refine zi_putI dX9_split_2 gf_X9_21 (fun h1 => ?_)
  refine zi_iconst (v := 0) dX9_split_5 (by decide) ?_
  refine zi_istore_n (l' := [(3, .int 0), (0, .ref (zbase G + a0)), (1, .ref (zbase G + a1)), (2, .int a2)]) dX9_split_6 rfl (by decide) rfl ?_
  refine zi_iconst (v := 0) dX9_split_7 (by decide) ?_
  refine zi_istore (l' := [(4, .int 0), (3, .int 0), (0, .ref (zbase G + a0)), (1, .ref (zbase G + a1)), (2, .int a2)]) dX9_split_8 (by decide) rfl ?_
  refine zi_sub [2, 3, 4, 1, 0] rfl ?_
  exact wl_X9_split_10 G n n a0 a1 a2 0 0 h1
set_option maxRecDepth 20000 in
set_option maxHeartbeats 1000000 in
theorem k_X8_clear (G : zG) (n : Nat) (a0 : Nat) (h : zH) : zMet G yX8_clear cX8_clear 1 none zvU 1 [.ref (zbase G + a0)] h (f_X8_clear n a0 h) := by
  refine zMet_of (l := [(0, .ref (zbase G + a0))]) (by decide) (Nat.le_of_ble_eq_true rfl) rfl ?_
  unfold f_X8_clear
  refine zi_aload_n dX8_clear_0 rfl 0 rfl ?_
  refine zi_iconst (v := 0) dX8_clear_1 (by decide) ?_
  refine zi_putI dX8_clear_2 gf_X8_9 (fun h1 => ?_)
  refine zi_aload_n dX8_clear_5 rfl 0 rfl ?_
  refine zi_iconst (v := 0) dX8_clear_6 (by decide) ?_
  refine zi_putI dX8_clear_7 gf_X8_15 (fun h2 => ?_)
  exact zi_retV dX8_clear_10
set_option maxRecDepth 20000 in
set_option maxHeartbeats 1000000 in
theorem k_X5_present (G : zG) (n : Nat) (a0 : Nat) (h : zH) : zMet G yX5_present cX5_present 1 (some .int) zvI 1 [.ref (zbase G + a0)] h (f_X5_present n a0 h) := by
  refine zMet_of (l := [(0, .ref (zbase G + a0))]) (by decide) (Nat.le_of_ble_eq_true rfl) rfl ?_
  unfold f_X5_present
  refine zi_aload_n dX5_present_0 rfl 0 rfl ?_
  refine zi_getI dX5_present_1 gf_X5_27 (fun v1 => ?_)
  refine zi_if_lt (tgt := 32) dX5_present_4 (by decide) ?_ ?_
  · refine zi_iconst (v := 0) dX5_present_32 (by decide) ?_
    exact zi_retI dX5_present_33
  · refine zi_aload_n dX5_present_7 rfl 0 rfl ?_
    refine zi_getI dX5_present_8 gf_X5_27 (fun v2 => ?_)
    refine zi_sipush (v := 401) dX5_present_11 (by decide) ?_
    refine zi_icmp_ge (tgt := 32) dX5_present_14 (by decide) ?_ ?_
    · refine zi_iconst (v := 0) dX5_present_32 (by decide) ?_
      exact zi_retI dX5_present_33
    · refine zi_aload_n dX5_present_17 rfl 0 rfl ?_
      refine zi_getR dX5_present_18 gf_X5_23 (fun v3 => ?_)
      refine zi_getR dX5_present_21 gf_X5_103 (fun v4 => ?_)
      refine zi_aload_n dX5_present_24 rfl 0 rfl ?_
      refine zi_getI dX5_present_25 gf_X5_27 (fun v5 => ?_)
      refine zi_iald dX5_present_28 (fun v6 => ?_)
      refine zi_goto (tgt := 33) dX5_present_29 (by decide) ?_
      exact zi_retI dX5_present_33
set_option maxRecDepth 20000 in
set_option maxHeartbeats 1000000 in
theorem k_X8_setEntry (G : zG) (n : Nat) (a0 : Nat) (a1 : Int32) (a2 : Int32) (h : zH) : zMet G yX8_setEntry cX8_setEntry 4 none zvU 1 [.ref (zbase G + a0), .int a1, .int a2] h (f_X8_setEntry n a0 a1 a2 h) := by
  refine zMet_of (l := [(0, .ref (zbase G + a0)), (1, .int a1), (2, .int a2)]) (by decide) (Nat.le_of_ble_eq_true rfl) rfl ?_
  unfold f_X8_setEntry
  refine zi_iconst (v := 5) dX8_setEntry_0 (by decide) ?_
  refine zi_aload_n dX8_setEntry_1 rfl 0 rfl ?_
  refine zi_getI dX8_setEntry_2 gf_X8_15 (fun v1 => ?_)
  refine zi_iconst (v := 1) dX8_setEntry_5 (by decide) ?_
  refine zi_isub dX8_setEntry_6 ?_
  refine zi_imul dX8_setEntry_7 ?_
  refine zi_iload_n dX8_setEntry_8 rfl 1 rfl ?_
  refine zi_iadd dX8_setEntry_9 ?_
  refine zi_let (sf := fun x2 => .int x2 :: []) (fun x2 => ?_)
  refine zi_istore_n (l' := [(3, .int x2), (0, .ref (zbase G + a0)), (1, .int a1), (2, .int a2)]) dX8_setEntry_10 rfl (by decide) rfl ?_
  refine zi_iload_n dX8_setEntry_11 rfl 0 rfl ?_
  refine zi_if_lt (tgt := 31) dX8_setEntry_12 (by decide) ?_ ?_
  · exact zi_retV dX8_setEntry_31
  · refine zi_iload_n dX8_setEntry_15 rfl 0 rfl ?_
    refine zi_aload_n dX8_setEntry_16 rfl 1 rfl ?_
    refine zi_getR dX8_setEntry_17 gf_X8_31 (fun v3 => ?_)
    refine zi_alen (Or.inl rfl) dX8_setEntry_20 (fun v4 => ?_)
    refine zi_icmp_ge (tgt := 31) dX8_setEntry_21 (by decide) ?_ ?_
    · exact zi_retV dX8_setEntry_31
    · refine zi_aload_n dX8_setEntry_24 rfl 1 rfl ?_
      refine zi_getR dX8_setEntry_25 gf_X8_31 (fun v5 => ?_)
      refine zi_iload_n dX8_setEntry_28 rfl 0 rfl ?_
      refine zi_iload_n dX8_setEntry_29 rfl 3 rfl ?_
      refine zi_iast dX8_setEntry_30 (fun h6 => ?_)
      exact zi_retV dX8_setEntry_31
set_option maxRecDepth 20000 in
set_option maxHeartbeats 1000000 in
theorem k_X8_addClause (G : zG) (n : Nat) (a0 : Nat) (a1 : Int32) (h : zH) : zMet G yX8_addClause cX8_addClause 2 none zvU 2 [.ref (zbase G + a0), .int a1] h (f_X8_addClause n a0 a1 h) := by
  refine zMet_of (l := [(0, .ref (zbase G + a0)), (1, .int a1)]) (by decide) (Nat.le_of_ble_eq_true rfl) rfl ?_
  unfold f_X8_addClause
  refine zi_aload_n dX8_addClause_0 rfl 0 rfl ?_
  refine zi_dup dX8_addClause_1 rfl ?_
  refine zi_getI dX8_addClause_2 gf_X8_15 (fun v1 => ?_)
  refine zi_iconst (v := 1) dX8_addClause_5 (by decide) ?_
  refine zi_iadd dX8_addClause_6 ?_
  refine zi_putI dX8_addClause_7 gf_X8_15 (fun h2 => ?_)
  refine zi_aload_n dX8_addClause_10 rfl 0 rfl ?_
  refine zi_iconst (v := 0) dX8_addClause_11 (by decide) ?_
  refine zi_iload_n dX8_addClause_12 rfl 1 rfl ?_
  refine zi_callVU (As := [.int 0, .int a1]) (rest := []) (ci := 8) dX8_addClause_13 ml_X8_43 md_X8_setEntry mv_X8_setEntry rfl (by decide) rfl rfl (Nat.le_of_ble_eq_true rfl) (Nat.le_of_ble_eq_true rfl) (k_X8_setEntry G n a0 0 a1 h2) (fun _ h4 => ?_)
  refine zi_aload_n dX8_addClause_16 rfl 0 rfl ?_
  refine zi_iconst (v := 1) dX8_addClause_17 (by decide) ?_
  refine zi_iconst (v := (-1)) dX8_addClause_18 (by decide) ?_
  refine zi_callVU (As := [.int 1, .int (-1)]) (rest := []) (ci := 8) dX8_addClause_19 ml_X8_43 md_X8_setEntry mv_X8_setEntry rfl (by decide) rfl rfl (Nat.le_of_ble_eq_true rfl) (Nat.le_of_ble_eq_true rfl) (k_X8_setEntry G n a0 1 (-1) h4) (fun _ h6 => ?_)
  refine zi_aload_n dX8_addClause_22 rfl 0 rfl ?_
  refine zi_iconst (v := 2) dX8_addClause_23 (by decide) ?_
  refine zi_iconst (v := (-1)) dX8_addClause_24 (by decide) ?_
  refine zi_callVU (As := [.int 2, .int (-1)]) (rest := []) (ci := 8) dX8_addClause_25 ml_X8_43 md_X8_setEntry mv_X8_setEntry rfl (by decide) rfl rfl (Nat.le_of_ble_eq_true rfl) (Nat.le_of_ble_eq_true rfl) (k_X8_setEntry G n a0 2 (-1) h6) (fun _ h8 => ?_)
  refine zi_aload_n dX8_addClause_28 rfl 0 rfl ?_
  refine zi_iconst (v := 3) dX8_addClause_29 (by decide) ?_
  refine zi_iconst (v := 1) dX8_addClause_30 (by decide) ?_
  refine zi_callVU (As := [.int 3, .int 1]) (rest := []) (ci := 8) dX8_addClause_31 ml_X8_43 md_X8_setEntry mv_X8_setEntry rfl (by decide) rfl rfl (Nat.le_of_ble_eq_true rfl) (Nat.le_of_ble_eq_true rfl) (k_X8_setEntry G n a0 3 1 h8) (fun _ h10 => ?_)
  refine zi_aload_n dX8_addClause_34 rfl 0 rfl ?_
  refine zi_iconst (v := 4) dX8_addClause_35 (by decide) ?_
  refine zi_iconst (v := (-1)) dX8_addClause_36 (by decide) ?_
  refine zi_callVU (As := [.int 4, .int (-1)]) (rest := []) (ci := 8) dX8_addClause_37 ml_X8_43 md_X8_setEntry mv_X8_setEntry rfl (by decide) rfl rfl (Nat.le_of_ble_eq_true rfl) (Nat.le_of_ble_eq_true rfl) (k_X8_setEntry G n a0 4 (-1) h10) (fun _ h12 => ?_)
  exact zi_retV dX8_addClause_40
set_option maxRecDepth 20000 in
set_option maxHeartbeats 1000000 in
theorem k_X5_fails (G : zG) (n : Nat) (a0 : Nat) (h : zH) : zMet G yX5_fails cX5_fails 1 (some .boolean) zvI 1 [.ref (zbase G + a0)] h (f_X5_fails n a0 h) := by
  refine zMet_of (l := [(0, .ref (zbase G + a0))]) (by decide) (Nat.le_of_ble_eq_true rfl) rfl ?_
  unfold f_X5_fails
  refine zi_aload_n dX5_fails_0 rfl 0 rfl ?_
  refine zi_aload_n dX5_fails_1 rfl 0 rfl ?_
  refine zi_getI dX5_fails_2 gf_X5_27 (fun v1 => ?_)
  refine zi_if_lt (tgt := 33) dX5_fails_5 (by decide) ?_ ?_
  · refine zi_iconst (v := 0) dX5_fails_33 (by decide) ?_
    refine zi_putI dX5_fails_34 gf_X5_34 (fun h2 => ?_)
    refine zi_iconst (v := 0) dX5_fails_37 (by decide) ?_
    exact zi_ret0 dX5_fails_38
  · refine zi_aload_n dX5_fails_8 rfl 0 rfl ?_
    refine zi_getI dX5_fails_9 gf_X5_27 (fun v3 => ?_)
    refine zi_sipush (v := 401) dX5_fails_12 (by decide) ?_
    refine zi_icmp_ge (tgt := 33) dX5_fails_15 (by decide) ?_ ?_
    · refine zi_iconst (v := 0) dX5_fails_33 (by decide) ?_
      refine zi_putI dX5_fails_34 gf_X5_34 (fun h4 => ?_)
      refine zi_iconst (v := 0) dX5_fails_37 (by decide) ?_
      exact zi_ret0 dX5_fails_38
    · refine zi_aload_n dX5_fails_18 rfl 0 rfl ?_
      refine zi_getR dX5_fails_19 gf_X5_23 (fun v5 => ?_)
      refine zi_getR dX5_fails_22 gf_X5_110 (fun v6 => ?_)
      refine zi_aload_n dX5_fails_25 rfl 0 rfl ?_
      refine zi_getI dX5_fails_26 gf_X5_27 (fun v7 => ?_)
      refine zi_iald dX5_fails_29 (fun v8 => ?_)
      refine zi_goto (tgt := 34) dX5_fails_30 (by decide) ?_
      refine zi_putI dX5_fails_34 gf_X5_34 (fun h9 => ?_)
      refine zi_iconst (v := 0) dX5_fails_37 (by decide) ?_
      exact zi_ret0 dX5_fails_38
