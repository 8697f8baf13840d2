set_option maxRecDepth 20000 in
set_option maxHeartbeats 1000000 in
theorem wb_X12_goesAlong_234 (G : zG) (n : Nat) (l0 : Nat) (s0 : Nat) (s1 : Int32) (h : zH) : zW G yX12_goesAlong cX12_goesAlong 5 none zvU 88 234 [(0, .ref (zbase G + l0))] [.int s1, .ref (zbase G + s0)] h (fb_X12_goesAlong_234 n l0 s0 s1 h) := by
  unfold fb_X12_goesAlong_234
  refine zi_putZ dX12_goesAlong_234 gf_X12_436 (fun h1 => ?_)
  refine zi_aload_n dX12_goesAlong_237 rfl 0 rfl ?_
  refine zi_dup dX12_goesAlong_238 rfl ?_
  refine zi_getI dX12_goesAlong_239 gf_X12_248 (fun v2 => ?_)
  refine zi_iconst (v := 1) dX12_goesAlong_242 (by decide) ?_
  refine zi_iadd dX12_goesAlong_243 ?_
  refine zi_putI dX12_goesAlong_244 gf_X12_248 (fun h3 => ?_)
  exact zi_retV dX12_goesAlong_247
set_option maxRecDepth 20000 in
set_option maxHeartbeats 1000000 in
theorem wb_X12_goesAlong_233 (G : zG) (n : Nat) (l0 : Nat) (s0 : Nat) (h : zH) : zW G yX12_goesAlong cX12_goesAlong 5 none zvU 88 233 [(0, .ref (zbase G + l0))] [.ref (zbase G + s0)] h (fb_X12_goesAlong_233 n l0 s0 h) := by
  unfold fb_X12_goesAlong_233
  refine zi_iconst (v := 0) dX12_goesAlong_233 (by decide) ?_
  refine zi_sub [0] rfl ?_
  exact wb_X12_goesAlong_234 G n l0 s0 0 h
set_option maxRecDepth 20000 in
set_option maxHeartbeats 1000000 in
theorem wb_X12_goesAlong_211 (G : zG) (n : Nat) (l0 : Nat) (s0 : Nat) (s1 : Int32) (h : zH) : zW G yX12_goesAlong cX12_goesAlong 5 none zvU 88 211 [(0, .ref (zbase G + l0))] [.int s1, .ref (zbase G + s0)] h (fb_X12_goesAlong_211 n l0 s0 s1 h) := by
  unfold fb_X12_goesAlong_211
  refine zi_putZ dX12_goesAlong_211 gf_X12_436 (fun h1 => ?_)
  refine zi_aload_n dX12_goesAlong_214 rfl 0 rfl ?_
  refine zi_aload_n dX12_goesAlong_215 rfl 0 rfl ?_
  refine zi_getZ dX12_goesAlong_216 gf_X12_436 (fun v2 => ?_)
  refine zi_if_eq (tgt := 233) dX12_goesAlong_219 (by decide) ?_ ?_
  · refine zi_sub [0] rfl ?_
    exact wb_X12_goesAlong_233 G n l0 l0 h1
  · refine zi_aload_n dX12_goesAlong_222 rfl 0 rfl ?_
    refine zi_getZ dX12_goesAlong_223 gf_X12_258 (fun v3 => ?_)
    refine zi_if_ne (tgt := 233) dX12_goesAlong_226 (by decide) ?_ ?_
    · refine zi_sub [0] rfl ?_
      exact wb_X12_goesAlong_233 G n l0 l0 h1
    · refine zi_iconst (v := 1) dX12_goesAlong_229 (by decide) ?_
      refine zi_goto (tgt := 234) dX12_goesAlong_230 (by decide) ?_
      refine zi_sub [0] rfl ?_
      exact wb_X12_goesAlong_234 G n l0 l0 1 h1
set_option maxRecDepth 20000 in
set_option maxHeartbeats 1000000 in
theorem wb_X12_goesAlong_206 (G : zG) (n : Nat) (l0 : Nat) (s0 : Nat) (h : zH) : zW G yX12_goesAlong cX12_goesAlong 5 none zvU 88 206 [(0, .ref (zbase G + l0))] [.ref (zbase G + s0)] h (fb_X12_goesAlong_206 n l0 s0 h) := by
  unfold fb_X12_goesAlong_206
  refine zi_iconst (v := 1) dX12_goesAlong_206 (by decide) ?_
  refine zi_goto (tgt := 211) dX12_goesAlong_207 (by decide) ?_
  refine zi_sub [0] rfl ?_
  exact wb_X12_goesAlong_211 G n l0 s0 1 h
set_option maxRecDepth 20000 in
set_option maxHeartbeats 1000000 in
theorem wb_X12_goesAlong_184 (G : zG) (n : Nat) (l0 : Nat) (l2 : Int32) (h : zH) : zW G yX12_goesAlong cX12_goesAlong 5 none zvU 88 184 [(0, .ref (zbase G + l0)), (2, .int l2)] [] h (fb_X12_goesAlong_184 n l0 l2 h) := by
  unfold fb_X12_goesAlong_184
  refine zi_aload_n dX12_goesAlong_184 rfl 0 rfl ?_
  refine zi_iconst (v := 0) dX12_goesAlong_185 (by decide) ?_
  refine zi_putZ dX12_goesAlong_186 gf_X12_258 (fun h1 => ?_)
  refine zi_aload_n dX12_goesAlong_189 rfl 0 rfl ?_
  refine zi_aload_n dX12_goesAlong_190 rfl 0 rfl ?_
  refine zi_iconst (v := 3) dX12_goesAlong_191 (by decide) ?_
  refine zi_callVI (As := [.int 3]) (rest := [.ref (zbase G + l0)]) (ci := 12) dX12_goesAlong_192 ml_X12_272 md_X12_passes0 mv_X12_passes0 rfl (by decide) rfl rfl (Nat.le_of_ble_eq_true rfl) (Nat.le_of_ble_eq_true rfl) (k_X12_passes0 G n l0 3 h1) (fun r2 h3 => ?_)
  refine zi_if_eq (tgt := 206) dX12_goesAlong_195 (by decide) ?_ ?_
  · refine zi_sub [0] rfl ?_
    exact wb_X12_goesAlong_206 G n l0 l0 h3
  · refine zi_aload_n dX12_goesAlong_198 rfl 0 rfl ?_
    refine zi_iload_n dX12_goesAlong_199 rfl 1 rfl ?_
    refine zi_callVI (As := [.int l2]) (rest := [.ref (zbase G + l0)]) (ci := 12) dX12_goesAlong_200 ml_X12_299 md_X12_testOf mv_X12_testOf rfl (by decide) rfl rfl (Nat.le_of_ble_eq_true rfl) (Nat.le_of_ble_eq_true rfl) (k_X12_testOf G n 12 l0 l2 h3) (fun r4 h5 => ?_)
    refine zi_if_eq (tgt := 210) dX12_goesAlong_203 (by decide) ?_ ?_
    · refine zi_iconst (v := 0) dX12_goesAlong_210 (by decide) ?_
      refine zi_sub [0] rfl ?_
      exact wb_X12_goesAlong_211 G n l0 l0 0 h5
    · refine zi_sub [0] rfl ?_
      exact wb_X12_goesAlong_206 G n l0 l0 h5
set_option maxRecDepth 20000 in
set_option maxHeartbeats 1000000 in
theorem wb_X12_goesAlong_143 (G : zG) (n : Nat) (l0 : Nat) (l2 : Int32) (h : zH) : zW G yX12_goesAlong cX12_goesAlong 5 none zvU 88 143 [(0, .ref (zbase G + l0)), (2, .int l2)] [] h (fb_X12_goesAlong_143 n l0 l2 h) := by
  unfold fb_X12_goesAlong_143
  refine zi_aload_n dX12_goesAlong_143 rfl 0 rfl ?_
  refine zi_iconst (v := 1) dX12_goesAlong_144 (by decide) ?_
  refine zi_putI dX12_goesAlong_145 gf_X12_433 (fun h1 => ?_)
  refine zi_aload_n dX12_goesAlong_148 rfl 0 rfl ?_
  refine zi_bipush (v := 29) dX12_goesAlong_149 (by decide) ?_
  refine zi_callVI (As := [.int 29]) (rest := []) (ci := 12) dX12_goesAlong_151 ml_X12_272 md_X12_passes0 mv_X12_passes0 rfl (by decide) rfl rfl (Nat.le_of_ble_eq_true rfl) (Nat.le_of_ble_eq_true rfl) (k_X12_passes0 G n l0 29 h1) (fun r2 h3 => ?_)
  refine zi_if_eq (tgt := 184) dX12_goesAlong_154 (by decide) ?_ ?_
  · refine zi_sub [0, 1] rfl ?_
    exact wb_X12_goesAlong_184 G n l0 l2 h3
  · refine zi_aload_n dX12_goesAlong_157 rfl 0 rfl ?_
    refine zi_aload_n dX12_goesAlong_158 rfl 0 rfl ?_
    refine zi_getR dX12_goesAlong_159 gf_X12_28 (fun v4 => ?_)
    refine zi_sipush (v := 3015) dX12_goesAlong_162 (by decide) ?_
    refine zi_aload_n dX12_goesAlong_165 rfl 0 rfl ?_
    refine zi_getI dX12_goesAlong_166 gf_X12_248 (fun v5 => ?_)
    refine zi_iadd dX12_goesAlong_169 ?_
    refine zi_iald dX12_goesAlong_170 (fun v6 => ?_)
    refine zi_putI dX12_goesAlong_171 gf_X12_433 (fun h7 => ?_)
    refine zi_aload_n dX12_goesAlong_174 rfl 0 rfl ?_
    refine zi_dup dX12_goesAlong_175 rfl ?_
    refine zi_getI dX12_goesAlong_176 gf_X12_248 (fun v8 => ?_)
    refine zi_iconst (v := 1) dX12_goesAlong_179 (by decide) ?_
    refine zi_iadd dX12_goesAlong_180 ?_
    refine zi_putI dX12_goesAlong_181 gf_X12_248 (fun h9 => ?_)
    refine zi_sub [0, 1] rfl ?_
    exact wb_X12_goesAlong_184 G n l0 l2 h9
set_option maxRecDepth 20000 in
set_option maxHeartbeats 1000000 in
theorem wb_X12_goesAlong_134 (G : zG) (n : Nat) (k76 : Nat → Int32 → Int32 → Int32 → zH → Option (Unit × zH)) (hk76 : ∀ (l0 : Nat) (l2 : Int32) (l3 : Int32) (l4 : Int32) (h : zH), zW G yX12_goesAlong cX12_goesAlong 5 none zvU 88 76 [(0, .ref (zbase G + l0)), (2, .int l2), (3, .int l3), (4, .int l4)] [] h (k76 l0 l2 l3 l4 h)) (l0 : Nat) (l2 : Int32) (l3 : Int32) (l4 : Int32) (s0 : Nat) (s1 : Int32) (h : zH) : zW G yX12_goesAlong cX12_goesAlong 5 none zvU 88 134 [(0, .ref (zbase G + l0)), (2, .int l2), (3, .int l3), (4, .int l4)] [.int s1, .ref (zbase G + s0)] h (fb_X12_goesAlong_134 n k76 l0 l2 l3 l4 s0 s1 h) := by
  unfold fb_X12_goesAlong_134
  refine zi_putZ dX12_goesAlong_134 gf_X12_430 (fun h1 => ?_)
  refine zi_iinc (j := 3) (v := l4 + 1) (l' := [(4, .int (l4 + 1)), (0, .ref (zbase G + l0)), (2, .int l2), (3, .int l3)]) dX12_goesAlong_137 rfl rfl (by decide) rfl ?_
  refine zi_goto (tgt := 76) dX12_goesAlong_140 (by decide) ?_
  refine zi_sub [1, 2, 3, 0] rfl ?_
  exact hk76 l0 l2 l3 (l4 + 1) h1
set_option maxRecDepth 20000 in
set_option maxHeartbeats 1000000 in
theorem wb_X12_goesAlong_133 (G : zG) (n : Nat) (k76 : Nat → Int32 → Int32 → Int32 → zH → Option (Unit × zH)) (hk76 : ∀ (l0 : Nat) (l2 : Int32) (l3 : Int32) (l4 : Int32) (h : zH), zW G yX12_goesAlong cX12_goesAlong 5 none zvU 88 76 [(0, .ref (zbase G + l0)), (2, .int l2), (3, .int l3), (4, .int l4)] [] h (k76 l0 l2 l3 l4 h)) (l0 : Nat) (l2 : Int32) (l3 : Int32) (l4 : Int32) (s0 : Nat) (h : zH) : zW G yX12_goesAlong cX12_goesAlong 5 none zvU 88 133 [(0, .ref (zbase G + l0)), (2, .int l2), (3, .int l3), (4, .int l4)] [.ref (zbase G + s0)] h (fb_X12_goesAlong_133 n k76 l0 l2 l3 l4 s0 h) := by
  unfold fb_X12_goesAlong_133
  refine zi_iconst (v := 0) dX12_goesAlong_133 (by decide) ?_
  refine zi_sub [0, 1, 2, 3] rfl ?_
  exact wb_X12_goesAlong_134 G n k76 hk76 l0 l2 l3 l4 s0 0 h
set_option maxRecDepth 20000 in
set_option maxHeartbeats 1000000 in
theorem wb_X12_goesAlong_97 (G : zG) (n : Nat) (k76 : Nat → Int32 → Int32 → Int32 → zH → Option (Unit × zH)) (hk76 : ∀ (l0 : Nat) (l2 : Int32) (l3 : Int32) (l4 : Int32) (h : zH), zW G yX12_goesAlong cX12_goesAlong 5 none zvU 88 76 [(0, .ref (zbase G + l0)), (2, .int l2), (3, .int l3), (4, .int l4)] [] h (k76 l0 l2 l3 l4 h)) (l0 : Nat) (l2 : Int32) (l3 : Int32) (l4 : Int32) (h : zH) : zW G yX12_goesAlong cX12_goesAlong 5 none zvU 88 97 [(0, .ref (zbase G + l0)), (2, .int l2), (3, .int l3), (4, .int l4)] [] h (fb_X12_goesAlong_97 n k76 l0 l2 l3 l4 h) := by
  unfold fb_X12_goesAlong_97
  refine zi_aload_n dX12_goesAlong_97 rfl 0 rfl ?_
  refine zi_iconst (v := 0) dX12_goesAlong_98 (by decide) ?_
  refine zi_putZ dX12_goesAlong_99 gf_X12_258 (fun h1 => ?_)
  refine zi_aload_n dX12_goesAlong_102 rfl 0 rfl ?_
  refine zi_getR dX12_goesAlong_103 gf_X12_79 (fun v2 => ?_)
  refine zi_iload dX12_goesAlong_106 3 rfl ?_
  refine zi_aload_n dX12_goesAlong_108 rfl 0 rfl ?_
  refine zi_iload_n dX12_goesAlong_109 rfl 1 rfl ?_
  refine zi_callVL (As := [.int l2]) (rest := [.int l4, .ref (zbase G + v2)]) (ci := 12) dX12_goesAlong_110 ml_X12_275 md_X12_sumOf mv_X12_sumOf rfl (by decide) rfl rfl (Nat.le_of_ble_eq_true rfl) (Nat.le_of_ble_eq_true rfl) (k_X12_sumOf G n 12 l0 l2 h1) (fun r3 h4 => ?_)
  refine zi_last dX12_goesAlong_113 (fun h5 => ?_)
  refine zi_aload_n dX12_goesAlong_114 rfl 0 rfl ?_
  refine zi_aload_n dX12_goesAlong_115 rfl 0 rfl ?_
  refine zi_getZ dX12_goesAlong_116 gf_X12_430 (fun v6 => ?_)
  refine zi_if_eq (tgt := 133) dX12_goesAlong_119 (by decide) ?_ ?_
  · refine zi_sub [0, 1, 2, 3] rfl ?_
    exact wb_X12_goesAlong_133 G n k76 hk76 l0 l2 l3 l4 l0 h5
  · refine zi_aload_n dX12_goesAlong_122 rfl 0 rfl ?_
    refine zi_getZ dX12_goesAlong_123 gf_X12_258 (fun v7 => ?_)
    refine zi_if_ne (tgt := 133) dX12_goesAlong_126 (by decide) ?_ ?_
    · refine zi_sub [0, 1, 2, 3] rfl ?_
      exact wb_X12_goesAlong_133 G n k76 hk76 l0 l2 l3 l4 l0 h5
    · refine zi_iconst (v := 1) dX12_goesAlong_129 (by decide) ?_
      refine zi_goto (tgt := 134) dX12_goesAlong_130 (by decide) ?_
      refine zi_sub [0, 1, 2, 3] rfl ?_
      exact wb_X12_goesAlong_134 G n k76 hk76 l0 l2 l3 l4 l0 1 h5
set_option maxRecDepth 20000 in
set_option maxHeartbeats 1000000 in
theorem wb_X12_goesAlong_76 (G : zG) (n : Nat) (k76 : Nat → Int32 → Int32 → Int32 → zH → Option (Unit × zH)) (hk76 : ∀ (l0 : Nat) (l2 : Int32) (l3 : Int32) (l4 : Int32) (h : zH), zW G yX12_goesAlong cX12_goesAlong 5 none zvU 88 76 [(0, .ref (zbase G + l0)), (2, .int l2), (3, .int l3), (4, .int l4)] [] h (k76 l0 l2 l3 l4 h)) (l0 : Nat) (l2 : Int32) (l3 : Int32) (l4 : Int32) (h : zH) : zW G yX12_goesAlong cX12_goesAlong 5 none zvU 88 76 [(0, .ref (zbase G + l0)), (2, .int l2), (3, .int l3), (4, .int l4)] [] h (fb_X12_goesAlong_76 n k76 l0 l2 l3 l4 h) := by
  unfold fb_X12_goesAlong_76
  refine zi_iload dX12_goesAlong_76 3 rfl ?_
  refine zi_iload_n dX12_goesAlong_78 rfl 2 rfl ?_
  refine zi_icmp_ge (tgt := 143) dX12_goesAlong_79 (by decide) ?_ ?_
  · refine zi_sub [0, 1] rfl ?_
    exact wb_X12_goesAlong_143 G n l0 l2 h
  · refine zi_iload dX12_goesAlong_82 3 rfl ?_
    refine zi_if_le (tgt := 97) dX12_goesAlong_84 (by decide) ?_ ?_
    · refine zi_sub [0, 1, 2, 3] rfl ?_
      exact wb_X12_goesAlong_97 G n k76 hk76 l0 l2 l3 l4 h
    · refine zi_aload_n dX12_goesAlong_87 rfl 0 rfl ?_
      refine zi_dup dX12_goesAlong_88 rfl ?_
      refine zi_getI dX12_goesAlong_89 gf_X12_248 (fun v1 => ?_)
      refine zi_iconst (v := 1) dX12_goesAlong_92 (by decide) ?_
      refine zi_iadd dX12_goesAlong_93 ?_
      refine zi_putI dX12_goesAlong_94 gf_X12_248 (fun h2 => ?_)
      refine zi_sub [0, 1, 2, 3] rfl ?_
      exact wb_X12_goesAlong_97 G n k76 hk76 l0 l2 l3 l4 h2
theorem wl_X12_goesAlong_76 (G : zG) (n : Nat) : ∀ (t : Nat) (l0 : Nat) (l2 : Int32) (l3 : Int32) (l4 : Int32) (h : zH), zW G yX12_goesAlong cX12_goesAlong 5 none zvU 88 76 [(0, .ref (zbase G + l0)), (2, .int l2), (3, .int l3), (4, .int l4)] [] h (zlp4 (fb_X12_goesAlong_76 n ) t l0 l2 l3 l4 h) := by
  intro t
  induction t with
  | zero => intros; exact zW_none
  | succ t ih => intro l0 l2 l3 l4 h; rw [zlp4_s]; exact wb_X12_goesAlong_76 G n  _  ih l0 l2 l3 l4 h
set_option maxRecDepth 20000 in
set_option maxHeartbeats 1000000 in
theorem wb_X12_goesAlong_72 (G : zG) (n : Nat) (l0 : Nat) (l2 : Int32) (s0 : Int32) (h : zH) : zW G yX12_goesAlong cX12_goesAlong 5 none zvU 88 72 [(0, .ref (zbase G + l0)), (2, .int l2)] [.int s0] h (fb_X12_goesAlong_72 n l0 l2 s0 h) := by
  unfold fb_X12_goesAlong_72
  refine zi_istore_n (l' := [(3, .int s0), (0, .ref (zbase G + l0)), (2, .int l2)]) dX12_goesAlong_72 rfl (by decide) rfl ?_
  refine zi_iconst (v := 0) dX12_goesAlong_73 (by decide) ?_
  refine zi_istore (l' := [(4, .int 0), (3, .int s0), (0, .ref (zbase G + l0)), (2, .int l2)]) dX12_goesAlong_74 (by decide) rfl ?_
  refine zi_sub [2, 3, 1, 0] rfl ?_
  exact wl_X12_goesAlong_76 G n n l0 l2 s0 0 h
set_option maxRecDepth 20000 in
set_option maxHeartbeats 1000000 in
theorem k_X12_goesAlong (G : zG) (n : Nat) (a0 : Nat) (a1 : Int32) (a2 : Int32) (h : zH) : zMet G yX12_goesAlong cX12_goesAlong 5 none zvU 88 [.ref (zbase G + a0), .int a1, .int a2] h (f_X12_goesAlong n a0 a1 a2 h) := by
  refine zMet_of (l := [(0, .ref (zbase G + a0)), (1, .int a1), (2, .int a2)]) (by decide) (Nat.le_of_ble_eq_true rfl) rfl ?_
  unfold f_X12_goesAlong
  refine zi_aload_n dX12_goesAlong_0 rfl 0 rfl ?_
  refine zi_iconst (v := 1) dX12_goesAlong_1 (by decide) ?_
  refine zi_putZ dX12_goesAlong_2 gf_X12_278 (fun h1 => ?_)
  refine zi_aload_n dX12_goesAlong_5 rfl 0 rfl ?_
  refine zi_iload_n dX12_goesAlong_6 rfl 1 rfl ?_
  refine zi_putI dX12_goesAlong_7 gf_X12_245 (fun h2 => ?_)
  refine zi_aload_n dX12_goesAlong_10 rfl 0 rfl ?_
  refine zi_aload_n dX12_goesAlong_11 rfl 0 rfl ?_
  refine zi_getI dX12_goesAlong_12 gf_X12_418 (fun v3 => ?_)
  refine zi_putI dX12_goesAlong_15 gf_X12_248 (fun h4 => ?_)
  refine zi_aload_n dX12_goesAlong_18 rfl 0 rfl ?_
  refine zi_aload_n dX12_goesAlong_19 rfl 0 rfl ?_
  refine zi_aload_n dX12_goesAlong_20 rfl 0 rfl ?_
  refine zi_getI dX12_goesAlong_21 gf_X12_248 (fun v5 => ?_)
  refine zi_callVI (As := [.int v5]) (rest := [.ref (zbase G + a0)]) (ci := 12) dX12_goesAlong_24 ml_X12_251 md_X12_codeAt mv_X12_codeAt rfl (by decide) rfl rfl (Nat.le_of_ble_eq_true rfl) (Nat.le_of_ble_eq_true rfl) (k_X12_codeAt G n a0 v5 h4) (fun r6 h7 => ?_)
  refine zi_putI dX12_goesAlong_27 gf_X12_427 (fun h8 => ?_)
  refine zi_aload_n dX12_goesAlong_30 rfl 0 rfl ?_
  refine zi_dup dX12_goesAlong_31 rfl ?_
  refine zi_getI dX12_goesAlong_32 gf_X12_248 (fun v9 => ?_)
  refine zi_iconst (v := 1) dX12_goesAlong_35 (by decide) ?_
  refine zi_iadd dX12_goesAlong_36 ?_
  refine zi_putI dX12_goesAlong_37 gf_X12_248 (fun h10 => ?_)
  refine zi_aload_n dX12_goesAlong_40 rfl 0 rfl ?_
  refine zi_iconst (v := 1) dX12_goesAlong_41 (by decide) ?_
  refine zi_putZ dX12_goesAlong_42 gf_X12_430 (fun h11 => ?_)
  refine zi_aload_n dX12_goesAlong_45 rfl 0 rfl ?_
  refine zi_getI dX12_goesAlong_46 gf_X12_427 (fun v12 => ?_)
  refine zi_bipush (v := 28) dX12_goesAlong_49 (by decide) ?_
  refine zi_icmp_ne (tgt := 58) dX12_goesAlong_51 (by decide) ?_ ?_
  · refine zi_aload_n dX12_goesAlong_58 rfl 0 rfl ?_
    refine zi_getI dX12_goesAlong_59 gf_X12_427 (fun v13 => ?_)
    refine zi_bipush (v := 20) dX12_goesAlong_62 (by decide) ?_
    refine zi_icmp_ne (tgt := 71) dX12_goesAlong_64 (by decide) ?_ ?_
    · refine zi_iconst (v := 1) dX12_goesAlong_71 (by decide) ?_
      refine zi_sub [0, 2] rfl ?_
      exact wb_X12_goesAlong_72 G n a0 a2 1 h11
    · refine zi_iconst (v := 2) dX12_goesAlong_67 (by decide) ?_
      refine zi_goto (tgt := 72) dX12_goesAlong_68 (by decide) ?_
      refine zi_sub [0, 2] rfl ?_
      exact wb_X12_goesAlong_72 G n a0 a2 2 h11
  · refine zi_iconst (v := 0) dX12_goesAlong_54 (by decide) ?_
    refine zi_goto (tgt := 72) dX12_goesAlong_55 (by decide) ?_
    refine zi_sub [0, 2] rfl ?_
    exact wb_X12_goesAlong_72 G n a0 a2 0 h11
set_option maxRecDepth 20000 in
set_option maxHeartbeats 1000000 in
theorem k_X12_small (G : zG) (n : Nat) (a0 : Int64) (h : zH) : zMet G yX12_small cX12_small 2 (some .int) zvI 1 [.long a0] h (f_X12_small n a0 h) := by
  refine zMet_of (l := [(0, .long a0)]) (by decide) (Nat.le_of_ble_eq_true rfl) rfl ?_
  unfold f_X12_small
  refine zi_lload_n dX12_small_0 rfl 0 rfl ?_
  refine zi_lconst (v := 0) dX12_small_1 (by decide) ?_
  refine zi_lcmp dX12_small_2 ?_
  refine zi_if_lt (tgt := 14) dX12_small_3 (by decide) ?_ ?_
  · refine zi_iconst (v := (-1)) dX12_small_14 (by decide) ?_
    refine zi_goto (tgt := 20) dX12_small_15 (by decide) ?_
    exact zi_retI dX12_small_20
  · refine zi_lload_n dX12_small_6 rfl 0 rfl ?_
    refine zi_ldc2 dX12_small_7 kl_X12_439 ?_
    refine zi_lcmp dX12_small_10 ?_
    refine zi_if_le (tgt := 18) dX12_small_11 (by decide) ?_ ?_
    · refine zi_lload_n dX12_small_18 rfl 0 rfl ?_
      refine zi_l2i dX12_small_19 ?_
      exact zi_retI dX12_small_20
    · refine zi_iconst (v := (-1)) dX12_small_14 (by decide) ?_
      refine zi_goto (tgt := 20) dX12_small_15 (by decide) ?_
      exact zi_retI dX12_small_20
set_option maxRecDepth 20000 in
set_option maxHeartbeats 1000000 in
theorem wb_X12_obeys_22 (G : zG) (n : Nat) (l0 : Nat) (s0 : Int32) (h : zH) : zW G yX12_obeys cX12_obeys 3 (some .int) zvI 96 22 [(0, .ref (zbase G + l0))] [.int s0] h (fb_X12_obeys_22 n l0 s0 h) := by
  unfold fb_X12_obeys_22
  refine zi_istore_n (l' := [(1, .int s0), (0, .ref (zbase G + l0))]) dX12_obeys_22 rfl (by decide) rfl ?_
  refine zi_aload_n dX12_obeys_23 rfl 1 rfl ?_
  refine zi_iload_n dX12_obeys_24 rfl 0 rfl ?_
  refine zi_aload_n dX12_obeys_25 rfl 1 rfl ?_
  refine zi_getR dX12_obeys_26 gf_X12_79 (fun v1 => ?_)
  refine zi_iconst (v := 0) dX12_obeys_29 (by decide) ?_
  refine zi_lald dX12_obeys_30 (fun v2 => ?_)
  refine zi_callSI (As := [.long v2]) (rest := [.int s0, .ref (zbase G + l0)]) dX12_obeys_31 ml_X12_441 md_X12_small ms_X12_small rfl rfl (Nat.le_of_ble_eq_true rfl) (Nat.le_of_ble_eq_true rfl) (k_X12_small G n v2 h) (fun r3 h4 => ?_)
  refine zi_aload_n dX12_obeys_34 rfl 1 rfl ?_
  refine zi_getR dX12_obeys_35 gf_X12_79 (fun v5 => ?_)
  refine zi_iconst (v := 1) dX12_obeys_38 (by decide) ?_
  refine zi_lald dX12_obeys_39 (fun v6 => ?_)
  refine zi_callSI (As := [.long v6]) (rest := [.int r3, .int s0, .ref (zbase G + l0)]) dX12_obeys_40 ml_X12_441 md_X12_small ms_X12_small rfl rfl (Nat.le_of_ble_eq_true rfl) (Nat.le_of_ble_eq_true rfl) (k_X12_small G n v6 h4) (fun r7 h8 => ?_)
  refine zi_callVI (As := [.int s0, .int r3, .int r7]) (rest := []) (ci := 12) dX12_obeys_43 ml_X12_388 md_X12_actsKept mv_X12_actsKept rfl (by decide) rfl rfl (Nat.le_of_ble_eq_true rfl) (Nat.le_of_ble_eq_true rfl) (k_X12_actsKept G n l0 s0 r3 r7 h8) (fun r9 h10 => ?_)
  refine zi_istore_n (l' := [(2, .int r9), (1, .int s0), (0, .ref (zbase G + l0))]) dX12_obeys_46 rfl (by decide) rfl ?_
  refine zi_aload_n dX12_obeys_47 rfl 2 rfl ?_
  refine zi_iload_n dX12_obeys_48 rfl 0 rfl ?_
  refine zi_if_ge (tgt := 59) dX12_obeys_49 (by decide) ?_ ?_
  · refine zi_iload_n dX12_obeys_59 rfl 0 rfl ?_
    refine zi_putI dX12_obeys_60 gf_X12_287 (fun h11 => ?_)
    refine zi_iload_n dX12_obeys_63 rfl 0 rfl ?_
    exact zi_retI dX12_obeys_64
  · refine zi_aload_n dX12_obeys_52 rfl 2 rfl ?_
    refine zi_getI dX12_obeys_53 gf_X12_287 (fun v12 => ?_)
    refine zi_goto (tgt := 60) dX12_obeys_56 (by decide) ?_
    refine zi_putI dX12_obeys_60 gf_X12_287 (fun h13 => ?_)
    refine zi_iload_n dX12_obeys_63 rfl 0 rfl ?_
    exact zi_retI dX12_obeys_64
set_option maxRecDepth 20000 in
set_option maxHeartbeats 1000000 in
theorem k_X12_obeys (G : zG) (n : Nat) (a0 : Nat) (h : zH) : zMet G yX12_obeys cX12_obeys 3 (some .int) zvI 96 [.ref (zbase G + a0)] h (f_X12_obeys n a0 h) := by
  refine zMet_of (l := [(0, .ref (zbase G + a0))]) (by decide) (Nat.le_of_ble_eq_true rfl) rfl ?_
  unfold f_X12_obeys
  refine zi_aload_n dX12_obeys_0 rfl 0 rfl ?_
  refine zi_getI dX12_obeys_1 gf_X12_427 (fun v1 => ?_)
  refine zi_bipush (v := 20) dX12_obeys_4 (by decide) ?_
  refine zi_icmp_ne (tgt := 13) dX12_obeys_6 (by decide) ?_ ?_
  · refine zi_aload_n dX12_obeys_13 rfl 0 rfl ?_
    refine zi_getI dX12_obeys_14 gf_X12_427 (fun v2 => ?_)
    refine zi_bipush (v := 22) dX12_obeys_17 (by decide) ?_
    refine zi_isub dX12_obeys_19 ?_
    refine zi_iconst (v := 1) dX12_obeys_20 (by decide) ?_
    refine zi_iadd dX12_obeys_21 ?_
    refine zi_sub [0] rfl ?_
    exact wb_X12_obeys_22 G n a0 ((v2 - 22) + 1) h
  · refine zi_iconst (v := 0) dX12_obeys_9 (by decide) ?_
    refine zi_goto (tgt := 22) dX12_obeys_10 (by decide) ?_
    refine zi_sub [0] rfl ?_
    exact wb_X12_obeys_22 G n a0 0 h
set_option maxRecDepth 20000 in
set_option maxHeartbeats 1000000 in
theorem wb_X12_runs_67 (G : zG) (n : Nat) (k19 : Nat → Int32 → Int32 → Int32 → Int32 → zH → Option (Int32 × zH)) (hk19 : ∀ (l0 : Nat) (l1 : Int32) (l2 : Int32) (l3 : Int32) (l4 : Int32) (h : zH), zW G yX12_runs cX12_runs 5 (some .boolean) zvI 97 19 [(0, .ref (zbase G + l0)), (1, .int l1), (2, .int l2), (3, .int l3), (4, .int l4)] [] h (k19 l0 l1 l2 l3 l4 h)) (l0 : Nat) (l1 : Int32) (l2 : Int32) (l3 : Int32) (l4 : Int32) (h : zH) : zW G yX12_runs cX12_runs 5 (some .boolean) zvI 97 67 [(0, .ref (zbase G + l0)), (1, .int l1), (2, .int l2), (3, .int l3), (4, .int l4)] [] h (fb_X12_runs_67 n k19 l0 l1 l2 l3 l4 h) := by
  unfold fb_X12_runs_67
  refine zi_iinc (j := 4) (v := l4 + 1) (l' := [(4, .int (l4 + 1)), (0, .ref (zbase G + l0)), (1, .int l1), (2, .int l2), (3, .int l3)]) dX12_runs_67 rfl rfl (by decide) rfl ?_
  refine zi_goto (tgt := 19) dX12_runs_70 (by decide) ?_
  refine zi_sub [1, 2, 3, 4, 0] rfl ?_
  exact hk19 l0 l1 l2 l3 (l4 + 1) h
set_option maxRecDepth 20000 in
set_option maxHeartbeats 1000000 in
theorem wb_X12_runs_19 (G : zG) (n : Nat) (k19 : Nat → Int32 → Int32 → Int32 → Int32 → zH → Option (Int32 × zH)) (hk19 : ∀ (l0 : Nat) (l1 : Int32) (l2 : Int32) (l3 : Int32) (l4 : Int32) (h : zH), zW G yX12_runs cX12_runs 5 (some .boolean) zvI 97 19 [(0, .ref (zbase G + l0)), (1, .int l1), (2, .int l2), (3, .int l3), (4, .int l4)] [] h (k19 l0 l1 l2 l3 l4 h)) (l0 : Nat) (l1 : Int32) (l2 : Int32) (l3 : Int32) (l4 : Int32) (h : zH) : zW G yX12_runs cX12_runs 5 (some .boolean) zvI 97 19 [(0, .ref (zbase G + l0)), (1, .int l1), (2, .int l2), (3, .int l3), (4, .int l4)] [] h (fb_X12_runs_19 n k19 l0 l1 l2 l3 l4 h) := by
  unfold fb_X12_runs_19
  refine zi_iload dX12_runs_19 4 rfl ?_
  refine zi_iload_n dX12_runs_21 rfl 2 rfl ?_
  refine zi_icmp_ge (tgt := 73) dX12_runs_22 (by decide) ?_ ?_
  · refine zi_aload_n dX12_runs_73 rfl 0 rfl ?_
    refine zi_iload_n dX12_runs_74 rfl 3 rfl ?_
    refine zi_putI dX12_runs_75 gf_X12_418 (fun h1 => ?_)
    refine zi_iconst (v := 1) dX12_runs_78 (by decide) ?_
    exact zi_ret1 dX12_runs_79
  · refine zi_aload_n dX12_runs_25 rfl 0 rfl ?_
    refine zi_iload_n dX12_runs_26 rfl 1 rfl ?_
    refine zi_iconst (v := 1) dX12_runs_27 (by decide) ?_
    refine zi_callVU (As := [.int l1, .int 1]) (rest := []) (ci := 12) dX12_runs_28 ml_X12_445 md_X12_goesAlong mv_X12_goesAlong rfl (by decide) rfl rfl (Nat.le_of_ble_eq_true rfl) (Nat.le_of_ble_eq_true rfl) (k_X12_goesAlong G n l0 l1 1 h) (fun _ h3 => ?_)
    refine zi_aload_n dX12_runs_31 rfl 0 rfl ?_
    refine zi_getZ dX12_runs_32 gf_X12_436 (fun v4 => ?_)
    refine zi_if_ne (tgt := 41) dX12_runs_35 (by decide) ?_ ?_
    · refine zi_aload_n dX12_runs_41 rfl 0 rfl ?_
      refine zi_getZ dX12_runs_42 gf_X12_430 (fun v5 => ?_)
      refine zi_if_eq (tgt := 55) dX12_runs_45 (by decide) ?_ ?_
      · refine zi_iconst (v := 0) dX12_runs_55 (by decide) ?_
        exact zi_ret0 dX12_runs_56
      · refine zi_aload_n dX12_runs_48 rfl 0 rfl ?_
        refine zi_callVI (As := []) (rest := []) (ci := 12) dX12_runs_49 ml_X12_449 md_X12_obeys mv_X12_obeys rfl (by decide) rfl rfl (Nat.le_of_ble_eq_true rfl) (Nat.le_of_ble_eq_true rfl) (k_X12_obeys G n l0 h3) (fun r6 h7 => ?_)
        refine zi_if_ge (tgt := 57) dX12_runs_52 (by decide) ?_ ?_
        · refine zi_aload_n dX12_runs_57 rfl 0 rfl ?_
          refine zi_dup dX12_runs_58 rfl ?_
          refine zi_getI dX12_runs_59 gf_X12_284 (fun v8 => ?_)
          refine zi_iconst (v := 1) dX12_runs_62 (by decide) ?_
          refine zi_iadd dX12_runs_63 ?_
          refine zi_putI dX12_runs_64 gf_X12_284 (fun h9 => ?_)
          refine zi_sub [0, 1, 2, 3, 4] rfl ?_
          exact wb_X12_runs_67 G n k19 hk19 l0 l1 l2 l3 l4 h9
        · refine zi_iconst (v := 0) dX12_runs_55 (by decide) ?_
          exact zi_ret0 dX12_runs_56
    · refine zi_goto (tgt := 67) dX12_runs_38 (by decide) ?_
      refine zi_sub [0, 1, 2, 3, 4] rfl ?_
      exact wb_X12_runs_67 G n k19 hk19 l0 l1 l2 l3 l4 h3
theorem wl_X12_runs_19 (G : zG) (n : Nat) : ∀ (t : Nat) (l0 : Nat) (l1 : Int32) (l2 : Int32) (l3 : Int32) (l4 : Int32) (h : zH), zW G yX12_runs cX12_runs 5 (some .boolean) zvI 97 19 [(0, .ref (zbase G + l0)), (1, .int l1), (2, .int l2), (3, .int l3), (4, .int l4)] [] h (zlp5 (fb_X12_runs_19 n ) t l0 l1 l2 l3 l4 h) := by
  intro t
  induction t with
  | zero => intros; exact zW_none
  | succ t ih => intro l0 l1 l2 l3 l4 h; rw [zlp5_s]; exact wb_X12_runs_19 G n  _  ih l0 l1 l2 l3 l4 h
set_option maxRecDepth 20000 in
set_option maxHeartbeats 1000000 in
theorem k_X12_runs (G : zG) (n : Nat) (a0 : Nat) (a1 : Int32) (h : zH) : zMet G yX12_runs cX12_runs 5 (some .boolean) zvI 97 [.ref (zbase G + a0), .int a1] h (f_X12_runs n a0 a1 h) := by
  refine zMet_of (l := [(0, .ref (zbase G + a0)), (1, .int a1)]) (by decide) (Nat.le_of_ble_eq_true rfl) rfl ?_
  unfold f_X12_runs
  refine zi_aload_n dX12_runs_0 rfl 0 rfl ?_
  refine zi_iload_n dX12_runs_1 rfl 1 rfl ?_
  refine zi_iconst (v := 0) dX12_runs_2 (by decide) ?_
  refine zi_callVU (As := [.int a1, .int 0]) (rest := []) (ci := 12) dX12_runs_3 ml_X12_445 md_X12_goesAlong mv_X12_goesAlong rfl (by decide) rfl rfl (Nat.le_of_ble_eq_true rfl) (Nat.le_of_ble_eq_true rfl) (k_X12_goesAlong G n a0 a1 0 h) (fun _ h2 => ?_)
  refine zi_aload_n dX12_runs_6 rfl 0 rfl ?_
  refine zi_getI dX12_runs_7 gf_X12_433 (fun v3 => ?_)
  refine zi_istore_n (l' := [(2, .int v3), (0, .ref (zbase G + a0)), (1, .int a1)]) dX12_runs_10 rfl (by decide) rfl ?_
  refine zi_aload_n dX12_runs_11 rfl 1 rfl ?_
  refine zi_getI dX12_runs_12 gf_X12_248 (fun v4 => ?_)
  refine zi_istore_n (l' := [(3, .int v4), (2, .int v3), (0, .ref (zbase G + a0)), (1, .int a1)]) dX12_runs_15 rfl (by decide) rfl ?_
  refine zi_iconst (v := 0) dX12_runs_16 (by decide) ?_
  refine zi_istore (l' := [(4, .int 0), (3, .int v4), (2, .int v3), (0, .ref (zbase G + a0)), (1, .int a1)]) dX12_runs_17 (by decide) rfl ?_
  refine zi_sub [3, 4, 2, 1, 0] rfl ?_
  exact wl_X12_runs_19 G n n a0 a1 v3 v4 0 h2
set_option maxRecDepth 20000 in
set_option maxHeartbeats 1000000 in
theorem wb_X12_orders_174 (G : zG) (n : Nat) (l0 : Nat) (h : zH) : zW G yX12_orders cX12_orders 5 (some .int) zvI 98 174 [(0, .ref (zbase G + l0))] [] h (fb_X12_orders_174 n l0 h) := by
  unfold fb_X12_orders_174
  refine zi_aload_n dX12_orders_174 rfl 0 rfl ?_
  refine zi_aload_n dX12_orders_175 rfl 0 rfl ?_
  refine zi_getI dX12_orders_176 gf_X12_284 (fun v1 => ?_)
  refine zi_callVI (As := [.int v1]) (rest := []) (ci := 12) dX12_orders_179 ml_X12_14 md_X12_good mv_X12_good rfl (by decide) rfl rfl (Nat.le_of_ble_eq_true rfl) (Nat.le_of_ble_eq_true rfl) (k_X12_good G n l0 v1 h) (fun r2 h3 => ?_)
  exact zi_retI dX12_orders_182
set_option maxRecDepth 20000 in
set_option maxHeartbeats 1000000 in
theorem wb_X12_orders_151 (G : zG) (n : Nat) (l0 : Nat) (l1 : Int32) (l3 : Int32) (h : zH) : zW G yX12_orders cX12_orders 5 (some .int) zvI 98 151 [(0, .ref (zbase G + l0)), (1, .int l1), (3, .int l3)] [] h (fb_X12_orders_151 n l0 l1 l3 h) := by
  unfold fb_X12_orders_151
  refine zi_aload_n dX12_orders_151 rfl 0 rfl ?_
  refine zi_iload_n dX12_orders_152 rfl 1 rfl ?_
  refine zi_putI dX12_orders_153 gf_X12_11 (fun h1 => ?_)
  refine zi_aload_n dX12_orders_156 rfl 0 rfl ?_
  refine zi_iload_n dX12_orders_157 rfl 2 rfl ?_
  refine zi_putI dX12_orders_158 gf_X12_76 (fun h2 => ?_)
  refine zi_aload_n dX12_orders_161 rfl 0 rfl ?_
  refine zi_bipush (v := (-3)) dX12_orders_162 (by decide) ?_
  refine zi_callVI (As := [.int (-3)]) (rest := []) (ci := 12) dX12_orders_164 ml_X12_85 md_X12_refuses mv_X12_refuses rfl (by decide) rfl rfl (Nat.le_of_ble_eq_true rfl) (Nat.le_of_ble_eq_true rfl) (k_X12_refuses G n l0 (-3) h2) (fun r3 h4 => ?_)
  exact zi_retI dX12_orders_167
set_option maxRecDepth 20000 in
set_option maxHeartbeats 1000000 in
theorem wb_X12_orders_123 (G : zG) (n : Nat) (k123 : Nat → Int32 → Int32 → Int32 → zH → Option (Int32 × zH)) (hk123 : ∀ (l0 : Nat) (l1 : Int32) (l3 : Int32) (l4 : Int32) (h : zH), zW G yX12_orders cX12_orders 5 (some .int) zvI 98 123 [(0, .ref (zbase G + l0)), (1, .int l1), (3, .int l3), (4, .int l4)] [] h (k123 l0 l1 l3 l4 h)) (l0 : Nat) (l1 : Int32) (l3 : Int32) (l4 : Int32) (h : zH) : zW G yX12_orders cX12_orders 5 (some .int) zvI 98 123 [(0, .ref (zbase G + l0)), (1, .int l1), (3, .int l3), (4, .int l4)] [] h (fb_X12_orders_123 n k123 l0 l1 l3 l4 h) := by
  unfold fb_X12_orders_123
  refine zi_iload dX12_orders_123 3 rfl ?_
  refine zi_sipush (v := 3072) dX12_orders_125 (by decide) ?_
  refine zi_icmp_ge (tgt := 151) dX12_orders_128 (by decide) ?_ ?_
  · refine zi_sub [0, 1, 2] rfl ?_
    exact wb_X12_orders_151 G n l0 l1 l3 h
  · refine zi_aload_n dX12_orders_131 rfl 0 rfl ?_
    refine zi_getR dX12_orders_132 gf_X12_66 (fun v1 => ?_)
    refine zi_iload dX12_orders_135 3 rfl ?_
    refine zi_aload_n dX12_orders_137 rfl 0 rfl ?_
    refine zi_getR dX12_orders_138 gf_X12_69 (fun v2 => ?_)
    refine zi_iload dX12_orders_141 3 rfl ?_
    refine zi_iald dX12_orders_143 (fun v3 => ?_)
    refine zi_iast dX12_orders_144 (fun h4 => ?_)
    refine zi_iinc (j := 3) (v := l4 + 1) (l' := [(4, .int (l4 + 1)), (0, .ref (zbase G + l0)), (1, .int l1), (3, .int l3)]) dX12_orders_145 rfl rfl (by decide) rfl ?_
    refine zi_goto (tgt := 123) dX12_orders_148 (by decide) ?_
    refine zi_sub [1, 2, 3, 0] rfl ?_
    exact hk123 l0 l1 l3 (l4 + 1) h4
theorem wl_X12_orders_123 (G : zG) (n : Nat) : ∀ (t : Nat) (l0 : Nat) (l1 : Int32) (l3 : Int32) (l4 : Int32) (h : zH), zW G yX12_orders cX12_orders 5 (some .int) zvI 98 123 [(0, .ref (zbase G + l0)), (1, .int l1), (3, .int l3), (4, .int l4)] [] h (zlp4 (fb_X12_orders_123 n ) t l0 l1 l3 l4 h) := by
  intro t
  induction t with
  | zero => intros; exact zW_none
  | succ t ih => intro l0 l1 l3 l4 h; rw [zlp4_s]; exact wb_X12_orders_123 G n  _  ih l0 l1 l3 l4 h
set_option maxRecDepth 20000 in
set_option maxHeartbeats 1000000 in
theorem wb_X12_orders_115 (G : zG) (n : Nat) (l0 : Nat) (l1 : Int32) (l3 : Int32) (h : zH) : zW G yX12_orders cX12_orders 5 (some .int) zvI 98 115 [(0, .ref (zbase G + l0)), (1, .int l1), (3, .int l3)] [] h (fb_X12_orders_115 n l0 l1 l3 h) := by
  unfold fb_X12_orders_115
  refine zi_aload_n dX12_orders_115 rfl 0 rfl ?_
  refine zi_iconst (v := 1) dX12_orders_116 (by decide) ?_
  refine zi_callVU (As := [.int 1]) (rest := []) (ci := 12) dX12_orders_117 ml_X12_424 md_X12_takesBack mv_X12_takesBack rfl (by decide) rfl rfl (Nat.le_of_ble_eq_true rfl) (Nat.le_of_ble_eq_true rfl) (k_X12_takesBack G n l0 1 h) (fun _ h2 => ?_)
  refine zi_iconst (v := 0) dX12_orders_120 (by decide) ?_
  refine zi_istore (l' := [(4, .int 0), (0, .ref (zbase G + l0)), (1, .int l1), (3, .int l3)]) dX12_orders_121 (by decide) rfl ?_
  refine zi_sub [1, 2, 3, 0] rfl ?_
  exact wl_X12_orders_123 G n n l0 l1 l3 0 h2
set_option maxRecDepth 20000 in
set_option maxHeartbeats 1000000 in
theorem wb_X12_orders_96 (G : zG) (n : Nat) (k96 : Nat → Int32 → Int32 → Int32 → zH → Option (Int32 × zH)) (hk96 : ∀ (l0 : Nat) (l1 : Int32) (l2 : Int32) (l3 : Int32) (h : zH), zW G yX12_orders cX12_orders 5 (some .int) zvI 98 96 [(0, .ref (zbase G + l0)), (1, .int l1), (2, .int l2), (3, .int l3)] [] h (k96 l0 l1 l2 l3 h)) (l0 : Nat) (l1 : Int32) (l2 : Int32) (l3 : Int32) (h : zH) : zW G yX12_orders cX12_orders 5 (some .int) zvI 98 96 [(0, .ref (zbase G + l0)), (1, .int l1), (2, .int l2), (3, .int l3)] [] h (fb_X12_orders_96 n k96 l0 l1 l2 l3 h) := by
  unfold fb_X12_orders_96
  refine zi_aload_n dX12_orders_96 rfl 0 rfl ?_
  refine zi_getI dX12_orders_97 gf_X12_418 (fun v1 => ?_)
  refine zi_iload_n dX12_orders_100 rfl 2 rfl ?_
  refine zi_icmp_ge (tgt := 174) dX12_orders_101 (by decide) ?_ ?_
  · refine zi_sub [0] rfl ?_
    exact wb_X12_orders_174 G n l0 h
  · refine zi_aload_n dX12_orders_104 rfl 0 rfl ?_
    refine zi_iload_n dX12_orders_105 rfl 2 rfl ?_
    refine zi_callVI (As := [.int l2]) (rest := []) (ci := 12) dX12_orders_106 ml_X12_421 md_X12_runs mv_X12_runs rfl (by decide) rfl rfl (Nat.le_of_ble_eq_true rfl) (Nat.le_of_ble_eq_true rfl) (k_X12_runs G n l0 l2 h) (fun r2 h3 => ?_)
    refine zi_if_eq (tgt := 115) dX12_orders_109 (by decide) ?_ ?_
    · refine zi_sub [0, 1, 3] rfl ?_
      exact wb_X12_orders_115 G n l0 l1 l3 h3
    · refine zi_goto (tgt := 168) dX12_orders_112 (by decide) ?_
      refine zi_iinc (j := 3) (v := l3 + 1) (l' := [(3, .int (l3 + 1)), (0, .ref (zbase G + l0)), (1, .int l1), (2, .int l2)]) dX12_orders_168 rfl rfl (by decide) rfl ?_
      refine zi_goto (tgt := 96) dX12_orders_171 (by decide) ?_
      refine zi_sub [1, 2, 3, 0] rfl ?_
      exact hk96 l0 l1 l2 (l3 + 1) h3
theorem wl_X12_orders_96 (G : zG) (n : Nat) : ∀ (t : Nat) (l0 : Nat) (l1 : Int32) (l2 : Int32) (l3 : Int32) (h : zH), zW G yX12_orders cX12_orders 5 (some .int) zvI 98 96 [(0, .ref (zbase G + l0)), (1, .int l1), (2, .int l2), (3, .int l3)] [] h (zlp4 (fb_X12_orders_96 n ) t l0 l1 l2 l3 h) := by
  intro t
  induction t with
  | zero => intros; exact zW_none
  | succ t ih => intro l0 l1 l2 l3 h; rw [zlp4_s]; exact wb_X12_orders_96 G n  _  ih l0 l1 l2 l3 h
set_option maxRecDepth 20000 in
set_option maxHeartbeats 1000000 in
theorem wb_X12_orders_52 (G : zG) (n : Nat) (l0 : Nat) (h : zH) : zW G yX12_orders cX12_orders 5 (some .int) zvI 98 52 [(0, .ref (zbase G + l0))] [] h (fb_X12_orders_52 n l0 h) := by
  unfold fb_X12_orders_52
  refine zi_aload_n dX12_orders_52 rfl 0 rfl ?_
  refine zi_getI dX12_orders_53 gf_X12_11 (fun v1 => ?_)
  refine zi_istore_n (l' := [(1, .int v1), (0, .ref (zbase G + l0))]) dX12_orders_56 rfl (by decide) rfl ?_
  refine zi_aload_n dX12_orders_57 rfl 1 rfl ?_
  refine zi_bipush (v := 6) dX12_orders_58 (by decide) ?_
  refine zi_callVU (As := [.int 6]) (rest := []) (ci := 12) dX12_orders_60 ml_X12_239 md_X12_lays mv_X12_lays rfl (by decide) rfl rfl (Nat.le_of_ble_eq_true rfl) (Nat.le_of_ble_eq_true rfl) (k_X12_lays G n l0 6 h) (fun _ h3 => ?_)
  refine zi_aload_n dX12_orders_63 rfl 1 rfl ?_
  refine zi_iconst (v := 0) dX12_orders_64 (by decide) ?_
  refine zi_putI dX12_orders_65 gf_X12_284 (fun h4 => ?_)
  refine zi_aload_n dX12_orders_68 rfl 1 rfl ?_
  refine zi_iconst (v := (-1)) dX12_orders_69 (by decide) ?_
  refine zi_putI dX12_orders_70 gf_X12_287 (fun h5 => ?_)
  refine zi_aload_n dX12_orders_73 rfl 1 rfl ?_
  refine zi_sipush (v := 2400) dX12_orders_74 (by decide) ?_
  refine zi_putI dX12_orders_77 gf_X12_418 (fun h6 => ?_)
  refine zi_aload_n dX12_orders_80 rfl 1 rfl ?_
  refine zi_getI dX12_orders_81 gf_X12_418 (fun v7 => ?_)
  refine zi_aload_n dX12_orders_84 rfl 1 rfl ?_
  refine zi_getR dX12_orders_85 gf_X12_28 (fun v8 => ?_)
  refine zi_sipush (v := 214) dX12_orders_88 (by decide) ?_
  refine zi_iald dX12_orders_91 (fun v9 => ?_)
  refine zi_iadd dX12_orders_92 ?_
  refine zi_let (sf := fun x10 => .int x10 :: []) (fun x10 => ?_)
  refine zi_istore_n (l' := [(2, .int x10), (1, .int v1), (0, .ref (zbase G + l0))]) dX12_orders_93 rfl (by decide) rfl ?_
  refine zi_iconst (v := 0) dX12_orders_94 (by decide) ?_
  refine zi_istore_n (l' := [(3, .int 0), (2, .int x10), (1, .int v1), (0, .ref (zbase G + l0))]) dX12_orders_95 rfl (by decide) rfl ?_
  refine zi_sub [3, 2, 1, 0] rfl ?_
  exact wl_X12_orders_96 G n n l0 v1 x10 0 h6
set_option maxRecDepth 20000 in
set_option maxHeartbeats 1000000 in
theorem wb_X12_orders_27 (G : zG) (n : Nat) (k27 : Nat → Int32 → zH → Option (Int32 × zH)) (hk27 : ∀ (l0 : Nat) (l1 : Int32) (h : zH), zW G yX12_orders cX12_orders 5 (some .int) zvI 98 27 [(0, .ref (zbase G + l0)), (1, .int l1)] [] h (k27 l0 l1 h)) (l0 : Nat) (l1 : Int32) (h : zH) : zW G yX12_orders cX12_orders 5 (some .int) zvI 98 27 [(0, .ref (zbase G + l0)), (1, .int l1)] [] h (fb_X12_orders_27 n k27 l0 l1 h) := by
  unfold fb_X12_orders_27
  refine zi_iload_n dX12_orders_27 rfl 1 rfl ?_
  refine zi_sipush (v := 3072) dX12_orders_28 (by decide) ?_
  refine zi_icmp_ge (tgt := 52) dX12_orders_31 (by decide) ?_ ?_
  · refine zi_sub [0] rfl ?_
    exact wb_X12_orders_52 G n l0 h
  · refine zi_aload_n dX12_orders_34 rfl 0 rfl ?_
    refine zi_getR dX12_orders_35 gf_X12_69 (fun v1 => ?_)
    refine zi_iload_n dX12_orders_38 rfl 1 rfl ?_
    refine zi_aload_n dX12_orders_39 rfl 0 rfl ?_
    refine zi_getR dX12_orders_40 gf_X12_66 (fun v2 => ?_)
    refine zi_iload_n dX12_orders_43 rfl 1 rfl ?_
    refine zi_iald dX12_orders_44 (fun v3 => ?_)
    refine zi_iast dX12_orders_45 (fun h4 => ?_)
    refine zi_iinc (j := 1) (v := l1 + 1) (l' := [(1, .int (l1 + 1)), (0, .ref (zbase G + l0))]) dX12_orders_46 rfl rfl (by decide) rfl ?_
    refine zi_goto (tgt := 27) dX12_orders_49 (by decide) ?_
    refine zi_sub [1, 0] rfl ?_
    exact hk27 l0 (l1 + 1) h4
theorem wl_X12_orders_27 (G : zG) (n : Nat) : ∀ (t : Nat) (l0 : Nat) (l1 : Int32) (h : zH), zW G yX12_orders cX12_orders 5 (some .int) zvI 98 27 [(0, .ref (zbase G + l0)), (1, .int l1)] [] h (zlp2 (fb_X12_orders_27 n ) t l0 l1 h) := by
  intro t
  induction t with
  | zero => intros; exact zW_none
  | succ t ih => intro l0 l1 h; rw [zlp2_s]; exact wb_X12_orders_27 G n  _  ih l0 l1 h
set_option maxRecDepth 20000 in
set_option maxHeartbeats 1000000 in
theorem k_X12_orders (G : zG) (n : Nat) (a0 : Nat) (h : zH) : zMet G yX12_orders cX12_orders 5 (some .int) zvI 98 [.ref (zbase G + a0)] h (f_X12_orders n a0 h) := by
  refine zMet_of (l := [(0, .ref (zbase G + a0))]) (by decide) (Nat.le_of_ble_eq_true rfl) rfl ?_
  unfold f_X12_orders
  refine zi_aload_n dX12_orders_0 rfl 0 rfl ?_
  refine zi_iconst (v := (-1)) dX12_orders_1 (by decide) ?_
  refine zi_putI dX12_orders_2 gf_X12_76 (fun h1 => ?_)
  refine zi_aload_n dX12_orders_5 rfl 0 rfl ?_
  refine zi_iconst (v := 1) dX12_orders_6 (by decide) ?_
  refine zi_callVI (As := [.int 1]) (rest := []) (ci := 12) dX12_orders_7 ml_X12_235 md_X12_readsAs mv_X12_readsAs rfl (by decide) rfl rfl (Nat.le_of_ble_eq_true rfl) (Nat.le_of_ble_eq_true rfl) (k_X12_readsAs G n a0 1 h1) (fun r2 h3 => ?_)
  refine zi_if_ne (tgt := 20) dX12_orders_10 (by decide) ?_ ?_
  · refine zi_aload_n dX12_orders_20 rfl 0 rfl ?_
    refine zi_iconst (v := 1) dX12_orders_21 (by decide) ?_
    refine zi_callVU (As := [.int 1]) (rest := []) (ci := 12) dX12_orders_22 ml_X12_378 md_X12_laysAside mv_X12_laysAside rfl (by decide) rfl rfl (Nat.le_of_ble_eq_true rfl) (Nat.le_of_ble_eq_true rfl) (k_X12_laysAside G n a0 1 h3) (fun _ h5 => ?_)
    refine zi_iconst (v := 0) dX12_orders_25 (by decide) ?_
    refine zi_istore_n (l' := [(1, .int 0), (0, .ref (zbase G + a0))]) dX12_orders_26 rfl (by decide) rfl ?_
    refine zi_sub [1, 0] rfl ?_
    exact wl_X12_orders_27 G n n a0 0 h5
  · refine zi_aload_n dX12_orders_13 rfl 0 rfl ?_
    refine zi_bipush (v := (-6)) dX12_orders_14 (by decide) ?_
    refine zi_callVI (As := [.int (-6)]) (rest := []) (ci := 12) dX12_orders_16 ml_X12_85 md_X12_refuses mv_X12_refuses rfl (by decide) rfl rfl (Nat.le_of_ble_eq_true rfl) (Nat.le_of_ble_eq_true rfl) (k_X12_refuses G n a0 (-6) h3) (fun r6 h7 => ?_)
    exact zi_retI dX12_orders_19
set_option maxRecDepth 20000 in
set_option maxHeartbeats 1000000 in
theorem k_X12_draws (G : zG) (n : Nat) (a0 : Nat) (a1 : Int32) (h : zH) : zMet G yX12_draws cX12_draws 2 (some .int) zvI 1 [.ref (zbase G + a0), .int a1] h (f_X12_draws n a0 a1 h) := by
  refine zMet_of (l := [(0, .ref (zbase G + a0)), (1, .int a1)]) (by decide) (Nat.le_of_ble_eq_true rfl) rfl ?_
  unfold f_X12_draws
  refine zi_aload_n dX12_draws_0 rfl 0 rfl ?_
  refine zi_ldc2 dX12_draws_1 kl_X12_452 ?_
  refine zi_aload_n dX12_draws_4 rfl 0 rfl ?_
  refine zi_getI dX12_draws_5 gf_X12_454 (fun v1 => ?_)
  refine zi_i2l dX12_draws_8 ?_
  refine zi_lmul dX12_draws_9 ?_
  refine zi_ldc2 dX12_draws_10 kl_X12_457 ?_
  refine zi_ladd dX12_draws_13 ?_
  refine zi_ldc2 dX12_draws_14 kl_X12_459 ?_
  refine zi_lrem dX12_draws_17 (by decide) ?_
  refine zi_l2i dX12_draws_18 ?_
  refine zi_putI dX12_draws_19 gf_X12_454 (fun h2 => ?_)
  refine zi_aload_n dX12_draws_22 rfl 0 rfl ?_
  refine zi_getI dX12_draws_23 gf_X12_454 (fun v3 => ?_)
  refine zi_iload_n dX12_draws_26 rfl 1 rfl ?_
  refine zi_iremz dX12_draws_27 ?_
  exact zi_retI dX12_draws_28
set_option maxRecDepth 20000 in
set_option maxHeartbeats 1000000 in
theorem k_X12_drawnAct (G : zG) (n : Nat) (a0 : Nat) (h : zH) : zMet G yX12_drawnAct cX12_drawnAct 4 none zvU 95 [.ref (zbase G + a0)] h (f_X12_drawnAct n a0 h) := by
  refine zMet_of (l := [(0, .ref (zbase G + a0))]) (by decide) (Nat.le_of_ble_eq_true rfl) rfl ?_
  unfold f_X12_drawnAct
  refine zi_aload_n dX12_drawnAct_0 rfl 0 rfl ?_
  refine zi_bipush (v := 8) dX12_drawnAct_1 (by decide) ?_
  refine zi_callVI (As := [.int 8]) (rest := []) (ci := 12) dX12_drawnAct_3 ml_X12_461 md_X12_draws mv_X12_draws rfl (by decide) rfl rfl (Nat.le_of_ble_eq_true rfl) (Nat.le_of_ble_eq_true rfl) (k_X12_draws G n a0 8 h) (fun r1 h2 => ?_)
  refine zi_istore_n (l' := [(1, .int r1), (0, .ref (zbase G + a0))]) dX12_drawnAct_6 rfl (by decide) rfl ?_
  refine zi_aload_n dX12_drawnAct_7 rfl 1 rfl ?_
  refine zi_bipush (v := 6) dX12_drawnAct_8 (by decide) ?_
  refine zi_callVI (As := [.int 6]) (rest := []) (ci := 12) dX12_drawnAct_10 ml_X12_461 md_X12_draws mv_X12_draws rfl (by decide) rfl rfl (Nat.le_of_ble_eq_true rfl) (Nat.le_of_ble_eq_true rfl) (k_X12_draws G n a0 6 h2) (fun r3 h4 => ?_)
  refine zi_istore_n (l' := [(2, .int r3), (1, .int r1), (0, .ref (zbase G + a0))]) dX12_drawnAct_13 rfl (by decide) rfl ?_
  refine zi_aload_n dX12_drawnAct_14 rfl 2 rfl ?_
  refine zi_bipush (v := 9) dX12_drawnAct_15 (by decide) ?_
  refine zi_callVI (As := [.int 9]) (rest := []) (ci := 12) dX12_drawnAct_17 ml_X12_461 md_X12_draws mv_X12_draws rfl (by decide) rfl rfl (Nat.le_of_ble_eq_true rfl) (Nat.le_of_ble_eq_true rfl) (k_X12_draws G n a0 9 h4) (fun r5 h6 => ?_)
  refine zi_istore_n (l' := [(3, .int r5), (2, .int r3), (1, .int r1), (0, .ref (zbase G + a0))]) dX12_drawnAct_20 rfl (by decide) rfl ?_
  refine zi_iload_n dX12_drawnAct_21 rfl 0 rfl ?_
  refine zi_lsw (tgt := 70) _ dX12_drawnAct_22 (by decide) rfl (by decide) ?_ ?_
  · simp only [List.forall_mem_cons, List.not_mem_nil, false_implies, implies_true, and_true]
    refine ⟨?_, ?_⟩
    · refine zi_aload_n dX12_drawnAct_48 rfl 3 rfl ?_
      refine zi_iconst (v := 0) dX12_drawnAct_49 (by decide) ?_
      refine zi_iload_n dX12_drawnAct_50 rfl 1 rfl ?_
      refine zi_iload_n dX12_drawnAct_51 rfl 2 rfl ?_
      refine zi_callVI (As := [.int 0, .int r3, .int r1]) (rest := []) (ci := 12) dX12_drawnAct_52 ml_X12_381 md_X12_acts mv_X12_acts rfl (by decide) rfl rfl (Nat.le_of_ble_eq_true rfl) (Nat.le_of_ble_eq_true rfl) (k_X12_acts G n a0 0 r3 r1 h6) (fun r7 h8 => ?_)
      refine zi_pop dX12_drawnAct_55 rfl ?_
      refine zi_goto (tgt := 78) dX12_drawnAct_56 (by decide) ?_
      exact zi_retV dX12_drawnAct_78
    · refine zi_aload_n dX12_drawnAct_59 rfl 3 rfl ?_
      refine zi_iconst (v := 1) dX12_drawnAct_60 (by decide) ?_
      refine zi_iload_n dX12_drawnAct_61 rfl 1 rfl ?_
      refine zi_iconst (v := 0) dX12_drawnAct_62 (by decide) ?_
      refine zi_callVI (As := [.int 1, .int r3, .int 0]) (rest := []) (ci := 12) dX12_drawnAct_63 ml_X12_381 md_X12_acts mv_X12_acts rfl (by decide) rfl rfl (Nat.le_of_ble_eq_true rfl) (Nat.le_of_ble_eq_true rfl) (k_X12_acts G n a0 1 r3 0 h6) (fun r9 h10 => ?_)
      refine zi_pop dX12_drawnAct_66 rfl ?_
      refine zi_goto (tgt := 78) dX12_drawnAct_67 (by decide) ?_
      exact zi_retV dX12_drawnAct_78
  · refine zi_aload_n dX12_drawnAct_70 rfl 3 rfl ?_
    refine zi_iload_n dX12_drawnAct_71 rfl 0 rfl ?_
    refine zi_iload_n dX12_drawnAct_72 rfl 2 rfl ?_
    refine zi_iconst (v := 0) dX12_drawnAct_73 (by decide) ?_
    refine zi_callVI (As := [.int r5, .int r1, .int 0]) (rest := []) (ci := 12) dX12_drawnAct_74 ml_X12_381 md_X12_acts mv_X12_acts rfl (by decide) rfl rfl (Nat.le_of_ble_eq_true rfl) (Nat.le_of_ble_eq_true rfl) (k_X12_acts G n a0 r5 r1 0 h6) (fun r11 h12 => ?_)
    refine zi_pop dX12_drawnAct_77 rfl ?_
    exact zi_retV dX12_drawnAct_78
set_option maxRecDepth 20000 in
set_option maxHeartbeats 1000000 in
theorem k_X12_endedMany (G : zG) (n : Nat) (a0 : Nat) (h : zH) : zMet G yX12_endedMany cX12_endedMany 1 (some .int) zvI 1 [.ref (zbase G + a0)] h (f_X12_endedMany n a0 h) := by
  refine zMet_of (l := [(0, .ref (zbase G + a0))]) (by decide) (Nat.le_of_ble_eq_true rfl) rfl ?_
  unfold f_X12_endedMany
  refine zi_aload_n dX12_endedMany_0 rfl 0 rfl ?_
  refine zi_getR dX12_endedMany_1 gf_X12_28 (fun v1 => ?_)
  refine zi_sipush (v := 130) dX12_endedMany_4 (by decide) ?_
  refine zi_iald dX12_endedMany_7 (fun v2 => ?_)
  refine zi_aload_n dX12_endedMany_8 rfl 0 rfl ?_
  refine zi_getR dX12_endedMany_9 gf_X12_28 (fun v3 => ?_)
  refine zi_sipush (v := 129) dX12_endedMany_12 (by decide) ?_
  refine zi_iald dX12_endedMany_15 (fun v4 => ?_)
  refine zi_isub dX12_endedMany_16 ?_
  exact zi_retI dX12_endedMany_17
set_option maxRecDepth 20000 in
set_option maxHeartbeats 1000000 in
theorem wb_X12_days_20 (G : zG) (n : Nat) (l0 : Nat) (h : zH) : zW G yX12_days cX12_days 6 (some .int) zvI 96 20 [(0, .ref (zbase G + l0))] [] h (fb_X12_days_20 n l0 h) := by
  unfold fb_X12_days_20
  refine zi_aload_n dX12_days_20 rfl 0 rfl ?_
  refine zi_iconst (v := (-1)) dX12_days_21 (by decide) ?_
  refine zi_callVI (As := [.int (-1)]) (rest := []) (ci := 12) dX12_days_22 ml_X12_85 md_X12_refuses mv_X12_refuses rfl (by decide) rfl rfl (Nat.le_of_ble_eq_true rfl) (Nat.le_of_ble_eq_true rfl) (k_X12_refuses G n l0 (-1) h) (fun r1 h2 => ?_)
  exact zi_retI dX12_days_25
set_option maxRecDepth 20000 in
set_option maxHeartbeats 1000000 in
theorem wb_X12_days_105 (G : zG) (n : Nat) (l0 : Nat) (l4 : Int32) (h : zH) : zW G yX12_days cX12_days 6 (some .int) zvI 96 105 [(0, .ref (zbase G + l0)), (4, .int l4)] [] h (fb_X12_days_105 n l0 l4 h) := by
  unfold fb_X12_days_105
  refine zi_aload_n dX12_days_105 rfl 0 rfl ?_
  refine zi_iconst (v := 0) dX12_days_106 (by decide) ?_
  refine zi_callVU (As := [.int 0]) (rest := []) (ci := 12) dX12_days_107 ml_X12_424 md_X12_takesBack mv_X12_takesBack rfl (by decide) rfl rfl (Nat.le_of_ble_eq_true rfl) (Nat.le_of_ble_eq_true rfl) (k_X12_takesBack G n l0 0 h) (fun _ h2 => ?_)
  refine zi_aload_n dX12_days_110 rfl 0 rfl ?_
  refine zi_iload dX12_days_111 1 rfl ?_
  refine zi_callVI (As := [.int l4]) (rest := []) (ci := 12) dX12_days_113 ml_X12_14 md_X12_good mv_X12_good rfl (by decide) rfl rfl (Nat.le_of_ble_eq_true rfl) (Nat.le_of_ble_eq_true rfl) (k_X12_good G n l0 l4 h2) (fun r3 h4 => ?_)
  exact zi_retI dX12_days_116
set_option maxRecDepth 20000 in
set_option maxHeartbeats 1000000 in
theorem wb_X12_days_76 (G : zG) (n : Nat) (k76 : Nat → Int32 → Int32 → zH → Option (Int32 × zH)) (hk76 : ∀ (l0 : Nat) (l4 : Int32) (l5 : Int32) (h : zH), zW G yX12_days cX12_days 6 (some .int) zvI 96 76 [(0, .ref (zbase G + l0)), (4, .int l4), (5, .int l5)] [] h (k76 l0 l4 l5 h)) (l0 : Nat) (l4 : Int32) (l5 : Int32) (h : zH) : zW G yX12_days cX12_days 6 (some .int) zvI 96 76 [(0, .ref (zbase G + l0)), (4, .int l4), (5, .int l5)] [] h (fb_X12_days_76 n k76 l0 l4 l5 h) := by
  unfold fb_X12_days_76
  refine zi_iload dX12_days_76 2 rfl ?_
  refine zi_bipush (v := 24) dX12_days_78 (by decide) ?_
  refine zi_icmp_ge (tgt := 105) dX12_days_80 (by decide) ?_ ?_
  · refine zi_sub [0, 1] rfl ?_
    exact wb_X12_days_105 G n l0 l4 h
  · refine zi_aload_n dX12_days_83 rfl 0 rfl ?_
    refine zi_getR dX12_days_84 gf_X12_82 (fun v1 => ?_)
    refine zi_iload dX12_days_87 2 rfl ?_
    refine zi_aload_n dX12_days_89 rfl 0 rfl ?_
    refine zi_getR dX12_days_90 gf_X12_28 (fun v2 => ?_)
    refine zi_iconst (v := 0) dX12_days_93 (by decide) ?_
    refine zi_iload dX12_days_94 2 rfl ?_
    refine zi_iadd dX12_days_96 ?_
    refine zi_iald dX12_days_97 (fun v3 => ?_)
    refine zi_iast dX12_days_98 (fun h4 => ?_)
    refine zi_iinc (j := 2) (v := l5 + 1) (l' := [(5, .int (l5 + 1)), (0, .ref (zbase G + l0)), (4, .int l4)]) dX12_days_99 rfl rfl (by decide) rfl ?_
    refine zi_goto (tgt := 76) dX12_days_102 (by decide) ?_
    refine zi_sub [1, 2, 0] rfl ?_
    exact hk76 l0 l4 (l5 + 1) h4
theorem wl_X12_days_76 (G : zG) (n : Nat) : ∀ (t : Nat) (l0 : Nat) (l4 : Int32) (l5 : Int32) (h : zH), zW G yX12_days cX12_days 6 (some .int) zvI 96 76 [(0, .ref (zbase G + l0)), (4, .int l4), (5, .int l5)] [] h (zlp3 (fb_X12_days_76 n ) t l0 l4 l5 h) := by
  intro t
  induction t with
  | zero => intros; exact zW_none
  | succ t ih => intro l0 l4 l5 h; rw [zlp3_s]; exact wb_X12_days_76 G n  _  ih l0 l4 l5 h
set_option maxRecDepth 20000 in
set_option maxHeartbeats 1000000 in
theorem wb_X12_days_65 (G : zG) (n : Nat) (l0 : Nat) (l3 : Int32) (h : zH) : zW G yX12_days cX12_days 6 (some .int) zvI 96 65 [(0, .ref (zbase G + l0)), (3, .int l3)] [] h (fb_X12_days_65 n l0 l3 h) := by
  unfold fb_X12_days_65
  refine zi_aload_n dX12_days_65 rfl 0 rfl ?_
  refine zi_callVI (As := []) (rest := []) (ci := 12) dX12_days_66 ml_X12_467 md_X12_endedMany mv_X12_endedMany rfl (by decide) rfl rfl (Nat.le_of_ble_eq_true rfl) (Nat.le_of_ble_eq_true rfl) (k_X12_endedMany G n l0 h) (fun r1 h2 => ?_)
  refine zi_iload_n dX12_days_69 rfl 1 rfl ?_
  refine zi_isub dX12_days_70 ?_
  refine zi_let (sf := fun x3 => .int x3 :: []) (fun x3 => ?_)
  refine zi_istore (l' := [(4, .int x3), (0, .ref (zbase G + l0)), (3, .int l3)]) dX12_days_71 (by decide) rfl ?_
  refine zi_iconst (v := 0) dX12_days_73 (by decide) ?_
  refine zi_istore (l' := [(5, .int 0), (4, .int x3), (0, .ref (zbase G + l0)), (3, .int l3)]) dX12_days_74 (by decide) rfl ?_
  refine zi_sub [2, 1, 0] rfl ?_
  exact wl_X12_days_76 G n n l0 x3 0 h2
set_option maxRecDepth 20000 in
set_option maxHeartbeats 1000000 in
theorem wb_X12_days_49 (G : zG) (n : Nat) (k49 : Nat → Int32 → Int32 → Int32 → zH → Option (Int32 × zH)) (hk49 : ∀ (l0 : Nat) (l2 : Int32) (l3 : Int32) (l4 : Int32) (h : zH), zW G yX12_days cX12_days 6 (some .int) zvI 96 49 [(0, .ref (zbase G + l0)), (2, .int l2), (3, .int l3), (4, .int l4)] [] h (k49 l0 l2 l3 l4 h)) (l0 : Nat) (l2 : Int32) (l3 : Int32) (l4 : Int32) (h : zH) : zW G yX12_days cX12_days 6 (some .int) zvI 96 49 [(0, .ref (zbase G + l0)), (2, .int l2), (3, .int l3), (4, .int l4)] [] h (fb_X12_days_49 n k49 l0 l2 l3 l4 h) := by
  unfold fb_X12_days_49
  refine zi_iload dX12_days_49 3 rfl ?_
  refine zi_iload_n dX12_days_51 rfl 1 rfl ?_
  refine zi_icmp_ge (tgt := 65) dX12_days_52 (by decide) ?_ ?_
  · refine zi_sub [0, 2] rfl ?_
    exact wb_X12_days_65 G n l0 l3 h
  · refine zi_aload_n dX12_days_55 rfl 0 rfl ?_
    refine zi_callVU (As := []) (rest := []) (ci := 12) dX12_days_56 ml_X12_470 md_X12_drawnAct mv_X12_drawnAct rfl (by decide) rfl rfl (Nat.le_of_ble_eq_true rfl) (Nat.le_of_ble_eq_true rfl) (k_X12_drawnAct G n l0 h) (fun _ h2 => ?_)
    refine zi_iinc (j := 3) (v := l4 + 1) (l' := [(4, .int (l4 + 1)), (0, .ref (zbase G + l0)), (2, .int l2), (3, .int l3)]) dX12_days_59 rfl rfl (by decide) rfl ?_
    refine zi_goto (tgt := 49) dX12_days_62 (by decide) ?_
    refine zi_sub [1, 2, 3, 0] rfl ?_
    exact hk49 l0 l2 l3 (l4 + 1) h2
theorem wl_X12_days_49 (G : zG) (n : Nat) : ∀ (t : Nat) (l0 : Nat) (l2 : Int32) (l3 : Int32) (l4 : Int32) (h : zH), zW G yX12_days cX12_days 6 (some .int) zvI 96 49 [(0, .ref (zbase G + l0)), (2, .int l2), (3, .int l3), (4, .int l4)] [] h (zlp4 (fb_X12_days_49 n ) t l0 l2 l3 l4 h) := by
  intro t
  induction t with
  | zero => intros; exact zW_none
  | succ t ih => intro l0 l2 l3 l4 h; rw [zlp4_s]; exact wb_X12_days_49 G n  _  ih l0 l2 l3 l4 h
set_option maxRecDepth 20000 in
set_option maxHeartbeats 1000000 in
theorem k_X12_days (G : zG) (n : Nat) (a0 : Nat) (a1 : Int32) (a2 : Int32) (h : zH) : zMet G yX12_days cX12_days 6 (some .int) zvI 96 [.ref (zbase G + a0), .int a1, .int a2] h (f_X12_days n a0 a1 a2 h) := by
  refine zMet_of (l := [(0, .ref (zbase G + a0)), (1, .int a1), (2, .int a2)]) (by decide) (Nat.le_of_ble_eq_true rfl) rfl ?_
  unfold f_X12_days
  refine zi_iload_n dX12_days_0 rfl 1 rfl ?_
  refine zi_iconst (v := 0) dX12_days_1 (by decide) ?_
  refine zi_ldc dX12_days_2 kc_X12_155 ?_
  refine zi_callSI (As := [.int a1, .int 0, .int 1000000]) (rest := []) dX12_days_4 ml_X12_18 md_X12_lies ms_X12_lies rfl rfl (Nat.le_of_ble_eq_true rfl) (Nat.le_of_ble_eq_true rfl) (k_X12_lies G n a1 0 1000000 h) (fun r1 h2 => ?_)
  refine zi_if_eq (tgt := 20) dX12_days_7 (by decide) ?_ ?_
  · refine zi_sub [0] rfl ?_
    exact wb_X12_days_20 G n a0 h2
  · refine zi_iload_n dX12_days_10 rfl 2 rfl ?_
    refine zi_iconst (v := 1) dX12_days_11 (by decide) ?_
    refine zi_bipush (v := 60) dX12_days_12 (by decide) ?_
    refine zi_callSI (As := [.int a2, .int 1, .int 60]) (rest := []) dX12_days_14 ml_X12_18 md_X12_lies ms_X12_lies rfl rfl (Nat.le_of_ble_eq_true rfl) (Nat.le_of_ble_eq_true rfl) (k_X12_lies G n a2 1 60 h2) (fun r3 h4 => ?_)
    refine zi_if_ne (tgt := 26) dX12_days_17 (by decide) ?_ ?_
    · refine zi_aload_n dX12_days_26 rfl 0 rfl ?_
      refine zi_iload_n dX12_days_27 rfl 1 rfl ?_
      refine zi_putI dX12_days_28 gf_X12_454 (fun h5 => ?_)
      refine zi_aload_n dX12_days_31 rfl 0 rfl ?_
      refine zi_iconst (v := 1) dX12_days_32 (by decide) ?_
      refine zi_putZ dX12_days_33 gf_X12_464 (fun h6 => ?_)
      refine zi_aload_n dX12_days_36 rfl 0 rfl ?_
      refine zi_iconst (v := 0) dX12_days_37 (by decide) ?_
      refine zi_callVU (As := [.int 0]) (rest := []) (ci := 12) dX12_days_38 ml_X12_378 md_X12_laysAside mv_X12_laysAside rfl (by decide) rfl rfl (Nat.le_of_ble_eq_true rfl) (Nat.le_of_ble_eq_true rfl) (k_X12_laysAside G n a0 0 h6) (fun _ h8 => ?_)
      refine zi_aload_n dX12_days_41 rfl 0 rfl ?_
      refine zi_callVI (As := []) (rest := []) (ci := 12) dX12_days_42 ml_X12_467 md_X12_endedMany mv_X12_endedMany rfl (by decide) rfl rfl (Nat.le_of_ble_eq_true rfl) (Nat.le_of_ble_eq_true rfl) (k_X12_endedMany G n a0 h8) (fun r9 h10 => ?_)
      refine zi_istore_n (l' := [(3, .int r9), (0, .ref (zbase G + a0)), (1, .int a1), (2, .int a2)]) dX12_days_45 rfl (by decide) rfl ?_
      refine zi_iconst (v := 0) dX12_days_46 (by decide) ?_
      refine zi_istore (l' := [(4, .int 0), (3, .int r9), (0, .ref (zbase G + a0)), (1, .int a1), (2, .int a2)]) dX12_days_47 (by decide) rfl ?_
      refine zi_sub [2, 4, 1, 0] rfl ?_
      exact wl_X12_days_49 G n n a0 a2 r9 0 h10
    · refine zi_sub [0] rfl ?_
      exact wb_X12_days_20 G n a0 h4
set_option maxRecDepth 20000 in
set_option maxHeartbeats 1000000 in
theorem k_X12_drawn (G : zG) (n : Nat) (a0 : Nat) (a1 : Int32) (h : zH) : zMet G yX12_drawn cX12_drawn 2 (some .int) zvI 3 [.ref (zbase G + a0), .int a1] h (f_X12_drawn n a0 a1 h) := by
  refine zMet_of (l := [(0, .ref (zbase G + a0)), (1, .int a1)]) (by decide) (Nat.le_of_ble_eq_true rfl) rfl ?_
  unfold f_X12_drawn
  refine zi_aload_n dX12_drawn_0 rfl 0 rfl ?_
  refine zi_getZ dX12_drawn_1 gf_X12_464 (fun v1 => ?_)
  refine zi_if_eq (tgt := 23) dX12_drawn_4 (by decide) ?_ ?_
  · refine zi_iconst (v := (-1)) dX12_drawn_23 (by decide) ?_
    exact zi_retI dX12_drawn_24
  · refine zi_iload_n dX12_drawn_7 rfl 1 rfl ?_
    refine zi_callSI (As := [.int a1]) (rest := []) dX12_drawn_8 ml_X12_115 md_X12_isCell ms_X12_isCell rfl rfl (Nat.le_of_ble_eq_true rfl) (Nat.le_of_ble_eq_true rfl) (k_X12_isCell G n a1 h) (fun r2 h3 => ?_)
    refine zi_if_eq (tgt := 23) dX12_drawn_11 (by decide) ?_ ?_
    · refine zi_iconst (v := (-1)) dX12_drawn_23 (by decide) ?_
      exact zi_retI dX12_drawn_24
    · refine zi_aload_n dX12_drawn_14 rfl 0 rfl ?_
      refine zi_getR dX12_drawn_15 gf_X12_82 (fun v4 => ?_)
      refine zi_iload_n dX12_drawn_18 rfl 1 rfl ?_
      refine zi_iald dX12_drawn_19 (fun v5 => ?_)
      refine zi_goto (tgt := 24) dX12_drawn_20 (by decide) ?_
      exact zi_retI dX12_drawn_24
set_option maxRecDepth 20000 in
set_option maxHeartbeats 1000000 in
theorem wb_X12_count_204 (G : zG) (n : Nat) (l0 : Nat) (l1 : Int32) (h : zH) : zW G yX12_count cX12_count 2 (some .int) zvI 2 204 [(0, .ref (zbase G + l0)), (1, .int l1)] [] h (fb_X12_count_204 n l0 l1 h) := by
  unfold fb_X12_count_204
  refine zi_aload_n dX12_count_204 rfl 0 rfl ?_
  refine zi_getR dX12_count_205 gf_X12_28 (fun v1 => ?_)
  refine zi_iload_n dX12_count_208 rfl 1 rfl ?_
  refine zi_bipush (v := 16) dX12_count_209 (by decide) ?_
  refine zi_isub dX12_count_211 ?_
  refine zi_callSI (As := [.int (l1 - 16)]) (rest := [.ref (zbase G + v1)]) dX12_count_212 ml_X12_130 md_X12_termAt ms_X12_termAt rfl rfl (Nat.le_of_ble_eq_true rfl) (Nat.le_of_ble_eq_true rfl) (k_X12_termAt G n (l1 - 16) h) (fun r2 h3 => ?_)
  refine zi_iald dX12_count_215 (fun v4 => ?_)
  exact zi_retI dX12_count_216
set_option maxRecDepth 20000 in
set_option maxHeartbeats 1000000 in
theorem k_X12_count (G : zG) (n : Nat) (a0 : Nat) (a1 : Int32) (h : zH) : zMet G yX12_count cX12_count 2 (some .int) zvI 2 [.ref (zbase G + a0), .int a1] h (f_X12_count n a0 a1 h) := by
  refine zMet_of (l := [(0, .ref (zbase G + a0)), (1, .int a1)]) (by decide) (Nat.le_of_ble_eq_true rfl) rfl ?_
  unfold f_X12_count
  refine zi_iload_n dX12_count_0 rfl 1 rfl ?_
  refine zi_tsw (tgt := 217) _ dX12_count_1 rfl ?_ (by decide) ?_ ?_
  · intro j q hq
    match j, hq with
    | 0, hq => cases hq; exact ⟨rfl, _, rfl, rfl⟩
    | 1, hq => cases hq; exact ⟨rfl, _, rfl, rfl⟩
    | 2, hq => cases hq; exact ⟨rfl, _, rfl, rfl⟩
    | 3, hq => cases hq; exact ⟨rfl, _, rfl, rfl⟩
    | 4, hq => cases hq; exact ⟨rfl, _, rfl, rfl⟩
    | 5, hq => cases hq; exact ⟨rfl, _, rfl, rfl⟩
    | 6, hq => cases hq; exact ⟨rfl, _, rfl, rfl⟩
    | 7, hq => cases hq; exact ⟨rfl, _, rfl, rfl⟩
    | 8, hq => cases hq; exact ⟨rfl, _, rfl, rfl⟩
    | 9, hq => cases hq; exact ⟨rfl, _, rfl, rfl⟩
    | 10, hq => cases hq; exact ⟨rfl, _, rfl, rfl⟩
    | 11, hq => cases hq; exact ⟨rfl, _, rfl, rfl⟩
    | 12, hq => cases hq; exact ⟨rfl, _, rfl, rfl⟩
    | 13, hq => cases hq; exact ⟨rfl, _, rfl, rfl⟩
    | 14, hq => cases hq; exact ⟨rfl, _, rfl, rfl⟩
    | 15, hq => cases hq; exact ⟨rfl, _, rfl, rfl⟩
    | 16, hq => cases hq; exact ⟨rfl, _, rfl, rfl⟩
    | 17, hq => cases hq; exact ⟨rfl, _, rfl, rfl⟩
    | 18, hq => cases hq; exact ⟨rfl, _, rfl, rfl⟩
    | j + 19, hq => simp at hq
  · simp only [List.forall_mem_cons, List.not_mem_nil, false_implies, implies_true, and_true]
    refine ⟨?_, ?_, ?_, ?_, ?_, ?_, ?_, ?_, ?_, ?_, ?_, ?_, ?_, ?_, ?_, ?_, ?_, ?_, ?_⟩
    · refine zi_aload_n dX12_count_92 rfl 0 rfl ?_
      refine zi_callVI (As := []) (rest := []) (ci := 12) dX12_count_93 ml_X12_473 md_X12_listMany mv_X12_listMany rfl (by decide) rfl rfl (Nat.le_of_ble_eq_true rfl) (Nat.le_of_ble_eq_true rfl) (k_X12_listMany G n a0 h) (fun r1 h2 => ?_)
      exact zi_retI dX12_count_96
    · refine zi_aload_n dX12_count_97 rfl 0 rfl ?_
      refine zi_getR dX12_count_98 gf_X12_28 (fun v3 => ?_)
      refine zi_sipush (v := 139) dX12_count_101 (by decide) ?_
      refine zi_iald dX12_count_104 (fun v4 => ?_)
      exact zi_retI dX12_count_105
    · refine zi_aload_n dX12_count_106 rfl 0 rfl ?_
      refine zi_getR dX12_count_107 gf_X12_28 (fun v5 => ?_)
      refine zi_sipush (v := 164) dX12_count_110 (by decide) ?_
      refine zi_iald dX12_count_113 (fun v6 => ?_)
      exact zi_retI dX12_count_114
    · refine zi_aload_n dX12_count_115 rfl 0 rfl ?_
      refine zi_getR dX12_count_116 gf_X12_28 (fun v7 => ?_)
      refine zi_sipush (v := 130) dX12_count_119 (by decide) ?_
      refine zi_iald dX12_count_122 (fun v8 => ?_)
      exact zi_retI dX12_count_123
    · refine zi_aload_n dX12_count_124 rfl 0 rfl ?_
      refine zi_getR dX12_count_125 gf_X12_28 (fun v9 => ?_)
      refine zi_sipush (v := 129) dX12_count_128 (by decide) ?_
      refine zi_iald dX12_count_131 (fun v10 => ?_)
      exact zi_retI dX12_count_132
    · refine zi_aload_n dX12_count_133 rfl 0 rfl ?_
      refine zi_getR dX12_count_134 gf_X12_28 (fun v11 => ?_)
      refine zi_sipush (v := 189) dX12_count_137 (by decide) ?_
      refine zi_iald dX12_count_140 (fun v12 => ?_)
      exact zi_retI dX12_count_141
    · refine zi_aload_n dX12_count_142 rfl 0 rfl ?_
      refine zi_getR dX12_count_143 gf_X12_28 (fun v13 => ?_)
      refine zi_sipush (v := 205) dX12_count_146 (by decide) ?_
      refine zi_iald dX12_count_149 (fun v14 => ?_)
      exact zi_retI dX12_count_150
    · refine zi_aload_n dX12_count_151 rfl 0 rfl ?_
      refine zi_getR dX12_count_152 gf_X12_28 (fun v15 => ?_)
      refine zi_sipush (v := 206) dX12_count_155 (by decide) ?_
      refine zi_iald dX12_count_158 (fun v16 => ?_)
      exact zi_retI dX12_count_159
    · refine zi_aload_n dX12_count_160 rfl 0 rfl ?_
      refine zi_getI dX12_count_161 gf_X12_11 (fun v17 => ?_)
      exact zi_retI dX12_count_164
    · refine zi_aload_n dX12_count_165 rfl 0 rfl ?_
      refine zi_getI dX12_count_166 gf_X12_133 (fun v18 => ?_)
      exact zi_retI dX12_count_169
    · refine zi_aload_n dX12_count_170 rfl 0 rfl ?_
      refine zi_getR dX12_count_171 gf_X12_7 (fun v19 => ?_)
      refine zi_iload_n dX12_count_174 rfl 1 rfl ?_
      refine zi_bipush (v := 9) dX12_count_175 (by decide) ?_
      refine zi_isub dX12_count_177 ?_
      refine zi_iald dX12_count_178 (fun v20 => ?_)
      exact zi_retI dX12_count_179
    · refine zi_aload_n dX12_count_170 rfl 0 rfl ?_
      refine zi_getR dX12_count_171 gf_X12_7 (fun v21 => ?_)
      refine zi_iload_n dX12_count_174 rfl 1 rfl ?_
      refine zi_bipush (v := 9) dX12_count_175 (by decide) ?_
      refine zi_isub dX12_count_177 ?_
      refine zi_iald dX12_count_178 (fun v22 => ?_)
      exact zi_retI dX12_count_179
    · refine zi_aload_n dX12_count_170 rfl 0 rfl ?_
      refine zi_getR dX12_count_171 gf_X12_7 (fun v23 => ?_)
      refine zi_iload_n dX12_count_174 rfl 1 rfl ?_
      refine zi_bipush (v := 9) dX12_count_175 (by decide) ?_
      refine zi_isub dX12_count_177 ?_
      refine zi_iald dX12_count_178 (fun v24 => ?_)
      exact zi_retI dX12_count_179
    · refine zi_aload_n dX12_count_180 rfl 0 rfl ?_
      refine zi_getR dX12_count_181 gf_X12_7 (fun v25 => ?_)
      refine zi_iconst (v := 5) dX12_count_184 (by decide) ?_
      refine zi_iald dX12_count_185 (fun v26 => ?_)
      exact zi_retI dX12_count_186
    · refine zi_aload_n dX12_count_187 rfl 0 rfl ?_
      refine zi_getR dX12_count_188 gf_X12_7 (fun v27 => ?_)
      refine zi_bipush (v := 6) dX12_count_191 (by decide) ?_
      refine zi_iald dX12_count_193 (fun v28 => ?_)
      exact zi_retI dX12_count_194
    · refine zi_aload_n dX12_count_195 rfl 0 rfl ?_
      refine zi_getR dX12_count_196 gf_X12_28 (fun v29 => ?_)
      refine zi_sipush (v := 207) dX12_count_199 (by decide) ?_
      refine zi_iald dX12_count_202 (fun v30 => ?_)
      exact zi_retI dX12_count_203
    · refine zi_sub [0, 1] rfl ?_
      exact wb_X12_count_204 G n a0 a1 h
    · refine zi_sub [0, 1] rfl ?_
      exact wb_X12_count_204 G n a0 a1 h
    · refine zi_sub [0, 1] rfl ?_
      exact wb_X12_count_204 G n a0 a1 h
  · refine zi_iconst (v := (-1)) dX12_count_217 (by decide) ?_
    exact zi_retI dX12_count_218
set_option maxRecDepth 20000 in
set_option maxHeartbeats 1000000 in
theorem k_X12_status (G : zG) (n : Nat) (a0 : Nat) (h : zH) : zMet G yX12_status cX12_status 1 (some .int) zvI 1 [.ref (zbase G + a0)] h (f_X12_status n a0 h) := by
  refine zMet_of (l := [(0, .ref (zbase G + a0))]) (by decide) (Nat.le_of_ble_eq_true rfl) rfl ?_
  unfold f_X12_status
  refine zi_aload_n dX12_status_0 rfl 0 rfl ?_
  refine zi_getI dX12_status_1 gf_X12_3 (fun v1 => ?_)
  exact zi_retI dX12_status_4
