set_option maxRecDepth 20000 in
set_option maxHeartbeats 1000000 in
theorem wb_X11_days_22 (G : zG) (n : Nat) (l0 : Nat) (h : zH) : zW G yX11_days cX11_days 10 (some .int) zvI 7 22 [(0, .ref (zbase G + l0))] [] h (fb_X11_days_22 n l0 h) := by
  unfold fb_X11_days_22
  refine zi_aload_n dX11_days_22 rfl 0 rfl ?_
  refine zi_iconst (v := (-1)) dX11_days_23 (by decide) ?_
  refine zi_callVI (As := [.int (-1)]) (rest := []) (ci := 11) dX11_days_24 ml_X11_192 md_X11_told mv_X11_told rfl (by decide) rfl rfl (Nat.le_of_ble_eq_true rfl) (Nat.le_of_ble_eq_true rfl) (k_X11_told G n l0 (-1) h) (fun r1 h2 => ?_)
  exact zi_retI dX11_days_27
set_option maxRecDepth 20000 in
set_option maxHeartbeats 1000000 in
theorem wb_X11_days_175 (G : zG) (n : Nat) (l0 : Nat) (l3 : Int32) (h : zH) : zW G yX11_days cX11_days 10 (some .int) zvI 7 175 [(0, .ref (zbase G + l0)), (3, .int l3)] [] h (fb_X11_days_175 n l0 l3 h) := by
  unfold fb_X11_days_175
  refine zi_aload_n dX11_days_175 rfl 0 rfl ?_
  refine zi_getR dX11_days_176 gf_X11_16 (fun v1 => ?_)
  refine zi_getR dX11_days_179 gf_X11_140 (fun v2 => ?_)
  refine zi_getR dX11_days_182 gf_X11_144 (fun v3 => ?_)
  refine zi_iconst (v := 0) dX11_days_185 (by decide) ?_
  refine zi_aload_n dX11_days_186 rfl 0 rfl ?_
  refine zi_getR dX11_days_187 gf_X11_80 (fun v4 => ?_)
  refine zi_iconst (v := 0) dX11_days_190 (by decide) ?_
  refine zi_bipush (v := 24) dX11_days_191 (by decide) ?_
  refine zi_acp dX11_days_193 ml_X11_357 ay_nat ay_stat ay_ini (Nat.le_of_ble_eq_true rfl) (Nat.le_of_ble_eq_true rfl) (fun h5 => ?_)
  refine zi_aload_n dX11_days_196 rfl 0 rfl ?_
  refine zi_aload_n dX11_days_197 rfl 0 rfl ?_
  refine zi_getR dX11_days_198 gf_X11_16 (fun v6 => ?_)
  refine zi_callVI (As := []) (rest := [.ref (zbase G + l0)]) (ci := 10) dX11_days_201 ml_X11_347 md_X10_gracesEnded mv_X10_gracesEnded rfl (by decide) rfl rfl (Nat.le_of_ble_eq_true rfl) (Nat.le_of_ble_eq_true rfl) (k_X10_gracesEnded G n v6 h5) (fun r7 h8 => ?_)
  refine zi_iload_n dX11_days_204 rfl 1 rfl ?_
  refine zi_isub dX11_days_205 ?_
  refine zi_callVI (As := [.int (r7 - l3)]) (rest := []) (ci := 11) dX11_days_206 ml_X11_192 md_X11_told mv_X11_told rfl (by decide) rfl rfl (Nat.le_of_ble_eq_true rfl) (Nat.le_of_ble_eq_true rfl) (k_X11_told G n l0 (r7 - l3) h8) (fun r9 h10 => ?_)
  exact zi_retI dX11_days_209
set_option maxRecDepth 20000 in
set_option maxHeartbeats 1000000 in
theorem wb_X11_days_169 (G : zG) (n : Nat) (k53 : Nat → Int32 → Int32 → Int32 → Int32 → zH → Option (Int32 × zH)) (hk53 : ∀ (l0 : Nat) (l2 : Int32) (l3 : Int32) (l4 : Int32) (l5 : Int32) (h : zH), zW G yX11_days cX11_days 10 (some .int) zvI 7 53 [(0, .ref (zbase G + l0)), (2, .int l2), (3, .int l3), (4, .int l4), (5, .int l5)] [] h (k53 l0 l2 l3 l4 l5 h)) (l0 : Nat) (l2 : Int32) (l3 : Int32) (l4 : Int32) (l5 : Int32) (h : zH) : zW G yX11_days cX11_days 10 (some .int) zvI 7 169 [(0, .ref (zbase G + l0)), (2, .int l2), (3, .int l3), (4, .int l4), (5, .int l5)] [] h (fb_X11_days_169 n k53 l0 l2 l3 l4 l5 h) := by
  unfold fb_X11_days_169
  refine zi_iinc (j := 4) (v := l5 + 1) (l' := [(5, .int (l5 + 1)), (0, .ref (zbase G + l0)), (2, .int l2), (3, .int l3), (4, .int l4)]) dX11_days_169 rfl rfl (by decide) rfl ?_
  refine zi_goto (tgt := 53) dX11_days_172 (by decide) ?_
  refine zi_sub [1, 2, 3, 4, 0] rfl ?_
  exact hk53 l0 l2 l3 l4 (l5 + 1) h
set_option maxRecDepth 20000 in
set_option maxHeartbeats 1000000 in
theorem wb_X11_days_159 (G : zG) (n : Nat) (k53 : Nat → Int32 → Int32 → Int32 → Int32 → zH → Option (Int32 × zH)) (hk53 : ∀ (l0 : Nat) (l2 : Int32) (l3 : Int32) (l4 : Int32) (l5 : Int32) (h : zH), zW G yX11_days cX11_days 10 (some .int) zvI 7 53 [(0, .ref (zbase G + l0)), (2, .int l2), (3, .int l3), (4, .int l4), (5, .int l5)] [] h (k53 l0 l2 l3 l4 l5 h)) (l0 : Nat) (l2 : Int32) (l3 : Int32) (l4 : Int32) (l5 : Int32) (l6 : Int32) (s0 : Nat) (s1 : Int32) (s2 : Int32) (h : zH) : zW G yX11_days cX11_days 10 (some .int) zvI 7 159 [(0, .ref (zbase G + l0)), (2, .int l2), (3, .int l3), (4, .int l4), (5, .int l5), (6, .int l6)] [.int s2, .int s1, .ref (zbase G + s0)] h (fb_X11_days_159 n k53 l0 l2 l3 l4 l5 l6 s0 s1 s2 h) := by
  unfold fb_X11_days_159
  refine zi_iload dX11_days_159 5 rfl ?_
  refine zi_aload_n dX11_days_161 rfl 0 rfl ?_
  refine zi_getR dX11_days_162 gf_X11_31 (fun v1 => ?_)
  refine zi_callVI (As := [.int s1, .int s2, .int l6, .ref (zbase G + v1)]) (rest := []) (ci := 10) dX11_days_165 ml_X11_353 md_X10_act mv_X10_act rfl (by decide) rfl rfl (Nat.le_of_ble_eq_true rfl) (Nat.le_of_ble_eq_true rfl) (k_X10_act G n s0 s1 s2 l6 v1 h) (fun r2 h3 => ?_)
  refine zi_pop dX11_days_168 rfl ?_
  refine zi_sub [0, 1, 2, 3, 4] rfl ?_
  exact wb_X11_days_169 G n k53 hk53 l0 l2 l3 l4 l5 h3
set_option maxRecDepth 20000 in
set_option maxHeartbeats 1000000 in
theorem wb_X11_days_117 (G : zG) (n : Nat) (k53 : Nat → Int32 → Int32 → Int32 → Int32 → zH → Option (Int32 × zH)) (hk53 : ∀ (l0 : Nat) (l2 : Int32) (l3 : Int32) (l4 : Int32) (l5 : Int32) (h : zH), zW G yX11_days cX11_days 10 (some .int) zvI 7 53 [(0, .ref (zbase G + l0)), (2, .int l2), (3, .int l3), (4, .int l4), (5, .int l5)] [] h (k53 l0 l2 l3 l4 l5 h)) (l0 : Nat) (l2 : Int32) (l3 : Int32) (l4 : Int32) (l5 : Int32) (l6 : Int32) (l7 : Int32) (l8 : Int32) (s0 : Int32) (h : zH) : zW G yX11_days cX11_days 10 (some .int) zvI 7 117 [(0, .ref (zbase G + l0)), (2, .int l2), (3, .int l3), (4, .int l4), (5, .int l5), (6, .int l6), (7, .int l7), (8, .int l8)] [.int s0] h (fb_X11_days_117 n k53 l0 l2 l3 l4 l5 l6 l7 l8 s0 h) := by
  unfold fb_X11_days_117
  refine zi_istore (l' := [(9, .int s0), (0, .ref (zbase G + l0)), (2, .int l2), (3, .int l3), (4, .int l4), (5, .int l5), (6, .int l6), (7, .int l7), (8, .int l8)]) dX11_days_117 (by decide) rfl ?_
  refine zi_iload dX11_days_119 8 rfl ?_
  refine zi_bipush (v := 8) dX11_days_121 (by decide) ?_
  refine zi_icmp_ne (tgt := 141) dX11_days_123 (by decide) ?_ ?_
  · refine zi_aload_n dX11_days_141 rfl 1 rfl ?_
    refine zi_getR dX11_days_142 gf_X11_16 (fun v1 => ?_)
    refine zi_iload dX11_days_145 8 rfl ?_
    refine zi_iload dX11_days_147 0 rfl ?_
    refine zi_if_eq (tgt := 157) dX11_days_149 (by decide) ?_ ?_
    · refine zi_iload dX11_days_157 6 rfl ?_
      refine zi_sub [1, 2, 3, 4, 5, 6] rfl ?_
      exact wb_X11_days_159 G n k53 hk53 l0 l2 l3 l4 l5 l6 v1 l8 l6 h
    · refine zi_iload dX11_days_152 7 rfl ?_
      refine zi_goto (tgt := 159) dX11_days_154 (by decide) ?_
      refine zi_sub [1, 2, 3, 4, 5, 6] rfl ?_
      exact wb_X11_days_159 G n k53 hk53 l0 l2 l3 l4 l5 l6 v1 l8 l7 h
  · refine zi_aload_n dX11_days_126 rfl 1 rfl ?_
    refine zi_getR dX11_days_127 gf_X11_16 (fun v2 => ?_)
    refine zi_aload_n dX11_days_130 rfl 1 rfl ?_
    refine zi_getR dX11_days_131 gf_X11_31 (fun v3 => ?_)
    refine zi_callVI (As := [.ref (zbase G + v3)]) (rest := []) (ci := 10) dX11_days_134 ml_X11_296 md_X10_hurryGrace mv_X10_hurryGrace rfl (by decide) rfl rfl (Nat.le_of_ble_eq_true rfl) (Nat.le_of_ble_eq_true rfl) (k_X10_hurryGrace G n v2 v3 h) (fun r4 h5 => ?_)
    refine zi_pop dX11_days_137 rfl ?_
    refine zi_goto (tgt := 169) dX11_days_138 (by decide) ?_
    refine zi_sub [1, 2, 3, 4, 5] rfl ?_
    exact wb_X11_days_169 G n k53 hk53 l0 l2 l3 l4 l5 h5
set_option maxRecDepth 20000 in
set_option maxHeartbeats 1000000 in
theorem wb_X11_days_112 (G : zG) (n : Nat) (k53 : Nat → Int32 → Int32 → Int32 → Int32 → zH → Option (Int32 × zH)) (hk53 : ∀ (l0 : Nat) (l2 : Int32) (l3 : Int32) (l4 : Int32) (l5 : Int32) (h : zH), zW G yX11_days cX11_days 10 (some .int) zvI 7 53 [(0, .ref (zbase G + l0)), (2, .int l2), (3, .int l3), (4, .int l4), (5, .int l5)] [] h (k53 l0 l2 l3 l4 l5 h)) (l0 : Nat) (l2 : Int32) (l3 : Int32) (l4 : Int32) (l5 : Int32) (l6 : Int32) (l7 : Int32) (l8 : Int32) (h : zH) : zW G yX11_days cX11_days 10 (some .int) zvI 7 112 [(0, .ref (zbase G + l0)), (2, .int l2), (3, .int l3), (4, .int l4), (5, .int l5), (6, .int l6), (7, .int l7), (8, .int l8)] [] h (fb_X11_days_112 n k53 l0 l2 l3 l4 l5 l6 l7 l8 h) := by
  unfold fb_X11_days_112
  refine zi_iconst (v := 1) dX11_days_112 (by decide) ?_
  refine zi_goto (tgt := 117) dX11_days_113 (by decide) ?_
  refine zi_sub [0, 1, 2, 3, 4, 5, 6, 7] rfl ?_
  exact wb_X11_days_117 G n k53 hk53 l0 l2 l3 l4 l5 l6 l7 l8 1 h
set_option maxRecDepth 20000 in
set_option maxHeartbeats 1000000 in
theorem wb_X11_days_53 (G : zG) (n : Nat) (k53 : Nat → Int32 → Int32 → Int32 → Int32 → zH → Option (Int32 × zH)) (hk53 : ∀ (l0 : Nat) (l2 : Int32) (l3 : Int32) (l4 : Int32) (l5 : Int32) (h : zH), zW G yX11_days cX11_days 10 (some .int) zvI 7 53 [(0, .ref (zbase G + l0)), (2, .int l2), (3, .int l3), (4, .int l4), (5, .int l5)] [] h (k53 l0 l2 l3 l4 l5 h)) (l0 : Nat) (l2 : Int32) (l3 : Int32) (l4 : Int32) (l5 : Int32) (h : zH) : zW G yX11_days cX11_days 10 (some .int) zvI 7 53 [(0, .ref (zbase G + l0)), (2, .int l2), (3, .int l3), (4, .int l4), (5, .int l5)] [] h (fb_X11_days_53 n k53 l0 l2 l3 l4 l5 h) := by
  unfold fb_X11_days_53
  refine zi_iload dX11_days_53 4 rfl ?_
  refine zi_iload_n dX11_days_55 rfl 1 rfl ?_
  refine zi_icmp_ge (tgt := 175) dX11_days_56 (by decide) ?_ ?_
  · refine zi_sub [0, 2] rfl ?_
    exact wb_X11_days_175 G n l0 l3 h
  · refine zi_iload dX11_days_59 3 rfl ?_
    refine zi_callSI (As := [.int l4]) (rest := []) dX11_days_61 ml_X11_350 md_X11_drawAfter ms_X11_drawAfter rfl rfl (Nat.le_of_ble_eq_true rfl) (Nat.le_of_ble_eq_true rfl) (k_X11_drawAfter G n l4 h) (fun r1 h2 => ?_)
    refine zi_istore (l' := [(4, .int r1), (0, .ref (zbase G + l0)), (2, .int l2), (3, .int l3), (5, .int l5)]) dX11_days_64 (by decide) rfl ?_
    refine zi_iload dX11_days_66 0 rfl ?_
    refine zi_bipush (v := 8) dX11_days_68 (by decide) ?_
    refine zi_irem dX11_days_70 (by decide) ?_
    refine zi_let (sf := fun x3 => .int x3 :: []) (fun x3 => ?_)
    refine zi_istore (l' := [(6, .int x3), (4, .int r1), (0, .ref (zbase G + l0)), (2, .int l2), (3, .int l3), (5, .int l5)]) dX11_days_71 (by decide) rfl ?_
    refine zi_iload dX11_days_73 1 rfl ?_
    refine zi_callSI (As := [.int r1]) (rest := []) dX11_days_75 ml_X11_350 md_X11_drawAfter ms_X11_drawAfter rfl rfl (Nat.le_of_ble_eq_true rfl) (Nat.le_of_ble_eq_true rfl) (k_X11_drawAfter G n r1 h2) (fun r4 h5 => ?_)
    refine zi_istore (l' := [(4, .int r4), (6, .int x3), (0, .ref (zbase G + l0)), (2, .int l2), (3, .int l3), (5, .int l5)]) dX11_days_78 (by decide) rfl ?_
    refine zi_iload dX11_days_80 0 rfl ?_
    refine zi_bipush (v := 6) dX11_days_82 (by decide) ?_
    refine zi_irem dX11_days_84 (by decide) ?_
    refine zi_let (sf := fun x6 => .int x6 :: []) (fun x6 => ?_)
    refine zi_istore (l' := [(7, .int x6), (4, .int r4), (6, .int x3), (0, .ref (zbase G + l0)), (2, .int l2), (3, .int l3), (5, .int l5)]) dX11_days_85 (by decide) rfl ?_
    refine zi_iload dX11_days_87 1 rfl ?_
    refine zi_callSI (As := [.int r4]) (rest := []) dX11_days_89 ml_X11_350 md_X11_drawAfter ms_X11_drawAfter rfl rfl (Nat.le_of_ble_eq_true rfl) (Nat.le_of_ble_eq_true rfl) (k_X11_drawAfter G n r4 h5) (fun r7 h8 => ?_)
    refine zi_istore (l' := [(4, .int r7), (7, .int x6), (6, .int x3), (0, .ref (zbase G + l0)), (2, .int l2), (3, .int l3), (5, .int l5)]) dX11_days_92 (by decide) rfl ?_
    refine zi_iload dX11_days_94 0 rfl ?_
    refine zi_bipush (v := 9) dX11_days_96 (by decide) ?_
    refine zi_irem dX11_days_98 (by decide) ?_
    refine zi_let (sf := fun x9 => .int x9 :: []) (fun x9 => ?_)
    refine zi_istore (l' := [(8, .int x9), (4, .int r7), (7, .int x6), (6, .int x3), (0, .ref (zbase G + l0)), (2, .int l2), (3, .int l3), (5, .int l5)]) dX11_days_99 (by decide) rfl ?_
    refine zi_iload dX11_days_101 0 rfl ?_
    refine zi_if_eq (tgt := 112) dX11_days_103 (by decide) ?_ ?_
    · refine zi_sub [4, 5, 6, 1, 7, 3, 2, 0] rfl ?_
      exact wb_X11_days_112 G n k53 hk53 l0 l2 l3 r7 l5 x3 x6 x9 h8
    · refine zi_iload dX11_days_106 0 rfl ?_
      refine zi_iconst (v := 1) dX11_days_108 (by decide) ?_
      refine zi_icmp_ne (tgt := 116) dX11_days_109 (by decide) ?_ ?_
      · refine zi_iconst (v := 0) dX11_days_116 (by decide) ?_
        refine zi_sub [4, 5, 6, 1, 7, 3, 2, 0] rfl ?_
        exact wb_X11_days_117 G n k53 hk53 l0 l2 l3 r7 l5 x3 x6 x9 0 h8
      · refine zi_sub [4, 5, 6, 1, 7, 3, 2, 0] rfl ?_
        exact wb_X11_days_112 G n k53 hk53 l0 l2 l3 r7 l5 x3 x6 x9 h8
theorem wl_X11_days_53 (G : zG) (n : Nat) : ∀ (t : Nat) (l0 : Nat) (l2 : Int32) (l3 : Int32) (l4 : Int32) (l5 : Int32) (h : zH), zW G yX11_days cX11_days 10 (some .int) zvI 7 53 [(0, .ref (zbase G + l0)), (2, .int l2), (3, .int l3), (4, .int l4), (5, .int l5)] [] h (zlp5 (fb_X11_days_53 n ) t l0 l2 l3 l4 l5 h) := by
  intro t
  induction t with
  | zero => intros; exact zW_none
  | succ t ih => intro l0 l2 l3 l4 l5 h; rw [zlp5_s]; exact wb_X11_days_53 G n  _  ih l0 l2 l3 l4 l5 h
set_option maxRecDepth 20000 in
set_option maxHeartbeats 1000000 in
theorem k_X11_days (G : zG) (n : Nat) (a0 : Nat) (a1 : Int32) (a2 : Int32) (h : zH) : zMet G yX11_days cX11_days 10 (some .int) zvI 7 [.ref (zbase G + a0), .int a1, .int a2] h (f_X11_days n a0 a1 a2 h) := by
  refine zMet_of (l := [(0, .ref (zbase G + a0)), (1, .int a1), (2, .int a2)]) (by decide) (Nat.le_of_ble_eq_true rfl) rfl ?_
  unfold f_X11_days
  refine zi_iload_n dX11_days_0 rfl 1 rfl ?_
  refine zi_if_lt (tgt := 22) dX11_days_1 (by decide) ?_ ?_
  · refine zi_sub [0] rfl ?_
    exact wb_X11_days_22 G n a0 h
  · refine zi_iload_n dX11_days_4 rfl 1 rfl ?_
    refine zi_ldcw dX11_days_5 kc_X11_346 ?_
    refine zi_icmp_gt (tgt := 22) dX11_days_8 (by decide) ?_ ?_
    · refine zi_sub [0] rfl ?_
      exact wb_X11_days_22 G n a0 h
    · refine zi_iload_n dX11_days_11 rfl 2 rfl ?_
      refine zi_iconst (v := 1) dX11_days_12 (by decide) ?_
      refine zi_icmp_lt (tgt := 22) dX11_days_13 (by decide) ?_ ?_
      · refine zi_sub [0] rfl ?_
        exact wb_X11_days_22 G n a0 h
      · refine zi_iload_n dX11_days_16 rfl 2 rfl ?_
        refine zi_bipush (v := 60) dX11_days_17 (by decide) ?_
        refine zi_icmp_le (tgt := 28) dX11_days_19 (by decide) ?_ ?_
        · refine zi_aload_n dX11_days_28 rfl 0 rfl ?_
          refine zi_getR dX11_days_29 gf_X11_16 (fun v1 => ?_)
          refine zi_aload_n dX11_days_32 rfl 0 rfl ?_
          refine zi_getR dX11_days_33 gf_X11_10 (fun v2 => ?_)
          refine zi_callVU (As := [.ref (zbase G + v2)]) (rest := []) (ci := 10) dX11_days_36 ml_X11_248 md_X10_copyFrom mv_X10_copyFrom rfl (by decide) rfl rfl (Nat.le_of_ble_eq_true rfl) (Nat.le_of_ble_eq_true rfl) (k_X10_copyFrom G n v1 v2 h) (fun _ h4 => ?_)
          refine zi_aload_n dX11_days_39 rfl 0 rfl ?_
          refine zi_getR dX11_days_40 gf_X11_16 (fun v5 => ?_)
          refine zi_callVI (As := []) (rest := []) (ci := 10) dX11_days_43 ml_X11_347 md_X10_gracesEnded mv_X10_gracesEnded rfl (by decide) rfl rfl (Nat.le_of_ble_eq_true rfl) (Nat.le_of_ble_eq_true rfl) (k_X10_gracesEnded G n v5 h4) (fun r6 h7 => ?_)
          refine zi_istore_n (l' := [(3, .int r6), (0, .ref (zbase G + a0)), (1, .int a1), (2, .int a2)]) dX11_days_46 rfl (by decide) rfl ?_
          refine zi_iload_n dX11_days_47 rfl 2 rfl ?_
          refine zi_istore (l' := [(4, .int a1), (3, .int r6), (0, .ref (zbase G + a0)), (1, .int a1), (2, .int a2)]) dX11_days_48 (by decide) rfl ?_
          refine zi_iconst (v := 0) dX11_days_50 (by decide) ?_
          refine zi_istore (l' := [(5, .int 0), (4, .int a1), (3, .int r6), (0, .ref (zbase G + a0)), (1, .int a1), (2, .int a2)]) dX11_days_51 (by decide) rfl ?_
          refine zi_sub [3, 5, 2, 1, 0] rfl ?_
          exact wl_X11_days_53 G n n a0 a2 r6 a1 0 h7
        · refine zi_sub [0] rfl ?_
          exact wb_X11_days_22 G n a0 h
set_option maxRecDepth 20000 in
set_option maxHeartbeats 1000000 in
theorem k_X11_drawn (G : zG) (n : Nat) (a0 : Nat) (a1 : Int32) (h : zH) : zMet G yX11_drawn cX11_drawn 2 (some .int) zvI 2 [.ref (zbase G + a0), .int a1] h (f_X11_drawn n a0 a1 h) := by
  refine zMet_of (l := [(0, .ref (zbase G + a0)), (1, .int a1)]) (by decide) (Nat.le_of_ble_eq_true rfl) rfl ?_
  unfold f_X11_drawn
  refine zi_iload_n dX11_drawn_0 rfl 1 rfl ?_
  refine zi_callSI (As := [.int a1]) (rest := []) dX11_drawn_1 ml_X11_137 md_X11_isCell ms_X11_isCell rfl rfl (Nat.le_of_ble_eq_true rfl) (Nat.le_of_ble_eq_true rfl) (k_X11_isCell G n a1 h) (fun r1 h2 => ?_)
  refine zi_if_eq (tgt := 16) dX11_drawn_4 (by decide) ?_ ?_
  · refine zi_iconst (v := (-1)) dX11_drawn_16 (by decide) ?_
    exact zi_retI dX11_drawn_17
  · refine zi_aload_n dX11_drawn_7 rfl 0 rfl ?_
    refine zi_getR dX11_drawn_8 gf_X11_80 (fun v3 => ?_)
    refine zi_iload_n dX11_drawn_11 rfl 1 rfl ?_
    refine zi_iald dX11_drawn_12 (fun v4 => ?_)
    refine zi_goto (tgt := 17) dX11_drawn_13 (by decide) ?_
    exact zi_retI dX11_drawn_17
set_option maxRecDepth 20000 in
set_option maxHeartbeats 1000000 in
theorem k_X11_imageAt (G : zG) (n : Nat) (a0 : Nat) (a1 : Int32) (h : zH) : zMet G yX11_imageAt cX11_imageAt 2 (some (.object "GraceTree$Image")) (zvR G) 1 [.ref (zbase G + a0), .int a1] h (f_X11_imageAt n a0 a1 h) := by
  refine zMet_of (l := [(0, .ref (zbase G + a0)), (1, .int a1)]) (by decide) (Nat.le_of_ble_eq_true rfl) rfl ?_
  unfold f_X11_imageAt
  refine zi_iload_n dX11_imageAt_0 rfl 1 rfl ?_
  refine zi_if_ne (tgt := 11) dX11_imageAt_1 (by decide) ?_ ?_
  · refine zi_aload_n dX11_imageAt_11 rfl 0 rfl ?_
    refine zi_getR dX11_imageAt_12 gf_X11_59 (fun v1 => ?_)
    exact zi_retR dX11_imageAt_15
  · refine zi_aload_n dX11_imageAt_4 rfl 0 rfl ?_
    refine zi_getR dX11_imageAt_5 gf_X11_55 (fun v2 => ?_)
    refine zi_goto (tgt := 15) dX11_imageAt_8 (by decide) ?_
    exact zi_retR dX11_imageAt_15
set_option maxRecDepth 20000 in
set_option maxHeartbeats 1000000 in
theorem wb_X6_copyFrom_26 (G : zG) (n : Nat) (l0 : Nat) (l1 : Nat) (h : zH) : zW G yX6_copyFrom cX6_copyFrom 3 none zvU 1 26 [(0, .ref (zbase G + l0)), (1, .ref (zbase G + l1))] [] h (fb_X6_copyFrom_26 n l0 l1 h) := by
  unfold fb_X6_copyFrom_26
  refine zi_aload_n dX6_copyFrom_26 rfl 0 rfl ?_
  refine zi_aload_n dX6_copyFrom_27 rfl 1 rfl ?_
  refine zi_getI dX6_copyFrom_28 gf_X6_17 (fun v1 => ?_)
  refine zi_putI dX6_copyFrom_31 gf_X6_17 (fun h2 => ?_)
  refine zi_aload_n dX6_copyFrom_34 rfl 0 rfl ?_
  refine zi_aload_n dX6_copyFrom_35 rfl 1 rfl ?_
  refine zi_getI dX6_copyFrom_36 gf_X6_21 (fun v3 => ?_)
  refine zi_putI dX6_copyFrom_39 gf_X6_21 (fun h4 => ?_)
  refine zi_aload_n dX6_copyFrom_42 rfl 0 rfl ?_
  refine zi_aload_n dX6_copyFrom_43 rfl 1 rfl ?_
  refine zi_getI dX6_copyFrom_44 gf_X6_24 (fun v5 => ?_)
  refine zi_putI dX6_copyFrom_47 gf_X6_24 (fun h6 => ?_)
  refine zi_aload_n dX6_copyFrom_50 rfl 0 rfl ?_
  refine zi_aload_n dX6_copyFrom_51 rfl 1 rfl ?_
  refine zi_getI dX6_copyFrom_52 gf_X6_27 (fun v7 => ?_)
  refine zi_putI dX6_copyFrom_55 gf_X6_27 (fun h8 => ?_)
  exact zi_retV dX6_copyFrom_58
set_option maxRecDepth 20000 in
set_option maxHeartbeats 1000000 in
theorem wb_X6_copyFrom_2 (G : zG) (n : Nat) (k2 : Nat → Nat → Int32 → zH → Option (Unit × zH)) (hk2 : ∀ (l0 : Nat) (l1 : Nat) (l2 : Int32) (h : zH), zW G yX6_copyFrom cX6_copyFrom 3 none zvU 1 2 [(0, .ref (zbase G + l0)), (1, .ref (zbase G + l1)), (2, .int l2)] [] h (k2 l0 l1 l2 h)) (l0 : Nat) (l1 : Nat) (l2 : Int32) (h : zH) : zW G yX6_copyFrom cX6_copyFrom 3 none zvU 1 2 [(0, .ref (zbase G + l0)), (1, .ref (zbase G + l1)), (2, .int l2)] [] h (fb_X6_copyFrom_2 n k2 l0 l1 l2 h) := by
  unfold fb_X6_copyFrom_2
  refine zi_iload_n dX6_copyFrom_2 rfl 2 rfl ?_
  refine zi_bipush (v := 6) dX6_copyFrom_3 (by decide) ?_
  refine zi_icmp_ge (tgt := 26) dX6_copyFrom_5 (by decide) ?_ ?_
  · refine zi_sub [0, 1] rfl ?_
    exact wb_X6_copyFrom_26 G n l0 l1 h
  · refine zi_aload_n dX6_copyFrom_8 rfl 0 rfl ?_
    refine zi_getR dX6_copyFrom_9 gf_X6_11 (fun v1 => ?_)
    refine zi_iload_n dX6_copyFrom_12 rfl 2 rfl ?_
    refine zi_aload_n dX6_copyFrom_13 rfl 1 rfl ?_
    refine zi_getR dX6_copyFrom_14 gf_X6_11 (fun v2 => ?_)
    refine zi_iload_n dX6_copyFrom_17 rfl 2 rfl ?_
    refine zi_aaldT dX6_copyFrom_18 (fun v3 => ?_)
    refine zi_aastT dX6_copyFrom_19 (fun h4 => ?_)
    refine zi_iinc (j := 2) (v := l2 + 1) (l' := [(2, .int (l2 + 1)), (0, .ref (zbase G + l0)), (1, .ref (zbase G + l1))]) dX6_copyFrom_20 rfl rfl (by decide) rfl ?_
    refine zi_goto (tgt := 2) dX6_copyFrom_23 (by decide) ?_
    refine zi_sub [1, 2, 0] rfl ?_
    exact hk2 l0 l1 (l2 + 1) h4
theorem wl_X6_copyFrom_2 (G : zG) (n : Nat) : ∀ (t : Nat) (l0 : Nat) (l1 : Nat) (l2 : Int32) (h : zH), zW G yX6_copyFrom cX6_copyFrom 3 none zvU 1 2 [(0, .ref (zbase G + l0)), (1, .ref (zbase G + l1)), (2, .int l2)] [] h (zlp3 (fb_X6_copyFrom_2 n ) t l0 l1 l2 h) := by
  intro t
  induction t with
  | zero => intros; exact zW_none
  | succ t ih => intro l0 l1 l2 h; rw [zlp3_s]; exact wb_X6_copyFrom_2 G n  _  ih l0 l1 l2 h
set_option maxRecDepth 20000 in
set_option maxHeartbeats 1000000 in
theorem k_X6_copyFrom (G : zG) (n : Nat) (a0 : Nat) (a1 : Nat) (h : zH) : zMet G yX6_copyFrom cX6_copyFrom 3 none zvU 1 [.ref (zbase G + a0), .ref (zbase G + a1)] h (f_X6_copyFrom n a0 a1 h) := by
  refine zMet_of (l := [(0, .ref (zbase G + a0)), (1, .ref (zbase G + a1))]) (by decide) (Nat.le_of_ble_eq_true rfl) rfl ?_
  unfold f_X6_copyFrom
  refine zi_iconst (v := 0) dX6_copyFrom_0 (by decide) ?_
  refine zi_istore_n (l' := [(2, .int 0), (0, .ref (zbase G + a0)), (1, .ref (zbase G + a1))]) dX6_copyFrom_1 rfl (by decide) rfl ?_
  refine zi_sub [1, 2, 0] rfl ?_
  exact wl_X6_copyFrom_2 G n n a0 a1 0 h
set_option maxRecDepth 20000 in
set_option maxHeartbeats 1000000 in
theorem k_X1_copyFrom (G : zG) (n : Nat) (a0 : Nat) (a1 : Nat) (h : zH) : zMet G yX1_copyFrom cX1_copyFrom 2 none zvU 2 [.ref (zbase G + a0), .ref (zbase G + a1)] h (f_X1_copyFrom n a0 a1 h) := by
  refine zMet_of (l := [(0, .ref (zbase G + a0)), (1, .ref (zbase G + a1))]) (by decide) (Nat.le_of_ble_eq_true rfl) rfl ?_
  unfold f_X1_copyFrom
  refine zi_aload_n dX1_copyFrom_0 rfl 1 rfl ?_
  refine zi_getR dX1_copyFrom_1 gf_X1_9 (fun v1 => ?_)
  refine zi_iconst (v := 0) dX1_copyFrom_4 (by decide) ?_
  refine zi_aload_n dX1_copyFrom_5 rfl 0 rfl ?_
  refine zi_getR dX1_copyFrom_6 gf_X1_9 (fun v2 => ?_)
  refine zi_iconst (v := 0) dX1_copyFrom_9 (by decide) ?_
  refine zi_bipush (v := 6) dX1_copyFrom_10 (by decide) ?_
  refine zi_acp dX1_copyFrom_12 ml_X1_22 ay_nat ay_stat ay_ini (Nat.le_of_ble_eq_true rfl) (Nat.le_of_ble_eq_true rfl) (fun h3 => ?_)
  refine zi_aload_n dX1_copyFrom_15 rfl 1 rfl ?_
  refine zi_getR dX1_copyFrom_16 gf_X1_15 (fun v4 => ?_)
  refine zi_iconst (v := 0) dX1_copyFrom_19 (by decide) ?_
  refine zi_aload_n dX1_copyFrom_20 rfl 0 rfl ?_
  refine zi_getR dX1_copyFrom_21 gf_X1_15 (fun v5 => ?_)
  refine zi_iconst (v := 0) dX1_copyFrom_24 (by decide) ?_
  refine zi_bipush (v := 6) dX1_copyFrom_25 (by decide) ?_
  refine zi_acp dX1_copyFrom_27 ml_X1_22 ay_nat ay_stat ay_ini (Nat.le_of_ble_eq_true rfl) (Nat.le_of_ble_eq_true rfl) (fun h6 => ?_)
  refine zi_aload_n dX1_copyFrom_30 rfl 0 rfl ?_
  refine zi_aload_n dX1_copyFrom_31 rfl 1 rfl ?_
  refine zi_getI dX1_copyFrom_32 gf_X1_18 (fun v7 => ?_)
  refine zi_putI dX1_copyFrom_35 gf_X1_18 (fun h8 => ?_)
  exact zi_retV dX1_copyFrom_38
set_option maxRecDepth 20000 in
set_option maxHeartbeats 1000000 in
theorem k_X3_keep (G : zG) (n : Nat) (a0 : Nat) (a1 : Nat) (a2 : Nat) (a3 : Nat) (h : zH) : zMet G yX3_keep cX3_keep 4 none zvU 4 [.ref (zbase G + a0), .ref (zbase G + a1), .ref (zbase G + a2), .ref (zbase G + a3)] h (f_X3_keep n a0 a1 a2 a3 h) := by
  refine zMet_of (l := [(0, .ref (zbase G + a0)), (1, .ref (zbase G + a1)), (2, .ref (zbase G + a2)), (3, .ref (zbase G + a3))]) (by decide) (Nat.le_of_ble_eq_true rfl) rfl ?_
  unfold f_X3_keep
  refine zi_aload_n dX3_keep_0 rfl 0 rfl ?_
  refine zi_getR dX3_keep_1 gf_X3_10 (fun v1 => ?_)
  refine zi_aload_n dX3_keep_4 rfl 1 rfl ?_
  refine zi_callVU (As := [.ref (zbase G + a1)]) (rest := []) (ci := 10) dX3_keep_5 ml_X3_36 md_X10_copyFrom mv_X10_copyFrom rfl (by decide) rfl rfl (Nat.le_of_ble_eq_true rfl) (Nat.le_of_ble_eq_true rfl) (k_X10_copyFrom G n v1 a1 h) (fun _ h3 => ?_)
  refine zi_aload_n dX3_keep_8 rfl 0 rfl ?_
  refine zi_getR dX3_keep_9 gf_X3_32 (fun v4 => ?_)
  refine zi_aload_n dX3_keep_12 rfl 2 rfl ?_
  refine zi_callVU (As := [.ref (zbase G + a2)]) (rest := []) (ci := 6) dX3_keep_13 ml_X3_40 md_X6_copyFrom mv_X6_copyFrom rfl (by decide) rfl rfl (Nat.le_of_ble_eq_true rfl) (Nat.le_of_ble_eq_true rfl) (k_X6_copyFrom G n v4 a2 h3) (fun _ h6 => ?_)
  refine zi_aload_n dX3_keep_16 rfl 0 rfl ?_
  refine zi_getR dX3_keep_17 gf_X3_19 (fun v7 => ?_)
  refine zi_aload_n dX3_keep_20 rfl 3 rfl ?_
  refine zi_callVU (As := [.ref (zbase G + a3)]) (rest := []) (ci := 1) dX3_keep_21 ml_X3_43 md_X1_copyFrom mv_X1_copyFrom rfl (by decide) rfl rfl (Nat.le_of_ble_eq_true rfl) (Nat.le_of_ble_eq_true rfl) (k_X1_copyFrom G n v7 a3 h6) (fun _ h9 => ?_)
  refine zi_aload_n dX3_keep_24 rfl 0 rfl ?_
  refine zi_iconst (v := 1) dX3_keep_25 (by decide) ?_
  refine zi_putZ dX3_keep_26 gf_X3_23 (fun h10 => ?_)
  exact zi_retV dX3_keep_29
set_option maxRecDepth 20000 in
set_option maxHeartbeats 1000000 in
theorem wb_X11_image_15 (G : zG) (n : Nat) (l0 : Nat) (l1 : Int32) (h : zH) : zW G yX11_image cX11_image 2 (some .int) zvI 5 15 [(0, .ref (zbase G + l0)), (1, .int l1)] [] h (fb_X11_image_15 n l0 l1 h) := by
  unfold fb_X11_image_15
  refine zi_aload_n dX11_image_15 rfl 0 rfl ?_
  refine zi_iload_n dX11_image_16 rfl 1 rfl ?_
  refine zi_callVR (As := [.int l1]) (rest := []) (ci := 11) dX11_image_17 ml_X11_363 md_X11_imageAt mv_X11_imageAt rfl (by decide) rfl rfl (Nat.le_of_ble_eq_true rfl) (Nat.le_of_ble_eq_true rfl) (k_X11_imageAt G n l0 l1 h) (fun r1 h2 => ?_)
  refine zi_aload_n dX11_image_20 rfl 0 rfl ?_
  refine zi_getR dX11_image_21 gf_X11_10 (fun v3 => ?_)
  refine zi_aload_n dX11_image_24 rfl 0 rfl ?_
  refine zi_getR dX11_image_25 gf_X11_31 (fun v4 => ?_)
  refine zi_aload_n dX11_image_28 rfl 0 rfl ?_
  refine zi_getR dX11_image_29 gf_X11_38 (fun v5 => ?_)
  refine zi_callVU (As := [.ref (zbase G + v3), .ref (zbase G + v4), .ref (zbase G + v5)]) (rest := []) (ci := 3) dX11_image_32 ml_X11_367 md_X3_keep mv_X3_keep rfl (by decide) rfl rfl (Nat.le_of_ble_eq_true rfl) (Nat.le_of_ble_eq_true rfl) (k_X3_keep G n r1 v3 v4 v5 h2) (fun _ h7 => ?_)
  refine zi_aload_n dX11_image_35 rfl 0 rfl ?_
  refine zi_iconst (v := 0) dX11_image_36 (by decide) ?_
  refine zi_callVI (As := [.int 0]) (rest := []) (ci := 11) dX11_image_37 ml_X11_192 md_X11_told mv_X11_told rfl (by decide) rfl rfl (Nat.le_of_ble_eq_true rfl) (Nat.le_of_ble_eq_true rfl) (k_X11_told G n l0 0 h7) (fun r8 h9 => ?_)
  exact zi_retI dX11_image_40
set_option maxRecDepth 20000 in
set_option maxHeartbeats 1000000 in
theorem k_X11_image (G : zG) (n : Nat) (a0 : Nat) (a1 : Int32) (h : zH) : zMet G yX11_image cX11_image 2 (some .int) zvI 5 [.ref (zbase G + a0), .int a1] h (f_X11_image n a0 a1 h) := by
  refine zMet_of (l := [(0, .ref (zbase G + a0)), (1, .int a1)]) (by decide) (Nat.le_of_ble_eq_true rfl) rfl ?_
  unfold f_X11_image
  refine zi_iload_n dX11_image_0 rfl 1 rfl ?_
  refine zi_if_eq (tgt := 15) dX11_image_1 (by decide) ?_ ?_
  · refine zi_sub [0, 1] rfl ?_
    exact wb_X11_image_15 G n a0 a1 h
  · refine zi_iload_n dX11_image_4 rfl 1 rfl ?_
    refine zi_iconst (v := 1) dX11_image_5 (by decide) ?_
    refine zi_icmp_eq (tgt := 15) dX11_image_6 (by decide) ?_ ?_
    · refine zi_sub [0, 1] rfl ?_
      exact wb_X11_image_15 G n a0 a1 h
    · refine zi_aload_n dX11_image_9 rfl 0 rfl ?_
      refine zi_iconst (v := (-1)) dX11_image_10 (by decide) ?_
      refine zi_callVI (As := [.int (-1)]) (rest := []) (ci := 11) dX11_image_11 ml_X11_192 md_X11_told mv_X11_told rfl (by decide) rfl rfl (Nat.le_of_ble_eq_true rfl) (Nat.le_of_ble_eq_true rfl) (k_X11_told G n a0 (-1) h) (fun r1 h2 => ?_)
      exact zi_retI dX11_image_14
set_option maxRecDepth 20000 in
set_option maxHeartbeats 1000000 in
theorem k_X3_giveBack (G : zG) (n : Nat) (a0 : Nat) (a1 : Nat) (a2 : Nat) (a3 : Nat) (h : zH) : zMet G yX3_giveBack cX3_giveBack 4 none zvU 4 [.ref (zbase G + a0), .ref (zbase G + a1), .ref (zbase G + a2), .ref (zbase G + a3)] h (f_X3_giveBack n a0 a1 a2 a3 h) := by
  refine zMet_of (l := [(0, .ref (zbase G + a0)), (1, .ref (zbase G + a1)), (2, .ref (zbase G + a2)), (3, .ref (zbase G + a3))]) (by decide) (Nat.le_of_ble_eq_true rfl) rfl ?_
  unfold f_X3_giveBack
  refine zi_aload_n dX3_giveBack_0 rfl 1 rfl ?_
  refine zi_aload_n dX3_giveBack_1 rfl 0 rfl ?_
  refine zi_getR dX3_giveBack_2 gf_X3_10 (fun v1 => ?_)
  refine zi_callVU (As := [.ref (zbase G + v1)]) (rest := []) (ci := 10) dX3_giveBack_5 ml_X3_36 md_X10_copyFrom mv_X10_copyFrom rfl (by decide) rfl rfl (Nat.le_of_ble_eq_true rfl) (Nat.le_of_ble_eq_true rfl) (k_X10_copyFrom G n a1 v1 h) (fun _ h3 => ?_)
  refine zi_aload_n dX3_giveBack_8 rfl 2 rfl ?_
  refine zi_aload_n dX3_giveBack_9 rfl 0 rfl ?_
  refine zi_getR dX3_giveBack_10 gf_X3_32 (fun v4 => ?_)
  refine zi_callVU (As := [.ref (zbase G + v4)]) (rest := []) (ci := 6) dX3_giveBack_13 ml_X3_40 md_X6_copyFrom mv_X6_copyFrom rfl (by decide) rfl rfl (Nat.le_of_ble_eq_true rfl) (Nat.le_of_ble_eq_true rfl) (k_X6_copyFrom G n a2 v4 h3) (fun _ h6 => ?_)
  refine zi_aload_n dX3_giveBack_16 rfl 3 rfl ?_
  refine zi_aload_n dX3_giveBack_17 rfl 0 rfl ?_
  refine zi_getR dX3_giveBack_18 gf_X3_19 (fun v7 => ?_)
  refine zi_callVU (As := [.ref (zbase G + v7)]) (rest := []) (ci := 1) dX3_giveBack_21 ml_X3_43 md_X1_copyFrom mv_X1_copyFrom rfl (by decide) rfl rfl (Nat.le_of_ble_eq_true rfl) (Nat.le_of_ble_eq_true rfl) (k_X1_copyFrom G n a3 v7 h6) (fun _ h9 => ?_)
  exact zi_retV dX3_giveBack_24
set_option maxRecDepth 20000 in
set_option maxHeartbeats 1000000 in
theorem wb_X11_back_15 (G : zG) (n : Nat) (l0 : Nat) (l1 : Int32) (h : zH) : zW G yX11_back cX11_back 2 (some .int) zvI 5 15 [(0, .ref (zbase G + l0)), (1, .int l1)] [] h (fb_X11_back_15 n l0 l1 h) := by
  unfold fb_X11_back_15
  refine zi_aload_n dX11_back_15 rfl 0 rfl ?_
  refine zi_iload_n dX11_back_16 rfl 1 rfl ?_
  refine zi_callVR (As := [.int l1]) (rest := []) (ci := 11) dX11_back_17 ml_X11_363 md_X11_imageAt mv_X11_imageAt rfl (by decide) rfl rfl (Nat.le_of_ble_eq_true rfl) (Nat.le_of_ble_eq_true rfl) (k_X11_imageAt G n l0 l1 h) (fun r1 h2 => ?_)
  refine zi_getZ dX11_back_20 gf_X11_371 (fun v3 => ?_)
  refine zi_if_ne (tgt := 33) dX11_back_23 (by decide) ?_ ?_
  · refine zi_aload_n dX11_back_33 rfl 0 rfl ?_
    refine zi_iload_n dX11_back_34 rfl 1 rfl ?_
    refine zi_callVR (As := [.int l1]) (rest := []) (ci := 11) dX11_back_35 ml_X11_363 md_X11_imageAt mv_X11_imageAt rfl (by decide) rfl rfl (Nat.le_of_ble_eq_true rfl) (Nat.le_of_ble_eq_true rfl) (k_X11_imageAt G n l0 l1 h2) (fun r4 h5 => ?_)
    refine zi_aload_n dX11_back_38 rfl 0 rfl ?_
    refine zi_getR dX11_back_39 gf_X11_10 (fun v6 => ?_)
    refine zi_aload_n dX11_back_42 rfl 0 rfl ?_
    refine zi_getR dX11_back_43 gf_X11_31 (fun v7 => ?_)
    refine zi_aload_n dX11_back_46 rfl 0 rfl ?_
    refine zi_getR dX11_back_47 gf_X11_38 (fun v8 => ?_)
    refine zi_callVU (As := [.ref (zbase G + v6), .ref (zbase G + v7), .ref (zbase G + v8)]) (rest := []) (ci := 3) dX11_back_50 ml_X11_374 md_X3_giveBack mv_X3_giveBack rfl (by decide) rfl rfl (Nat.le_of_ble_eq_true rfl) (Nat.le_of_ble_eq_true rfl) (k_X3_giveBack G n r4 v6 v7 v8 h5) (fun _ h10 => ?_)
    refine zi_aload_n dX11_back_53 rfl 0 rfl ?_
    refine zi_getR dX11_back_54 gf_X11_45 (fun v11 => ?_)
    refine zi_callVU (As := []) (rest := []) (ci := 2) dX11_back_57 ml_X11_207 md_X2_clear mv_X2_clear rfl (by decide) rfl rfl (Nat.le_of_ble_eq_true rfl) (Nat.le_of_ble_eq_true rfl) (k_X2_clear G n v11 h10) (fun _ h13 => ?_)
    refine zi_aload_n dX11_back_60 rfl 0 rfl ?_
    refine zi_iconst (v := 0) dX11_back_61 (by decide) ?_
    refine zi_callVI (As := [.int 0]) (rest := []) (ci := 11) dX11_back_62 ml_X11_192 md_X11_told mv_X11_told rfl (by decide) rfl rfl (Nat.le_of_ble_eq_true rfl) (Nat.le_of_ble_eq_true rfl) (k_X11_told G n l0 0 h13) (fun r14 h15 => ?_)
    exact zi_retI dX11_back_65
  · refine zi_aload_n dX11_back_26 rfl 0 rfl ?_
    refine zi_bipush (v := (-2)) dX11_back_27 (by decide) ?_
    refine zi_callVI (As := [.int (-2)]) (rest := []) (ci := 11) dX11_back_29 ml_X11_192 md_X11_told mv_X11_told rfl (by decide) rfl rfl (Nat.le_of_ble_eq_true rfl) (Nat.le_of_ble_eq_true rfl) (k_X11_told G n l0 (-2) h2) (fun r16 h17 => ?_)
    exact zi_retI dX11_back_32
set_option maxRecDepth 20000 in
set_option maxHeartbeats 1000000 in
theorem k_X11_back (G : zG) (n : Nat) (a0 : Nat) (a1 : Int32) (h : zH) : zMet G yX11_back cX11_back 2 (some .int) zvI 5 [.ref (zbase G + a0), .int a1] h (f_X11_back n a0 a1 h) := by
  refine zMet_of (l := [(0, .ref (zbase G + a0)), (1, .int a1)]) (by decide) (Nat.le_of_ble_eq_true rfl) rfl ?_
  unfold f_X11_back
  refine zi_iload_n dX11_back_0 rfl 1 rfl ?_
  refine zi_if_eq (tgt := 15) dX11_back_1 (by decide) ?_ ?_
  · refine zi_sub [0, 1] rfl ?_
    exact wb_X11_back_15 G n a0 a1 h
  · refine zi_iload_n dX11_back_4 rfl 1 rfl ?_
    refine zi_iconst (v := 1) dX11_back_5 (by decide) ?_
    refine zi_icmp_eq (tgt := 15) dX11_back_6 (by decide) ?_ ?_
    · refine zi_sub [0, 1] rfl ?_
      exact wb_X11_back_15 G n a0 a1 h
    · refine zi_aload_n dX11_back_9 rfl 0 rfl ?_
      refine zi_iconst (v := (-1)) dX11_back_10 (by decide) ?_
      refine zi_callVI (As := [.int (-1)]) (rest := []) (ci := 11) dX11_back_11 ml_X11_192 md_X11_told mv_X11_told rfl (by decide) rfl rfl (Nat.le_of_ble_eq_true rfl) (Nat.le_of_ble_eq_true rfl) (k_X11_told G n a0 (-1) h) (fun r1 h2 => ?_)
      exact zi_retI dX11_back_14
set_option maxRecDepth 20000 in
set_option maxHeartbeats 1000000 in
theorem wb_X0_liveCount_26 (G : zG) (n : Nat) (k4 : Nat → Int32 → Int32 → zH → Option (Int32 × zH)) (hk4 : ∀ (l0 : Nat) (l1 : Int32) (l2 : Int32) (h : zH), zW G yX0_liveCount cX0_liveCount 3 (some .int) zvI 1 4 [(0, .ref (zbase G + l0)), (1, .int l1), (2, .int l2)] [] h (k4 l0 l1 l2 h)) (l0 : Nat) (l2 : Int32) (s0 : Int32) (s1 : Int32) (h : zH) : zW G yX0_liveCount cX0_liveCount 3 (some .int) zvI 1 26 [(0, .ref (zbase G + l0)), (2, .int l2)] [.int s1, .int s0] h (fb_X0_liveCount_26 n k4 l0 l2 s0 s1 h) := by
  unfold fb_X0_liveCount_26
  refine zi_iadd dX0_liveCount_26 ?_
  refine zi_let (sf := fun x1 => .int x1 :: []) (fun x1 => ?_)
  refine zi_istore_n (l' := [(1, .int x1), (0, .ref (zbase G + l0)), (2, .int l2)]) dX0_liveCount_27 rfl (by decide) rfl ?_
  refine zi_iinc (j := 2) (v := l2 + 1) (l' := [(2, .int (l2 + 1)), (1, .int x1), (0, .ref (zbase G + l0))]) dX0_liveCount_28 rfl rfl (by decide) rfl ?_
  refine zi_goto (tgt := 4) dX0_liveCount_31 (by decide) ?_
  refine zi_sub [2, 1, 0] rfl ?_
  exact hk4 l0 x1 (l2 + 1) h
set_option maxRecDepth 20000 in
set_option maxHeartbeats 1000000 in
theorem wb_X0_liveCount_4 (G : zG) (n : Nat) (k4 : Nat → Int32 → Int32 → zH → Option (Int32 × zH)) (hk4 : ∀ (l0 : Nat) (l1 : Int32) (l2 : Int32) (h : zH), zW G yX0_liveCount cX0_liveCount 3 (some .int) zvI 1 4 [(0, .ref (zbase G + l0)), (1, .int l1), (2, .int l2)] [] h (k4 l0 l1 l2 h)) (l0 : Nat) (l1 : Int32) (l2 : Int32) (h : zH) : zW G yX0_liveCount cX0_liveCount 3 (some .int) zvI 1 4 [(0, .ref (zbase G + l0)), (1, .int l1), (2, .int l2)] [] h (fb_X0_liveCount_4 n k4 l0 l1 l2 h) := by
  unfold fb_X0_liveCount_4
  refine zi_iload_n dX0_liveCount_4 rfl 2 rfl ?_
  refine zi_bipush (v := 24) dX0_liveCount_5 (by decide) ?_
  refine zi_icmp_ge (tgt := 34) dX0_liveCount_7 (by decide) ?_ ?_
  · refine zi_iload_n dX0_liveCount_34 rfl 1 rfl ?_
    exact zi_retI dX0_liveCount_35
  · refine zi_iload_n dX0_liveCount_10 rfl 1 rfl ?_
    refine zi_aload_n dX0_liveCount_11 rfl 0 rfl ?_
    refine zi_getR dX0_liveCount_12 gf_X0_9 (fun v1 => ?_)
    refine zi_iload_n dX0_liveCount_15 rfl 2 rfl ?_
    refine zi_iald dX0_liveCount_16 (fun v2 => ?_)
    refine zi_iconst (v := 1) dX0_liveCount_17 (by decide) ?_
    refine zi_icmp_ne (tgt := 25) dX0_liveCount_18 (by decide) ?_ ?_
    · refine zi_iconst (v := 0) dX0_liveCount_25 (by decide) ?_
      refine zi_sub [0, 2] rfl ?_
      exact wb_X0_liveCount_26 G n k4 hk4 l0 l2 l1 0 h
    · refine zi_iconst (v := 1) dX0_liveCount_21 (by decide) ?_
      refine zi_goto (tgt := 26) dX0_liveCount_22 (by decide) ?_
      refine zi_sub [0, 2] rfl ?_
      exact wb_X0_liveCount_26 G n k4 hk4 l0 l2 l1 1 h
theorem wl_X0_liveCount_4 (G : zG) (n : Nat) : ∀ (t : Nat) (l0 : Nat) (l1 : Int32) (l2 : Int32) (h : zH), zW G yX0_liveCount cX0_liveCount 3 (some .int) zvI 1 4 [(0, .ref (zbase G + l0)), (1, .int l1), (2, .int l2)] [] h (zlp3 (fb_X0_liveCount_4 n ) t l0 l1 l2 h) := by
  intro t
  induction t with
  | zero => intros; exact zW_none
  | succ t ih => intro l0 l1 l2 h; rw [zlp3_s]; exact wb_X0_liveCount_4 G n  _  ih l0 l1 l2 h
set_option maxRecDepth 20000 in
set_option maxHeartbeats 1000000 in
theorem k_X0_liveCount (G : zG) (n : Nat) (a0 : Nat) (h : zH) : zMet G yX0_liveCount cX0_liveCount 3 (some .int) zvI 1 [.ref (zbase G + a0)] h (f_X0_liveCount n a0 h) := by
  refine zMet_of (l := [(0, .ref (zbase G + a0))]) (by decide) (Nat.le_of_ble_eq_true rfl) rfl ?_
  unfold f_X0_liveCount
  refine zi_iconst (v := 0) dX0_liveCount_0 (by decide) ?_
  refine zi_istore_n (l' := [(1, .int 0), (0, .ref (zbase G + a0))]) dX0_liveCount_1 rfl (by decide) rfl ?_
  refine zi_iconst (v := 0) dX0_liveCount_2 (by decide) ?_
  refine zi_istore_n (l' := [(2, .int 0), (1, .int 0), (0, .ref (zbase G + a0))]) dX0_liveCount_3 rfl (by decide) rfl ?_
  refine zi_sub [2, 1, 0] rfl ?_
  exact wl_X0_liveCount_4 G n n a0 0 0 h
set_option maxRecDepth 20000 in
set_option maxHeartbeats 1000000 in
theorem wb_X11_count_205 (G : zG) (n : Nat) (l0 : Nat) (l1 : Int32) (h : zH) : zW G yX11_count cX11_count 2 (some .int) zvI 2 205 [(0, .ref (zbase G + l0)), (1, .int l1)] [] h (fb_X11_count_205 n l0 l1 h) := by
  unfold fb_X11_count_205
  refine zi_iload_n dX11_count_205 rfl 1 rfl ?_
  refine zi_bipush (v := 16) dX11_count_206 (by decide) ?_
  refine zi_icmp_lt (tgt := 228) dX11_count_208 (by decide) ?_ ?_
  · refine zi_iconst (v := (-1)) dX11_count_228 (by decide) ?_
    exact zi_retI dX11_count_229
  · refine zi_iload_n dX11_count_211 rfl 1 rfl ?_
    refine zi_bipush (v := 18) dX11_count_212 (by decide) ?_
    refine zi_icmp_gt (tgt := 228) dX11_count_214 (by decide) ?_ ?_
    · refine zi_iconst (v := (-1)) dX11_count_228 (by decide) ?_
      exact zi_retI dX11_count_229
    · refine zi_aload_n dX11_count_217 rfl 0 rfl ?_
      refine zi_iload_n dX11_count_218 rfl 1 rfl ?_
      refine zi_bipush (v := 16) dX11_count_219 (by decide) ?_
      refine zi_isub dX11_count_221 ?_
      refine zi_callVI (As := [.int (l1 - 16)]) (rest := []) (ci := 11) dX11_count_222 ml_X11_195 md_X11_termNow mv_X11_termNow rfl (by decide) rfl rfl (Nat.le_of_ble_eq_true rfl) (Nat.le_of_ble_eq_true rfl) (k_X11_termNow G n l0 (l1 - 16) h) (fun r1 h2 => ?_)
      refine zi_goto (tgt := 229) dX11_count_225 (by decide) ?_
      exact zi_retI dX11_count_229
set_option maxRecDepth 20000 in
set_option maxHeartbeats 1000000 in
theorem wb_X11_count_22 (G : zG) (n : Nat) (l0 : Nat) (l1 : Int32) (h : zH) : zW G yX11_count cX11_count 2 (some .int) zvI 2 22 [(0, .ref (zbase G + l0)), (1, .int l1)] [] h (fb_X11_count_22 n l0 l1 h) := by
  unfold fb_X11_count_22
  refine zi_iload_n dX11_count_22 rfl 1 rfl ?_
  refine zi_tsw (tgt := 205) _ dX11_count_23 rfl ?_ (by decide) ?_ ?_
  · intro j q hq
    match j, hq with
    | 0, hq => cases hq; exact ⟨rfl, _, rfl, rfl⟩
    | 1, hq => cases hq; exact ⟨rfl, _, rfl, rfl⟩
    | 2, hq => cases hq; exact ⟨rfl, _, rfl, rfl⟩
    | 3, hq => cases hq; exact ⟨rfl, _, rfl, rfl⟩
    | 4, hq => cases hq; exact ⟨rfl, _, rfl, rfl⟩
    | 5, hq => cases hq; exact ⟨rfl, _, rfl, rfl⟩
    | 6, hq => cases hq; exact ⟨rfl, _, rfl, rfl⟩
    | 7, hq => cases hq; exact ⟨rfl, _, rfl, rfl⟩
    | 8, hq => cases hq; exact ⟨rfl, _, rfl, rfl⟩
    | 9, hq => cases hq; exact ⟨rfl, _, rfl, rfl⟩
    | 10, hq => cases hq; exact ⟨rfl, _, rfl, rfl⟩
    | 11, hq => cases hq; exact ⟨rfl, _, rfl, rfl⟩
    | 12, hq => cases hq; exact ⟨rfl, _, rfl, rfl⟩
    | 13, hq => cases hq; exact ⟨rfl, _, rfl, rfl⟩
    | 14, hq => cases hq; exact ⟨rfl, _, rfl, rfl⟩
    | 15, hq => cases hq; exact ⟨rfl, _, rfl, rfl⟩
    | j + 16, hq => simp at hq
  · simp only [List.forall_mem_cons, List.not_mem_nil, false_implies, implies_true, and_true]
    refine ⟨?_, ?_, ?_, ?_, ?_, ?_, ?_, ?_, ?_, ?_, ?_, ?_, ?_, ?_, ?_, ?_⟩
    · refine zi_aload_n dX11_count_100 rfl 0 rfl ?_
      refine zi_getR dX11_count_101 gf_X11_10 (fun v1 => ?_)
      refine zi_getR dX11_count_104 gf_X11_140 (fun v2 => ?_)
      refine zi_callVI (As := []) (rest := []) (ci := 0) dX11_count_107 ml_X11_377 md_X0_liveCount mv_X0_liveCount rfl (by decide) rfl rfl (Nat.le_of_ble_eq_true rfl) (Nat.le_of_ble_eq_true rfl) (k_X0_liveCount G n v2 h) (fun r3 h4 => ?_)
      exact zi_retI dX11_count_110
    · refine zi_aload_n dX11_count_111 rfl 0 rfl ?_
      refine zi_getR dX11_count_112 gf_X11_10 (fun v5 => ?_)
      refine zi_getR dX11_count_115 gf_X11_140 (fun v6 => ?_)
      refine zi_getI dX11_count_118 gf_X11_177 (fun v7 => ?_)
      exact zi_retI dX11_count_121
    · refine zi_aload_n dX11_count_122 rfl 0 rfl ?_
      refine zi_getR dX11_count_123 gf_X11_10 (fun v8 => ?_)
      refine zi_getR dX11_count_126 gf_X11_140 (fun v9 => ?_)
      refine zi_getI dX11_count_129 gf_X11_183 (fun v10 => ?_)
      exact zi_retI dX11_count_132
    · refine zi_aload_n dX11_count_133 rfl 0 rfl ?_
      refine zi_getR dX11_count_134 gf_X11_10 (fun v11 => ?_)
      refine zi_getI dX11_count_137 gf_X11_380 (fun v12 => ?_)
      exact zi_retI dX11_count_140
    · refine zi_aload_n dX11_count_141 rfl 0 rfl ?_
      refine zi_getR dX11_count_142 gf_X11_10 (fun v13 => ?_)
      refine zi_getZ dX11_count_145 gf_X11_170 (fun v14 => ?_)
      refine zi_if_eq (tgt := 155) dX11_count_148 (by decide) ?_ ?_
      · refine zi_iconst (v := 0) dX11_count_155 (by decide) ?_
        exact zi_retI dX11_count_156
      · refine zi_iconst (v := 1) dX11_count_151 (by decide) ?_
        refine zi_goto (tgt := 156) dX11_count_152 (by decide) ?_
        exact zi_retI dX11_count_156
    · refine zi_aload_n dX11_count_157 rfl 0 rfl ?_
      refine zi_getR dX11_count_158 gf_X11_10 (fun v15 => ?_)
      refine zi_getI dX11_count_161 gf_X11_383 (fun v16 => ?_)
      exact zi_retI dX11_count_164
    · refine zi_aload_n dX11_count_165 rfl 0 rfl ?_
      refine zi_getR dX11_count_166 gf_X11_38 (fun v17 => ?_)
      refine zi_getI dX11_count_169 gf_X11_319 (fun v18 => ?_)
      exact zi_retI dX11_count_172
    · refine zi_aload_n dX11_count_173 rfl 0 rfl ?_
      refine zi_getR dX11_count_174 gf_X11_31 (fun v19 => ?_)
      refine zi_getI dX11_count_177 gf_X11_224 (fun v20 => ?_)
      exact zi_retI dX11_count_180
    · refine zi_aload_n dX11_count_181 rfl 0 rfl ?_
      refine zi_getR dX11_count_182 gf_X11_45 (fun v21 => ?_)
      refine zi_getI dX11_count_185 gf_X11_386 (fun v22 => ?_)
      exact zi_retI dX11_count_188
    · refine zi_aload_n dX11_count_189 rfl 0 rfl ?_
      refine zi_getR dX11_count_190 gf_X11_65 (fun v23 => ?_)
      refine zi_getI dX11_count_193 gf_X11_210 (fun v24 => ?_)
      exact zi_retI dX11_count_196
    · refine zi_sub [0, 1] rfl ?_
      exact wb_X11_count_205 G n l0 l1 h
    · refine zi_sub [0, 1] rfl ?_
      exact wb_X11_count_205 G n l0 l1 h
    · refine zi_sub [0, 1] rfl ?_
      exact wb_X11_count_205 G n l0 l1 h
    · refine zi_sub [0, 1] rfl ?_
      exact wb_X11_count_205 G n l0 l1 h
    · refine zi_sub [0, 1] rfl ?_
      exact wb_X11_count_205 G n l0 l1 h
    · refine zi_aload_n dX11_count_197 rfl 0 rfl ?_
      refine zi_getR dX11_count_198 gf_X11_31 (fun v25 => ?_)
      refine zi_getI dX11_count_201 gf_X11_265 (fun v26 => ?_)
      exact zi_retI dX11_count_204
  · refine zi_sub [0, 1] rfl ?_
    exact wb_X11_count_205 G n l0 l1 h
set_option maxRecDepth 20000 in
set_option maxHeartbeats 1000000 in
theorem k_X11_count (G : zG) (n : Nat) (a0 : Nat) (a1 : Int32) (h : zH) : zMet G yX11_count cX11_count 2 (some .int) zvI 2 [.ref (zbase G + a0), .int a1] h (f_X11_count n a0 a1 h) := by
  refine zMet_of (l := [(0, .ref (zbase G + a0)), (1, .int a1)]) (by decide) (Nat.le_of_ble_eq_true rfl) rfl ?_
  unfold f_X11_count
  refine zi_iload_n dX11_count_0 rfl 1 rfl ?_
  refine zi_bipush (v := 10) dX11_count_1 (by decide) ?_
  refine zi_icmp_lt (tgt := 22) dX11_count_3 (by decide) ?_ ?_
  · refine zi_sub [0, 1] rfl ?_
    exact wb_X11_count_22 G n a0 a1 h
  · refine zi_iload_n dX11_count_6 rfl 1 rfl ?_
    refine zi_bipush (v := 14) dX11_count_7 (by decide) ?_
    refine zi_icmp_gt (tgt := 22) dX11_count_9 (by decide) ?_ ?_
    · refine zi_sub [0, 1] rfl ?_
      exact wb_X11_count_22 G n a0 a1 h
    · refine zi_aload_n dX11_count_12 rfl 0 rfl ?_
      refine zi_getR dX11_count_13 gf_X11_76 (fun v1 => ?_)
      refine zi_iload_n dX11_count_16 rfl 1 rfl ?_
      refine zi_bipush (v := 10) dX11_count_17 (by decide) ?_
      refine zi_isub dX11_count_19 ?_
      refine zi_iald dX11_count_20 (fun v2 => ?_)
      exact zi_retI dX11_count_21
set_option maxRecDepth 20000 in
set_option maxHeartbeats 1000000 in
theorem k_X11_status (G : zG) (n : Nat) (a0 : Nat) (h : zH) : zMet G yX11_status cX11_status 1 (some .int) zvI 1 [.ref (zbase G + a0)] h (f_X11_status n a0 h) := by
  refine zMet_of (l := [(0, .ref (zbase G + a0))]) (by decide) (Nat.le_of_ble_eq_true rfl) rfl ?_
  unfold f_X11_status
  refine zi_aload_n dX11_status_0 rfl 0 rfl ?_
  refine zi_getI dX11_status_1 gf_X11_103 (fun v1 => ?_)
  exact zi_retI dX11_status_4
set_option maxRecDepth 20000 in
set_option maxHeartbeats 1000000 in
theorem k_X12_lies (G : zG) (n : Nat) (a0 : Int32) (a1 : Int32) (a2 : Int32) (h : zH) : zMet G yX12_lies cX12_lies 3 (some .boolean) zvI 1 [.int a0, .int a1, .int a2] h (f_X12_lies n a0 a1 a2 h) := by
  refine zMet_of (l := [(0, .int a0), (1, .int a1), (2, .int a2)]) (by decide) (Nat.le_of_ble_eq_true rfl) rfl ?_
  unfold f_X12_lies
  refine zi_iload_n dX12_lies_0 rfl 0 rfl ?_
  refine zi_iload_n dX12_lies_1 rfl 1 rfl ?_
  refine zi_icmp_lt (tgt := 14) dX12_lies_2 (by decide) ?_ ?_
  · refine zi_iconst (v := 0) dX12_lies_14 (by decide) ?_
    exact zi_ret0 dX12_lies_15
  · refine zi_iload_n dX12_lies_5 rfl 0 rfl ?_
    refine zi_iload_n dX12_lies_6 rfl 2 rfl ?_
    refine zi_icmp_gt (tgt := 14) dX12_lies_7 (by decide) ?_ ?_
    · refine zi_iconst (v := 0) dX12_lies_14 (by decide) ?_
      exact zi_ret0 dX12_lies_15
    · refine zi_iconst (v := 1) dX12_lies_10 (by decide) ?_
      refine zi_goto (tgt := 15) dX12_lies_11 (by decide) ?_
      exact zi_ret1 dX12_lies_15
set_option maxRecDepth 20000 in
set_option maxHeartbeats 1000000 in
theorem k_X12_lesser (G : zG) (n : Nat) (a0 : Int32) (a1 : Int32) (h : zH) : zMet G yX12_lesser cX12_lesser 2 (some .int) zvI 1 [.int a0, .int a1] h (f_X12_lesser n a0 a1 h) := by
  refine zMet_of (l := [(0, .int a0), (1, .int a1)]) (by decide) (Nat.le_of_ble_eq_true rfl) rfl ?_
  unfold f_X12_lesser
  refine zi_iload_n dX12_lesser_0 rfl 0 rfl ?_
  refine zi_iload_n dX12_lesser_1 rfl 1 rfl ?_
  refine zi_icmp_ge (tgt := 9) dX12_lesser_2 (by decide) ?_ ?_
  · refine zi_iload_n dX12_lesser_9 rfl 1 rfl ?_
    exact zi_retI dX12_lesser_10
  · refine zi_iload_n dX12_lesser_5 rfl 0 rfl ?_
    refine zi_goto (tgt := 10) dX12_lesser_6 (by decide) ?_
    exact zi_retI dX12_lesser_10
set_option maxRecDepth 20000 in
set_option maxHeartbeats 1000000 in
theorem k_X12_greater (G : zG) (n : Nat) (a0 : Int32) (a1 : Int32) (h : zH) : zMet G yX12_greater cX12_greater 2 (some .int) zvI 1 [.int a0, .int a1] h (f_X12_greater n a0 a1 h) := by
  refine zMet_of (l := [(0, .int a0), (1, .int a1)]) (by decide) (Nat.le_of_ble_eq_true rfl) rfl ?_
  unfold f_X12_greater
  refine zi_iload_n dX12_greater_0 rfl 0 rfl ?_
  refine zi_iload_n dX12_greater_1 rfl 1 rfl ?_
  refine zi_icmp_le (tgt := 9) dX12_greater_2 (by decide) ?_ ?_
  · refine zi_iload_n dX12_greater_9 rfl 1 rfl ?_
    exact zi_retI dX12_greater_10
  · refine zi_iload_n dX12_greater_5 rfl 0 rfl ?_
    refine zi_goto (tgt := 10) dX12_greater_6 (by decide) ?_
    exact zi_retI dX12_greater_10
set_option maxRecDepth 20000 in
set_option maxHeartbeats 1000000 in
theorem k_X12_refuses (G : zG) (n : Nat) (a0 : Nat) (a1 : Int32) (h : zH) : zMet G yX12_refuses cX12_refuses 2 (some .int) zvI 1 [.ref (zbase G + a0), .int a1] h (f_X12_refuses n a0 a1 h) := by
  refine zMet_of (l := [(0, .ref (zbase G + a0)), (1, .int a1)]) (by decide) (Nat.le_of_ble_eq_true rfl) rfl ?_
  unfold f_X12_refuses
  refine zi_aload_n dX12_refuses_0 rfl 0 rfl ?_
  refine zi_iload_n dX12_refuses_1 rfl 1 rfl ?_
  refine zi_putI dX12_refuses_2 gf_X12_3 (fun h1 => ?_)
  refine zi_aload_n dX12_refuses_5 rfl 0 rfl ?_
  refine zi_getR dX12_refuses_6 gf_X12_7 (fun v2 => ?_)
  refine zi_iload_n dX12_refuses_9 rfl 1 rfl ?_
  refine zi_ineg dX12_refuses_10 ?_
  refine zi_dup2 dX12_refuses_11 rfl rfl ?_
  refine zi_iald dX12_refuses_12 (fun v3 => ?_)
  refine zi_iconst (v := 1) dX12_refuses_13 (by decide) ?_
  refine zi_iadd dX12_refuses_14 ?_
  refine zi_iast dX12_refuses_15 (fun h4 => ?_)
  refine zi_iload_n dX12_refuses_16 rfl 1 rfl ?_
  exact zi_retI dX12_refuses_17
set_option maxRecDepth 20000 in
set_option maxHeartbeats 1000000 in
theorem k_X12_good (G : zG) (n : Nat) (a0 : Nat) (a1 : Int32) (h : zH) : zMet G yX12_good cX12_good 2 (some .int) zvI 1 [.ref (zbase G + a0), .int a1] h (f_X12_good n a0 a1 h) := by
  refine zMet_of (l := [(0, .ref (zbase G + a0)), (1, .int a1)]) (by decide) (Nat.le_of_ble_eq_true rfl) rfl ?_
  unfold f_X12_good
  refine zi_aload_n dX12_good_0 rfl 0 rfl ?_
  refine zi_iconst (v := 0) dX12_good_1 (by decide) ?_
  refine zi_putI dX12_good_2 gf_X12_3 (fun h1 => ?_)
  refine zi_iload_n dX12_good_5 rfl 1 rfl ?_
  exact zi_retI dX12_good_6
set_option maxRecDepth 20000 in
set_option maxHeartbeats 1000000 in
theorem k_X12_settled (G : zG) (n : Nat) (a0 : Nat) (a1 : Int32) (h : zH) : zMet G yX12_settled cX12_settled 2 (some .int) zvI 2 [.ref (zbase G + a0), .int a1] h (f_X12_settled n a0 a1 h) := by
  refine zMet_of (l := [(0, .ref (zbase G + a0)), (1, .int a1)]) (by decide) (Nat.le_of_ble_eq_true rfl) rfl ?_
  unfold f_X12_settled
  refine zi_aload_n dX12_settled_0 rfl 0 rfl ?_
  refine zi_iconst (v := 0) dX12_settled_1 (by decide) ?_
  refine zi_putI dX12_settled_2 gf_X12_11 (fun h1 => ?_)
  refine zi_aload_n dX12_settled_5 rfl 0 rfl ?_
  refine zi_iload_n dX12_settled_6 rfl 1 rfl ?_
  refine zi_callVI (As := [.int a1]) (rest := []) (ci := 12) dX12_settled_7 ml_X12_14 md_X12_good mv_X12_good rfl (by decide) rfl rfl (Nat.le_of_ble_eq_true rfl) (Nat.le_of_ble_eq_true rfl) (k_X12_good G n a0 a1 h1) (fun r2 h3 => ?_)
  exact zi_retI dX12_settled_10
set_option maxRecDepth 20000 in
set_option maxHeartbeats 1000000 in
theorem k_X12_isIn (G : zG) (n : Nat) (a0 : Int32) (a1 : Int32) (h : zH) : zMet G yX12_isIn cX12_isIn 2 (some .boolean) zvI 1 [.int a0, .int a1] h (f_X12_isIn n a0 a1 h) := by
  refine zMet_of (l := [(0, .int a0), (1, .int a1)]) (by decide) (Nat.le_of_ble_eq_true rfl) rfl ?_
  unfold f_X12_isIn
  refine zi_iload_n dX12_isIn_0 rfl 0 rfl ?_
  refine zi_iload_n dX12_isIn_1 rfl 1 rfl ?_
  refine zi_ishr dX12_isIn_2 ?_
  refine zi_iconst (v := 1) dX12_isIn_3 (by decide) ?_
  refine zi_iand dX12_isIn_4 ?_
  refine zi_iconst (v := 1) dX12_isIn_5 (by decide) ?_
  refine zi_icmp_ne (tgt := 13) dX12_isIn_6 (by decide) ?_ ?_
  · refine zi_iconst (v := 0) dX12_isIn_13 (by decide) ?_
    exact zi_ret0 dX12_isIn_14
  · refine zi_iconst (v := 1) dX12_isIn_9 (by decide) ?_
    refine zi_goto (tgt := 14) dX12_isIn_10 (by decide) ?_
    exact zi_ret1 dX12_isIn_14
set_option maxRecDepth 20000 in
set_option maxHeartbeats 1000000 in
theorem k_X12_isProcessor (G : zG) (n : Nat) (a0 : Int32) (h : zH) : zMet G yX12_isProcessor cX12_isProcessor 1 (some .boolean) zvI 2 [.int a0] h (f_X12_isProcessor n a0 h) := by
  refine zMet_of (l := [(0, .int a0)]) (by decide) (Nat.le_of_ble_eq_true rfl) rfl ?_
  unfold f_X12_isProcessor
  refine zi_iload_n dX12_isProcessor_0 rfl 0 rfl ?_
  refine zi_iconst (v := 0) dX12_isProcessor_1 (by decide) ?_
  refine zi_bipush (v := 7) dX12_isProcessor_2 (by decide) ?_
  refine zi_callSI (As := [.int a0, .int 0, .int 7]) (rest := []) dX12_isProcessor_4 ml_X12_18 md_X12_lies ms_X12_lies rfl rfl (Nat.le_of_ble_eq_true rfl) (Nat.le_of_ble_eq_true rfl) (k_X12_lies G n a0 0 7 h) (fun r1 h2 => ?_)
  exact zi_retZ dX12_isProcessor_7
set_option maxRecDepth 20000 in
set_option maxHeartbeats 1000000 in
theorem k_X12_isCell (G : zG) (n : Nat) (a0 : Int32) (h : zH) : zMet G yX12_isCell cX12_isCell 1 (some .boolean) zvI 2 [.int a0] h (f_X12_isCell n a0 h) := by
  refine zMet_of (l := [(0, .int a0)]) (by decide) (Nat.le_of_ble_eq_true rfl) rfl ?_
  unfold f_X12_isCell
  refine zi_iload_n dX12_isCell_0 rfl 0 rfl ?_
  refine zi_iconst (v := 0) dX12_isCell_1 (by decide) ?_
  refine zi_bipush (v := 23) dX12_isCell_2 (by decide) ?_
  refine zi_callSI (As := [.int a0, .int 0, .int 23]) (rest := []) dX12_isCell_4 ml_X12_18 md_X12_lies ms_X12_lies rfl rfl (Nat.le_of_ble_eq_true rfl) (Nat.le_of_ble_eq_true rfl) (k_X12_lies G n a0 0 23 h) (fun r1 h2 => ?_)
  exact zi_retZ dX12_isCell_7
set_option maxRecDepth 20000 in
set_option maxHeartbeats 1000000 in
theorem k_X12_isKey (G : zG) (n : Nat) (a0 : Int32) (h : zH) : zMet G yX12_isKey cX12_isKey 1 (some .boolean) zvI 2 [.int a0] h (f_X12_isKey n a0 h) := by
  refine zMet_of (l := [(0, .int a0)]) (by decide) (Nat.le_of_ble_eq_true rfl) rfl ?_
  unfold f_X12_isKey
  refine zi_iload_n dX12_isKey_0 rfl 0 rfl ?_
  refine zi_iconst (v := 0) dX12_isKey_1 (by decide) ?_
  refine zi_bipush (v := 99) dX12_isKey_2 (by decide) ?_
  refine zi_callSI (As := [.int a0, .int 0, .int 99]) (rest := []) dX12_isKey_4 ml_X12_18 md_X12_lies ms_X12_lies rfl rfl (Nat.le_of_ble_eq_true rfl) (Nat.le_of_ble_eq_true rfl) (k_X12_lies G n a0 0 99 h) (fun r1 h2 => ?_)
  exact zi_retZ dX12_isKey_7
set_option maxRecDepth 20000 in
set_option maxHeartbeats 1000000 in
theorem k_X12_leafOf (G : zG) (n : Nat) (a0 : Int32) (h : zH) : zMet G yX12_leafOf cX12_leafOf 1 (some .int) zvI 1 [.int a0] h (f_X12_leafOf n a0 h) := by
  refine zMet_of (l := [(0, .int a0)]) (by decide) (Nat.le_of_ble_eq_true rfl) rfl ?_
  unfold f_X12_leafOf
  refine zi_iconst (v := 4) dX12_leafOf_0 (by decide) ?_
  refine zi_iload_n dX12_leafOf_1 rfl 0 rfl ?_
  refine zi_iconst (v := 2) dX12_leafOf_2 (by decide) ?_
  refine zi_idiv dX12_leafOf_3 (by decide) ?_
  refine zi_iadd dX12_leafOf_4 ?_
  exact zi_retI dX12_leafOf_5
set_option maxRecDepth 20000 in
set_option maxHeartbeats 1000000 in
theorem k_X12_levelOf (G : zG) (n : Nat) (a0 : Int32) (h : zH) : zMet G yX12_levelOf cX12_levelOf 1 (some .int) zvI 1 [.int a0] h (f_X12_levelOf n a0 h) := by
  refine zMet_of (l := [(0, .int a0)]) (by decide) (Nat.le_of_ble_eq_true rfl) rfl ?_
  unfold f_X12_levelOf
  refine zi_iload_n dX12_levelOf_0 rfl 0 rfl ?_
  refine zi_iconst (v := 1) dX12_levelOf_1 (by decide) ?_
  refine zi_icmp_ne (tgt := 9) dX12_levelOf_2 (by decide) ?_ ?_
  · refine zi_iload_n dX12_levelOf_9 rfl 0 rfl ?_
    refine zi_iconst (v := 4) dX12_levelOf_10 (by decide) ?_
    refine zi_icmp_ge (tgt := 18) dX12_levelOf_11 (by decide) ?_ ?_
    · refine zi_iconst (v := 2) dX12_levelOf_18 (by decide) ?_
      exact zi_retI dX12_levelOf_19
    · refine zi_iconst (v := 1) dX12_levelOf_14 (by decide) ?_
      refine zi_goto (tgt := 19) dX12_levelOf_15 (by decide) ?_
      exact zi_retI dX12_levelOf_19
  · refine zi_iconst (v := 0) dX12_levelOf_5 (by decide) ?_
    refine zi_goto (tgt := 19) dX12_levelOf_6 (by decide) ?_
    exact zi_retI dX12_levelOf_19
set_option maxRecDepth 20000 in
set_option maxHeartbeats 1000000 in
theorem k_X12_init (G : zG) (n : Nat) (a0 : Nat) (h : zH) : zMet G yX12_init cX12_init 1 none zvU 2 [.ref (zbase G + a0)] h (f_X12_init n a0 h) := by
  refine zMet_of (l := [(0, .ref (zbase G + a0))]) (by decide) (Nat.le_of_ble_eq_true rfl) rfl ?_
  unfold f_X12_init
  refine zi_aload_n dX12_init_0 rfl 0 rfl ?_
  refine zi_objInit dX12_init_1 ml_X12_22 oi_inst oi_code (Nat.le_of_ble_eq_true rfl) (Nat.le_of_ble_eq_true rfl) ?_
  refine zi_aload_n dX12_init_4 rfl 0 rfl ?_
  refine zi_bipush (v := 7) dX12_init_5 (by decide) ?_
  refine zi_newaI dX12_init_7 (fun r1 h2 _ => ?_) ac_int
  refine zi_putQF dX12_init_9 gf_X12_7 rfl rfl (fun h3 => ?_)
  refine zi_aload_n dX12_init_12 rfl 0 rfl ?_
  refine zi_sipush (v := 5815) dX12_init_13 (by decide) ?_
  refine zi_newaI dX12_init_16 (fun r4 h5 _ => ?_) ac_int
  refine zi_putQF dX12_init_18 gf_X12_28 rfl rfl (fun h6 => ?_)
  refine zi_aload_n dX12_init_21 rfl 0 rfl ?_
  refine zi_sipush (v := 11630) dX12_init_22 (by decide) ?_
  refine zi_newaI dX12_init_25 (fun r7 h8 _ => ?_) ac_int
  refine zi_putQF dX12_init_27 gf_X12_31 rfl rfl (fun h9 => ?_)
  refine zi_aload_n dX12_init_30 rfl 0 rfl ?_
  refine zi_iconst (v := 2) dX12_init_31 (by decide) ?_
  refine zi_newaZ dX12_init_32 (fun r10 h11 _ => ?_) ac_boolean
  refine zi_putQF dX12_init_34 gf_X12_34 rfl rfl (fun h12 => ?_)
  refine zi_aload_n dX12_init_37 rfl 0 rfl ?_
  refine zi_sipush (v := 573) dX12_init_38 (by decide) ?_
  refine zi_newaI dX12_init_41 (fun r13 h14 _ => ?_) ac_int
  refine zi_putQF dX12_init_43 gf_X12_38 rfl rfl (fun h15 => ?_)
  refine zi_aload_n dX12_init_46 rfl 0 rfl ?_
  refine zi_sipush (v := 146) dX12_init_47 (by decide) ?_
  refine zi_newaB dX12_init_50 (fun r16 h17 _ => ?_) ac_byte
  refine zi_dup dX12_init_52 rfl ?_
  refine zi_iconst (v := 0) dX12_init_53 (by decide) ?_
  refine zi_bipush (v := 99) dX12_init_54 (by decide) ?_
  refine zi_bast dX12_init_56 (fun h18 => ?_)
  refine zi_dup dX12_init_57 rfl ?_
  refine zi_iconst (v := 1) dX12_init_58 (by decide) ?_
  refine zi_bipush (v := 111) dX12_init_59 (by decide) ?_
  refine zi_bast dX12_init_61 (fun h19 => ?_)
  refine zi_dup dX12_init_62 rfl ?_
  refine zi_iconst (v := 2) dX12_init_63 (by decide) ?_
  refine zi_bipush (v := 115) dX12_init_64 (by decide) ?_
  refine zi_bast dX12_init_66 (fun h20 => ?_)
  refine zi_dup dX12_init_67 rfl ?_
  refine zi_iconst (v := 3) dX12_init_68 (by decide) ?_
  refine zi_bipush (v := 116) dX12_init_69 (by decide) ?_
  refine zi_bast dX12_init_71 (fun h21 => ?_)
  refine zi_dup dX12_init_72 rfl ?_
  refine zi_iconst (v := 4) dX12_init_73 (by decide) ?_
  refine zi_bipush (v := 115) dX12_init_74 (by decide) ?_
  refine zi_bast dX12_init_76 (fun h22 => ?_)
  refine zi_dup dX12_init_77 rfl ?_
  refine zi_iconst (v := 5) dX12_init_78 (by decide) ?_
  refine zi_bipush (v := 32) dX12_init_79 (by decide) ?_
  refine zi_bast dX12_init_81 (fun h23 => ?_)
  refine zi_dup dX12_init_82 rfl ?_
  refine zi_bipush (v := 6) dX12_init_83 (by decide) ?_
  refine zi_bipush (v := 98) dX12_init_85 (by decide) ?_
  refine zi_bast dX12_init_87 (fun h24 => ?_)
  refine zi_dup dX12_init_88 rfl ?_
  refine zi_bipush (v := 7) dX12_init_89 (by decide) ?_
  refine zi_bipush (v := 97) dX12_init_91 (by decide) ?_
  refine zi_bast dX12_init_93 (fun h25 => ?_)
  refine zi_dup dX12_init_94 rfl ?_
  refine zi_bipush (v := 8) dX12_init_95 (by decide) ?_
  refine zi_bipush (v := 114) dX12_init_97 (by decide) ?_
  refine zi_bast dX12_init_99 (fun h26 => ?_)
  refine zi_dup dX12_init_100 rfl ?_
  refine zi_bipush (v := 9) dX12_init_101 (by decide) ?_
  refine zi_bipush (v := 115) dX12_init_103 (by decide) ?_
  refine zi_bast dX12_init_105 (fun h27 => ?_)
  refine zi_dup dX12_init_106 rfl ?_
  refine zi_bipush (v := 10) dX12_init_107 (by decide) ?_
  refine zi_bipush (v := 32) dX12_init_109 (by decide) ?_
  refine zi_bast dX12_init_111 (fun h28 => ?_)
  refine zi_dup dX12_init_112 rfl ?_
  refine zi_bipush (v := 11) dX12_init_113 (by decide) ?_
  refine zi_bipush (v := 105) dX12_init_115 (by decide) ?_
  refine zi_bast dX12_init_117 (fun h29 => ?_)
  refine zi_dup dX12_init_118 rfl ?_
  refine zi_bipush (v := 12) dX12_init_119 (by decide) ?_
  refine zi_bipush (v := 102) dX12_init_121 (by decide) ?_
  refine zi_bast dX12_init_123 (fun h30 => ?_)
  refine zi_dup dX12_init_124 rfl ?_
  refine zi_bipush (v := 13) dX12_init_125 (by decide) ?_
  refine zi_bipush (v := 32) dX12_init_127 (by decide) ?_
  refine zi_bast dX12_init_129 (fun h31 => ?_)
  refine zi_dup dX12_init_130 rfl ?_
  refine zi_bipush (v := 14) dX12_init_131 (by decide) ?_
  refine zi_bipush (v := 111) dX12_init_133 (by decide) ?_
  refine zi_bast dX12_init_135 (fun h32 => ?_)
  refine zi_dup dX12_init_136 rfl ?_
  refine zi_bipush (v := 15) dX12_init_137 (by decide) ?_
  refine zi_bipush (v := 114) dX12_init_139 (by decide) ?_
  refine zi_bast dX12_init_141 (fun h33 => ?_)
  refine zi_dup dX12_init_142 rfl ?_
  refine zi_bipush (v := 16) dX12_init_143 (by decide) ?_
  refine zi_bipush (v := 32) dX12_init_145 (by decide) ?_
  refine zi_bast dX12_init_147 (fun h34 => ?_)
  refine zi_dup dX12_init_148 rfl ?_
  refine zi_bipush (v := 17) dX12_init_149 (by decide) ?_
  refine zi_bipush (v := 97) dX12_init_151 (by decide) ?_
  refine zi_bast dX12_init_153 (fun h35 => ?_)
  refine zi_dup dX12_init_154 rfl ?_
  refine zi_bipush (v := 18) dX12_init_155 (by decide) ?_
  refine zi_bipush (v := 110) dX12_init_157 (by decide) ?_
  refine zi_bast dX12_init_159 (fun h36 => ?_)
  refine zi_dup dX12_init_160 rfl ?_
  refine zi_bipush (v := 19) dX12_init_161 (by decide) ?_
  refine zi_bipush (v := 100) dX12_init_163 (by decide) ?_
  refine zi_bast dX12_init_165 (fun h37 => ?_)
  refine zi_dup dX12_init_166 rfl ?_
  refine zi_bipush (v := 20) dX12_init_167 (by decide) ?_
  refine zi_bipush (v := 32) dX12_init_169 (by decide) ?_
  refine zi_bast dX12_init_171 (fun h38 => ?_)
  refine zi_dup dX12_init_172 rfl ?_
  refine zi_bipush (v := 21) dX12_init_173 (by decide) ?_
  refine zi_bipush (v := 110) dX12_init_175 (by decide) ?_
  refine zi_bast dX12_init_177 (fun h39 => ?_)
  refine zi_dup dX12_init_178 rfl ?_
  refine zi_bipush (v := 22) dX12_init_179 (by decide) ?_
  refine zi_bipush (v := 111) dX12_init_181 (by decide) ?_
  refine zi_bast dX12_init_183 (fun h40 => ?_)
  refine zi_dup dX12_init_184 rfl ?_
  refine zi_bipush (v := 23) dX12_init_185 (by decide) ?_
  refine zi_bipush (v := 116) dX12_init_187 (by decide) ?_
  refine zi_bast dX12_init_189 (fun h41 => ?_)
  refine zi_dup dX12_init_190 rfl ?_
  refine zi_bipush (v := 24) dX12_init_191 (by decide) ?_
  refine zi_bipush (v := 32) dX12_init_193 (by decide) ?_
  refine zi_bast dX12_init_195 (fun h42 => ?_)
  refine zi_dup dX12_init_196 rfl ?_
  refine zi_bipush (v := 25) dX12_init_197 (by decide) ?_
  refine zi_bipush (v := 110) dX12_init_199 (by decide) ?_
  refine zi_bast dX12_init_201 (fun h43 => ?_)
  refine zi_dup dX12_init_202 rfl ?_
  refine zi_bipush (v := 26) dX12_init_203 (by decide) ?_
  refine zi_bipush (v := 111) dX12_init_205 (by decide) ?_
  refine zi_bast dX12_init_207 (fun h44 => ?_)
  refine zi_dup dX12_init_208 rfl ?_
  refine zi_bipush (v := 27) dX12_init_209 (by decide) ?_
  refine zi_bipush (v := 100) dX12_init_211 (by decide) ?_
  refine zi_bast dX12_init_213 (fun h45 => ?_)
  refine zi_dup dX12_init_214 rfl ?_
  refine zi_bipush (v := 28) dX12_init_215 (by decide) ?_
  refine zi_bipush (v := 101) dX12_init_217 (by decide) ?_
  refine zi_bast dX12_init_219 (fun h46 => ?_)
  refine zi_dup dX12_init_220 rfl ?_
  refine zi_bipush (v := 29) dX12_init_221 (by decide) ?_
  refine zi_bipush (v := 32) dX12_init_223 (by decide) ?_
  refine zi_bast dX12_init_225 (fun h47 => ?_)
  refine zi_dup dX12_init_226 rfl ?_
  refine zi_bipush (v := 30) dX12_init_227 (by decide) ?_
  refine zi_bipush (v := 108) dX12_init_229 (by decide) ?_
  refine zi_bast dX12_init_231 (fun h48 => ?_)
  refine zi_dup dX12_init_232 rfl ?_
  refine zi_bipush (v := 31) dX12_init_233 (by decide) ?_
  refine zi_bipush (v := 101) dX12_init_235 (by decide) ?_
  refine zi_bast dX12_init_237 (fun h49 => ?_)
  refine zi_dup dX12_init_238 rfl ?_
  refine zi_bipush (v := 32) dX12_init_239 (by decide) ?_
  refine zi_bipush (v := 118) dX12_init_241 (by decide) ?_
  refine zi_bast dX12_init_243 (fun h50 => ?_)
  refine zi_dup dX12_init_244 rfl ?_
  refine zi_bipush (v := 33) dX12_init_245 (by decide) ?_
  refine zi_bipush (v := 101) dX12_init_247 (by decide) ?_
  refine zi_bast dX12_init_249 (fun h51 => ?_)
  refine zi_dup dX12_init_250 rfl ?_
  refine zi_bipush (v := 34) dX12_init_251 (by decide) ?_
  refine zi_bipush (v := 108) dX12_init_253 (by decide) ?_
  refine zi_bast dX12_init_255 (fun h52 => ?_)
  refine zi_dup dX12_init_256 rfl ?_
  refine zi_bipush (v := 35) dX12_init_257 (by decide) ?_
  refine zi_bipush (v := 32) dX12_init_259 (by decide) ?_
  refine zi_bast dX12_init_261 (fun h53 => ?_)
  refine zi_dup dX12_init_262 rfl ?_
  refine zi_bipush (v := 36) dX12_init_263 (by decide) ?_
  refine zi_bipush (v := 99) dX12_init_265 (by decide) ?_
  refine zi_bast dX12_init_267 (fun h54 => ?_)
  refine zi_dup dX12_init_268 rfl ?_
  refine zi_bipush (v := 37) dX12_init_269 (by decide) ?_
  refine zi_bipush (v := 104) dX12_init_271 (by decide) ?_
  refine zi_bast dX12_init_273 (fun h55 => ?_)
  refine zi_dup dX12_init_274 rfl ?_
  refine zi_bipush (v := 38) dX12_init_275 (by decide) ?_
  refine zi_bipush (v := 105) dX12_init_277 (by decide) ?_
  refine zi_bast dX12_init_279 (fun h56 => ?_)
  refine zi_dup dX12_init_280 rfl ?_
  refine zi_bipush (v := 39) dX12_init_281 (by decide) ?_
  refine zi_bipush (v := 108) dX12_init_283 (by decide) ?_
  refine zi_bast dX12_init_285 (fun h57 => ?_)
  refine zi_dup dX12_init_286 rfl ?_
  refine zi_bipush (v := 40) dX12_init_287 (by decide) ?_
  refine zi_bipush (v := 100) dX12_init_289 (by decide) ?_
  refine zi_bast dX12_init_291 (fun h58 => ?_)
  refine zi_dup dX12_init_292 rfl ?_
  refine zi_bipush (v := 41) dX12_init_293 (by decide) ?_
  refine zi_bipush (v := 32) dX12_init_295 (by decide) ?_
  refine zi_bast dX12_init_297 (fun h59 => ?_)
  refine zi_dup dX12_init_298 rfl ?_
  refine zi_bipush (v := 42) dX12_init_299 (by decide) ?_
  refine zi_bipush (v := 109) dX12_init_301 (by decide) ?_
  refine zi_bast dX12_init_303 (fun h60 => ?_)
  refine zi_dup dX12_init_304 rfl ?_
  refine zi_bipush (v := 43) dX12_init_305 (by decide) ?_
  refine zi_bipush (v := 97) dX12_init_307 (by decide) ?_
  refine zi_bast dX12_init_309 (fun h61 => ?_)
  refine zi_dup dX12_init_310 rfl ?_
  refine zi_bipush (v := 44) dX12_init_311 (by decide) ?_
  refine zi_bipush (v := 110) dX12_init_313 (by decide) ?_
  refine zi_bast dX12_init_315 (fun h62 => ?_)
  refine zi_dup dX12_init_316 rfl ?_
  refine zi_bipush (v := 45) dX12_init_317 (by decide) ?_
  refine zi_bipush (v := 121) dX12_init_319 (by decide) ?_
  refine zi_bast dX12_init_321 (fun h63 => ?_)
  refine zi_dup dX12_init_322 rfl ?_
  refine zi_bipush (v := 46) dX12_init_323 (by decide) ?_
  refine zi_bipush (v := 32) dX12_init_325 (by decide) ?_
  refine zi_bast dX12_init_327 (fun h64 => ?_)
  refine zi_dup dX12_init_328 rfl ?_
  refine zi_bipush (v := 47) dX12_init_329 (by decide) ?_
  refine zi_bipush (v := 107) dX12_init_331 (by decide) ?_
  refine zi_bast dX12_init_333 (fun h65 => ?_)
  refine zi_dup dX12_init_334 rfl ?_
  refine zi_bipush (v := 48) dX12_init_335 (by decide) ?_
  refine zi_bipush (v := 101) dX12_init_337 (by decide) ?_
  refine zi_bast dX12_init_339 (fun h66 => ?_)
  refine zi_dup dX12_init_340 rfl ?_
  refine zi_bipush (v := 49) dX12_init_341 (by decide) ?_
  refine zi_bipush (v := 121) dX12_init_343 (by decide) ?_
  refine zi_bast dX12_init_345 (fun h67 => ?_)
  refine zi_dup dX12_init_346 rfl ?_
  refine zi_bipush (v := 50) dX12_init_347 (by decide) ?_
  refine zi_bipush (v := 32) dX12_init_349 (by decide) ?_
  refine zi_bast dX12_init_351 (fun h68 => ?_)
  refine zi_dup dX12_init_352 rfl ?_
  refine zi_bipush (v := 51) dX12_init_353 (by decide) ?_
  refine zi_bipush (v := 109) dX12_init_355 (by decide) ?_
  refine zi_bast dX12_init_357 (fun h69 => ?_)
  refine zi_dup dX12_init_358 rfl ?_
  refine zi_bipush (v := 52) dX12_init_359 (by decide) ?_
  refine zi_bipush (v := 111) dX12_init_361 (by decide) ?_
  refine zi_bast dX12_init_363 (fun h70 => ?_)
  refine zi_dup dX12_init_364 rfl ?_
  refine zi_bipush (v := 53) dX12_init_365 (by decide) ?_
  refine zi_bipush (v := 111) dX12_init_367 (by decide) ?_
  refine zi_bast dX12_init_369 (fun h71 => ?_)
  refine zi_dup dX12_init_370 rfl ?_
  refine zi_bipush (v := 54) dX12_init_371 (by decide) ?_
  refine zi_bipush (v := 100) dX12_init_373 (by decide) ?_
  refine zi_bast dX12_init_375 (fun h72 => ?_)
  refine zi_dup dX12_init_376 rfl ?_
  refine zi_bipush (v := 55) dX12_init_377 (by decide) ?_
  refine zi_bipush (v := 32) dX12_init_379 (by decide) ?_
  refine zi_bast dX12_init_381 (fun h73 => ?_)
  refine zi_dup dX12_init_382 rfl ?_
  refine zi_bipush (v := 56) dX12_init_383 (by decide) ?_
  refine zi_bipush (v := 116) dX12_init_385 (by decide) ?_
  refine zi_bast dX12_init_387 (fun h74 => ?_)
  refine zi_dup dX12_init_388 rfl ?_
  refine zi_bipush (v := 57) dX12_init_389 (by decide) ?_
  refine zi_bipush (v := 105) dX12_init_391 (by decide) ?_
  refine zi_bast dX12_init_393 (fun h75 => ?_)
  refine zi_dup dX12_init_394 rfl ?_
  refine zi_bipush (v := 58) dX12_init_395 (by decide) ?_
  refine zi_bipush (v := 109) dX12_init_397 (by decide) ?_
  refine zi_bast dX12_init_399 (fun h76 => ?_)
  refine zi_dup dX12_init_400 rfl ?_
  refine zi_bipush (v := 59) dX12_init_401 (by decide) ?_
  refine zi_bipush (v := 101) dX12_init_403 (by decide) ?_
  refine zi_bast dX12_init_405 (fun h77 => ?_)
  refine zi_dup dX12_init_406 rfl ?_
  refine zi_bipush (v := 60) dX12_init_407 (by decide) ?_
  refine zi_bipush (v := 32) dX12_init_409 (by decide) ?_
  refine zi_bast dX12_init_411 (fun h78 => ?_)
  refine zi_dup dX12_init_412 rfl ?_
  refine zi_bipush (v := 61) dX12_init_413 (by decide) ?_
  refine zi_bipush (v := 100) dX12_init_415 (by decide) ?_
  refine zi_bast dX12_init_417 (fun h79 => ?_)
  refine zi_dup dX12_init_418 rfl ?_
  refine zi_bipush (v := 62) dX12_init_419 (by decide) ?_
  refine zi_bipush (v := 111) dX12_init_421 (by decide) ?_
  refine zi_bast dX12_init_423 (fun h80 => ?_)
  refine zi_dup dX12_init_424 rfl ?_
  refine zi_bipush (v := 63) dX12_init_425 (by decide) ?_
  refine zi_bipush (v := 110) dX12_init_427 (by decide) ?_
  refine zi_bast dX12_init_429 (fun h81 => ?_)
  refine zi_dup dX12_init_430 rfl ?_
  refine zi_bipush (v := 64) dX12_init_431 (by decide) ?_
  refine zi_bipush (v := 101) dX12_init_433 (by decide) ?_
  refine zi_bast dX12_init_435 (fun h82 => ?_)
  refine zi_dup dX12_init_436 rfl ?_
  refine zi_bipush (v := 65) dX12_init_437 (by decide) ?_
  refine zi_bipush (v := 32) dX12_init_439 (by decide) ?_
  refine zi_bast dX12_init_441 (fun h83 => ?_)
  refine zi_dup dX12_init_442 rfl ?_
  refine zi_bipush (v := 66) dX12_init_443 (by decide) ?_
  refine zi_bipush (v := 108) dX12_init_445 (by decide) ?_
  refine zi_bast dX12_init_447 (fun h84 => ?_)
  refine zi_dup dX12_init_448 rfl ?_
  refine zi_bipush (v := 67) dX12_init_449 (by decide) ?_
  refine zi_bipush (v := 97) dX12_init_451 (by decide) ?_
  refine zi_bast dX12_init_453 (fun h85 => ?_)
  refine zi_dup dX12_init_454 rfl ?_
  refine zi_bipush (v := 68) dX12_init_455 (by decide) ?_
  refine zi_bipush (v := 116) dX12_init_457 (by decide) ?_
  refine zi_bast dX12_init_459 (fun h86 => ?_)
  refine zi_dup dX12_init_460 rfl ?_
  refine zi_bipush (v := 69) dX12_init_461 (by decide) ?_
  refine zi_bipush (v := 101) dX12_init_463 (by decide) ?_
  refine zi_bast dX12_init_465 (fun h87 => ?_)
  refine zi_dup dX12_init_466 rfl ?_
  refine zi_bipush (v := 70) dX12_init_467 (by decide) ?_
  refine zi_bipush (v := 115) dX12_init_469 (by decide) ?_
  refine zi_bast dX12_init_471 (fun h88 => ?_)
  refine zi_dup dX12_init_472 rfl ?_
  refine zi_bipush (v := 71) dX12_init_473 (by decide) ?_
  refine zi_bipush (v := 116) dX12_init_475 (by decide) ?_
  refine zi_bast dX12_init_477 (fun h89 => ?_)
  refine zi_dup dX12_init_478 rfl ?_
  refine zi_bipush (v := 72) dX12_init_479 (by decide) ?_
  refine zi_bipush (v := 32) dX12_init_481 (by decide) ?_
  refine zi_bast dX12_init_483 (fun h90 => ?_)
  refine zi_dup dX12_init_484 rfl ?_
  refine zi_bipush (v := 73) dX12_init_485 (by decide) ?_
  refine zi_bipush (v := 119) dX12_init_487 (by decide) ?_
  refine zi_bast dX12_init_489 (fun h91 => ?_)
  refine zi_dup dX12_init_490 rfl ?_
  refine zi_bipush (v := 74) dX12_init_491 (by decide) ?_
  refine zi_bipush (v := 97) dX12_init_493 (by decide) ?_
  refine zi_bast dX12_init_495 (fun h92 => ?_)
  refine zi_dup dX12_init_496 rfl ?_
  refine zi_bipush (v := 75) dX12_init_497 (by decide) ?_
  refine zi_bipush (v := 105) dX12_init_499 (by decide) ?_
  refine zi_bast dX12_init_501 (fun h93 => ?_)
  refine zi_dup dX12_init_502 rfl ?_
  refine zi_bipush (v := 76) dX12_init_503 (by decide) ?_
  refine zi_bipush (v := 116) dX12_init_505 (by decide) ?_
  refine zi_bast dX12_init_507 (fun h94 => ?_)
  refine zi_dup dX12_init_508 rfl ?_
  refine zi_bipush (v := 77) dX12_init_509 (by decide) ?_
  refine zi_bipush (v := 115) dX12_init_511 (by decide) ?_
  refine zi_bast dX12_init_513 (fun h95 => ?_)
  refine zi_dup dX12_init_514 rfl ?_
  refine zi_bipush (v := 78) dX12_init_515 (by decide) ?_
  refine zi_bipush (v := 32) dX12_init_517 (by decide) ?_
  refine zi_bast dX12_init_519 (fun h96 => ?_)
  refine zi_dup dX12_init_520 rfl ?_
  refine zi_bipush (v := 79) dX12_init_521 (by decide) ?_
  refine zi_bipush (v := 103) dX12_init_523 (by decide) ?_
  refine zi_bast dX12_init_525 (fun h97 => ?_)
  refine zi_dup dX12_init_526 rfl ?_
  refine zi_bipush (v := 80) dX12_init_527 (by decide) ?_
  refine zi_bipush (v := 114) dX12_init_529 (by decide) ?_
  refine zi_bast dX12_init_531 (fun h98 => ?_)
  refine zi_dup dX12_init_532 rfl ?_
  refine zi_bipush (v := 81) dX12_init_533 (by decide) ?_
  refine zi_bipush (v := 97) dX12_init_535 (by decide) ?_
  refine zi_bast dX12_init_537 (fun h99 => ?_)
  refine zi_dup dX12_init_538 rfl ?_
  refine zi_bipush (v := 82) dX12_init_539 (by decide) ?_
  refine zi_bipush (v := 99) dX12_init_541 (by decide) ?_
  refine zi_bast dX12_init_543 (fun h100 => ?_)
  refine zi_dup dX12_init_544 rfl ?_
  refine zi_bipush (v := 83) dX12_init_545 (by decide) ?_
  refine zi_bipush (v := 101) dX12_init_547 (by decide) ?_
  refine zi_bast dX12_init_549 (fun h101 => ?_)
  refine zi_dup dX12_init_550 rfl ?_
  refine zi_bipush (v := 84) dX12_init_551 (by decide) ?_
  refine zi_bipush (v := 115) dX12_init_553 (by decide) ?_
  refine zi_bast dX12_init_555 (fun h102 => ?_)
  refine zi_dup dX12_init_556 rfl ?_
  refine zi_bipush (v := 85) dX12_init_557 (by decide) ?_
  refine zi_bipush (v := 32) dX12_init_559 (by decide) ?_
  refine zi_bast dX12_init_561 (fun h103 => ?_)
  refine zi_dup dX12_init_562 rfl ?_
  refine zi_bipush (v := 86) dX12_init_563 (by decide) ?_
  refine zi_bipush (v := 97) dX12_init_565 (by decide) ?_
  refine zi_bast dX12_init_567 (fun h104 => ?_)
  refine zi_dup dX12_init_568 rfl ?_
  refine zi_bipush (v := 87) dX12_init_569 (by decide) ?_
  refine zi_bipush (v := 116) dX12_init_571 (by decide) ?_
  refine zi_bast dX12_init_573 (fun h105 => ?_)
  refine zi_dup dX12_init_574 rfl ?_
  refine zi_bipush (v := 88) dX12_init_575 (by decide) ?_
  refine zi_bipush (v := 32) dX12_init_577 (by decide) ?_
  refine zi_bast dX12_init_579 (fun h106 => ?_)
  refine zi_dup dX12_init_580 rfl ?_
  refine zi_bipush (v := 89) dX12_init_581 (by decide) ?_
  refine zi_bipush (v := 118) dX12_init_583 (by decide) ?_
  refine zi_bast dX12_init_585 (fun h107 => ?_)
  refine zi_dup dX12_init_586 rfl ?_
  refine zi_bipush (v := 90) dX12_init_587 (by decide) ?_
  refine zi_bipush (v := 97) dX12_init_589 (by decide) ?_
  refine zi_bast dX12_init_591 (fun h108 => ?_)
  refine zi_dup dX12_init_592 rfl ?_
  refine zi_bipush (v := 91) dX12_init_593 (by decide) ?_
  refine zi_bipush (v := 108) dX12_init_595 (by decide) ?_
  refine zi_bast dX12_init_597 (fun h109 => ?_)
  refine zi_dup dX12_init_598 rfl ?_
  refine zi_bipush (v := 92) dX12_init_599 (by decide) ?_
  refine zi_bipush (v := 117) dX12_init_601 (by decide) ?_
  refine zi_bast dX12_init_603 (fun h110 => ?_)
  refine zi_dup dX12_init_604 rfl ?_
  refine zi_bipush (v := 93) dX12_init_605 (by decide) ?_
  refine zi_bipush (v := 101) dX12_init_607 (by decide) ?_
  refine zi_bast dX12_init_609 (fun h111 => ?_)
  refine zi_dup dX12_init_610 rfl ?_
  refine zi_bipush (v := 94) dX12_init_611 (by decide) ?_
  refine zi_bipush (v := 32) dX12_init_613 (by decide) ?_
  refine zi_bast dX12_init_615 (fun h112 => ?_)
  refine zi_dup dX12_init_616 rfl ?_
  refine zi_bipush (v := 95) dX12_init_617 (by decide) ?_
  refine zi_bipush (v := 112) dX12_init_619 (by decide) ?_
  refine zi_bast dX12_init_621 (fun h113 => ?_)
  refine zi_dup dX12_init_622 rfl ?_
  refine zi_bipush (v := 96) dX12_init_623 (by decide) ?_
  refine zi_bipush (v := 117) dX12_init_625 (by decide) ?_
  refine zi_bast dX12_init_627 (fun h114 => ?_)
  refine zi_dup dX12_init_628 rfl ?_
  refine zi_bipush (v := 97) dX12_init_629 (by decide) ?_
  refine zi_bipush (v := 116) dX12_init_631 (by decide) ?_
  refine zi_bast dX12_init_633 (fun h115 => ?_)
  refine zi_dup dX12_init_634 rfl ?_
  refine zi_bipush (v := 98) dX12_init_635 (by decide) ?_
  refine zi_bipush (v := 32) dX12_init_637 (by decide) ?_
  refine zi_bast dX12_init_639 (fun h116 => ?_)
  refine zi_dup dX12_init_640 rfl ?_
  refine zi_bipush (v := 99) dX12_init_641 (by decide) ?_
  refine zi_bipush (v := 97) dX12_init_643 (by decide) ?_
  refine zi_bast dX12_init_645 (fun h117 => ?_)
  refine zi_dup dX12_init_646 rfl ?_
  refine zi_bipush (v := 100) dX12_init_647 (by decide) ?_
  refine zi_bipush (v := 115) dX12_init_649 (by decide) ?_
  refine zi_bast dX12_init_651 (fun h118 => ?_)
  refine zi_dup dX12_init_652 rfl ?_
  refine zi_bipush (v := 101) dX12_init_653 (by decide) ?_
  refine zi_bipush (v := 32) dX12_init_655 (by decide) ?_
  refine zi_bast dX12_init_657 (fun h119 => ?_)
  refine zi_dup dX12_init_658 rfl ?_
  refine zi_bipush (v := 102) dX12_init_659 (by decide) ?_
  refine zi_bipush (v := 100) dX12_init_661 (by decide) ?_
  refine zi_bast dX12_init_663 (fun h120 => ?_)
  refine zi_dup dX12_init_664 rfl ?_
  refine zi_bipush (v := 103) dX12_init_665 (by decide) ?_
  refine zi_bipush (v := 114) dX12_init_667 (by decide) ?_
  refine zi_bast dX12_init_669 (fun h121 => ?_)
  refine zi_dup dX12_init_670 rfl ?_
  refine zi_bipush (v := 104) dX12_init_671 (by decide) ?_
  refine zi_bipush (v := 111) dX12_init_673 (by decide) ?_
  refine zi_bast dX12_init_675 (fun h122 => ?_)
  refine zi_dup dX12_init_676 rfl ?_
  refine zi_bipush (v := 105) dX12_init_677 (by decide) ?_
  refine zi_bipush (v := 112) dX12_init_679 (by decide) ?_
  refine zi_bast dX12_init_681 (fun h123 => ?_)
  refine zi_dup dX12_init_682 rfl ?_
  refine zi_bipush (v := 106) dX12_init_683 (by decide) ?_
  refine zi_bipush (v := 32) dX12_init_685 (by decide) ?_
  refine zi_bast dX12_init_687 (fun h124 => ?_)
  refine zi_dup dX12_init_688 rfl ?_
  refine zi_bipush (v := 107) dX12_init_689 (by decide) ?_
  refine zi_bipush (v := 101) dX12_init_691 (by decide) ?_
  refine zi_bast dX12_init_693 (fun h125 => ?_)
  refine zi_dup dX12_init_694 rfl ?_
  refine zi_bipush (v := 108) dX12_init_695 (by decide) ?_
  refine zi_bipush (v := 110) dX12_init_697 (by decide) ?_
  refine zi_bast dX12_init_699 (fun h126 => ?_)
  refine zi_dup dX12_init_700 rfl ?_
  refine zi_bipush (v := 109) dX12_init_701 (by decide) ?_
  refine zi_bipush (v := 116) dX12_init_703 (by decide) ?_
  refine zi_bast dX12_init_705 (fun h127 => ?_)
  refine zi_dup dX12_init_706 rfl ?_
  refine zi_bipush (v := 110) dX12_init_707 (by decide) ?_
  refine zi_bipush (v := 101) dX12_init_709 (by decide) ?_
  refine zi_bast dX12_init_711 (fun h128 => ?_)
  refine zi_dup dX12_init_712 rfl ?_
  refine zi_bipush (v := 111) dX12_init_713 (by decide) ?_
  refine zi_bipush (v := 114) dX12_init_715 (by decide) ?_
  refine zi_bast dX12_init_717 (fun h129 => ?_)
  refine zi_dup dX12_init_718 rfl ?_
  refine zi_bipush (v := 112) dX12_init_719 (by decide) ?_
  refine zi_bipush (v := 32) dX12_init_721 (by decide) ?_
  refine zi_bast dX12_init_723 (fun h130 => ?_)
  refine zi_dup dX12_init_724 rfl ?_
  refine zi_bipush (v := 113) dX12_init_725 (by decide) ?_
  refine zi_bipush (v := 115) dX12_init_727 (by decide) ?_
  refine zi_bast dX12_init_729 (fun h131 => ?_)
  refine zi_dup dX12_init_730 rfl ?_
  refine zi_bipush (v := 114) dX12_init_731 (by decide) ?_
  refine zi_bipush (v := 116) dX12_init_733 (by decide) ?_
  refine zi_bast dX12_init_735 (fun h132 => ?_)
  refine zi_dup dX12_init_736 rfl ?_
  refine zi_bipush (v := 115) dX12_init_737 (by decide) ?_
  refine zi_bipush (v := 101) dX12_init_739 (by decide) ?_
  refine zi_bast dX12_init_741 (fun h133 => ?_)
  refine zi_dup dX12_init_742 rfl ?_
  refine zi_bipush (v := 116) dX12_init_743 (by decide) ?_
  refine zi_bipush (v := 112) dX12_init_745 (by decide) ?_
  refine zi_bast dX12_init_747 (fun h134 => ?_)
  refine zi_dup dX12_init_748 rfl ?_
  refine zi_bipush (v := 117) dX12_init_749 (by decide) ?_
  refine zi_bipush (v := 32) dX12_init_751 (by decide) ?_
  refine zi_bast dX12_init_753 (fun h135 => ?_)
  refine zi_dup dX12_init_754 rfl ?_
  refine zi_bipush (v := 118) dX12_init_755 (by decide) ?_
  refine zi_bipush (v := 112) dX12_init_757 (by decide) ?_
  refine zi_bast dX12_init_759 (fun h136 => ?_)
  refine zi_dup dX12_init_760 rfl ?_
  refine zi_bipush (v := 119) dX12_init_761 (by decide) ?_
  refine zi_bipush (v := 97) dX12_init_763 (by decide) ?_
  refine zi_bast dX12_init_765 (fun h137 => ?_)
  refine zi_dup dX12_init_766 rfl ?_
  refine zi_bipush (v := 120) dX12_init_767 (by decide) ?_
  refine zi_bipush (v := 114) dX12_init_769 (by decide) ?_
  refine zi_bast dX12_init_771 (fun h138 => ?_)
  refine zi_dup dX12_init_772 rfl ?_
  refine zi_bipush (v := 121) dX12_init_773 (by decide) ?_
  refine zi_bipush (v := 107) dX12_init_775 (by decide) ?_
  refine zi_bast dX12_init_777 (fun h139 => ?_)
  refine zi_dup dX12_init_778 rfl ?_
  refine zi_bipush (v := 122) dX12_init_779 (by decide) ?_
  refine zi_bipush (v := 32) dX12_init_781 (by decide) ?_
  refine zi_bast dX12_init_783 (fun h140 => ?_)
  refine zi_dup dX12_init_784 rfl ?_
  refine zi_bipush (v := 123) dX12_init_785 (by decide) ?_
  refine zi_bipush (v := 108) dX12_init_787 (by decide) ?_
  refine zi_bast dX12_init_789 (fun h141 => ?_)
  refine zi_dup dX12_init_790 rfl ?_
  refine zi_bipush (v := 124) dX12_init_791 (by decide) ?_
  refine zi_bipush (v := 101) dX12_init_793 (by decide) ?_
  refine zi_bast dX12_init_795 (fun h142 => ?_)
  refine zi_dup dX12_init_796 rfl ?_
  refine zi_bipush (v := 125) dX12_init_797 (by decide) ?_
  refine zi_bipush (v := 97) dX12_init_799 (by decide) ?_
  refine zi_bast dX12_init_801 (fun h143 => ?_)
  refine zi_dup dX12_init_802 rfl ?_
  refine zi_bipush (v := 126) dX12_init_803 (by decide) ?_
  refine zi_bipush (v := 118) dX12_init_805 (by decide) ?_
  refine zi_bast dX12_init_807 (fun h144 => ?_)
  refine zi_dup dX12_init_808 rfl ?_
  refine zi_bipush (v := 127) dX12_init_809 (by decide) ?_
  refine zi_bipush (v := 101) dX12_init_811 (by decide) ?_
  refine zi_bast dX12_init_813 (fun h145 => ?_)
  refine zi_dup dX12_init_814 rfl ?_
  refine zi_sipush (v := 128) dX12_init_815 (by decide) ?_
  refine zi_bipush (v := 32) dX12_init_818 (by decide) ?_
  refine zi_bast dX12_init_820 (fun h146 => ?_)
  refine zi_dup dX12_init_821 rfl ?_
  refine zi_sipush (v := 129) dX12_init_822 (by decide) ?_
  refine zi_bipush (v := 116) dX12_init_825 (by decide) ?_
  refine zi_bast dX12_init_827 (fun h147 => ?_)
  refine zi_dup dX12_init_828 rfl ?_
  refine zi_sipush (v := 130) dX12_init_829 (by decide) ?_
  refine zi_bipush (v := 105) dX12_init_832 (by decide) ?_
  refine zi_bast dX12_init_834 (fun h148 => ?_)
  refine zi_dup dX12_init_835 rfl ?_
  refine zi_sipush (v := 131) dX12_init_836 (by decide) ?_
  refine zi_bipush (v := 99) dX12_init_839 (by decide) ?_
  refine zi_bast dX12_init_841 (fun h149 => ?_)
  refine zi_dup dX12_init_842 rfl ?_
  refine zi_sipush (v := 132) dX12_init_843 (by decide) ?_
  refine zi_bipush (v := 107) dX12_init_846 (by decide) ?_
  refine zi_bast dX12_init_848 (fun h150 => ?_)
  refine zi_dup dX12_init_849 rfl ?_
  refine zi_sipush (v := 133) dX12_init_850 (by decide) ?_
  refine zi_bipush (v := 32) dX12_init_853 (by decide) ?_
  refine zi_bast dX12_init_855 (fun h151 => ?_)
  refine zi_dup dX12_init_856 rfl ?_
  refine zi_sipush (v := 134) dX12_init_857 (by decide) ?_
  refine zi_bipush (v := 98) dX12_init_860 (by decide) ?_
  refine zi_bast dX12_init_862 (fun h152 => ?_)
  refine zi_dup dX12_init_863 rfl ?_
  refine zi_sipush (v := 135) dX12_init_864 (by decide) ?_
  refine zi_bipush (v := 101) dX12_init_867 (by decide) ?_
  refine zi_bast dX12_init_869 (fun h153 => ?_)
  refine zi_dup dX12_init_870 rfl ?_
  refine zi_sipush (v := 136) dX12_init_871 (by decide) ?_
  refine zi_bipush (v := 103) dX12_init_874 (by decide) ?_
  refine zi_bast dX12_init_876 (fun h154 => ?_)
  refine zi_dup dX12_init_877 rfl ?_
  refine zi_sipush (v := 137) dX12_init_878 (by decide) ?_
  refine zi_bipush (v := 105) dX12_init_881 (by decide) ?_
  refine zi_bast dX12_init_883 (fun h155 => ?_)
  refine zi_dup dX12_init_884 rfl ?_
  refine zi_sipush (v := 138) dX12_init_885 (by decide) ?_
  refine zi_bipush (v := 110) dX12_init_888 (by decide) ?_
  refine zi_bast dX12_init_890 (fun h156 => ?_)
  refine zi_dup dX12_init_891 rfl ?_
  refine zi_sipush (v := 139) dX12_init_892 (by decide) ?_
  refine zi_bipush (v := 32) dX12_init_895 (by decide) ?_
  refine zi_bast dX12_init_897 (fun h157 => ?_)
  refine zi_dup dX12_init_898 rfl ?_
  refine zi_sipush (v := 140) dX12_init_899 (by decide) ?_
  refine zi_bipush (v := 116) dX12_init_902 (by decide) ?_
  refine zi_bast dX12_init_904 (fun h158 => ?_)
  refine zi_dup dX12_init_905 rfl ?_
  refine zi_sipush (v := 141) dX12_init_906 (by decide) ?_
  refine zi_bipush (v := 105) dX12_init_909 (by decide) ?_
  refine zi_bast dX12_init_911 (fun h159 => ?_)
  refine zi_dup dX12_init_912 rfl ?_
  refine zi_sipush (v := 142) dX12_init_913 (by decide) ?_
  refine zi_bipush (v := 109) dX12_init_916 (by decide) ?_
  refine zi_bast dX12_init_918 (fun h160 => ?_)
  refine zi_dup dX12_init_919 rfl ?_
  refine zi_sipush (v := 143) dX12_init_920 (by decide) ?_
  refine zi_bipush (v := 101) dX12_init_923 (by decide) ?_
  refine zi_bast dX12_init_925 (fun h161 => ?_)
  refine zi_dup dX12_init_926 rfl ?_
  refine zi_sipush (v := 144) dX12_init_927 (by decide) ?_
  refine zi_bipush (v := 115) dX12_init_930 (by decide) ?_
  refine zi_bast dX12_init_932 (fun h162 => ?_)
  refine zi_dup dX12_init_933 rfl ?_
  refine zi_sipush (v := 145) dX12_init_934 (by decide) ?_
  refine zi_bipush (v := 32) dX12_init_937 (by decide) ?_
  refine zi_bast dX12_init_939 (fun h163 => ?_)
  refine zi_putQF dX12_init_940 gf_X12_41 rfl rfl (fun h164 => ?_)
  refine zi_aload_n dX12_init_943 rfl 0 rfl ?_
  refine zi_sipush (v := 400) dX12_init_944 (by decide) ?_
  refine zi_newaB dX12_init_947 (fun r165 h166 _ => ?_) ac_byte
  refine zi_putQF dX12_init_949 gf_X12_45 rfl rfl (fun h167 => ?_)
  refine zi_aload_n dX12_init_952 rfl 0 rfl ?_
  refine zi_iconst (v := 5) dX12_init_953 (by decide) ?_
  refine zi_newaI dX12_init_954 (fun r168 h169 _ => ?_) ac_int
  refine zi_putQF dX12_init_956 gf_X12_48 rfl rfl (fun h170 => ?_)
  refine zi_aload_n dX12_init_959 rfl 0 rfl ?_
  refine zi_iconst (v := (-1)) dX12_init_960 (by decide) ?_
  refine zi_putI dX12_init_961 gf_X12_51 (fun h171 => ?_)
  refine zi_aload_n dX12_init_964 rfl 0 rfl ?_
  refine zi_sipush (v := 401) dX12_init_965 (by decide) ?_
  refine zi_newaI dX12_init_968 (fun r172 h173 _ => ?_) ac_int
  refine zi_putQF dX12_init_970 gf_X12_54 rfl rfl (fun h174 => ?_)
  refine zi_aload_n dX12_init_973 rfl 0 rfl ?_
  refine zi_sipush (v := 401) dX12_init_974 (by decide) ?_
  refine zi_newaI dX12_init_977 (fun r175 h176 _ => ?_) ac_int
  refine zi_putQF dX12_init_979 gf_X12_57 rfl rfl (fun h177 => ?_)
  refine zi_aload_n dX12_init_982 rfl 0 rfl ?_
  refine zi_sipush (v := 401) dX12_init_983 (by decide) ?_
  refine zi_newaI dX12_init_986 (fun r178 h179 _ => ?_) ac_int
  refine zi_putQF dX12_init_988 gf_X12_60 rfl rfl (fun h180 => ?_)
  refine zi_aload_n dX12_init_991 rfl 0 rfl ?_
  refine zi_bipush (v := 7) dX12_init_992 (by decide) ?_
  refine zi_newaI dX12_init_994 (fun r181 h182 _ => ?_) ac_int
  refine zi_putQF dX12_init_996 gf_X12_63 rfl rfl (fun h183 => ?_)
  refine zi_aload_n dX12_init_999 rfl 0 rfl ?_
  refine zi_sipush (v := 3072) dX12_init_1000 (by decide) ?_
  refine zi_newaI dX12_init_1003 (fun r184 h185 _ => ?_) ac_int
  refine zi_putQF dX12_init_1005 gf_X12_66 rfl rfl (fun h186 => ?_)
  refine zi_aload_n dX12_init_1008 rfl 0 rfl ?_
  refine zi_sipush (v := 3072) dX12_init_1009 (by decide) ?_
  refine zi_newaI dX12_init_1012 (fun r187 h188 _ => ?_) ac_int
  refine zi_putQF dX12_init_1014 gf_X12_69 rfl rfl (fun h189 => ?_)
  refine zi_aload_n dX12_init_1017 rfl 0 rfl ?_
  refine zi_bipush (v := 21) dX12_init_1018 (by decide) ?_
  refine zi_newaL dX12_init_1020 (fun r190 h191 _ => ?_) ac_long
  refine zi_putQF dX12_init_1022 gf_X12_72 rfl rfl (fun h192 => ?_)
  refine zi_aload_n dX12_init_1025 rfl 0 rfl ?_
  refine zi_iconst (v := (-1)) dX12_init_1026 (by decide) ?_
  refine zi_putI dX12_init_1027 gf_X12_76 (fun h193 => ?_)
  refine zi_aload_n dX12_init_1030 rfl 0 rfl ?_
  refine zi_iconst (v := 2) dX12_init_1031 (by decide) ?_
  refine zi_newaL dX12_init_1032 (fun r194 h195 _ => ?_) ac_long
  refine zi_putQF dX12_init_1034 gf_X12_79 rfl rfl (fun h196 => ?_)
  refine zi_aload_n dX12_init_1037 rfl 0 rfl ?_
  refine zi_bipush (v := 24) dX12_init_1038 (by decide) ?_
  refine zi_newaI dX12_init_1040 (fun r197 h198 _ => ?_) ac_int
  refine zi_putQF dX12_init_1042 gf_X12_82 rfl rfl (fun h199 => ?_)
  refine zi_aload_n dX12_init_1045 rfl 0 rfl ?_
  refine zi_getR dX12_init_1046 gf_X12_28 (fun v200 => ?_)
  refine zi_sipush (v := 203) dX12_init_1049 (by decide) ?_
  refine zi_iconst (v := 1) dX12_init_1052 (by decide) ?_
  refine zi_iast dX12_init_1053 (fun h201 => ?_)
  refine zi_aload_n dX12_init_1054 rfl 0 rfl ?_
  refine zi_getR dX12_init_1055 gf_X12_28 (fun v202 => ?_)
  refine zi_sipush (v := 207) dX12_init_1058 (by decide) ?_
  refine zi_iconst (v := (-1)) dX12_init_1061 (by decide) ?_
  refine zi_iast dX12_init_1062 (fun h203 => ?_)
  refine zi_aload_n dX12_init_1063 rfl 0 rfl ?_
  refine zi_getR dX12_init_1064 gf_X12_28 (fun v204 => ?_)
  refine zi_bipush (v := 96) dX12_init_1067 (by decide) ?_
  refine zi_iconst (v := (-1)) dX12_init_1069 (by decide) ?_
  refine zi_iast dX12_init_1070 (fun h205 => ?_)
  exact zi_retV dX12_init_1071
set_option maxRecDepth 20000 in
set_option maxHeartbeats 1000000 in
theorem wb_X12_laysAside_2 (G : zG) (n : Nat) (k2 : Nat → Int32 → Int32 → zH → Option (Unit × zH)) (hk2 : ∀ (l0 : Nat) (l1 : Int32) (l2 : Int32) (h : zH), zW G yX12_laysAside cX12_laysAside 3 none zvU 1 2 [(0, .ref (zbase G + l0)), (1, .int l1), (2, .int l2)] [] h (k2 l0 l1 l2 h)) (l0 : Nat) (l1 : Int32) (l2 : Int32) (h : zH) : zW G yX12_laysAside cX12_laysAside 3 none zvU 1 2 [(0, .ref (zbase G + l0)), (1, .int l1), (2, .int l2)] [] h (fb_X12_laysAside_2 n k2 l0 l1 l2 h) := by
  unfold fb_X12_laysAside_2
  refine zi_iload_n dX12_laysAside_2 rfl 2 rfl ?_
  refine zi_sipush (v := 191) dX12_laysAside_3 (by decide) ?_
  refine zi_icmp_ge (tgt := 33) dX12_laysAside_6 (by decide) ?_ ?_
  · exact zi_retV dX12_laysAside_33
  · refine zi_aload_n dX12_laysAside_9 rfl 0 rfl ?_
    refine zi_getR dX12_laysAside_10 gf_X12_38 (fun v1 => ?_)
    refine zi_sipush (v := 191) dX12_laysAside_13 (by decide) ?_
    refine zi_iload_n dX12_laysAside_16 rfl 1 rfl ?_
    refine zi_imul dX12_laysAside_17 ?_
    refine zi_iload_n dX12_laysAside_18 rfl 2 rfl ?_
    refine zi_iadd dX12_laysAside_19 ?_
    refine zi_aload_n dX12_laysAside_20 rfl 0 rfl ?_
    refine zi_getR dX12_laysAside_21 gf_X12_28 (fun v2 => ?_)
    refine zi_iload_n dX12_laysAside_24 rfl 2 rfl ?_
    refine zi_iald dX12_laysAside_25 (fun v3 => ?_)
    refine zi_iast dX12_laysAside_26 (fun h4 => ?_)
    refine zi_iinc (j := 2) (v := l2 + 1) (l' := [(2, .int (l2 + 1)), (0, .ref (zbase G + l0)), (1, .int l1)]) dX12_laysAside_27 rfl rfl (by decide) rfl ?_
    refine zi_goto (tgt := 2) dX12_laysAside_30 (by decide) ?_
    refine zi_sub [1, 2, 0] rfl ?_
    exact hk2 l0 l1 (l2 + 1) h4
theorem wl_X12_laysAside_2 (G : zG) (n : Nat) : ∀ (t : Nat) (l0 : Nat) (l1 : Int32) (l2 : Int32) (h : zH), zW G yX12_laysAside cX12_laysAside 3 none zvU 1 2 [(0, .ref (zbase G + l0)), (1, .int l1), (2, .int l2)] [] h (zlp3 (fb_X12_laysAside_2 n ) t l0 l1 l2 h) := by
  intro t
  induction t with
  | zero => intros; exact zW_none
  | succ t ih => intro l0 l1 l2 h; rw [zlp3_s]; exact wb_X12_laysAside_2 G n  _  ih l0 l1 l2 h
set_option maxRecDepth 20000 in
set_option maxHeartbeats 1000000 in
theorem k_X12_laysAside (G : zG) (n : Nat) (a0 : Nat) (a1 : Int32) (h : zH) : zMet G yX12_laysAside cX12_laysAside 3 none zvU 1 [.ref (zbase G + a0), .int a1] h (f_X12_laysAside n a0 a1 h) := by
  refine zMet_of (l := [(0, .ref (zbase G + a0)), (1, .int a1)]) (by decide) (Nat.le_of_ble_eq_true rfl) rfl ?_
  unfold f_X12_laysAside
  refine zi_iconst (v := 0) dX12_laysAside_0 (by decide) ?_
  refine zi_istore_n (l' := [(2, .int 0), (0, .ref (zbase G + a0)), (1, .int a1)]) dX12_laysAside_1 rfl (by decide) rfl ?_
  refine zi_sub [1, 2, 0] rfl ?_
  exact wl_X12_laysAside_2 G n n a0 a1 0 h
set_option maxRecDepth 20000 in
set_option maxHeartbeats 1000000 in
theorem wb_X12_takesBack_2 (G : zG) (n : Nat) (k2 : Nat → Int32 → Int32 → zH → Option (Unit × zH)) (hk2 : ∀ (l0 : Nat) (l1 : Int32) (l2 : Int32) (h : zH), zW G yX12_takesBack cX12_takesBack 3 none zvU 1 2 [(0, .ref (zbase G + l0)), (1, .int l1), (2, .int l2)] [] h (k2 l0 l1 l2 h)) (l0 : Nat) (l1 : Int32) (l2 : Int32) (h : zH) : zW G yX12_takesBack cX12_takesBack 3 none zvU 1 2 [(0, .ref (zbase G + l0)), (1, .int l1), (2, .int l2)] [] h (fb_X12_takesBack_2 n k2 l0 l1 l2 h) := by
  unfold fb_X12_takesBack_2
  refine zi_iload_n dX12_takesBack_2 rfl 2 rfl ?_
  refine zi_sipush (v := 191) dX12_takesBack_3 (by decide) ?_
  refine zi_icmp_ge (tgt := 33) dX12_takesBack_6 (by decide) ?_ ?_
  · exact zi_retV dX12_takesBack_33
  · refine zi_aload_n dX12_takesBack_9 rfl 0 rfl ?_
    refine zi_getR dX12_takesBack_10 gf_X12_28 (fun v1 => ?_)
    refine zi_iload_n dX12_takesBack_13 rfl 2 rfl ?_
    refine zi_aload_n dX12_takesBack_14 rfl 0 rfl ?_
    refine zi_getR dX12_takesBack_15 gf_X12_38 (fun v2 => ?_)
    refine zi_sipush (v := 191) dX12_takesBack_18 (by decide) ?_
    refine zi_iload_n dX12_takesBack_21 rfl 1 rfl ?_
    refine zi_imul dX12_takesBack_22 ?_
    refine zi_iload_n dX12_takesBack_23 rfl 2 rfl ?_
    refine zi_iadd dX12_takesBack_24 ?_
    refine zi_iald dX12_takesBack_25 (fun v3 => ?_)
    refine zi_iast dX12_takesBack_26 (fun h4 => ?_)
    refine zi_iinc (j := 2) (v := l2 + 1) (l' := [(2, .int (l2 + 1)), (0, .ref (zbase G + l0)), (1, .int l1)]) dX12_takesBack_27 rfl rfl (by decide) rfl ?_
    refine zi_goto (tgt := 2) dX12_takesBack_30 (by decide) ?_
    refine zi_sub [1, 2, 0] rfl ?_
    exact hk2 l0 l1 (l2 + 1) h4
theorem wl_X12_takesBack_2 (G : zG) (n : Nat) : ∀ (t : Nat) (l0 : Nat) (l1 : Int32) (l2 : Int32) (h : zH), zW G yX12_takesBack cX12_takesBack 3 none zvU 1 2 [(0, .ref (zbase G + l0)), (1, .int l1), (2, .int l2)] [] h (zlp3 (fb_X12_takesBack_2 n ) t l0 l1 l2 h) := by
  intro t
  induction t with
  | zero => intros; exact zW_none
  | succ t ih => intro l0 l1 l2 h; rw [zlp3_s]; exact wb_X12_takesBack_2 G n  _  ih l0 l1 l2 h
set_option maxRecDepth 20000 in
set_option maxHeartbeats 1000000 in
theorem k_X12_takesBack (G : zG) (n : Nat) (a0 : Nat) (a1 : Int32) (h : zH) : zMet G yX12_takesBack cX12_takesBack 3 none zvU 1 [.ref (zbase G + a0), .int a1] h (f_X12_takesBack n a0 a1 h) := by
  refine zMet_of (l := [(0, .ref (zbase G + a0)), (1, .int a1)]) (by decide) (Nat.le_of_ble_eq_true rfl) rfl ?_
  unfold f_X12_takesBack
  refine zi_iconst (v := 0) dX12_takesBack_0 (by decide) ?_
  refine zi_istore_n (l' := [(2, .int 0), (0, .ref (zbase G + a0)), (1, .int a1)]) dX12_takesBack_1 rfl (by decide) rfl ?_
  refine zi_sub [1, 2, 0] rfl ?_
  exact wl_X12_takesBack_2 G n n a0 a1 0 h
set_option maxRecDepth 20000 in
set_option maxHeartbeats 1000000 in
theorem wb_X12_image_48 (G : zG) (n : Nat) (l0 : Nat) (l1 : Int32) (h : zH) : zW G yX12_image cX12_image 3 (some .int) zvI 2 48 [(0, .ref (zbase G + l0)), (1, .int l1)] [] h (fb_X12_image_48 n l0 l1 h) := by
  unfold fb_X12_image_48
  refine zi_aload_n dX12_image_48 rfl 0 rfl ?_
  refine zi_getR dX12_image_49 gf_X12_34 (fun v1 => ?_)
  refine zi_iload_n dX12_image_52 rfl 1 rfl ?_
  refine zi_iconst (v := 1) dX12_image_53 (by decide) ?_
  refine zi_zast dX12_image_54 (fun h2 => ?_)
  refine zi_aload_n dX12_image_55 rfl 0 rfl ?_
  refine zi_iconst (v := 0) dX12_image_56 (by decide) ?_
  refine zi_callVI (As := [.int 0]) (rest := []) (ci := 12) dX12_image_57 ml_X12_14 md_X12_good mv_X12_good rfl (by decide) rfl rfl (Nat.le_of_ble_eq_true rfl) (Nat.le_of_ble_eq_true rfl) (k_X12_good G n l0 0 h2) (fun r3 h4 => ?_)
  exact zi_retI dX12_image_60
set_option maxRecDepth 20000 in
set_option maxHeartbeats 1000000 in
theorem wb_X12_image_17 (G : zG) (n : Nat) (k17 : Nat → Int32 → Int32 → zH → Option (Int32 × zH)) (hk17 : ∀ (l0 : Nat) (l1 : Int32) (l2 : Int32) (h : zH), zW G yX12_image cX12_image 3 (some .int) zvI 2 17 [(0, .ref (zbase G + l0)), (1, .int l1), (2, .int l2)] [] h (k17 l0 l1 l2 h)) (l0 : Nat) (l1 : Int32) (l2 : Int32) (h : zH) : zW G yX12_image cX12_image 3 (some .int) zvI 2 17 [(0, .ref (zbase G + l0)), (1, .int l1), (2, .int l2)] [] h (fb_X12_image_17 n k17 l0 l1 l2 h) := by
  unfold fb_X12_image_17
  refine zi_iload_n dX12_image_17 rfl 2 rfl ?_
  refine zi_sipush (v := 5815) dX12_image_18 (by decide) ?_
  refine zi_icmp_ge (tgt := 48) dX12_image_21 (by decide) ?_ ?_
  · refine zi_sub [0, 1] rfl ?_
    exact wb_X12_image_48 G n l0 l1 h
  · refine zi_aload_n dX12_image_24 rfl 0 rfl ?_
    refine zi_getR dX12_image_25 gf_X12_31 (fun v1 => ?_)
    refine zi_sipush (v := 5815) dX12_image_28 (by decide) ?_
    refine zi_iload_n dX12_image_31 rfl 1 rfl ?_
    refine zi_imul dX12_image_32 ?_
    refine zi_iload_n dX12_image_33 rfl 2 rfl ?_
    refine zi_iadd dX12_image_34 ?_
    refine zi_aload_n dX12_image_35 rfl 0 rfl ?_
    refine zi_getR dX12_image_36 gf_X12_28 (fun v2 => ?_)
    refine zi_iload_n dX12_image_39 rfl 2 rfl ?_
    refine zi_iald dX12_image_40 (fun v3 => ?_)
    refine zi_iast dX12_image_41 (fun h4 => ?_)
    refine zi_iinc (j := 2) (v := l2 + 1) (l' := [(2, .int (l2 + 1)), (0, .ref (zbase G + l0)), (1, .int l1)]) dX12_image_42 rfl rfl (by decide) rfl ?_
    refine zi_goto (tgt := 17) dX12_image_45 (by decide) ?_
    refine zi_sub [1, 2, 0] rfl ?_
    exact hk17 l0 l1 (l2 + 1) h4
theorem wl_X12_image_17 (G : zG) (n : Nat) : ∀ (t : Nat) (l0 : Nat) (l1 : Int32) (l2 : Int32) (h : zH), zW G yX12_image cX12_image 3 (some .int) zvI 2 17 [(0, .ref (zbase G + l0)), (1, .int l1), (2, .int l2)] [] h (zlp3 (fb_X12_image_17 n ) t l0 l1 l2 h) := by
  intro t
  induction t with
  | zero => intros; exact zW_none
  | succ t ih => intro l0 l1 l2 h; rw [zlp3_s]; exact wb_X12_image_17 G n  _  ih l0 l1 l2 h
set_option maxRecDepth 20000 in
set_option maxHeartbeats 1000000 in
theorem k_X12_image (G : zG) (n : Nat) (a0 : Nat) (a1 : Int32) (h : zH) : zMet G yX12_image cX12_image 3 (some .int) zvI 2 [.ref (zbase G + a0), .int a1] h (f_X12_image n a0 a1 h) := by
  refine zMet_of (l := [(0, .ref (zbase G + a0)), (1, .int a1)]) (by decide) (Nat.le_of_ble_eq_true rfl) rfl ?_
  unfold f_X12_image
  refine zi_iload_n dX12_image_0 rfl 1 rfl ?_
  refine zi_iconst (v := 0) dX12_image_1 (by decide) ?_
  refine zi_iconst (v := 1) dX12_image_2 (by decide) ?_
  refine zi_callSI (As := [.int a1, .int 0, .int 1]) (rest := []) dX12_image_3 ml_X12_18 md_X12_lies ms_X12_lies rfl rfl (Nat.le_of_ble_eq_true rfl) (Nat.le_of_ble_eq_true rfl) (k_X12_lies G n a1 0 1 h) (fun r1 h2 => ?_)
  refine zi_if_ne (tgt := 15) dX12_image_6 (by decide) ?_ ?_
  · refine zi_iconst (v := 0) dX12_image_15 (by decide) ?_
    refine zi_istore_n (l' := [(2, .int 0), (0, .ref (zbase G + a0)), (1, .int a1)]) dX12_image_16 rfl (by decide) rfl ?_
    refine zi_sub [1, 2, 0] rfl ?_
    exact wl_X12_image_17 G n n a0 a1 0 h2
  · refine zi_aload_n dX12_image_9 rfl 0 rfl ?_
    refine zi_iconst (v := (-1)) dX12_image_10 (by decide) ?_
    refine zi_callVI (As := [.int (-1)]) (rest := []) (ci := 12) dX12_image_11 ml_X12_85 md_X12_refuses mv_X12_refuses rfl (by decide) rfl rfl (Nat.le_of_ble_eq_true rfl) (Nat.le_of_ble_eq_true rfl) (k_X12_refuses G n a0 (-1) h2) (fun r3 h4 => ?_)
    exact zi_retI dX12_image_14
set_option maxRecDepth 20000 in
set_option maxHeartbeats 1000000 in
theorem wb_X12_back_64 (G : zG) (n : Nat) (l0 : Nat) (h : zH) : zW G yX12_back cX12_back 3 (some .int) zvI 3 64 [(0, .ref (zbase G + l0))] [] h (fb_X12_back_64 n l0 h) := by
  unfold fb_X12_back_64
  refine zi_aload_n dX12_back_64 rfl 0 rfl ?_
  refine zi_iconst (v := 0) dX12_back_65 (by decide) ?_
  refine zi_callVI (As := [.int 0]) (rest := []) (ci := 12) dX12_back_66 ml_X12_88 md_X12_settled mv_X12_settled rfl (by decide) rfl rfl (Nat.le_of_ble_eq_true rfl) (Nat.le_of_ble_eq_true rfl) (k_X12_settled G n l0 0 h) (fun r1 h2 => ?_)
  exact zi_retI dX12_back_69
set_option maxRecDepth 20000 in
set_option maxHeartbeats 1000000 in
theorem wb_X12_back_33 (G : zG) (n : Nat) (k33 : Nat → Int32 → Int32 → zH → Option (Int32 × zH)) (hk33 : ∀ (l0 : Nat) (l1 : Int32) (l2 : Int32) (h : zH), zW G yX12_back cX12_back 3 (some .int) zvI 3 33 [(0, .ref (zbase G + l0)), (1, .int l1), (2, .int l2)] [] h (k33 l0 l1 l2 h)) (l0 : Nat) (l1 : Int32) (l2 : Int32) (h : zH) : zW G yX12_back cX12_back 3 (some .int) zvI 3 33 [(0, .ref (zbase G + l0)), (1, .int l1), (2, .int l2)] [] h (fb_X12_back_33 n k33 l0 l1 l2 h) := by
  unfold fb_X12_back_33
  refine zi_iload_n dX12_back_33 rfl 2 rfl ?_
  refine zi_sipush (v := 5815) dX12_back_34 (by decide) ?_
  refine zi_icmp_ge (tgt := 64) dX12_back_37 (by decide) ?_ ?_
  · refine zi_sub [0] rfl ?_
    exact wb_X12_back_64 G n l0 h
  · refine zi_aload_n dX12_back_40 rfl 0 rfl ?_
    refine zi_getR dX12_back_41 gf_X12_28 (fun v1 => ?_)
    refine zi_iload_n dX12_back_44 rfl 2 rfl ?_
    refine zi_aload_n dX12_back_45 rfl 0 rfl ?_
    refine zi_getR dX12_back_46 gf_X12_31 (fun v2 => ?_)
    refine zi_sipush (v := 5815) dX12_back_49 (by decide) ?_
    refine zi_iload_n dX12_back_52 rfl 1 rfl ?_
    refine zi_imul dX12_back_53 ?_
    refine zi_iload_n dX12_back_54 rfl 2 rfl ?_
    refine zi_iadd dX12_back_55 ?_
    refine zi_iald dX12_back_56 (fun v3 => ?_)
    refine zi_iast dX12_back_57 (fun h4 => ?_)
    refine zi_iinc (j := 2) (v := l2 + 1) (l' := [(2, .int (l2 + 1)), (0, .ref (zbase G + l0)), (1, .int l1)]) dX12_back_58 rfl rfl (by decide) rfl ?_
    refine zi_goto (tgt := 33) dX12_back_61 (by decide) ?_
    refine zi_sub [1, 2, 0] rfl ?_
    exact hk33 l0 l1 (l2 + 1) h4
theorem wl_X12_back_33 (G : zG) (n : Nat) : ∀ (t : Nat) (l0 : Nat) (l1 : Int32) (l2 : Int32) (h : zH), zW G yX12_back cX12_back 3 (some .int) zvI 3 33 [(0, .ref (zbase G + l0)), (1, .int l1), (2, .int l2)] [] h (zlp3 (fb_X12_back_33 n ) t l0 l1 l2 h) := by
  intro t
  induction t with
  | zero => intros; exact zW_none
  | succ t ih => intro l0 l1 l2 h; rw [zlp3_s]; exact wb_X12_back_33 G n  _  ih l0 l1 l2 h
set_option maxRecDepth 20000 in
set_option maxHeartbeats 1000000 in
theorem k_X12_back (G : zG) (n : Nat) (a0 : Nat) (a1 : Int32) (h : zH) : zMet G yX12_back cX12_back 3 (some .int) zvI 3 [.ref (zbase G + a0), .int a1] h (f_X12_back n a0 a1 h) := by
  refine zMet_of (l := [(0, .ref (zbase G + a0)), (1, .int a1)]) (by decide) (Nat.le_of_ble_eq_true rfl) rfl ?_
  unfold f_X12_back
  refine zi_iload_n dX12_back_0 rfl 1 rfl ?_
  refine zi_iconst (v := 0) dX12_back_1 (by decide) ?_
  refine zi_iconst (v := 1) dX12_back_2 (by decide) ?_
  refine zi_callSI (As := [.int a1, .int 0, .int 1]) (rest := []) dX12_back_3 ml_X12_18 md_X12_lies ms_X12_lies rfl rfl (Nat.le_of_ble_eq_true rfl) (Nat.le_of_ble_eq_true rfl) (k_X12_lies G n a1 0 1 h) (fun r1 h2 => ?_)
  refine zi_if_ne (tgt := 15) dX12_back_6 (by decide) ?_ ?_
  · refine zi_aload_n dX12_back_15 rfl 0 rfl ?_
    refine zi_getR dX12_back_16 gf_X12_34 (fun v3 => ?_)
    refine zi_iload_n dX12_back_19 rfl 1 rfl ?_
    refine zi_zald dX12_back_20 (fun v4 => ?_)
    refine zi_if_ne (tgt := 31) dX12_back_21 (by decide) ?_ ?_
    · refine zi_iconst (v := 0) dX12_back_31 (by decide) ?_
      refine zi_istore_n (l' := [(2, .int 0), (0, .ref (zbase G + a0)), (1, .int a1)]) dX12_back_32 rfl (by decide) rfl ?_
      refine zi_sub [1, 2, 0] rfl ?_
      exact wl_X12_back_33 G n n a0 a1 0 h2
    · refine zi_aload_n dX12_back_24 rfl 0 rfl ?_
      refine zi_bipush (v := (-2)) dX12_back_25 (by decide) ?_
      refine zi_callVI (As := [.int (-2)]) (rest := []) (ci := 12) dX12_back_27 ml_X12_85 md_X12_refuses mv_X12_refuses rfl (by decide) rfl rfl (Nat.le_of_ble_eq_true rfl) (Nat.le_of_ble_eq_true rfl) (k_X12_refuses G n a0 (-2) h2) (fun r5 h6 => ?_)
      exact zi_retI dX12_back_30
  · refine zi_aload_n dX12_back_9 rfl 0 rfl ?_
    refine zi_iconst (v := (-1)) dX12_back_10 (by decide) ?_
    refine zi_callVI (As := [.int (-1)]) (rest := []) (ci := 12) dX12_back_11 ml_X12_85 md_X12_refuses mv_X12_refuses rfl (by decide) rfl rfl (Nat.le_of_ble_eq_true rfl) (Nat.le_of_ble_eq_true rfl) (k_X12_refuses G n a0 (-1) h2) (fun r7 h8 => ?_)
    exact zi_retI dX12_back_14
set_option maxRecDepth 20000 in
set_option maxHeartbeats 1000000 in
theorem k_X12_isOn (G : zG) (n : Nat) (a0 : Nat) (a1 : Int32) (h : zH) : zMet G yX12_isOn cX12_isOn 2 (some .boolean) zvI 1 [.ref (zbase G + a0), .int a1] h (f_X12_isOn n a0 a1 h) := by
  refine zMet_of (l := [(0, .ref (zbase G + a0)), (1, .int a1)]) (by decide) (Nat.le_of_ble_eq_true rfl) rfl ?_
  unfold f_X12_isOn
  refine zi_aload_n dX12_isOn_0 rfl 0 rfl ?_
  refine zi_getR dX12_isOn_1 gf_X12_28 (fun v1 => ?_)
  refine zi_bipush (v := 97) dX12_isOn_4 (by decide) ?_
  refine zi_iload_n dX12_isOn_6 rfl 1 rfl ?_
  refine zi_iadd dX12_isOn_7 ?_
  refine zi_iald dX12_isOn_8 (fun v2 => ?_)
  refine zi_iconst (v := 1) dX12_isOn_9 (by decide) ?_
  refine zi_icmp_ne (tgt := 17) dX12_isOn_10 (by decide) ?_ ?_
  · refine zi_iconst (v := 0) dX12_isOn_17 (by decide) ?_
    exact zi_ret0 dX12_isOn_18
  · refine zi_iconst (v := 1) dX12_isOn_13 (by decide) ?_
    refine zi_goto (tgt := 18) dX12_isOn_14 (by decide) ?_
    exact zi_ret1 dX12_isOn_18
set_option maxRecDepth 20000 in
set_option maxHeartbeats 1000000 in
theorem k_X12_isParked (G : zG) (n : Nat) (a0 : Nat) (a1 : Int32) (h : zH) : zMet G yX12_isParked cX12_isParked 2 (some .boolean) zvI 1 [.ref (zbase G + a0), .int a1] h (f_X12_isParked n a0 a1 h) := by
  refine zMet_of (l := [(0, .ref (zbase G + a0)), (1, .int a1)]) (by decide) (Nat.le_of_ble_eq_true rfl) rfl ?_
  unfold f_X12_isParked
  refine zi_aload_n dX12_isParked_0 rfl 0 rfl ?_
  refine zi_getR dX12_isParked_1 gf_X12_28 (fun v1 => ?_)
  refine zi_bipush (v := 113) dX12_isParked_4 (by decide) ?_
  refine zi_iload_n dX12_isParked_6 rfl 1 rfl ?_
  refine zi_iadd dX12_isParked_7 ?_
  refine zi_iald dX12_isParked_8 (fun v2 => ?_)
  refine zi_iconst (v := 1) dX12_isParked_9 (by decide) ?_
  refine zi_icmp_ne (tgt := 17) dX12_isParked_10 (by decide) ?_ ?_
  · refine zi_iconst (v := 0) dX12_isParked_17 (by decide) ?_
    exact zi_ret0 dX12_isParked_18
  · refine zi_iconst (v := 1) dX12_isParked_13 (by decide) ?_
    refine zi_goto (tgt := 18) dX12_isParked_14 (by decide) ?_
    exact zi_ret1 dX12_isParked_18
set_option maxRecDepth 20000 in
set_option maxHeartbeats 1000000 in
theorem k_X12_isHeld (G : zG) (n : Nat) (a0 : Nat) (a1 : Int32) (h : zH) : zMet G yX12_isHeld cX12_isHeld 2 (some .boolean) zvI 1 [.ref (zbase G + a0), .int a1] h (f_X12_isHeld n a0 a1 h) := by
  refine zMet_of (l := [(0, .ref (zbase G + a0)), (1, .int a1)]) (by decide) (Nat.le_of_ble_eq_true rfl) rfl ?_
  unfold f_X12_isHeld
  refine zi_aload_n dX12_isHeld_0 rfl 0 rfl ?_
  refine zi_getR dX12_isHeld_1 gf_X12_28 (fun v1 => ?_)
  refine zi_bipush (v := 121) dX12_isHeld_4 (by decide) ?_
  refine zi_iload_n dX12_isHeld_6 rfl 1 rfl ?_
  refine zi_iadd dX12_isHeld_7 ?_
  refine zi_iald dX12_isHeld_8 (fun v2 => ?_)
  refine zi_iconst (v := 1) dX12_isHeld_9 (by decide) ?_
  refine zi_icmp_ne (tgt := 17) dX12_isHeld_10 (by decide) ?_ ?_
  · refine zi_iconst (v := 0) dX12_isHeld_17 (by decide) ?_
    exact zi_ret0 dX12_isHeld_18
  · refine zi_iconst (v := 1) dX12_isHeld_13 (by decide) ?_
    refine zi_goto (tgt := 18) dX12_isHeld_14 (by decide) ?_
    exact zi_ret1 dX12_isHeld_18
set_option maxRecDepth 20000 in
set_option maxHeartbeats 1000000 in
theorem k_X12_runs0 (G : zG) (n : Nat) (a0 : Nat) (h : zH) : zMet G yX12_runs0 cX12_runs0 1 (some .boolean) zvI 1 [.ref (zbase G + a0)] h (f_X12_runs0 n a0 h) := by
  refine zMet_of (l := [(0, .ref (zbase G + a0))]) (by decide) (Nat.le_of_ble_eq_true rfl) rfl ?_
  unfold f_X12_runs0
  refine zi_aload_n dX12_runs0_0 rfl 0 rfl ?_
  refine zi_getR dX12_runs0_1 gf_X12_28 (fun v1 => ?_)
  refine zi_sipush (v := 129) dX12_runs0_4 (by decide) ?_
  refine zi_iald dX12_runs0_7 (fun v2 => ?_)
  refine zi_iconst (v := 1) dX12_runs0_8 (by decide) ?_
  refine zi_icmp_ne (tgt := 16) dX12_runs0_9 (by decide) ?_ ?_
  · refine zi_iconst (v := 0) dX12_runs0_16 (by decide) ?_
    exact zi_ret0 dX12_runs0_17
  · refine zi_iconst (v := 1) dX12_runs0_12 (by decide) ?_
    refine zi_goto (tgt := 17) dX12_runs0_13 (by decide) ?_
    exact zi_ret1 dX12_runs0_17
set_option maxRecDepth 20000 in
set_option maxHeartbeats 1000000 in
theorem k_X12_hasReported (G : zG) (n : Nat) (a0 : Nat) (a1 : Int32) (h : zH) : zMet G yX12_hasReported cX12_hasReported 2 (some .boolean) zvI 2 [.ref (zbase G + a0), .int a1] h (f_X12_hasReported n a0 a1 h) := by
  refine zMet_of (l := [(0, .ref (zbase G + a0)), (1, .int a1)]) (by decide) (Nat.le_of_ble_eq_true rfl) rfl ?_
  unfold f_X12_hasReported
  refine zi_aload_n dX12_hasReported_0 rfl 0 rfl ?_
  refine zi_callVI (As := []) (rest := []) (ci := 12) dX12_hasReported_1 ml_X12_91 md_X12_runs0 mv_X12_runs0 rfl (by decide) rfl rfl (Nat.le_of_ble_eq_true rfl) (Nat.le_of_ble_eq_true rfl) (k_X12_runs0 G n a0 h) (fun r1 h2 => ?_)
  refine zi_if_eq (tgt := 29) dX12_hasReported_4 (by decide) ?_ ?_
  · refine zi_iconst (v := 1) dX12_hasReported_29 (by decide) ?_
    refine zi_goto (tgt := 34) dX12_hasReported_30 (by decide) ?_
    exact zi_ret1 dX12_hasReported_34
  · refine zi_aload_n dX12_hasReported_7 rfl 0 rfl ?_
    refine zi_getR dX12_hasReported_8 gf_X12_28 (fun v3 => ?_)
    refine zi_sipush (v := 131) dX12_hasReported_11 (by decide) ?_
    refine zi_iload_n dX12_hasReported_14 rfl 1 rfl ?_
    refine zi_callSI (As := [.int a1]) (rest := [.int 131, .ref (zbase G + v3)]) dX12_hasReported_15 ml_X12_95 md_X12_leafOf ms_X12_leafOf rfl rfl (Nat.le_of_ble_eq_true rfl) (Nat.le_of_ble_eq_true rfl) (k_X12_leafOf G n a1 h2) (fun r4 h5 => ?_)
    refine zi_iadd dX12_hasReported_18 ?_
    refine zi_iald dX12_hasReported_19 (fun v6 => ?_)
    refine zi_iload_n dX12_hasReported_20 rfl 1 rfl ?_
    refine zi_iconst (v := 2) dX12_hasReported_21 (by decide) ?_
    refine zi_irem dX12_hasReported_22 (by decide) ?_
    refine zi_callSI (As := [.int v6, .int (a1 - a1 / 2 * 2)]) (rest := []) dX12_hasReported_23 ml_X12_98 md_X12_isIn ms_X12_isIn rfl rfl (Nat.le_of_ble_eq_true rfl) (Nat.le_of_ble_eq_true rfl) (k_X12_isIn G n v6 (a1 - a1 / 2 * 2) h5) (fun r7 h8 => ?_)
    refine zi_if_ne (tgt := 33) dX12_hasReported_26 (by decide) ?_ ?_
    · refine zi_iconst (v := 0) dX12_hasReported_33 (by decide) ?_
      exact zi_ret0 dX12_hasReported_34
    · refine zi_iconst (v := 1) dX12_hasReported_29 (by decide) ?_
      refine zi_goto (tgt := 34) dX12_hasReported_30 (by decide) ?_
      exact zi_ret1 dX12_hasReported_34
set_option maxRecDepth 20000 in
set_option maxHeartbeats 1000000 in
theorem k_X12_cellOf (G : zG) (n : Nat) (a0 : Nat) (a1 : Int32) (h : zH) : zMet G yX12_cellOf cX12_cellOf 2 (some .int) zvI 2 [.ref (zbase G + a0), .int a1] h (f_X12_cellOf n a0 a1 h) := by
  refine zMet_of (l := [(0, .ref (zbase G + a0)), (1, .int a1)]) (by decide) (Nat.le_of_ble_eq_true rfl) rfl ?_
  unfold f_X12_cellOf
  refine zi_aload_n dX12_cellOf_0 rfl 0 rfl ?_
  refine zi_iload_n dX12_cellOf_1 rfl 1 rfl ?_
  refine zi_callVI (As := [.int a1]) (rest := []) (ci := 12) dX12_cellOf_2 ml_X12_102 md_X12_isOn mv_X12_isOn rfl (by decide) rfl rfl (Nat.le_of_ble_eq_true rfl) (Nat.le_of_ble_eq_true rfl) (k_X12_isOn G n a0 a1 h) (fun r1 h2 => ?_)
  refine zi_if_eq (tgt := 20) dX12_cellOf_5 (by decide) ?_ ?_
  · refine zi_iconst (v := (-1)) dX12_cellOf_20 (by decide) ?_
    exact zi_retI dX12_cellOf_21
  · refine zi_aload_n dX12_cellOf_8 rfl 0 rfl ?_
    refine zi_getR dX12_cellOf_9 gf_X12_28 (fun v3 => ?_)
    refine zi_bipush (v := 105) dX12_cellOf_12 (by decide) ?_
    refine zi_iload_n dX12_cellOf_14 rfl 1 rfl ?_
    refine zi_iadd dX12_cellOf_15 ?_
    refine zi_iald dX12_cellOf_16 (fun v4 => ?_)
    refine zi_goto (tgt := 21) dX12_cellOf_17 (by decide) ?_
    exact zi_retI dX12_cellOf_21
set_option maxRecDepth 20000 in
set_option maxHeartbeats 1000000 in
theorem k_X12_of (G : zG) (n : Nat) (a0 : Nat) (a1 : Int32) (a2 : Int32) (h : zH) : zMet G yX12_of cX12_of 3 (some .int) zvI 3 [.ref (zbase G + a0), .int a1, .int a2] h (f_X12_of n a0 a1 a2 h) := by
  refine zMet_of (l := [(0, .ref (zbase G + a0)), (1, .int a1), (2, .int a2)]) (by decide) (Nat.le_of_ble_eq_true rfl) rfl ?_
  unfold f_X12_of
  refine zi_iload_n dX12_of_0 rfl 1 rfl ?_
  refine zi_callSI (As := [.int a1]) (rest := []) dX12_of_1 ml_X12_106 md_X12_isProcessor ms_X12_isProcessor rfl rfl (Nat.le_of_ble_eq_true rfl) (Nat.le_of_ble_eq_true rfl) (k_X12_isProcessor G n a1 h) (fun r1 h2 => ?_)
  refine zi_if_ne (tgt := 9) dX12_of_4 (by decide) ?_ ?_
  · refine zi_iload_n dX12_of_9 rfl 2 rfl ?_
    refine zi_tsw (tgt := 94) _ dX12_of_10 rfl ?_ (by decide) ?_ ?_
    · intro j q hq
      match j, hq with
      | 0, hq => cases hq; exact ⟨rfl, _, rfl, rfl⟩
      | 1, hq => cases hq; exact ⟨rfl, _, rfl, rfl⟩
      | 2, hq => cases hq; exact ⟨rfl, _, rfl, rfl⟩
      | 3, hq => cases hq; exact ⟨rfl, _, rfl, rfl⟩
      | 4, hq => cases hq; exact ⟨rfl, _, rfl, rfl⟩
      | j + 5, hq => simp at hq
    · simp only [List.forall_mem_cons, List.not_mem_nil, false_implies, implies_true, and_true]
      refine ⟨?_, ?_, ?_, ?_, ?_⟩
      · refine zi_aload_n dX12_of_44 rfl 0 rfl ?_
        refine zi_getR dX12_of_45 gf_X12_28 (fun v3 => ?_)
        refine zi_bipush (v := 97) dX12_of_48 (by decide) ?_
        refine zi_iload_n dX12_of_50 rfl 1 rfl ?_
        refine zi_iadd dX12_of_51 ?_
        refine zi_iald dX12_of_52 (fun v4 => ?_)
        exact zi_retI dX12_of_53
      · refine zi_aload_n dX12_of_54 rfl 0 rfl ?_
        refine zi_iload_n dX12_of_55 rfl 1 rfl ?_
        refine zi_callVI (As := [.int a1]) (rest := []) (ci := 12) dX12_of_56 ml_X12_109 md_X12_cellOf mv_X12_cellOf rfl (by decide) rfl rfl (Nat.le_of_ble_eq_true rfl) (Nat.le_of_ble_eq_true rfl) (k_X12_cellOf G n a0 a1 h2) (fun r5 h6 => ?_)
        exact zi_retI dX12_of_59
      · refine zi_aload_n dX12_of_60 rfl 0 rfl ?_
        refine zi_getR dX12_of_61 gf_X12_28 (fun v7 => ?_)
        refine zi_bipush (v := 113) dX12_of_64 (by decide) ?_
        refine zi_iload_n dX12_of_66 rfl 1 rfl ?_
        refine zi_iadd dX12_of_67 ?_
        refine zi_iald dX12_of_68 (fun v8 => ?_)
        exact zi_retI dX12_of_69
      · refine zi_aload_n dX12_of_70 rfl 0 rfl ?_
        refine zi_getR dX12_of_71 gf_X12_28 (fun v9 => ?_)
        refine zi_bipush (v := 121) dX12_of_74 (by decide) ?_
        refine zi_iload_n dX12_of_76 rfl 1 rfl ?_
        refine zi_iadd dX12_of_77 ?_
        refine zi_iald dX12_of_78 (fun v10 => ?_)
        exact zi_retI dX12_of_79
      · refine zi_aload_n dX12_of_80 rfl 0 rfl ?_
        refine zi_iload_n dX12_of_81 rfl 1 rfl ?_
        refine zi_callVI (As := [.int a1]) (rest := []) (ci := 12) dX12_of_82 ml_X12_112 md_X12_hasReported mv_X12_hasReported rfl (by decide) rfl rfl (Nat.le_of_ble_eq_true rfl) (Nat.le_of_ble_eq_true rfl) (k_X12_hasReported G n a0 a1 h2) (fun r11 h12 => ?_)
        refine zi_if_eq (tgt := 92) dX12_of_85 (by decide) ?_ ?_
        · refine zi_iconst (v := 0) dX12_of_92 (by decide) ?_
          exact zi_retI dX12_of_93
        · refine zi_iconst (v := 1) dX12_of_88 (by decide) ?_
          refine zi_goto (tgt := 93) dX12_of_89 (by decide) ?_
          exact zi_retI dX12_of_93
    · refine zi_iconst (v := (-1)) dX12_of_94 (by decide) ?_
      exact zi_retI dX12_of_95
  · refine zi_iconst (v := (-1)) dX12_of_7 (by decide) ?_
    exact zi_retI dX12_of_8
