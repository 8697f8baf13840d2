set_option maxRecDepth 20000 in
set_option maxHeartbeats 1000000 in
theorem k_X11_step (G : zG) (n : Nat) (a0 : Nat) (a1 : Int32) (h : zH) : zMet G yX11_step cX11_step 2 (some .int) zvI 5 [.ref (zbase G + a0), .int a1] h (f_X11_step n a0 a1 h) := by
  refine zMet_of (l := [(0, .ref (zbase G + a0)), (1, .int a1)]) (by decide) (Nat.le_of_ble_eq_true rfl) rfl ?_
  unfold f_X11_step
  refine zi_aload_n dX11_step_0 rfl 0 rfl ?_
  refine zi_getR dX11_step_1 gf_X11_45 (fun v1 => ?_)
  refine zi_aload_n dX11_step_4 rfl 0 rfl ?_
  refine zi_getR dX11_step_5 gf_X11_10 (fun v2 => ?_)
  refine zi_callVU (As := [.ref (zbase G + v2)]) (rest := []) (ci := 2) dX11_step_8 ml_X11_268 md_X2_prepare mv_X2_prepare rfl (by decide) rfl rfl (Nat.le_of_ble_eq_true rfl) (Nat.le_of_ble_eq_true rfl) (k_X2_prepare G n v1 v2 h) (fun _ h4 => ?_)
  refine zi_aload_n dX11_step_11 rfl 0 rfl ?_
  refine zi_iconst (v := 3) dX11_step_12 (by decide) ?_
  refine zi_aload_n dX11_step_13 rfl 0 rfl ?_
  refine zi_getR dX11_step_14 gf_X11_10 (fun v5 => ?_)
  refine zi_iload_n dX11_step_17 rfl 1 rfl ?_
  refine zi_callVI (As := [.int a1]) (rest := [.int 3, .ref (zbase G + a0)]) (ci := 10) dX11_step_18 ml_X11_280 md_X10_goOn mv_X10_goOn rfl (by decide) rfl rfl (Nat.le_of_ble_eq_true rfl) (Nat.le_of_ble_eq_true rfl) (k_X10_goOn G n v5 a1 h4) (fun r6 h7 => ?_)
  refine zi_callVI (As := [.int 3, .int r6]) (rest := []) (ci := 11) dX11_step_21 ml_X11_271 md_X11_acted mv_X11_acted rfl (by decide) rfl rfl (Nat.le_of_ble_eq_true rfl) (Nat.le_of_ble_eq_true rfl) (k_X11_acted G n a0 3 r6 h7) (fun r8 h9 => ?_)
  exact zi_retI dX11_step_24
set_option maxRecDepth 20000 in
set_option maxHeartbeats 1000000 in
theorem k_X11_park (G : zG) (n : Nat) (a0 : Nat) (a1 : Int32) (h : zH) : zMet G yX11_park cX11_park 2 (some .int) zvI 5 [.ref (zbase G + a0), .int a1] h (f_X11_park n a0 a1 h) := by
  refine zMet_of (l := [(0, .ref (zbase G + a0)), (1, .int a1)]) (by decide) (Nat.le_of_ble_eq_true rfl) rfl ?_
  unfold f_X11_park
  refine zi_aload_n dX11_park_0 rfl 0 rfl ?_
  refine zi_getR dX11_park_1 gf_X11_45 (fun v1 => ?_)
  refine zi_aload_n dX11_park_4 rfl 0 rfl ?_
  refine zi_getR dX11_park_5 gf_X11_10 (fun v2 => ?_)
  refine zi_callVU (As := [.ref (zbase G + v2)]) (rest := []) (ci := 2) dX11_park_8 ml_X11_268 md_X2_prepare mv_X2_prepare rfl (by decide) rfl rfl (Nat.le_of_ble_eq_true rfl) (Nat.le_of_ble_eq_true rfl) (k_X2_prepare G n v1 v2 h) (fun _ h4 => ?_)
  refine zi_aload_n dX11_park_11 rfl 0 rfl ?_
  refine zi_iconst (v := 4) dX11_park_12 (by decide) ?_
  refine zi_aload_n dX11_park_13 rfl 0 rfl ?_
  refine zi_getR dX11_park_14 gf_X11_10 (fun v5 => ?_)
  refine zi_iload_n dX11_park_17 rfl 1 rfl ?_
  refine zi_callVI (As := [.int a1]) (rest := [.int 4, .ref (zbase G + a0)]) (ci := 10) dX11_park_18 ml_X11_283 md_X10_standStill mv_X10_standStill rfl (by decide) rfl rfl (Nat.le_of_ble_eq_true rfl) (Nat.le_of_ble_eq_true rfl) (k_X10_standStill G n v5 a1 h4) (fun r6 h7 => ?_)
  refine zi_callVI (As := [.int 4, .int r6]) (rest := []) (ci := 11) dX11_park_21 ml_X11_271 md_X11_acted mv_X11_acted rfl (by decide) rfl rfl (Nat.le_of_ble_eq_true rfl) (Nat.le_of_ble_eq_true rfl) (k_X11_acted G n a0 4 r6 h7) (fun r8 h9 => ?_)
  exact zi_retI dX11_park_24
set_option maxRecDepth 20000 in
set_option maxHeartbeats 1000000 in
theorem k_X11_leave (G : zG) (n : Nat) (a0 : Nat) (a1 : Int32) (h : zH) : zMet G yX11_leave cX11_leave 2 (some .int) zvI 6 [.ref (zbase G + a0), .int a1] h (f_X11_leave n a0 a1 h) := by
  refine zMet_of (l := [(0, .ref (zbase G + a0)), (1, .int a1)]) (by decide) (Nat.le_of_ble_eq_true rfl) rfl ?_
  unfold f_X11_leave
  refine zi_aload_n dX11_leave_0 rfl 0 rfl ?_
  refine zi_getR dX11_leave_1 gf_X11_45 (fun v1 => ?_)
  refine zi_aload_n dX11_leave_4 rfl 0 rfl ?_
  refine zi_getR dX11_leave_5 gf_X11_10 (fun v2 => ?_)
  refine zi_callVU (As := [.ref (zbase G + v2)]) (rest := []) (ci := 2) dX11_leave_8 ml_X11_268 md_X2_prepare mv_X2_prepare rfl (by decide) rfl rfl (Nat.le_of_ble_eq_true rfl) (Nat.le_of_ble_eq_true rfl) (k_X2_prepare G n v1 v2 h) (fun _ h4 => ?_)
  refine zi_aload_n dX11_leave_11 rfl 0 rfl ?_
  refine zi_iconst (v := 5) dX11_leave_12 (by decide) ?_
  refine zi_aload_n dX11_leave_13 rfl 0 rfl ?_
  refine zi_getR dX11_leave_14 gf_X11_10 (fun v5 => ?_)
  refine zi_iload_n dX11_leave_17 rfl 1 rfl ?_
  refine zi_aload_n dX11_leave_18 rfl 0 rfl ?_
  refine zi_getR dX11_leave_19 gf_X11_31 (fun v6 => ?_)
  refine zi_callVI (As := [.int a1, .ref (zbase G + v6)]) (rest := [.int 5, .ref (zbase G + a0)]) (ci := 10) dX11_leave_22 ml_X11_286 md_X10_goOut mv_X10_goOut rfl (by decide) rfl rfl (Nat.le_of_ble_eq_true rfl) (Nat.le_of_ble_eq_true rfl) (k_X10_goOut G n v5 a1 v6 h4) (fun r7 h8 => ?_)
  refine zi_callVI (As := [.int 5, .int r7]) (rest := []) (ci := 11) dX11_leave_25 ml_X11_271 md_X11_acted mv_X11_acted rfl (by decide) rfl rfl (Nat.le_of_ble_eq_true rfl) (Nat.le_of_ble_eq_true rfl) (k_X11_acted G n a0 5 r7 h8) (fun r9 h10 => ?_)
  exact zi_retI dX11_leave_28
set_option maxRecDepth 20000 in
set_option maxHeartbeats 1000000 in
theorem k_X11_tick (G : zG) (n : Nat) (a0 : Nat) (a1 : Int32) (h : zH) : zMet G yX11_tick cX11_tick 2 (some .int) zvI 6 [.ref (zbase G + a0), .int a1] h (f_X11_tick n a0 a1 h) := by
  refine zMet_of (l := [(0, .ref (zbase G + a0)), (1, .int a1)]) (by decide) (Nat.le_of_ble_eq_true rfl) rfl ?_
  unfold f_X11_tick
  refine zi_aload_n dX11_tick_0 rfl 0 rfl ?_
  refine zi_getR dX11_tick_1 gf_X11_45 (fun v1 => ?_)
  refine zi_aload_n dX11_tick_4 rfl 0 rfl ?_
  refine zi_getR dX11_tick_5 gf_X11_10 (fun v2 => ?_)
  refine zi_callVU (As := [.ref (zbase G + v2)]) (rest := []) (ci := 2) dX11_tick_8 ml_X11_268 md_X2_prepare mv_X2_prepare rfl (by decide) rfl rfl (Nat.le_of_ble_eq_true rfl) (Nat.le_of_ble_eq_true rfl) (k_X2_prepare G n v1 v2 h) (fun _ h4 => ?_)
  refine zi_aload_n dX11_tick_11 rfl 0 rfl ?_
  refine zi_bipush (v := 6) dX11_tick_12 (by decide) ?_
  refine zi_aload_n dX11_tick_14 rfl 0 rfl ?_
  refine zi_getR dX11_tick_15 gf_X11_10 (fun v5 => ?_)
  refine zi_iload_n dX11_tick_18 rfl 1 rfl ?_
  refine zi_aload_n dX11_tick_19 rfl 0 rfl ?_
  refine zi_getR dX11_tick_20 gf_X11_31 (fun v6 => ?_)
  refine zi_callVI (As := [.int a1, .ref (zbase G + v6)]) (rest := [.int 6, .ref (zbase G + a0)]) (ci := 10) dX11_tick_23 ml_X11_290 md_X10_beQuiet mv_X10_beQuiet rfl (by decide) rfl rfl (Nat.le_of_ble_eq_true rfl) (Nat.le_of_ble_eq_true rfl) (k_X10_beQuiet G n v5 a1 v6 h4) (fun r7 h8 => ?_)
  refine zi_callVI (As := [.int 6, .int r7]) (rest := []) (ci := 11) dX11_tick_26 ml_X11_271 md_X11_acted mv_X11_acted rfl (by decide) rfl rfl (Nat.le_of_ble_eq_true rfl) (Nat.le_of_ble_eq_true rfl) (k_X11_acted G n a0 6 r7 h8) (fun r9 h10 => ?_)
  exact zi_retI dX11_tick_29
set_option maxRecDepth 20000 in
set_option maxHeartbeats 1000000 in
theorem k_X11_begin (G : zG) (n : Nat) (a0 : Nat) (h : zH) : zMet G yX11_begin cX11_begin 1 (some .int) zvI 5 [.ref (zbase G + a0)] h (f_X11_begin n a0 h) := by
  refine zMet_of (l := [(0, .ref (zbase G + a0))]) (by decide) (Nat.le_of_ble_eq_true rfl) rfl ?_
  unfold f_X11_begin
  refine zi_aload_n dX11_begin_0 rfl 0 rfl ?_
  refine zi_getR dX11_begin_1 gf_X11_45 (fun v1 => ?_)
  refine zi_aload_n dX11_begin_4 rfl 0 rfl ?_
  refine zi_getR dX11_begin_5 gf_X11_10 (fun v2 => ?_)
  refine zi_callVU (As := [.ref (zbase G + v2)]) (rest := []) (ci := 2) dX11_begin_8 ml_X11_268 md_X2_prepare mv_X2_prepare rfl (by decide) rfl rfl (Nat.le_of_ble_eq_true rfl) (Nat.le_of_ble_eq_true rfl) (k_X2_prepare G n v1 v2 h) (fun _ h4 => ?_)
  refine zi_aload_n dX11_begin_11 rfl 0 rfl ?_
  refine zi_bipush (v := 7) dX11_begin_12 (by decide) ?_
  refine zi_aload_n dX11_begin_14 rfl 0 rfl ?_
  refine zi_getR dX11_begin_15 gf_X11_10 (fun v5 => ?_)
  refine zi_callVI (As := []) (rest := [.int 7, .ref (zbase G + a0)]) (ci := 10) dX11_begin_18 ml_X11_293 md_X10_startGrace mv_X10_startGrace rfl (by decide) rfl rfl (Nat.le_of_ble_eq_true rfl) (Nat.le_of_ble_eq_true rfl) (k_X10_startGrace G n v5 h4) (fun r6 h7 => ?_)
  refine zi_callVI (As := [.int 7, .int r6]) (rest := []) (ci := 11) dX11_begin_21 ml_X11_271 md_X11_acted mv_X11_acted rfl (by decide) rfl rfl (Nat.le_of_ble_eq_true rfl) (Nat.le_of_ble_eq_true rfl) (k_X11_acted G n a0 7 r6 h7) (fun r8 h9 => ?_)
  exact zi_retI dX11_begin_24
set_option maxRecDepth 20000 in
set_option maxHeartbeats 1000000 in
theorem wb_X10_hurryGrace_20 (G : zG) (n : Nat) (k20 : Nat → Nat → Int32 → Int32 → Int32 → zH → Option (Int32 × zH)) (hk20 : ∀ (l0 : Nat) (l1 : Nat) (l2 : Int32) (l3 : Int32) (l4 : Int32) (h : zH), zW G yX10_hurryGrace cX10_hurryGrace 5 (some .int) zvI 6 20 [(0, .ref (zbase G + l0)), (1, .ref (zbase G + l1)), (2, .int l2), (3, .int l3), (4, .int l4)] [] h (k20 l0 l1 l2 l3 l4 h)) (l0 : Nat) (l1 : Nat) (l2 : Int32) (l3 : Int32) (l4 : Int32) (h : zH) : zW G yX10_hurryGrace cX10_hurryGrace 5 (some .int) zvI 6 20 [(0, .ref (zbase G + l0)), (1, .ref (zbase G + l1)), (2, .int l2), (3, .int l3), (4, .int l4)] [] h (fb_X10_hurryGrace_20 n k20 l0 l1 l2 l3 l4 h) := by
  unfold fb_X10_hurryGrace_20
  refine zi_iload dX10_hurryGrace_20 4 rfl ?_
  refine zi_bipush (v := 8) dX10_hurryGrace_22 (by decide) ?_
  refine zi_icmp_ge (tgt := 62) dX10_hurryGrace_24 (by decide) ?_ ?_
  · refine zi_iload_n dX10_hurryGrace_62 rfl 3 rfl ?_
    exact zi_retI dX10_hurryGrace_63
  · refine zi_aload_n dX10_hurryGrace_27 rfl 0 rfl ?_
    refine zi_getZ dX10_hurryGrace_28 gf_X10_35 (fun v1 => ?_)
    refine zi_if_eq (tgt := 62) dX10_hurryGrace_31 (by decide) ?_ ?_
    · refine zi_iload_n dX10_hurryGrace_62 rfl 3 rfl ?_
      exact zi_retI dX10_hurryGrace_63
    · refine zi_aload_n dX10_hurryGrace_34 rfl 0 rfl ?_
      refine zi_getI dX10_hurryGrace_35 gf_X10_39 (fun v2 => ?_)
      refine zi_iload_n dX10_hurryGrace_38 rfl 2 rfl ?_
      refine zi_icmp_ne (tgt := 62) dX10_hurryGrace_39 (by decide) ?_ ?_
      · refine zi_iload_n dX10_hurryGrace_62 rfl 3 rfl ?_
        exact zi_retI dX10_hurryGrace_63
      · refine zi_iload_n dX10_hurryGrace_42 rfl 3 rfl ?_
        refine zi_aload_n dX10_hurryGrace_43 rfl 0 rfl ?_
        refine zi_iload dX10_hurryGrace_44 4 rfl ?_
        refine zi_aload_n dX10_hurryGrace_46 rfl 1 rfl ?_
        refine zi_callVI (As := [.int l4, .ref (zbase G + l1)]) (rest := [.int l3]) (ci := 10) dX10_hurryGrace_47 ml_X10_79 md_X10_beQuiet mv_X10_beQuiet rfl (by decide) rfl rfl (Nat.le_of_ble_eq_true rfl) (Nat.le_of_ble_eq_true rfl) (k_X10_beQuiet G n l0 l4 l1 h) (fun r3 h4 => ?_)
        refine zi_iconst (v := 0) dX10_hurryGrace_50 (by decide) ?_
        refine zi_callSI (As := [.int r3, .int 0]) (rest := [.int l3]) dX10_hurryGrace_51 ml_X10_147 md_J9_max_7cf53 ms_J9_max_7cf53 rfl rfl (Nat.le_of_ble_eq_true rfl) (Nat.le_of_ble_eq_true rfl) (k_J9_max_7cf53 G n r3 0 h4) (fun r5 h6 => ?_)
        refine zi_iadd dX10_hurryGrace_54 ?_
        refine zi_let (sf := fun x7 => .int x7 :: []) (fun x7 => ?_)
        refine zi_istore_n (l' := [(3, .int x7), (0, .ref (zbase G + l0)), (1, .ref (zbase G + l1)), (2, .int l2), (4, .int l4)]) dX10_hurryGrace_55 rfl (by decide) rfl ?_
        refine zi_iinc (j := 4) (v := l4 + 1) (l' := [(4, .int (l4 + 1)), (3, .int x7), (0, .ref (zbase G + l0)), (1, .ref (zbase G + l1)), (2, .int l2)]) dX10_hurryGrace_56 rfl rfl (by decide) rfl ?_
        refine zi_goto (tgt := 20) dX10_hurryGrace_59 (by decide) ?_
        refine zi_sub [2, 3, 4, 1, 0] rfl ?_
        exact hk20 l0 l1 l2 x7 (l4 + 1) h6
theorem wl_X10_hurryGrace_20 (G : zG) (n : Nat) : ∀ (t : Nat) (l0 : Nat) (l1 : Nat) (l2 : Int32) (l3 : Int32) (l4 : Int32) (h : zH), zW G yX10_hurryGrace cX10_hurryGrace 5 (some .int) zvI 6 20 [(0, .ref (zbase G + l0)), (1, .ref (zbase G + l1)), (2, .int l2), (3, .int l3), (4, .int l4)] [] h (zlp5 (fb_X10_hurryGrace_20 n ) t l0 l1 l2 l3 l4 h) := by
  intro t
  induction t with
  | zero => intros; exact zW_none
  | succ t ih => intro l0 l1 l2 l3 l4 h; rw [zlp5_s]; exact wb_X10_hurryGrace_20 G n  _  ih l0 l1 l2 l3 l4 h
set_option maxRecDepth 20000 in
set_option maxHeartbeats 1000000 in
theorem k_X10_hurryGrace (G : zG) (n : Nat) (a0 : Nat) (a1 : Nat) (h : zH) : zMet G yX10_hurryGrace cX10_hurryGrace 5 (some .int) zvI 6 [.ref (zbase G + a0), .ref (zbase G + a1)] h (f_X10_hurryGrace n a0 a1 h) := by
  refine zMet_of (l := [(0, .ref (zbase G + a0)), (1, .ref (zbase G + a1))]) (by decide) (Nat.le_of_ble_eq_true rfl) rfl ?_
  unfold f_X10_hurryGrace
  refine zi_aload_n dX10_hurryGrace_0 rfl 0 rfl ?_
  refine zi_getZ dX10_hurryGrace_1 gf_X10_35 (fun v1 => ?_)
  refine zi_if_ne (tgt := 10) dX10_hurryGrace_4 (by decide) ?_ ?_
  · refine zi_aload_n dX10_hurryGrace_10 rfl 0 rfl ?_
    refine zi_getI dX10_hurryGrace_11 gf_X10_39 (fun v2 => ?_)
    refine zi_istore_n (l' := [(2, .int v2), (0, .ref (zbase G + a0)), (1, .ref (zbase G + a1))]) dX10_hurryGrace_14 rfl (by decide) rfl ?_
    refine zi_iconst (v := 0) dX10_hurryGrace_15 (by decide) ?_
    refine zi_istore_n (l' := [(3, .int 0), (2, .int v2), (0, .ref (zbase G + a0)), (1, .ref (zbase G + a1))]) dX10_hurryGrace_16 rfl (by decide) rfl ?_
    refine zi_iconst (v := 0) dX10_hurryGrace_17 (by decide) ?_
    refine zi_istore (l' := [(4, .int 0), (3, .int 0), (2, .int v2), (0, .ref (zbase G + a0)), (1, .ref (zbase G + a1))]) dX10_hurryGrace_18 (by decide) rfl ?_
    refine zi_sub [3, 4, 2, 1, 0] rfl ?_
    exact wl_X10_hurryGrace_20 G n n a0 a1 v2 0 0 h
  · refine zi_bipush (v := (-3)) dX10_hurryGrace_7 (by decide) ?_
    exact zi_retI dX10_hurryGrace_9
set_option maxRecDepth 20000 in
set_option maxHeartbeats 1000000 in
theorem k_X11_hurry (G : zG) (n : Nat) (a0 : Nat) (h : zH) : zMet G yX11_hurry cX11_hurry 1 (some .int) zvI 7 [.ref (zbase G + a0)] h (f_X11_hurry n a0 h) := by
  refine zMet_of (l := [(0, .ref (zbase G + a0))]) (by decide) (Nat.le_of_ble_eq_true rfl) rfl ?_
  unfold f_X11_hurry
  refine zi_aload_n dX11_hurry_0 rfl 0 rfl ?_
  refine zi_getR dX11_hurry_1 gf_X11_45 (fun v1 => ?_)
  refine zi_aload_n dX11_hurry_4 rfl 0 rfl ?_
  refine zi_getR dX11_hurry_5 gf_X11_10 (fun v2 => ?_)
  refine zi_callVU (As := [.ref (zbase G + v2)]) (rest := []) (ci := 2) dX11_hurry_8 ml_X11_268 md_X2_prepare mv_X2_prepare rfl (by decide) rfl rfl (Nat.le_of_ble_eq_true rfl) (Nat.le_of_ble_eq_true rfl) (k_X2_prepare G n v1 v2 h) (fun _ h4 => ?_)
  refine zi_aload_n dX11_hurry_11 rfl 0 rfl ?_
  refine zi_bipush (v := 8) dX11_hurry_12 (by decide) ?_
  refine zi_aload_n dX11_hurry_14 rfl 0 rfl ?_
  refine zi_getR dX11_hurry_15 gf_X11_10 (fun v5 => ?_)
  refine zi_aload_n dX11_hurry_18 rfl 0 rfl ?_
  refine zi_getR dX11_hurry_19 gf_X11_31 (fun v6 => ?_)
  refine zi_callVI (As := [.ref (zbase G + v6)]) (rest := [.int 8, .ref (zbase G + a0)]) (ci := 10) dX11_hurry_22 ml_X11_296 md_X10_hurryGrace mv_X10_hurryGrace rfl (by decide) rfl rfl (Nat.le_of_ble_eq_true rfl) (Nat.le_of_ble_eq_true rfl) (k_X10_hurryGrace G n v5 v6 h4) (fun r7 h8 => ?_)
  refine zi_callVI (As := [.int 8, .int r7]) (rest := []) (ci := 11) dX11_hurry_25 ml_X11_271 md_X11_acted mv_X11_acted rfl (by decide) rfl rfl (Nat.le_of_ble_eq_true rfl) (Nat.le_of_ble_eq_true rfl) (k_X11_acted G n a0 8 r7 h8) (fun r9 h10 => ?_)
  exact zi_retI dX11_hurry_28
set_option maxRecDepth 20000 in
set_option maxHeartbeats 1000000 in
theorem k_X2_takeBack (G : zG) (n : Nat) (a0 : Nat) (a1 : Nat) (h : zH) : zMet G yX2_takeBack cX2_takeBack 2 (some .int) zvI 4 [.ref (zbase G + a0), .ref (zbase G + a1)] h (f_X2_takeBack n a0 a1 h) := by
  refine zMet_of (l := [(0, .ref (zbase G + a0)), (1, .ref (zbase G + a1))]) (by decide) (Nat.le_of_ble_eq_true rfl) rfl ?_
  unfold f_X2_takeBack
  refine zi_aload_n dX2_takeBack_0 rfl 0 rfl ?_
  refine zi_getI dX2_takeBack_1 gf_X2_25 (fun v1 => ?_)
  refine zi_if_ne (tgt := 10) dX2_takeBack_4 (by decide) ?_ ?_
  · refine zi_aload_n dX2_takeBack_10 rfl 0 rfl ?_
    refine zi_dup dX2_takeBack_11 rfl ?_
    refine zi_getI dX2_takeBack_12 gf_X2_25 (fun v2 => ?_)
    refine zi_iconst (v := 1) dX2_takeBack_15 (by decide) ?_
    refine zi_isub dX2_takeBack_16 ?_
    refine zi_putI dX2_takeBack_17 gf_X2_25 (fun h3 => ?_)
    refine zi_aload_n dX2_takeBack_20 rfl 1 rfl ?_
    refine zi_aload_n dX2_takeBack_21 rfl 0 rfl ?_
    refine zi_getR dX2_takeBack_22 gf_X2_13 (fun v4 => ?_)
    refine zi_aload_n dX2_takeBack_25 rfl 0 rfl ?_
    refine zi_aload_n dX2_takeBack_26 rfl 0 rfl ?_
    refine zi_getI dX2_takeBack_27 gf_X2_25 (fun v5 => ?_)
    refine zi_callVI (As := [.int v5]) (rest := [.ref (zbase G + v4), .ref (zbase G + a1)]) (ci := 2) dX2_takeBack_30 ml_X2_29 md_X2_slotOf mv_X2_slotOf rfl (by decide) rfl rfl (Nat.le_of_ble_eq_true rfl) (Nat.le_of_ble_eq_true rfl) (k_X2_slotOf G n a0 v5 h3) (fun r6 h7 => ?_)
    refine zi_aaldW dX2_takeBack_33 (fun v8 => ?_)
    refine zi_callVU (As := [.ref (zbase G + v8)]) (rest := []) (ci := 10) dX2_takeBack_34 ml_X2_33 md_X10_copyFrom mv_X10_copyFrom rfl (by decide) rfl rfl (Nat.le_of_ble_eq_true rfl) (Nat.le_of_ble_eq_true rfl) (k_X10_copyFrom G n a1 v8 h7) (fun _ h10 => ?_)
    refine zi_aload_n dX2_takeBack_37 rfl 0 rfl ?_
    refine zi_getR dX2_takeBack_38 gf_X2_17 (fun v11 => ?_)
    refine zi_aload_n dX2_takeBack_41 rfl 0 rfl ?_
    refine zi_aload_n dX2_takeBack_42 rfl 0 rfl ?_
    refine zi_getI dX2_takeBack_43 gf_X2_25 (fun v12 => ?_)
    refine zi_callVI (As := [.int v12]) (rest := [.ref (zbase G + v11)]) (ci := 2) dX2_takeBack_46 ml_X2_29 md_X2_slotOf mv_X2_slotOf rfl (by decide) rfl rfl (Nat.le_of_ble_eq_true rfl) (Nat.le_of_ble_eq_true rfl) (k_X2_slotOf G n a0 v12 h10) (fun r13 h14 => ?_)
    refine zi_iald dX2_takeBack_49 (fun v15 => ?_)
    exact zi_retI dX2_takeBack_50
  · refine zi_bipush (v := (-3)) dX2_takeBack_7 (by decide) ?_
    exact zi_retI dX2_takeBack_9
set_option maxRecDepth 20000 in
set_option maxHeartbeats 1000000 in
theorem k_X11_undo (G : zG) (n : Nat) (a0 : Nat) (h : zH) : zMet G yX11_undo cX11_undo 1 (some .int) zvI 5 [.ref (zbase G + a0)] h (f_X11_undo n a0 h) := by
  refine zMet_of (l := [(0, .ref (zbase G + a0))]) (by decide) (Nat.le_of_ble_eq_true rfl) rfl ?_
  unfold f_X11_undo
  refine zi_aload_n dX11_undo_0 rfl 0 rfl ?_
  refine zi_aload_n dX11_undo_1 rfl 0 rfl ?_
  refine zi_getR dX11_undo_2 gf_X11_45 (fun v1 => ?_)
  refine zi_aload_n dX11_undo_5 rfl 0 rfl ?_
  refine zi_getR dX11_undo_6 gf_X11_10 (fun v2 => ?_)
  refine zi_callVI (As := [.ref (zbase G + v2)]) (rest := [.ref (zbase G + a0)]) (ci := 2) dX11_undo_9 ml_X11_300 md_X2_takeBack mv_X2_takeBack rfl (by decide) rfl rfl (Nat.le_of_ble_eq_true rfl) (Nat.le_of_ble_eq_true rfl) (k_X2_takeBack G n v1 v2 h) (fun r3 h4 => ?_)
  refine zi_callVI (As := [.int r3]) (rest := []) (ci := 11) dX11_undo_12 ml_X11_192 md_X11_told mv_X11_told rfl (by decide) rfl rfl (Nat.le_of_ble_eq_true rfl) (Nat.le_of_ble_eq_true rfl) (k_X11_told G n a0 r3 h4) (fun r5 h6 => ?_)
  exact zi_retI dX11_undo_15
set_option maxRecDepth 20000 in
set_option maxHeartbeats 1000000 in
theorem k_X11_sees (G : zG) (n : Nat) (a0 : Nat) (a1 : Int32) (a2 : Int32) (h : zH) : zMet G yX11_sees cX11_sees 3 (some .int) zvI 3 [.ref (zbase G + a0), .int a1, .int a2] h (f_X11_sees n a0 a1 a2 h) := by
  refine zMet_of (l := [(0, .ref (zbase G + a0)), (1, .int a1), (2, .int a2)]) (by decide) (Nat.le_of_ble_eq_true rfl) rfl ?_
  unfold f_X11_sees
  refine zi_aload_n dX11_sees_0 rfl 0 rfl ?_
  refine zi_getR dX11_sees_1 gf_X11_10 (fun v1 => ?_)
  refine zi_getR dX11_sees_4 gf_X11_140 (fun v2 => ?_)
  refine zi_aload_n dX11_sees_7 rfl 0 rfl ?_
  refine zi_getR dX11_sees_8 gf_X11_10 (fun v3 => ?_)
  refine zi_iload_n dX11_sees_11 rfl 1 rfl ?_
  refine zi_callVI (As := [.int a1]) (rest := [.ref (zbase G + v2)]) (ci := 10) dX11_sees_12 ml_X11_123 md_X10_cellOf mv_X10_cellOf rfl (by decide) rfl rfl (Nat.le_of_ble_eq_true rfl) (Nat.le_of_ble_eq_true rfl) (k_X10_cellOf G n v3 a1 h) (fun r4 h5 => ?_)
  refine zi_iload_n dX11_sees_15 rfl 2 rfl ?_
  refine zi_callVI (As := [.int r4, .int a2]) (rest := []) (ci := 0) dX11_sees_16 ml_X11_161 md_X0_along mv_X0_along rfl (by decide) rfl rfl (Nat.le_of_ble_eq_true rfl) (Nat.le_of_ble_eq_true rfl) (k_X0_along G n v2 r4 a2 h5) (fun r6 h7 => ?_)
  exact zi_retI dX11_sees_19
set_option maxRecDepth 20000 in
set_option maxHeartbeats 1000000 in
theorem wb_X0_leadsTo_5 (G : zG) (n : Nat) (k5 : Nat → Int32 → Int32 → Int32 → zH → Option (Int32 × zH)) (hk5 : ∀ (l0 : Nat) (l2 : Int32) (l3 : Int32) (l4 : Int32) (h : zH), zW G yX0_leadsTo cX0_leadsTo 5 (some .boolean) zvI 2 5 [(0, .ref (zbase G + l0)), (2, .int l2), (3, .int l3), (4, .int l4)] [] h (k5 l0 l2 l3 l4 h)) (l0 : Nat) (l2 : Int32) (l3 : Int32) (l4 : Int32) (h : zH) : zW G yX0_leadsTo cX0_leadsTo 5 (some .boolean) zvI 2 5 [(0, .ref (zbase G + l0)), (2, .int l2), (3, .int l3), (4, .int l4)] [] h (fb_X0_leadsTo_5 n k5 l0 l2 l3 l4 h) := by
  unfold fb_X0_leadsTo_5
  refine zi_iload dX0_leadsTo_5 3 rfl ?_
  refine zi_bipush (v := 24) dX0_leadsTo_7 (by decide) ?_
  refine zi_icmp_ge (tgt := 39) dX0_leadsTo_9 (by decide) ?_ ?_
  · refine zi_iconst (v := 0) dX0_leadsTo_39 (by decide) ?_
    exact zi_ret0 dX0_leadsTo_40
  · refine zi_iload_n dX0_leadsTo_12 rfl 2 rfl ?_
    refine zi_callNI (As := [.int l3]) (rest := []) (host := "GraceTree") dX0_leadsTo_13 mn_X0_46 md_X11_isCell ms_X11_isCell rfl rfl (Nat.le_of_ble_eq_true rfl) (Nat.le_of_ble_eq_true rfl) (k_X11_isCell G n l3 h) (fun r1 h2 => ?_)
    refine zi_if_eq (tgt := 39) dX0_leadsTo_16 (by decide) ?_ ?_
    · refine zi_iconst (v := 0) dX0_leadsTo_39 (by decide) ?_
      exact zi_ret0 dX0_leadsTo_40
    · refine zi_iload_n dX0_leadsTo_19 rfl 2 rfl ?_
      refine zi_iload_n dX0_leadsTo_20 rfl 1 rfl ?_
      refine zi_icmp_ne (tgt := 26) dX0_leadsTo_21 (by decide) ?_ ?_
      · refine zi_aload_n dX0_leadsTo_26 rfl 0 rfl ?_
        refine zi_getR dX0_leadsTo_27 gf_X0_21 (fun v3 => ?_)
        refine zi_iload_n dX0_leadsTo_30 rfl 2 rfl ?_
        refine zi_iald dX0_leadsTo_31 (fun v4 => ?_)
        refine zi_istore_n (l' := [(3, .int v4), (0, .ref (zbase G + l0)), (2, .int l2), (4, .int l4)]) dX0_leadsTo_32 rfl (by decide) rfl ?_
        refine zi_iinc (j := 3) (v := l4 + 1) (l' := [(4, .int (l4 + 1)), (3, .int v4), (0, .ref (zbase G + l0)), (2, .int l2)]) dX0_leadsTo_33 rfl rfl (by decide) rfl ?_
        refine zi_goto (tgt := 5) dX0_leadsTo_36 (by decide) ?_
        refine zi_sub [2, 3, 1, 0] rfl ?_
        exact hk5 l0 l2 v4 (l4 + 1) h2
      · refine zi_iconst (v := 1) dX0_leadsTo_24 (by decide) ?_
        exact zi_ret1 dX0_leadsTo_25
theorem wl_X0_leadsTo_5 (G : zG) (n : Nat) : ∀ (t : Nat) (l0 : Nat) (l2 : Int32) (l3 : Int32) (l4 : Int32) (h : zH), zW G yX0_leadsTo cX0_leadsTo 5 (some .boolean) zvI 2 5 [(0, .ref (zbase G + l0)), (2, .int l2), (3, .int l3), (4, .int l4)] [] h (zlp4 (fb_X0_leadsTo_5 n ) t l0 l2 l3 l4 h) := by
  intro t
  induction t with
  | zero => intros; exact zW_none
  | succ t ih => intro l0 l2 l3 l4 h; rw [zlp4_s]; exact wb_X0_leadsTo_5 G n  _  ih l0 l2 l3 l4 h
set_option maxRecDepth 20000 in
set_option maxHeartbeats 1000000 in
theorem k_X0_leadsTo (G : zG) (n : Nat) (a0 : Nat) (a1 : Int32) (a2 : Int32) (h : zH) : zMet G yX0_leadsTo cX0_leadsTo 5 (some .boolean) zvI 2 [.ref (zbase G + a0), .int a1, .int a2] h (f_X0_leadsTo n a0 a1 a2 h) := by
  refine zMet_of (l := [(0, .ref (zbase G + a0)), (1, .int a1), (2, .int a2)]) (by decide) (Nat.le_of_ble_eq_true rfl) rfl ?_
  unfold f_X0_leadsTo
  refine zi_iload_n dX0_leadsTo_0 rfl 1 rfl ?_
  refine zi_istore_n (l' := [(3, .int a1), (0, .ref (zbase G + a0)), (1, .int a1), (2, .int a2)]) dX0_leadsTo_1 rfl (by decide) rfl ?_
  refine zi_iconst (v := 0) dX0_leadsTo_2 (by decide) ?_
  refine zi_istore (l' := [(4, .int 0), (3, .int a1), (0, .ref (zbase G + a0)), (1, .int a1), (2, .int a2)]) dX0_leadsTo_3 (by decide) rfl ?_
  refine zi_sub [2, 4, 1, 0] rfl ?_
  exact wl_X0_leadsTo_5 G n n a0 a2 a1 0 h
set_option maxRecDepth 20000 in
set_option maxHeartbeats 1000000 in
theorem wb_X11_reach_47 (G : zG) (n : Nat) (k13 : Nat → Int32 → Int32 → Int32 → zH → Option (Int32 × zH)) (hk13 : ∀ (l0 : Nat) (l1 : Int32) (l2 : Int32) (l3 : Int32) (h : zH), zW G yX11_reach cX11_reach 4 (some .int) zvI 3 13 [(0, .ref (zbase G + l0)), (1, .int l1), (2, .int l2), (3, .int l3)] [] h (k13 l0 l1 l2 l3 h)) (l0 : Nat) (l1 : Int32) (l2 : Int32) (l3 : Int32) (h : zH) : zW G yX11_reach cX11_reach 4 (some .int) zvI 3 47 [(0, .ref (zbase G + l0)), (1, .int l1), (2, .int l2), (3, .int l3)] [] h (fb_X11_reach_47 n k13 l0 l1 l2 l3 h) := by
  unfold fb_X11_reach_47
  refine zi_iinc (j := 3) (v := l3 + 1) (l' := [(3, .int (l3 + 1)), (0, .ref (zbase G + l0)), (1, .int l1), (2, .int l2)]) dX11_reach_47 rfl rfl (by decide) rfl ?_
  refine zi_goto (tgt := 13) dX11_reach_50 (by decide) ?_
  refine zi_sub [1, 2, 3, 0] rfl ?_
  exact hk13 l0 l1 l2 (l3 + 1) h
set_option maxRecDepth 20000 in
set_option maxHeartbeats 1000000 in
theorem wb_X11_reach_13 (G : zG) (n : Nat) (k13 : Nat → Int32 → Int32 → Int32 → zH → Option (Int32 × zH)) (hk13 : ∀ (l0 : Nat) (l1 : Int32) (l2 : Int32) (l3 : Int32) (h : zH), zW G yX11_reach cX11_reach 4 (some .int) zvI 3 13 [(0, .ref (zbase G + l0)), (1, .int l1), (2, .int l2), (3, .int l3)] [] h (k13 l0 l1 l2 l3 h)) (l0 : Nat) (l1 : Int32) (l2 : Int32) (l3 : Int32) (h : zH) : zW G yX11_reach cX11_reach 4 (some .int) zvI 3 13 [(0, .ref (zbase G + l0)), (1, .int l1), (2, .int l2), (3, .int l3)] [] h (fb_X11_reach_13 n k13 l0 l1 l2 l3 h) := by
  unfold fb_X11_reach_13
  refine zi_iload_n dX11_reach_13 rfl 3 rfl ?_
  refine zi_bipush (v := 8) dX11_reach_14 (by decide) ?_
  refine zi_icmp_ge (tgt := 53) dX11_reach_16 (by decide) ?_ ?_
  · refine zi_iload_n dX11_reach_53 rfl 2 rfl ?_
    exact zi_retI dX11_reach_54
  · refine zi_aload_n dX11_reach_19 rfl 0 rfl ?_
    refine zi_getR dX11_reach_20 gf_X11_10 (fun v1 => ?_)
    refine zi_getR dX11_reach_23 gf_X11_140 (fun v2 => ?_)
    refine zi_aload_n dX11_reach_26 rfl 0 rfl ?_
    refine zi_getR dX11_reach_27 gf_X11_10 (fun v3 => ?_)
    refine zi_iload_n dX11_reach_30 rfl 3 rfl ?_
    refine zi_callVI (As := [.int l3]) (rest := [.ref (zbase G + v2)]) (ci := 10) dX11_reach_31 ml_X11_123 md_X10_cellOf mv_X10_cellOf rfl (by decide) rfl rfl (Nat.le_of_ble_eq_true rfl) (Nat.le_of_ble_eq_true rfl) (k_X10_cellOf G n v3 l3 h) (fun r4 h5 => ?_)
    refine zi_iload_n dX11_reach_34 rfl 1 rfl ?_
    refine zi_callVI (As := [.int r4, .int l1]) (rest := []) (ci := 0) dX11_reach_35 ml_X11_304 md_X0_leadsTo mv_X0_leadsTo rfl (by decide) rfl rfl (Nat.le_of_ble_eq_true rfl) (Nat.le_of_ble_eq_true rfl) (k_X0_leadsTo G n v2 r4 l1 h5) (fun r6 h7 => ?_)
    refine zi_if_eq (tgt := 47) dX11_reach_38 (by decide) ?_ ?_
    · refine zi_sub [0, 1, 2, 3] rfl ?_
      exact wb_X11_reach_47 G n k13 hk13 l0 l1 l2 l3 h7
    · refine zi_iload_n dX11_reach_41 rfl 2 rfl ?_
      refine zi_iconst (v := 1) dX11_reach_42 (by decide) ?_
      refine zi_iload_n dX11_reach_43 rfl 3 rfl ?_
      refine zi_ishl dX11_reach_44 ?_
      refine zi_ior dX11_reach_45 ?_
      refine zi_let (sf := fun x8 => .int x8 :: []) (fun x8 => ?_)
      refine zi_istore_n (l' := [(2, .int x8), (0, .ref (zbase G + l0)), (1, .int l1), (3, .int l3)]) dX11_reach_46 rfl (by decide) rfl ?_
      refine zi_sub [1, 2, 0, 3] rfl ?_
      exact wb_X11_reach_47 G n k13 hk13 l0 l1 x8 l3 h7
theorem wl_X11_reach_13 (G : zG) (n : Nat) : ∀ (t : Nat) (l0 : Nat) (l1 : Int32) (l2 : Int32) (l3 : Int32) (h : zH), zW G yX11_reach cX11_reach 4 (some .int) zvI 3 13 [(0, .ref (zbase G + l0)), (1, .int l1), (2, .int l2), (3, .int l3)] [] h (zlp4 (fb_X11_reach_13 n ) t l0 l1 l2 l3 h) := by
  intro t
  induction t with
  | zero => intros; exact zW_none
  | succ t ih => intro l0 l1 l2 l3 h; rw [zlp4_s]; exact wb_X11_reach_13 G n  _  ih l0 l1 l2 l3 h
set_option maxRecDepth 20000 in
set_option maxHeartbeats 1000000 in
theorem k_X11_reach (G : zG) (n : Nat) (a0 : Nat) (a1 : Int32) (h : zH) : zMet G yX11_reach cX11_reach 4 (some .int) zvI 3 [.ref (zbase G + a0), .int a1] h (f_X11_reach n a0 a1 h) := by
  refine zMet_of (l := [(0, .ref (zbase G + a0)), (1, .int a1)]) (by decide) (Nat.le_of_ble_eq_true rfl) rfl ?_
  unfold f_X11_reach
  refine zi_iload_n dX11_reach_0 rfl 1 rfl ?_
  refine zi_callSI (As := [.int a1]) (rest := []) dX11_reach_1 ml_X11_137 md_X11_isCell ms_X11_isCell rfl rfl (Nat.le_of_ble_eq_true rfl) (Nat.le_of_ble_eq_true rfl) (k_X11_isCell G n a1 h) (fun r1 h2 => ?_)
  refine zi_if_ne (tgt := 9) dX11_reach_4 (by decide) ?_ ?_
  · refine zi_iconst (v := 0) dX11_reach_9 (by decide) ?_
    refine zi_istore_n (l' := [(2, .int 0), (0, .ref (zbase G + a0)), (1, .int a1)]) dX11_reach_10 rfl (by decide) rfl ?_
    refine zi_iconst (v := 0) dX11_reach_11 (by decide) ?_
    refine zi_istore_n (l' := [(3, .int 0), (2, .int 0), (0, .ref (zbase G + a0)), (1, .int a1)]) dX11_reach_12 rfl (by decide) rfl ?_
    refine zi_sub [2, 3, 1, 0] rfl ?_
    exact wl_X11_reach_13 G n n a0 a1 0 0 h2
  · refine zi_iconst (v := (-1)) dX11_reach_7 (by decide) ?_
    exact zi_retI dX11_reach_8
set_option maxRecDepth 20000 in
set_option maxHeartbeats 1000000 in
theorem k_X11_holders (G : zG) (n : Nat) (a0 : Nat) (h : zH) : zMet G yX11_holders cX11_holders 1 (some .int) zvI 2 [.ref (zbase G + a0)] h (f_X11_holders n a0 h) := by
  refine zMet_of (l := [(0, .ref (zbase G + a0))]) (by decide) (Nat.le_of_ble_eq_true rfl) rfl ?_
  unfold f_X11_holders
  refine zi_aload_n dX11_holders_0 rfl 0 rfl ?_
  refine zi_getR dX11_holders_1 gf_X11_10 (fun v1 => ?_)
  refine zi_getZ dX11_holders_4 gf_X11_170 (fun v2 => ?_)
  refine zi_if_eq (tgt := 28) dX11_holders_7 (by decide) ?_ ?_
  · refine zi_iconst (v := 0) dX11_holders_28 (by decide) ?_
    exact zi_retI dX11_holders_29
  · refine zi_aload_n dX11_holders_10 rfl 0 rfl ?_
    refine zi_getR dX11_holders_11 gf_X11_10 (fun v3 => ?_)
    refine zi_callVI (As := []) (rest := []) (ci := 10) dX11_holders_14 ml_X11_133 md_X10_unreported mv_X10_unreported rfl (by decide) rfl rfl (Nat.le_of_ble_eq_true rfl) (Nat.le_of_ble_eq_true rfl) (k_X10_unreported G n v3 h) (fun r4 h5 => ?_)
    refine zi_aload_n dX11_holders_17 rfl 0 rfl ?_
    refine zi_getR dX11_holders_18 gf_X11_10 (fun v6 => ?_)
    refine zi_getI dX11_holders_21 gf_X11_130 (fun v7 => ?_)
    refine zi_ior dX11_holders_24 ?_
    refine zi_goto (tgt := 29) dX11_holders_25 (by decide) ?_
    exact zi_retI dX11_holders_29
set_option maxRecDepth 20000 in
set_option maxHeartbeats 1000000 in
theorem k_X10_whyLeaf (G : zG) (n : Nat) (a0 : Nat) (a1 : Int32) (h : zH) : zMet G yX10_whyLeaf cX10_whyLeaf 4 (some .int) zvI 2 [.ref (zbase G + a0), .int a1] h (f_X10_whyLeaf n a0 a1 h) := by
  refine zMet_of (l := [(0, .ref (zbase G + a0)), (1, .int a1)]) (by decide) (Nat.le_of_ble_eq_true rfl) rfl ?_
  unfold f_X10_whyLeaf
  refine zi_iconst (v := 2) dX10_whyLeaf_0 (by decide) ?_
  refine zi_iload_n dX10_whyLeaf_1 rfl 1 rfl ?_
  refine zi_iconst (v := 4) dX10_whyLeaf_2 (by decide) ?_
  refine zi_isub dX10_whyLeaf_3 ?_
  refine zi_imul dX10_whyLeaf_4 ?_
  refine zi_let (sf := fun x1 => .int x1 :: []) (fun x1 => ?_)
  refine zi_istore_n (l' := [(2, .int x1), (0, .ref (zbase G + a0)), (1, .int a1)]) dX10_whyLeaf_5 rfl (by decide) rfl ?_
  refine zi_aload_n dX10_whyLeaf_6 rfl 1 rfl ?_
  refine zi_callVI (As := []) (rest := []) (ci := 10) dX10_whyLeaf_7 ml_X10_90 md_X10_unreported mv_X10_unreported rfl (by decide) rfl rfl (Nat.le_of_ble_eq_true rfl) (Nat.le_of_ble_eq_true rfl) (k_X10_unreported G n a0 h) (fun r2 h3 => ?_)
  refine zi_iload_n dX10_whyLeaf_10 rfl 0 rfl ?_
  refine zi_ishr dX10_whyLeaf_11 ?_
  refine zi_iconst (v := 3) dX10_whyLeaf_12 (by decide) ?_
  refine zi_iand dX10_whyLeaf_13 ?_
  refine zi_let (sf := fun x4 => .int x4 :: []) (fun x4 => ?_)
  refine zi_istore_n (l' := [(3, .int x4), (2, .int x1), (0, .ref (zbase G + a0)), (1, .int a1)]) dX10_whyLeaf_14 rfl (by decide) rfl ?_
  refine zi_iload_n dX10_whyLeaf_15 rfl 0 rfl ?_
  refine zi_if_eq (tgt := 36) dX10_whyLeaf_16 (by decide) ?_ ?_
  · refine zi_bipush (v := 20) dX10_whyLeaf_36 (by decide) ?_
    refine zi_iload_n dX10_whyLeaf_38 rfl 1 rfl ?_
    refine zi_iadd dX10_whyLeaf_39 ?_
    refine zi_aload_n dX10_whyLeaf_40 rfl 2 rfl ?_
    refine zi_getI dX10_whyLeaf_41 gf_X10_32 (fun v5 => ?_)
    refine zi_iload_n dX10_whyLeaf_44 rfl 1 rfl ?_
    refine zi_ishr dX10_whyLeaf_45 ?_
    refine zi_iconst (v := 1) dX10_whyLeaf_46 (by decide) ?_
    refine zi_iand dX10_whyLeaf_47 ?_
    refine zi_if_eq (tgt := 55) dX10_whyLeaf_48 (by decide) ?_ ?_
    · refine zi_iconst (v := 1) dX10_whyLeaf_55 (by decide) ?_
      refine zi_iadd dX10_whyLeaf_56 ?_
      exact zi_retI dX10_whyLeaf_57
    · refine zi_iconst (v := 0) dX10_whyLeaf_51 (by decide) ?_
      refine zi_goto (tgt := 56) dX10_whyLeaf_52 (by decide) ?_
      refine zi_iadd dX10_whyLeaf_56 ?_
      exact zi_retI dX10_whyLeaf_57
  · refine zi_bipush (v := 10) dX10_whyLeaf_19 (by decide) ?_
    refine zi_iload_n dX10_whyLeaf_21 rfl 1 rfl ?_
    refine zi_iadd dX10_whyLeaf_22 ?_
    refine zi_iload_n dX10_whyLeaf_23 rfl 0 rfl ?_
    refine zi_iconst (v := 1) dX10_whyLeaf_24 (by decide) ?_
    refine zi_iand dX10_whyLeaf_25 ?_
    refine zi_if_eq (tgt := 33) dX10_whyLeaf_26 (by decide) ?_ ?_
    · refine zi_iconst (v := 1) dX10_whyLeaf_33 (by decide) ?_
      refine zi_iadd dX10_whyLeaf_34 ?_
      exact zi_retI dX10_whyLeaf_35
    · refine zi_iconst (v := 0) dX10_whyLeaf_29 (by decide) ?_
      refine zi_goto (tgt := 34) dX10_whyLeaf_30 (by decide) ?_
      refine zi_iadd dX10_whyLeaf_34 ?_
      exact zi_retI dX10_whyLeaf_35
set_option maxRecDepth 20000 in
set_option maxHeartbeats 1000000 in
theorem wb_X11_why_65 (G : zG) (n : Nat) (l0 : Nat) (l1 : Int32) (l2 : Int32) (h : zH) : zW G yX11_why cX11_why 4 (some .int) zvI 3 65 [(0, .ref (zbase G + l0)), (1, .int l1), (2, .int l2)] [] h (fb_X11_why_65 n l0 l1 l2 h) := by
  unfold fb_X11_why_65
  refine zi_iload_n dX11_why_65 rfl 1 rfl ?_
  refine zi_iconst (v := 3) dX11_why_66 (by decide) ?_
  refine zi_icmp_ge (tgt := 74) dX11_why_67 (by decide) ?_ ?_
  · refine zi_aload_n dX11_why_74 rfl 0 rfl ?_
    refine zi_getR dX11_why_75 gf_X11_10 (fun v1 => ?_)
    refine zi_iload_n dX11_why_78 rfl 2 rfl ?_
    refine zi_callVI (As := [.int l2]) (rest := []) (ci := 10) dX11_why_79 ml_X11_308 md_X10_whyLeaf mv_X10_whyLeaf rfl (by decide) rfl rfl (Nat.le_of_ble_eq_true rfl) (Nat.le_of_ble_eq_true rfl) (k_X10_whyLeaf G n v1 l2 h) (fun r2 h3 => ?_)
    exact zi_retI dX11_why_82
  · refine zi_iload_n dX11_why_70 rfl 2 rfl ?_
    refine zi_goto (tgt := 82) dX11_why_71 (by decide) ?_
    exact zi_retI dX11_why_82
set_option maxRecDepth 20000 in
set_option maxHeartbeats 1000000 in
theorem wb_X11_why_57 (G : zG) (n : Nat) (k25 : Nat → Int32 → Int32 → Int32 → zH → Option (Int32 × zH)) (hk25 : ∀ (l0 : Nat) (l1 : Int32) (l2 : Int32) (l3 : Int32) (h : zH), zW G yX11_why cX11_why 4 (some .int) zvI 3 25 [(0, .ref (zbase G + l0)), (1, .int l1), (2, .int l2), (3, .int l3)] [] h (k25 l0 l1 l2 l3 h)) (l0 : Nat) (l1 : Int32) (l3 : Int32) (s0 : Int32) (s1 : Int32) (h : zH) : zW G yX11_why cX11_why 4 (some .int) zvI 3 57 [(0, .ref (zbase G + l0)), (1, .int l1), (3, .int l3)] [.int s1, .int s0] h (fb_X11_why_57 n k25 l0 l1 l3 s0 s1 h) := by
  unfold fb_X11_why_57
  refine zi_iadd dX11_why_57 ?_
  refine zi_let (sf := fun x1 => .int x1 :: []) (fun x1 => ?_)
  refine zi_istore_n (l' := [(2, .int x1), (0, .ref (zbase G + l0)), (1, .int l1), (3, .int l3)]) dX11_why_58 rfl (by decide) rfl ?_
  refine zi_iinc (j := 3) (v := l3 + 1) (l' := [(3, .int (l3 + 1)), (2, .int x1), (0, .ref (zbase G + l0)), (1, .int l1)]) dX11_why_59 rfl rfl (by decide) rfl ?_
  refine zi_goto (tgt := 25) dX11_why_62 (by decide) ?_
  refine zi_sub [2, 3, 1, 0] rfl ?_
  exact hk25 l0 l1 x1 (l3 + 1) h
set_option maxRecDepth 20000 in
set_option maxHeartbeats 1000000 in
theorem wb_X11_why_25 (G : zG) (n : Nat) (k25 : Nat → Int32 → Int32 → Int32 → zH → Option (Int32 × zH)) (hk25 : ∀ (l0 : Nat) (l1 : Int32) (l2 : Int32) (l3 : Int32) (h : zH), zW G yX11_why cX11_why 4 (some .int) zvI 3 25 [(0, .ref (zbase G + l0)), (1, .int l1), (2, .int l2), (3, .int l3)] [] h (k25 l0 l1 l2 l3 h)) (l0 : Nat) (l1 : Int32) (l2 : Int32) (l3 : Int32) (h : zH) : zW G yX11_why cX11_why 4 (some .int) zvI 3 25 [(0, .ref (zbase G + l0)), (1, .int l1), (2, .int l2), (3, .int l3)] [] h (fb_X11_why_25 n k25 l0 l1 l2 l3 h) := by
  unfold fb_X11_why_25
  refine zi_iload_n dX11_why_25 rfl 3 rfl ?_
  refine zi_iload_n dX11_why_26 rfl 1 rfl ?_
  refine zi_icmp_ge (tgt := 65) dX11_why_27 (by decide) ?_ ?_
  · refine zi_sub [0, 1, 2] rfl ?_
    exact wb_X11_why_65 G n l0 l1 l2 h
  · refine zi_iload_n dX11_why_30 rfl 2 rfl ?_
    refine zi_iconst (v := 4) dX11_why_31 (by decide) ?_
    refine zi_icmp_ge (tgt := 65) dX11_why_32 (by decide) ?_ ?_
    · refine zi_sub [0, 1, 2] rfl ?_
      exact wb_X11_why_65 G n l0 l1 l2 h
    · refine zi_iconst (v := 2) dX11_why_35 (by decide) ?_
      refine zi_iload_n dX11_why_36 rfl 2 rfl ?_
      refine zi_imul dX11_why_37 ?_
      refine zi_aload_n dX11_why_38 rfl 0 rfl ?_
      refine zi_getR dX11_why_39 gf_X11_10 (fun v1 => ?_)
      refine zi_getR dX11_why_42 gf_X11_174 (fun v2 => ?_)
      refine zi_iload_n dX11_why_45 rfl 2 rfl ?_
      refine zi_iald dX11_why_46 (fun v3 => ?_)
      refine zi_iconst (v := 1) dX11_why_47 (by decide) ?_
      refine zi_iand dX11_why_48 ?_
      refine zi_if_eq (tgt := 56) dX11_why_49 (by decide) ?_ ?_
      · refine zi_iconst (v := 1) dX11_why_56 (by decide) ?_
        refine zi_sub [0, 1, 3] rfl ?_
        exact wb_X11_why_57 G n k25 hk25 l0 l1 l3 ((2 : Int32) * l2) 1 h
      · refine zi_iconst (v := 0) dX11_why_52 (by decide) ?_
        refine zi_goto (tgt := 57) dX11_why_53 (by decide) ?_
        refine zi_sub [0, 1, 3] rfl ?_
        exact wb_X11_why_57 G n k25 hk25 l0 l1 l3 ((2 : Int32) * l2) 0 h
theorem wl_X11_why_25 (G : zG) (n : Nat) : ∀ (t : Nat) (l0 : Nat) (l1 : Int32) (l2 : Int32) (l3 : Int32) (h : zH), zW G yX11_why cX11_why 4 (some .int) zvI 3 25 [(0, .ref (zbase G + l0)), (1, .int l1), (2, .int l2), (3, .int l3)] [] h (zlp4 (fb_X11_why_25 n ) t l0 l1 l2 l3 h) := by
  intro t
  induction t with
  | zero => intros; exact zW_none
  | succ t ih => intro l0 l1 l2 l3 h; rw [zlp4_s]; exact wb_X11_why_25 G n  _  ih l0 l1 l2 l3 h
set_option maxRecDepth 20000 in
set_option maxHeartbeats 1000000 in
theorem k_X11_why (G : zG) (n : Nat) (a0 : Nat) (a1 : Int32) (h : zH) : zMet G yX11_why cX11_why 4 (some .int) zvI 3 [.ref (zbase G + a0), .int a1] h (f_X11_why n a0 a1 h) := by
  refine zMet_of (l := [(0, .ref (zbase G + a0)), (1, .int a1)]) (by decide) (Nat.le_of_ble_eq_true rfl) rfl ?_
  unfold f_X11_why
  refine zi_aload_n dX11_why_0 rfl 0 rfl ?_
  refine zi_getR dX11_why_1 gf_X11_10 (fun v1 => ?_)
  refine zi_getZ dX11_why_4 gf_X11_170 (fun v2 => ?_)
  refine zi_if_eq (tgt := 19) dX11_why_7 (by decide) ?_ ?_
  · refine zi_iconst (v := (-1)) dX11_why_19 (by decide) ?_
    exact zi_retI dX11_why_20
  · refine zi_iload_n dX11_why_10 rfl 1 rfl ?_
    refine zi_if_lt (tgt := 19) dX11_why_11 (by decide) ?_ ?_
    · refine zi_iconst (v := (-1)) dX11_why_19 (by decide) ?_
      exact zi_retI dX11_why_20
    · refine zi_iload_n dX11_why_14 rfl 1 rfl ?_
      refine zi_iconst (v := 3) dX11_why_15 (by decide) ?_
      refine zi_icmp_le (tgt := 21) dX11_why_16 (by decide) ?_ ?_
      · refine zi_iconst (v := 1) dX11_why_21 (by decide) ?_
        refine zi_istore_n (l' := [(2, .int 1), (0, .ref (zbase G + a0)), (1, .int a1)]) dX11_why_22 rfl (by decide) rfl ?_
        refine zi_iconst (v := 0) dX11_why_23 (by decide) ?_
        refine zi_istore_n (l' := [(3, .int 0), (2, .int 1), (0, .ref (zbase G + a0)), (1, .int a1)]) dX11_why_24 rfl (by decide) rfl ?_
        refine zi_sub [2, 3, 1, 0] rfl ?_
        exact wl_X11_why_25 G n n a0 a1 1 0 h
      · refine zi_iconst (v := (-1)) dX11_why_19 (by decide) ?_
        exact zi_retI dX11_why_20
set_option maxRecDepth 20000 in
set_option maxHeartbeats 1000000 in
theorem k_X11_least (G : zG) (n : Nat) (a0 : Nat) (h : zH) : zMet G yX11_least cX11_least 3 (some .int) zvI 2 [.ref (zbase G + a0)] h (f_X11_least n a0 h) := by
  refine zMet_of (l := [(0, .ref (zbase G + a0))]) (by decide) (Nat.le_of_ble_eq_true rfl) rfl ?_
  unfold f_X11_least
  refine zi_aload_n dX11_least_0 rfl 0 rfl ?_
  refine zi_getR dX11_least_1 gf_X11_10 (fun v1 => ?_)
  refine zi_getZ dX11_least_4 gf_X11_170 (fun v2 => ?_)
  refine zi_if_ne (tgt := 12) dX11_least_7 (by decide) ?_ ?_
  · refine zi_aload_n dX11_least_12 rfl 0 rfl ?_
    refine zi_getR dX11_least_13 gf_X11_10 (fun v3 => ?_)
    refine zi_callVI (As := []) (rest := []) (ci := 10) dX11_least_16 ml_X11_133 md_X10_unreported mv_X10_unreported rfl (by decide) rfl rfl (Nat.le_of_ble_eq_true rfl) (Nat.le_of_ble_eq_true rfl) (k_X10_unreported G n v3 h) (fun r4 h5 => ?_)
    refine zi_istore_n (l' := [(1, .int r4), (0, .ref (zbase G + a0))]) dX11_least_19 rfl (by decide) rfl ?_
    refine zi_aload_n dX11_least_20 rfl 1 rfl ?_
    refine zi_getR dX11_least_21 gf_X11_10 (fun v6 => ?_)
    refine zi_getI dX11_least_24 gf_X11_116 (fun v7 => ?_)
    refine zi_aload_n dX11_least_27 rfl 1 rfl ?_
    refine zi_getR dX11_least_28 gf_X11_10 (fun v8 => ?_)
    refine zi_getI dX11_least_31 gf_X11_127 (fun v9 => ?_)
    refine zi_iconst (v := (-1)) dX11_least_34 (by decide) ?_
    refine zi_ixor dX11_least_35 ?_
    refine zi_iand dX11_least_36 ?_
    refine zi_iload_n dX11_least_37 rfl 0 rfl ?_
    refine zi_iand dX11_least_38 ?_
    refine zi_let (sf := fun x10 => .int x10 :: []) (fun x10 => ?_)
    refine zi_istore_n (l' := [(2, .int x10), (1, .int r4), (0, .ref (zbase G + a0))]) dX11_least_39 rfl (by decide) rfl ?_
    refine zi_iload_n dX11_least_40 rfl 1 rfl ?_
    refine zi_callSI (As := [.int r4]) (rest := []) dX11_least_41 ml_X11_311 md_J6_bitCount_0f7a4 ms_J6_bitCount_0f7a4 rfl rfl (Nat.le_of_ble_eq_true rfl) (Nat.le_of_ble_eq_true rfl) (k_J6_bitCount_0f7a4 G n r4 h5) (fun r11 h12 => ?_)
    refine zi_aload_n dX11_least_44 rfl 2 rfl ?_
    refine zi_getR dX11_least_45 gf_X11_10 (fun v13 => ?_)
    refine zi_getI dX11_least_48 gf_X11_130 (fun v14 => ?_)
    refine zi_callSI (As := [.int v14]) (rest := [.int r11]) dX11_least_51 ml_X11_311 md_J6_bitCount_0f7a4 ms_J6_bitCount_0f7a4 rfl rfl (Nat.le_of_ble_eq_true rfl) (Nat.le_of_ble_eq_true rfl) (k_J6_bitCount_0f7a4 G n v14 h12) (fun r15 h16 => ?_)
    refine zi_iadd dX11_least_54 ?_
    refine zi_iload_n dX11_least_55 rfl 0 rfl ?_
    refine zi_callSI (As := [.int x10]) (rest := [.int (r11 + r15)]) dX11_least_56 ml_X11_311 md_J6_bitCount_0f7a4 ms_J6_bitCount_0f7a4 rfl rfl (Nat.le_of_ble_eq_true rfl) (Nat.le_of_ble_eq_true rfl) (k_J6_bitCount_0f7a4 G n x10 h16) (fun r17 h18 => ?_)
    refine zi_iadd dX11_least_59 ?_
    exact zi_retI dX11_least_60
  · refine zi_iconst (v := (-1)) dX11_least_10 (by decide) ?_
    exact zi_retI dX11_least_11
set_option maxRecDepth 20000 in
set_option maxHeartbeats 1000000 in
theorem k_X1_note (G : zG) (n : Nat) (a0 : Nat) (a1 : Int32) (a2 : Int32) (h : zH) : zMet G yX1_note cX1_note 3 (some .int) zvI 1 [.ref (zbase G + a0), .int a1, .int a2] h (f_X1_note n a0 a1 a2 h) := by
  refine zMet_of (l := [(0, .ref (zbase G + a0)), (1, .int a1), (2, .int a2)]) (by decide) (Nat.le_of_ble_eq_true rfl) rfl ?_
  unfold f_X1_note
  refine zi_aload_n dX1_note_0 rfl 0 rfl ?_
  refine zi_getI dX1_note_1 gf_X1_18 (fun v1 => ?_)
  refine zi_bipush (v := 6) dX1_note_4 (by decide) ?_
  refine zi_icmp_lt (tgt := 12) dX1_note_6 (by decide) ?_ ?_
  · refine zi_aload_n dX1_note_12 rfl 0 rfl ?_
    refine zi_getR dX1_note_13 gf_X1_9 (fun v2 => ?_)
    refine zi_aload_n dX1_note_16 rfl 0 rfl ?_
    refine zi_getI dX1_note_17 gf_X1_18 (fun v3 => ?_)
    refine zi_iload_n dX1_note_20 rfl 1 rfl ?_
    refine zi_iast dX1_note_21 (fun h4 => ?_)
    refine zi_aload_n dX1_note_22 rfl 0 rfl ?_
    refine zi_getR dX1_note_23 gf_X1_15 (fun v5 => ?_)
    refine zi_aload_n dX1_note_26 rfl 0 rfl ?_
    refine zi_getI dX1_note_27 gf_X1_18 (fun v6 => ?_)
    refine zi_iload_n dX1_note_30 rfl 2 rfl ?_
    refine zi_iast dX1_note_31 (fun h7 => ?_)
    refine zi_aload_n dX1_note_32 rfl 0 rfl ?_
    refine zi_dup dX1_note_33 rfl ?_
    refine zi_getI dX1_note_34 gf_X1_18 (fun v8 => ?_)
    refine zi_iconst (v := 1) dX1_note_37 (by decide) ?_
    refine zi_iadd dX1_note_38 ?_
    refine zi_putI dX1_note_39 gf_X1_18 (fun h9 => ?_)
    refine zi_aload_n dX1_note_42 rfl 0 rfl ?_
    refine zi_getI dX1_note_43 gf_X1_18 (fun v10 => ?_)
    exact zi_retI dX1_note_46
  · refine zi_bipush (v := (-5)) dX1_note_9 (by decide) ?_
    exact zi_retI dX1_note_11
set_option maxRecDepth 20000 in
set_option maxHeartbeats 1000000 in
theorem wb_X11_seen_19 (G : zG) (n : Nat) (l0 : Nat) (h : zH) : zW G yX11_seen cX11_seen 3 (some .int) zvI 3 19 [(0, .ref (zbase G + l0))] [] h (fb_X11_seen_19 n l0 h) := by
  unfold fb_X11_seen_19
  refine zi_aload_n dX11_seen_19 rfl 0 rfl ?_
  refine zi_iconst (v := (-1)) dX11_seen_20 (by decide) ?_
  refine zi_callVI (As := [.int (-1)]) (rest := []) (ci := 11) dX11_seen_21 ml_X11_192 md_X11_told mv_X11_told rfl (by decide) rfl rfl (Nat.le_of_ble_eq_true rfl) (Nat.le_of_ble_eq_true rfl) (k_X11_told G n l0 (-1) h) (fun r1 h2 => ?_)
  exact zi_retI dX11_seen_24
set_option maxRecDepth 20000 in
set_option maxHeartbeats 1000000 in
theorem k_X11_seen (G : zG) (n : Nat) (a0 : Nat) (a1 : Int32) (a2 : Int32) (h : zH) : zMet G yX11_seen cX11_seen 3 (some .int) zvI 3 [.ref (zbase G + a0), .int a1, .int a2] h (f_X11_seen n a0 a1 a2 h) := by
  refine zMet_of (l := [(0, .ref (zbase G + a0)), (1, .int a1), (2, .int a2)]) (by decide) (Nat.le_of_ble_eq_true rfl) rfl ?_
  unfold f_X11_seen
  refine zi_iload_n dX11_seen_0 rfl 1 rfl ?_
  refine zi_if_lt (tgt := 19) dX11_seen_1 (by decide) ?_ ?_
  · refine zi_sub [0] rfl ?_
    exact wb_X11_seen_19 G n a0 h
  · refine zi_iload_n dX11_seen_4 rfl 1 rfl ?_
    refine zi_iconst (v := 3) dX11_seen_5 (by decide) ?_
    refine zi_icmp_ge (tgt := 19) dX11_seen_6 (by decide) ?_ ?_
    · refine zi_sub [0] rfl ?_
      exact wb_X11_seen_19 G n a0 h
    · refine zi_iload_n dX11_seen_9 rfl 2 rfl ?_
      refine zi_if_lt (tgt := 19) dX11_seen_10 (by decide) ?_ ?_
      · refine zi_sub [0] rfl ?_
        exact wb_X11_seen_19 G n a0 h
      · refine zi_iload_n dX11_seen_13 rfl 2 rfl ?_
        refine zi_bipush (v := 100) dX11_seen_14 (by decide) ?_
        refine zi_icmp_le (tgt := 25) dX11_seen_16 (by decide) ?_ ?_
        · refine zi_aload_n dX11_seen_25 rfl 0 rfl ?_
          refine zi_aload_n dX11_seen_26 rfl 0 rfl ?_
          refine zi_getR dX11_seen_27 gf_X11_38 (fun v1 => ?_)
          refine zi_iload_n dX11_seen_30 rfl 1 rfl ?_
          refine zi_iload_n dX11_seen_31 rfl 2 rfl ?_
          refine zi_callVI (As := [.int a1, .int a2]) (rest := [.ref (zbase G + a0)]) (ci := 1) dX11_seen_32 ml_X11_316 md_X1_note mv_X1_note rfl (by decide) rfl rfl (Nat.le_of_ble_eq_true rfl) (Nat.le_of_ble_eq_true rfl) (k_X1_note G n v1 a1 a2 h) (fun r2 h3 => ?_)
          refine zi_callVI (As := [.int r2]) (rest := []) (ci := 11) dX11_seen_35 ml_X11_192 md_X11_told mv_X11_told rfl (by decide) rfl rfl (Nat.le_of_ble_eq_true rfl) (Nat.le_of_ble_eq_true rfl) (k_X11_told G n a0 r2 h3) (fun r4 h5 => ?_)
          exact zi_retI dX11_seen_38
        · refine zi_sub [0] rfl ?_
          exact wb_X11_seen_19 G n a0 h
set_option maxRecDepth 20000 in
set_option maxHeartbeats 1000000 in
theorem k_X11_forget (G : zG) (n : Nat) (a0 : Nat) (h : zH) : zMet G yX11_forget cX11_forget 2 (some .int) zvI 1 [.ref (zbase G + a0)] h (f_X11_forget n a0 h) := by
  refine zMet_of (l := [(0, .ref (zbase G + a0))]) (by decide) (Nat.le_of_ble_eq_true rfl) rfl ?_
  unfold f_X11_forget
  refine zi_aload_n dX11_forget_0 rfl 0 rfl ?_
  refine zi_getR dX11_forget_1 gf_X11_38 (fun v1 => ?_)
  refine zi_getI dX11_forget_4 gf_X11_319 (fun v2 => ?_)
  refine zi_istore_n (l' := [(1, .int v2), (0, .ref (zbase G + a0))]) dX11_forget_7 rfl (by decide) rfl ?_
  refine zi_aload_n dX11_forget_8 rfl 1 rfl ?_
  refine zi_getR dX11_forget_9 gf_X11_38 (fun v3 => ?_)
  refine zi_iconst (v := 0) dX11_forget_12 (by decide) ?_
  refine zi_putI dX11_forget_13 gf_X11_319 (fun h4 => ?_)
  refine zi_iload_n dX11_forget_16 rfl 0 rfl ?_
  exact zi_retI dX11_forget_17
set_option maxRecDepth 20000 in
set_option maxHeartbeats 1000000 in
theorem k_X1_factOf (G : zG) (n : Nat) (a0 : Nat) (a1 : Int32) (a2 : Int32) (h : zH) : zMet G yX1_factOf cX1_factOf 4 (some .int) zvI 3 [.ref (zbase G + a0), .int a1, .int a2] h (f_X1_factOf n a0 a1 a2 h) := by
  refine zMet_of (l := [(0, .ref (zbase G + a0)), (1, .int a1), (2, .int a2)]) (by decide) (Nat.le_of_ble_eq_true rfl) rfl ?_
  unfold f_X1_factOf
  refine zi_iload_n dX1_factOf_0 rfl 2 rfl ?_
  refine zi_if_ne (tgt := 15) dX1_factOf_1 (by decide) ?_ ?_
  · refine zi_iload_n dX1_factOf_15 rfl 2 rfl ?_
    refine zi_iconst (v := 1) dX1_factOf_16 (by decide) ?_
    refine zi_icmp_ne (tgt := 31) dX1_factOf_17 (by decide) ?_ ?_
    · refine zi_aload_n dX1_factOf_31 rfl 0 rfl ?_
      refine zi_iload_n dX1_factOf_32 rfl 1 rfl ?_
      refine zi_callVI (As := [.int a1]) (rest := []) (ci := 10) dX1_factOf_33 ml_X1_49 md_X10_cellOf mv_X10_cellOf rfl (by decide) rfl rfl (Nat.le_of_ble_eq_true rfl) (Nat.le_of_ble_eq_true rfl) (k_X10_cellOf G n a0 a1 h) (fun r1 h2 => ?_)
      refine zi_istore_n (l' := [(3, .int r1), (0, .ref (zbase G + a0)), (1, .int a1), (2, .int a2)]) dX1_factOf_36 rfl (by decide) rfl ?_
      refine zi_iload_n dX1_factOf_37 rfl 0 rfl ?_
      refine zi_callNI (As := [.int r1]) (rest := []) (host := "GraceTree") dX1_factOf_38 mn_X1_53 md_X11_isCell ms_X11_isCell rfl rfl (Nat.le_of_ble_eq_true rfl) (Nat.le_of_ble_eq_true rfl) (k_X11_isCell G n r1 h2) (fun r3 h4 => ?_)
      refine zi_if_eq (tgt := 56) dX1_factOf_41 (by decide) ?_ ?_
      · refine zi_bipush (v := 100) dX1_factOf_56 (by decide) ?_
        exact zi_retI dX1_factOf_58
      · refine zi_aload_n dX1_factOf_44 rfl 1 rfl ?_
        refine zi_getR dX1_factOf_45 gf_X1_57 (fun v5 => ?_)
        refine zi_getR dX1_factOf_48 gf_X1_61 (fun v6 => ?_)
        refine zi_iload_n dX1_factOf_51 rfl 0 rfl ?_
        refine zi_iald dX1_factOf_52 (fun v7 => ?_)
        refine zi_goto (tgt := 58) dX1_factOf_53 (by decide) ?_
        exact zi_retI dX1_factOf_58
    · refine zi_aload_n dX1_factOf_20 rfl 0 rfl ?_
      refine zi_getI dX1_factOf_21 gf_X1_46 (fun v8 => ?_)
      refine zi_iconst (v := 1) dX1_factOf_24 (by decide) ?_
      refine zi_iload_n dX1_factOf_25 rfl 1 rfl ?_
      refine zi_ishl dX1_factOf_26 ?_
      refine zi_callNI (As := [.int v8, .int ((1 : Int32) <<< (a1 &&& 31))]) (rest := []) (host := "GraceTree") dX1_factOf_27 mn_X1_43 md_X11_bitOf ms_X11_bitOf rfl rfl (Nat.le_of_ble_eq_true rfl) (Nat.le_of_ble_eq_true rfl) (k_X11_bitOf G n v8 ((1 : Int32) <<< (a1 &&& 31)) h) (fun r9 h10 => ?_)
      exact zi_retI dX1_factOf_30
  · refine zi_aload_n dX1_factOf_4 rfl 0 rfl ?_
    refine zi_getI dX1_factOf_5 gf_X1_38 (fun v11 => ?_)
    refine zi_iconst (v := 1) dX1_factOf_8 (by decide) ?_
    refine zi_iload_n dX1_factOf_9 rfl 1 rfl ?_
    refine zi_ishl dX1_factOf_10 ?_
    refine zi_callNI (As := [.int v11, .int ((1 : Int32) <<< (a1 &&& 31))]) (rest := []) (host := "GraceTree") dX1_factOf_11 mn_X1_43 md_X11_bitOf ms_X11_bitOf rfl rfl (Nat.le_of_ble_eq_true rfl) (Nat.le_of_ble_eq_true rfl) (k_X11_bitOf G n v11 ((1 : Int32) <<< (a1 &&& 31)) h) (fun r12 h13 => ?_)
    exact zi_retI dX1_factOf_14
set_option maxRecDepth 20000 in
set_option maxHeartbeats 1000000 in
theorem wb_X1_fitting_85 (G : zG) (n : Nat) (k4 : Nat → Nat → Int32 → Int32 → zH → Option (Int32 × zH)) (hk4 : ∀ (l0 : Nat) (l1 : Nat) (l2 : Int32) (l3 : Int32) (h : zH), zW G yX1_fitting cX1_fitting 6 (some .int) zvI 4 4 [(0, .ref (zbase G + l0)), (1, .ref (zbase G + l1)), (2, .int l2), (3, .int l3)] [] h (k4 l0 l1 l2 l3 h)) (l0 : Nat) (l1 : Nat) (l3 : Int32) (s0 : Int32) (s1 : Int32) (h : zH) : zW G yX1_fitting cX1_fitting 6 (some .int) zvI 4 85 [(0, .ref (zbase G + l0)), (1, .ref (zbase G + l1)), (3, .int l3)] [.int s1, .int s0] h (fb_X1_fitting_85 n k4 l0 l1 l3 s0 s1 h) := by
  unfold fb_X1_fitting_85
  refine zi_ior dX1_fitting_85 ?_
  refine zi_let (sf := fun x1 => .int x1 :: []) (fun x1 => ?_)
  refine zi_istore_n (l' := [(2, .int x1), (0, .ref (zbase G + l0)), (1, .ref (zbase G + l1)), (3, .int l3)]) dX1_fitting_86 rfl (by decide) rfl ?_
  refine zi_iinc (j := 3) (v := l3 + 1) (l' := [(3, .int (l3 + 1)), (2, .int x1), (0, .ref (zbase G + l0)), (1, .ref (zbase G + l1))]) dX1_fitting_87 rfl rfl (by decide) rfl ?_
  refine zi_goto (tgt := 4) dX1_fitting_90 (by decide) ?_
  refine zi_sub [2, 3, 1, 0] rfl ?_
  exact hk4 l0 l1 x1 (l3 + 1) h
set_option maxRecDepth 20000 in
set_option maxHeartbeats 1000000 in
theorem wb_X1_fitting_72 (G : zG) (n : Nat) (k4 : Nat → Nat → Int32 → Int32 → zH → Option (Int32 × zH)) (hk4 : ∀ (l0 : Nat) (l1 : Nat) (l2 : Int32) (l3 : Int32) (h : zH), zW G yX1_fitting cX1_fitting 6 (some .int) zvI 4 4 [(0, .ref (zbase G + l0)), (1, .ref (zbase G + l1)), (2, .int l2), (3, .int l3)] [] h (k4 l0 l1 l2 l3 h)) (l0 : Nat) (l1 : Nat) (l2 : Int32) (l3 : Int32) (l4 : Int32) (h : zH) : zW G yX1_fitting cX1_fitting 6 (some .int) zvI 4 72 [(0, .ref (zbase G + l0)), (1, .ref (zbase G + l1)), (2, .int l2), (3, .int l3), (4, .int l4)] [] h (fb_X1_fitting_72 n k4 l0 l1 l2 l3 l4 h) := by
  unfold fb_X1_fitting_72
  refine zi_iload_n dX1_fitting_72 rfl 2 rfl ?_
  refine zi_iload dX1_fitting_73 4 rfl ?_
  refine zi_if_eq (tgt := 84) dX1_fitting_75 (by decide) ?_ ?_
  · refine zi_iconst (v := 0) dX1_fitting_84 (by decide) ?_
    refine zi_sub [0, 1, 3] rfl ?_
    exact wb_X1_fitting_85 G n k4 hk4 l0 l1 l3 l2 0 h
  · refine zi_iconst (v := 1) dX1_fitting_78 (by decide) ?_
    refine zi_iload_n dX1_fitting_79 rfl 3 rfl ?_
    refine zi_ishl dX1_fitting_80 ?_
    refine zi_goto (tgt := 85) dX1_fitting_81 (by decide) ?_
    refine zi_sub [0, 1, 3] rfl ?_
    exact wb_X1_fitting_85 G n k4 hk4 l0 l1 l3 l2 ((1 : Int32) <<< (l3 &&& 31)) h
set_option maxRecDepth 20000 in
set_option maxHeartbeats 1000000 in
theorem wb_X1_fitting_64 (G : zG) (n : Nat) (k4 : Nat → Nat → Int32 → Int32 → zH → Option (Int32 × zH)) (k16 : Nat → Nat → Int32 → Int32 → Int32 → Int32 → zH → Option (Int32 × zH)) (hk4 : ∀ (l0 : Nat) (l1 : Nat) (l2 : Int32) (l3 : Int32) (h : zH), zW G yX1_fitting cX1_fitting 6 (some .int) zvI 4 4 [(0, .ref (zbase G + l0)), (1, .ref (zbase G + l1)), (2, .int l2), (3, .int l3)] [] h (k4 l0 l1 l2 l3 h)) (hk16 : ∀ (l0 : Nat) (l1 : Nat) (l2 : Int32) (l3 : Int32) (l4 : Int32) (l5 : Int32) (h : zH), zW G yX1_fitting cX1_fitting 6 (some .int) zvI 4 16 [(0, .ref (zbase G + l0)), (1, .ref (zbase G + l1)), (2, .int l2), (3, .int l3), (4, .int l4), (5, .int l5)] [] h (k16 l0 l1 l2 l3 l4 l5 h)) (l0 : Nat) (l1 : Nat) (l2 : Int32) (l3 : Int32) (l5 : Int32) (s0 : Int32) (h : zH) : zW G yX1_fitting cX1_fitting 6 (some .int) zvI 4 64 [(0, .ref (zbase G + l0)), (1, .ref (zbase G + l1)), (2, .int l2), (3, .int l3), (5, .int l5)] [.int s0] h (fb_X1_fitting_64 n k4 k16 l0 l1 l2 l3 l5 s0 h) := by
  unfold fb_X1_fitting_64
  refine zi_istore (l' := [(4, .int s0), (0, .ref (zbase G + l0)), (1, .ref (zbase G + l1)), (2, .int l2), (3, .int l3), (5, .int l5)]) dX1_fitting_64 (by decide) rfl ?_
  refine zi_iinc (j := 5) (v := l5 + 1) (l' := [(5, .int (l5 + 1)), (4, .int s0), (0, .ref (zbase G + l0)), (1, .ref (zbase G + l1)), (2, .int l2), (3, .int l3)]) dX1_fitting_66 rfl rfl (by decide) rfl ?_
  refine zi_goto (tgt := 16) dX1_fitting_69 (by decide) ?_
  refine zi_sub [2, 3, 4, 5, 1, 0] rfl ?_
  exact hk16 l0 l1 l2 l3 s0 (l5 + 1) h
set_option maxRecDepth 20000 in
set_option maxHeartbeats 1000000 in
theorem wb_X1_fitting_63 (G : zG) (n : Nat) (k4 : Nat → Nat → Int32 → Int32 → zH → Option (Int32 × zH)) (k16 : Nat → Nat → Int32 → Int32 → Int32 → Int32 → zH → Option (Int32 × zH)) (hk4 : ∀ (l0 : Nat) (l1 : Nat) (l2 : Int32) (l3 : Int32) (h : zH), zW G yX1_fitting cX1_fitting 6 (some .int) zvI 4 4 [(0, .ref (zbase G + l0)), (1, .ref (zbase G + l1)), (2, .int l2), (3, .int l3)] [] h (k4 l0 l1 l2 l3 h)) (hk16 : ∀ (l0 : Nat) (l1 : Nat) (l2 : Int32) (l3 : Int32) (l4 : Int32) (l5 : Int32) (h : zH), zW G yX1_fitting cX1_fitting 6 (some .int) zvI 4 16 [(0, .ref (zbase G + l0)), (1, .ref (zbase G + l1)), (2, .int l2), (3, .int l3), (4, .int l4), (5, .int l5)] [] h (k16 l0 l1 l2 l3 l4 l5 h)) (l0 : Nat) (l1 : Nat) (l2 : Int32) (l3 : Int32) (l5 : Int32) (h : zH) : zW G yX1_fitting cX1_fitting 6 (some .int) zvI 4 63 [(0, .ref (zbase G + l0)), (1, .ref (zbase G + l1)), (2, .int l2), (3, .int l3), (5, .int l5)] [] h (fb_X1_fitting_63 n k4 k16 l0 l1 l2 l3 l5 h) := by
  unfold fb_X1_fitting_63
  refine zi_iconst (v := 0) dX1_fitting_63 (by decide) ?_
  refine zi_sub [0, 1, 2, 3, 4] rfl ?_
  exact wb_X1_fitting_64 G n k4 k16 hk4 hk16 l0 l1 l2 l3 l5 0 h
set_option maxRecDepth 20000 in
set_option maxHeartbeats 1000000 in
theorem wb_X1_fitting_16 (G : zG) (n : Nat) (k4 : Nat → Nat → Int32 → Int32 → zH → Option (Int32 × zH)) (k16 : Nat → Nat → Int32 → Int32 → Int32 → Int32 → zH → Option (Int32 × zH)) (hk4 : ∀ (l0 : Nat) (l1 : Nat) (l2 : Int32) (l3 : Int32) (h : zH), zW G yX1_fitting cX1_fitting 6 (some .int) zvI 4 4 [(0, .ref (zbase G + l0)), (1, .ref (zbase G + l1)), (2, .int l2), (3, .int l3)] [] h (k4 l0 l1 l2 l3 h)) (hk16 : ∀ (l0 : Nat) (l1 : Nat) (l2 : Int32) (l3 : Int32) (l4 : Int32) (l5 : Int32) (h : zH), zW G yX1_fitting cX1_fitting 6 (some .int) zvI 4 16 [(0, .ref (zbase G + l0)), (1, .ref (zbase G + l1)), (2, .int l2), (3, .int l3), (4, .int l4), (5, .int l5)] [] h (k16 l0 l1 l2 l3 l4 l5 h)) (l0 : Nat) (l1 : Nat) (l2 : Int32) (l3 : Int32) (l4 : Int32) (l5 : Int32) (h : zH) : zW G yX1_fitting cX1_fitting 6 (some .int) zvI 4 16 [(0, .ref (zbase G + l0)), (1, .ref (zbase G + l1)), (2, .int l2), (3, .int l3), (4, .int l4), (5, .int l5)] [] h (fb_X1_fitting_16 n k4 k16 l0 l1 l2 l3 l4 l5 h) := by
  unfold fb_X1_fitting_16
  refine zi_iload dX1_fitting_16 5 rfl ?_
  refine zi_aload_n dX1_fitting_18 rfl 0 rfl ?_
  refine zi_getI dX1_fitting_19 gf_X1_18 (fun v1 => ?_)
  refine zi_icmp_ge (tgt := 72) dX1_fitting_22 (by decide) ?_ ?_
  · refine zi_sub [0, 1, 2, 3, 4] rfl ?_
    exact wb_X1_fitting_72 G n k4 hk4 l0 l1 l2 l3 l4 h
  · refine zi_iload dX1_fitting_25 5 rfl ?_
    refine zi_bipush (v := 6) dX1_fitting_27 (by decide) ?_
    refine zi_icmp_ge (tgt := 72) dX1_fitting_29 (by decide) ?_ ?_
    · refine zi_sub [0, 1, 2, 3, 4] rfl ?_
      exact wb_X1_fitting_72 G n k4 hk4 l0 l1 l2 l3 l4 h
    · refine zi_iload dX1_fitting_32 4 rfl ?_
      refine zi_if_eq (tgt := 63) dX1_fitting_34 (by decide) ?_ ?_
      · refine zi_sub [0, 1, 2, 3, 5] rfl ?_
        exact wb_X1_fitting_63 G n k4 k16 hk4 hk16 l0 l1 l2 l3 l5 h
      · refine zi_aload_n dX1_fitting_37 rfl 1 rfl ?_
        refine zi_iload_n dX1_fitting_38 rfl 3 rfl ?_
        refine zi_aload_n dX1_fitting_39 rfl 0 rfl ?_
        refine zi_getR dX1_fitting_40 gf_X1_9 (fun v2 => ?_)
        refine zi_iload dX1_fitting_43 5 rfl ?_
        refine zi_iald dX1_fitting_45 (fun v3 => ?_)
        refine zi_callSI (As := [.ref (zbase G + l1), .int l3, .int v3]) (rest := []) dX1_fitting_46 ml_X1_28 md_X1_factOf ms_X1_factOf rfl rfl (Nat.le_of_ble_eq_true rfl) (Nat.le_of_ble_eq_true rfl) (k_X1_factOf G n l1 l3 v3 h) (fun r4 h5 => ?_)
        refine zi_aload_n dX1_fitting_49 rfl 0 rfl ?_
        refine zi_getR dX1_fitting_50 gf_X1_15 (fun v6 => ?_)
        refine zi_iload dX1_fitting_53 5 rfl ?_
        refine zi_iald dX1_fitting_55 (fun v7 => ?_)
        refine zi_icmp_ne (tgt := 63) dX1_fitting_56 (by decide) ?_ ?_
        · refine zi_sub [0, 1, 2, 3, 5] rfl ?_
          exact wb_X1_fitting_63 G n k4 k16 hk4 hk16 l0 l1 l2 l3 l5 h5
        · refine zi_iconst (v := 1) dX1_fitting_59 (by decide) ?_
          refine zi_goto (tgt := 64) dX1_fitting_60 (by decide) ?_
          refine zi_sub [0, 1, 2, 3, 5] rfl ?_
          exact wb_X1_fitting_64 G n k4 k16 hk4 hk16 l0 l1 l2 l3 l5 1 h5
theorem wl_X1_fitting_16 (G : zG) (n : Nat) (k4 : Nat → Nat → Int32 → Int32 → zH → Option (Int32 × zH)) (hk4 : ∀ (l0 : Nat) (l1 : Nat) (l2 : Int32) (l3 : Int32) (h : zH), zW G yX1_fitting cX1_fitting 6 (some .int) zvI 4 4 [(0, .ref (zbase G + l0)), (1, .ref (zbase G + l1)), (2, .int l2), (3, .int l3)] [] h (k4 l0 l1 l2 l3 h)) : ∀ (t : Nat) (l0 : Nat) (l1 : Nat) (l2 : Int32) (l3 : Int32) (l4 : Int32) (l5 : Int32) (h : zH), zW G yX1_fitting cX1_fitting 6 (some .int) zvI 4 16 [(0, .ref (zbase G + l0)), (1, .ref (zbase G + l1)), (2, .int l2), (3, .int l3), (4, .int l4), (5, .int l5)] [] h (zlp6 (fb_X1_fitting_16 n k4 ) t l0 l1 l2 l3 l4 l5 h) := by
  intro t
  induction t with
  | zero => intros; exact zW_none
  | succ t ih => intro l0 l1 l2 l3 l4 l5 h; rw [zlp6_s]; exact wb_X1_fitting_16 G n k4  _ hk4  ih l0 l1 l2 l3 l4 l5 h
set_option maxRecDepth 20000 in
set_option maxHeartbeats 1000000 in
theorem wb_X1_fitting_4 (G : zG) (n : Nat) (k4 : Nat → Nat → Int32 → Int32 → zH → Option (Int32 × zH)) (hk4 : ∀ (l0 : Nat) (l1 : Nat) (l2 : Int32) (l3 : Int32) (h : zH), zW G yX1_fitting cX1_fitting 6 (some .int) zvI 4 4 [(0, .ref (zbase G + l0)), (1, .ref (zbase G + l1)), (2, .int l2), (3, .int l3)] [] h (k4 l0 l1 l2 l3 h)) (l0 : Nat) (l1 : Nat) (l2 : Int32) (l3 : Int32) (h : zH) : zW G yX1_fitting cX1_fitting 6 (some .int) zvI 4 4 [(0, .ref (zbase G + l0)), (1, .ref (zbase G + l1)), (2, .int l2), (3, .int l3)] [] h (fb_X1_fitting_4 n k4 l0 l1 l2 l3 h) := by
  unfold fb_X1_fitting_4
  refine zi_iload_n dX1_fitting_4 rfl 3 rfl ?_
  refine zi_bipush (v := 8) dX1_fitting_5 (by decide) ?_
  refine zi_icmp_ge (tgt := 93) dX1_fitting_7 (by decide) ?_ ?_
  · refine zi_iload_n dX1_fitting_93 rfl 2 rfl ?_
    exact zi_retI dX1_fitting_94
  · refine zi_iconst (v := 1) dX1_fitting_10 (by decide) ?_
    refine zi_istore (l' := [(4, .int 1), (0, .ref (zbase G + l0)), (1, .ref (zbase G + l1)), (2, .int l2), (3, .int l3)]) dX1_fitting_11 (by decide) rfl ?_
    refine zi_iconst (v := 0) dX1_fitting_13 (by decide) ?_
    refine zi_istore (l' := [(5, .int 0), (4, .int 1), (0, .ref (zbase G + l0)), (1, .ref (zbase G + l1)), (2, .int l2), (3, .int l3)]) dX1_fitting_14 (by decide) rfl ?_
    refine zi_sub [2, 3, 4, 5, 1, 0] rfl ?_
    exact wl_X1_fitting_16 G n k4 hk4 n l0 l1 l2 l3 1 0 h
theorem wl_X1_fitting_4 (G : zG) (n : Nat) : ∀ (t : Nat) (l0 : Nat) (l1 : Nat) (l2 : Int32) (l3 : Int32) (h : zH), zW G yX1_fitting cX1_fitting 6 (some .int) zvI 4 4 [(0, .ref (zbase G + l0)), (1, .ref (zbase G + l1)), (2, .int l2), (3, .int l3)] [] h (zlp4 (fb_X1_fitting_4 n ) t l0 l1 l2 l3 h) := by
  intro t
  induction t with
  | zero => intros; exact zW_none
  | succ t ih => intro l0 l1 l2 l3 h; rw [zlp4_s]; exact wb_X1_fitting_4 G n  _  ih l0 l1 l2 l3 h
set_option maxRecDepth 20000 in
set_option maxHeartbeats 1000000 in
theorem k_X1_fitting (G : zG) (n : Nat) (a0 : Nat) (a1 : Nat) (h : zH) : zMet G yX1_fitting cX1_fitting 6 (some .int) zvI 4 [.ref (zbase G + a0), .ref (zbase G + a1)] h (f_X1_fitting n a0 a1 h) := by
  refine zMet_of (l := [(0, .ref (zbase G + a0)), (1, .ref (zbase G + a1))]) (by decide) (Nat.le_of_ble_eq_true rfl) rfl ?_
  unfold f_X1_fitting
  refine zi_iconst (v := 0) dX1_fitting_0 (by decide) ?_
  refine zi_istore_n (l' := [(2, .int 0), (0, .ref (zbase G + a0)), (1, .ref (zbase G + a1))]) dX1_fitting_1 rfl (by decide) rfl ?_
  refine zi_iconst (v := 0) dX1_fitting_2 (by decide) ?_
  refine zi_istore_n (l' := [(3, .int 0), (2, .int 0), (0, .ref (zbase G + a0)), (1, .ref (zbase G + a1))]) dX1_fitting_3 rfl (by decide) rfl ?_
  refine zi_sub [2, 3, 1, 0] rfl ?_
  exact wl_X1_fitting_4 G n n a0 a1 0 0 h
set_option maxRecDepth 20000 in
set_option maxHeartbeats 1000000 in
theorem k_X11_canBe (G : zG) (n : Nat) (a0 : Nat) (h : zH) : zMet G yX11_canBe cX11_canBe 1 (some .int) zvI 5 [.ref (zbase G + a0)] h (f_X11_canBe n a0 h) := by
  refine zMet_of (l := [(0, .ref (zbase G + a0))]) (by decide) (Nat.le_of_ble_eq_true rfl) rfl ?_
  unfold f_X11_canBe
  refine zi_aload_n dX11_canBe_0 rfl 0 rfl ?_
  refine zi_getR dX11_canBe_1 gf_X11_38 (fun v1 => ?_)
  refine zi_aload_n dX11_canBe_4 rfl 0 rfl ?_
  refine zi_getR dX11_canBe_5 gf_X11_10 (fun v2 => ?_)
  refine zi_callVI (As := [.ref (zbase G + v2)]) (rest := []) (ci := 1) dX11_canBe_8 ml_X11_322 md_X1_fitting mv_X1_fitting rfl (by decide) rfl rfl (Nat.le_of_ble_eq_true rfl) (Nat.le_of_ble_eq_true rfl) (k_X1_fitting G n v1 v2 h) (fun r3 h4 => ?_)
  exact zi_retI dX11_canBe_11
set_option maxRecDepth 20000 in
set_option maxHeartbeats 1000000 in
theorem wb_X1_mostAlike_89 (G : zG) (n : Nat) (k6 : Nat → Int32 → Int32 → Int32 → Int32 → zH → Option (Int32 × zH)) (hk6 : ∀ (l1 : Nat) (l2 : Int32) (l3 : Int32) (l4 : Int32) (l5 : Int32) (h : zH), zW G yX1_mostAlike cX1_mostAlike 9 (some .int) zvI 4 6 [(1, .ref (zbase G + l1)), (2, .int l2), (3, .int l3), (4, .int l4), (5, .int l5)] [] h (k6 l1 l2 l3 l4 l5 h)) (l1 : Nat) (l2 : Int32) (l3 : Int32) (l4 : Int32) (l5 : Int32) (l6 : Int32) (h : zH) : zW G yX1_mostAlike cX1_mostAlike 9 (some .int) zvI 4 89 [(1, .ref (zbase G + l1)), (2, .int l2), (3, .int l3), (4, .int l4), (5, .int l5), (6, .int l6)] [] h (fb_X1_mostAlike_89 n k6 l1 l2 l3 l4 l5 l6 h) := by
  unfold fb_X1_mostAlike_89
  refine zi_iload dX1_mostAlike_89 3 rfl ?_
  refine zi_iload dX1_mostAlike_91 5 rfl ?_
  refine zi_callSI (As := [.int l4, .int l6]) (rest := []) dX1_mostAlike_93 ml_X1_32 md_J9_max_7cf53 ms_J9_max_7cf53 rfl rfl (Nat.le_of_ble_eq_true rfl) (Nat.le_of_ble_eq_true rfl) (k_J9_max_7cf53 G n l4 l6 h) (fun r1 h2 => ?_)
  refine zi_istore (l' := [(4, .int r1), (1, .ref (zbase G + l1)), (2, .int l2), (3, .int l3), (5, .int l5), (6, .int l6)]) dX1_mostAlike_96 (by decide) rfl ?_
  refine zi_iinc (j := 4) (v := l5 + 1) (l' := [(5, .int (l5 + 1)), (4, .int r1), (1, .ref (zbase G + l1)), (2, .int l2), (3, .int l3), (6, .int l6)]) dX1_mostAlike_98 rfl rfl (by decide) rfl ?_
  refine zi_goto (tgt := 6) dX1_mostAlike_101 (by decide) ?_
  refine zi_sub [2, 3, 4, 1, 0] rfl ?_
  exact hk6 l1 l2 l3 r1 (l5 + 1) h2
set_option maxRecDepth 20000 in
set_option maxHeartbeats 1000000 in
theorem wb_X1_mostAlike_80 (G : zG) (n : Nat) (k6 : Nat → Int32 → Int32 → Int32 → Int32 → zH → Option (Int32 × zH)) (k19 : Nat → Int32 → Int32 → Int32 → Int32 → Int32 → Int32 → zH → Option (Int32 × zH)) (hk6 : ∀ (l1 : Nat) (l2 : Int32) (l3 : Int32) (l4 : Int32) (l5 : Int32) (h : zH), zW G yX1_mostAlike cX1_mostAlike 9 (some .int) zvI 4 6 [(1, .ref (zbase G + l1)), (2, .int l2), (3, .int l3), (4, .int l4), (5, .int l5)] [] h (k6 l1 l2 l3 l4 l5 h)) (hk19 : ∀ (l1 : Nat) (l2 : Int32) (l3 : Int32) (l4 : Int32) (l5 : Int32) (l6 : Int32) (l7 : Int32) (h : zH), zW G yX1_mostAlike cX1_mostAlike 9 (some .int) zvI 4 19 [(1, .ref (zbase G + l1)), (2, .int l2), (3, .int l3), (4, .int l4), (5, .int l5), (6, .int l6), (7, .int l7)] [] h (k19 l1 l2 l3 l4 l5 l6 l7 h)) (l1 : Nat) (l2 : Int32) (l3 : Int32) (l4 : Int32) (l5 : Int32) (l7 : Int32) (s0 : Int32) (s1 : Int32) (h : zH) : zW G yX1_mostAlike cX1_mostAlike 9 (some .int) zvI 4 80 [(1, .ref (zbase G + l1)), (2, .int l2), (3, .int l3), (4, .int l4), (5, .int l5), (7, .int l7)] [.int s1, .int s0] h (fb_X1_mostAlike_80 n k6 k19 l1 l2 l3 l4 l5 l7 s0 s1 h) := by
  unfold fb_X1_mostAlike_80
  refine zi_iadd dX1_mostAlike_80 ?_
  refine zi_let (sf := fun x1 => .int x1 :: []) (fun x1 => ?_)
  refine zi_istore (l' := [(6, .int x1), (1, .ref (zbase G + l1)), (2, .int l2), (3, .int l3), (4, .int l4), (5, .int l5), (7, .int l7)]) dX1_mostAlike_81 (by decide) rfl ?_
  refine zi_iinc (j := 6) (v := l7 + 1) (l' := [(7, .int (l7 + 1)), (6, .int x1), (1, .ref (zbase G + l1)), (2, .int l2), (3, .int l3), (4, .int l4), (5, .int l5)]) dX1_mostAlike_83 rfl rfl (by decide) rfl ?_
  refine zi_goto (tgt := 19) dX1_mostAlike_86 (by decide) ?_
  refine zi_sub [2, 3, 4, 5, 6, 1, 0] rfl ?_
  exact hk19 l1 l2 l3 l4 l5 x1 (l7 + 1) h
set_option maxRecDepth 20000 in
set_option maxHeartbeats 1000000 in
theorem wb_X1_mostAlike_79 (G : zG) (n : Nat) (k6 : Nat → Int32 → Int32 → Int32 → Int32 → zH → Option (Int32 × zH)) (k19 : Nat → Int32 → Int32 → Int32 → Int32 → Int32 → Int32 → zH → Option (Int32 × zH)) (hk6 : ∀ (l1 : Nat) (l2 : Int32) (l3 : Int32) (l4 : Int32) (l5 : Int32) (h : zH), zW G yX1_mostAlike cX1_mostAlike 9 (some .int) zvI 4 6 [(1, .ref (zbase G + l1)), (2, .int l2), (3, .int l3), (4, .int l4), (5, .int l5)] [] h (k6 l1 l2 l3 l4 l5 h)) (hk19 : ∀ (l1 : Nat) (l2 : Int32) (l3 : Int32) (l4 : Int32) (l5 : Int32) (l6 : Int32) (l7 : Int32) (h : zH), zW G yX1_mostAlike cX1_mostAlike 9 (some .int) zvI 4 19 [(1, .ref (zbase G + l1)), (2, .int l2), (3, .int l3), (4, .int l4), (5, .int l5), (6, .int l6), (7, .int l7)] [] h (k19 l1 l2 l3 l4 l5 l6 l7 h)) (l1 : Nat) (l2 : Int32) (l3 : Int32) (l4 : Int32) (l5 : Int32) (l7 : Int32) (s0 : Int32) (h : zH) : zW G yX1_mostAlike cX1_mostAlike 9 (some .int) zvI 4 79 [(1, .ref (zbase G + l1)), (2, .int l2), (3, .int l3), (4, .int l4), (5, .int l5), (7, .int l7)] [.int s0] h (fb_X1_mostAlike_79 n k6 k19 l1 l2 l3 l4 l5 l7 s0 h) := by
  unfold fb_X1_mostAlike_79
  refine zi_iconst (v := 0) dX1_mostAlike_79 (by decide) ?_
  refine zi_sub [0, 1, 2, 3, 4, 5] rfl ?_
  exact wb_X1_mostAlike_80 G n k6 k19 hk6 hk19 l1 l2 l3 l4 l5 l7 s0 0 h
set_option maxRecDepth 20000 in
set_option maxHeartbeats 1000000 in
theorem wb_X1_mostAlike_57 (G : zG) (n : Nat) (k6 : Nat → Int32 → Int32 → Int32 → Int32 → zH → Option (Int32 × zH)) (k19 : Nat → Int32 → Int32 → Int32 → Int32 → Int32 → Int32 → zH → Option (Int32 × zH)) (hk6 : ∀ (l1 : Nat) (l2 : Int32) (l3 : Int32) (l4 : Int32) (l5 : Int32) (h : zH), zW G yX1_mostAlike cX1_mostAlike 9 (some .int) zvI 4 6 [(1, .ref (zbase G + l1)), (2, .int l2), (3, .int l3), (4, .int l4), (5, .int l5)] [] h (k6 l1 l2 l3 l4 l5 h)) (hk19 : ∀ (l1 : Nat) (l2 : Int32) (l3 : Int32) (l4 : Int32) (l5 : Int32) (l6 : Int32) (l7 : Int32) (h : zH), zW G yX1_mostAlike cX1_mostAlike 9 (some .int) zvI 4 19 [(1, .ref (zbase G + l1)), (2, .int l2), (3, .int l3), (4, .int l4), (5, .int l5), (6, .int l6), (7, .int l7)] [] h (k19 l1 l2 l3 l4 l5 l6 l7 h)) (l1 : Nat) (l2 : Int32) (l3 : Int32) (l4 : Int32) (l5 : Int32) (l6 : Int32) (l7 : Int32) (s0 : Int32) (h : zH) : zW G yX1_mostAlike cX1_mostAlike 9 (some .int) zvI 4 57 [(1, .ref (zbase G + l1)), (2, .int l2), (3, .int l3), (4, .int l4), (5, .int l5), (6, .int l6), (7, .int l7)] [.int s0] h (fb_X1_mostAlike_57 n k6 k19 l1 l2 l3 l4 l5 l6 l7 s0 h) := by
  unfold fb_X1_mostAlike_57
  refine zi_istore (l' := [(8, .int s0), (1, .ref (zbase G + l1)), (2, .int l2), (3, .int l3), (4, .int l4), (5, .int l5), (6, .int l6), (7, .int l7)]) dX1_mostAlike_57 (by decide) rfl ?_
  refine zi_iload dX1_mostAlike_59 6 rfl ?_
  refine zi_iload dX1_mostAlike_61 0 rfl ?_
  refine zi_if_eq (tgt := 79) dX1_mostAlike_63 (by decide) ?_ ?_
  · refine zi_sub [1, 2, 3, 4, 5, 7] rfl ?_
    exact wb_X1_mostAlike_79 G n k6 k19 hk6 hk19 l1 l2 l3 l4 l5 l7 l6 h
  · refine zi_iload_n dX1_mostAlike_66 rfl 3 rfl ?_
    refine zi_iconst (v := 1) dX1_mostAlike_67 (by decide) ?_
    refine zi_iload dX1_mostAlike_68 7 rfl ?_
    refine zi_ishl dX1_mostAlike_70 ?_
    refine zi_iand dX1_mostAlike_71 ?_
    refine zi_if_eq (tgt := 79) dX1_mostAlike_72 (by decide) ?_ ?_
    · refine zi_sub [1, 2, 3, 4, 5, 7] rfl ?_
      exact wb_X1_mostAlike_79 G n k6 k19 hk6 hk19 l1 l2 l3 l4 l5 l7 l6 h
    · refine zi_iconst (v := 1) dX1_mostAlike_75 (by decide) ?_
      refine zi_goto (tgt := 80) dX1_mostAlike_76 (by decide) ?_
      refine zi_sub [1, 2, 3, 4, 5, 7] rfl ?_
      exact wb_X1_mostAlike_80 G n k6 k19 hk6 hk19 l1 l2 l3 l4 l5 l7 l6 1 h
set_option maxRecDepth 20000 in
set_option maxHeartbeats 1000000 in
theorem wb_X1_mostAlike_19 (G : zG) (n : Nat) (k6 : Nat → Int32 → Int32 → Int32 → Int32 → zH → Option (Int32 × zH)) (k19 : Nat → Int32 → Int32 → Int32 → Int32 → Int32 → Int32 → zH → Option (Int32 × zH)) (hk6 : ∀ (l1 : Nat) (l2 : Int32) (l3 : Int32) (l4 : Int32) (l5 : Int32) (h : zH), zW G yX1_mostAlike cX1_mostAlike 9 (some .int) zvI 4 6 [(1, .ref (zbase G + l1)), (2, .int l2), (3, .int l3), (4, .int l4), (5, .int l5)] [] h (k6 l1 l2 l3 l4 l5 h)) (hk19 : ∀ (l1 : Nat) (l2 : Int32) (l3 : Int32) (l4 : Int32) (l5 : Int32) (l6 : Int32) (l7 : Int32) (h : zH), zW G yX1_mostAlike cX1_mostAlike 9 (some .int) zvI 4 19 [(1, .ref (zbase G + l1)), (2, .int l2), (3, .int l3), (4, .int l4), (5, .int l5), (6, .int l6), (7, .int l7)] [] h (k19 l1 l2 l3 l4 l5 l6 l7 h)) (l1 : Nat) (l2 : Int32) (l3 : Int32) (l4 : Int32) (l5 : Int32) (l6 : Int32) (l7 : Int32) (h : zH) : zW G yX1_mostAlike cX1_mostAlike 9 (some .int) zvI 4 19 [(1, .ref (zbase G + l1)), (2, .int l2), (3, .int l3), (4, .int l4), (5, .int l5), (6, .int l6), (7, .int l7)] [] h (fb_X1_mostAlike_19 n k6 k19 l1 l2 l3 l4 l5 l6 l7 h) := by
  unfold fb_X1_mostAlike_19
  refine zi_iload dX1_mostAlike_19 6 rfl ?_
  refine zi_bipush (v := 8) dX1_mostAlike_21 (by decide) ?_
  refine zi_icmp_ge (tgt := 89) dX1_mostAlike_23 (by decide) ?_ ?_
  · refine zi_sub [0, 1, 2, 3, 4, 5] rfl ?_
    exact wb_X1_mostAlike_89 G n k6 hk6 l1 l2 l3 l4 l5 l6 h
  · refine zi_iload_n dX1_mostAlike_26 rfl 2 rfl ?_
    refine zi_iconst (v := 1) dX1_mostAlike_27 (by decide) ?_
    refine zi_iload dX1_mostAlike_28 4 rfl ?_
    refine zi_ishl dX1_mostAlike_30 ?_
    refine zi_iand dX1_mostAlike_31 ?_
    refine zi_if_eq (tgt := 89) dX1_mostAlike_32 (by decide) ?_ ?_
    · refine zi_sub [0, 1, 2, 3, 4, 5] rfl ?_
      exact wb_X1_mostAlike_89 G n k6 hk6 l1 l2 l3 l4 l5 l6 h
    · refine zi_aload_n dX1_mostAlike_35 rfl 0 rfl ?_
      refine zi_iload dX1_mostAlike_36 4 rfl ?_
      refine zi_iload_n dX1_mostAlike_38 rfl 1 rfl ?_
      refine zi_callSI (As := [.ref (zbase G + l1), .int l5, .int l2]) (rest := []) dX1_mostAlike_39 ml_X1_28 md_X1_factOf ms_X1_factOf rfl rfl (Nat.le_of_ble_eq_true rfl) (Nat.le_of_ble_eq_true rfl) (k_X1_factOf G n l1 l5 l2 h) (fun r1 h2 => ?_)
      refine zi_aload_n dX1_mostAlike_42 rfl 0 rfl ?_
      refine zi_iload dX1_mostAlike_43 6 rfl ?_
      refine zi_iload_n dX1_mostAlike_45 rfl 1 rfl ?_
      refine zi_callSI (As := [.ref (zbase G + l1), .int l7, .int l2]) (rest := [.int r1]) dX1_mostAlike_46 ml_X1_28 md_X1_factOf ms_X1_factOf rfl rfl (Nat.le_of_ble_eq_true rfl) (Nat.le_of_ble_eq_true rfl) (k_X1_factOf G n l1 l7 l2 h2) (fun r3 h4 => ?_)
      refine zi_icmp_ne (tgt := 56) dX1_mostAlike_49 (by decide) ?_ ?_
      · refine zi_iconst (v := 0) dX1_mostAlike_56 (by decide) ?_
        refine zi_sub [0, 1, 2, 3, 4, 5, 6] rfl ?_
        exact wb_X1_mostAlike_57 G n k6 k19 hk6 hk19 l1 l2 l3 l4 l5 l6 l7 0 h4
      · refine zi_iconst (v := 1) dX1_mostAlike_52 (by decide) ?_
        refine zi_goto (tgt := 57) dX1_mostAlike_53 (by decide) ?_
        refine zi_sub [0, 1, 2, 3, 4, 5, 6] rfl ?_
        exact wb_X1_mostAlike_57 G n k6 k19 hk6 hk19 l1 l2 l3 l4 l5 l6 l7 1 h4
theorem wl_X1_mostAlike_19 (G : zG) (n : Nat) (k6 : Nat → Int32 → Int32 → Int32 → Int32 → zH → Option (Int32 × zH)) (hk6 : ∀ (l1 : Nat) (l2 : Int32) (l3 : Int32) (l4 : Int32) (l5 : Int32) (h : zH), zW G yX1_mostAlike cX1_mostAlike 9 (some .int) zvI 4 6 [(1, .ref (zbase G + l1)), (2, .int l2), (3, .int l3), (4, .int l4), (5, .int l5)] [] h (k6 l1 l2 l3 l4 l5 h)) : ∀ (t : Nat) (l1 : Nat) (l2 : Int32) (l3 : Int32) (l4 : Int32) (l5 : Int32) (l6 : Int32) (l7 : Int32) (h : zH), zW G yX1_mostAlike cX1_mostAlike 9 (some .int) zvI 4 19 [(1, .ref (zbase G + l1)), (2, .int l2), (3, .int l3), (4, .int l4), (5, .int l5), (6, .int l6), (7, .int l7)] [] h (zlp7 (fb_X1_mostAlike_19 n k6 ) t l1 l2 l3 l4 l5 l6 l7 h) := by
  intro t
  induction t with
  | zero => intros; exact zW_none
  | succ t ih => intro l1 l2 l3 l4 l5 l6 l7 h; rw [zlp7_s]; exact wb_X1_mostAlike_19 G n k6  _ hk6  ih l1 l2 l3 l4 l5 l6 l7 h
set_option maxRecDepth 20000 in
set_option maxHeartbeats 1000000 in
theorem wb_X1_mostAlike_6 (G : zG) (n : Nat) (k6 : Nat → Int32 → Int32 → Int32 → Int32 → zH → Option (Int32 × zH)) (hk6 : ∀ (l1 : Nat) (l2 : Int32) (l3 : Int32) (l4 : Int32) (l5 : Int32) (h : zH), zW G yX1_mostAlike cX1_mostAlike 9 (some .int) zvI 4 6 [(1, .ref (zbase G + l1)), (2, .int l2), (3, .int l3), (4, .int l4), (5, .int l5)] [] h (k6 l1 l2 l3 l4 l5 h)) (l1 : Nat) (l2 : Int32) (l3 : Int32) (l4 : Int32) (l5 : Int32) (h : zH) : zW G yX1_mostAlike cX1_mostAlike 9 (some .int) zvI 4 6 [(1, .ref (zbase G + l1)), (2, .int l2), (3, .int l3), (4, .int l4), (5, .int l5)] [] h (fb_X1_mostAlike_6 n k6 l1 l2 l3 l4 l5 h) := by
  unfold fb_X1_mostAlike_6
  refine zi_iload dX1_mostAlike_6 4 rfl ?_
  refine zi_bipush (v := 8) dX1_mostAlike_8 (by decide) ?_
  refine zi_icmp_ge (tgt := 104) dX1_mostAlike_10 (by decide) ?_ ?_
  · refine zi_iload dX1_mostAlike_104 3 rfl ?_
    exact zi_retI dX1_mostAlike_106
  · refine zi_iconst (v := 0) dX1_mostAlike_13 (by decide) ?_
    refine zi_istore (l' := [(6, .int 0), (1, .ref (zbase G + l1)), (2, .int l2), (3, .int l3), (4, .int l4), (5, .int l5)]) dX1_mostAlike_14 (by decide) rfl ?_
    refine zi_iconst (v := 0) dX1_mostAlike_16 (by decide) ?_
    refine zi_istore (l' := [(7, .int 0), (6, .int 0), (1, .ref (zbase G + l1)), (2, .int l2), (3, .int l3), (4, .int l4), (5, .int l5)]) dX1_mostAlike_17 (by decide) rfl ?_
    refine zi_sub [2, 3, 4, 5, 6, 1, 0] rfl ?_
    exact wl_X1_mostAlike_19 G n k6 hk6 n l1 l2 l3 l4 l5 0 0 h
theorem wl_X1_mostAlike_6 (G : zG) (n : Nat) : ∀ (t : Nat) (l1 : Nat) (l2 : Int32) (l3 : Int32) (l4 : Int32) (l5 : Int32) (h : zH), zW G yX1_mostAlike cX1_mostAlike 9 (some .int) zvI 4 6 [(1, .ref (zbase G + l1)), (2, .int l2), (3, .int l3), (4, .int l4), (5, .int l5)] [] h (zlp5 (fb_X1_mostAlike_6 n ) t l1 l2 l3 l4 l5 h) := by
  intro t
  induction t with
  | zero => intros; exact zW_none
  | succ t ih => intro l1 l2 l3 l4 l5 h; rw [zlp5_s]; exact wb_X1_mostAlike_6 G n  _  ih l1 l2 l3 l4 l5 h
set_option maxRecDepth 20000 in
set_option maxHeartbeats 1000000 in
theorem k_X1_mostAlike (G : zG) (n : Nat) (a0 : Nat) (a1 : Nat) (a2 : Int32) (a3 : Int32) (h : zH) : zMet G yX1_mostAlike cX1_mostAlike 9 (some .int) zvI 4 [.ref (zbase G + a0), .ref (zbase G + a1), .int a2, .int a3] h (f_X1_mostAlike n a0 a1 a2 a3 h) := by
  refine zMet_of (l := [(0, .ref (zbase G + a0)), (1, .ref (zbase G + a1)), (2, .int a2), (3, .int a3)]) (by decide) (Nat.le_of_ble_eq_true rfl) rfl ?_
  unfold f_X1_mostAlike
  refine zi_iconst (v := 0) dX1_mostAlike_0 (by decide) ?_
  refine zi_istore (l' := [(4, .int 0), (0, .ref (zbase G + a0)), (1, .ref (zbase G + a1)), (2, .int a2), (3, .int a3)]) dX1_mostAlike_1 (by decide) rfl ?_
  refine zi_iconst (v := 0) dX1_mostAlike_3 (by decide) ?_
  refine zi_istore (l' := [(5, .int 0), (4, .int 0), (0, .ref (zbase G + a0)), (1, .ref (zbase G + a1)), (2, .int a2), (3, .int a3)]) dX1_mostAlike_4 (by decide) rfl ?_
  refine zi_sub [3, 4, 5, 1, 0] rfl ?_
  exact wl_X1_mostAlike_6 G n n a1 a2 a3 0 0 h
set_option maxRecDepth 20000 in
set_option maxHeartbeats 1000000 in
theorem wb_X11_ask_78 (G : zG) (n : Nat) (l1 : Int32) (l3 : Int32) (l4 : Int32) (h : zH) : zW G yX11_ask cX11_ask 7 (some .int) zvI 5 78 [(1, .int l1), (3, .int l3), (4, .int l4)] [] h (fb_X11_ask_78 n l1 l3 l4 h) := by
  unfold fb_X11_ask_78
  refine zi_iload_n dX11_ask_78 rfl 0 rfl ?_
  refine zi_if_ne (tgt := 86) dX11_ask_79 (by decide) ?_ ?_
  · refine zi_iload dX11_ask_86 2 rfl ?_
    exact zi_retI dX11_ask_88
  · refine zi_iload_n dX11_ask_82 rfl 1 rfl ?_
    refine zi_goto (tgt := 88) dX11_ask_83 (by decide) ?_
    exact zi_retI dX11_ask_88
set_option maxRecDepth 20000 in
set_option maxHeartbeats 1000000 in
theorem wb_X11_ask_72 (G : zG) (n : Nat) (k36 : Nat → Int32 → Int32 → Int32 → Int32 → Int32 → zH → Option (Int32 × zH)) (hk36 : ∀ (l0 : Nat) (l1 : Int32) (l2 : Int32) (l3 : Int32) (l4 : Int32) (l5 : Int32) (h : zH), zW G yX11_ask cX11_ask 7 (some .int) zvI 5 36 [(0, .ref (zbase G + l0)), (1, .int l1), (2, .int l2), (3, .int l3), (4, .int l4), (5, .int l5)] [] h (k36 l0 l1 l2 l3 l4 l5 h)) (l0 : Nat) (l1 : Int32) (l2 : Int32) (l3 : Int32) (l4 : Int32) (l5 : Int32) (h : zH) : zW G yX11_ask cX11_ask 7 (some .int) zvI 5 72 [(0, .ref (zbase G + l0)), (1, .int l1), (2, .int l2), (3, .int l3), (4, .int l4), (5, .int l5)] [] h (fb_X11_ask_72 n k36 l0 l1 l2 l3 l4 l5 h) := by
  unfold fb_X11_ask_72
  refine zi_iinc (j := 5) (v := l5 + 1) (l' := [(5, .int (l5 + 1)), (0, .ref (zbase G + l0)), (1, .int l1), (2, .int l2), (3, .int l3), (4, .int l4)]) dX11_ask_72 rfl rfl (by decide) rfl ?_
  refine zi_goto (tgt := 36) dX11_ask_75 (by decide) ?_
  refine zi_sub [1, 2, 3, 4, 5, 0] rfl ?_
  exact hk36 l0 l1 l2 l3 l4 (l5 + 1) h
set_option maxRecDepth 20000 in
set_option maxHeartbeats 1000000 in
theorem wb_X11_ask_36 (G : zG) (n : Nat) (k36 : Nat → Int32 → Int32 → Int32 → Int32 → Int32 → zH → Option (Int32 × zH)) (hk36 : ∀ (l0 : Nat) (l1 : Int32) (l2 : Int32) (l3 : Int32) (l4 : Int32) (l5 : Int32) (h : zH), zW G yX11_ask cX11_ask 7 (some .int) zvI 5 36 [(0, .ref (zbase G + l0)), (1, .int l1), (2, .int l2), (3, .int l3), (4, .int l4), (5, .int l5)] [] h (k36 l0 l1 l2 l3 l4 l5 h)) (l0 : Nat) (l1 : Int32) (l2 : Int32) (l3 : Int32) (l4 : Int32) (l5 : Int32) (h : zH) : zW G yX11_ask cX11_ask 7 (some .int) zvI 5 36 [(0, .ref (zbase G + l0)), (1, .int l1), (2, .int l2), (3, .int l3), (4, .int l4), (5, .int l5)] [] h (fb_X11_ask_36 n k36 l0 l1 l2 l3 l4 l5 h) := by
  unfold fb_X11_ask_36
  refine zi_iload dX11_ask_36 5 rfl ?_
  refine zi_iconst (v := 3) dX11_ask_38 (by decide) ?_
  refine zi_icmp_ge (tgt := 78) dX11_ask_39 (by decide) ?_ ?_
  · refine zi_sub [1, 3, 4] rfl ?_
    exact wb_X11_ask_78 G n l1 l3 l4 h
  · refine zi_aload_n dX11_ask_42 rfl 0 rfl ?_
    refine zi_getR dX11_ask_43 gf_X11_38 (fun v1 => ?_)
    refine zi_aload_n dX11_ask_46 rfl 0 rfl ?_
    refine zi_getR dX11_ask_47 gf_X11_10 (fun v2 => ?_)
    refine zi_iload dX11_ask_50 5 rfl ?_
    refine zi_iload_n dX11_ask_52 rfl 2 rfl ?_
    refine zi_callVI (As := [.ref (zbase G + v2), .int l5, .int l2]) (rest := []) (ci := 1) dX11_ask_53 ml_X11_325 md_X1_mostAlike mv_X1_mostAlike rfl (by decide) rfl rfl (Nat.le_of_ble_eq_true rfl) (Nat.le_of_ble_eq_true rfl) (k_X1_mostAlike G n v1 v2 l5 l2 h) (fun r3 h4 => ?_)
    refine zi_istore (l' := [(6, .int r3), (0, .ref (zbase G + l0)), (1, .int l1), (2, .int l2), (3, .int l3), (4, .int l4), (5, .int l5)]) dX11_ask_56 (by decide) rfl ?_
    refine zi_iload dX11_ask_58 0 rfl ?_
    refine zi_iload dX11_ask_60 5 rfl ?_
    refine zi_icmp_ge (tgt := 72) dX11_ask_62 (by decide) ?_ ?_
    · refine zi_sub [1, 2, 3, 4, 5, 6] rfl ?_
      exact wb_X11_ask_72 G n k36 hk36 l0 l1 l2 l3 l4 l5 h4
    · refine zi_iload dX11_ask_65 0 rfl ?_
      refine zi_istore (l' := [(4, .int r3), (6, .int r3), (0, .ref (zbase G + l0)), (1, .int l1), (2, .int l2), (3, .int l3), (5, .int l5)]) dX11_ask_67 (by decide) rfl ?_
      refine zi_iload dX11_ask_69 6 rfl ?_
      refine zi_istore_n (l' := [(3, .int l5), (4, .int r3), (6, .int r3), (0, .ref (zbase G + l0)), (1, .int l1), (2, .int l2), (5, .int l5)]) dX11_ask_71 rfl (by decide) rfl ?_
      refine zi_sub [3, 4, 5, 0, 1, 6] rfl ?_
      exact wb_X11_ask_72 G n k36 hk36 l0 l1 l2 l5 r3 l5 h4
theorem wl_X11_ask_36 (G : zG) (n : Nat) : ∀ (t : Nat) (l0 : Nat) (l1 : Int32) (l2 : Int32) (l3 : Int32) (l4 : Int32) (l5 : Int32) (h : zH), zW G yX11_ask cX11_ask 7 (some .int) zvI 5 36 [(0, .ref (zbase G + l0)), (1, .int l1), (2, .int l2), (3, .int l3), (4, .int l4), (5, .int l5)] [] h (zlp6 (fb_X11_ask_36 n ) t l0 l1 l2 l3 l4 l5 h) := by
  intro t
  induction t with
  | zero => intros; exact zW_none
  | succ t ih => intro l0 l1 l2 l3 l4 l5 h; rw [zlp6_s]; exact wb_X11_ask_36 G n  _  ih l0 l1 l2 l3 l4 l5 h
set_option maxRecDepth 20000 in
set_option maxHeartbeats 1000000 in
theorem k_X11_ask (G : zG) (n : Nat) (a0 : Nat) (a1 : Int32) (h : zH) : zMet G yX11_ask cX11_ask 7 (some .int) zvI 5 [.ref (zbase G + a0), .int a1] h (f_X11_ask n a0 a1 h) := by
  refine zMet_of (l := [(0, .ref (zbase G + a0)), (1, .int a1)]) (by decide) (Nat.le_of_ble_eq_true rfl) rfl ?_
  unfold f_X11_ask
  refine zi_aload_n dX11_ask_0 rfl 0 rfl ?_
  refine zi_getR dX11_ask_1 gf_X11_38 (fun v1 => ?_)
  refine zi_aload_n dX11_ask_4 rfl 0 rfl ?_
  refine zi_getR dX11_ask_5 gf_X11_10 (fun v2 => ?_)
  refine zi_callVI (As := [.ref (zbase G + v2)]) (rest := []) (ci := 1) dX11_ask_8 ml_X11_322 md_X1_fitting mv_X1_fitting rfl (by decide) rfl rfl (Nat.le_of_ble_eq_true rfl) (Nat.le_of_ble_eq_true rfl) (k_X1_fitting G n v1 v2 h) (fun r3 h4 => ?_)
  refine zi_istore_n (l' := [(2, .int r3), (0, .ref (zbase G + a0)), (1, .int a1)]) dX11_ask_11 rfl (by decide) rfl ?_
  refine zi_iload_n dX11_ask_12 rfl 0 rfl ?_
  refine zi_if_eq (tgt := 25) dX11_ask_13 (by decide) ?_ ?_
  · refine zi_iconst (v := (-1)) dX11_ask_25 (by decide) ?_
    exact zi_retI dX11_ask_26
  · refine zi_iload_n dX11_ask_16 rfl 2 rfl ?_
    refine zi_if_lt (tgt := 25) dX11_ask_17 (by decide) ?_ ?_
    · refine zi_iconst (v := (-1)) dX11_ask_25 (by decide) ?_
      exact zi_retI dX11_ask_26
    · refine zi_iload_n dX11_ask_20 rfl 2 rfl ?_
      refine zi_iconst (v := 1) dX11_ask_21 (by decide) ?_
      refine zi_icmp_le (tgt := 27) dX11_ask_22 (by decide) ?_ ?_
      · refine zi_iconst (v := 0) dX11_ask_27 (by decide) ?_
        refine zi_istore_n (l' := [(3, .int 0), (2, .int r3), (0, .ref (zbase G + a0)), (1, .int a1)]) dX11_ask_28 rfl (by decide) rfl ?_
        refine zi_bipush (v := 9) dX11_ask_29 (by decide) ?_
        refine zi_istore (l' := [(4, .int 9), (3, .int 0), (2, .int r3), (0, .ref (zbase G + a0)), (1, .int a1)]) dX11_ask_31 (by decide) rfl ?_
        refine zi_iconst (v := 0) dX11_ask_33 (by decide) ?_
        refine zi_istore (l' := [(5, .int 0), (4, .int 9), (3, .int 0), (2, .int r3), (0, .ref (zbase G + a0)), (1, .int a1)]) dX11_ask_34 (by decide) rfl ?_
        refine zi_sub [4, 5, 3, 2, 1, 0] rfl ?_
        exact wl_X11_ask_36 G n n a0 a1 r3 0 9 0 h4
      · refine zi_iconst (v := (-1)) dX11_ask_25 (by decide) ?_
        exact zi_retI dX11_ask_26
set_option maxRecDepth 20000 in
set_option maxHeartbeats 1000000 in
theorem wb_J7_fill_d0a16_6 (G : zG) (n : Nat) (k6 : Nat → Int64 → Int32 → Int32 → zH → Option (Unit × zH)) (hk6 : ∀ (l0 : Nat) (l1 : Int64) (l3 : Int32) (l4 : Int32) (h : zH), zW G yJ7_fill_d0a16 cJ7_fill_d0a16 5 none zvU 1 6 [(0, .ref (zbase G + l0)), (1, .long l1), (3, .int l3), (4, .int l4)] [] h (k6 l0 l1 l3 l4 h)) (l0 : Nat) (l1 : Int64) (l3 : Int32) (l4 : Int32) (h : zH) : zW G yJ7_fill_d0a16 cJ7_fill_d0a16 5 none zvU 1 6 [(0, .ref (zbase G + l0)), (1, .long l1), (3, .int l3), (4, .int l4)] [] h (fb_J7_fill_d0a16_6 n k6 l0 l1 l3 l4 h) := by
  unfold fb_J7_fill_d0a16_6
  refine zi_iload_n dJ7_fill_d0a16_6 rfl 2 rfl ?_
  refine zi_iload dJ7_fill_d0a16_7 3 rfl ?_
  refine zi_icmp_ge (tgt := 22) dJ7_fill_d0a16_9 (by decide) ?_ ?_
  · exact zi_retV dJ7_fill_d0a16_22
  · refine zi_aload_n dJ7_fill_d0a16_12 rfl 0 rfl ?_
    refine zi_iload_n dJ7_fill_d0a16_13 rfl 2 rfl ?_
    refine zi_lload_n dJ7_fill_d0a16_14 rfl 1 rfl ?_
    refine zi_last dJ7_fill_d0a16_15 (fun h1 => ?_)
    refine zi_iinc (j := 2) (v := l3 + 1) (l' := [(3, .int (l3 + 1)), (0, .ref (zbase G + l0)), (1, .long l1), (4, .int l4)]) dJ7_fill_d0a16_16 rfl rfl (by decide) rfl ?_
    refine zi_goto (tgt := 6) dJ7_fill_d0a16_19 (by decide) ?_
    refine zi_sub [1, 2, 0, 3] rfl ?_
    exact hk6 l0 l1 (l3 + 1) l4 h1
theorem wl_J7_fill_d0a16_6 (G : zG) (n : Nat) : ∀ (t : Nat) (l0 : Nat) (l1 : Int64) (l3 : Int32) (l4 : Int32) (h : zH), zW G yJ7_fill_d0a16 cJ7_fill_d0a16 5 none zvU 1 6 [(0, .ref (zbase G + l0)), (1, .long l1), (3, .int l3), (4, .int l4)] [] h (zlp4 (fb_J7_fill_d0a16_6 n ) t l0 l1 l3 l4 h) := by
  intro t
  induction t with
  | zero => intros; exact zW_none
  | succ t ih => intro l0 l1 l3 l4 h; rw [zlp4_s]; exact wb_J7_fill_d0a16_6 G n  _  ih l0 l1 l3 l4 h
set_option maxRecDepth 20000 in
set_option maxHeartbeats 1000000 in
theorem k_J7_fill_d0a16 (G : zG) (n : Nat) (a0 : Nat) (a1 : Int64) (h : zH) : zMet G yJ7_fill_d0a16 cJ7_fill_d0a16 5 none zvU 1 [.ref (zbase G + a0), .long a1] h (f_J7_fill_d0a16 n a0 a1 h) := by
  refine zMet_ofF (l := [(0, .ref (zbase G + a0)), (1, .long a1)]) (by decide +kernel) (Nat.le_of_ble_eq_true rfl) rfl ?_
  unfold f_J7_fill_d0a16
  refine zi_iconst (v := 0) dJ7_fill_d0a16_0 (by decide) ?_
  refine zi_istore_n (l' := [(3, .int 0), (0, .ref (zbase G + a0)), (1, .long a1)]) dJ7_fill_d0a16_1 rfl (by decide) rfl ?_
  refine zi_aload_n dJ7_fill_d0a16_2 rfl 1 rfl ?_
  refine zi_alenJ dJ7_fill_d0a16_3 (fun v1 => ?_)
  refine zi_istore (l' := [(4, .int v1), (3, .int 0), (0, .ref (zbase G + a0)), (1, .long a1)]) dJ7_fill_d0a16_4 (by decide) rfl ?_
  refine zi_sub [2, 3, 1, 0] rfl ?_
  exact wl_J7_fill_d0a16_6 G n n a0 a1 0 v1 h
set_option maxRecDepth 20000 in
set_option maxHeartbeats 1000000 in
theorem wb_X11_few_150 (G : zG) (n : Nat) (k150 : Nat → Int32 → Int64 → Int32 → zH → Option (Int64 × zH)) (hk150 : ∀ (l0 : Nat) (l1 : Int32) (l5 : Int64) (l7 : Int32) (h : zH), zW G yX11_few cX11_few 8 (some .long) zvL 2 150 [(0, .ref (zbase G + l0)), (1, .int l1), (5, .long l5), (7, .int l7)] [] h (k150 l0 l1 l5 l7 h)) (l0 : Nat) (l1 : Int32) (l5 : Int64) (l7 : Int32) (h : zH) : zW G yX11_few cX11_few 8 (some .long) zvL 2 150 [(0, .ref (zbase G + l0)), (1, .int l1), (5, .long l5), (7, .int l7)] [] h (fb_X11_few_150 n k150 l0 l1 l5 l7 h) := by
  unfold fb_X11_few_150
  refine zi_iload dX11_few_150 3 rfl ?_
  refine zi_iload_n dX11_few_152 rfl 1 rfl ?_
  refine zi_icmp_ge (tgt := 174) dX11_few_153 (by decide) ?_ ?_
  · refine zi_lload dX11_few_174 2 rfl ?_
    exact zi_retL dX11_few_176
  · refine zi_lload dX11_few_156 2 rfl ?_
    refine zi_aload_n dX11_few_158 rfl 0 rfl ?_
    refine zi_getR dX11_few_159 gf_X11_83 (fun v1 => ?_)
    refine zi_iload dX11_few_162 3 rfl ?_
    refine zi_lald dX11_few_164 (fun v2 => ?_)
    refine zi_ladd dX11_few_165 ?_
    refine zi_let (sf := fun x3 => .long x3 :: []) (fun x3 => ?_)
    refine zi_lstore (l' := [(5, .long x3), (0, .ref (zbase G + l0)), (1, .int l1), (7, .int l7)]) dX11_few_166 (by decide) rfl ?_
    refine zi_iinc (j := 3) (v := l7 + 1) (l' := [(7, .int (l7 + 1)), (5, .long x3), (0, .ref (zbase G + l0)), (1, .int l1)]) dX11_few_168 rfl rfl (by decide) rfl ?_
    refine zi_goto (tgt := 150) dX11_few_171 (by decide) ?_
    refine zi_sub [2, 3, 1, 0] rfl ?_
    exact hk150 l0 l1 x3 (l7 + 1) h
theorem wl_X11_few_150 (G : zG) (n : Nat) : ∀ (t : Nat) (l0 : Nat) (l1 : Int32) (l5 : Int64) (l7 : Int32) (h : zH), zW G yX11_few cX11_few 8 (some .long) zvL 2 150 [(0, .ref (zbase G + l0)), (1, .int l1), (5, .long l5), (7, .int l7)] [] h (zlp4 (fb_X11_few_150 n ) t l0 l1 l5 l7 h) := by
  intro t
  induction t with
  | zero => intros; exact zW_none
  | succ t ih => intro l0 l1 l5 l7 h; rw [zlp4_s]; exact wb_X11_few_150 G n  _  ih l0 l1 l5 l7 h
set_option maxRecDepth 20000 in
set_option maxHeartbeats 1000000 in
theorem wb_X11_few_144 (G : zG) (n : Nat) (l0 : Nat) (l1 : Int32) (h : zH) : zW G yX11_few cX11_few 8 (some .long) zvL 2 144 [(0, .ref (zbase G + l0)), (1, .int l1)] [] h (fb_X11_few_144 n l0 l1 h) := by
  unfold fb_X11_few_144
  refine zi_lconst (v := 0) dX11_few_144 (by decide) ?_
  refine zi_lstore (l' := [(5, .long 0), (0, .ref (zbase G + l0)), (1, .int l1)]) dX11_few_145 (by decide) rfl ?_
  refine zi_iconst (v := 0) dX11_few_147 (by decide) ?_
  refine zi_istore (l' := [(7, .int 0), (5, .long 0), (0, .ref (zbase G + l0)), (1, .int l1)]) dX11_few_148 (by decide) rfl ?_
  refine zi_sub [2, 3, 1, 0] rfl ?_
  exact wl_X11_few_150 G n n l0 l1 0 0 h
set_option maxRecDepth 20000 in
set_option maxHeartbeats 1000000 in
theorem wb_X11_few_116 (G : zG) (n : Nat) (k54 : Nat → Int32 → Int32 → Int64 → Int32 → zH → Option (Int64 × zH)) (hk54 : ∀ (l0 : Nat) (l1 : Int32) (l2 : Int32) (l3 : Int64) (l5 : Int32) (h : zH), zW G yX11_few cX11_few 8 (some .long) zvL 2 54 [(0, .ref (zbase G + l0)), (1, .int l1), (2, .int l2), (3, .long l3), (5, .int l5)] [] h (k54 l0 l1 l2 l3 l5 h)) (l0 : Nat) (l1 : Int32) (l2 : Int32) (l3 : Int64) (l5 : Int32) (h : zH) : zW G yX11_few cX11_few 8 (some .long) zvL 2 116 [(0, .ref (zbase G + l0)), (1, .int l1), (2, .int l2), (3, .long l3), (5, .int l5)] [] h (fb_X11_few_116 n k54 l0 l1 l2 l3 l5 h) := by
  unfold fb_X11_few_116
  refine zi_aload_n dX11_few_116 rfl 0 rfl ?_
  refine zi_getR dX11_few_117 gf_X11_83 (fun v1 => ?_)
  refine zi_iconst (v := 0) dX11_few_120 (by decide) ?_
  refine zi_aload_n dX11_few_121 rfl 0 rfl ?_
  refine zi_getR dX11_few_122 gf_X11_83 (fun v2 => ?_)
  refine zi_iconst (v := 0) dX11_few_125 (by decide) ?_
  refine zi_lald dX11_few_126 (fun v3 => ?_)
  refine zi_ldc2 dX11_few_127 kl_X11_336 ?_
  refine zi_lload_n dX11_few_130 rfl 3 rfl ?_
  refine zi_lsub dX11_few_131 ?_
  refine zi_lmul dX11_few_132 ?_
  refine zi_ldc2 dX11_few_133 kl_X11_336 ?_
  refine zi_ldiv dX11_few_136 (by decide) ?_
  refine zi_last dX11_few_137 (fun h4 => ?_)
  refine zi_iinc (j := 4) (v := l5 + 1) (l' := [(5, .int (l5 + 1)), (0, .ref (zbase G + l0)), (1, .int l1), (2, .int l2), (3, .long l3)]) dX11_few_138 rfl rfl (by decide) rfl ?_
  refine zi_goto (tgt := 54) dX11_few_141 (by decide) ?_
  refine zi_sub [1, 2, 3, 4, 0] rfl ?_
  exact hk54 l0 l1 l2 l3 (l5 + 1) h4
set_option maxRecDepth 20000 in
set_option maxHeartbeats 1000000 in
theorem wb_X11_few_65 (G : zG) (n : Nat) (k54 : Nat → Int32 → Int32 → Int64 → Int32 → zH → Option (Int64 × zH)) (k65 : Nat → Int32 → Int32 → Int64 → Int32 → Int32 → zH → Option (Int64 × zH)) (hk54 : ∀ (l0 : Nat) (l1 : Int32) (l2 : Int32) (l3 : Int64) (l5 : Int32) (h : zH), zW G yX11_few cX11_few 8 (some .long) zvL 2 54 [(0, .ref (zbase G + l0)), (1, .int l1), (2, .int l2), (3, .long l3), (5, .int l5)] [] h (k54 l0 l1 l2 l3 l5 h)) (hk65 : ∀ (l0 : Nat) (l1 : Int32) (l2 : Int32) (l3 : Int64) (l5 : Int32) (l6 : Int32) (h : zH), zW G yX11_few cX11_few 8 (some .long) zvL 2 65 [(0, .ref (zbase G + l0)), (1, .int l1), (2, .int l2), (3, .long l3), (5, .int l5), (6, .int l6)] [] h (k65 l0 l1 l2 l3 l5 l6 h)) (l0 : Nat) (l1 : Int32) (l2 : Int32) (l3 : Int64) (l5 : Int32) (l6 : Int32) (h : zH) : zW G yX11_few cX11_few 8 (some .long) zvL 2 65 [(0, .ref (zbase G + l0)), (1, .int l1), (2, .int l2), (3, .long l3), (5, .int l5), (6, .int l6)] [] h (fb_X11_few_65 n k54 k65 l0 l1 l2 l3 l5 l6 h) := by
  unfold fb_X11_few_65
  refine zi_iload dX11_few_65 5 rfl ?_
  refine zi_if_le (tgt := 116) dX11_few_67 (by decide) ?_ ?_
  · refine zi_sub [0, 1, 2, 3, 4] rfl ?_
    exact wb_X11_few_116 G n k54 hk54 l0 l1 l2 l3 l5 h
  · refine zi_aload_n dX11_few_70 rfl 0 rfl ?_
    refine zi_getR dX11_few_71 gf_X11_83 (fun v1 => ?_)
    refine zi_iload dX11_few_74 5 rfl ?_
    refine zi_aload_n dX11_few_76 rfl 0 rfl ?_
    refine zi_getR dX11_few_77 gf_X11_83 (fun v2 => ?_)
    refine zi_iload dX11_few_80 5 rfl ?_
    refine zi_lald dX11_few_82 (fun v3 => ?_)
    refine zi_ldc2 dX11_few_83 kl_X11_336 ?_
    refine zi_lload_n dX11_few_86 rfl 3 rfl ?_
    refine zi_lsub dX11_few_87 ?_
    refine zi_lmul dX11_few_88 ?_
    refine zi_ldc2 dX11_few_89 kl_X11_336 ?_
    refine zi_ldiv dX11_few_92 (by decide) ?_
    refine zi_aload_n dX11_few_93 rfl 0 rfl ?_
    refine zi_getR dX11_few_94 gf_X11_83 (fun v4 => ?_)
    refine zi_iload dX11_few_97 5 rfl ?_
    refine zi_iconst (v := 1) dX11_few_99 (by decide) ?_
    refine zi_isub dX11_few_100 ?_
    refine zi_lald dX11_few_101 (fun v5 => ?_)
    refine zi_lload_n dX11_few_102 rfl 3 rfl ?_
    refine zi_lmul dX11_few_103 ?_
    refine zi_ldc2 dX11_few_104 kl_X11_336 ?_
    refine zi_ldiv dX11_few_107 (by decide) ?_
    refine zi_ladd dX11_few_108 ?_
    refine zi_last dX11_few_109 (fun h6 => ?_)
    refine zi_iinc (j := 5) (v := l6 + (-1)) (l' := [(6, .int (l6 + (-1))), (0, .ref (zbase G + l0)), (1, .int l1), (2, .int l2), (3, .long l3), (5, .int l5)]) dX11_few_110 rfl rfl (by decide) rfl ?_
    refine zi_goto (tgt := 65) dX11_few_113 (by decide) ?_
    refine zi_sub [1, 2, 3, 4, 5, 0] rfl ?_
    exact hk65 l0 l1 l2 l3 l5 (l6 + (-1)) h6
theorem wl_X11_few_65 (G : zG) (n : Nat) (k54 : Nat → Int32 → Int32 → Int64 → Int32 → zH → Option (Int64 × zH)) (hk54 : ∀ (l0 : Nat) (l1 : Int32) (l2 : Int32) (l3 : Int64) (l5 : Int32) (h : zH), zW G yX11_few cX11_few 8 (some .long) zvL 2 54 [(0, .ref (zbase G + l0)), (1, .int l1), (2, .int l2), (3, .long l3), (5, .int l5)] [] h (k54 l0 l1 l2 l3 l5 h)) : ∀ (t : Nat) (l0 : Nat) (l1 : Int32) (l2 : Int32) (l3 : Int64) (l5 : Int32) (l6 : Int32) (h : zH), zW G yX11_few cX11_few 8 (some .long) zvL 2 65 [(0, .ref (zbase G + l0)), (1, .int l1), (2, .int l2), (3, .long l3), (5, .int l5), (6, .int l6)] [] h (zlp6 (fb_X11_few_65 n k54 ) t l0 l1 l2 l3 l5 l6 h) := by
  intro t
  induction t with
  | zero => intros; exact zW_none
  | succ t ih => intro l0 l1 l2 l3 l5 l6 h; rw [zlp6_s]; exact wb_X11_few_65 G n k54  _ hk54  ih l0 l1 l2 l3 l5 l6 h
set_option maxRecDepth 20000 in
set_option maxHeartbeats 1000000 in
theorem wb_X11_few_54 (G : zG) (n : Nat) (k54 : Nat → Int32 → Int32 → Int64 → Int32 → zH → Option (Int64 × zH)) (hk54 : ∀ (l0 : Nat) (l1 : Int32) (l2 : Int32) (l3 : Int64) (l5 : Int32) (h : zH), zW G yX11_few cX11_few 8 (some .long) zvL 2 54 [(0, .ref (zbase G + l0)), (1, .int l1), (2, .int l2), (3, .long l3), (5, .int l5)] [] h (k54 l0 l1 l2 l3 l5 h)) (l0 : Nat) (l1 : Int32) (l2 : Int32) (l3 : Int64) (l5 : Int32) (h : zH) : zW G yX11_few cX11_few 8 (some .long) zvL 2 54 [(0, .ref (zbase G + l0)), (1, .int l1), (2, .int l2), (3, .long l3), (5, .int l5)] [] h (fb_X11_few_54 n k54 l0 l1 l2 l3 l5 h) := by
  unfold fb_X11_few_54
  refine zi_iload dX11_few_54 4 rfl ?_
  refine zi_iload_n dX11_few_56 rfl 2 rfl ?_
  refine zi_icmp_ge (tgt := 144) dX11_few_57 (by decide) ?_ ?_
  · refine zi_sub [0, 1] rfl ?_
    exact wb_X11_few_144 G n l0 l1 h
  · refine zi_iload_n dX11_few_60 rfl 1 rfl ?_
    refine zi_iconst (v := 1) dX11_few_61 (by decide) ?_
    refine zi_isub dX11_few_62 ?_
    refine zi_let (sf := fun x1 => .int x1 :: []) (fun x1 => ?_)
    refine zi_istore (l' := [(6, .int x1), (0, .ref (zbase G + l0)), (1, .int l1), (2, .int l2), (3, .long l3), (5, .int l5)]) dX11_few_63 (by decide) rfl ?_
    refine zi_sub [1, 2, 3, 4, 5, 0] rfl ?_
    exact wl_X11_few_65 G n k54 hk54 n l0 l1 l2 l3 l5 x1 h
theorem wl_X11_few_54 (G : zG) (n : Nat) : ∀ (t : Nat) (l0 : Nat) (l1 : Int32) (l2 : Int32) (l3 : Int64) (l5 : Int32) (h : zH), zW G yX11_few cX11_few 8 (some .long) zvL 2 54 [(0, .ref (zbase G + l0)), (1, .int l1), (2, .int l2), (3, .long l3), (5, .int l5)] [] h (zlp5 (fb_X11_few_54 n ) t l0 l1 l2 l3 l5 h) := by
  intro t
  induction t with
  | zero => intros; exact zW_none
  | succ t ih => intro l0 l1 l2 l3 l5 h; rw [zlp5_s]; exact wb_X11_few_54 G n  _  ih l0 l1 l2 l3 l5 h
set_option maxRecDepth 20000 in
set_option maxHeartbeats 1000000 in
theorem k_X11_few (G : zG) (n : Nat) (a0 : Nat) (a1 : Int32) (a2 : Int32) (h : zH) : zMet G yX11_few cX11_few 8 (some .long) zvL 2 [.ref (zbase G + a0), .int a1, .int a2] h (f_X11_few n a0 a1 a2 h) := by
  refine zMet_of (l := [(0, .ref (zbase G + a0)), (1, .int a1), (2, .int a2)]) (by decide) (Nat.le_of_ble_eq_true rfl) rfl ?_
  unfold f_X11_few
  refine zi_iload_n dX11_few_0 rfl 1 rfl ?_
  refine zi_iconst (v := 1) dX11_few_1 (by decide) ?_
  refine zi_icmp_lt (tgt := 21) dX11_few_2 (by decide) ?_ ?_
  · refine zi_ldc2 dX11_few_21 kl_X11_329 ?_
    exact zi_retL dX11_few_24
  · refine zi_iload_n dX11_few_5 rfl 1 rfl ?_
    refine zi_bipush (v := 20) dX11_few_6 (by decide) ?_
    refine zi_icmp_gt (tgt := 21) dX11_few_8 (by decide) ?_ ?_
    · refine zi_ldc2 dX11_few_21 kl_X11_329 ?_
      exact zi_retL dX11_few_24
    · refine zi_iload_n dX11_few_11 rfl 2 rfl ?_
      refine zi_if_lt (tgt := 21) dX11_few_12 (by decide) ?_ ?_
      · refine zi_ldc2 dX11_few_21 kl_X11_329 ?_
        exact zi_retL dX11_few_24
      · refine zi_iload_n dX11_few_15 rfl 2 rfl ?_
        refine zi_bipush (v := 99) dX11_few_16 (by decide) ?_
        refine zi_icmp_le (tgt := 25) dX11_few_18 (by decide) ?_ ?_
        · refine zi_aload_n dX11_few_25 rfl 0 rfl ?_
          refine zi_getR dX11_few_26 gf_X11_83 (fun v1 => ?_)
          refine zi_lconst (v := 0) dX11_few_29 (by decide) ?_
          refine zi_callSU (As := [.ref (zbase G + v1), .long 0]) (rest := []) dX11_few_30 ml_X11_331 md_J7_fill_d0a16 ms_J7_fill_d0a16 rfl rfl (Nat.le_of_ble_eq_true rfl) (Nat.le_of_ble_eq_true rfl) (k_J7_fill_d0a16 G n v1 0 h) (fun _ h3 => ?_)
          refine zi_aload_n dX11_few_33 rfl 0 rfl ?_
          refine zi_getR dX11_few_34 gf_X11_83 (fun v4 => ?_)
          refine zi_iconst (v := 0) dX11_few_37 (by decide) ?_
          refine zi_ldc2 dX11_few_38 kl_X11_334 ?_
          refine zi_last dX11_few_41 (fun h5 => ?_)
          refine zi_aload_n dX11_few_42 rfl 0 rfl ?_
          refine zi_getR dX11_few_43 gf_X11_31 (fun v6 => ?_)
          refine zi_getI dX11_few_46 gf_X11_201 (fun v7 => ?_)
          refine zi_i2l dX11_few_49 ?_
          refine zi_let (sf := fun x8 => .long x8 :: []) (fun x8 => ?_)
          refine zi_lstore_n (l' := [(3, .long x8), (0, .ref (zbase G + a0)), (1, .int a1), (2, .int a2)]) dX11_few_50 rfl (by decide) rfl ?_
          refine zi_iconst (v := 0) dX11_few_51 (by decide) ?_
          refine zi_istore (l' := [(5, .int 0), (3, .long x8), (0, .ref (zbase G + a0)), (1, .int a1), (2, .int a2)]) dX11_few_52 (by decide) rfl ?_
          refine zi_sub [2, 3, 4, 1, 0] rfl ?_
          exact wl_X11_few_54 G n n a0 a1 a2 x8 0 h5
        · refine zi_ldc2 dX11_few_21 kl_X11_329 ?_
          exact zi_retL dX11_few_24
set_option maxRecDepth 20000 in
set_option maxHeartbeats 1000000 in
theorem wb_X11_compare_18 (G : zG) (n : Nat) (l0 : Nat) (l1 : Int32) (l2 : Int32) (l3 : Int32) (h : zH) : zW G yX11_compare cX11_compare 4 (some .int) zvI 4 18 [(0, .ref (zbase G + l0)), (1, .int l1), (2, .int l2), (3, .int l3)] [] h (fb_X11_compare_18 n l0 l1 l2 l3 h) := by
  unfold fb_X11_compare_18
  refine zi_iload_n dX11_compare_18 rfl 2 rfl ?_
  refine zi_callSI (As := [.int l2]) (rest := []) dX11_compare_19 ml_X11_167 md_X11_isNode ms_X11_isNode rfl rfl (Nat.le_of_ble_eq_true rfl) (Nat.le_of_ble_eq_true rfl) (k_X11_isNode G n l2 h) (fun r1 h2 => ?_)
  refine zi_if_eq (tgt := 34) dX11_compare_22 (by decide) ?_ ?_
  · refine zi_iconst (v := (-1)) dX11_compare_34 (by decide) ?_
    exact zi_retI dX11_compare_35
  · refine zi_iload_n dX11_compare_25 rfl 3 rfl ?_
    refine zi_if_lt (tgt := 34) dX11_compare_26 (by decide) ?_ ?_
    · refine zi_iconst (v := (-1)) dX11_compare_34 (by decide) ?_
      exact zi_retI dX11_compare_35
    · refine zi_iload_n dX11_compare_29 rfl 3 rfl ?_
      refine zi_iconst (v := 1) dX11_compare_30 (by decide) ?_
      refine zi_icmp_le (tgt := 36) dX11_compare_31 (by decide) ?_ ?_
      · refine zi_aload_n dX11_compare_36 rfl 0 rfl ?_
        refine zi_getR dX11_compare_37 gf_X11_31 (fun v3 => ?_)
        refine zi_aload_n dX11_compare_40 rfl 0 rfl ?_
        refine zi_getR dX11_compare_41 gf_X11_31 (fun v4 => ?_)
        refine zi_iload_n dX11_compare_44 rfl 1 rfl ?_
        refine zi_callVN (As := [.int l1]) (rest := [.ref (zbase G + v3)]) (ci := 6) dX11_compare_45 ml_X11_338 md_X6_lawAt mv_X6_lawAt rfl (by decide) rfl rfl (Nat.le_of_ble_eq_true rfl) (Nat.le_of_ble_eq_true rfl) (k_X6_lawAt G n v4 l1 h2) (fun r5 h6 => ?_)
        refine zi_iload_n dX11_compare_48 rfl 2 rfl ?_
        refine zi_iload_n dX11_compare_49 rfl 3 rfl ?_
        refine zi_aload_n dX11_compare_50 rfl 0 rfl ?_
        refine zi_getR dX11_compare_51 gf_X11_10 (fun v7 => ?_)
        refine zi_callVI (As := [zrf G r5, .int l2, .int l3, .ref (zbase G + v7)]) (rest := []) (ci := 6) dX11_compare_54 ml_X11_342 md_X6_costOf mv_X6_costOf rfl (by decide) rfl rfl (Nat.le_of_ble_eq_true rfl) (Nat.le_of_ble_eq_true rfl) (k_X6_costOf G n v3 r5 l2 l3 v7 h6) (fun r8 h9 => ?_)
        exact zi_retI dX11_compare_57
      · refine zi_iconst (v := (-1)) dX11_compare_34 (by decide) ?_
        exact zi_retI dX11_compare_35
set_option maxRecDepth 20000 in
set_option maxHeartbeats 1000000 in
theorem k_X11_compare (G : zG) (n : Nat) (a0 : Nat) (a1 : Int32) (a2 : Int32) (a3 : Int32) (h : zH) : zMet G yX11_compare cX11_compare 4 (some .int) zvI 4 [.ref (zbase G + a0), .int a1, .int a2, .int a3] h (f_X11_compare n a0 a1 a2 a3 h) := by
  refine zMet_of (l := [(0, .ref (zbase G + a0)), (1, .int a1), (2, .int a2), (3, .int a3)]) (by decide) (Nat.le_of_ble_eq_true rfl) rfl ?_
  unfold f_X11_compare
  refine zi_iload_n dX11_compare_0 rfl 1 rfl ?_
  refine zi_iconst (v := (-1)) dX11_compare_1 (by decide) ?_
  refine zi_icmp_eq (tgt := 18) dX11_compare_2 (by decide) ?_ ?_
  · refine zi_sub [0, 1, 2, 3] rfl ?_
    exact wb_X11_compare_18 G n a0 a1 a2 a3 h
  · refine zi_aload_n dX11_compare_5 rfl 0 rfl ?_
    refine zi_getR dX11_compare_6 gf_X11_31 (fun v1 => ?_)
    refine zi_iload_n dX11_compare_9 rfl 1 rfl ?_
    refine zi_callVI (As := [.int a1]) (rest := []) (ci := 6) dX11_compare_10 ml_X11_262 md_X6_hasLaw mv_X6_hasLaw rfl (by decide) rfl rfl (Nat.le_of_ble_eq_true rfl) (Nat.le_of_ble_eq_true rfl) (k_X6_hasLaw G n v1 a1 h) (fun r2 h3 => ?_)
    refine zi_if_ne (tgt := 18) dX11_compare_13 (by decide) ?_ ?_
    · refine zi_sub [0, 1, 2, 3] rfl ?_
      exact wb_X11_compare_18 G n a0 a1 a2 a3 h3
    · refine zi_iconst (v := (-1)) dX11_compare_16 (by decide) ?_
      exact zi_retI dX11_compare_17
set_option maxRecDepth 20000 in
set_option maxHeartbeats 1000000 in
theorem k_X10_gracesEnded (G : zG) (n : Nat) (a0 : Nat) (h : zH) : zMet G yX10_gracesEnded cX10_gracesEnded 1 (some .int) zvI 1 [.ref (zbase G + a0)] h (f_X10_gracesEnded n a0 h) := by
  refine zMet_of (l := [(0, .ref (zbase G + a0))]) (by decide) (Nat.le_of_ble_eq_true rfl) rfl ?_
  unfold f_X10_gracesEnded
  refine zi_aload_n dX10_gracesEnded_0 rfl 0 rfl ?_
  refine zi_getZ dX10_gracesEnded_1 gf_X10_35 (fun v1 => ?_)
  refine zi_if_eq (tgt := 16) dX10_gracesEnded_4 (by decide) ?_ ?_
  · refine zi_aload_n dX10_gracesEnded_16 rfl 0 rfl ?_
    refine zi_getI dX10_gracesEnded_17 gf_X10_39 (fun v2 => ?_)
    exact zi_retI dX10_gracesEnded_20
  · refine zi_aload_n dX10_gracesEnded_7 rfl 0 rfl ?_
    refine zi_getI dX10_gracesEnded_8 gf_X10_39 (fun v3 => ?_)
    refine zi_iconst (v := 1) dX10_gracesEnded_11 (by decide) ?_
    refine zi_isub dX10_gracesEnded_12 ?_
    refine zi_goto (tgt := 20) dX10_gracesEnded_13 (by decide) ?_
    exact zi_retI dX10_gracesEnded_20
set_option maxRecDepth 20000 in
set_option maxHeartbeats 1000000 in
theorem k_X11_drawAfter (G : zG) (n : Nat) (a0 : Int32) (h : zH) : zMet G yX11_drawAfter cX11_drawAfter 1 (some .int) zvI 1 [.int a0] h (f_X11_drawAfter n a0 h) := by
  refine zMet_of (l := [(0, .int a0)]) (by decide) (Nat.le_of_ble_eq_true rfl) rfl ?_
  unfold f_X11_drawAfter
  refine zi_iload_n dX11_drawAfter_0 rfl 0 rfl ?_
  refine zi_i2l dX11_drawAfter_1 ?_
  refine zi_ldc2 dX11_drawAfter_2 kl_X11_413 ?_
  refine zi_lmul dX11_drawAfter_5 ?_
  refine zi_ldc2 dX11_drawAfter_6 kl_X11_415 ?_
  refine zi_ladd dX11_drawAfter_9 ?_
  refine zi_ldc2 dX11_drawAfter_10 kl_X11_417 ?_
  refine zi_lrem dX11_drawAfter_13 (by decide) ?_
  refine zi_l2i dX11_drawAfter_14 ?_
  exact zi_retI dX11_drawAfter_15
