set_option maxRecDepth 20000 in
set_option maxHeartbeats 1000000 in
theorem k_X0_init (G : zG) (n : Nat) (a0 : Nat) (h : zH) : zMet G yX0_init cX0_init 1 none zvU 2 [.ref (zbase G + a0)] h (f_X0_init n a0 h) := by
  refine zMet_of (l := [(0, .ref (zbase G + a0))]) (by decide) (Nat.le_of_ble_eq_true rfl) rfl ?_
  unfold f_X0_init
  refine zi_aload_n dX0_init_0 rfl 0 rfl ?_
  refine zi_objInit dX0_init_1 ml_X0_3 oi_inst oi_code (Nat.le_of_ble_eq_true rfl) (Nat.le_of_ble_eq_true rfl) ?_
  refine zi_aload_n dX0_init_4 rfl 0 rfl ?_
  refine zi_bipush (v := 24) dX0_init_5 (by decide) ?_
  refine zi_newaI dX0_init_7 (fun r1 h2 _ => ?_) ac_int
  refine zi_putQF dX0_init_9 gf_X0_9 rfl rfl (fun h3 => ?_)
  refine zi_aload_n dX0_init_12 rfl 0 rfl ?_
  refine zi_bipush (v := 24) dX0_init_13 (by decide) ?_
  refine zi_newaI dX0_init_15 (fun r4 h5 _ => ?_) ac_int
  refine zi_putQF dX0_init_17 gf_X0_15 rfl rfl (fun h6 => ?_)
  refine zi_aload_n dX0_init_20 rfl 0 rfl ?_
  refine zi_bipush (v := 24) dX0_init_21 (by decide) ?_
  refine zi_newaI dX0_init_23 (fun r7 h8 _ => ?_) ac_int
  refine zi_putQF dX0_init_25 gf_X0_18 rfl rfl (fun h9 => ?_)
  refine zi_aload_n dX0_init_28 rfl 0 rfl ?_
  refine zi_bipush (v := 24) dX0_init_29 (by decide) ?_
  refine zi_newaI dX0_init_31 (fun r10 h11 _ => ?_) ac_int
  refine zi_putQF dX0_init_33 gf_X0_21 rfl rfl (fun h12 => ?_)
  refine zi_aload_n dX0_init_36 rfl 0 rfl ?_
  refine zi_bipush (v := 24) dX0_init_37 (by decide) ?_
  refine zi_newaI dX0_init_39 (fun r13 h14 _ => ?_) ac_int
  refine zi_putQF dX0_init_41 gf_X0_24 rfl rfl (fun h15 => ?_)
  refine zi_aload_n dX0_init_44 rfl 0 rfl ?_
  refine zi_bipush (v := 24) dX0_init_45 (by decide) ?_
  refine zi_newaI dX0_init_47 (fun r16 h17 _ => ?_) ac_int
  refine zi_putQF dX0_init_49 gf_X0_27 rfl rfl (fun h18 => ?_)
  refine zi_aload_n dX0_init_52 rfl 0 rfl ?_
  refine zi_iconst (v := (-1)) dX0_init_53 (by decide) ?_
  refine zi_putI dX0_init_54 gf_X0_30 (fun h19 => ?_)
  refine zi_aload_n dX0_init_57 rfl 0 rfl ?_
  refine zi_iconst (v := 0) dX0_init_58 (by decide) ?_
  refine zi_putI dX0_init_59 gf_X0_34 (fun h20 => ?_)
  refine zi_aload_n dX0_init_62 rfl 0 rfl ?_
  refine zi_iconst (v := 0) dX0_init_63 (by decide) ?_
  refine zi_putI dX0_init_64 gf_X0_37 (fun h21 => ?_)
  exact zi_retV dX0_init_67
set_option maxRecDepth 20000 in
set_option maxHeartbeats 1000000 in
theorem k_X10_init (G : zG) (n : Nat) (a0 : Nat) (h : zH) : zMet G yX10_init cX10_init 1 none zvU 3 [.ref (zbase G + a0)] h (f_X10_init n a0 h) := by
  refine zMet_of (l := [(0, .ref (zbase G + a0))]) (by decide) (Nat.le_of_ble_eq_true rfl) rfl ?_
  unfold f_X10_init
  refine zi_aload_n dX10_init_0 rfl 0 rfl ?_
  refine zi_objInit dX10_init_1 ml_X10_3 oi_inst oi_code (Nat.le_of_ble_eq_true rfl) (Nat.le_of_ble_eq_true rfl) ?_
  refine zi_aload_n dX10_init_4 rfl 0 rfl ?_
  refine zi_new dX10_init_5 nw_X10_9 (fun r1 h2 _ => ?_)
  refine zi_dup dX10_init_8 rfl ?_
  refine zi_callIU (As := []) (rest := [.ref (zbase G + r1), .ref (zbase G + a0)]) dX10_init_9 ml_X10_11 md_X0_init mi_X0_init rfl rfl rfl (Nat.le_of_ble_eq_true rfl) (Nat.le_of_ble_eq_true rfl) (k_X0_init G n r1 h2) (fun _ h4 => ?_)
  refine zi_putQF dX10_init_12 gf_X10_12 rfl rfl (fun h5 => ?_)
  refine zi_aload_n dX10_init_15 rfl 0 rfl ?_
  refine zi_bipush (v := 8) dX10_init_16 (by decide) ?_
  refine zi_newaI dX10_init_18 (fun r6 h7 _ => ?_) ac_int
  refine zi_putQF dX10_init_20 gf_X10_18 rfl rfl (fun h8 => ?_)
  refine zi_aload_n dX10_init_23 rfl 0 rfl ?_
  refine zi_bipush (v := 8) dX10_init_24 (by decide) ?_
  refine zi_newaI dX10_init_26 (fun r9 h10 _ => ?_) ac_int
  refine zi_putQF dX10_init_28 gf_X10_22 rfl rfl (fun h11 => ?_)
  refine zi_aload_n dX10_init_31 rfl 0 rfl ?_
  refine zi_iconst (v := 0) dX10_init_32 (by decide) ?_
  refine zi_putI dX10_init_33 gf_X10_25 (fun h12 => ?_)
  refine zi_aload_n dX10_init_36 rfl 0 rfl ?_
  refine zi_iconst (v := 0) dX10_init_37 (by decide) ?_
  refine zi_putI dX10_init_38 gf_X10_29 (fun h13 => ?_)
  refine zi_aload_n dX10_init_41 rfl 0 rfl ?_
  refine zi_iconst (v := 0) dX10_init_42 (by decide) ?_
  refine zi_putI dX10_init_43 gf_X10_32 (fun h14 => ?_)
  refine zi_aload_n dX10_init_46 rfl 0 rfl ?_
  refine zi_iconst (v := 0) dX10_init_47 (by decide) ?_
  refine zi_putZ dX10_init_48 gf_X10_35 (fun h15 => ?_)
  refine zi_aload_n dX10_init_51 rfl 0 rfl ?_
  refine zi_iconst (v := 0) dX10_init_52 (by decide) ?_
  refine zi_putI dX10_init_53 gf_X10_39 (fun h16 => ?_)
  refine zi_aload_n dX10_init_56 rfl 0 rfl ?_
  refine zi_iconst (v := 0) dX10_init_57 (by decide) ?_
  refine zi_putI dX10_init_58 gf_X10_42 (fun h17 => ?_)
  refine zi_aload_n dX10_init_61 rfl 0 rfl ?_
  refine zi_iconst (v := 0) dX10_init_62 (by decide) ?_
  refine zi_putI dX10_init_63 gf_X10_45 (fun h18 => ?_)
  exact zi_retV dX10_init_66
set_option maxRecDepth 20000 in
set_option maxHeartbeats 1000000 in
theorem k_X4_init (G : zG) (n : Nat) (a0 : Nat) (h : zH) : zMet G yX4_init cX4_init 1 none zvU 2 [.ref (zbase G + a0)] h (f_X4_init n a0 h) := by
  refine zMet_of (l := [(0, .ref (zbase G + a0))]) (by decide) (Nat.le_of_ble_eq_true rfl) rfl ?_
  unfold f_X4_init
  refine zi_aload_n dX4_init_0 rfl 0 rfl ?_
  refine zi_objInit dX4_init_1 ml_X4_3 oi_inst oi_code (Nat.le_of_ble_eq_true rfl) (Nat.le_of_ble_eq_true rfl) ?_
  refine zi_aload_n dX4_init_4 rfl 0 rfl ?_
  refine zi_bipush (v := 113) dX4_init_5 (by decide) ?_
  refine zi_newaI dX4_init_7 (fun r1 h2 _ => ?_) ac_int
  refine zi_putQF dX4_init_9 gf_X4_11 rfl rfl (fun h3 => ?_)
  refine zi_aload_n dX4_init_12 rfl 0 rfl ?_
  refine zi_bipush (v := 64) dX4_init_13 (by decide) ?_
  refine zi_newaL dX4_init_15 (fun r4 h5 _ => ?_) ac_long
  refine zi_putQF dX4_init_17 gf_X4_17 rfl rfl (fun h6 => ?_)
  refine zi_aload_n dX4_init_20 rfl 0 rfl ?_
  refine zi_lconst (v := 0) dX4_init_21 (by decide) ?_
  refine zi_putL dX4_init_22 gf_X4_21 (fun h7 => ?_)
  exact zi_retV dX4_init_25
set_option maxRecDepth 20000 in
set_option maxHeartbeats 1000000 in
theorem k_X6_init (G : zG) (n : Nat) (a0 : Nat) (a1 : Nat) (h : zH) : zMet G yX6_init cX6_init 2 none zvU 2 [.ref (zbase G + a0), .ref (zbase G + a1)] h (f_X6_init n a0 a1 h) := by
  refine zMet_of (l := [(0, .ref (zbase G + a0)), (1, .ref (zbase G + a1))]) (by decide) (Nat.le_of_ble_eq_true rfl) rfl ?_
  unfold f_X6_init
  refine zi_aload_n dX6_init_0 rfl 0 rfl ?_
  refine zi_objInit dX6_init_1 ml_X6_3 oi_inst oi_code (Nat.le_of_ble_eq_true rfl) (Nat.le_of_ble_eq_true rfl) ?_
  refine zi_aload_n dX6_init_4 rfl 0 rfl ?_
  refine zi_bipush (v := 6) dX6_init_5 (by decide) ?_
  refine zi_newT dX6_init_7 cl_X6_9 (fun r1 h2 _ => ?_)
  refine zi_putQF dX6_init_10 gf_X6_11 rfl rfl (fun h3 => ?_)
  refine zi_aload_n dX6_init_13 rfl 0 rfl ?_
  refine zi_iconst (v := 0) dX6_init_14 (by decide) ?_
  refine zi_putI dX6_init_15 gf_X6_17 (fun h4 => ?_)
  refine zi_aload_n dX6_init_18 rfl 0 rfl ?_
  refine zi_iconst (v := (-1)) dX6_init_19 (by decide) ?_
  refine zi_putI dX6_init_20 gf_X6_21 (fun h5 => ?_)
  refine zi_aload_n dX6_init_23 rfl 0 rfl ?_
  refine zi_iconst (v := 1) dX6_init_24 (by decide) ?_
  refine zi_putI dX6_init_25 gf_X6_24 (fun h6 => ?_)
  refine zi_aload_n dX6_init_28 rfl 0 rfl ?_
  refine zi_iconst (v := 0) dX6_init_29 (by decide) ?_
  refine zi_putI dX6_init_30 gf_X6_27 (fun h7 => ?_)
  refine zi_aload_n dX6_init_33 rfl 0 rfl ?_
  refine zi_aload_n dX6_init_34 rfl 1 rfl ?_
  refine zi_putQF dX6_init_35 gf_X6_30 rfl rfl (fun h8 => ?_)
  exact zi_retV dX6_init_38
set_option maxRecDepth 20000 in
set_option maxHeartbeats 1000000 in
theorem k_X1_init (G : zG) (n : Nat) (a0 : Nat) (h : zH) : zMet G yX1_init cX1_init 1 none zvU 2 [.ref (zbase G + a0)] h (f_X1_init n a0 h) := by
  refine zMet_of (l := [(0, .ref (zbase G + a0))]) (by decide) (Nat.le_of_ble_eq_true rfl) rfl ?_
  unfold f_X1_init
  refine zi_aload_n dX1_init_0 rfl 0 rfl ?_
  refine zi_objInit dX1_init_1 ml_X1_3 oi_inst oi_code (Nat.le_of_ble_eq_true rfl) (Nat.le_of_ble_eq_true rfl) ?_
  refine zi_aload_n dX1_init_4 rfl 0 rfl ?_
  refine zi_bipush (v := 6) dX1_init_5 (by decide) ?_
  refine zi_newaI dX1_init_7 (fun r1 h2 _ => ?_) ac_int
  refine zi_putQF dX1_init_9 gf_X1_9 rfl rfl (fun h3 => ?_)
  refine zi_aload_n dX1_init_12 rfl 0 rfl ?_
  refine zi_bipush (v := 6) dX1_init_13 (by decide) ?_
  refine zi_newaI dX1_init_15 (fun r4 h5 _ => ?_) ac_int
  refine zi_putQF dX1_init_17 gf_X1_15 rfl rfl (fun h6 => ?_)
  refine zi_aload_n dX1_init_20 rfl 0 rfl ?_
  refine zi_iconst (v := 0) dX1_init_21 (by decide) ?_
  refine zi_putI dX1_init_22 gf_X1_18 (fun h7 => ?_)
  exact zi_retV dX1_init_25
set_option maxRecDepth 20000 in
set_option maxHeartbeats 1000000 in
theorem wb_X2_init_33 (G : zG) (n : Nat) (k33 : Nat → Int32 → zH → Option (Unit × zH)) (hk33 : ∀ (l0 : Nat) (l1 : Int32) (h : zH), zW G yX2_init cX2_init 2 none zvU 4 33 [(0, .ref (zbase G + l0)), (1, .int l1)] [] h (k33 l0 l1 h)) (l0 : Nat) (l1 : Int32) (h : zH) : zW G yX2_init cX2_init 2 none zvU 4 33 [(0, .ref (zbase G + l0)), (1, .int l1)] [] h (fb_X2_init_33 n k33 l0 l1 h) := by
  unfold fb_X2_init_33
  refine zi_iload_n dX2_init_33 rfl 1 rfl ?_
  refine zi_bipush (v := 17) dX2_init_34 (by decide) ?_
  refine zi_icmp_ge (tgt := 58) dX2_init_36 (by decide) ?_ ?_
  · exact zi_retV dX2_init_58
  · refine zi_aload_n dX2_init_39 rfl 0 rfl ?_
    refine zi_getR dX2_init_40 gf_X2_13 (fun v1 => ?_)
    refine zi_iload_n dX2_init_43 rfl 1 rfl ?_
    refine zi_new dX2_init_44 nw_X2_11 (fun r2 h3 _ => ?_)
    refine zi_dup dX2_init_47 rfl ?_
    refine zi_callIU (As := []) (rest := [.ref (zbase G + r2), .int l1, .ref (zbase G + v1)]) dX2_init_48 ml_X2_28 md_X10_init mi_X10_init rfl rfl rfl (Nat.le_of_ble_eq_true rfl) (Nat.le_of_ble_eq_true rfl) (k_X10_init G n r2 h3) (fun _ h5 => ?_)
    refine zi_aastWn dX2_init_51 (fun h6 => ?_)
    refine zi_iinc (j := 1) (v := l1 + 1) (l' := [(1, .int (l1 + 1)), (0, .ref (zbase G + l0))]) dX2_init_52 rfl rfl (by decide) rfl ?_
    refine zi_goto (tgt := 33) dX2_init_55 (by decide) ?_
    refine zi_sub [1, 0] rfl ?_
    exact hk33 l0 (l1 + 1) h6
theorem wl_X2_init_33 (G : zG) (n : Nat) : ∀ (t : Nat) (l0 : Nat) (l1 : Int32) (h : zH), zW G yX2_init cX2_init 2 none zvU 4 33 [(0, .ref (zbase G + l0)), (1, .int l1)] [] h (zlp2 (fb_X2_init_33 n ) t l0 l1 h) := by
  intro t
  induction t with
  | zero => intros; exact zW_none
  | succ t ih => intro l0 l1 h; rw [zlp2_s]; exact wb_X2_init_33 G n  _  ih l0 l1 h
set_option maxRecDepth 20000 in
set_option maxHeartbeats 1000000 in
theorem k_X2_init (G : zG) (n : Nat) (a0 : Nat) (h : zH) : zMet G yX2_init cX2_init 2 none zvU 4 [.ref (zbase G + a0)] h (f_X2_init n a0 h) := by
  refine zMet_of (l := [(0, .ref (zbase G + a0))]) (by decide) (Nat.le_of_ble_eq_true rfl) rfl ?_
  unfold f_X2_init
  refine zi_aload_n dX2_init_0 rfl 0 rfl ?_
  refine zi_objInit dX2_init_1 ml_X2_3 oi_inst oi_code (Nat.le_of_ble_eq_true rfl) (Nat.le_of_ble_eq_true rfl) ?_
  refine zi_aload_n dX2_init_4 rfl 0 rfl ?_
  refine zi_bipush (v := 17) dX2_init_5 (by decide) ?_
  refine zi_newW dX2_init_7 cl_X2_11 (fun r1 h2 _ => ?_)
  refine zi_putQF dX2_init_10 gf_X2_13 rfl rfl (fun h3 => ?_)
  refine zi_aload_n dX2_init_13 rfl 0 rfl ?_
  refine zi_bipush (v := 17) dX2_init_14 (by decide) ?_
  refine zi_newaI dX2_init_16 (fun r4 h5 _ => ?_) ac_int
  refine zi_putQF dX2_init_18 gf_X2_17 rfl rfl (fun h6 => ?_)
  refine zi_aload_n dX2_init_21 rfl 0 rfl ?_
  refine zi_iconst (v := 0) dX2_init_22 (by decide) ?_
  refine zi_putI dX2_init_23 gf_X2_21 (fun h7 => ?_)
  refine zi_aload_n dX2_init_26 rfl 0 rfl ?_
  refine zi_iconst (v := 0) dX2_init_27 (by decide) ?_
  refine zi_putI dX2_init_28 gf_X2_25 (fun h8 => ?_)
  refine zi_iconst (v := 0) dX2_init_31 (by decide) ?_
  refine zi_istore_n (l' := [(1, .int 0), (0, .ref (zbase G + a0))]) dX2_init_32 rfl (by decide) rfl ?_
  refine zi_sub [1, 0] rfl ?_
  exact wl_X2_init_33 G n n a0 0 h8
set_option maxRecDepth 20000 in
set_option maxHeartbeats 1000000 in
theorem k_X3_init (G : zG) (n : Nat) (a0 : Nat) (a1 : Nat) (h : zH) : zMet G yX3_init cX3_init 2 none zvU 4 [.ref (zbase G + a0), .ref (zbase G + a1)] h (f_X3_init n a0 a1 h) := by
  refine zMet_of (l := [(0, .ref (zbase G + a0)), (1, .ref (zbase G + a1))]) (by decide) (Nat.le_of_ble_eq_true rfl) rfl ?_
  unfold f_X3_init
  refine zi_aload_n dX3_init_0 rfl 0 rfl ?_
  refine zi_objInit dX3_init_1 ml_X3_1 oi_inst oi_code (Nat.le_of_ble_eq_true rfl) (Nat.le_of_ble_eq_true rfl) ?_
  refine zi_aload_n dX3_init_4 rfl 0 rfl ?_
  refine zi_new dX3_init_5 nw_X3_7 (fun r1 h2 _ => ?_)
  refine zi_dup dX3_init_8 rfl ?_
  refine zi_callIU (As := []) (rest := [.ref (zbase G + r1), .ref (zbase G + a0)]) dX3_init_9 ml_X3_9 md_X10_init mi_X10_init rfl rfl rfl (Nat.le_of_ble_eq_true rfl) (Nat.le_of_ble_eq_true rfl) (k_X10_init G n r1 h2) (fun _ h4 => ?_)
  refine zi_putQF dX3_init_12 gf_X3_10 rfl rfl (fun h5 => ?_)
  refine zi_aload_n dX3_init_15 rfl 0 rfl ?_
  refine zi_new dX3_init_16 nw_X3_16 (fun r6 h7 _ => ?_)
  refine zi_dup dX3_init_19 rfl ?_
  refine zi_callIU (As := []) (rest := [.ref (zbase G + r6), .ref (zbase G + a0)]) dX3_init_20 ml_X3_18 md_X1_init mi_X1_init rfl rfl rfl (Nat.le_of_ble_eq_true rfl) (Nat.le_of_ble_eq_true rfl) (k_X1_init G n r6 h7) (fun _ h9 => ?_)
  refine zi_putQF dX3_init_23 gf_X3_19 rfl rfl (fun h10 => ?_)
  refine zi_aload_n dX3_init_26 rfl 0 rfl ?_
  refine zi_iconst (v := 0) dX3_init_27 (by decide) ?_
  refine zi_putZ dX3_init_28 gf_X3_23 (fun h11 => ?_)
  refine zi_aload_n dX3_init_31 rfl 0 rfl ?_
  refine zi_new dX3_init_32 nw_X3_27 (fun r12 h13 _ => ?_)
  refine zi_dup dX3_init_35 rfl ?_
  refine zi_aload_n dX3_init_36 rfl 1 rfl ?_
  refine zi_callIU (As := [.ref (zbase G + a1)]) (rest := [.ref (zbase G + r12), .ref (zbase G + a0)]) dX3_init_37 ml_X3_29 md_X6_init mi_X6_init rfl rfl rfl (Nat.le_of_ble_eq_true rfl) (Nat.le_of_ble_eq_true rfl) (k_X6_init G n r12 a1 h13) (fun _ h15 => ?_)
  refine zi_putQF dX3_init_40 gf_X3_32 rfl rfl (fun h16 => ?_)
  exact zi_retV dX3_init_43
set_option maxRecDepth 20000 in
set_option maxHeartbeats 1000000 in
theorem k_X7_init (G : zG) (n : Nat) (a0 : Nat) (h : zH) : zMet G yX7_init cX7_init 1 none zvU 2 [.ref (zbase G + a0)] h (f_X7_init n a0 h) := by
  refine zMet_of (l := [(0, .ref (zbase G + a0))]) (by decide) (Nat.le_of_ble_eq_true rfl) rfl ?_
  unfold f_X7_init
  refine zi_aload_n dX7_init_0 rfl 0 rfl ?_
  refine zi_objInit dX7_init_1 ml_X7_3 oi_inst oi_code (Nat.le_of_ble_eq_true rfl) (Nat.le_of_ble_eq_true rfl) ?_
  refine zi_aload_n dX7_init_4 rfl 0 rfl ?_
  refine zi_sipush (v := 400) dX7_init_5 (by decide) ?_
  refine zi_newaI dX7_init_8 (fun r1 h2 _ => ?_) ac_int
  refine zi_putQF dX7_init_10 gf_X7_9 rfl rfl (fun h3 => ?_)
  refine zi_aload_n dX7_init_13 rfl 0 rfl ?_
  refine zi_iconst (v := 0) dX7_init_14 (by decide) ?_
  refine zi_putI dX7_init_15 gf_X7_15 (fun h4 => ?_)
  exact zi_retV dX7_init_18
set_option maxRecDepth 20000 in
set_option maxHeartbeats 1000000 in
theorem k_J9_max_7cf53 (G : zG) (n : Nat) (a0 : Int32) (a1 : Int32) (h : zH) : zMet G yJ9_max_7cf53 cJ9_max_7cf53 2 (some .int) zvI 1 [.int a0, .int a1] h (f_J9_max_7cf53 n a0 a1 h) := by
  refine zMet_ofF (l := [(0, .int a0), (1, .int a1)]) (by decide +kernel) (Nat.le_of_ble_eq_true rfl) rfl ?_
  unfold f_J9_max_7cf53
  refine zi_iload_n dJ9_max_7cf53_0 rfl 0 rfl ?_
  refine zi_iload_n dJ9_max_7cf53_1 rfl 1 rfl ?_
  refine zi_icmp_lt (tgt := 9) dJ9_max_7cf53_2 (by decide) ?_ ?_
  · refine zi_iload_n dJ9_max_7cf53_9 rfl 1 rfl ?_
    exact zi_retI dJ9_max_7cf53_10
  · refine zi_iload_n dJ9_max_7cf53_5 rfl 0 rfl ?_
    refine zi_goto (tgt := 10) dJ9_max_7cf53_6 (by decide) ?_
    exact zi_retI dJ9_max_7cf53_10
set_option maxRecDepth 20000 in
set_option maxHeartbeats 1000000 in
theorem k_X8_init (G : zG) (n : Nat) (a0 : Nat) (a1 : Int32) (a2 : Int32) (h : zH) : zMet G yX8_init cX8_init 3 none zvU 2 [.ref (zbase G + a0), .int a1, .int a2] h (f_X8_init n a0 a1 a2 h) := by
  refine zMet_of (l := [(0, .ref (zbase G + a0)), (1, .int a1), (2, .int a2)]) (by decide) (Nat.le_of_ble_eq_true rfl) rfl ?_
  unfold f_X8_init
  refine zi_aload_n dX8_init_0 rfl 0 rfl ?_
  refine zi_objInit dX8_init_1 ml_X8_3 oi_inst oi_code (Nat.le_of_ble_eq_true rfl) (Nat.le_of_ble_eq_true rfl) ?_
  refine zi_aload_n dX8_init_4 rfl 0 rfl ?_
  refine zi_iconst (v := 0) dX8_init_5 (by decide) ?_
  refine zi_putI dX8_init_6 gf_X8_9 (fun h1 => ?_)
  refine zi_aload_n dX8_init_9 rfl 0 rfl ?_
  refine zi_iconst (v := 0) dX8_init_10 (by decide) ?_
  refine zi_putI dX8_init_11 gf_X8_15 (fun h2 => ?_)
  refine zi_aload_n dX8_init_14 rfl 0 rfl ?_
  refine zi_iload_n dX8_init_15 rfl 1 rfl ?_
  refine zi_iconst (v := 0) dX8_init_16 (by decide) ?_
  refine zi_callSI (As := [.int a1, .int 0]) (rest := [.ref (zbase G + a0)]) dX8_init_17 ml_X8_18 md_J9_max_7cf53 ms_J9_max_7cf53 rfl rfl (Nat.le_of_ble_eq_true rfl) (Nat.le_of_ble_eq_true rfl) (k_J9_max_7cf53 G n a1 0 h2) (fun r3 h4 => ?_)
  refine zi_newaI dX8_init_20 (fun r5 h6 _ => ?_) ac_int
  refine zi_putQF dX8_init_22 gf_X8_24 rfl rfl (fun h7 => ?_)
  refine zi_aload_n dX8_init_25 rfl 0 rfl ?_
  refine zi_iload_n dX8_init_26 rfl 1 rfl ?_
  refine zi_iconst (v := 0) dX8_init_27 (by decide) ?_
  refine zi_callSI (As := [.int a1, .int 0]) (rest := [.ref (zbase G + a0)]) dX8_init_28 ml_X8_18 md_J9_max_7cf53 ms_J9_max_7cf53 rfl rfl (Nat.le_of_ble_eq_true rfl) (Nat.le_of_ble_eq_true rfl) (k_J9_max_7cf53 G n a1 0 h7) (fun r8 h9 => ?_)
  refine zi_newaI dX8_init_31 (fun r10 h11 _ => ?_) ac_int
  refine zi_putQF dX8_init_33 gf_X8_28 rfl rfl (fun h12 => ?_)
  refine zi_aload_n dX8_init_36 rfl 0 rfl ?_
  refine zi_iconst (v := 5) dX8_init_37 (by decide) ?_
  refine zi_iload_n dX8_init_38 rfl 2 rfl ?_
  refine zi_iconst (v := 0) dX8_init_39 (by decide) ?_
  refine zi_callSI (As := [.int a2, .int 0]) (rest := [.int 5, .ref (zbase G + a0)]) dX8_init_40 ml_X8_18 md_J9_max_7cf53 ms_J9_max_7cf53 rfl rfl (Nat.le_of_ble_eq_true rfl) (Nat.le_of_ble_eq_true rfl) (k_J9_max_7cf53 G n a2 0 h12) (fun r13 h14 => ?_)
  refine zi_imul dX8_init_43 ?_
  refine zi_newaI dX8_init_44 (fun r15 h16 _ => ?_) ac_int
  refine zi_putQF dX8_init_46 gf_X8_31 rfl rfl (fun h17 => ?_)
  exact zi_retV dX8_init_49
set_option maxRecDepth 20000 in
set_option maxHeartbeats 1000000 in
theorem k_X9_init (G : zG) (n : Nat) (a0 : Nat) (h : zH) : zMet G yX9_init cX9_init 1 none zvU 2 [.ref (zbase G + a0)] h (f_X9_init n a0 h) := by
  refine zMet_of (l := [(0, .ref (zbase G + a0))]) (by decide) (Nat.le_of_ble_eq_true rfl) rfl ?_
  unfold f_X9_init
  refine zi_aload_n dX9_init_0 rfl 0 rfl ?_
  refine zi_objInit dX9_init_1 ml_X9_3 oi_inst oi_code (Nat.le_of_ble_eq_true rfl) (Nat.le_of_ble_eq_true rfl) ?_
  refine zi_aload_n dX9_init_4 rfl 0 rfl ?_
  refine zi_sipush (v := 401) dX9_init_5 (by decide) ?_
  refine zi_newaI dX9_init_8 (fun r1 h2 _ => ?_) ac_int
  refine zi_putQF dX9_init_10 gf_X9_11 rfl rfl (fun h3 => ?_)
  refine zi_aload_n dX9_init_13 rfl 0 rfl ?_
  refine zi_sipush (v := 401) dX9_init_14 (by decide) ?_
  refine zi_newaI dX9_init_17 (fun r4 h5 _ => ?_) ac_int
  refine zi_putQF dX9_init_19 gf_X9_15 rfl rfl (fun h6 => ?_)
  refine zi_aload_n dX9_init_22 rfl 0 rfl ?_
  refine zi_sipush (v := 401) dX9_init_23 (by decide) ?_
  refine zi_newaI dX9_init_26 (fun r7 h8 _ => ?_) ac_int
  refine zi_putQF dX9_init_28 gf_X9_18 rfl rfl (fun h9 => ?_)
  refine zi_aload_n dX9_init_31 rfl 0 rfl ?_
  refine zi_iconst (v := 0) dX9_init_32 (by decide) ?_
  refine zi_putI dX9_init_33 gf_X9_21 (fun h10 => ?_)
  exact zi_retV dX9_init_36
set_option maxRecDepth 20000 in
set_option maxHeartbeats 1000000 in
theorem k_X5_init (G : zG) (n : Nat) (a0 : Nat) (h : zH) : zMet G yX5_init cX5_init 1 none zvU 3 [.ref (zbase G + a0)] h (f_X5_init n a0 h) := by
  refine zMet_of (l := [(0, .ref (zbase G + a0))]) (by decide) (Nat.le_of_ble_eq_true rfl) rfl ?_
  unfold f_X5_init
  refine zi_aload_n dX5_init_0 rfl 0 rfl ?_
  refine zi_objInit dX5_init_1 ml_X5_5 oi_inst oi_code (Nat.le_of_ble_eq_true rfl) (Nat.le_of_ble_eq_true rfl) ?_
  refine zi_aload_n dX5_init_4 rfl 0 rfl ?_
  refine zi_new dX5_init_5 nw_X5_11 (fun r1 h2 _ => ?_)
  refine zi_dup dX5_init_8 rfl ?_
  refine zi_sipush (v := 400) dX5_init_9 (by decide) ?_
  refine zi_bipush (v := 12) dX5_init_12 (by decide) ?_
  refine zi_callIU (As := [.int 400, .int 12]) (rest := [.ref (zbase G + r1), .ref (zbase G + a0)]) dX5_init_14 ml_X5_13 md_X8_init mi_X8_init rfl rfl rfl (Nat.le_of_ble_eq_true rfl) (Nat.le_of_ble_eq_true rfl) (k_X8_init G n r1 400 12 h2) (fun _ h4 => ?_)
  refine zi_putQF dX5_init_17 gf_X5_16 rfl rfl (fun h5 => ?_)
  refine zi_aload_n dX5_init_20 rfl 0 rfl ?_
  refine zi_new dX5_init_21 nw_X5_20 (fun r6 h7 _ => ?_)
  refine zi_dup dX5_init_24 rfl ?_
  refine zi_callIU (As := []) (rest := [.ref (zbase G + r6), .ref (zbase G + a0)]) dX5_init_25 ml_X5_22 md_X9_init mi_X9_init rfl rfl rfl (Nat.le_of_ble_eq_true rfl) (Nat.le_of_ble_eq_true rfl) (k_X9_init G n r6 h7) (fun _ h9 => ?_)
  refine zi_putQF dX5_init_28 gf_X5_23 rfl rfl (fun h10 => ?_)
  refine zi_aload_n dX5_init_31 rfl 0 rfl ?_
  refine zi_iconst (v := 0) dX5_init_32 (by decide) ?_
  refine zi_putI dX5_init_33 gf_X5_27 (fun h11 => ?_)
  refine zi_aload_n dX5_init_36 rfl 0 rfl ?_
  refine zi_iconst (v := 0) dX5_init_37 (by decide) ?_
  refine zi_putI dX5_init_38 gf_X5_31 (fun h12 => ?_)
  refine zi_aload_n dX5_init_41 rfl 0 rfl ?_
  refine zi_iconst (v := (-1)) dX5_init_42 (by decide) ?_
  refine zi_putI dX5_init_43 gf_X5_34 (fun h13 => ?_)
  exact zi_retV dX5_init_46
set_option maxRecDepth 20000 in
set_option maxHeartbeats 1000000 in
theorem wb_J7_fill_53178_5 (G : zG) (n : Nat) (k5 : Nat → Int32 → Int32 → Int32 → zH → Option (Unit × zH)) (hk5 : ∀ (l0 : Nat) (l1 : Int32) (l2 : Int32) (l3 : Int32) (h : zH), zW G yJ7_fill_53178 cJ7_fill_53178 4 none zvU 1 5 [(0, .ref (zbase G + l0)), (1, .int l1), (2, .int l2), (3, .int l3)] [] h (k5 l0 l1 l2 l3 h)) (l0 : Nat) (l1 : Int32) (l2 : Int32) (l3 : Int32) (h : zH) : zW G yJ7_fill_53178 cJ7_fill_53178 4 none zvU 1 5 [(0, .ref (zbase G + l0)), (1, .int l1), (2, .int l2), (3, .int l3)] [] h (fb_J7_fill_53178_5 n k5 l0 l1 l2 l3 h) := by
  unfold fb_J7_fill_53178_5
  refine zi_iload_n dJ7_fill_53178_5 rfl 2 rfl ?_
  refine zi_iload_n dJ7_fill_53178_6 rfl 3 rfl ?_
  refine zi_icmp_ge (tgt := 20) dJ7_fill_53178_7 (by decide) ?_ ?_
  · exact zi_retV dJ7_fill_53178_20
  · refine zi_aload_n dJ7_fill_53178_10 rfl 0 rfl ?_
    refine zi_iload_n dJ7_fill_53178_11 rfl 2 rfl ?_
    refine zi_iload_n dJ7_fill_53178_12 rfl 1 rfl ?_
    refine zi_iast dJ7_fill_53178_13 (fun h1 => ?_)
    refine zi_iinc (j := 2) (v := l2 + 1) (l' := [(2, .int (l2 + 1)), (0, .ref (zbase G + l0)), (1, .int l1), (3, .int l3)]) dJ7_fill_53178_14 rfl rfl (by decide) rfl ?_
    refine zi_goto (tgt := 5) dJ7_fill_53178_17 (by decide) ?_
    refine zi_sub [1, 2, 0, 3] rfl ?_
    exact hk5 l0 l1 (l2 + 1) l3 h1
theorem wl_J7_fill_53178_5 (G : zG) (n : Nat) : ∀ (t : Nat) (l0 : Nat) (l1 : Int32) (l2 : Int32) (l3 : Int32) (h : zH), zW G yJ7_fill_53178 cJ7_fill_53178 4 none zvU 1 5 [(0, .ref (zbase G + l0)), (1, .int l1), (2, .int l2), (3, .int l3)] [] h (zlp4 (fb_J7_fill_53178_5 n ) t l0 l1 l2 l3 h) := by
  intro t
  induction t with
  | zero => intros; exact zW_none
  | succ t ih => intro l0 l1 l2 l3 h; rw [zlp4_s]; exact wb_J7_fill_53178_5 G n  _  ih l0 l1 l2 l3 h
set_option maxRecDepth 20000 in
set_option maxHeartbeats 1000000 in
theorem k_J7_fill_53178 (G : zG) (n : Nat) (a0 : Nat) (a1 : Int32) (h : zH) : zMet G yJ7_fill_53178 cJ7_fill_53178 4 none zvU 1 [.ref (zbase G + a0), .int a1] h (f_J7_fill_53178 n a0 a1 h) := by
  refine zMet_ofF (l := [(0, .ref (zbase G + a0)), (1, .int a1)]) (by decide +kernel) (Nat.le_of_ble_eq_true rfl) rfl ?_
  unfold f_J7_fill_53178
  refine zi_iconst (v := 0) dJ7_fill_53178_0 (by decide) ?_
  refine zi_istore_n (l' := [(2, .int 0), (0, .ref (zbase G + a0)), (1, .int a1)]) dJ7_fill_53178_1 rfl (by decide) rfl ?_
  refine zi_aload_n dJ7_fill_53178_2 rfl 1 rfl ?_
  refine zi_alen (Or.inl rfl) dJ7_fill_53178_3 (fun v1 => ?_)
  refine zi_istore_n (l' := [(3, .int v1), (2, .int 0), (0, .ref (zbase G + a0)), (1, .int a1)]) dJ7_fill_53178_4 rfl (by decide) rfl ?_
  refine zi_sub [2, 3, 1, 0] rfl ?_
  exact wl_J7_fill_53178_5 G n n a0 a1 0 v1 h
set_option maxRecDepth 20000 in
set_option maxHeartbeats 1000000 in
theorem k_X11_init (G : zG) (n : Nat) (a0 : Nat) (h : zH) : zMet G yX11_init cX11_init 1 none zvU 5 [.ref (zbase G + a0)] h (f_X11_init n a0 h) := by
  refine zMet_of (l := [(0, .ref (zbase G + a0))]) (by decide) (Nat.le_of_ble_eq_true rfl) rfl ?_
  unfold f_X11_init
  refine zi_aload_n dX11_init_0 rfl 0 rfl ?_
  refine zi_objInit dX11_init_1 ml_X11_1 oi_inst oi_code (Nat.le_of_ble_eq_true rfl) (Nat.le_of_ble_eq_true rfl) ?_
  refine zi_aload_n dX11_init_4 rfl 0 rfl ?_
  refine zi_new dX11_init_5 nw_X11_7 (fun r1 h2 _ => ?_)
  refine zi_dup dX11_init_8 rfl ?_
  refine zi_callIU (As := []) (rest := [.ref (zbase G + r1), .ref (zbase G + a0)]) dX11_init_9 ml_X11_9 md_X10_init mi_X10_init rfl rfl rfl (Nat.le_of_ble_eq_true rfl) (Nat.le_of_ble_eq_true rfl) (k_X10_init G n r1 h2) (fun _ h4 => ?_)
  refine zi_putQF dX11_init_12 gf_X11_10 rfl rfl (fun h5 => ?_)
  refine zi_aload_n dX11_init_15 rfl 0 rfl ?_
  refine zi_new dX11_init_16 nw_X11_7 (fun r6 h7 _ => ?_)
  refine zi_dup dX11_init_19 rfl ?_
  refine zi_callIU (As := []) (rest := [.ref (zbase G + r6), .ref (zbase G + a0)]) dX11_init_20 ml_X11_9 md_X10_init mi_X10_init rfl rfl rfl (Nat.le_of_ble_eq_true rfl) (Nat.le_of_ble_eq_true rfl) (k_X10_init G n r6 h7) (fun _ h9 => ?_)
  refine zi_putQF dX11_init_23 gf_X11_16 rfl rfl (fun h10 => ?_)
  refine zi_aload_n dX11_init_26 rfl 0 rfl ?_
  refine zi_new dX11_init_27 nw_X11_19 (fun r11 h12 _ => ?_)
  refine zi_dup dX11_init_30 rfl ?_
  refine zi_callIU (As := []) (rest := [.ref (zbase G + r11), .ref (zbase G + a0)]) dX11_init_31 ml_X11_21 md_X4_init mi_X4_init rfl rfl rfl (Nat.le_of_ble_eq_true rfl) (Nat.le_of_ble_eq_true rfl) (k_X4_init G n r11 h12) (fun _ h14 => ?_)
  refine zi_putQF dX11_init_34 gf_X11_22 rfl rfl (fun h15 => ?_)
  refine zi_aload_n dX11_init_37 rfl 0 rfl ?_
  refine zi_new dX11_init_38 nw_X11_26 (fun r16 h17 _ => ?_)
  refine zi_dup dX11_init_41 rfl ?_
  refine zi_aload_n dX11_init_42 rfl 0 rfl ?_
  refine zi_getR dX11_init_43 gf_X11_22 (fun v18 => ?_)
  refine zi_callIU (As := [.ref (zbase G + v18)]) (rest := [.ref (zbase G + r16), .ref (zbase G + a0)]) dX11_init_46 ml_X11_28 md_X6_init mi_X6_init rfl rfl rfl (Nat.le_of_ble_eq_true rfl) (Nat.le_of_ble_eq_true rfl) (k_X6_init G n r16 v18 h17) (fun _ h20 => ?_)
  refine zi_putQF dX11_init_49 gf_X11_31 rfl rfl (fun h21 => ?_)
  refine zi_aload_n dX11_init_52 rfl 0 rfl ?_
  refine zi_new dX11_init_53 nw_X11_35 (fun r22 h23 _ => ?_)
  refine zi_dup dX11_init_56 rfl ?_
  refine zi_callIU (As := []) (rest := [.ref (zbase G + r22), .ref (zbase G + a0)]) dX11_init_57 ml_X11_37 md_X1_init mi_X1_init rfl rfl rfl (Nat.le_of_ble_eq_true rfl) (Nat.le_of_ble_eq_true rfl) (k_X1_init G n r22 h23) (fun _ h25 => ?_)
  refine zi_putQF dX11_init_60 gf_X11_38 rfl rfl (fun h26 => ?_)
  refine zi_aload_n dX11_init_63 rfl 0 rfl ?_
  refine zi_new dX11_init_64 nw_X11_42 (fun r27 h28 _ => ?_)
  refine zi_dup dX11_init_67 rfl ?_
  refine zi_callIU (As := []) (rest := [.ref (zbase G + r27), .ref (zbase G + a0)]) dX11_init_68 ml_X11_44 md_X2_init mi_X2_init rfl rfl rfl (Nat.le_of_ble_eq_true rfl) (Nat.le_of_ble_eq_true rfl) (k_X2_init G n r27 h28) (fun _ h30 => ?_)
  refine zi_putQF dX11_init_71 gf_X11_45 rfl rfl (fun h31 => ?_)
  refine zi_aload_n dX11_init_74 rfl 0 rfl ?_
  refine zi_new dX11_init_75 nw_X11_42 (fun r32 h33 _ => ?_)
  refine zi_dup dX11_init_78 rfl ?_
  refine zi_callIU (As := []) (rest := [.ref (zbase G + r32), .ref (zbase G + a0)]) dX11_init_79 ml_X11_44 md_X2_init mi_X2_init rfl rfl rfl (Nat.le_of_ble_eq_true rfl) (Nat.le_of_ble_eq_true rfl) (k_X2_init G n r32 h33) (fun _ h35 => ?_)
  refine zi_putQF dX11_init_82 gf_X11_49 rfl rfl (fun h36 => ?_)
  refine zi_aload_n dX11_init_85 rfl 0 rfl ?_
  refine zi_new dX11_init_86 nw_X11_52 (fun r37 h38 _ => ?_)
  refine zi_dup dX11_init_89 rfl ?_
  refine zi_aload_n dX11_init_90 rfl 0 rfl ?_
  refine zi_getR dX11_init_91 gf_X11_22 (fun v39 => ?_)
  refine zi_callIU (As := [.ref (zbase G + v39)]) (rest := [.ref (zbase G + r37), .ref (zbase G + a0)]) dX11_init_94 ml_X11_54 md_X3_init mi_X3_init rfl rfl rfl (Nat.le_of_ble_eq_true rfl) (Nat.le_of_ble_eq_true rfl) (k_X3_init G n r37 v39 h38) (fun _ h41 => ?_)
  refine zi_putQF dX11_init_97 gf_X11_55 rfl rfl (fun h42 => ?_)
  refine zi_aload_n dX11_init_100 rfl 0 rfl ?_
  refine zi_new dX11_init_101 nw_X11_52 (fun r43 h44 _ => ?_)
  refine zi_dup dX11_init_104 rfl ?_
  refine zi_aload_n dX11_init_105 rfl 0 rfl ?_
  refine zi_getR dX11_init_106 gf_X11_22 (fun v45 => ?_)
  refine zi_callIU (As := [.ref (zbase G + v45)]) (rest := [.ref (zbase G + r43), .ref (zbase G + a0)]) dX11_init_109 ml_X11_54 md_X3_init mi_X3_init rfl rfl rfl (Nat.le_of_ble_eq_true rfl) (Nat.le_of_ble_eq_true rfl) (k_X3_init G n r43 v45 h44) (fun _ h47 => ?_)
  refine zi_putQF dX11_init_112 gf_X11_59 rfl rfl (fun h48 => ?_)
  refine zi_aload_n dX11_init_115 rfl 0 rfl ?_
  refine zi_new dX11_init_116 nw_X11_62 (fun r49 h50 _ => ?_)
  refine zi_dup dX11_init_119 rfl ?_
  refine zi_callIU (As := []) (rest := [.ref (zbase G + r49), .ref (zbase G + a0)]) dX11_init_120 ml_X11_64 md_X7_init mi_X7_init rfl rfl rfl (Nat.le_of_ble_eq_true rfl) (Nat.le_of_ble_eq_true rfl) (k_X7_init G n r49 h50) (fun _ h52 => ?_)
  refine zi_putQF dX11_init_123 gf_X11_65 rfl rfl (fun h53 => ?_)
  refine zi_aload_n dX11_init_126 rfl 0 rfl ?_
  refine zi_new dX11_init_127 nw_X11_69 (fun r54 h55 _ => ?_)
  refine zi_dup dX11_init_130 rfl ?_
  refine zi_callIU (As := []) (rest := [.ref (zbase G + r54), .ref (zbase G + a0)]) dX11_init_131 ml_X11_71 md_X5_init mi_X5_init rfl rfl rfl (Nat.le_of_ble_eq_true rfl) (Nat.le_of_ble_eq_true rfl) (k_X5_init G n r54 h55) (fun _ h57 => ?_)
  refine zi_putQF dX11_init_134 gf_X11_72 rfl rfl (fun h58 => ?_)
  refine zi_aload_n dX11_init_137 rfl 0 rfl ?_
  refine zi_iconst (v := 5) dX11_init_138 (by decide) ?_
  refine zi_newaI dX11_init_139 (fun r59 h60 _ => ?_) ac_int
  refine zi_putQF dX11_init_141 gf_X11_76 rfl rfl (fun h61 => ?_)
  refine zi_aload_n dX11_init_144 rfl 0 rfl ?_
  refine zi_bipush (v := 24) dX11_init_145 (by decide) ?_
  refine zi_newaI dX11_init_147 (fun r62 h63 _ => ?_) ac_int
  refine zi_putQF dX11_init_149 gf_X11_80 rfl rfl (fun h64 => ?_)
  refine zi_aload_n dX11_init_152 rfl 0 rfl ?_
  refine zi_bipush (v := 20) dX11_init_153 (by decide) ?_
  refine zi_newaL dX11_init_155 (fun r65 h66 _ => ?_) ac_long
  refine zi_putQF dX11_init_157 gf_X11_83 rfl rfl (fun h67 => ?_)
  refine zi_aload_n dX11_init_160 rfl 0 rfl ?_
  refine zi_iconst (v := 0) dX11_init_161 (by decide) ?_
  refine zi_putI dX11_init_162 gf_X11_87 (fun h68 => ?_)
  refine zi_aload_n dX11_init_165 rfl 0 rfl ?_
  refine zi_iconst (v := (-1)) dX11_init_166 (by decide) ?_
  refine zi_putI dX11_init_167 gf_X11_91 (fun h69 => ?_)
  refine zi_aload_n dX11_init_170 rfl 0 rfl ?_
  refine zi_iconst (v := (-1)) dX11_init_171 (by decide) ?_
  refine zi_putI dX11_init_172 gf_X11_94 (fun h70 => ?_)
  refine zi_aload_n dX11_init_175 rfl 0 rfl ?_
  refine zi_iconst (v := 0) dX11_init_176 (by decide) ?_
  refine zi_putI dX11_init_177 gf_X11_97 (fun h71 => ?_)
  refine zi_aload_n dX11_init_180 rfl 0 rfl ?_
  refine zi_iconst (v := (-1)) dX11_init_181 (by decide) ?_
  refine zi_putI dX11_init_182 gf_X11_100 (fun h72 => ?_)
  refine zi_aload_n dX11_init_185 rfl 0 rfl ?_
  refine zi_iconst (v := 0) dX11_init_186 (by decide) ?_
  refine zi_putI dX11_init_187 gf_X11_103 (fun h73 => ?_)
  refine zi_aload_n dX11_init_190 rfl 0 rfl ?_
  refine zi_getR dX11_init_191 gf_X11_80 (fun v74 => ?_)
  refine zi_iconst (v := (-1)) dX11_init_194 (by decide) ?_
  refine zi_callSU (As := [.ref (zbase G + v74), .int (-1)]) (rest := []) dX11_init_195 ml_X11_106 md_J7_fill_53178 ms_J7_fill_53178 rfl rfl (Nat.le_of_ble_eq_true rfl) (Nat.le_of_ble_eq_true rfl) (k_J7_fill_53178 G n v74 (-1) h73) (fun _ h76 => ?_)
  exact zi_retV dX11_init_198
set_option maxRecDepth 20000 in
set_option maxHeartbeats 1000000 in
theorem k_X11_isProcessor (G : zG) (n : Nat) (a0 : Int32) (h : zH) : zMet G yX11_isProcessor cX11_isProcessor 1 (some .boolean) zvI 1 [.int a0] h (f_X11_isProcessor n a0 h) := by
  refine zMet_of (l := [(0, .int a0)]) (by decide) (Nat.le_of_ble_eq_true rfl) rfl ?_
  unfold f_X11_isProcessor
  refine zi_iload_n dX11_isProcessor_0 rfl 0 rfl ?_
  refine zi_if_lt (tgt := 14) dX11_isProcessor_1 (by decide) ?_ ?_
  · refine zi_iconst (v := 0) dX11_isProcessor_14 (by decide) ?_
    exact zi_ret0 dX11_isProcessor_15
  · refine zi_iload_n dX11_isProcessor_4 rfl 0 rfl ?_
    refine zi_bipush (v := 8) dX11_isProcessor_5 (by decide) ?_
    refine zi_icmp_ge (tgt := 14) dX11_isProcessor_7 (by decide) ?_ ?_
    · refine zi_iconst (v := 0) dX11_isProcessor_14 (by decide) ?_
      exact zi_ret0 dX11_isProcessor_15
    · refine zi_iconst (v := 1) dX11_isProcessor_10 (by decide) ?_
      refine zi_goto (tgt := 15) dX11_isProcessor_11 (by decide) ?_
      exact zi_ret1 dX11_isProcessor_15
set_option maxRecDepth 20000 in
set_option maxHeartbeats 1000000 in
theorem k_X10_unreported (G : zG) (n : Nat) (a0 : Nat) (h : zH) : zMet G yX10_unreported cX10_unreported 1 (some .int) zvI 1 [.ref (zbase G + a0)] h (f_X10_unreported n a0 h) := by
  refine zMet_of (l := [(0, .ref (zbase G + a0))]) (by decide) (Nat.le_of_ble_eq_true rfl) rfl ?_
  unfold f_X10_unreported
  refine zi_aload_n dX10_unreported_0 rfl 0 rfl ?_
  refine zi_getZ dX10_unreported_1 gf_X10_35 (fun v1 => ?_)
  refine zi_if_ne (tgt := 9) dX10_unreported_4 (by decide) ?_ ?_
  · refine zi_aload_n dX10_unreported_9 rfl 0 rfl ?_
    refine zi_getR dX10_unreported_10 gf_X10_22 (fun v2 => ?_)
    refine zi_iconst (v := 4) dX10_unreported_13 (by decide) ?_
    refine zi_iald dX10_unreported_14 (fun v3 => ?_)
    refine zi_aload_n dX10_unreported_15 rfl 0 rfl ?_
    refine zi_getR dX10_unreported_16 gf_X10_22 (fun v4 => ?_)
    refine zi_iconst (v := 5) dX10_unreported_19 (by decide) ?_
    refine zi_iald dX10_unreported_20 (fun v5 => ?_)
    refine zi_iconst (v := 2) dX10_unreported_21 (by decide) ?_
    refine zi_ishl dX10_unreported_22 ?_
    refine zi_ior dX10_unreported_23 ?_
    refine zi_aload_n dX10_unreported_24 rfl 0 rfl ?_
    refine zi_getR dX10_unreported_25 gf_X10_22 (fun v6 => ?_)
    refine zi_bipush (v := 6) dX10_unreported_28 (by decide) ?_
    refine zi_iald dX10_unreported_30 (fun v7 => ?_)
    refine zi_iconst (v := 4) dX10_unreported_31 (by decide) ?_
    refine zi_ishl dX10_unreported_32 ?_
    refine zi_ior dX10_unreported_33 ?_
    refine zi_aload_n dX10_unreported_34 rfl 0 rfl ?_
    refine zi_getR dX10_unreported_35 gf_X10_22 (fun v8 => ?_)
    refine zi_bipush (v := 7) dX10_unreported_38 (by decide) ?_
    refine zi_iald dX10_unreported_40 (fun v9 => ?_)
    refine zi_bipush (v := 6) dX10_unreported_41 (by decide) ?_
    refine zi_ishl dX10_unreported_43 ?_
    refine zi_ior dX10_unreported_44 ?_
    exact zi_retI dX10_unreported_45
  · refine zi_iconst (v := 0) dX10_unreported_7 (by decide) ?_
    exact zi_retI dX10_unreported_8
set_option maxRecDepth 20000 in
set_option maxHeartbeats 1000000 in
theorem k_X11_bitOf (G : zG) (n : Nat) (a0 : Int32) (a1 : Int32) (h : zH) : zMet G yX11_bitOf cX11_bitOf 2 (some .int) zvI 1 [.int a0, .int a1] h (f_X11_bitOf n a0 a1 h) := by
  refine zMet_of (l := [(0, .int a0), (1, .int a1)]) (by decide) (Nat.le_of_ble_eq_true rfl) rfl ?_
  unfold f_X11_bitOf
  refine zi_iload_n dX11_bitOf_0 rfl 0 rfl ?_
  refine zi_iload_n dX11_bitOf_1 rfl 1 rfl ?_
  refine zi_iand dX11_bitOf_2 ?_
  refine zi_if_eq (tgt := 10) dX11_bitOf_3 (by decide) ?_ ?_
  · refine zi_iconst (v := 0) dX11_bitOf_10 (by decide) ?_
    exact zi_retI dX11_bitOf_11
  · refine zi_iconst (v := 1) dX11_bitOf_6 (by decide) ?_
    refine zi_goto (tgt := 11) dX11_bitOf_7 (by decide) ?_
    exact zi_retI dX11_bitOf_11
set_option maxRecDepth 20000 in
set_option maxHeartbeats 1000000 in
theorem wb_X10_cellOf_23 (G : zG) (n : Nat) (l0 : Nat) (l1 : Int32) (s0 : Int32) (h : zH) : zW G yX10_cellOf cX10_cellOf 3 (some .int) zvI 2 23 [(0, .ref (zbase G + l0)), (1, .int l1)] [.int s0] h (fb_X10_cellOf_23 n l0 l1 s0 h) := by
  unfold fb_X10_cellOf_23
  refine zi_istore_n (l' := [(2, .int s0), (0, .ref (zbase G + l0)), (1, .int l1)]) dX10_cellOf_23 rfl (by decide) rfl ?_
  refine zi_iload_n dX10_cellOf_24 rfl 0 rfl ?_
  refine zi_if_eq (tgt := 37) dX10_cellOf_25 (by decide) ?_ ?_
  · refine zi_iconst (v := (-1)) dX10_cellOf_37 (by decide) ?_
    exact zi_retI dX10_cellOf_38
  · refine zi_aload_n dX10_cellOf_28 rfl 1 rfl ?_
    refine zi_getR dX10_cellOf_29 gf_X10_18 (fun v1 => ?_)
    refine zi_iload_n dX10_cellOf_32 rfl 2 rfl ?_
    refine zi_iald dX10_cellOf_33 (fun v2 => ?_)
    refine zi_goto (tgt := 38) dX10_cellOf_34 (by decide) ?_
    exact zi_retI dX10_cellOf_38
set_option maxRecDepth 20000 in
set_option maxHeartbeats 1000000 in
theorem wb_X10_cellOf_22 (G : zG) (n : Nat) (l0 : Nat) (l1 : Int32) (h : zH) : zW G yX10_cellOf cX10_cellOf 3 (some .int) zvI 2 22 [(0, .ref (zbase G + l0)), (1, .int l1)] [] h (fb_X10_cellOf_22 n l0 l1 h) := by
  unfold fb_X10_cellOf_22
  refine zi_iconst (v := 0) dX10_cellOf_22 (by decide) ?_
  refine zi_sub [0, 1] rfl ?_
  exact wb_X10_cellOf_23 G n l0 l1 0 h
set_option maxRecDepth 20000 in
set_option maxHeartbeats 1000000 in
theorem k_X10_cellOf (G : zG) (n : Nat) (a0 : Nat) (a1 : Int32) (h : zH) : zMet G yX10_cellOf cX10_cellOf 3 (some .int) zvI 2 [.ref (zbase G + a0), .int a1] h (f_X10_cellOf n a0 a1 h) := by
  refine zMet_of (l := [(0, .ref (zbase G + a0)), (1, .int a1)]) (by decide) (Nat.le_of_ble_eq_true rfl) rfl ?_
  unfold f_X10_cellOf
  refine zi_iload_n dX10_cellOf_0 rfl 1 rfl ?_
  refine zi_callNI (As := [.int a1]) (rest := []) (host := "GraceTree") dX10_cellOf_1 mn_X10_86 md_X11_isProcessor ms_X11_isProcessor rfl rfl (Nat.le_of_ble_eq_true rfl) (Nat.le_of_ble_eq_true rfl) (k_X11_isProcessor G n a1 h) (fun r1 h2 => ?_)
  refine zi_if_eq (tgt := 22) dX10_cellOf_4 (by decide) ?_ ?_
  · refine zi_sub [0, 1] rfl ?_
    exact wb_X10_cellOf_22 G n a0 a1 h2
  · refine zi_aload_n dX10_cellOf_7 rfl 0 rfl ?_
    refine zi_getI dX10_cellOf_8 gf_X10_25 (fun v3 => ?_)
    refine zi_iconst (v := 1) dX10_cellOf_11 (by decide) ?_
    refine zi_iload_n dX10_cellOf_12 rfl 1 rfl ?_
    refine zi_ishl dX10_cellOf_13 ?_
    refine zi_iand dX10_cellOf_14 ?_
    refine zi_if_eq (tgt := 22) dX10_cellOf_15 (by decide) ?_ ?_
    · refine zi_sub [0, 1] rfl ?_
      exact wb_X10_cellOf_22 G n a0 a1 h2
    · refine zi_iconst (v := 1) dX10_cellOf_18 (by decide) ?_
      refine zi_goto (tgt := 23) dX10_cellOf_19 (by decide) ?_
      refine zi_sub [0, 1] rfl ?_
      exact wb_X10_cellOf_23 G n a0 a1 1 h2
set_option maxRecDepth 20000 in
set_option maxHeartbeats 1000000 in
theorem k_X11_of (G : zG) (n : Nat) (a0 : Nat) (a1 : Int32) (a2 : Int32) (h : zH) : zMet G yX11_of cX11_of 4 (some .int) zvI 3 [.ref (zbase G + a0), .int a1, .int a2] h (f_X11_of n a0 a1 a2 h) := by
  refine zMet_of (l := [(0, .ref (zbase G + a0)), (1, .int a1), (2, .int a2)]) (by decide) (Nat.le_of_ble_eq_true rfl) rfl ?_
  unfold f_X11_of
  refine zi_iload_n dX11_of_0 rfl 1 rfl ?_
  refine zi_callSI (As := [.int a1]) (rest := []) dX11_of_1 ml_X11_112 md_X11_isProcessor ms_X11_isProcessor rfl rfl (Nat.le_of_ble_eq_true rfl) (Nat.le_of_ble_eq_true rfl) (k_X11_isProcessor G n a1 h) (fun r1 h2 => ?_)
  refine zi_if_ne (tgt := 9) dX11_of_4 (by decide) ?_ ?_
  · refine zi_iconst (v := 1) dX11_of_9 (by decide) ?_
    refine zi_iload_n dX11_of_10 rfl 1 rfl ?_
    refine zi_ishl dX11_of_11 ?_
    refine zi_let (sf := fun x3 => .int x3 :: []) (fun x3 => ?_)
    refine zi_istore_n (l' := [(3, .int x3), (0, .ref (zbase G + a0)), (1, .int a1), (2, .int a2)]) dX11_of_12 rfl (by decide) rfl ?_
    refine zi_iload_n dX11_of_13 rfl 3 rfl ?_
    refine zi_tsw (tgt := 107) _ dX11_of_14 rfl ?_ (by decide) ?_ ?_
    · intro j q hq
      match j, hq with
      | 0, hq => cases hq; exact ⟨rfl, _, rfl, rfl⟩
      | 1, hq => cases hq; exact ⟨rfl, _, rfl, rfl⟩
      | 2, hq => cases hq; exact ⟨rfl, _, rfl, rfl⟩
      | 3, hq => cases hq; exact ⟨rfl, _, rfl, rfl⟩
      | 4, hq => cases hq; exact ⟨rfl, _, rfl, rfl⟩
      | j + 5, hq => simp at hq
    · simp only [List.forall_mem_cons, List.not_mem_nil, false_implies, implies_true, and_true]
      refine ⟨?_, ?_, ?_, ?_, ?_⟩
      · refine zi_aload_n dX11_of_48 rfl 1 rfl ?_
        refine zi_getR dX11_of_49 gf_X11_10 (fun v4 => ?_)
        refine zi_getI dX11_of_52 gf_X11_116 (fun v5 => ?_)
        refine zi_iload_n dX11_of_55 rfl 0 rfl ?_
        refine zi_callSI (As := [.int v5, .int x3]) (rest := []) dX11_of_56 ml_X11_119 md_X11_bitOf ms_X11_bitOf rfl rfl (Nat.le_of_ble_eq_true rfl) (Nat.le_of_ble_eq_true rfl) (k_X11_bitOf G n v5 x3 h2) (fun r6 h7 => ?_)
        exact zi_retI dX11_of_59
      · refine zi_aload_n dX11_of_60 rfl 1 rfl ?_
        refine zi_getR dX11_of_61 gf_X11_10 (fun v8 => ?_)
        refine zi_iload_n dX11_of_64 rfl 2 rfl ?_
        refine zi_callVI (As := [.int a1]) (rest := []) (ci := 10) dX11_of_65 ml_X11_123 md_X10_cellOf mv_X10_cellOf rfl (by decide) rfl rfl (Nat.le_of_ble_eq_true rfl) (Nat.le_of_ble_eq_true rfl) (k_X10_cellOf G n v8 a1 h2) (fun r9 h10 => ?_)
        exact zi_retI dX11_of_68
      · refine zi_aload_n dX11_of_69 rfl 1 rfl ?_
        refine zi_getR dX11_of_70 gf_X11_10 (fun v11 => ?_)
        refine zi_getI dX11_of_73 gf_X11_127 (fun v12 => ?_)
        refine zi_iload_n dX11_of_76 rfl 0 rfl ?_
        refine zi_callSI (As := [.int v12, .int x3]) (rest := []) dX11_of_77 ml_X11_119 md_X11_bitOf ms_X11_bitOf rfl rfl (Nat.le_of_ble_eq_true rfl) (Nat.le_of_ble_eq_true rfl) (k_X11_bitOf G n v12 x3 h2) (fun r13 h14 => ?_)
        exact zi_retI dX11_of_80
      · refine zi_aload_n dX11_of_81 rfl 1 rfl ?_
        refine zi_getR dX11_of_82 gf_X11_10 (fun v15 => ?_)
        refine zi_getI dX11_of_85 gf_X11_130 (fun v16 => ?_)
        refine zi_iload_n dX11_of_88 rfl 0 rfl ?_
        refine zi_callSI (As := [.int v16, .int x3]) (rest := []) dX11_of_89 ml_X11_119 md_X11_bitOf ms_X11_bitOf rfl rfl (Nat.le_of_ble_eq_true rfl) (Nat.le_of_ble_eq_true rfl) (k_X11_bitOf G n v16 x3 h2) (fun r17 h18 => ?_)
        exact zi_retI dX11_of_92
      · refine zi_iconst (v := 1) dX11_of_93 (by decide) ?_
        refine zi_aload_n dX11_of_94 rfl 1 rfl ?_
        refine zi_getR dX11_of_95 gf_X11_10 (fun v19 => ?_)
        refine zi_callVI (As := []) (rest := [.int 1]) (ci := 10) dX11_of_98 ml_X11_133 md_X10_unreported mv_X10_unreported rfl (by decide) rfl rfl (Nat.le_of_ble_eq_true rfl) (Nat.le_of_ble_eq_true rfl) (k_X10_unreported G n v19 h2) (fun r20 h21 => ?_)
        refine zi_iload_n dX11_of_101 rfl 0 rfl ?_
        refine zi_callSI (As := [.int r20, .int x3]) (rest := [.int 1]) dX11_of_102 ml_X11_119 md_X11_bitOf ms_X11_bitOf rfl rfl (Nat.le_of_ble_eq_true rfl) (Nat.le_of_ble_eq_true rfl) (k_X11_bitOf G n r20 x3 h21) (fun r22 h23 => ?_)
        refine zi_isub dX11_of_105 ?_
        exact zi_retI dX11_of_106
    · refine zi_iconst (v := (-1)) dX11_of_107 (by decide) ?_
      exact zi_retI dX11_of_108
  · refine zi_iconst (v := (-1)) dX11_of_7 (by decide) ?_
    exact zi_retI dX11_of_8
set_option maxRecDepth 20000 in
set_option maxHeartbeats 1000000 in
theorem k_X11_isCell (G : zG) (n : Nat) (a0 : Int32) (h : zH) : zMet G yX11_isCell cX11_isCell 1 (some .boolean) zvI 1 [.int a0] h (f_X11_isCell n a0 h) := by
  refine zMet_of (l := [(0, .int a0)]) (by decide) (Nat.le_of_ble_eq_true rfl) rfl ?_
  unfold f_X11_isCell
  refine zi_iload_n dX11_isCell_0 rfl 0 rfl ?_
  refine zi_if_lt (tgt := 14) dX11_isCell_1 (by decide) ?_ ?_
  · refine zi_iconst (v := 0) dX11_isCell_14 (by decide) ?_
    exact zi_ret0 dX11_isCell_15
  · refine zi_iload_n dX11_isCell_4 rfl 0 rfl ?_
    refine zi_bipush (v := 24) dX11_isCell_5 (by decide) ?_
    refine zi_icmp_ge (tgt := 14) dX11_isCell_7 (by decide) ?_ ?_
    · refine zi_iconst (v := 0) dX11_isCell_14 (by decide) ?_
      exact zi_ret0 dX11_isCell_15
    · refine zi_iconst (v := 1) dX11_isCell_10 (by decide) ?_
      refine zi_goto (tgt := 15) dX11_isCell_11 (by decide) ?_
      exact zi_ret1 dX11_isCell_15
set_option maxRecDepth 20000 in
set_option maxHeartbeats 1000000 in
theorem k_X11_cell (G : zG) (n : Nat) (a0 : Nat) (a1 : Int32) (a2 : Int32) (h : zH) : zMet G yX11_cell cX11_cell 4 (some .int) zvI 2 [.ref (zbase G + a0), .int a1, .int a2] h (f_X11_cell n a0 a1 a2 h) := by
  refine zMet_of (l := [(0, .ref (zbase G + a0)), (1, .int a1), (2, .int a2)]) (by decide) (Nat.le_of_ble_eq_true rfl) rfl ?_
  unfold f_X11_cell
  refine zi_iload_n dX11_cell_0 rfl 1 rfl ?_
  refine zi_callSI (As := [.int a1]) (rest := []) dX11_cell_1 ml_X11_137 md_X11_isCell ms_X11_isCell rfl rfl (Nat.le_of_ble_eq_true rfl) (Nat.le_of_ble_eq_true rfl) (k_X11_isCell G n a1 h) (fun r1 h2 => ?_)
  refine zi_if_ne (tgt := 9) dX11_cell_4 (by decide) ?_ ?_
  · refine zi_aload_n dX11_cell_9 rfl 0 rfl ?_
    refine zi_getR dX11_cell_10 gf_X11_10 (fun v3 => ?_)
    refine zi_getR dX11_cell_13 gf_X11_140 (fun v4 => ?_)
    refine zi_astore_n (l' := [(3, .ref (zbase G + v4)), (0, .ref (zbase G + a0)), (1, .int a1), (2, .int a2)]) dX11_cell_16 rfl (by decide) rfl ?_
    refine zi_iload_n dX11_cell_17 rfl 3 rfl ?_
    refine zi_if_ne (tgt := 28) dX11_cell_18 (by decide) ?_ ?_
    · refine zi_aload_n dX11_cell_28 rfl 0 rfl ?_
      refine zi_getR dX11_cell_29 gf_X11_144 (fun v5 => ?_)
      refine zi_iload_n dX11_cell_32 rfl 2 rfl ?_
      refine zi_iald dX11_cell_33 (fun v6 => ?_)
      refine zi_if_ne (tgt := 39) dX11_cell_34 (by decide) ?_ ?_
      · refine zi_iload_n dX11_cell_39 rfl 3 rfl ?_
        refine zi_tsw (tgt := 89) _ dX11_cell_40 rfl ?_ (by decide) ?_ ?_
        · intro j q hq
          match j, hq with
          | 0, hq => cases hq; exact ⟨rfl, _, rfl, rfl⟩
          | 1, hq => cases hq; exact ⟨rfl, _, rfl, rfl⟩
          | 2, hq => cases hq; exact ⟨rfl, _, rfl, rfl⟩
          | j + 3, hq => simp at hq
        · simp only [List.forall_mem_cons, List.not_mem_nil, false_implies, implies_true, and_true]
          refine ⟨?_, ?_, ?_⟩
          · refine zi_aload_n dX11_cell_68 rfl 0 rfl ?_
            refine zi_getR dX11_cell_69 gf_X11_149 (fun v7 => ?_)
            refine zi_iload_n dX11_cell_72 rfl 2 rfl ?_
            refine zi_iald dX11_cell_73 (fun v8 => ?_)
            exact zi_retI dX11_cell_74
          · refine zi_aload_n dX11_cell_75 rfl 0 rfl ?_
            refine zi_getR dX11_cell_76 gf_X11_152 (fun v9 => ?_)
            refine zi_iload_n dX11_cell_79 rfl 2 rfl ?_
            refine zi_iald dX11_cell_80 (fun v10 => ?_)
            exact zi_retI dX11_cell_81
          · refine zi_aload_n dX11_cell_82 rfl 0 rfl ?_
            refine zi_getR dX11_cell_83 gf_X11_155 (fun v11 => ?_)
            refine zi_iload_n dX11_cell_86 rfl 2 rfl ?_
            refine zi_iald dX11_cell_87 (fun v12 => ?_)
            exact zi_retI dX11_cell_88
        · refine zi_iconst (v := (-1)) dX11_cell_89 (by decide) ?_
          exact zi_retI dX11_cell_90
      · refine zi_iconst (v := (-1)) dX11_cell_37 (by decide) ?_
        exact zi_retI dX11_cell_38
    · refine zi_aload_n dX11_cell_21 rfl 0 rfl ?_
      refine zi_getR dX11_cell_22 gf_X11_144 (fun v13 => ?_)
      refine zi_iload_n dX11_cell_25 rfl 2 rfl ?_
      refine zi_iald dX11_cell_26 (fun v14 => ?_)
      exact zi_retI dX11_cell_27
  · refine zi_iconst (v := (-1)) dX11_cell_7 (by decide) ?_
    exact zi_retI dX11_cell_8
set_option maxRecDepth 20000 in
set_option maxHeartbeats 1000000 in
theorem wb_X0_along_38 (G : zG) (n : Nat) (l2 : Int32) (l3 : Int32) (h : zH) : zW G yX0_along cX0_along 5 (some .int) zvI 2 38 [(2, .int l2), (3, .int l3)] [] h (fb_X0_along_38 n l2 l3 h) := by
  unfold fb_X0_along_38
  refine zi_iload_n dX0_along_38 rfl 0 rfl ?_
  refine zi_if_lt (tgt := 59) dX0_along_39 (by decide) ?_ ?_
  · refine zi_iconst (v := (-1)) dX0_along_59 (by decide) ?_
    exact zi_retI dX0_along_60
  · refine zi_iload_n dX0_along_42 rfl 0 rfl ?_
    refine zi_bipush (v := 24) dX0_along_43 (by decide) ?_
    refine zi_icmp_ge (tgt := 59) dX0_along_45 (by decide) ?_ ?_
    · refine zi_iconst (v := (-1)) dX0_along_59 (by decide) ?_
      exact zi_retI dX0_along_60
    · refine zi_iload_n dX0_along_48 rfl 1 rfl ?_
      refine zi_callNI (As := [.int l3]) (rest := []) (host := "GraceTree") dX0_along_49 mn_X0_46 md_X11_isCell ms_X11_isCell rfl rfl (Nat.le_of_ble_eq_true rfl) (Nat.le_of_ble_eq_true rfl) (k_X11_isCell G n l3 h) (fun r1 h2 => ?_)
      refine zi_if_eq (tgt := 59) dX0_along_52 (by decide) ?_ ?_
      · refine zi_iconst (v := (-1)) dX0_along_59 (by decide) ?_
        exact zi_retI dX0_along_60
      · refine zi_iload_n dX0_along_55 rfl 1 rfl ?_
        refine zi_goto (tgt := 60) dX0_along_56 (by decide) ?_
        exact zi_retI dX0_along_60
set_option maxRecDepth 20000 in
set_option maxHeartbeats 1000000 in
theorem wb_X0_along_5 (G : zG) (n : Nat) (k5 : Nat → Int32 → Int32 → Int32 → zH → Option (Int32 × zH)) (hk5 : ∀ (l0 : Nat) (l2 : Int32) (l3 : Int32) (l4 : Int32) (h : zH), zW G yX0_along cX0_along 5 (some .int) zvI 2 5 [(0, .ref (zbase G + l0)), (2, .int l2), (3, .int l3), (4, .int l4)] [] h (k5 l0 l2 l3 l4 h)) (l0 : Nat) (l2 : Int32) (l3 : Int32) (l4 : Int32) (h : zH) : zW G yX0_along cX0_along 5 (some .int) zvI 2 5 [(0, .ref (zbase G + l0)), (2, .int l2), (3, .int l3), (4, .int l4)] [] h (fb_X0_along_5 n k5 l0 l2 l3 l4 h) := by
  unfold fb_X0_along_5
  refine zi_iload dX0_along_5 3 rfl ?_
  refine zi_iload_n dX0_along_7 rfl 1 rfl ?_
  refine zi_icmp_ge (tgt := 38) dX0_along_8 (by decide) ?_ ?_
  · refine zi_sub [1, 2] rfl ?_
    exact wb_X0_along_38 G n l2 l3 h
  · refine zi_iload dX0_along_11 3 rfl ?_
    refine zi_bipush (v := 24) dX0_along_13 (by decide) ?_
    refine zi_icmp_ge (tgt := 38) dX0_along_15 (by decide) ?_ ?_
    · refine zi_sub [1, 2] rfl ?_
      exact wb_X0_along_38 G n l2 l3 h
    · refine zi_iload_n dX0_along_18 rfl 2 rfl ?_
      refine zi_callNI (As := [.int l3]) (rest := []) (host := "GraceTree") dX0_along_19 mn_X0_46 md_X11_isCell ms_X11_isCell rfl rfl (Nat.le_of_ble_eq_true rfl) (Nat.le_of_ble_eq_true rfl) (k_X11_isCell G n l3 h) (fun r1 h2 => ?_)
      refine zi_if_eq (tgt := 38) dX0_along_22 (by decide) ?_ ?_
      · refine zi_sub [1, 2] rfl ?_
        exact wb_X0_along_38 G n l2 l3 h2
      · refine zi_aload_n dX0_along_25 rfl 0 rfl ?_
        refine zi_getR dX0_along_26 gf_X0_21 (fun v3 => ?_)
        refine zi_iload_n dX0_along_29 rfl 2 rfl ?_
        refine zi_iald dX0_along_30 (fun v4 => ?_)
        refine zi_istore_n (l' := [(3, .int v4), (0, .ref (zbase G + l0)), (2, .int l2), (4, .int l4)]) dX0_along_31 rfl (by decide) rfl ?_
        refine zi_iinc (j := 3) (v := l4 + 1) (l' := [(4, .int (l4 + 1)), (3, .int v4), (0, .ref (zbase G + l0)), (2, .int l2)]) dX0_along_32 rfl rfl (by decide) rfl ?_
        refine zi_goto (tgt := 5) dX0_along_35 (by decide) ?_
        refine zi_sub [2, 3, 1, 0] rfl ?_
        exact hk5 l0 l2 v4 (l4 + 1) h2
theorem wl_X0_along_5 (G : zG) (n : Nat) : ∀ (t : Nat) (l0 : Nat) (l2 : Int32) (l3 : Int32) (l4 : Int32) (h : zH), zW G yX0_along cX0_along 5 (some .int) zvI 2 5 [(0, .ref (zbase G + l0)), (2, .int l2), (3, .int l3), (4, .int l4)] [] h (zlp4 (fb_X0_along_5 n ) t l0 l2 l3 l4 h) := by
  intro t
  induction t with
  | zero => intros; exact zW_none
  | succ t ih => intro l0 l2 l3 l4 h; rw [zlp4_s]; exact wb_X0_along_5 G n  _  ih l0 l2 l3 l4 h
set_option maxRecDepth 20000 in
set_option maxHeartbeats 1000000 in
theorem k_X0_along (G : zG) (n : Nat) (a0 : Nat) (a1 : Int32) (a2 : Int32) (h : zH) : zMet G yX0_along cX0_along 5 (some .int) zvI 2 [.ref (zbase G + a0), .int a1, .int a2] h (f_X0_along n a0 a1 a2 h) := by
  refine zMet_of (l := [(0, .ref (zbase G + a0)), (1, .int a1), (2, .int a2)]) (by decide) (Nat.le_of_ble_eq_true rfl) rfl ?_
  unfold f_X0_along
  refine zi_iload_n dX0_along_0 rfl 1 rfl ?_
  refine zi_istore_n (l' := [(3, .int a1), (0, .ref (zbase G + a0)), (1, .int a1), (2, .int a2)]) dX0_along_1 rfl (by decide) rfl ?_
  refine zi_iconst (v := 0) dX0_along_2 (by decide) ?_
  refine zi_istore (l' := [(4, .int 0), (3, .int a1), (0, .ref (zbase G + a0)), (1, .int a1), (2, .int a2)]) dX0_along_3 (by decide) rfl ?_
  refine zi_sub [2, 4, 1, 0] rfl ?_
  exact wl_X0_along_5 G n n a0 a2 a1 0 h
set_option maxRecDepth 20000 in
set_option maxHeartbeats 1000000 in
theorem k_X11_list (G : zG) (n : Nat) (a0 : Nat) (a1 : Int32) (h : zH) : zMet G yX11_list cX11_list 2 (some .int) zvI 3 [.ref (zbase G + a0), .int a1] h (f_X11_list n a0 a1 h) := by
  refine zMet_of (l := [(0, .ref (zbase G + a0)), (1, .int a1)]) (by decide) (Nat.le_of_ble_eq_true rfl) rfl ?_
  unfold f_X11_list
  refine zi_aload_n dX11_list_0 rfl 0 rfl ?_
  refine zi_getR dX11_list_1 gf_X11_10 (fun v1 => ?_)
  refine zi_getR dX11_list_4 gf_X11_140 (fun v2 => ?_)
  refine zi_aload_n dX11_list_7 rfl 0 rfl ?_
  refine zi_getR dX11_list_8 gf_X11_10 (fun v3 => ?_)
  refine zi_getR dX11_list_11 gf_X11_140 (fun v4 => ?_)
  refine zi_getI dX11_list_14 gf_X11_158 (fun v5 => ?_)
  refine zi_iload_n dX11_list_17 rfl 1 rfl ?_
  refine zi_callVI (As := [.int v5, .int a1]) (rest := []) (ci := 0) dX11_list_18 ml_X11_161 md_X0_along mv_X0_along rfl (by decide) rfl rfl (Nat.le_of_ble_eq_true rfl) (Nat.le_of_ble_eq_true rfl) (k_X0_along G n v2 v5 a1 h) (fun r6 h7 => ?_)
  exact zi_retI dX11_list_21
set_option maxRecDepth 20000 in
set_option maxHeartbeats 1000000 in
theorem wb_X0_lastBelow_10 (G : zG) (n : Nat) (k10 : Nat → Int32 → Int32 → Int32 → Int32 → zH → Option (Int32 × zH)) (hk10 : ∀ (l0 : Nat) (l1 : Int32) (l2 : Int32) (l3 : Int32) (l4 : Int32) (h : zH), zW G yX0_lastBelow cX0_lastBelow 5 (some .int) zvI 2 10 [(0, .ref (zbase G + l0)), (1, .int l1), (2, .int l2), (3, .int l3), (4, .int l4)] [] h (k10 l0 l1 l2 l3 l4 h)) (l0 : Nat) (l1 : Int32) (l2 : Int32) (l3 : Int32) (l4 : Int32) (h : zH) : zW G yX0_lastBelow cX0_lastBelow 5 (some .int) zvI 2 10 [(0, .ref (zbase G + l0)), (1, .int l1), (2, .int l2), (3, .int l3), (4, .int l4)] [] h (fb_X0_lastBelow_10 n k10 l0 l1 l2 l3 l4 h) := by
  unfold fb_X0_lastBelow_10
  refine zi_iload dX0_lastBelow_10 4 rfl ?_
  refine zi_bipush (v := 24) dX0_lastBelow_12 (by decide) ?_
  refine zi_icmp_ge (tgt := 49) dX0_lastBelow_14 (by decide) ?_ ?_
  · refine zi_iload_n dX0_lastBelow_49 rfl 2 rfl ?_
    exact zi_retI dX0_lastBelow_50
  · refine zi_iload_n dX0_lastBelow_17 rfl 3 rfl ?_
    refine zi_callNI (As := [.int l3]) (rest := []) (host := "GraceTree") dX0_lastBelow_18 mn_X0_46 md_X11_isCell ms_X11_isCell rfl rfl (Nat.le_of_ble_eq_true rfl) (Nat.le_of_ble_eq_true rfl) (k_X11_isCell G n l3 h) (fun r1 h2 => ?_)
    refine zi_if_eq (tgt := 49) dX0_lastBelow_21 (by decide) ?_ ?_
    · refine zi_iload_n dX0_lastBelow_49 rfl 2 rfl ?_
      exact zi_retI dX0_lastBelow_50
    · refine zi_aload_n dX0_lastBelow_24 rfl 0 rfl ?_
      refine zi_getR dX0_lastBelow_25 gf_X0_15 (fun v3 => ?_)
      refine zi_iload_n dX0_lastBelow_28 rfl 3 rfl ?_
      refine zi_iald dX0_lastBelow_29 (fun v4 => ?_)
      refine zi_iload_n dX0_lastBelow_30 rfl 1 rfl ?_
      refine zi_icmp_ge (tgt := 49) dX0_lastBelow_31 (by decide) ?_ ?_
      · refine zi_iload_n dX0_lastBelow_49 rfl 2 rfl ?_
        exact zi_retI dX0_lastBelow_50
      · refine zi_iload_n dX0_lastBelow_34 rfl 3 rfl ?_
        refine zi_istore_n (l' := [(2, .int l3), (0, .ref (zbase G + l0)), (1, .int l1), (3, .int l3), (4, .int l4)]) dX0_lastBelow_35 rfl (by decide) rfl ?_
        refine zi_aload_n dX0_lastBelow_36 rfl 1 rfl ?_
        refine zi_getR dX0_lastBelow_37 gf_X0_21 (fun v5 => ?_)
        refine zi_iload_n dX0_lastBelow_40 rfl 3 rfl ?_
        refine zi_iald dX0_lastBelow_41 (fun v6 => ?_)
        refine zi_istore_n (l' := [(3, .int v6), (2, .int l3), (0, .ref (zbase G + l0)), (1, .int l1), (4, .int l4)]) dX0_lastBelow_42 rfl (by decide) rfl ?_
        refine zi_iinc (j := 4) (v := l4 + 1) (l' := [(4, .int (l4 + 1)), (3, .int v6), (2, .int l3), (0, .ref (zbase G + l0)), (1, .int l1)]) dX0_lastBelow_43 rfl rfl (by decide) rfl ?_
        refine zi_goto (tgt := 10) dX0_lastBelow_46 (by decide) ?_
        refine zi_sub [3, 4, 2, 1, 0] rfl ?_
        exact hk10 l0 l1 l3 v6 (l4 + 1) h2
theorem wl_X0_lastBelow_10 (G : zG) (n : Nat) : ∀ (t : Nat) (l0 : Nat) (l1 : Int32) (l2 : Int32) (l3 : Int32) (l4 : Int32) (h : zH), zW G yX0_lastBelow cX0_lastBelow 5 (some .int) zvI 2 10 [(0, .ref (zbase G + l0)), (1, .int l1), (2, .int l2), (3, .int l3), (4, .int l4)] [] h (zlp5 (fb_X0_lastBelow_10 n ) t l0 l1 l2 l3 l4 h) := by
  intro t
  induction t with
  | zero => intros; exact zW_none
  | succ t ih => intro l0 l1 l2 l3 l4 h; rw [zlp5_s]; exact wb_X0_lastBelow_10 G n  _  ih l0 l1 l2 l3 l4 h
set_option maxRecDepth 20000 in
set_option maxHeartbeats 1000000 in
theorem k_X0_lastBelow (G : zG) (n : Nat) (a0 : Nat) (a1 : Int32) (h : zH) : zMet G yX0_lastBelow cX0_lastBelow 5 (some .int) zvI 2 [.ref (zbase G + a0), .int a1] h (f_X0_lastBelow n a0 a1 h) := by
  refine zMet_of (l := [(0, .ref (zbase G + a0)), (1, .int a1)]) (by decide) (Nat.le_of_ble_eq_true rfl) rfl ?_
  unfold f_X0_lastBelow
  refine zi_iconst (v := (-1)) dX0_lastBelow_0 (by decide) ?_
  refine zi_istore_n (l' := [(2, .int (-1)), (0, .ref (zbase G + a0)), (1, .int a1)]) dX0_lastBelow_1 rfl (by decide) rfl ?_
  refine zi_aload_n dX0_lastBelow_2 rfl 1 rfl ?_
  refine zi_getI dX0_lastBelow_3 gf_X0_30 (fun v1 => ?_)
  refine zi_istore_n (l' := [(3, .int v1), (2, .int (-1)), (0, .ref (zbase G + a0)), (1, .int a1)]) dX0_lastBelow_6 rfl (by decide) rfl ?_
  refine zi_iconst (v := 0) dX0_lastBelow_7 (by decide) ?_
  refine zi_istore (l' := [(4, .int 0), (3, .int v1), (2, .int (-1)), (0, .ref (zbase G + a0)), (1, .int a1)]) dX0_lastBelow_8 (by decide) rfl ?_
  refine zi_sub [3, 4, 2, 1, 0] rfl ?_
  exact wl_X0_lastBelow_10 G n n a0 a1 (-1) v1 0 h
set_option maxRecDepth 20000 in
set_option maxHeartbeats 1000000 in
theorem k_X0_follower (G : zG) (n : Nat) (a0 : Nat) (a1 : Int32) (h : zH) : zMet G yX0_follower cX0_follower 2 (some .int) zvI 2 [.ref (zbase G + a0), .int a1] h (f_X0_follower n a0 a1 h) := by
  refine zMet_of (l := [(0, .ref (zbase G + a0)), (1, .int a1)]) (by decide) (Nat.le_of_ble_eq_true rfl) rfl ?_
  unfold f_X0_follower
  refine zi_iload_n dX0_follower_0 rfl 1 rfl ?_
  refine zi_callNI (As := [.int a1]) (rest := []) (host := "GraceTree") dX0_follower_1 mn_X0_46 md_X11_isCell ms_X11_isCell rfl rfl (Nat.le_of_ble_eq_true rfl) (Nat.le_of_ble_eq_true rfl) (k_X11_isCell G n a1 h) (fun r1 h2 => ?_)
  refine zi_if_eq (tgt := 16) dX0_follower_4 (by decide) ?_ ?_
  · refine zi_aload_n dX0_follower_16 rfl 0 rfl ?_
    refine zi_getI dX0_follower_17 gf_X0_30 (fun v3 => ?_)
    exact zi_retI dX0_follower_20
  · refine zi_aload_n dX0_follower_7 rfl 0 rfl ?_
    refine zi_getR dX0_follower_8 gf_X0_21 (fun v4 => ?_)
    refine zi_iload_n dX0_follower_11 rfl 1 rfl ?_
    refine zi_iald dX0_follower_12 (fun v5 => ?_)
    refine zi_goto (tgt := 20) dX0_follower_13 (by decide) ?_
    exact zi_retI dX0_follower_20
set_option maxRecDepth 20000 in
set_option maxHeartbeats 1000000 in
theorem k_X0_holding (G : zG) (n : Nat) (a0 : Nat) (a1 : Int32) (h : zH) : zMet G yX0_holding cX0_holding 3 (some .int) zvI 3 [.ref (zbase G + a0), .int a1] h (f_X0_holding n a0 a1 h) := by
  refine zMet_of (l := [(0, .ref (zbase G + a0)), (1, .int a1)]) (by decide) (Nat.le_of_ble_eq_true rfl) rfl ?_
  unfold f_X0_holding
  refine zi_aload_n dX0_holding_0 rfl 0 rfl ?_
  refine zi_aload_n dX0_holding_1 rfl 0 rfl ?_
  refine zi_iload_n dX0_holding_2 rfl 1 rfl ?_
  refine zi_callVI (As := [.int a1]) (rest := [.ref (zbase G + a0)]) (ci := 0) dX0_holding_3 ml_X0_50 md_X0_lastBelow mv_X0_lastBelow rfl (by decide) rfl rfl (Nat.le_of_ble_eq_true rfl) (Nat.le_of_ble_eq_true rfl) (k_X0_lastBelow G n a0 a1 h) (fun r1 h2 => ?_)
  refine zi_callVI (As := [.int r1]) (rest := []) (ci := 0) dX0_holding_6 ml_X0_54 md_X0_follower mv_X0_follower rfl (by decide) rfl rfl (Nat.le_of_ble_eq_true rfl) (Nat.le_of_ble_eq_true rfl) (k_X0_follower G n a0 r1 h2) (fun r3 h4 => ?_)
  refine zi_istore_n (l' := [(2, .int r3), (0, .ref (zbase G + a0)), (1, .int a1)]) dX0_holding_9 rfl (by decide) rfl ?_
  refine zi_iload_n dX0_holding_10 rfl 0 rfl ?_
  refine zi_callNI (As := [.int r3]) (rest := []) (host := "GraceTree") dX0_holding_11 mn_X0_46 md_X11_isCell ms_X11_isCell rfl rfl (Nat.le_of_ble_eq_true rfl) (Nat.le_of_ble_eq_true rfl) (k_X11_isCell G n r3 h4) (fun r5 h6 => ?_)
  refine zi_if_eq (tgt := 31) dX0_holding_14 (by decide) ?_ ?_
  · refine zi_iconst (v := (-1)) dX0_holding_31 (by decide) ?_
    exact zi_retI dX0_holding_32
  · refine zi_aload_n dX0_holding_17 rfl 1 rfl ?_
    refine zi_getR dX0_holding_18 gf_X0_15 (fun v7 => ?_)
    refine zi_iload_n dX0_holding_21 rfl 0 rfl ?_
    refine zi_iald dX0_holding_22 (fun v8 => ?_)
    refine zi_iload_n dX0_holding_23 rfl 2 rfl ?_
    refine zi_icmp_ne (tgt := 31) dX0_holding_24 (by decide) ?_ ?_
    · refine zi_iconst (v := (-1)) dX0_holding_31 (by decide) ?_
      exact zi_retI dX0_holding_32
    · refine zi_iload_n dX0_holding_27 rfl 0 rfl ?_
      refine zi_goto (tgt := 32) dX0_holding_28 (by decide) ?_
      exact zi_retI dX0_holding_32
set_option maxRecDepth 20000 in
set_option maxHeartbeats 1000000 in
theorem k_X11_find (G : zG) (n : Nat) (a0 : Nat) (a1 : Int32) (h : zH) : zMet G yX11_find cX11_find 3 (some .int) zvI 4 [.ref (zbase G + a0), .int a1] h (f_X11_find n a0 a1 h) := by
  refine zMet_of (l := [(0, .ref (zbase G + a0)), (1, .int a1)]) (by decide) (Nat.le_of_ble_eq_true rfl) rfl ?_
  unfold f_X11_find
  refine zi_aload_n dX11_find_0 rfl 0 rfl ?_
  refine zi_getR dX11_find_1 gf_X11_10 (fun v1 => ?_)
  refine zi_getR dX11_find_4 gf_X11_140 (fun v2 => ?_)
  refine zi_iload_n dX11_find_7 rfl 1 rfl ?_
  refine zi_callVI (As := [.int a1]) (rest := []) (ci := 0) dX11_find_8 ml_X11_164 md_X0_holding mv_X0_holding rfl (by decide) rfl rfl (Nat.le_of_ble_eq_true rfl) (Nat.le_of_ble_eq_true rfl) (k_X0_holding G n v2 a1 h) (fun r3 h4 => ?_)
  refine zi_istore_n (l' := [(2, .int r3), (0, .ref (zbase G + a0)), (1, .int a1)]) dX11_find_11 rfl (by decide) rfl ?_
  refine zi_iload_n dX11_find_12 rfl 0 rfl ?_
  refine zi_callSI (As := [.int r3]) (rest := []) dX11_find_13 ml_X11_137 md_X11_isCell ms_X11_isCell rfl rfl (Nat.le_of_ble_eq_true rfl) (Nat.le_of_ble_eq_true rfl) (k_X11_isCell G n r3 h4) (fun r5 h6 => ?_)
  refine zi_if_eq (tgt := 34) dX11_find_16 (by decide) ?_ ?_
  · refine zi_iconst (v := (-1)) dX11_find_34 (by decide) ?_
    exact zi_retI dX11_find_35
  · refine zi_aload_n dX11_find_19 rfl 1 rfl ?_
    refine zi_getR dX11_find_20 gf_X11_10 (fun v7 => ?_)
    refine zi_getR dX11_find_23 gf_X11_140 (fun v8 => ?_)
    refine zi_getR dX11_find_26 gf_X11_152 (fun v9 => ?_)
    refine zi_iload_n dX11_find_29 rfl 0 rfl ?_
    refine zi_iald dX11_find_30 (fun v10 => ?_)
    refine zi_goto (tgt := 35) dX11_find_31 (by decide) ?_
    exact zi_retI dX11_find_35
set_option maxRecDepth 20000 in
set_option maxHeartbeats 1000000 in
theorem k_X11_isNode (G : zG) (n : Nat) (a0 : Int32) (h : zH) : zMet G yX11_isNode cX11_isNode 1 (some .boolean) zvI 1 [.int a0] h (f_X11_isNode n a0 h) := by
  refine zMet_of (l := [(0, .int a0)]) (by decide) (Nat.le_of_ble_eq_true rfl) rfl ?_
  unfold f_X11_isNode
  refine zi_iload_n dX11_isNode_0 rfl 0 rfl ?_
  refine zi_iconst (v := 1) dX11_isNode_1 (by decide) ?_
  refine zi_icmp_lt (tgt := 15) dX11_isNode_2 (by decide) ?_ ?_
  · refine zi_iconst (v := 0) dX11_isNode_15 (by decide) ?_
    exact zi_ret0 dX11_isNode_16
  · refine zi_iload_n dX11_isNode_5 rfl 0 rfl ?_
    refine zi_bipush (v := 8) dX11_isNode_6 (by decide) ?_
    refine zi_icmp_ge (tgt := 15) dX11_isNode_8 (by decide) ?_ ?_
    · refine zi_iconst (v := 0) dX11_isNode_15 (by decide) ?_
      exact zi_ret0 dX11_isNode_16
    · refine zi_iconst (v := 1) dX11_isNode_11 (by decide) ?_
      refine zi_goto (tgt := 16) dX11_isNode_12 (by decide) ?_
      exact zi_ret1 dX11_isNode_16
set_option maxRecDepth 20000 in
set_option maxHeartbeats 1000000 in
theorem k_X11_node (G : zG) (n : Nat) (a0 : Nat) (a1 : Int32) (h : zH) : zMet G yX11_node cX11_node 2 (some .int) zvI 2 [.ref (zbase G + a0), .int a1] h (f_X11_node n a0 a1 h) := by
  refine zMet_of (l := [(0, .ref (zbase G + a0)), (1, .int a1)]) (by decide) (Nat.le_of_ble_eq_true rfl) rfl ?_
  unfold f_X11_node
  refine zi_iload_n dX11_node_0 rfl 1 rfl ?_
  refine zi_callSI (As := [.int a1]) (rest := []) dX11_node_1 ml_X11_167 md_X11_isNode ms_X11_isNode rfl rfl (Nat.le_of_ble_eq_true rfl) (Nat.le_of_ble_eq_true rfl) (k_X11_isNode G n a1 h) (fun r1 h2 => ?_)
  refine zi_if_ne (tgt := 9) dX11_node_4 (by decide) ?_ ?_
  · refine zi_aload_n dX11_node_9 rfl 0 rfl ?_
    refine zi_getR dX11_node_10 gf_X11_10 (fun v3 => ?_)
    refine zi_getZ dX11_node_13 gf_X11_170 (fun v4 => ?_)
    refine zi_if_eq (tgt := 31) dX11_node_16 (by decide) ?_ ?_
    · refine zi_iconst (v := 0) dX11_node_31 (by decide) ?_
      exact zi_retI dX11_node_32
    · refine zi_aload_n dX11_node_19 rfl 0 rfl ?_
      refine zi_getR dX11_node_20 gf_X11_10 (fun v5 => ?_)
      refine zi_getR dX11_node_23 gf_X11_174 (fun v6 => ?_)
      refine zi_iload_n dX11_node_26 rfl 1 rfl ?_
      refine zi_iald dX11_node_27 (fun v7 => ?_)
      refine zi_goto (tgt := 32) dX11_node_28 (by decide) ?_
      exact zi_retI dX11_node_32
  · refine zi_iconst (v := (-1)) dX11_node_7 (by decide) ?_
    exact zi_retI dX11_node_8
set_option maxRecDepth 20000 in
set_option maxHeartbeats 1000000 in
theorem wb_X11_old_37 (G : zG) (n : Nat) (l1 : Int32) (l2 : Int32) (l3 : Nat) (h : zH) : zW G yX11_old cX11_old 4 (some .int) zvI 1 37 [(1, .int l1), (2, .int l2), (3, .ref (zbase G + l3))] [] h (fb_X11_old_37 n l1 l2 l3 h) := by
  unfold fb_X11_old_37
  refine zi_iload_n dX11_old_37 rfl 0 rfl ?_
  refine zi_iconst (v := 1) dX11_old_38 (by decide) ?_
  refine zi_icmp_ne (tgt := 67) dX11_old_39 (by decide) ?_ ?_
  · refine zi_iconst (v := (-1)) dX11_old_67 (by decide) ?_
    exact zi_retI dX11_old_68
  · refine zi_iload_n dX11_old_42 rfl 1 rfl ?_
    refine zi_if_lt (tgt := 67) dX11_old_43 (by decide) ?_ ?_
    · refine zi_iconst (v := (-1)) dX11_old_67 (by decide) ?_
      exact zi_retI dX11_old_68
    · refine zi_iload_n dX11_old_46 rfl 1 rfl ?_
      refine zi_aload_n dX11_old_47 rfl 2 rfl ?_
      refine zi_getI dX11_old_48 gf_X11_183 (fun v1 => ?_)
      refine zi_icmp_ge (tgt := 67) dX11_old_51 (by decide) ?_ ?_
      · refine zi_iconst (v := (-1)) dX11_old_67 (by decide) ?_
        exact zi_retI dX11_old_68
      · refine zi_iload_n dX11_old_54 rfl 1 rfl ?_
        refine zi_bipush (v := 24) dX11_old_55 (by decide) ?_
        refine zi_icmp_ge (tgt := 67) dX11_old_57 (by decide) ?_ ?_
        · refine zi_iconst (v := (-1)) dX11_old_67 (by decide) ?_
          exact zi_retI dX11_old_68
        · refine zi_aload_n dX11_old_60 rfl 2 rfl ?_
          refine zi_getR dX11_old_61 gf_X11_186 (fun v2 => ?_)
          refine zi_iload_n dX11_old_64 rfl 1 rfl ?_
          refine zi_iald dX11_old_65 (fun v3 => ?_)
          exact zi_retI dX11_old_66
set_option maxRecDepth 20000 in
set_option maxHeartbeats 1000000 in
theorem k_X11_old (G : zG) (n : Nat) (a0 : Nat) (a1 : Int32) (a2 : Int32) (h : zH) : zMet G yX11_old cX11_old 4 (some .int) zvI 1 [.ref (zbase G + a0), .int a1, .int a2] h (f_X11_old n a0 a1 a2 h) := by
  refine zMet_of (l := [(0, .ref (zbase G + a0)), (1, .int a1), (2, .int a2)]) (by decide) (Nat.le_of_ble_eq_true rfl) rfl ?_
  unfold f_X11_old
  refine zi_aload_n dX11_old_0 rfl 0 rfl ?_
  refine zi_getR dX11_old_1 gf_X11_10 (fun v1 => ?_)
  refine zi_getR dX11_old_4 gf_X11_140 (fun v2 => ?_)
  refine zi_astore_n (l' := [(3, .ref (zbase G + v2)), (0, .ref (zbase G + a0)), (1, .int a1), (2, .int a2)]) dX11_old_7 rfl (by decide) rfl ?_
  refine zi_iload_n dX11_old_8 rfl 2 rfl ?_
  refine zi_if_ne (tgt := 37) dX11_old_9 (by decide) ?_ ?_
  · refine zi_sub [2, 3, 0] rfl ?_
    exact wb_X11_old_37 G n a1 a2 v2 h
  · refine zi_iload_n dX11_old_12 rfl 3 rfl ?_
    refine zi_if_lt (tgt := 37) dX11_old_13 (by decide) ?_ ?_
    · refine zi_sub [2, 3, 0] rfl ?_
      exact wb_X11_old_37 G n a1 a2 v2 h
    · refine zi_iload_n dX11_old_16 rfl 3 rfl ?_
      refine zi_aload_n dX11_old_17 rfl 0 rfl ?_
      refine zi_getI dX11_old_18 gf_X11_177 (fun v3 => ?_)
      refine zi_icmp_ge (tgt := 37) dX11_old_21 (by decide) ?_ ?_
      · refine zi_sub [2, 3, 0] rfl ?_
        exact wb_X11_old_37 G n a1 a2 v2 h
      · refine zi_iload_n dX11_old_24 rfl 3 rfl ?_
        refine zi_bipush (v := 24) dX11_old_25 (by decide) ?_
        refine zi_icmp_ge (tgt := 37) dX11_old_27 (by decide) ?_ ?_
        · refine zi_sub [2, 3, 0] rfl ?_
          exact wb_X11_old_37 G n a1 a2 v2 h
        · refine zi_aload_n dX11_old_30 rfl 0 rfl ?_
          refine zi_getR dX11_old_31 gf_X11_180 (fun v4 => ?_)
          refine zi_iload_n dX11_old_34 rfl 3 rfl ?_
          refine zi_iald dX11_old_35 (fun v5 => ?_)
          exact zi_retI dX11_old_36
set_option maxRecDepth 20000 in
set_option maxHeartbeats 1000000 in
theorem k_X11_mostOfTerm (G : zG) (n : Nat) (a0 : Int32) (h : zH) : zMet G yX11_mostOfTerm cX11_mostOfTerm 1 (some .int) zvI 1 [.int a0] h (f_X11_mostOfTerm n a0 h) := by
  refine zMet_of (l := [(0, .int a0)]) (by decide) (Nat.le_of_ble_eq_true rfl) rfl ?_
  unfold f_X11_mostOfTerm
  refine zi_iload_n dX11_mostOfTerm_0 rfl 0 rfl ?_
  refine zi_tsw (tgt := 38) _ dX11_mostOfTerm_1 rfl ?_ (by decide) ?_ ?_
  · intro j q hq
    match j, hq with
    | 0, hq => cases hq; exact ⟨rfl, _, rfl, rfl⟩
    | 1, hq => cases hq; exact ⟨rfl, _, rfl, rfl⟩
    | 2, hq => cases hq; exact ⟨rfl, _, rfl, rfl⟩
    | j + 3, hq => simp at hq
  · simp only [List.forall_mem_cons, List.not_mem_nil, false_implies, implies_true, and_true]
    refine ⟨?_, ?_, ?_⟩
    · refine zi_sipush (v := 999) dX11_mostOfTerm_28 (by decide) ?_
      exact zi_retI dX11_mostOfTerm_31
    · refine zi_bipush (v := 10) dX11_mostOfTerm_32 (by decide) ?_
      exact zi_retI dX11_mostOfTerm_34
    · refine zi_bipush (v := 9) dX11_mostOfTerm_35 (by decide) ?_
      exact zi_retI dX11_mostOfTerm_37
  · refine zi_iconst (v := (-1)) dX11_mostOfTerm_38 (by decide) ?_
    exact zi_retI dX11_mostOfTerm_39
set_option maxRecDepth 20000 in
set_option maxHeartbeats 1000000 in
theorem k_X11_termNow (G : zG) (n : Nat) (a0 : Nat) (a1 : Int32) (h : zH) : zMet G yX11_termNow cX11_termNow 2 (some .int) zvI 1 [.ref (zbase G + a0), .int a1] h (f_X11_termNow n a0 a1 h) := by
  refine zMet_of (l := [(0, .ref (zbase G + a0)), (1, .int a1)]) (by decide) (Nat.le_of_ble_eq_true rfl) rfl ?_
  unfold f_X11_termNow
  refine zi_iload_n dX11_termNow_0 rfl 1 rfl ?_
  refine zi_tsw (tgt := 52) _ dX11_termNow_1 rfl ?_ (by decide) ?_ ?_
  · intro j q hq
    match j, hq with
    | 0, hq => cases hq; exact ⟨rfl, _, rfl, rfl⟩
    | 1, hq => cases hq; exact ⟨rfl, _, rfl, rfl⟩
    | 2, hq => cases hq; exact ⟨rfl, _, rfl, rfl⟩
    | j + 3, hq => simp at hq
  · simp only [List.forall_mem_cons, List.not_mem_nil, false_implies, implies_true, and_true]
    refine ⟨?_, ?_, ?_⟩
    · refine zi_aload_n dX11_termNow_28 rfl 0 rfl ?_
      refine zi_getR dX11_termNow_29 gf_X11_10 (fun v1 => ?_)
      refine zi_getI dX11_termNow_32 gf_X11_198 (fun v2 => ?_)
      exact zi_retI dX11_termNow_35
    · refine zi_aload_n dX11_termNow_36 rfl 0 rfl ?_
      refine zi_getR dX11_termNow_37 gf_X11_31 (fun v3 => ?_)
      refine zi_getI dX11_termNow_40 gf_X11_201 (fun v4 => ?_)
      exact zi_retI dX11_termNow_43
    · refine zi_aload_n dX11_termNow_44 rfl 0 rfl ?_
      refine zi_getR dX11_termNow_45 gf_X11_31 (fun v5 => ?_)
      refine zi_getI dX11_termNow_48 gf_X11_204 (fun v6 => ?_)
      exact zi_retI dX11_termNow_51
  · refine zi_iconst (v := (-1)) dX11_termNow_52 (by decide) ?_
    exact zi_retI dX11_termNow_53
set_option maxRecDepth 20000 in
set_option maxHeartbeats 1000000 in
theorem k_X2_clear (G : zG) (n : Nat) (a0 : Nat) (h : zH) : zMet G yX2_clear cX2_clear 1 none zvU 1 [.ref (zbase G + a0)] h (f_X2_clear n a0 h) := by
  refine zMet_of (l := [(0, .ref (zbase G + a0))]) (by decide) (Nat.le_of_ble_eq_true rfl) rfl ?_
  unfold f_X2_clear
  refine zi_aload_n dX2_clear_0 rfl 0 rfl ?_
  refine zi_iconst (v := 0) dX2_clear_1 (by decide) ?_
  refine zi_putI dX2_clear_2 gf_X2_25 (fun h1 => ?_)
  exact zi_retV dX2_clear_5
set_option maxRecDepth 20000 in
set_option maxHeartbeats 1000000 in
theorem k_J9_min_7cf53 (G : zG) (n : Nat) (a0 : Int32) (a1 : Int32) (h : zH) : zMet G yJ9_min_7cf53 cJ9_min_7cf53 2 (some .int) zvI 1 [.int a0, .int a1] h (f_J9_min_7cf53 n a0 a1 h) := by
  refine zMet_ofF (l := [(0, .int a0), (1, .int a1)]) (by decide +kernel) (Nat.le_of_ble_eq_true rfl) rfl ?_
  unfold f_J9_min_7cf53
  refine zi_iload_n dJ9_min_7cf53_0 rfl 0 rfl ?_
  refine zi_iload_n dJ9_min_7cf53_1 rfl 1 rfl ?_
  refine zi_icmp_gt (tgt := 9) dJ9_min_7cf53_2 (by decide) ?_ ?_
  · refine zi_iload_n dJ9_min_7cf53_9 rfl 1 rfl ?_
    exact zi_retI dJ9_min_7cf53_10
  · refine zi_iload_n dJ9_min_7cf53_5 rfl 0 rfl ?_
    refine zi_goto (tgt := 10) dJ9_min_7cf53_6 (by decide) ?_
    exact zi_retI dJ9_min_7cf53_10
set_option maxRecDepth 20000 in
set_option maxHeartbeats 1000000 in
theorem wb_X11_told_25 (G : zG) (n : Nat) (l0 : Nat) (l1 : Int32) (s0 : Int32) (h : zH) : zW G yX11_told cX11_told 3 (some .int) zvI 2 25 [(0, .ref (zbase G + l0)), (1, .int l1)] [.int s0] h (fb_X11_told_25 n l0 l1 s0 h) := by
  unfold fb_X11_told_25
  refine zi_istore_n (l' := [(2, .int s0), (0, .ref (zbase G + l0)), (1, .int l1)]) dX11_told_25 rfl (by decide) rfl ?_
  refine zi_iload_n dX11_told_26 rfl 2 rfl ?_
  refine zi_if_ge (tgt := 53) dX11_told_27 (by decide) ?_ ?_
  · refine zi_iload_n dX11_told_53 rfl 2 rfl ?_
    exact zi_retI dX11_told_54
  · refine zi_iload_n dX11_told_30 rfl 0 rfl ?_
    refine zi_if_lt (tgt := 53) dX11_told_31 (by decide) ?_ ?_
    · refine zi_iload_n dX11_told_53 rfl 2 rfl ?_
      exact zi_retI dX11_told_54
    · refine zi_iload_n dX11_told_34 rfl 0 rfl ?_
      refine zi_aload_n dX11_told_35 rfl 1 rfl ?_
      refine zi_getR dX11_told_36 gf_X11_76 (fun v1 => ?_)
      refine zi_alen (Or.inl rfl) dX11_told_39 (fun v2 => ?_)
      refine zi_icmp_ge (tgt := 53) dX11_told_40 (by decide) ?_ ?_
      · refine zi_iload_n dX11_told_53 rfl 2 rfl ?_
        exact zi_retI dX11_told_54
      · refine zi_aload_n dX11_told_43 rfl 1 rfl ?_
        refine zi_getR dX11_told_44 gf_X11_76 (fun v3 => ?_)
        refine zi_iload_n dX11_told_47 rfl 0 rfl ?_
        refine zi_dup2 dX11_told_48 rfl rfl ?_
        refine zi_iald dX11_told_49 (fun v4 => ?_)
        refine zi_iconst (v := 1) dX11_told_50 (by decide) ?_
        refine zi_iadd dX11_told_51 ?_
        refine zi_iast dX11_told_52 (fun h5 => ?_)
        refine zi_iload_n dX11_told_53 rfl 2 rfl ?_
        exact zi_retI dX11_told_54
set_option maxRecDepth 20000 in
set_option maxHeartbeats 1000000 in
theorem k_X11_told (G : zG) (n : Nat) (a0 : Nat) (a1 : Int32) (h : zH) : zMet G yX11_told cX11_told 3 (some .int) zvI 2 [.ref (zbase G + a0), .int a1] h (f_X11_told n a0 a1 h) := by
  refine zMet_of (l := [(0, .ref (zbase G + a0)), (1, .int a1)]) (by decide) (Nat.le_of_ble_eq_true rfl) rfl ?_
  unfold f_X11_told
  refine zi_aload_n dX11_told_0 rfl 0 rfl ?_
  refine zi_iload_n dX11_told_1 rfl 1 rfl ?_
  refine zi_iconst (v := 0) dX11_told_2 (by decide) ?_
  refine zi_callSI (As := [.int a1, .int 0]) (rest := [.ref (zbase G + a0)]) dX11_told_3 ml_X11_387 md_J9_min_7cf53 ms_J9_min_7cf53 rfl rfl (Nat.le_of_ble_eq_true rfl) (Nat.le_of_ble_eq_true rfl) (k_J9_min_7cf53 G n a1 0 h) (fun r1 h2 => ?_)
  refine zi_putI dX11_told_6 gf_X11_103 (fun h3 => ?_)
  refine zi_iload_n dX11_told_9 rfl 1 rfl ?_
  refine zi_bipush (v := (-3)) dX11_told_10 (by decide) ?_
  refine zi_icmp_lt (tgt := 21) dX11_told_12 (by decide) ?_ ?_
  · refine zi_bipush (v := (-2)) dX11_told_21 (by decide) ?_
    refine zi_iload_n dX11_told_23 rfl 1 rfl ?_
    refine zi_isub dX11_told_24 ?_
    refine zi_sub [0, 1] rfl ?_
    exact wb_X11_told_25 G n a0 a1 (((-2) : Int32) - a1) h3
  · refine zi_iconst (v := (-1)) dX11_told_15 (by decide) ?_
    refine zi_iload_n dX11_told_16 rfl 1 rfl ?_
    refine zi_isub dX11_told_17 ?_
    refine zi_goto (tgt := 25) dX11_told_18 (by decide) ?_
    refine zi_sub [0, 1] rfl ?_
    exact wb_X11_told_25 G n a0 a1 (((-1) : Int32) - a1) h3
set_option maxRecDepth 20000 in
set_option maxHeartbeats 1000000 in
theorem wb_X11_terms_14 (G : zG) (n : Nat) (l0 : Nat) (h : zH) : zW G yX11_terms cX11_terms 5 (some .int) zvI 3 14 [(0, .ref (zbase G + l0))] [] h (fb_X11_terms_14 n l0 h) := by
  unfold fb_X11_terms_14
  refine zi_aload_n dX11_terms_14 rfl 0 rfl ?_
  refine zi_iconst (v := (-1)) dX11_terms_15 (by decide) ?_
  refine zi_callVI (As := [.int (-1)]) (rest := []) (ci := 11) dX11_terms_16 ml_X11_192 md_X11_told mv_X11_told rfl (by decide) rfl rfl (Nat.le_of_ble_eq_true rfl) (Nat.le_of_ble_eq_true rfl) (k_X11_told G n l0 (-1) h) (fun r1 h2 => ?_)
  exact zi_retI dX11_terms_19
set_option maxRecDepth 20000 in
set_option maxHeartbeats 1000000 in
theorem wb_X11_terms_66 (G : zG) (n : Nat) (l0 : Nat) (l4 : Int32) (h : zH) : zW G yX11_terms cX11_terms 5 (some .int) zvI 3 66 [(0, .ref (zbase G + l0)), (4, .int l4)] [] h (fb_X11_terms_66 n l0 l4 h) := by
  unfold fb_X11_terms_66
  refine zi_aload_n dX11_terms_66 rfl 0 rfl ?_
  refine zi_getR dX11_terms_67 gf_X11_45 (fun v1 => ?_)
  refine zi_callVU (As := []) (rest := []) (ci := 2) dX11_terms_70 ml_X11_207 md_X2_clear mv_X2_clear rfl (by decide) rfl rfl (Nat.le_of_ble_eq_true rfl) (Nat.le_of_ble_eq_true rfl) (k_X2_clear G n v1 h) (fun _ h3 => ?_)
  refine zi_aload_n dX11_terms_73 rfl 0 rfl ?_
  refine zi_iload dX11_terms_74 1 rfl ?_
  refine zi_callVI (As := [.int l4]) (rest := []) (ci := 11) dX11_terms_76 ml_X11_192 md_X11_told mv_X11_told rfl (by decide) rfl rfl (Nat.le_of_ble_eq_true rfl) (Nat.le_of_ble_eq_true rfl) (k_X11_told G n l0 l4 h3) (fun r4 h5 => ?_)
  exact zi_retI dX11_terms_79
set_option maxRecDepth 20000 in
set_option maxHeartbeats 1000000 in
theorem k_X11_terms (G : zG) (n : Nat) (a0 : Nat) (a1 : Int32) (a2 : Int32) (h : zH) : zMet G yX11_terms cX11_terms 5 (some .int) zvI 3 [.ref (zbase G + a0), .int a1, .int a2] h (f_X11_terms n a0 a1 a2 h) := by
  refine zMet_of (l := [(0, .ref (zbase G + a0)), (1, .int a1), (2, .int a2)]) (by decide) (Nat.le_of_ble_eq_true rfl) rfl ?_
  unfold f_X11_terms
  refine zi_iload_n dX11_terms_0 rfl 1 rfl ?_
  refine zi_callSI (As := [.int a1]) (rest := []) dX11_terms_1 ml_X11_189 md_X11_mostOfTerm ms_X11_mostOfTerm rfl rfl (Nat.le_of_ble_eq_true rfl) (Nat.le_of_ble_eq_true rfl) (k_X11_mostOfTerm G n a1 h) (fun r1 h2 => ?_)
  refine zi_istore_n (l' := [(3, .int r1), (0, .ref (zbase G + a0)), (1, .int a1), (2, .int a2)]) dX11_terms_4 rfl (by decide) rfl ?_
  refine zi_iload_n dX11_terms_5 rfl 3 rfl ?_
  refine zi_if_lt (tgt := 14) dX11_terms_6 (by decide) ?_ ?_
  · refine zi_sub [1] rfl ?_
    exact wb_X11_terms_14 G n a0 h2
  · refine zi_iload_n dX11_terms_9 rfl 3 rfl ?_
    refine zi_iload_n dX11_terms_10 rfl 0 rfl ?_
    refine zi_icmp_le (tgt := 20) dX11_terms_11 (by decide) ?_ ?_
    · refine zi_aload_n dX11_terms_20 rfl 1 rfl ?_
      refine zi_iload_n dX11_terms_21 rfl 2 rfl ?_
      refine zi_callVI (As := [.int a1]) (rest := []) (ci := 11) dX11_terms_22 ml_X11_195 md_X11_termNow mv_X11_termNow rfl (by decide) rfl rfl (Nat.le_of_ble_eq_true rfl) (Nat.le_of_ble_eq_true rfl) (k_X11_termNow G n a0 a1 h2) (fun r3 h4 => ?_)
      refine zi_istore (l' := [(4, .int r3), (3, .int r1), (0, .ref (zbase G + a0)), (1, .int a1), (2, .int a2)]) dX11_terms_25 (by decide) rfl ?_
      refine zi_iload_n dX11_terms_27 rfl 3 rfl ?_
      refine zi_if_ne (tgt := 42) dX11_terms_28 (by decide) ?_ ?_
      · refine zi_iload_n dX11_terms_42 rfl 3 rfl ?_
        refine zi_iconst (v := 1) dX11_terms_43 (by decide) ?_
        refine zi_icmp_ne (tgt := 58) dX11_terms_44 (by decide) ?_ ?_
        · refine zi_aload_n dX11_terms_58 rfl 2 rfl ?_
          refine zi_getR dX11_terms_59 gf_X11_31 (fun v5 => ?_)
          refine zi_iload_n dX11_terms_62 rfl 4 rfl ?_
          refine zi_putI dX11_terms_63 gf_X11_204 (fun h6 => ?_)
          refine zi_sub [2, 0] rfl ?_
          exact wb_X11_terms_66 G n a0 r3 h6
        · refine zi_aload_n dX11_terms_47 rfl 2 rfl ?_
          refine zi_getR dX11_terms_48 gf_X11_31 (fun v7 => ?_)
          refine zi_iload_n dX11_terms_51 rfl 4 rfl ?_
          refine zi_putI dX11_terms_52 gf_X11_201 (fun h8 => ?_)
          refine zi_goto (tgt := 66) dX11_terms_55 (by decide) ?_
          refine zi_sub [2, 0] rfl ?_
          exact wb_X11_terms_66 G n a0 r3 h8
      · refine zi_aload_n dX11_terms_31 rfl 2 rfl ?_
        refine zi_getR dX11_terms_32 gf_X11_10 (fun v9 => ?_)
        refine zi_iload_n dX11_terms_35 rfl 4 rfl ?_
        refine zi_putI dX11_terms_36 gf_X11_198 (fun h10 => ?_)
        refine zi_goto (tgt := 66) dX11_terms_39 (by decide) ?_
        refine zi_sub [2, 0] rfl ?_
        exact wb_X11_terms_66 G n a0 r3 h10
    · refine zi_sub [1] rfl ?_
      exact wb_X11_terms_14 G n a0 h2
set_option maxRecDepth 20000 in
set_option maxHeartbeats 1000000 in
theorem wb_X7_addFour_3 (G : zG) (n : Nat) (k3 : Nat → Int32 → Int32 → zH → Option (Unit × zH)) (hk3 : ∀ (l0 : Nat) (l1 : Int32) (l2 : Int32) (h : zH), zW G yX7_addFour cX7_addFour 3 none zvU 1 3 [(0, .ref (zbase G + l0)), (1, .int l1), (2, .int l2)] [] h (k3 l0 l1 l2 h)) (l0 : Nat) (l1 : Int32) (l2 : Int32) (h : zH) : zW G yX7_addFour cX7_addFour 3 none zvU 1 3 [(0, .ref (zbase G + l0)), (1, .int l1), (2, .int l2)] [] h (fb_X7_addFour_3 n k3 l0 l1 l2 h) := by
  unfold fb_X7_addFour_3
  refine zi_iload_n dX7_addFour_3 rfl 2 rfl ?_
  refine zi_if_lt (tgt := 49) dX7_addFour_4 (by decide) ?_ ?_
  · exact zi_retV dX7_addFour_49
  · refine zi_aload_n dX7_addFour_7 rfl 0 rfl ?_
    refine zi_getI dX7_addFour_8 gf_X7_15 (fun v1 => ?_)
    refine zi_sipush (v := 400) dX7_addFour_11 (by decide) ?_
    refine zi_icmp_ge (tgt := 49) dX7_addFour_14 (by decide) ?_ ?_
    · exact zi_retV dX7_addFour_49
    · refine zi_aload_n dX7_addFour_17 rfl 0 rfl ?_
      refine zi_getR dX7_addFour_18 gf_X7_9 (fun v2 => ?_)
      refine zi_aload_n dX7_addFour_21 rfl 0 rfl ?_
      refine zi_getI dX7_addFour_22 gf_X7_15 (fun v3 => ?_)
      refine zi_iload_n dX7_addFour_25 rfl 1 rfl ?_
      refine zi_iload_n dX7_addFour_26 rfl 2 rfl ?_
      refine zi_iushr dX7_addFour_27 ?_
      refine zi_sipush (v := 255) dX7_addFour_28 (by decide) ?_
      refine zi_iand dX7_addFour_31 ?_
      refine zi_iast dX7_addFour_32 (fun h4 => ?_)
      refine zi_aload_n dX7_addFour_33 rfl 0 rfl ?_
      refine zi_dup dX7_addFour_34 rfl ?_
      refine zi_getI dX7_addFour_35 gf_X7_15 (fun v5 => ?_)
      refine zi_iconst (v := 1) dX7_addFour_38 (by decide) ?_
      refine zi_iadd dX7_addFour_39 ?_
      refine zi_putI dX7_addFour_40 gf_X7_15 (fun h6 => ?_)
      refine zi_iinc (j := 2) (v := l2 + (-8)) (l' := [(2, .int (l2 + (-8))), (0, .ref (zbase G + l0)), (1, .int l1)]) dX7_addFour_43 rfl rfl (by decide) rfl ?_
      refine zi_goto (tgt := 3) dX7_addFour_46 (by decide) ?_
      refine zi_sub [1, 2, 0] rfl ?_
      exact hk3 l0 l1 (l2 + (-8)) h6
theorem wl_X7_addFour_3 (G : zG) (n : Nat) : ∀ (t : Nat) (l0 : Nat) (l1 : Int32) (l2 : Int32) (h : zH), zW G yX7_addFour cX7_addFour 3 none zvU 1 3 [(0, .ref (zbase G + l0)), (1, .int l1), (2, .int l2)] [] h (zlp3 (fb_X7_addFour_3 n ) t l0 l1 l2 h) := by
  intro t
  induction t with
  | zero => intros; exact zW_none
  | succ t ih => intro l0 l1 l2 h; rw [zlp3_s]; exact wb_X7_addFour_3 G n  _  ih l0 l1 l2 h
set_option maxRecDepth 20000 in
set_option maxHeartbeats 1000000 in
theorem k_X7_addFour (G : zG) (n : Nat) (a0 : Nat) (a1 : Int32) (h : zH) : zMet G yX7_addFour cX7_addFour 3 none zvU 1 [.ref (zbase G + a0), .int a1] h (f_X7_addFour n a0 a1 h) := by
  refine zMet_of (l := [(0, .ref (zbase G + a0)), (1, .int a1)]) (by decide) (Nat.le_of_ble_eq_true rfl) rfl ?_
  unfold f_X7_addFour
  refine zi_bipush (v := 24) dX7_addFour_0 (by decide) ?_
  refine zi_istore_n (l' := [(2, .int 24), (0, .ref (zbase G + a0)), (1, .int a1)]) dX7_addFour_2 rfl (by decide) rfl ?_
  refine zi_sub [1, 2, 0] rfl ?_
  exact wl_X7_addFour_3 G n n a0 a1 24 h
set_option maxRecDepth 20000 in
set_option maxHeartbeats 1000000 in
theorem k_X11_feed (G : zG) (n : Nat) (a0 : Nat) (a1 : Int32) (a2 : Int32) (a3 : Int32) (a4 : Int32) (a5 : Int32) (h : zH) : zMet G yX11_feed cX11_feed 6 (some .int) zvI 2 [.ref (zbase G + a0), .int a1, .int a2, .int a3, .int a4, .int a5] h (f_X11_feed n a0 a1 a2 a3 a4 a5 h) := by
  refine zMet_of (l := [(0, .ref (zbase G + a0)), (1, .int a1), (2, .int a2), (3, .int a3), (4, .int a4), (5, .int a5)]) (by decide) (Nat.le_of_ble_eq_true rfl) rfl ?_
  unfold f_X11_feed
  refine zi_aload_n dX11_feed_0 rfl 0 rfl ?_
  refine zi_getR dX11_feed_1 gf_X11_65 (fun v1 => ?_)
  refine zi_getI dX11_feed_4 gf_X11_210 (fun v2 => ?_)
  refine zi_bipush (v := 20) dX11_feed_7 (by decide) ?_
  refine zi_iadd dX11_feed_9 ?_
  refine zi_sipush (v := 400) dX11_feed_10 (by decide) ?_
  refine zi_icmp_le (tgt := 18) dX11_feed_13 (by decide) ?_ ?_
  · refine zi_aload_n dX11_feed_18 rfl 0 rfl ?_
    refine zi_getR dX11_feed_19 gf_X11_65 (fun v3 => ?_)
    refine zi_iload_n dX11_feed_22 rfl 1 rfl ?_
    refine zi_callVU (As := [.int a1]) (rest := []) (ci := 7) dX11_feed_23 ml_X11_213 md_X7_addFour mv_X7_addFour rfl (by decide) rfl rfl (Nat.le_of_ble_eq_true rfl) (Nat.le_of_ble_eq_true rfl) (k_X7_addFour G n v3 a1 h) (fun _ h5 => ?_)
    refine zi_aload_n dX11_feed_26 rfl 0 rfl ?_
    refine zi_getR dX11_feed_27 gf_X11_65 (fun v6 => ?_)
    refine zi_iload_n dX11_feed_30 rfl 2 rfl ?_
    refine zi_callVU (As := [.int a2]) (rest := []) (ci := 7) dX11_feed_31 ml_X11_213 md_X7_addFour mv_X7_addFour rfl (by decide) rfl rfl (Nat.le_of_ble_eq_true rfl) (Nat.le_of_ble_eq_true rfl) (k_X7_addFour G n v6 a2 h5) (fun _ h8 => ?_)
    refine zi_aload_n dX11_feed_34 rfl 0 rfl ?_
    refine zi_getR dX11_feed_35 gf_X11_65 (fun v9 => ?_)
    refine zi_iload_n dX11_feed_38 rfl 3 rfl ?_
    refine zi_callVU (As := [.int a3]) (rest := []) (ci := 7) dX11_feed_39 ml_X11_213 md_X7_addFour mv_X7_addFour rfl (by decide) rfl rfl (Nat.le_of_ble_eq_true rfl) (Nat.le_of_ble_eq_true rfl) (k_X7_addFour G n v9 a3 h8) (fun _ h11 => ?_)
    refine zi_aload_n dX11_feed_42 rfl 0 rfl ?_
    refine zi_getR dX11_feed_43 gf_X11_65 (fun v12 => ?_)
    refine zi_iload dX11_feed_46 4 rfl ?_
    refine zi_callVU (As := [.int a4]) (rest := []) (ci := 7) dX11_feed_48 ml_X11_213 md_X7_addFour mv_X7_addFour rfl (by decide) rfl rfl (Nat.le_of_ble_eq_true rfl) (Nat.le_of_ble_eq_true rfl) (k_X7_addFour G n v12 a4 h11) (fun _ h14 => ?_)
    refine zi_aload_n dX11_feed_51 rfl 0 rfl ?_
    refine zi_getR dX11_feed_52 gf_X11_65 (fun v15 => ?_)
    refine zi_iload dX11_feed_55 5 rfl ?_
    refine zi_callVU (As := [.int a5]) (rest := []) (ci := 7) dX11_feed_57 ml_X11_213 md_X7_addFour mv_X7_addFour rfl (by decide) rfl rfl (Nat.le_of_ble_eq_true rfl) (Nat.le_of_ble_eq_true rfl) (k_X7_addFour G n v15 a5 h14) (fun _ h17 => ?_)
    refine zi_aload_n dX11_feed_60 rfl 0 rfl ?_
    refine zi_getR dX11_feed_61 gf_X11_65 (fun v18 => ?_)
    refine zi_getI dX11_feed_64 gf_X11_210 (fun v19 => ?_)
    exact zi_retI dX11_feed_67
  · refine zi_iconst (v := (-1)) dX11_feed_16 (by decide) ?_
    exact zi_retI dX11_feed_17
set_option maxRecDepth 20000 in
set_option maxHeartbeats 1000000 in
theorem k_X11_end (G : zG) (n : Nat) (a0 : Nat) (a1 : Int32) (h : zH) : zMet G yX11_end cX11_end 2 (some .int) zvI 1 [.ref (zbase G + a0), .int a1] h (f_X11_end n a0 a1 h) := by
  refine zMet_of (l := [(0, .ref (zbase G + a0)), (1, .int a1)]) (by decide) (Nat.le_of_ble_eq_true rfl) rfl ?_
  unfold f_X11_end
  refine zi_iload_n dX11_end_0 rfl 1 rfl ?_
  refine zi_if_lt (tgt := 15) dX11_end_1 (by decide) ?_ ?_
  · refine zi_iconst (v := (-1)) dX11_end_15 (by decide) ?_
    exact zi_retI dX11_end_16
  · refine zi_iload_n dX11_end_4 rfl 1 rfl ?_
    refine zi_aload_n dX11_end_5 rfl 0 rfl ?_
    refine zi_getR dX11_end_6 gf_X11_65 (fun v1 => ?_)
    refine zi_getI dX11_end_9 gf_X11_210 (fun v2 => ?_)
    refine zi_icmp_le (tgt := 17) dX11_end_12 (by decide) ?_ ?_
    · refine zi_aload_n dX11_end_17 rfl 0 rfl ?_
      refine zi_getR dX11_end_18 gf_X11_65 (fun v3 => ?_)
      refine zi_iload_n dX11_end_21 rfl 1 rfl ?_
      refine zi_putI dX11_end_22 gf_X11_210 (fun h4 => ?_)
      refine zi_iload_n dX11_end_25 rfl 1 rfl ?_
      exact zi_retI dX11_end_26
    · refine zi_iconst (v := (-1)) dX11_end_15 (by decide) ?_
      exact zi_retI dX11_end_16
set_option maxRecDepth 20000 in
set_option maxHeartbeats 1000000 in
theorem k_X6_lawAt (G : zG) (n : Nat) (a0 : Nat) (a1 : Int32) (h : zH) : zMet G yX6_lawAt cX6_lawAt 2 (some (.object "GraceTree$Text")) (zvN G) 1 [.ref (zbase G + a0), .int a1] h (f_X6_lawAt n a0 a1 h) := by
  refine zMet_of (l := [(0, .ref (zbase G + a0)), (1, .int a1)]) (by decide) (Nat.le_of_ble_eq_true rfl) rfl ?_
  unfold f_X6_lawAt
  refine zi_iload_n dX6_lawAt_0 rfl 1 rfl ?_
  refine zi_if_lt (tgt := 27) dX6_lawAt_1 (by decide) ?_ ?_
  · refine zi_null dX6_lawAt_27 ?_
    exact zi_retN (a := 0) dX6_lawAt_28
  · refine zi_iload_n dX6_lawAt_4 rfl 1 rfl ?_
    refine zi_aload_n dX6_lawAt_5 rfl 0 rfl ?_
    refine zi_getI dX6_lawAt_6 gf_X6_17 (fun v1 => ?_)
    refine zi_icmp_ge (tgt := 27) dX6_lawAt_9 (by decide) ?_ ?_
    · refine zi_null dX6_lawAt_27 ?_
      exact zi_retN (a := 0) dX6_lawAt_28
    · refine zi_iload_n dX6_lawAt_12 rfl 1 rfl ?_
      refine zi_bipush (v := 6) dX6_lawAt_13 (by decide) ?_
      refine zi_icmp_ge (tgt := 27) dX6_lawAt_15 (by decide) ?_ ?_
      · refine zi_null dX6_lawAt_27 ?_
        exact zi_retN (a := 0) dX6_lawAt_28
      · refine zi_aload_n dX6_lawAt_18 rfl 0 rfl ?_
        refine zi_getR dX6_lawAt_19 gf_X6_11 (fun v2 => ?_)
        refine zi_iload_n dX6_lawAt_22 rfl 1 rfl ?_
        refine zi_aaldT dX6_lawAt_23 (fun v3 => ?_)
        refine zi_goto (tgt := 28) dX6_lawAt_24 (by decide) ?_
        exact zi_retN (a := v3) dX6_lawAt_28
set_option maxRecDepth 20000 in
set_option maxHeartbeats 1000000 in
theorem k_X6_tellWhere (G : zG) (n : Nat) (a0 : Nat) (a1 : Int32) (a2 : Int32) (a3 : Int32) (a4 : Int32) (h : zH) : zMet G yX6_tellWhere cX6_tellWhere 5 none zvU 1 [.ref (zbase G + a0), .int a1, .int a2, .int a3, .int a4] h (f_X6_tellWhere n a0 a1 a2 a3 a4 h) := by
  refine zMet_of (l := [(0, .ref (zbase G + a0)), (1, .int a1), (2, .int a2), (3, .int a3), (4, .int a4)]) (by decide) (Nat.le_of_ble_eq_true rfl) rfl ?_
  unfold f_X6_tellWhere
  refine zi_aload_n dX6_tellWhere_0 rfl 0 rfl ?_
  refine zi_getR dX6_tellWhere_1 gf_X6_30 (fun v1 => ?_)
  refine zi_getR dX6_tellWhere_4 gf_X6_90 (fun v2 => ?_)
  refine zi_iconst (v := 0) dX6_tellWhere_7 (by decide) ?_
  refine zi_iload_n dX6_tellWhere_8 rfl 1 rfl ?_
  refine zi_iast dX6_tellWhere_9 (fun h3 => ?_)
  refine zi_aload_n dX6_tellWhere_10 rfl 0 rfl ?_
  refine zi_getR dX6_tellWhere_11 gf_X6_30 (fun v4 => ?_)
  refine zi_getR dX6_tellWhere_14 gf_X6_90 (fun v5 => ?_)
  refine zi_iconst (v := 1) dX6_tellWhere_17 (by decide) ?_
  refine zi_iload_n dX6_tellWhere_18 rfl 2 rfl ?_
  refine zi_iast dX6_tellWhere_19 (fun h6 => ?_)
  refine zi_aload_n dX6_tellWhere_20 rfl 0 rfl ?_
  refine zi_getR dX6_tellWhere_21 gf_X6_30 (fun v7 => ?_)
  refine zi_getR dX6_tellWhere_24 gf_X6_90 (fun v8 => ?_)
  refine zi_iconst (v := 2) dX6_tellWhere_27 (by decide) ?_
  refine zi_iload_n dX6_tellWhere_28 rfl 3 rfl ?_
  refine zi_iast dX6_tellWhere_29 (fun h9 => ?_)
  refine zi_aload_n dX6_tellWhere_30 rfl 0 rfl ?_
  refine zi_getR dX6_tellWhere_31 gf_X6_30 (fun v10 => ?_)
  refine zi_getR dX6_tellWhere_34 gf_X6_90 (fun v11 => ?_)
  refine zi_iconst (v := 3) dX6_tellWhere_37 (by decide) ?_
  refine zi_iload dX6_tellWhere_38 4 rfl ?_
  refine zi_iast dX6_tellWhere_40 (fun h12 => ?_)
  exact zi_retV dX6_tellWhere_41
set_option maxRecDepth 20000 in
set_option maxHeartbeats 1000000 in
theorem k_X6_tellWhat (G : zG) (n : Nat) (a0 : Nat) (a1 : Int32) (a2 : Int32) (h : zH) : zMet G yX6_tellWhat cX6_tellWhat 3 none zvU 1 [.ref (zbase G + a0), .int a1, .int a2] h (f_X6_tellWhat n a0 a1 a2 h) := by
  refine zMet_of (l := [(0, .ref (zbase G + a0)), (1, .int a1), (2, .int a2)]) (by decide) (Nat.le_of_ble_eq_true rfl) rfl ?_
  unfold f_X6_tellWhat
  refine zi_aload_n dX6_tellWhat_0 rfl 0 rfl ?_
  refine zi_getR dX6_tellWhat_1 gf_X6_30 (fun v1 => ?_)
  refine zi_getR dX6_tellWhat_4 gf_X6_90 (fun v2 => ?_)
  refine zi_iconst (v := 4) dX6_tellWhat_7 (by decide) ?_
  refine zi_iload_n dX6_tellWhat_8 rfl 1 rfl ?_
  refine zi_iast dX6_tellWhat_9 (fun h3 => ?_)
  refine zi_aload_n dX6_tellWhat_10 rfl 0 rfl ?_
  refine zi_getR dX6_tellWhat_11 gf_X6_30 (fun v4 => ?_)
  refine zi_getR dX6_tellWhat_14 gf_X6_90 (fun v5 => ?_)
  refine zi_iconst (v := 5) dX6_tellWhat_17 (by decide) ?_
  refine zi_iload_n dX6_tellWhat_18 rfl 2 rfl ?_
  refine zi_iast dX6_tellWhat_19 (fun h6 => ?_)
  refine zi_aload_n dX6_tellWhat_20 rfl 0 rfl ?_
  refine zi_getR dX6_tellWhat_21 gf_X6_30 (fun v7 => ?_)
  refine zi_getR dX6_tellWhat_24 gf_X6_90 (fun v8 => ?_)
  refine zi_bipush (v := 6) dX6_tellWhat_27 (by decide) ?_
  refine zi_aload_n dX6_tellWhat_29 rfl 0 rfl ?_
  refine zi_getI dX6_tellWhat_30 gf_X6_27 (fun v9 => ?_)
  refine zi_iast dX6_tellWhat_33 (fun h10 => ?_)
  exact zi_retV dX6_tellWhat_34
set_option maxRecDepth 20000 in
set_option maxHeartbeats 1000000 in
theorem k_X8_entry (G : zG) (n : Nat) (a0 : Nat) (a1 : Int32) (a2 : Int32) (h : zH) : zMet G yX8_entry cX8_entry 4 (some .int) zvI 1 [.ref (zbase G + a0), .int a1, .int a2] h (f_X8_entry n a0 a1 a2 h) := by
  refine zMet_of (l := [(0, .ref (zbase G + a0)), (1, .int a1), (2, .int a2)]) (by decide) (Nat.le_of_ble_eq_true rfl) rfl ?_
  unfold f_X8_entry
  refine zi_iconst (v := 5) dX8_entry_0 (by decide) ?_
  refine zi_iload_n dX8_entry_1 rfl 1 rfl ?_
  refine zi_imul dX8_entry_2 ?_
  refine zi_iload_n dX8_entry_3 rfl 2 rfl ?_
  refine zi_iadd dX8_entry_4 ?_
  refine zi_let (sf := fun x1 => .int x1 :: []) (fun x1 => ?_)
  refine zi_istore_n (l' := [(3, .int x1), (0, .ref (zbase G + a0)), (1, .int a1), (2, .int a2)]) dX8_entry_5 rfl (by decide) rfl ?_
  refine zi_iload_n dX8_entry_6 rfl 0 rfl ?_
  refine zi_if_lt (tgt := 28) dX8_entry_7 (by decide) ?_ ?_
  · refine zi_iconst (v := (-1)) dX8_entry_28 (by decide) ?_
    exact zi_retI dX8_entry_29
  · refine zi_iload_n dX8_entry_10 rfl 0 rfl ?_
    refine zi_aload_n dX8_entry_11 rfl 1 rfl ?_
    refine zi_getR dX8_entry_12 gf_X8_31 (fun v2 => ?_)
    refine zi_alen (Or.inl rfl) dX8_entry_15 (fun v3 => ?_)
    refine zi_icmp_ge (tgt := 28) dX8_entry_16 (by decide) ?_ ?_
    · refine zi_iconst (v := (-1)) dX8_entry_28 (by decide) ?_
      exact zi_retI dX8_entry_29
    · refine zi_aload_n dX8_entry_19 rfl 1 rfl ?_
      refine zi_getR dX8_entry_20 gf_X8_31 (fun v4 => ?_)
      refine zi_iload_n dX8_entry_23 rfl 0 rfl ?_
      refine zi_iald dX8_entry_24 (fun v5 => ?_)
      refine zi_goto (tgt := 29) dX8_entry_25 (by decide) ?_
      exact zi_retI dX8_entry_29
set_option maxRecDepth 20000 in
set_option maxHeartbeats 1000000 in
theorem wb_X4_isBroken_276 (G : zG) (n : Nat) (l0 : Nat) (h : zH) : zW G yX4_isBroken cX4_isBroken 6 (some .boolean) zvI 1 276 [(0, .ref (zbase G + l0))] [] h (fb_X4_isBroken_276 n l0 h) := by
  unfold fb_X4_isBroken_276
  refine zi_aload_n dX4_isBroken_276 rfl 0 rfl ?_
  refine zi_getL dX4_isBroken_277 gf_X4_21 (fun v1 => ?_)
  refine zi_ldc2 dX4_isBroken_280 kl_X4_41 ?_
  refine zi_lcmp dX4_isBroken_283 ?_
  refine zi_if_gt (tgt := 298) dX4_isBroken_284 (by decide) ?_ ?_
  · refine zi_iconst (v := 1) dX4_isBroken_298 (by decide) ?_
    refine zi_goto (tgt := 303) dX4_isBroken_299 (by decide) ?_
    exact zi_ret1 dX4_isBroken_303
  · refine zi_aload_n dX4_isBroken_287 rfl 0 rfl ?_
    refine zi_getL dX4_isBroken_288 gf_X4_21 (fun v2 => ?_)
    refine zi_ldc2 dX4_isBroken_291 kl_X4_43 ?_
    refine zi_lcmp dX4_isBroken_294 ?_
    refine zi_if_ge (tgt := 302) dX4_isBroken_295 (by decide) ?_ ?_
    · refine zi_iconst (v := 0) dX4_isBroken_302 (by decide) ?_
      exact zi_ret0 dX4_isBroken_303
    · refine zi_iconst (v := 1) dX4_isBroken_298 (by decide) ?_
      refine zi_goto (tgt := 303) dX4_isBroken_299 (by decide) ?_
      exact zi_ret1 dX4_isBroken_303
set_option maxRecDepth 20000 in
set_option maxHeartbeats 1000000 in
theorem wb_X4_isBroken_211 (G : zG) (n : Nat) (l0 : Nat) (s0 : Nat) (s1 : Int64) (h : zH) : zW G yX4_isBroken cX4_isBroken 6 (some .boolean) zvI 1 211 [(0, .ref (zbase G + l0))] [.long s1, .ref (zbase G + s0)] h (fb_X4_isBroken_211 n l0 s0 s1 h) := by
  unfold fb_X4_isBroken_211
  refine zi_putL dX4_isBroken_211 gf_X4_21 (fun h1 => ?_)
  refine zi_goto (tgt := 276) dX4_isBroken_214 (by decide) ?_
  refine zi_sub [0] rfl ?_
  exact wb_X4_isBroken_276 G n l0 h1
set_option maxRecDepth 20000 in
set_option maxHeartbeats 1000000 in
theorem wb_X4_isBroken_189 (G : zG) (n : Nat) (l0 : Nat) (s0 : Nat) (s1 : Int64) (h : zH) : zW G yX4_isBroken cX4_isBroken 6 (some .boolean) zvI 1 189 [(0, .ref (zbase G + l0))] [.long s1, .ref (zbase G + s0)] h (fb_X4_isBroken_189 n l0 s0 s1 h) := by
  unfold fb_X4_isBroken_189
  refine zi_putL dX4_isBroken_189 gf_X4_21 (fun h1 => ?_)
  refine zi_goto (tgt := 276) dX4_isBroken_192 (by decide) ?_
  refine zi_sub [0] rfl ?_
  exact wb_X4_isBroken_276 G n l0 h1
set_option maxRecDepth 20000 in
set_option maxHeartbeats 1000000 in
theorem wb_X4_isBroken_230 (G : zG) (n : Nat) (l0 : Nat) (s0 : Nat) (s1 : Int64) (h : zH) : zW G yX4_isBroken cX4_isBroken 6 (some .boolean) zvI 1 230 [(0, .ref (zbase G + l0))] [.long s1, .ref (zbase G + s0)] h (fb_X4_isBroken_230 n l0 s0 s1 h) := by
  unfold fb_X4_isBroken_230
  refine zi_putL dX4_isBroken_230 gf_X4_21 (fun h1 => ?_)
  refine zi_goto (tgt := 276) dX4_isBroken_233 (by decide) ?_
  refine zi_sub [0] rfl ?_
  exact wb_X4_isBroken_276 G n l0 h1
set_option maxRecDepth 20000 in
set_option maxHeartbeats 1000000 in
theorem wb_X4_isBroken_268 (G : zG) (n : Nat) (l0 : Nat) (s0 : Nat) (s1 : Int64) (h : zH) : zW G yX4_isBroken cX4_isBroken 6 (some .boolean) zvI 1 268 [(0, .ref (zbase G + l0))] [.long s1, .ref (zbase G + s0)] h (fb_X4_isBroken_268 n l0 s0 s1 h) := by
  unfold fb_X4_isBroken_268
  refine zi_putL dX4_isBroken_268 gf_X4_21 (fun h1 => ?_)
  refine zi_goto (tgt := 276) dX4_isBroken_271 (by decide) ?_
  refine zi_sub [0] rfl ?_
  exact wb_X4_isBroken_276 G n l0 h1
set_option maxRecDepth 20000 in
set_option maxHeartbeats 1000000 in
theorem wb_X4_isBroken_249 (G : zG) (n : Nat) (l0 : Nat) (s0 : Nat) (s1 : Int64) (h : zH) : zW G yX4_isBroken cX4_isBroken 6 (some .boolean) zvI 1 249 [(0, .ref (zbase G + l0))] [.long s1, .ref (zbase G + s0)] h (fb_X4_isBroken_249 n l0 s0 s1 h) := by
  unfold fb_X4_isBroken_249
  refine zi_putL dX4_isBroken_249 gf_X4_21 (fun h1 => ?_)
  refine zi_goto (tgt := 276) dX4_isBroken_252 (by decide) ?_
  refine zi_sub [0] rfl ?_
  exact wb_X4_isBroken_276 G n l0 h1
set_option maxRecDepth 20000 in
set_option maxHeartbeats 1000000 in
theorem wb_X4_isBroken_21 (G : zG) (n : Nat) (l0 : Nat) (l1 : Int32) (l2 : Int64) (l4 : Int64) (h : zH) : zW G yX4_isBroken cX4_isBroken 6 (some .boolean) zvI 1 21 [(0, .ref (zbase G + l0)), (1, .int l1), (2, .long l2), (4, .long l4)] [] h (fb_X4_isBroken_21 n l0 l1 l2 l4 h) := by
  unfold fb_X4_isBroken_21
  refine zi_iload_n dX4_isBroken_21 rfl 1 rfl ?_
  refine zi_tsw (tgt := 274) _ dX4_isBroken_22 rfl ?_ (by decide) ?_ ?_
  · intro j q hq
    match j, hq with
    | 0, hq => cases hq; exact ⟨rfl, _, rfl, rfl⟩
    | 1, hq => cases hq; exact ⟨rfl, _, rfl, rfl⟩
    | 2, hq => cases hq; exact ⟨rfl, _, rfl, rfl⟩
    | 3, hq => cases hq; exact ⟨rfl, _, rfl, rfl⟩
    | 4, hq => cases hq; exact ⟨rfl, _, rfl, rfl⟩
    | 5, hq => cases hq; exact ⟨rfl, _, rfl, rfl⟩
    | 6, hq => cases hq; exact ⟨rfl, _, rfl, rfl⟩
    | 7, hq => cases hq; exact ⟨rfl, _, rfl, rfl⟩
    | 8, hq => cases hq; exact ⟨rfl, _, rfl, rfl⟩
    | 9, hq => cases hq; exact ⟨rfl, _, rfl, rfl⟩
    | 10, hq => cases hq; exact ⟨rfl, _, rfl, rfl⟩
    | 11, hq => cases hq; exact ⟨rfl, _, rfl, rfl⟩
    | 12, hq => cases hq; exact ⟨rfl, _, rfl, rfl⟩
    | 13, hq => cases hq; exact ⟨rfl, _, rfl, rfl⟩
    | 14, hq => cases hq; exact ⟨rfl, _, rfl, rfl⟩
    | 15, hq => cases hq; exact ⟨rfl, _, rfl, rfl⟩
    | 16, hq => cases hq; exact ⟨rfl, _, rfl, rfl⟩
    | 17, hq => cases hq; exact ⟨rfl, _, rfl, rfl⟩
    | 18, hq => cases hq; exact ⟨rfl, _, rfl, rfl⟩
    | 19, hq => cases hq; exact ⟨rfl, _, rfl, rfl⟩
    | 20, hq => cases hq; exact ⟨rfl, _, rfl, rfl⟩
    | 21, hq => cases hq; exact ⟨rfl, _, rfl, rfl⟩
    | 22, hq => cases hq; exact ⟨rfl, _, rfl, rfl⟩
    | 23, hq => cases hq; exact ⟨rfl, _, rfl, rfl⟩
    | 24, hq => cases hq; exact ⟨rfl, _, rfl, rfl⟩
    | 25, hq => cases hq; exact ⟨rfl, _, rfl, rfl⟩
    | j + 26, hq => simp at hq
  · simp only [List.forall_mem_cons, List.not_mem_nil, false_implies, implies_true, and_true]
    refine ⟨?_, ?_, ?_, ?_, ?_, ?_, ?_, ?_, ?_, ?_, ?_, ?_, ?_, ?_, ?_, ?_, ?_, ?_, ?_, ?_, ?_, ?_, ?_, ?_, ?_, ?_⟩
    · refine zi_aload_n dX4_isBroken_195 rfl 0 rfl ?_
      refine zi_lload dX4_isBroken_196 3 rfl ?_
      refine zi_lconst (v := 0) dX4_isBroken_198 (by decide) ?_
      refine zi_lcmp dX4_isBroken_199 ?_
      refine zi_if_ne (tgt := 207) dX4_isBroken_200 (by decide) ?_ ?_
      · refine zi_lload_n dX4_isBroken_207 rfl 2 rfl ?_
        refine zi_lload dX4_isBroken_208 3 rfl ?_
        refine zi_lremz dX4_isBroken_210 ?_
        refine zi_sub [0] rfl ?_
        exact wb_X4_isBroken_211 G n l0 l0 (l2 - l2 / l4 * l4) h
      · refine zi_lconst (v := 0) dX4_isBroken_203 (by decide) ?_
        refine zi_goto (tgt := 211) dX4_isBroken_204 (by decide) ?_
        refine zi_sub [0] rfl ?_
        exact wb_X4_isBroken_211 G n l0 l0 0 h
    · refine zi_iconst (v := 1) dX4_isBroken_274 (by decide) ?_
      exact zi_ret1 dX4_isBroken_275
    · refine zi_iconst (v := 1) dX4_isBroken_274 (by decide) ?_
      exact zi_ret1 dX4_isBroken_275
    · refine zi_iconst (v := 1) dX4_isBroken_274 (by decide) ?_
      exact zi_ret1 dX4_isBroken_275
    · refine zi_iconst (v := 1) dX4_isBroken_274 (by decide) ?_
      exact zi_ret1 dX4_isBroken_275
    · refine zi_aload_n dX4_isBroken_162 rfl 0 rfl ?_
      refine zi_lload_n dX4_isBroken_163 rfl 2 rfl ?_
      refine zi_lload dX4_isBroken_164 3 rfl ?_
      refine zi_lmul dX4_isBroken_166 ?_
      refine zi_putL dX4_isBroken_167 gf_X4_21 (fun h1 => ?_)
      refine zi_goto (tgt := 276) dX4_isBroken_170 (by decide) ?_
      refine zi_sub [0] rfl ?_
      exact wb_X4_isBroken_276 G n l0 h1
    · refine zi_aload_n dX4_isBroken_140 rfl 0 rfl ?_
      refine zi_lload_n dX4_isBroken_141 rfl 2 rfl ?_
      refine zi_lload dX4_isBroken_142 3 rfl ?_
      refine zi_ladd dX4_isBroken_144 ?_
      refine zi_putL dX4_isBroken_145 gf_X4_21 (fun h2 => ?_)
      refine zi_goto (tgt := 276) dX4_isBroken_148 (by decide) ?_
      refine zi_sub [0] rfl ?_
      exact wb_X4_isBroken_276 G n l0 h2
    · refine zi_iconst (v := 1) dX4_isBroken_274 (by decide) ?_
      exact zi_ret1 dX4_isBroken_275
    · refine zi_aload_n dX4_isBroken_151 rfl 0 rfl ?_
      refine zi_lload_n dX4_isBroken_152 rfl 2 rfl ?_
      refine zi_lload dX4_isBroken_153 3 rfl ?_
      refine zi_lsub dX4_isBroken_155 ?_
      refine zi_putL dX4_isBroken_156 gf_X4_21 (fun h3 => ?_)
      refine zi_goto (tgt := 276) dX4_isBroken_159 (by decide) ?_
      refine zi_sub [0] rfl ?_
      exact wb_X4_isBroken_276 G n l0 h3
    · refine zi_iconst (v := 1) dX4_isBroken_274 (by decide) ?_
      exact zi_ret1 dX4_isBroken_275
    · refine zi_aload_n dX4_isBroken_173 rfl 0 rfl ?_
      refine zi_lload dX4_isBroken_174 3 rfl ?_
      refine zi_lconst (v := 0) dX4_isBroken_176 (by decide) ?_
      refine zi_lcmp dX4_isBroken_177 ?_
      refine zi_if_ne (tgt := 185) dX4_isBroken_178 (by decide) ?_ ?_
      · refine zi_lload_n dX4_isBroken_185 rfl 2 rfl ?_
        refine zi_lload dX4_isBroken_186 3 rfl ?_
        refine zi_ldivz dX4_isBroken_188 ?_
        refine zi_sub [0] rfl ?_
        exact wb_X4_isBroken_189 G n l0 l0 (l2 / l4) h
      · refine zi_lconst (v := 0) dX4_isBroken_181 (by decide) ?_
        refine zi_goto (tgt := 189) dX4_isBroken_182 (by decide) ?_
        refine zi_sub [0] rfl ?_
        exact wb_X4_isBroken_189 G n l0 l0 0 h
    · refine zi_iconst (v := 1) dX4_isBroken_274 (by decide) ?_
      exact zi_ret1 dX4_isBroken_275
    · refine zi_iconst (v := 1) dX4_isBroken_274 (by decide) ?_
      exact zi_ret1 dX4_isBroken_275
    · refine zi_iconst (v := 1) dX4_isBroken_274 (by decide) ?_
      exact zi_ret1 dX4_isBroken_275
    · refine zi_iconst (v := 1) dX4_isBroken_274 (by decide) ?_
      exact zi_ret1 dX4_isBroken_275
    · refine zi_iconst (v := 1) dX4_isBroken_274 (by decide) ?_
      exact zi_ret1 dX4_isBroken_275
    · refine zi_iconst (v := 1) dX4_isBroken_274 (by decide) ?_
      exact zi_ret1 dX4_isBroken_275
    · refine zi_iconst (v := 1) dX4_isBroken_274 (by decide) ?_
      exact zi_ret1 dX4_isBroken_275
    · refine zi_iconst (v := 1) dX4_isBroken_274 (by decide) ?_
      exact zi_ret1 dX4_isBroken_275
    · refine zi_iconst (v := 1) dX4_isBroken_274 (by decide) ?_
      exact zi_ret1 dX4_isBroken_275
    · refine zi_iconst (v := 1) dX4_isBroken_274 (by decide) ?_
      exact zi_ret1 dX4_isBroken_275
    · refine zi_iconst (v := 1) dX4_isBroken_274 (by decide) ?_
      exact zi_ret1 dX4_isBroken_275
    · refine zi_iconst (v := 1) dX4_isBroken_274 (by decide) ?_
      exact zi_ret1 dX4_isBroken_275
    · refine zi_aload_n dX4_isBroken_217 rfl 0 rfl ?_
      refine zi_lload_n dX4_isBroken_218 rfl 2 rfl ?_
      refine zi_lload dX4_isBroken_219 3 rfl ?_
      refine zi_lcmp dX4_isBroken_221 ?_
      refine zi_if_ge (tgt := 229) dX4_isBroken_222 (by decide) ?_ ?_
      · refine zi_lconst (v := 0) dX4_isBroken_229 (by decide) ?_
        refine zi_sub [0] rfl ?_
        exact wb_X4_isBroken_230 G n l0 l0 0 h
      · refine zi_lconst (v := 1) dX4_isBroken_225 (by decide) ?_
        refine zi_goto (tgt := 230) dX4_isBroken_226 (by decide) ?_
        refine zi_sub [0] rfl ?_
        exact wb_X4_isBroken_230 G n l0 l0 1 h
    · refine zi_aload_n dX4_isBroken_255 rfl 0 rfl ?_
      refine zi_lload_n dX4_isBroken_256 rfl 2 rfl ?_
      refine zi_lload dX4_isBroken_257 3 rfl ?_
      refine zi_lcmp dX4_isBroken_259 ?_
      refine zi_if_ne (tgt := 267) dX4_isBroken_260 (by decide) ?_ ?_
      · refine zi_lconst (v := 0) dX4_isBroken_267 (by decide) ?_
        refine zi_sub [0] rfl ?_
        exact wb_X4_isBroken_268 G n l0 l0 0 h
      · refine zi_lconst (v := 1) dX4_isBroken_263 (by decide) ?_
        refine zi_goto (tgt := 268) dX4_isBroken_264 (by decide) ?_
        refine zi_sub [0] rfl ?_
        exact wb_X4_isBroken_268 G n l0 l0 1 h
    · refine zi_aload_n dX4_isBroken_236 rfl 0 rfl ?_
      refine zi_lload_n dX4_isBroken_237 rfl 2 rfl ?_
      refine zi_lload dX4_isBroken_238 3 rfl ?_
      refine zi_lcmp dX4_isBroken_240 ?_
      refine zi_if_le (tgt := 248) dX4_isBroken_241 (by decide) ?_ ?_
      · refine zi_lconst (v := 0) dX4_isBroken_248 (by decide) ?_
        refine zi_sub [0] rfl ?_
        exact wb_X4_isBroken_249 G n l0 l0 0 h
      · refine zi_lconst (v := 1) dX4_isBroken_244 (by decide) ?_
        refine zi_goto (tgt := 249) dX4_isBroken_245 (by decide) ?_
        refine zi_sub [0] rfl ?_
        exact wb_X4_isBroken_249 G n l0 l0 1 h
  · refine zi_iconst (v := 1) dX4_isBroken_274 (by decide) ?_
    exact zi_ret1 dX4_isBroken_275
set_option maxRecDepth 20000 in
set_option maxHeartbeats 1000000 in
theorem wb_X4_isBroken_12 (G : zG) (n : Nat) (l0 : Nat) (l1 : Int32) (l2 : Int64) (l4 : Int64) (h : zH) : zW G yX4_isBroken cX4_isBroken 6 (some .boolean) zvI 1 12 [(0, .ref (zbase G + l0)), (1, .int l1), (2, .long l2), (4, .long l4)] [] h (fb_X4_isBroken_12 n l0 l1 l2 l4 h) := by
  unfold fb_X4_isBroken_12
  refine zi_lload dX4_isBroken_12 3 rfl ?_
  refine zi_lconst (v := 0) dX4_isBroken_14 (by decide) ?_
  refine zi_lcmp dX4_isBroken_15 ?_
  refine zi_if_ne (tgt := 21) dX4_isBroken_16 (by decide) ?_ ?_
  · refine zi_sub [0, 1, 2, 3] rfl ?_
    exact wb_X4_isBroken_21 G n l0 l1 l2 l4 h
  · refine zi_iconst (v := 1) dX4_isBroken_19 (by decide) ?_
    exact zi_ret1 dX4_isBroken_20
set_option maxRecDepth 20000 in
set_option maxHeartbeats 1000000 in
theorem k_X4_isBroken (G : zG) (n : Nat) (a0 : Nat) (a1 : Int32) (a2 : Int64) (a3 : Int64) (h : zH) : zMet G yX4_isBroken cX4_isBroken 6 (some .boolean) zvI 1 [.ref (zbase G + a0), .int a1, .long a2, .long a3] h (f_X4_isBroken n a0 a1 a2 a3 h) := by
  refine zMet_of (l := [(0, .ref (zbase G + a0)), (1, .int a1), (2, .long a2), (4, .long a3)]) (by decide) (Nat.le_of_ble_eq_true rfl) rfl ?_
  unfold f_X4_isBroken
  refine zi_iload_n dX4_isBroken_0 rfl 1 rfl ?_
  refine zi_bipush (v := 47) dX4_isBroken_1 (by decide) ?_
  refine zi_icmp_eq (tgt := 12) dX4_isBroken_3 (by decide) ?_ ?_
  · refine zi_sub [0, 1, 2, 3] rfl ?_
    exact wb_X4_isBroken_12 G n a0 a1 a2 a3 h
  · refine zi_iload_n dX4_isBroken_6 rfl 1 rfl ?_
    refine zi_bipush (v := 37) dX4_isBroken_7 (by decide) ?_
    refine zi_icmp_ne (tgt := 21) dX4_isBroken_9 (by decide) ?_ ?_
    · refine zi_sub [0, 1, 2, 3] rfl ?_
      exact wb_X4_isBroken_21 G n a0 a1 a2 a3 h
    · refine zi_sub [0, 1, 2, 3] rfl ?_
      exact wb_X4_isBroken_12 G n a0 a1 a2 a3 h
