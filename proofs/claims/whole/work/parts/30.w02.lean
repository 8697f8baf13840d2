set_option maxRecDepth 20000 in
set_option maxHeartbeats 1000000 in
theorem wb_X5_takes_38 (G : zG) (n : Nat) (l0 : Nat) (s0 : Int32) (h : zH) : zW G yX5_takes cX5_takes 3 (some .boolean) zvI 1 38 [(0, .ref (zbase G + l0))] [.int s0] h (fb_X5_takes_38 n l0 s0 h) := by
  unfold fb_X5_takes_38
  refine zi_istore_n (l' := [(2, .int s0), (0, .ref (zbase G + l0))]) dX5_takes_38 rfl (by decide) rfl ?_
  refine zi_aload_n dX5_takes_39 rfl 1 rfl ?_
  refine zi_dup dX5_takes_40 rfl ?_
  refine zi_getI dX5_takes_41 gf_X5_27 (fun v1 => ?_)
  refine zi_iload_n dX5_takes_44 rfl 0 rfl ?_
  refine zi_if_eq (tgt := 52) dX5_takes_45 (by decide) ?_ ?_
  · refine zi_iconst (v := 0) dX5_takes_52 (by decide) ?_
    refine zi_iadd dX5_takes_53 ?_
    refine zi_putI dX5_takes_54 gf_X5_27 (fun h2 => ?_)
    refine zi_iload_n dX5_takes_57 rfl 0 rfl ?_
    exact zi_retZ dX5_takes_58
  · refine zi_iconst (v := 1) dX5_takes_48 (by decide) ?_
    refine zi_goto (tgt := 53) dX5_takes_49 (by decide) ?_
    refine zi_iadd dX5_takes_53 ?_
    refine zi_putI dX5_takes_54 gf_X5_27 (fun h3 => ?_)
    refine zi_iload_n dX5_takes_57 rfl 0 rfl ?_
    exact zi_retZ dX5_takes_58
set_option maxRecDepth 20000 in
set_option maxHeartbeats 1000000 in
theorem wb_X5_takes_37 (G : zG) (n : Nat) (l0 : Nat) (h : zH) : zW G yX5_takes cX5_takes 3 (some .boolean) zvI 1 37 [(0, .ref (zbase G + l0))] [] h (fb_X5_takes_37 n l0 h) := by
  unfold fb_X5_takes_37
  refine zi_iconst (v := 0) dX5_takes_37 (by decide) ?_
  refine zi_sub [0] rfl ?_
  exact wb_X5_takes_38 G n l0 0 h
set_option maxRecDepth 20000 in
set_option maxHeartbeats 1000000 in
theorem k_X5_takes (G : zG) (n : Nat) (a0 : Nat) (a1 : Int32) (h : zH) : zMet G yX5_takes cX5_takes 3 (some .boolean) zvI 1 [.ref (zbase G + a0), .int a1] h (f_X5_takes n a0 a1 h) := by
  refine zMet_of (l := [(0, .ref (zbase G + a0)), (1, .int a1)]) (by decide) (Nat.le_of_ble_eq_true rfl) rfl ?_
  unfold f_X5_takes
  refine zi_aload_n dX5_takes_0 rfl 0 rfl ?_
  refine zi_getI dX5_takes_1 gf_X5_27 (fun v1 => ?_)
  refine zi_if_lt (tgt := 37) dX5_takes_4 (by decide) ?_ ?_
  · refine zi_sub [0] rfl ?_
    exact wb_X5_takes_37 G n a0 h
  · refine zi_aload_n dX5_takes_7 rfl 0 rfl ?_
    refine zi_getI dX5_takes_8 gf_X5_27 (fun v2 => ?_)
    refine zi_sipush (v := 401) dX5_takes_11 (by decide) ?_
    refine zi_icmp_ge (tgt := 37) dX5_takes_14 (by decide) ?_ ?_
    · refine zi_sub [0] rfl ?_
      exact wb_X5_takes_37 G n a0 h
    · refine zi_aload_n dX5_takes_17 rfl 0 rfl ?_
      refine zi_getR dX5_takes_18 gf_X5_23 (fun v3 => ?_)
      refine zi_getR dX5_takes_21 gf_X5_103 (fun v4 => ?_)
      refine zi_aload_n dX5_takes_24 rfl 0 rfl ?_
      refine zi_getI dX5_takes_25 gf_X5_27 (fun v5 => ?_)
      refine zi_iald dX5_takes_28 (fun v6 => ?_)
      refine zi_iload_n dX5_takes_29 rfl 1 rfl ?_
      refine zi_icmp_ne (tgt := 37) dX5_takes_30 (by decide) ?_ ?_
      · refine zi_sub [0] rfl ?_
        exact wb_X5_takes_37 G n a0 h
      · refine zi_iconst (v := 1) dX5_takes_33 (by decide) ?_
        refine zi_goto (tgt := 38) dX5_takes_34 (by decide) ?_
        refine zi_sub [0] rfl ?_
        exact wb_X5_takes_38 G n a0 1 h
set_option maxRecDepth 20000 in
set_option maxHeartbeats 1000000 in
theorem k_X8_addStep (G : zG) (n : Nat) (a0 : Nat) (a1 : Int32) (a2 : Int32) (h : zH) : zMet G yX8_addStep cX8_addStep 3 (some .int) zvI 1 [.ref (zbase G + a0), .int a1, .int a2] h (f_X8_addStep n a0 a1 a2 h) := by
  refine zMet_of (l := [(0, .ref (zbase G + a0)), (1, .int a1), (2, .int a2)]) (by decide) (Nat.le_of_ble_eq_true rfl) rfl ?_
  unfold f_X8_addStep
  refine zi_aload_n dX8_addStep_0 rfl 0 rfl ?_
  refine zi_getI dX8_addStep_1 gf_X8_9 (fun v1 => ?_)
  refine zi_aload_n dX8_addStep_4 rfl 0 rfl ?_
  refine zi_getR dX8_addStep_5 gf_X8_24 (fun v2 => ?_)
  refine zi_alen (Or.inl rfl) dX8_addStep_8 (fun v3 => ?_)
  refine zi_icmp_ge (tgt := 24) dX8_addStep_9 (by decide) ?_ ?_
  · refine zi_iconst (v := (-1)) dX8_addStep_24 (by decide) ?_
    exact zi_retI dX8_addStep_25
  · refine zi_aload_n dX8_addStep_12 rfl 0 rfl ?_
    refine zi_getI dX8_addStep_13 gf_X8_9 (fun v4 => ?_)
    refine zi_aload_n dX8_addStep_16 rfl 0 rfl ?_
    refine zi_getR dX8_addStep_17 gf_X8_28 (fun v5 => ?_)
    refine zi_alen (Or.inl rfl) dX8_addStep_20 (fun v6 => ?_)
    refine zi_icmp_lt (tgt := 26) dX8_addStep_21 (by decide) ?_ ?_
    · refine zi_aload_n dX8_addStep_26 rfl 0 rfl ?_
      refine zi_getR dX8_addStep_27 gf_X8_24 (fun v7 => ?_)
      refine zi_aload_n dX8_addStep_30 rfl 0 rfl ?_
      refine zi_getI dX8_addStep_31 gf_X8_9 (fun v8 => ?_)
      refine zi_iload_n dX8_addStep_34 rfl 1 rfl ?_
      refine zi_iast dX8_addStep_35 (fun h9 => ?_)
      refine zi_aload_n dX8_addStep_36 rfl 0 rfl ?_
      refine zi_getR dX8_addStep_37 gf_X8_28 (fun v10 => ?_)
      refine zi_aload_n dX8_addStep_40 rfl 0 rfl ?_
      refine zi_getI dX8_addStep_41 gf_X8_9 (fun v11 => ?_)
      refine zi_iload_n dX8_addStep_44 rfl 2 rfl ?_
      refine zi_iast dX8_addStep_45 (fun h12 => ?_)
      refine zi_aload_n dX8_addStep_46 rfl 0 rfl ?_
      refine zi_dup dX8_addStep_47 rfl ?_
      refine zi_getI dX8_addStep_48 gf_X8_9 (fun v13 => ?_)
      refine zi_iconst (v := 1) dX8_addStep_51 (by decide) ?_
      refine zi_iadd dX8_addStep_52 ?_
      refine zi_putI dX8_addStep_53 gf_X8_9 (fun h14 => ?_)
      refine zi_aload_n dX8_addStep_56 rfl 0 rfl ?_
      refine zi_getI dX8_addStep_57 gf_X8_9 (fun v15 => ?_)
      refine zi_iconst (v := 1) dX8_addStep_60 (by decide) ?_
      refine zi_isub dX8_addStep_61 ?_
      exact zi_retI dX8_addStep_62
    · refine zi_iconst (v := (-1)) dX8_addStep_24 (by decide) ?_
      exact zi_retI dX8_addStep_25
set_option maxRecDepth 20000 in
set_option maxHeartbeats 1000000 in
theorem k_X5_numberWithin (G : zG) (n : Nat) (a0 : Nat) (a1 : Int32) (a2 : Int32) (h : zH) : zMet G yX5_numberWithin cX5_numberWithin 4 (some .int) zvI 1 [.ref (zbase G + a0), .int a1, .int a2] h (f_X5_numberWithin n a0 a1 a2 h) := by
  refine zMet_of (l := [(0, .ref (zbase G + a0)), (1, .int a1), (2, .int a2)]) (by decide) (Nat.le_of_ble_eq_true rfl) rfl ?_
  unfold f_X5_numberWithin
  refine zi_aload_n dX5_numberWithin_0 rfl 0 rfl ?_
  refine zi_getI dX5_numberWithin_1 gf_X5_27 (fun v1 => ?_)
  refine zi_if_lt (tgt := 33) dX5_numberWithin_4 (by decide) ?_ ?_
  · refine zi_iconst (v := (-1)) dX5_numberWithin_33 (by decide) ?_
    exact zi_retI dX5_numberWithin_34
  · refine zi_aload_n dX5_numberWithin_7 rfl 0 rfl ?_
    refine zi_getI dX5_numberWithin_8 gf_X5_27 (fun v2 => ?_)
    refine zi_sipush (v := 401) dX5_numberWithin_11 (by decide) ?_
    refine zi_icmp_ge (tgt := 33) dX5_numberWithin_14 (by decide) ?_ ?_
    · refine zi_iconst (v := (-1)) dX5_numberWithin_33 (by decide) ?_
      exact zi_retI dX5_numberWithin_34
    · refine zi_aload_n dX5_numberWithin_17 rfl 0 rfl ?_
      refine zi_getR dX5_numberWithin_18 gf_X5_23 (fun v3 => ?_)
      refine zi_getR dX5_numberWithin_21 gf_X5_103 (fun v4 => ?_)
      refine zi_aload_n dX5_numberWithin_24 rfl 0 rfl ?_
      refine zi_getI dX5_numberWithin_25 gf_X5_27 (fun v5 => ?_)
      refine zi_iald dX5_numberWithin_28 (fun v6 => ?_)
      refine zi_iconst (v := 1) dX5_numberWithin_29 (by decide) ?_
      refine zi_icmp_eq (tgt := 35) dX5_numberWithin_30 (by decide) ?_ ?_
      · refine zi_aload_n dX5_numberWithin_35 rfl 0 rfl ?_
        refine zi_getR dX5_numberWithin_36 gf_X5_23 (fun v7 => ?_)
        refine zi_getR dX5_numberWithin_39 gf_X5_107 (fun v8 => ?_)
        refine zi_aload_n dX5_numberWithin_42 rfl 0 rfl ?_
        refine zi_getI dX5_numberWithin_43 gf_X5_27 (fun v9 => ?_)
        refine zi_iald dX5_numberWithin_46 (fun v10 => ?_)
        refine zi_istore_n (l' := [(3, .int v10), (0, .ref (zbase G + a0)), (1, .int a1), (2, .int a2)]) dX5_numberWithin_47 rfl (by decide) rfl ?_
        refine zi_iload_n dX5_numberWithin_48 rfl 0 rfl ?_
        refine zi_iload_n dX5_numberWithin_49 rfl 2 rfl ?_
        refine zi_icmp_lt (tgt := 62) dX5_numberWithin_50 (by decide) ?_ ?_
        · refine zi_iconst (v := (-1)) dX5_numberWithin_62 (by decide) ?_
          exact zi_retI dX5_numberWithin_63
        · refine zi_iload_n dX5_numberWithin_53 rfl 0 rfl ?_
          refine zi_iload_n dX5_numberWithin_54 rfl 3 rfl ?_
          refine zi_icmp_gt (tgt := 62) dX5_numberWithin_55 (by decide) ?_ ?_
          · refine zi_iconst (v := (-1)) dX5_numberWithin_62 (by decide) ?_
            exact zi_retI dX5_numberWithin_63
          · refine zi_iload_n dX5_numberWithin_58 rfl 0 rfl ?_
            refine zi_goto (tgt := 63) dX5_numberWithin_59 (by decide) ?_
            exact zi_retI dX5_numberWithin_63
      · refine zi_iconst (v := (-1)) dX5_numberWithin_33 (by decide) ?_
        exact zi_retI dX5_numberWithin_34
set_option maxRecDepth 20000 in
set_option maxHeartbeats 1000000 in
theorem k_X5_number (G : zG) (n : Nat) (a0 : Nat) (a1 : Int32) (a2 : Int32) (a3 : Int32) (h : zH) : zMet G yX5_number cX5_number 5 (some .boolean) zvI 2 [.ref (zbase G + a0), .int a1, .int a2, .int a3] h (f_X5_number n a0 a1 a2 a3 h) := by
  refine zMet_of (l := [(0, .ref (zbase G + a0)), (1, .int a1), (2, .int a2), (3, .int a3)]) (by decide) (Nat.le_of_ble_eq_true rfl) rfl ?_
  unfold f_X5_number
  refine zi_aload_n dX5_number_0 rfl 0 rfl ?_
  refine zi_iconst (v := 0) dX5_number_1 (by decide) ?_
  refine zi_iload_n dX5_number_2 rfl 3 rfl ?_
  refine zi_callVI (As := [.int 0, .int a3]) (rest := []) (ci := 5) dX5_number_3 ml_X5_84 md_X5_numberWithin mv_X5_numberWithin rfl (by decide) rfl rfl (Nat.le_of_ble_eq_true rfl) (Nat.le_of_ble_eq_true rfl) (k_X5_numberWithin G n a0 0 a3 h) (fun r1 h2 => ?_)
  refine zi_istore (l' := [(4, .int r1), (0, .ref (zbase G + a0)), (1, .int a1), (2, .int a2), (3, .int a3)]) dX5_number_6 (by decide) rfl ?_
  refine zi_iload dX5_number_8 0 rfl ?_
  refine zi_iconst (v := (-1)) dX5_number_10 (by decide) ?_
  refine zi_icmp_ne (tgt := 19) dX5_number_11 (by decide) ?_ ?_
  · refine zi_aload_n dX5_number_19 rfl 1 rfl ?_
    refine zi_getR dX5_number_20 gf_X5_16 (fun v3 => ?_)
    refine zi_iload_n dX5_number_23 rfl 2 rfl ?_
    refine zi_iload_n dX5_number_24 rfl 3 rfl ?_
    refine zi_iload dX5_number_25 0 rfl ?_
    refine zi_iadd dX5_number_27 ?_
    refine zi_callVI (As := [.int a1, .int (a2 + r1)]) (rest := []) (ci := 8) dX5_number_28 ml_X5_66 md_X8_addStep mv_X8_addStep rfl (by decide) rfl rfl (Nat.le_of_ble_eq_true rfl) (Nat.le_of_ble_eq_true rfl) (k_X8_addStep G n v3 a1 (a2 + r1) h2) (fun r4 h5 => ?_)
    refine zi_pop dX5_number_31 rfl ?_
    refine zi_aload_n dX5_number_32 rfl 1 rfl ?_
    refine zi_dup dX5_number_33 rfl ?_
    refine zi_getI dX5_number_34 gf_X5_27 (fun v6 => ?_)
    refine zi_iconst (v := 1) dX5_number_37 (by decide) ?_
    refine zi_iadd dX5_number_38 ?_
    refine zi_putI dX5_number_39 gf_X5_27 (fun h7 => ?_)
    refine zi_iconst (v := 1) dX5_number_42 (by decide) ?_
    exact zi_ret1 dX5_number_43
  · refine zi_aload_n dX5_number_14 rfl 1 rfl ?_
    refine zi_callVI (As := []) (rest := []) (ci := 5) dX5_number_15 ml_X5_74 md_X5_fails mv_X5_fails rfl (by decide) rfl rfl (Nat.le_of_ble_eq_true rfl) (Nat.le_of_ble_eq_true rfl) (k_X5_fails G n a0 h2) (fun r8 h9 => ?_)
    exact zi_retZ dX5_number_18
set_option maxRecDepth 20000 in
set_option maxHeartbeats 1000000 in
theorem wb_X5_part_130 (G : zG) (n : Nat) (kH : Nat → Int32 → zH → Option (Int32 × zH)) (dh : Nat) (hdh : 2 ≤ dh) (hH : ∀ (q0 : Nat) (q1 : Int32) (h : zH), zMet G yX5_sum cX5_sum 6 (some .boolean) zvI dh [.ref (zbase G + q0), .int q1] h (kH q0 q1 h)) (l0 : Nat) (h : zH) : zW G yX5_part cX5_part 3 (some .boolean) zvI (dh + 1) 130 [(0, .ref (zbase G + l0))] [] h (fb_X5_part_130 n kH l0 h) := by
  unfold fb_X5_part_130
  refine zi_aload_n dX5_part_130 rfl 0 rfl ?_
  refine zi_sipush (v := 264) dX5_part_131 (by decide) ?_
  refine zi_callVI (As := [.int 264]) (rest := []) (ci := 5) dX5_part_134 ml_X5_51 md_X5_takes mv_X5_takes rfl (by decide) rfl rfl (Nat.le_of_ble_eq_true rfl) (by omega) (k_X5_takes G n l0 264 h) (fun r1 h2 => ?_)
  refine zi_if_eq (tgt := 149) dX5_part_137 (by decide) ?_ ?_
  · refine zi_aload_n dX5_part_149 rfl 0 rfl ?_
    refine zi_sipush (v := 265) dX5_part_150 (by decide) ?_
    refine zi_callVI (As := [.int 265]) (rest := []) (ci := 5) dX5_part_153 ml_X5_51 md_X5_takes mv_X5_takes rfl (by decide) rfl rfl (Nat.le_of_ble_eq_true rfl) (by omega) (k_X5_takes G n l0 265 h2) (fun r3 h4 => ?_)
    refine zi_if_eq (tgt := 169) dX5_part_156 (by decide) ?_ ?_
    · refine zi_aload_n dX5_part_169 rfl 0 rfl ?_
      refine zi_iconst (v := 0) dX5_part_170 (by decide) ?_
      refine zi_iconst (v := 0) dX5_part_171 (by decide) ?_
      refine zi_sipush (v := 1000) dX5_part_172 (by decide) ?_
      refine zi_callVI (As := [.int 0, .int 0, .int 1000]) (rest := []) (ci := 5) dX5_part_175 ml_X5_99 md_X5_number mv_X5_number rfl (by decide) rfl rfl (Nat.le_of_ble_eq_true rfl) (by omega) (k_X5_number G n l0 0 0 1000 h4) (fun r5 h6 => ?_)
      exact zi_retZ dX5_part_178
    · refine zi_aload_n dX5_part_159 rfl 0 rfl ?_
      refine zi_iconst (v := 1) dX5_part_160 (by decide) ?_
      refine zi_bipush (v := 13) dX5_part_161 (by decide) ?_
      refine zi_bipush (v := 99) dX5_part_163 (by decide) ?_
      refine zi_callVI (As := [.int 1, .int 13, .int 99]) (rest := []) (ci := 5) dX5_part_165 ml_X5_99 md_X5_number mv_X5_number rfl (by decide) rfl rfl (Nat.le_of_ble_eq_true rfl) (by omega) (k_X5_number G n l0 1 13 99 h4) (fun r7 h8 => ?_)
      exact zi_retZ dX5_part_168
  · refine zi_aload_n dX5_part_140 rfl 0 rfl ?_
    refine zi_iconst (v := 1) dX5_part_141 (by decide) ?_
    refine zi_iconst (v := 5) dX5_part_142 (by decide) ?_
    refine zi_bipush (v := 7) dX5_part_143 (by decide) ?_
    refine zi_callVI (As := [.int 1, .int 5, .int 7]) (rest := []) (ci := 5) dX5_part_145 ml_X5_99 md_X5_number mv_X5_number rfl (by decide) rfl rfl (Nat.le_of_ble_eq_true rfl) (by omega) (k_X5_number G n l0 1 5 7 h2) (fun r9 h10 => ?_)
    exact zi_retZ dX5_part_148
set_option maxRecDepth 20000 in
set_option maxHeartbeats 1000000 in
theorem k_X5_part (G : zG) (n : Nat) (kH : Nat → Int32 → zH → Option (Int32 × zH)) (dh : Nat) (hdh : 2 ≤ dh) (hH : ∀ (q0 : Nat) (q1 : Int32) (h : zH), zMet G yX5_sum cX5_sum 6 (some .boolean) zvI dh [.ref (zbase G + q0), .int q1] h (kH q0 q1 h)) (a0 : Nat) (a1 : Int32) (h : zH) : zMet G yX5_part cX5_part 3 (some .boolean) zvI (dh + 1) [.ref (zbase G + a0), .int a1] h (f_X5_part n kH a0 a1 h) := by
  refine zMet_of (l := [(0, .ref (zbase G + a0)), (1, .int a1)]) (by decide) (Nat.le_of_ble_eq_true rfl) rfl ?_
  unfold f_X5_part
  refine zi_aload_n dX5_part_0 rfl 0 rfl ?_
  refine zi_callVI (As := []) (rest := []) (ci := 5) dX5_part_1 ml_X5_70 md_X5_present mv_X5_present rfl (by decide) rfl rfl (Nat.le_of_ble_eq_true rfl) (by omega) (k_X5_present G n a0 h) (fun r1 h2 => ?_)
  refine zi_istore_n (l' := [(2, .int r1), (0, .ref (zbase G + a0)), (1, .int a1)]) dX5_part_4 rfl (by decide) rfl ?_
  refine zi_iload_n dX5_part_5 rfl 0 rfl ?_
  refine zi_bipush (v := 91) dX5_part_6 (by decide) ?_
  refine zi_icmp_ne (tgt := 66) dX5_part_8 (by decide) ?_ ?_
  · refine zi_aload_n dX5_part_66 rfl 1 rfl ?_
    refine zi_getI dX5_part_67 gf_X5_31 (fun v3 => ?_)
    refine zi_bipush (v := 50) dX5_part_70 (by decide) ?_
    refine zi_icmp_lt (tgt := 80) dX5_part_72 (by decide) ?_ ?_
    · refine zi_aload_n dX5_part_80 rfl 1 rfl ?_
      refine zi_dup dX5_part_81 rfl ?_
      refine zi_getI dX5_part_82 gf_X5_31 (fun v4 => ?_)
      refine zi_iconst (v := 1) dX5_part_85 (by decide) ?_
      refine zi_iadd dX5_part_86 ?_
      refine zi_putI dX5_part_87 gf_X5_31 (fun h5 => ?_)
      refine zi_iload_n dX5_part_90 rfl 0 rfl ?_
      refine zi_sipush (v := 400) dX5_part_91 (by decide) ?_
      refine zi_icmp_lt (tgt := 130) dX5_part_94 (by decide) ?_ ?_
      · refine zi_sub [1] rfl ?_
        exact wb_X5_part_130 G n kH dh hdh hH a0 h5
      · refine zi_iload_n dX5_part_97 rfl 0 rfl ?_
        refine zi_sipush (v := 500) dX5_part_98 (by decide) ?_
        refine zi_icmp_ge (tgt := 130) dX5_part_101 (by decide) ?_ ?_
        · refine zi_sub [1] rfl ?_
          exact wb_X5_part_130 G n kH dh hdh hH a0 h5
        · refine zi_aload_n dX5_part_104 rfl 1 rfl ?_
          refine zi_getR dX5_part_105 gf_X5_16 (fun v6 => ?_)
          refine zi_iconst (v := 1) dX5_part_108 (by decide) ?_
          refine zi_iload_n dX5_part_109 rfl 0 rfl ?_
          refine zi_sipush (v := 400) dX5_part_110 (by decide) ?_
          refine zi_isub dX5_part_113 ?_
          refine zi_callVI (As := [.int 1, .int (r1 - 400)]) (rest := []) (ci := 8) dX5_part_114 ml_X5_66 md_X8_addStep mv_X8_addStep rfl (by decide) rfl rfl (Nat.le_of_ble_eq_true rfl) (by omega) (k_X8_addStep G n v6 1 (r1 - 400) h5) (fun r7 h8 => ?_)
          refine zi_pop dX5_part_117 rfl ?_
          refine zi_aload_n dX5_part_118 rfl 1 rfl ?_
          refine zi_dup dX5_part_119 rfl ?_
          refine zi_getI dX5_part_120 gf_X5_27 (fun v9 => ?_)
          refine zi_iconst (v := 1) dX5_part_123 (by decide) ?_
          refine zi_iadd dX5_part_124 ?_
          refine zi_putI dX5_part_125 gf_X5_27 (fun h10 => ?_)
          refine zi_iconst (v := 1) dX5_part_128 (by decide) ?_
          exact zi_ret1 dX5_part_129
    · refine zi_aload_n dX5_part_75 rfl 1 rfl ?_
      refine zi_callVI (As := []) (rest := []) (ci := 5) dX5_part_76 ml_X5_74 md_X5_fails mv_X5_fails rfl (by decide) rfl rfl (Nat.le_of_ble_eq_true rfl) (by omega) (k_X5_fails G n a0 h2) (fun r11 h12 => ?_)
      exact zi_retZ dX5_part_79
  · refine zi_iload_n dX5_part_11 rfl 2 rfl ?_
    refine zi_bipush (v := 8) dX5_part_12 (by decide) ?_
    refine zi_icmp_lt (tgt := 22) dX5_part_14 (by decide) ?_ ?_
    · refine zi_aload_n dX5_part_22 rfl 1 rfl ?_
      refine zi_dup dX5_part_23 rfl ?_
      refine zi_getI dX5_part_24 gf_X5_27 (fun v13 => ?_)
      refine zi_iconst (v := 1) dX5_part_27 (by decide) ?_
      refine zi_iadd dX5_part_28 ?_
      refine zi_putI dX5_part_29 gf_X5_27 (fun h14 => ?_)
      refine zi_aload_n dX5_part_32 rfl 1 rfl ?_
      refine zi_iload_n dX5_part_33 rfl 2 rfl ?_
      refine zi_iconst (v := 1) dX5_part_34 (by decide) ?_
      refine zi_iadd dX5_part_35 ?_
      refine zi_callVI (As := [.int (a1 + 1)]) (rest := []) (ci := 5) dX5_part_36 ml_X5_87 md_X5_sum mv_X5_sum rfl (by decide) rfl rfl (Nat.le_of_ble_eq_true rfl) (by omega) (hH a0 (a1 + 1) h14) (fun r15 h16 => ?_)
      refine zi_if_ne (tgt := 44) dX5_part_39 (by decide) ?_ ?_
      · refine zi_aload_n dX5_part_44 rfl 1 rfl ?_
        refine zi_bipush (v := 93) dX5_part_45 (by decide) ?_
        refine zi_callVI (As := [.int 93]) (rest := []) (ci := 5) dX5_part_47 ml_X5_51 md_X5_takes mv_X5_takes rfl (by decide) rfl rfl (Nat.le_of_ble_eq_true rfl) (by omega) (k_X5_takes G n a0 93 h16) (fun r17 h18 => ?_)
        refine zi_if_ne (tgt := 60) dX5_part_50 (by decide) ?_ ?_
        · refine zi_iconst (v := 1) dX5_part_60 (by decide) ?_
          refine zi_goto (tgt := 65) dX5_part_61 (by decide) ?_
          exact zi_ret1 dX5_part_65
        · refine zi_aload_n dX5_part_53 rfl 1 rfl ?_
          refine zi_callVI (As := []) (rest := []) (ci := 5) dX5_part_54 ml_X5_74 md_X5_fails mv_X5_fails rfl (by decide) rfl rfl (Nat.le_of_ble_eq_true rfl) (by omega) (k_X5_fails G n a0 h18) (fun r19 h20 => ?_)
          refine zi_if_eq (tgt := 64) dX5_part_57 (by decide) ?_ ?_
          · refine zi_iconst (v := 0) dX5_part_64 (by decide) ?_
            exact zi_ret0 dX5_part_65
          · refine zi_iconst (v := 1) dX5_part_60 (by decide) ?_
            refine zi_goto (tgt := 65) dX5_part_61 (by decide) ?_
            exact zi_ret1 dX5_part_65
      · refine zi_iconst (v := 0) dX5_part_42 (by decide) ?_
        exact zi_ret0 dX5_part_43
    · refine zi_aload_n dX5_part_17 rfl 1 rfl ?_
      refine zi_callVI (As := []) (rest := []) (ci := 5) dX5_part_18 ml_X5_74 md_X5_fails mv_X5_fails rfl (by decide) rfl rfl (Nat.le_of_ble_eq_true rfl) (by omega) (k_X5_fails G n a0 h2) (fun r21 h22 => ?_)
      exact zi_retZ dX5_part_21
set_option maxRecDepth 20000 in
set_option maxHeartbeats 1000000 in
theorem wb_X5_sum_148 (G : zG) (n : Nat) (kH : Nat → Int32 → zH → Option (Int32 × zH)) (dh : Nat) (hdh : 2 ≤ dh) (hH : ∀ (q0 : Nat) (q1 : Int32) (h : zH), zMet G yX5_sum cX5_sum 6 (some .boolean) zvI dh [.ref (zbase G + q0), .int q1] h (kH q0 q1 h)) (l0 : Nat) (h : zH) : zW G yX5_sum cX5_sum 6 (some .boolean) zvI (dh + 2) 148 [(0, .ref (zbase G + l0))] [] h (fb_X5_sum_148 n kH l0 h) := by
  unfold fb_X5_sum_148
  refine zi_aload_n dX5_sum_148 rfl 0 rfl ?_
  refine zi_callVI (As := []) (rest := []) (ci := 5) dX5_sum_149 ml_X5_74 md_X5_fails mv_X5_fails rfl (by decide) rfl rfl (Nat.le_of_ble_eq_true rfl) (by omega) (k_X5_fails G n l0 h) (fun r1 h2 => ?_)
  exact zi_retZ dX5_sum_152
set_option maxRecDepth 20000 in
set_option maxHeartbeats 1000000 in
theorem wb_X5_sum_132 (G : zG) (n : Nat) (kH : Nat → Int32 → zH → Option (Int32 × zH)) (dh : Nat) (hdh : 2 ≤ dh) (hH : ∀ (q0 : Nat) (q1 : Int32) (h : zH), zMet G yX5_sum cX5_sum 6 (some .boolean) zvI dh [.ref (zbase G + q0), .int q1] h (kH q0 q1 h)) (k4 : Nat → Int32 → Int32 → Int32 → zH → Option (Int32 × zH)) (hk4 : ∀ (l0 : Nat) (l1 : Int32) (l2 : Int32) (l3 : Int32) (h : zH), zW G yX5_sum cX5_sum 6 (some .boolean) zvI (dh + 2) 4 [(0, .ref (zbase G + l0)), (1, .int l1), (2, .int l2), (3, .int l3)] [] h (k4 l0 l1 l2 l3 h)) (l0 : Nat) (l1 : Int32) (l2 : Int32) (l3 : Int32) (h : zH) : zW G yX5_sum cX5_sum 6 (some .boolean) zvI (dh + 2) 132 [(0, .ref (zbase G + l0)), (1, .int l1), (2, .int l2), (3, .int l3)] [] h (fb_X5_sum_132 n kH k4 l0 l1 l2 l3 h) := by
  unfold fb_X5_sum_132
  refine zi_aload_n dX5_sum_132 rfl 0 rfl ?_
  refine zi_dup dX5_sum_133 rfl ?_
  refine zi_getI dX5_sum_134 gf_X5_27 (fun v1 => ?_)
  refine zi_iconst (v := 1) dX5_sum_137 (by decide) ?_
  refine zi_iadd dX5_sum_138 ?_
  refine zi_putI dX5_sum_139 gf_X5_27 (fun h2 => ?_)
  refine zi_iinc (j := 3) (v := l3 + 1) (l' := [(3, .int (l3 + 1)), (0, .ref (zbase G + l0)), (1, .int l1), (2, .int l2)]) dX5_sum_142 rfl rfl (by decide) rfl ?_
  refine zi_goto (tgt := 4) dX5_sum_145 (by decide) ?_
  refine zi_sub [1, 2, 3, 0] rfl ?_
  exact hk4 l0 l1 l2 (l3 + 1) h2
set_option maxRecDepth 20000 in
set_option maxHeartbeats 1000000 in
theorem wb_X5_sum_113 (G : zG) (n : Nat) (kH : Nat → Int32 → zH → Option (Int32 × zH)) (dh : Nat) (hdh : 2 ≤ dh) (hH : ∀ (q0 : Nat) (q1 : Int32) (h : zH), zMet G yX5_sum cX5_sum 6 (some .boolean) zvI dh [.ref (zbase G + q0), .int q1] h (kH q0 q1 h)) (k4 : Nat → Int32 → Int32 → Int32 → zH → Option (Int32 × zH)) (hk4 : ∀ (l0 : Nat) (l1 : Int32) (l2 : Int32) (l3 : Int32) (h : zH), zW G yX5_sum cX5_sum 6 (some .boolean) zvI (dh + 2) 4 [(0, .ref (zbase G + l0)), (1, .int l1), (2, .int l2), (3, .int l3)] [] h (k4 l0 l1 l2 l3 h)) (l0 : Nat) (l1 : Int32) (l3 : Int32) (h : zH) : zW G yX5_sum cX5_sum 6 (some .boolean) zvI (dh + 2) 113 [(0, .ref (zbase G + l0)), (1, .int l1), (3, .int l3)] [] h (fb_X5_sum_113 n kH k4 l0 l1 l3 h) := by
  unfold fb_X5_sum_113
  refine zi_aload_n dX5_sum_113 rfl 0 rfl ?_
  refine zi_callVI (As := []) (rest := []) (ci := 5) dX5_sum_114 ml_X5_70 md_X5_present mv_X5_present rfl (by decide) rfl rfl (Nat.le_of_ble_eq_true rfl) (by omega) (k_X5_present G n l0 h) (fun r1 h2 => ?_)
  refine zi_istore_n (l' := [(2, .int r1), (0, .ref (zbase G + l0)), (1, .int l1), (3, .int l3)]) dX5_sum_117 rfl (by decide) rfl ?_
  refine zi_iload_n dX5_sum_118 rfl 0 rfl ?_
  refine zi_bipush (v := 43) dX5_sum_119 (by decide) ?_
  refine zi_icmp_eq (tgt := 132) dX5_sum_121 (by decide) ?_ ?_
  · refine zi_sub [1, 2, 0, 3] rfl ?_
    exact wb_X5_sum_132 G n kH dh hdh hH k4 hk4 l0 l1 r1 l3 h2
  · refine zi_iload_n dX5_sum_124 rfl 0 rfl ?_
    refine zi_bipush (v := 45) dX5_sum_125 (by decide) ?_
    refine zi_icmp_eq (tgt := 132) dX5_sum_127 (by decide) ?_ ?_
    · refine zi_sub [1, 2, 0, 3] rfl ?_
      exact wb_X5_sum_132 G n kH dh hdh hH k4 hk4 l0 l1 r1 l3 h2
    · refine zi_iconst (v := 1) dX5_sum_130 (by decide) ?_
      exact zi_ret1 dX5_sum_131
set_option maxRecDepth 20000 in
set_option maxHeartbeats 1000000 in
theorem wb_X5_sum_98 (G : zG) (n : Nat) (kH : Nat → Int32 → zH → Option (Int32 × zH)) (dh : Nat) (hdh : 2 ≤ dh) (hH : ∀ (q0 : Nat) (q1 : Int32) (h : zH), zMet G yX5_sum cX5_sum 6 (some .boolean) zvI dh [.ref (zbase G + q0), .int q1] h (kH q0 q1 h)) (k4 : Nat → Int32 → Int32 → Int32 → zH → Option (Int32 × zH)) (hk4 : ∀ (l0 : Nat) (l1 : Int32) (l2 : Int32) (l3 : Int32) (h : zH), zW G yX5_sum cX5_sum 6 (some .boolean) zvI (dh + 2) 4 [(0, .ref (zbase G + l0)), (1, .int l1), (2, .int l2), (3, .int l3)] [] h (k4 l0 l1 l2 l3 h)) (l0 : Nat) (l1 : Int32) (l2 : Int32) (l3 : Int32) (h : zH) : zW G yX5_sum cX5_sum 6 (some .boolean) zvI (dh + 2) 98 [(0, .ref (zbase G + l0)), (1, .int l1), (2, .int l2), (3, .int l3)] [] h (fb_X5_sum_98 n kH k4 l0 l1 l2 l3 h) := by
  unfold fb_X5_sum_98
  refine zi_iload_n dX5_sum_98 rfl 2 rfl ?_
  refine zi_iconst (v := (-1)) dX5_sum_99 (by decide) ?_
  refine zi_icmp_eq (tgt := 113) dX5_sum_100 (by decide) ?_ ?_
  · refine zi_sub [0, 1, 3] rfl ?_
    exact wb_X5_sum_113 G n kH dh hdh hH k4 hk4 l0 l1 l3 h
  · refine zi_aload_n dX5_sum_103 rfl 0 rfl ?_
    refine zi_getR dX5_sum_104 gf_X5_16 (fun v1 => ?_)
    refine zi_iload_n dX5_sum_107 rfl 2 rfl ?_
    refine zi_iconst (v := 0) dX5_sum_108 (by decide) ?_
    refine zi_callVI (As := [.int l2, .int 0]) (rest := []) (ci := 8) dX5_sum_109 ml_X5_66 md_X8_addStep mv_X8_addStep rfl (by decide) rfl rfl (Nat.le_of_ble_eq_true rfl) (by omega) (k_X8_addStep G n v1 l2 0 h) (fun r2 h3 => ?_)
    refine zi_pop dX5_sum_112 rfl ?_
    refine zi_sub [0, 1, 3] rfl ?_
    exact wb_X5_sum_113 G n kH dh hdh hH k4 hk4 l0 l1 l3 h3
set_option maxRecDepth 20000 in
set_option maxHeartbeats 1000000 in
theorem wb_X5_sum_82 (G : zG) (n : Nat) (kH : Nat → Int32 → zH → Option (Int32 × zH)) (dh : Nat) (hdh : 2 ≤ dh) (hH : ∀ (q0 : Nat) (q1 : Int32) (h : zH), zMet G yX5_sum cX5_sum 6 (some .boolean) zvI dh [.ref (zbase G + q0), .int q1] h (kH q0 q1 h)) (k4 : Nat → Int32 → Int32 → Int32 → zH → Option (Int32 × zH)) (k17 : Nat → Int32 → Int32 → Int32 → Int32 → Int32 → zH → Option (Int32 × zH)) (hk4 : ∀ (l0 : Nat) (l1 : Int32) (l2 : Int32) (l3 : Int32) (h : zH), zW G yX5_sum cX5_sum 6 (some .boolean) zvI (dh + 2) 4 [(0, .ref (zbase G + l0)), (1, .int l1), (2, .int l2), (3, .int l3)] [] h (k4 l0 l1 l2 l3 h)) (hk17 : ∀ (l0 : Nat) (l1 : Int32) (l2 : Int32) (l3 : Int32) (l4 : Int32) (l5 : Int32) (h : zH), zW G yX5_sum cX5_sum 6 (some .boolean) zvI (dh + 2) 17 [(0, .ref (zbase G + l0)), (1, .int l1), (2, .int l2), (3, .int l3), (4, .int l4), (5, .int l5)] [] h (k17 l0 l1 l2 l3 l4 l5 h)) (l0 : Nat) (l1 : Int32) (l2 : Int32) (l3 : Int32) (l4 : Int32) (l5 : Int32) (h : zH) : zW G yX5_sum cX5_sum 6 (some .boolean) zvI (dh + 2) 82 [(0, .ref (zbase G + l0)), (1, .int l1), (2, .int l2), (3, .int l3), (4, .int l4), (5, .int l5)] [] h (fb_X5_sum_82 n kH k4 k17 l0 l1 l2 l3 l4 l5 h) := by
  unfold fb_X5_sum_82
  refine zi_aload_n dX5_sum_82 rfl 0 rfl ?_
  refine zi_dup dX5_sum_83 rfl ?_
  refine zi_getI dX5_sum_84 gf_X5_27 (fun v1 => ?_)
  refine zi_iconst (v := 1) dX5_sum_87 (by decide) ?_
  refine zi_iadd dX5_sum_88 ?_
  refine zi_putI dX5_sum_89 gf_X5_27 (fun h2 => ?_)
  refine zi_iinc (j := 5) (v := l5 + 1) (l' := [(5, .int (l5 + 1)), (0, .ref (zbase G + l0)), (1, .int l1), (2, .int l2), (3, .int l3), (4, .int l4)]) dX5_sum_92 rfl rfl (by decide) rfl ?_
  refine zi_goto (tgt := 17) dX5_sum_95 (by decide) ?_
  refine zi_sub [1, 2, 3, 4, 5, 0] rfl ?_
  exact hk17 l0 l1 l2 l3 l4 (l5 + 1) h2
set_option maxRecDepth 20000 in
set_option maxHeartbeats 1000000 in
theorem wb_X5_sum_79 (G : zG) (n : Nat) (kH : Nat → Int32 → zH → Option (Int32 × zH)) (dh : Nat) (hdh : 2 ≤ dh) (hH : ∀ (q0 : Nat) (q1 : Int32) (h : zH), zMet G yX5_sum cX5_sum 6 (some .boolean) zvI dh [.ref (zbase G + q0), .int q1] h (kH q0 q1 h)) (k4 : Nat → Int32 → Int32 → Int32 → zH → Option (Int32 × zH)) (hk4 : ∀ (l0 : Nat) (l1 : Int32) (l2 : Int32) (l3 : Int32) (h : zH), zW G yX5_sum cX5_sum 6 (some .boolean) zvI (dh + 2) 4 [(0, .ref (zbase G + l0)), (1, .int l1), (2, .int l2), (3, .int l3)] [] h (k4 l0 l1 l2 l3 h)) (l0 : Nat) (l1 : Int32) (l2 : Int32) (l3 : Int32) (h : zH) : zW G yX5_sum cX5_sum 6 (some .boolean) zvI (dh + 2) 79 [(0, .ref (zbase G + l0)), (1, .int l1), (2, .int l2), (3, .int l3)] [] h (fb_X5_sum_79 n kH k4 l0 l1 l2 l3 h) := by
  unfold fb_X5_sum_79
  refine zi_goto (tgt := 98) dX5_sum_79 (by decide) ?_
  refine zi_sub [0, 1, 2, 3] rfl ?_
  exact wb_X5_sum_98 G n kH dh hdh hH k4 hk4 l0 l1 l2 l3 h
set_option maxRecDepth 20000 in
set_option maxHeartbeats 1000000 in
theorem wb_X5_sum_52 (G : zG) (n : Nat) (kH : Nat → Int32 → zH → Option (Int32 × zH)) (dh : Nat) (hdh : 2 ≤ dh) (hH : ∀ (q0 : Nat) (q1 : Int32) (h : zH), zMet G yX5_sum cX5_sum 6 (some .boolean) zvI dh [.ref (zbase G + q0), .int q1] h (kH q0 q1 h)) (k4 : Nat → Int32 → Int32 → Int32 → zH → Option (Int32 × zH)) (k17 : Nat → Int32 → Int32 → Int32 → Int32 → Int32 → zH → Option (Int32 × zH)) (hk4 : ∀ (l0 : Nat) (l1 : Int32) (l2 : Int32) (l3 : Int32) (h : zH), zW G yX5_sum cX5_sum 6 (some .boolean) zvI (dh + 2) 4 [(0, .ref (zbase G + l0)), (1, .int l1), (2, .int l2), (3, .int l3)] [] h (k4 l0 l1 l2 l3 h)) (hk17 : ∀ (l0 : Nat) (l1 : Int32) (l2 : Int32) (l3 : Int32) (l4 : Int32) (l5 : Int32) (h : zH), zW G yX5_sum cX5_sum 6 (some .boolean) zvI (dh + 2) 17 [(0, .ref (zbase G + l0)), (1, .int l1), (2, .int l2), (3, .int l3), (4, .int l4), (5, .int l5)] [] h (k17 l0 l1 l2 l3 l4 l5 h)) (l0 : Nat) (l1 : Int32) (l2 : Int32) (l3 : Int32) (l5 : Int32) (h : zH) : zW G yX5_sum cX5_sum 6 (some .boolean) zvI (dh + 2) 52 [(0, .ref (zbase G + l0)), (1, .int l1), (2, .int l2), (3, .int l3), (5, .int l5)] [] h (fb_X5_sum_52 n kH k4 k17 l0 l1 l2 l3 l5 h) := by
  unfold fb_X5_sum_52
  refine zi_aload_n dX5_sum_52 rfl 0 rfl ?_
  refine zi_callVI (As := []) (rest := []) (ci := 5) dX5_sum_53 ml_X5_70 md_X5_present mv_X5_present rfl (by decide) rfl rfl (Nat.le_of_ble_eq_true rfl) (by omega) (k_X5_present G n l0 h) (fun r1 h2 => ?_)
  refine zi_istore (l' := [(4, .int r1), (0, .ref (zbase G + l0)), (1, .int l1), (2, .int l2), (3, .int l3), (5, .int l5)]) dX5_sum_56 (by decide) rfl ?_
  refine zi_iload dX5_sum_58 0 rfl ?_
  refine zi_bipush (v := 42) dX5_sum_60 (by decide) ?_
  refine zi_icmp_eq (tgt := 82) dX5_sum_62 (by decide) ?_ ?_
  · refine zi_sub [1, 2, 3, 4, 0, 5] rfl ?_
    exact wb_X5_sum_82 G n kH dh hdh hH k4 k17 hk4 hk17 l0 l1 l2 l3 r1 l5 h2
  · refine zi_iload dX5_sum_65 0 rfl ?_
    refine zi_bipush (v := 47) dX5_sum_67 (by decide) ?_
    refine zi_icmp_eq (tgt := 82) dX5_sum_69 (by decide) ?_ ?_
    · refine zi_sub [1, 2, 3, 4, 0, 5] rfl ?_
      exact wb_X5_sum_82 G n kH dh hdh hH k4 k17 hk4 hk17 l0 l1 l2 l3 r1 l5 h2
    · refine zi_iload dX5_sum_72 0 rfl ?_
      refine zi_bipush (v := 37) dX5_sum_74 (by decide) ?_
      refine zi_icmp_eq (tgt := 82) dX5_sum_76 (by decide) ?_ ?_
      · refine zi_sub [1, 2, 3, 4, 0, 5] rfl ?_
        exact wb_X5_sum_82 G n kH dh hdh hH k4 k17 hk4 hk17 l0 l1 l2 l3 r1 l5 h2
      · refine zi_sub [1, 2, 3, 4] rfl ?_
        exact wb_X5_sum_79 G n kH dh hdh hH k4 hk4 l0 l1 l2 l3 h2
set_option maxRecDepth 20000 in
set_option maxHeartbeats 1000000 in
theorem wb_X5_sum_17 (G : zG) (n : Nat) (kH : Nat → Int32 → zH → Option (Int32 × zH)) (dh : Nat) (hdh : 2 ≤ dh) (hH : ∀ (q0 : Nat) (q1 : Int32) (h : zH), zMet G yX5_sum cX5_sum 6 (some .boolean) zvI dh [.ref (zbase G + q0), .int q1] h (kH q0 q1 h)) (k4 : Nat → Int32 → Int32 → Int32 → zH → Option (Int32 × zH)) (k17 : Nat → Int32 → Int32 → Int32 → Int32 → Int32 → zH → Option (Int32 × zH)) (hk4 : ∀ (l0 : Nat) (l1 : Int32) (l2 : Int32) (l3 : Int32) (h : zH), zW G yX5_sum cX5_sum 6 (some .boolean) zvI (dh + 2) 4 [(0, .ref (zbase G + l0)), (1, .int l1), (2, .int l2), (3, .int l3)] [] h (k4 l0 l1 l2 l3 h)) (hk17 : ∀ (l0 : Nat) (l1 : Int32) (l2 : Int32) (l3 : Int32) (l4 : Int32) (l5 : Int32) (h : zH), zW G yX5_sum cX5_sum 6 (some .boolean) zvI (dh + 2) 17 [(0, .ref (zbase G + l0)), (1, .int l1), (2, .int l2), (3, .int l3), (4, .int l4), (5, .int l5)] [] h (k17 l0 l1 l2 l3 l4 l5 h)) (l0 : Nat) (l1 : Int32) (l2 : Int32) (l3 : Int32) (l4 : Int32) (l5 : Int32) (h : zH) : zW G yX5_sum cX5_sum 6 (some .boolean) zvI (dh + 2) 17 [(0, .ref (zbase G + l0)), (1, .int l1), (2, .int l2), (3, .int l3), (4, .int l4), (5, .int l5)] [] h (fb_X5_sum_17 n kH k4 k17 l0 l1 l2 l3 l4 l5 h) := by
  unfold fb_X5_sum_17
  refine zi_iload dX5_sum_17 5 rfl ?_
  refine zi_sipush (v := 400) dX5_sum_19 (by decide) ?_
  refine zi_icmp_ge (tgt := 98) dX5_sum_22 (by decide) ?_ ?_
  · refine zi_sub [0, 1, 2, 3] rfl ?_
    exact wb_X5_sum_98 G n kH dh hdh hH k4 hk4 l0 l1 l2 l3 h
  · refine zi_aload_n dX5_sum_25 rfl 0 rfl ?_
    refine zi_iload_n dX5_sum_26 rfl 1 rfl ?_
    refine zi_callVI (As := [.int l1]) (rest := []) (ci := 5) dX5_sum_27 ml_X5_96 md_X5_part mv_X5_part rfl (by decide) rfl rfl (Nat.le_of_ble_eq_true rfl) (by omega) (k_X5_part G n kH dh hdh hH l0 l1 h) (fun r1 h2 => ?_)
    refine zi_if_ne (tgt := 35) dX5_sum_30 (by decide) ?_ ?_
    · refine zi_iload dX5_sum_35 4 rfl ?_
      refine zi_iconst (v := (-1)) dX5_sum_37 (by decide) ?_
      refine zi_icmp_eq (tgt := 52) dX5_sum_38 (by decide) ?_ ?_
      · refine zi_sub [0, 1, 2, 3, 5] rfl ?_
        exact wb_X5_sum_52 G n kH dh hdh hH k4 k17 hk4 hk17 l0 l1 l2 l3 l5 h2
      · refine zi_aload_n dX5_sum_41 rfl 0 rfl ?_
        refine zi_getR dX5_sum_42 gf_X5_16 (fun v3 => ?_)
        refine zi_iload dX5_sum_45 4 rfl ?_
        refine zi_iconst (v := 0) dX5_sum_47 (by decide) ?_
        refine zi_callVI (As := [.int l4, .int 0]) (rest := []) (ci := 8) dX5_sum_48 ml_X5_66 md_X8_addStep mv_X8_addStep rfl (by decide) rfl rfl (Nat.le_of_ble_eq_true rfl) (by omega) (k_X8_addStep G n v3 l4 0 h2) (fun r4 h5 => ?_)
        refine zi_pop dX5_sum_51 rfl ?_
        refine zi_sub [0, 1, 2, 3, 5] rfl ?_
        exact wb_X5_sum_52 G n kH dh hdh hH k4 k17 hk4 hk17 l0 l1 l2 l3 l5 h5
    · refine zi_iconst (v := 0) dX5_sum_33 (by decide) ?_
      exact zi_ret0 dX5_sum_34
theorem wl_X5_sum_17 (G : zG) (n : Nat) (kH : Nat → Int32 → zH → Option (Int32 × zH)) (dh : Nat) (hdh : 2 ≤ dh) (hH : ∀ (q0 : Nat) (q1 : Int32) (h : zH), zMet G yX5_sum cX5_sum 6 (some .boolean) zvI dh [.ref (zbase G + q0), .int q1] h (kH q0 q1 h)) (k4 : Nat → Int32 → Int32 → Int32 → zH → Option (Int32 × zH)) (hk4 : ∀ (l0 : Nat) (l1 : Int32) (l2 : Int32) (l3 : Int32) (h : zH), zW G yX5_sum cX5_sum 6 (some .boolean) zvI (dh + 2) 4 [(0, .ref (zbase G + l0)), (1, .int l1), (2, .int l2), (3, .int l3)] [] h (k4 l0 l1 l2 l3 h)) : ∀ (t : Nat) (l0 : Nat) (l1 : Int32) (l2 : Int32) (l3 : Int32) (l4 : Int32) (l5 : Int32) (h : zH), zW G yX5_sum cX5_sum 6 (some .boolean) zvI (dh + 2) 17 [(0, .ref (zbase G + l0)), (1, .int l1), (2, .int l2), (3, .int l3), (4, .int l4), (5, .int l5)] [] h (zlp6 (fb_X5_sum_17 n kH k4 ) t l0 l1 l2 l3 l4 l5 h) := by
  intro t
  induction t with
  | zero => intros; exact zW_none
  | succ t ih => intro l0 l1 l2 l3 l4 l5 h; rw [zlp6_s]; exact wb_X5_sum_17 G n kH dh hdh hH k4  _ hk4  ih l0 l1 l2 l3 l4 l5 h
set_option maxRecDepth 20000 in
set_option maxHeartbeats 1000000 in
theorem wb_X5_sum_4 (G : zG) (n : Nat) (kH : Nat → Int32 → zH → Option (Int32 × zH)) (dh : Nat) (hdh : 2 ≤ dh) (hH : ∀ (q0 : Nat) (q1 : Int32) (h : zH), zMet G yX5_sum cX5_sum 6 (some .boolean) zvI dh [.ref (zbase G + q0), .int q1] h (kH q0 q1 h)) (k4 : Nat → Int32 → Int32 → Int32 → zH → Option (Int32 × zH)) (hk4 : ∀ (l0 : Nat) (l1 : Int32) (l2 : Int32) (l3 : Int32) (h : zH), zW G yX5_sum cX5_sum 6 (some .boolean) zvI (dh + 2) 4 [(0, .ref (zbase G + l0)), (1, .int l1), (2, .int l2), (3, .int l3)] [] h (k4 l0 l1 l2 l3 h)) (l0 : Nat) (l1 : Int32) (l2 : Int32) (l3 : Int32) (h : zH) : zW G yX5_sum cX5_sum 6 (some .boolean) zvI (dh + 2) 4 [(0, .ref (zbase G + l0)), (1, .int l1), (2, .int l2), (3, .int l3)] [] h (fb_X5_sum_4 n kH k4 l0 l1 l2 l3 h) := by
  unfold fb_X5_sum_4
  refine zi_iload_n dX5_sum_4 rfl 3 rfl ?_
  refine zi_sipush (v := 400) dX5_sum_5 (by decide) ?_
  refine zi_icmp_ge (tgt := 148) dX5_sum_8 (by decide) ?_ ?_
  · refine zi_sub [0] rfl ?_
    exact wb_X5_sum_148 G n kH dh hdh hH l0 h
  · refine zi_iconst (v := (-1)) dX5_sum_11 (by decide) ?_
    refine zi_istore (l' := [(4, .int (-1)), (0, .ref (zbase G + l0)), (1, .int l1), (2, .int l2), (3, .int l3)]) dX5_sum_12 (by decide) rfl ?_
    refine zi_iconst (v := 0) dX5_sum_14 (by decide) ?_
    refine zi_istore (l' := [(5, .int 0), (4, .int (-1)), (0, .ref (zbase G + l0)), (1, .int l1), (2, .int l2), (3, .int l3)]) dX5_sum_15 (by decide) rfl ?_
    refine zi_sub [2, 3, 4, 5, 1, 0] rfl ?_
    exact wl_X5_sum_17 G n kH dh hdh hH k4 hk4 n l0 l1 l2 l3 (-1) 0 h
theorem wl_X5_sum_4 (G : zG) (n : Nat) (kH : Nat → Int32 → zH → Option (Int32 × zH)) (dh : Nat) (hdh : 2 ≤ dh) (hH : ∀ (q0 : Nat) (q1 : Int32) (h : zH), zMet G yX5_sum cX5_sum 6 (some .boolean) zvI dh [.ref (zbase G + q0), .int q1] h (kH q0 q1 h)) : ∀ (t : Nat) (l0 : Nat) (l1 : Int32) (l2 : Int32) (l3 : Int32) (h : zH), zW G yX5_sum cX5_sum 6 (some .boolean) zvI (dh + 2) 4 [(0, .ref (zbase G + l0)), (1, .int l1), (2, .int l2), (3, .int l3)] [] h (zlp4 (fb_X5_sum_4 n kH ) t l0 l1 l2 l3 h) := by
  intro t
  induction t with
  | zero => intros; exact zW_none
  | succ t ih => intro l0 l1 l2 l3 h; rw [zlp4_s]; exact wb_X5_sum_4 G n kH dh hdh hH  _  ih l0 l1 l2 l3 h
set_option maxRecDepth 20000 in
set_option maxHeartbeats 1000000 in
theorem kB_X5_sum (G : zG) (n : Nat) (kH : Nat → Int32 → zH → Option (Int32 × zH)) (dh : Nat) (hdh : 2 ≤ dh) (hH : ∀ (q0 : Nat) (q1 : Int32) (h : zH), zMet G yX5_sum cX5_sum 6 (some .boolean) zvI dh [.ref (zbase G + q0), .int q1] h (kH q0 q1 h)) (a0 : Nat) (a1 : Int32) (h : zH) : zMet G yX5_sum cX5_sum 6 (some .boolean) zvI (dh + 2) [.ref (zbase G + a0), .int a1] h (fB_X5_sum n kH a0 a1 h) := by
  refine zMet_of (l := [(0, .ref (zbase G + a0)), (1, .int a1)]) (by decide) (Nat.le_of_ble_eq_true rfl) rfl ?_
  unfold fB_X5_sum
  refine zi_iconst (v := (-1)) dX5_sum_0 (by decide) ?_
  refine zi_istore_n (l' := [(2, .int (-1)), (0, .ref (zbase G + a0)), (1, .int a1)]) dX5_sum_1 rfl (by decide) rfl ?_
  refine zi_iconst (v := 0) dX5_sum_2 (by decide) ?_
  refine zi_istore_n (l' := [(3, .int 0), (2, .int (-1)), (0, .ref (zbase G + a0)), (1, .int a1)]) dX5_sum_3 rfl (by decide) rfl ?_
  refine zi_sub [2, 3, 1, 0] rfl ?_
  exact wl_X5_sum_4 G n kH dh hdh hH n a0 a1 (-1) 0 h
theorem k_X5_sum (G : zG) (n : Nat) : ∀ (r : Nat) (a0 : Nat) (a1 : Int32) (h : zH), zMet G yX5_sum cX5_sum 6 (some .boolean) zvI (2 + 2 * r) [.ref (zbase G + a0), .int a1] h (f_X5_sum n r a0 a1 h) := by
  intro r
  induction r with
  | zero => intro a0 a1 h r h1 hX; cases hX
  | succ r ih => intro a0 a1 h; exact kB_X5_sum G n (f_X5_sum n r) (2 + 2 * r) (Nat.le_add_right _ _) ih a0 a1 h
set_option maxRecDepth 20000 in
set_option maxHeartbeats 1000000 in
theorem k_X5_wholeSum (G : zG) (n : Nat) (a0 : Nat) (a1 : Int32) (h : zH) : zMet G yX5_wholeSum cX5_wholeSum 2 (some .boolean) zvI 27 [.ref (zbase G + a0), .int a1] h (f_X5_wholeSum n a0 a1 h) := by
  refine zMet_of (l := [(0, .ref (zbase G + a0)), (1, .int a1)]) (by decide) (Nat.le_of_ble_eq_true rfl) rfl ?_
  unfold f_X5_wholeSum
  refine zi_aload_n dX5_wholeSum_0 rfl 0 rfl ?_
  refine zi_getR dX5_wholeSum_1 gf_X5_16 (fun v1 => ?_)
  refine zi_iload_n dX5_wholeSum_4 rfl 1 rfl ?_
  refine zi_aload_n dX5_wholeSum_5 rfl 0 rfl ?_
  refine zi_getR dX5_wholeSum_6 gf_X5_16 (fun v2 => ?_)
  refine zi_getI dX5_wholeSum_9 gf_X5_55 (fun v3 => ?_)
  refine zi_callVU (As := [.int a1, .int v3]) (rest := []) (ci := 8) dX5_wholeSum_12 ml_X5_58 md_X8_setEntry mv_X8_setEntry rfl (by decide) rfl rfl (Nat.le_of_ble_eq_true rfl) (Nat.le_of_ble_eq_true rfl) (k_X8_setEntry G n v1 a1 v3 h) (fun _ h5 => ?_)
  refine zi_aload_n dX5_wholeSum_15 rfl 0 rfl ?_
  refine zi_iconst (v := 0) dX5_wholeSum_16 (by decide) ?_
  refine zi_callVI (As := [.int 0]) (rest := []) (ci := 5) dX5_wholeSum_17 ml_X5_87 md_X5_sum mv_X5_sum rfl (by decide) rfl rfl (Nat.le_of_ble_eq_true rfl) (Nat.le_of_ble_eq_true rfl) (k_X5_sum G n 12 a0 0 h5) (fun r6 h7 => ?_)
  refine zi_if_ne (tgt := 25) dX5_wholeSum_20 (by decide) ?_ ?_
  · refine zi_aload_n dX5_wholeSum_25 rfl 0 rfl ?_
    refine zi_getR dX5_wholeSum_26 gf_X5_16 (fun v8 => ?_)
    refine zi_iconst (v := 5) dX5_wholeSum_29 (by decide) ?_
    refine zi_iconst (v := 0) dX5_wholeSum_30 (by decide) ?_
    refine zi_callVI (As := [.int 5, .int 0]) (rest := []) (ci := 8) dX5_wholeSum_31 ml_X5_66 md_X8_addStep mv_X8_addStep rfl (by decide) rfl rfl (Nat.le_of_ble_eq_true rfl) (Nat.le_of_ble_eq_true rfl) (k_X8_addStep G n v8 5 0 h7) (fun r9 h10 => ?_)
    refine zi_pop dX5_wholeSum_34 rfl ?_
    refine zi_iconst (v := 1) dX5_wholeSum_35 (by decide) ?_
    exact zi_ret1 dX5_wholeSum_36
  · refine zi_iconst (v := 0) dX5_wholeSum_23 (by decide) ?_
    exact zi_ret0 dX5_wholeSum_24
set_option maxRecDepth 20000 in
set_option maxHeartbeats 1000000 in
theorem wb_X5_orderClause_19 (G : zG) (n : Nat) (l0 : Nat) (h : zH) : zW G yX5_orderClause cX5_orderClause 3 (some .boolean) zvI 28 19 [(0, .ref (zbase G + l0))] [] h (fb_X5_orderClause_19 n l0 h) := by
  unfold fb_X5_orderClause_19
  refine zi_aload_n dX5_orderClause_19 rfl 0 rfl ?_
  refine zi_callVI (As := []) (rest := []) (ci := 5) dX5_orderClause_20 ml_X5_74 md_X5_fails mv_X5_fails rfl (by decide) rfl rfl (Nat.le_of_ble_eq_true rfl) (Nat.le_of_ble_eq_true rfl) (k_X5_fails G n l0 h) (fun r1 h2 => ?_)
  exact zi_retZ dX5_orderClause_23
set_option maxRecDepth 20000 in
set_option maxHeartbeats 1000000 in
theorem wb_X5_orderClause_87 (G : zG) (n : Nat) (l0 : Nat) (h : zH) : zW G yX5_orderClause cX5_orderClause 3 (some .boolean) zvI 28 87 [(0, .ref (zbase G + l0))] [] h (fb_X5_orderClause_87 n l0 h) := by
  unfold fb_X5_orderClause_87
  refine zi_aload_n dX5_orderClause_87 rfl 0 rfl ?_
  refine zi_sipush (v := 261) dX5_orderClause_88 (by decide) ?_
  refine zi_callVI (As := [.int 261]) (rest := []) (ci := 5) dX5_orderClause_91 ml_X5_51 md_X5_takes mv_X5_takes rfl (by decide) rfl rfl (Nat.le_of_ble_eq_true rfl) (Nat.le_of_ble_eq_true rfl) (k_X5_takes G n l0 261 h) (fun r1 h2 => ?_)
  refine zi_if_eq (tgt := 134) dX5_orderClause_94 (by decide) ?_ ?_
  · refine zi_iconst (v := 1) dX5_orderClause_134 (by decide) ?_
    exact zi_ret1 dX5_orderClause_135
  · refine zi_aload_n dX5_orderClause_97 rfl 0 rfl ?_
    refine zi_iconst (v := 1) dX5_orderClause_98 (by decide) ?_
    refine zi_bipush (v := 20) dX5_orderClause_99 (by decide) ?_
    refine zi_callVI (As := [.int 1, .int 20]) (rest := []) (ci := 5) dX5_orderClause_101 ml_X5_84 md_X5_numberWithin mv_X5_numberWithin rfl (by decide) rfl rfl (Nat.le_of_ble_eq_true rfl) (Nat.le_of_ble_eq_true rfl) (k_X5_numberWithin G n l0 1 20 h2) (fun r3 h4 => ?_)
    refine zi_istore_n (l' := [(2, .int r3), (0, .ref (zbase G + l0))]) dX5_orderClause_104 rfl (by decide) rfl ?_
    refine zi_iload_n dX5_orderClause_105 rfl 0 rfl ?_
    refine zi_iconst (v := (-1)) dX5_orderClause_106 (by decide) ?_
    refine zi_icmp_ne (tgt := 115) dX5_orderClause_107 (by decide) ?_ ?_
    · refine zi_aload_n dX5_orderClause_115 rfl 1 rfl ?_
      refine zi_getR dX5_orderClause_116 gf_X5_16 (fun v5 => ?_)
      refine zi_iconst (v := 3) dX5_orderClause_119 (by decide) ?_
      refine zi_iload_n dX5_orderClause_120 rfl 0 rfl ?_
      refine zi_callVU (As := [.int 3, .int r3]) (rest := []) (ci := 8) dX5_orderClause_121 ml_X5_58 md_X8_setEntry mv_X8_setEntry rfl (by decide) rfl rfl (Nat.le_of_ble_eq_true rfl) (Nat.le_of_ble_eq_true rfl) (k_X8_setEntry G n v5 3 r3 h4) (fun _ h7 => ?_)
      refine zi_aload_n dX5_orderClause_124 rfl 1 rfl ?_
      refine zi_dup dX5_orderClause_125 rfl ?_
      refine zi_getI dX5_orderClause_126 gf_X5_27 (fun v8 => ?_)
      refine zi_iconst (v := 1) dX5_orderClause_129 (by decide) ?_
      refine zi_iadd dX5_orderClause_130 ?_
      refine zi_putI dX5_orderClause_131 gf_X5_27 (fun h9 => ?_)
      refine zi_iconst (v := 1) dX5_orderClause_134 (by decide) ?_
      exact zi_ret1 dX5_orderClause_135
    · refine zi_aload_n dX5_orderClause_110 rfl 1 rfl ?_
      refine zi_callVI (As := []) (rest := []) (ci := 5) dX5_orderClause_111 ml_X5_74 md_X5_fails mv_X5_fails rfl (by decide) rfl rfl (Nat.le_of_ble_eq_true rfl) (Nat.le_of_ble_eq_true rfl) (k_X5_fails G n l0 h4) (fun r10 h11 => ?_)
      exact zi_retZ dX5_orderClause_114
set_option maxRecDepth 20000 in
set_option maxHeartbeats 1000000 in
theorem wb_X5_orderClause_58 (G : zG) (n : Nat) (l0 : Nat) (l1 : Int32) (h : zH) : zW G yX5_orderClause cX5_orderClause 3 (some .boolean) zvI 28 58 [(0, .ref (zbase G + l0)), (1, .int l1)] [] h (fb_X5_orderClause_58 n l0 l1 h) := by
  unfold fb_X5_orderClause_58
  refine zi_iload_n dX5_orderClause_58 rfl 1 rfl ?_
  refine zi_if_ne (tgt := 87) dX5_orderClause_59 (by decide) ?_ ?_
  · refine zi_sub [0] rfl ?_
    exact wb_X5_orderClause_87 G n l0 h
  · refine zi_aload_n dX5_orderClause_62 rfl 0 rfl ?_
    refine zi_sipush (v := 260) dX5_orderClause_63 (by decide) ?_
    refine zi_callVI (As := [.int 260]) (rest := []) (ci := 5) dX5_orderClause_66 ml_X5_51 md_X5_takes mv_X5_takes rfl (by decide) rfl rfl (Nat.le_of_ble_eq_true rfl) (Nat.le_of_ble_eq_true rfl) (k_X5_takes G n l0 260 h) (fun r1 h2 => ?_)
    refine zi_if_ne (tgt := 77) dX5_orderClause_69 (by decide) ?_ ?_
    · refine zi_aload_n dX5_orderClause_77 rfl 0 rfl ?_
      refine zi_iconst (v := 2) dX5_orderClause_78 (by decide) ?_
      refine zi_callVI (As := [.int 2]) (rest := []) (ci := 5) dX5_orderClause_79 ml_X5_81 md_X5_wholeSum mv_X5_wholeSum rfl (by decide) rfl rfl (Nat.le_of_ble_eq_true rfl) (Nat.le_of_ble_eq_true rfl) (k_X5_wholeSum G n l0 2 h2) (fun r3 h4 => ?_)
      refine zi_if_ne (tgt := 87) dX5_orderClause_82 (by decide) ?_ ?_
      · refine zi_sub [0] rfl ?_
        exact wb_X5_orderClause_87 G n l0 h4
      · refine zi_iconst (v := 0) dX5_orderClause_85 (by decide) ?_
        exact zi_ret0 dX5_orderClause_86
    · refine zi_aload_n dX5_orderClause_72 rfl 0 rfl ?_
      refine zi_callVI (As := []) (rest := []) (ci := 5) dX5_orderClause_73 ml_X5_74 md_X5_fails mv_X5_fails rfl (by decide) rfl rfl (Nat.le_of_ble_eq_true rfl) (Nat.le_of_ble_eq_true rfl) (k_X5_fails G n l0 h2) (fun r5 h6 => ?_)
      exact zi_retZ dX5_orderClause_76
set_option maxRecDepth 20000 in
set_option maxHeartbeats 1000000 in
theorem k_X5_orderClause (G : zG) (n : Nat) (a0 : Nat) (h : zH) : zMet G yX5_orderClause cX5_orderClause 3 (some .boolean) zvI 28 [.ref (zbase G + a0)] h (f_X5_orderClause n a0 h) := by
  refine zMet_of (l := [(0, .ref (zbase G + a0))]) (by decide) (Nat.le_of_ble_eq_true rfl) rfl ?_
  unfold f_X5_orderClause
  refine zi_aload_n dX5_orderClause_0 rfl 0 rfl ?_
  refine zi_callVI (As := []) (rest := []) (ci := 5) dX5_orderClause_1 ml_X5_70 md_X5_present mv_X5_present rfl (by decide) rfl rfl (Nat.le_of_ble_eq_true rfl) (Nat.le_of_ble_eq_true rfl) (k_X5_present G n a0 h) (fun r1 h2 => ?_)
  refine zi_sipush (v := 300) dX5_orderClause_4 (by decide) ?_
  refine zi_isub dX5_orderClause_7 ?_
  refine zi_let (sf := fun x3 => .int x3 :: []) (fun x3 => ?_)
  refine zi_istore_n (l' := [(1, .int x3), (0, .ref (zbase G + a0))]) dX5_orderClause_8 rfl (by decide) rfl ?_
  refine zi_iload_n dX5_orderClause_9 rfl 0 rfl ?_
  refine zi_if_lt (tgt := 19) dX5_orderClause_10 (by decide) ?_ ?_
  · refine zi_sub [1] rfl ?_
    exact wb_X5_orderClause_19 G n a0 h2
  · refine zi_iload_n dX5_orderClause_13 rfl 0 rfl ?_
    refine zi_bipush (v := 7) dX5_orderClause_14 (by decide) ?_
    refine zi_icmp_le (tgt := 24) dX5_orderClause_16 (by decide) ?_ ?_
    · refine zi_aload_n dX5_orderClause_24 rfl 1 rfl ?_
      refine zi_dup dX5_orderClause_25 rfl ?_
      refine zi_getI dX5_orderClause_26 gf_X5_27 (fun v4 => ?_)
      refine zi_iconst (v := 1) dX5_orderClause_29 (by decide) ?_
      refine zi_iadd dX5_orderClause_30 ?_
      refine zi_putI dX5_orderClause_31 gf_X5_27 (fun h5 => ?_)
      refine zi_aload_n dX5_orderClause_34 rfl 1 rfl ?_
      refine zi_getR dX5_orderClause_35 gf_X5_16 (fun v6 => ?_)
      refine zi_iload_n dX5_orderClause_38 rfl 0 rfl ?_
      refine zi_callVU (As := [.int x3]) (rest := []) (ci := 8) dX5_orderClause_39 ml_X5_77 md_X8_addClause mv_X8_addClause rfl (by decide) rfl rfl (Nat.le_of_ble_eq_true rfl) (Nat.le_of_ble_eq_true rfl) (k_X8_addClause G n v6 x3 h5) (fun _ h8 => ?_)
      refine zi_iload_n dX5_orderClause_42 rfl 0 rfl ?_
      refine zi_bipush (v := 7) dX5_orderClause_43 (by decide) ?_
      refine zi_icmp_eq (tgt := 58) dX5_orderClause_45 (by decide) ?_ ?_
      · refine zi_sub [1, 0] rfl ?_
        exact wb_X5_orderClause_58 G n a0 x3 h8
      · refine zi_aload_n dX5_orderClause_48 rfl 1 rfl ?_
        refine zi_iconst (v := 1) dX5_orderClause_49 (by decide) ?_
        refine zi_callVI (As := [.int 1]) (rest := []) (ci := 5) dX5_orderClause_50 ml_X5_81 md_X5_wholeSum mv_X5_wholeSum rfl (by decide) rfl rfl (Nat.le_of_ble_eq_true rfl) (Nat.le_of_ble_eq_true rfl) (k_X5_wholeSum G n a0 1 h8) (fun r9 h10 => ?_)
        refine zi_if_ne (tgt := 58) dX5_orderClause_53 (by decide) ?_ ?_
        · refine zi_sub [1, 0] rfl ?_
          exact wb_X5_orderClause_58 G n a0 x3 h10
        · refine zi_iconst (v := 0) dX5_orderClause_56 (by decide) ?_
          exact zi_ret0 dX5_orderClause_57
    · refine zi_sub [1] rfl ?_
      exact wb_X5_orderClause_19 G n a0 h2
set_option maxRecDepth 20000 in
set_option maxHeartbeats 1000000 in
theorem k_X5_lawClause (G : zG) (n : Nat) (a0 : Nat) (h : zH) : zMet G yX5_lawClause cX5_lawClause 1 (some .boolean) zvI 28 [.ref (zbase G + a0)] h (f_X5_lawClause n a0 h) := by
  refine zMet_of (l := [(0, .ref (zbase G + a0))]) (by decide) (Nat.le_of_ble_eq_true rfl) rfl ?_
  unfold f_X5_lawClause
  refine zi_aload_n dX5_lawClause_0 rfl 0 rfl ?_
  refine zi_sipush (v := 263) dX5_lawClause_1 (by decide) ?_
  refine zi_callVI (As := [.int 263]) (rest := []) (ci := 5) dX5_lawClause_4 ml_X5_51 md_X5_takes mv_X5_takes rfl (by decide) rfl rfl (Nat.le_of_ble_eq_true rfl) (Nat.le_of_ble_eq_true rfl) (k_X5_takes G n a0 263 h) (fun r1 h2 => ?_)
  refine zi_if_eq (tgt := 20) dX5_lawClause_7 (by decide) ?_ ?_
  · refine zi_aload_n dX5_lawClause_20 rfl 0 rfl ?_
    refine zi_sipush (v := 262) dX5_lawClause_21 (by decide) ?_
    refine zi_callVI (As := [.int 262]) (rest := []) (ci := 5) dX5_lawClause_24 ml_X5_51 md_X5_takes mv_X5_takes rfl (by decide) rfl rfl (Nat.le_of_ble_eq_true rfl) (Nat.le_of_ble_eq_true rfl) (k_X5_takes G n a0 262 h2) (fun r3 h4 => ?_)
    refine zi_if_ne (tgt := 35) dX5_lawClause_27 (by decide) ?_ ?_
    · refine zi_aload_n dX5_lawClause_35 rfl 0 rfl ?_
      refine zi_getR dX5_lawClause_36 gf_X5_16 (fun v5 => ?_)
      refine zi_iconst (v := 0) dX5_lawClause_39 (by decide) ?_
      refine zi_callVU (As := [.int 0]) (rest := []) (ci := 8) dX5_lawClause_40 ml_X5_77 md_X8_addClause mv_X8_addClause rfl (by decide) rfl rfl (Nat.le_of_ble_eq_true rfl) (Nat.le_of_ble_eq_true rfl) (k_X8_addClause G n v5 0 h4) (fun _ h7 => ?_)
      refine zi_aload_n dX5_lawClause_43 rfl 0 rfl ?_
      refine zi_iconst (v := 1) dX5_lawClause_44 (by decide) ?_
      refine zi_callVI (As := [.int 1]) (rest := []) (ci := 5) dX5_lawClause_45 ml_X5_81 md_X5_wholeSum mv_X5_wholeSum rfl (by decide) rfl rfl (Nat.le_of_ble_eq_true rfl) (Nat.le_of_ble_eq_true rfl) (k_X5_wholeSum G n a0 1 h7) (fun r8 h9 => ?_)
      exact zi_retZ dX5_lawClause_48
    · refine zi_aload_n dX5_lawClause_30 rfl 0 rfl ?_
      refine zi_callVI (As := []) (rest := []) (ci := 5) dX5_lawClause_31 ml_X5_74 md_X5_fails mv_X5_fails rfl (by decide) rfl rfl (Nat.le_of_ble_eq_true rfl) (Nat.le_of_ble_eq_true rfl) (k_X5_fails G n a0 h4) (fun r10 h11 => ?_)
      exact zi_retZ dX5_lawClause_34
  · refine zi_aload_n dX5_lawClause_10 rfl 0 rfl ?_
    refine zi_getR dX5_lawClause_11 gf_X5_16 (fun v12 => ?_)
    refine zi_iconst (v := 1) dX5_lawClause_14 (by decide) ?_
    refine zi_callVU (As := [.int 1]) (rest := []) (ci := 8) dX5_lawClause_15 ml_X5_77 md_X8_addClause mv_X8_addClause rfl (by decide) rfl rfl (Nat.le_of_ble_eq_true rfl) (Nat.le_of_ble_eq_true rfl) (k_X8_addClause G n v12 1 h2) (fun _ h14 => ?_)
    refine zi_iconst (v := 1) dX5_lawClause_18 (by decide) ?_
    exact zi_ret1 dX5_lawClause_19
set_option maxRecDepth 20000 in
set_option maxHeartbeats 1000000 in
theorem wb_X5_plain_161 (G : zG) (n : Nat) (kH : Nat → Int32 → zH → Option (Int32 × zH)) (dh : Nat) (hdh : 26 ≤ dh) (hH : ∀ (q0 : Nat) (q1 : Int32) (h : zH), zMet G yX5_test cX5_test 6 (some .boolean) zvI dh [.ref (zbase G + q0), .int q1] h (kH q0 q1 h)) (l0 : Nat) (l2 : Int32) (h : zH) : zW G yX5_plain cX5_plain 4 (some .boolean) zvI (dh + 1) 161 [(0, .ref (zbase G + l0)), (2, .int l2)] [] h (fb_X5_plain_161 n kH l0 l2 h) := by
  unfold fb_X5_plain_161
  refine zi_iload_n dX5_plain_161 rfl 1 rfl ?_
  refine zi_if_eq (tgt := 175) dX5_plain_162 (by decide) ?_ ?_
  · refine zi_iconst (v := 1) dX5_plain_175 (by decide) ?_
    exact zi_ret1 dX5_plain_176
  · refine zi_aload_n dX5_plain_165 rfl 0 rfl ?_
    refine zi_getR dX5_plain_166 gf_X5_16 (fun v1 => ?_)
    refine zi_iconst (v := 2) dX5_plain_169 (by decide) ?_
    refine zi_iconst (v := 0) dX5_plain_170 (by decide) ?_
    refine zi_callVI (As := [.int 2, .int 0]) (rest := []) (ci := 8) dX5_plain_171 ml_X5_66 md_X8_addStep mv_X8_addStep rfl (by decide) rfl rfl (Nat.le_of_ble_eq_true rfl) (by omega) (k_X8_addStep G n v1 2 0 h) (fun r2 h3 => ?_)
    refine zi_pop dX5_plain_174 rfl ?_
    refine zi_iconst (v := 1) dX5_plain_175 (by decide) ?_
    exact zi_ret1 dX5_plain_176
set_option maxRecDepth 20000 in
set_option maxHeartbeats 1000000 in
theorem wb_X5_plain_131 (G : zG) (n : Nat) (kH : Nat → Int32 → zH → Option (Int32 × zH)) (dh : Nat) (hdh : 26 ≤ dh) (hH : ∀ (q0 : Nat) (q1 : Int32) (h : zH), zMet G yX5_test cX5_test 6 (some .boolean) zvI dh [.ref (zbase G + q0), .int q1] h (kH q0 q1 h)) (l0 : Nat) (l1 : Int32) (l2 : Int32) (l3 : Int32) (h : zH) : zW G yX5_plain cX5_plain 4 (some .boolean) zvI (dh + 1) 131 [(0, .ref (zbase G + l0)), (1, .int l1), (2, .int l2), (3, .int l3)] [] h (fb_X5_plain_131 n kH l0 l1 l2 l3 h) := by
  unfold fb_X5_plain_131
  refine zi_aload_n dX5_plain_131 rfl 0 rfl ?_
  refine zi_dup dX5_plain_132 rfl ?_
  refine zi_getI dX5_plain_133 gf_X5_27 (fun v1 => ?_)
  refine zi_iconst (v := 1) dX5_plain_136 (by decide) ?_
  refine zi_iadd dX5_plain_137 ?_
  refine zi_putI dX5_plain_138 gf_X5_27 (fun h2 => ?_)
  refine zi_aload_n dX5_plain_141 rfl 0 rfl ?_
  refine zi_iload_n dX5_plain_142 rfl 1 rfl ?_
  refine zi_callVI (As := [.int l1]) (rest := []) (ci := 5) dX5_plain_143 ml_X5_87 md_X5_sum mv_X5_sum rfl (by decide) rfl rfl (Nat.le_of_ble_eq_true rfl) (by omega) (k_X5_sum G n 12 l0 l1 h2) (fun r3 h4 => ?_)
  refine zi_if_ne (tgt := 151) dX5_plain_146 (by decide) ?_ ?_
  · refine zi_aload_n dX5_plain_151 rfl 0 rfl ?_
    refine zi_getR dX5_plain_152 gf_X5_16 (fun v5 => ?_)
    refine zi_iload_n dX5_plain_155 rfl 3 rfl ?_
    refine zi_iconst (v := 0) dX5_plain_156 (by decide) ?_
    refine zi_callVI (As := [.int l3, .int 0]) (rest := []) (ci := 8) dX5_plain_157 ml_X5_66 md_X8_addStep mv_X8_addStep rfl (by decide) rfl rfl (Nat.le_of_ble_eq_true rfl) (by omega) (k_X8_addStep G n v5 l3 0 h4) (fun r6 h7 => ?_)
    refine zi_pop dX5_plain_160 rfl ?_
    refine zi_sub [0, 2] rfl ?_
    exact wb_X5_plain_161 G n kH dh hdh hH l0 l2 h7
  · refine zi_iconst (v := 0) dX5_plain_149 (by decide) ?_
    exact zi_ret0 dX5_plain_150
set_option maxRecDepth 20000 in
set_option maxHeartbeats 1000000 in
theorem wb_X5_plain_37 (G : zG) (n : Nat) (kH : Nat → Int32 → zH → Option (Int32 × zH)) (dh : Nat) (hdh : 26 ≤ dh) (hH : ∀ (q0 : Nat) (q1 : Int32) (h : zH), zMet G yX5_test cX5_test 6 (some .boolean) zvI dh [.ref (zbase G + q0), .int q1] h (kH q0 q1 h)) (l0 : Nat) (l1 : Int32) (l2 : Int32) (h : zH) : zW G yX5_plain cX5_plain 4 (some .boolean) zvI (dh + 1) 37 [(0, .ref (zbase G + l0)), (1, .int l1), (2, .int l2)] [] h (fb_X5_plain_37 n kH l0 l1 l2 h) := by
  unfold fb_X5_plain_37
  refine zi_aload_n dX5_plain_37 rfl 0 rfl ?_
  refine zi_callVI (As := []) (rest := []) (ci := 5) dX5_plain_38 ml_X5_70 md_X5_present mv_X5_present rfl (by decide) rfl rfl (Nat.le_of_ble_eq_true rfl) (by omega) (k_X5_present G n l0 h) (fun r1 h2 => ?_)
  refine zi_bipush (v := 40) dX5_plain_41 (by decide) ?_
  refine zi_icmp_ne (tgt := 93) dX5_plain_43 (by decide) ?_ ?_
  · refine zi_aload_n dX5_plain_93 rfl 0 rfl ?_
    refine zi_iload_n dX5_plain_94 rfl 1 rfl ?_
    refine zi_callVI (As := [.int l1]) (rest := []) (ci := 5) dX5_plain_95 ml_X5_87 md_X5_sum mv_X5_sum rfl (by decide) rfl rfl (Nat.le_of_ble_eq_true rfl) (by omega) (k_X5_sum G n 12 l0 l1 h2) (fun r3 h4 => ?_)
    refine zi_if_ne (tgt := 103) dX5_plain_98 (by decide) ?_ ?_
    · refine zi_aload_n dX5_plain_103 rfl 0 rfl ?_
      refine zi_callVI (As := []) (rest := []) (ci := 5) dX5_plain_104 ml_X5_70 md_X5_present mv_X5_present rfl (by decide) rfl rfl (Nat.le_of_ble_eq_true rfl) (by omega) (k_X5_present G n l0 h4) (fun r5 h6 => ?_)
      refine zi_istore_n (l' := [(3, .int r5), (0, .ref (zbase G + l0)), (1, .int l1), (2, .int l2)]) dX5_plain_107 rfl (by decide) rfl ?_
      refine zi_iload_n dX5_plain_108 rfl 0 rfl ?_
      refine zi_bipush (v := 60) dX5_plain_109 (by decide) ?_
      refine zi_icmp_eq (tgt := 131) dX5_plain_111 (by decide) ?_ ?_
      · refine zi_sub [1, 2, 3, 0] rfl ?_
        exact wb_X5_plain_131 G n kH dh hdh hH l0 l1 l2 r5 h6
      · refine zi_iload_n dX5_plain_114 rfl 0 rfl ?_
        refine zi_bipush (v := 62) dX5_plain_115 (by decide) ?_
        refine zi_icmp_eq (tgt := 131) dX5_plain_117 (by decide) ?_ ?_
        · refine zi_sub [1, 2, 3, 0] rfl ?_
          exact wb_X5_plain_131 G n kH dh hdh hH l0 l1 l2 r5 h6
        · refine zi_iload_n dX5_plain_120 rfl 0 rfl ?_
          refine zi_bipush (v := 61) dX5_plain_121 (by decide) ?_
          refine zi_icmp_eq (tgt := 131) dX5_plain_123 (by decide) ?_ ?_
          · refine zi_sub [1, 2, 3, 0] rfl ?_
            exact wb_X5_plain_131 G n kH dh hdh hH l0 l1 l2 r5 h6
          · refine zi_aload_n dX5_plain_126 rfl 1 rfl ?_
            refine zi_callVI (As := []) (rest := []) (ci := 5) dX5_plain_127 ml_X5_74 md_X5_fails mv_X5_fails rfl (by decide) rfl rfl (Nat.le_of_ble_eq_true rfl) (by omega) (k_X5_fails G n l0 h6) (fun r7 h8 => ?_)
            exact zi_retZ dX5_plain_130
    · refine zi_iconst (v := 0) dX5_plain_101 (by decide) ?_
      exact zi_ret0 dX5_plain_102
  · refine zi_iload_n dX5_plain_46 rfl 1 rfl ?_
    refine zi_bipush (v := 8) dX5_plain_47 (by decide) ?_
    refine zi_icmp_lt (tgt := 57) dX5_plain_49 (by decide) ?_ ?_
    · refine zi_aload_n dX5_plain_57 rfl 0 rfl ?_
      refine zi_dup dX5_plain_58 rfl ?_
      refine zi_getI dX5_plain_59 gf_X5_27 (fun v9 => ?_)
      refine zi_iconst (v := 1) dX5_plain_62 (by decide) ?_
      refine zi_iadd dX5_plain_63 ?_
      refine zi_putI dX5_plain_64 gf_X5_27 (fun h10 => ?_)
      refine zi_aload_n dX5_plain_67 rfl 0 rfl ?_
      refine zi_iload_n dX5_plain_68 rfl 1 rfl ?_
      refine zi_iconst (v := 1) dX5_plain_69 (by decide) ?_
      refine zi_iadd dX5_plain_70 ?_
      refine zi_callVI (As := [.int (l1 + 1)]) (rest := []) (ci := 5) dX5_plain_71 ml_X5_61 md_X5_test mv_X5_test rfl (by decide) rfl rfl (Nat.le_of_ble_eq_true rfl) (by omega) (hH l0 (l1 + 1) h10) (fun r11 h12 => ?_)
      refine zi_if_ne (tgt := 79) dX5_plain_74 (by decide) ?_ ?_
      · refine zi_aload_n dX5_plain_79 rfl 0 rfl ?_
        refine zi_bipush (v := 41) dX5_plain_80 (by decide) ?_
        refine zi_callVI (As := [.int 41]) (rest := []) (ci := 5) dX5_plain_82 ml_X5_51 md_X5_takes mv_X5_takes rfl (by decide) rfl rfl (Nat.le_of_ble_eq_true rfl) (by omega) (k_X5_takes G n l0 41 h12) (fun r13 h14 => ?_)
        refine zi_if_ne (tgt := 161) dX5_plain_85 (by decide) ?_ ?_
        · refine zi_sub [0, 2] rfl ?_
          exact wb_X5_plain_161 G n kH dh hdh hH l0 l2 h14
        · refine zi_aload_n dX5_plain_88 rfl 0 rfl ?_
          refine zi_callVI (As := []) (rest := []) (ci := 5) dX5_plain_89 ml_X5_74 md_X5_fails mv_X5_fails rfl (by decide) rfl rfl (Nat.le_of_ble_eq_true rfl) (by omega) (k_X5_fails G n l0 h14) (fun r15 h16 => ?_)
          exact zi_retZ dX5_plain_92
      · refine zi_iconst (v := 0) dX5_plain_77 (by decide) ?_
        exact zi_ret0 dX5_plain_78
    · refine zi_aload_n dX5_plain_52 rfl 0 rfl ?_
      refine zi_callVI (As := []) (rest := []) (ci := 5) dX5_plain_53 ml_X5_74 md_X5_fails mv_X5_fails rfl (by decide) rfl rfl (Nat.le_of_ble_eq_true rfl) (by omega) (k_X5_fails G n l0 h2) (fun r17 h18 => ?_)
      exact zi_retZ dX5_plain_56
set_option maxRecDepth 20000 in
set_option maxHeartbeats 1000000 in
theorem wb_X5_plain_30 (G : zG) (n : Nat) (kH : Nat → Int32 → zH → Option (Int32 × zH)) (dh : Nat) (hdh : 26 ≤ dh) (hH : ∀ (q0 : Nat) (q1 : Int32) (h : zH), zMet G yX5_test cX5_test 6 (some .boolean) zvI dh [.ref (zbase G + q0), .int q1] h (kH q0 q1 h)) (k4 : Nat → Int32 → Int32 → Int32 → zH → Option (Int32 × zH)) (hk4 : ∀ (l0 : Nat) (l1 : Int32) (l2 : Int32) (l3 : Int32) (h : zH), zW G yX5_plain cX5_plain 4 (some .boolean) zvI (dh + 1) 4 [(0, .ref (zbase G + l0)), (1, .int l1), (2, .int l2), (3, .int l3)] [] h (k4 l0 l1 l2 l3 h)) (l0 : Nat) (l1 : Int32) (l3 : Int32) (s0 : Int32) (h : zH) : zW G yX5_plain cX5_plain 4 (some .boolean) zvI (dh + 1) 30 [(0, .ref (zbase G + l0)), (1, .int l1), (3, .int l3)] [.int s0] h (fb_X5_plain_30 n kH k4 l0 l1 l3 s0 h) := by
  unfold fb_X5_plain_30
  refine zi_istore_n (l' := [(2, .int s0), (0, .ref (zbase G + l0)), (1, .int l1), (3, .int l3)]) dX5_plain_30 rfl (by decide) rfl ?_
  refine zi_iinc (j := 3) (v := l3 + 1) (l' := [(3, .int (l3 + 1)), (2, .int s0), (0, .ref (zbase G + l0)), (1, .int l1)]) dX5_plain_31 rfl rfl (by decide) rfl ?_
  refine zi_goto (tgt := 4) dX5_plain_34 (by decide) ?_
  refine zi_sub [2, 3, 1, 0] rfl ?_
  exact hk4 l0 l1 s0 (l3 + 1) h
set_option maxRecDepth 20000 in
set_option maxHeartbeats 1000000 in
theorem wb_X5_plain_4 (G : zG) (n : Nat) (kH : Nat → Int32 → zH → Option (Int32 × zH)) (dh : Nat) (hdh : 26 ≤ dh) (hH : ∀ (q0 : Nat) (q1 : Int32) (h : zH), zMet G yX5_test cX5_test 6 (some .boolean) zvI dh [.ref (zbase G + q0), .int q1] h (kH q0 q1 h)) (k4 : Nat → Int32 → Int32 → Int32 → zH → Option (Int32 × zH)) (hk4 : ∀ (l0 : Nat) (l1 : Int32) (l2 : Int32) (l3 : Int32) (h : zH), zW G yX5_plain cX5_plain 4 (some .boolean) zvI (dh + 1) 4 [(0, .ref (zbase G + l0)), (1, .int l1), (2, .int l2), (3, .int l3)] [] h (k4 l0 l1 l2 l3 h)) (l0 : Nat) (l1 : Int32) (l2 : Int32) (l3 : Int32) (h : zH) : zW G yX5_plain cX5_plain 4 (some .boolean) zvI (dh + 1) 4 [(0, .ref (zbase G + l0)), (1, .int l1), (2, .int l2), (3, .int l3)] [] h (fb_X5_plain_4 n kH k4 l0 l1 l2 l3 h) := by
  unfold fb_X5_plain_4
  refine zi_iload_n dX5_plain_4 rfl 3 rfl ?_
  refine zi_sipush (v := 400) dX5_plain_5 (by decide) ?_
  refine zi_icmp_ge (tgt := 37) dX5_plain_8 (by decide) ?_ ?_
  · refine zi_sub [0, 1, 2] rfl ?_
    exact wb_X5_plain_37 G n kH dh hdh hH l0 l1 l2 h
  · refine zi_aload_n dX5_plain_11 rfl 0 rfl ?_
    refine zi_sipush (v := 259) dX5_plain_12 (by decide) ?_
    refine zi_callVI (As := [.int 259]) (rest := []) (ci := 5) dX5_plain_15 ml_X5_51 md_X5_takes mv_X5_takes rfl (by decide) rfl rfl (Nat.le_of_ble_eq_true rfl) (by omega) (k_X5_takes G n l0 259 h) (fun r1 h2 => ?_)
    refine zi_if_eq (tgt := 37) dX5_plain_18 (by decide) ?_ ?_
    · refine zi_sub [0, 1, 2] rfl ?_
      exact wb_X5_plain_37 G n kH dh hdh hH l0 l1 l2 h2
    · refine zi_iload_n dX5_plain_21 rfl 2 rfl ?_
      refine zi_if_ne (tgt := 29) dX5_plain_22 (by decide) ?_ ?_
      · refine zi_iconst (v := 0) dX5_plain_29 (by decide) ?_
        refine zi_sub [0, 1, 3] rfl ?_
        exact wb_X5_plain_30 G n kH dh hdh hH k4 hk4 l0 l1 l3 0 h2
      · refine zi_iconst (v := 1) dX5_plain_25 (by decide) ?_
        refine zi_goto (tgt := 30) dX5_plain_26 (by decide) ?_
        refine zi_sub [0, 1, 3] rfl ?_
        exact wb_X5_plain_30 G n kH dh hdh hH k4 hk4 l0 l1 l3 1 h2
theorem wl_X5_plain_4 (G : zG) (n : Nat) (kH : Nat → Int32 → zH → Option (Int32 × zH)) (dh : Nat) (hdh : 26 ≤ dh) (hH : ∀ (q0 : Nat) (q1 : Int32) (h : zH), zMet G yX5_test cX5_test 6 (some .boolean) zvI dh [.ref (zbase G + q0), .int q1] h (kH q0 q1 h)) : ∀ (t : Nat) (l0 : Nat) (l1 : Int32) (l2 : Int32) (l3 : Int32) (h : zH), zW G yX5_plain cX5_plain 4 (some .boolean) zvI (dh + 1) 4 [(0, .ref (zbase G + l0)), (1, .int l1), (2, .int l2), (3, .int l3)] [] h (zlp4 (fb_X5_plain_4 n kH ) t l0 l1 l2 l3 h) := by
  intro t
  induction t with
  | zero => intros; exact zW_none
  | succ t ih => intro l0 l1 l2 l3 h; rw [zlp4_s]; exact wb_X5_plain_4 G n kH dh hdh hH  _  ih l0 l1 l2 l3 h
set_option maxRecDepth 20000 in
set_option maxHeartbeats 1000000 in
theorem k_X5_plain (G : zG) (n : Nat) (kH : Nat → Int32 → zH → Option (Int32 × zH)) (dh : Nat) (hdh : 26 ≤ dh) (hH : ∀ (q0 : Nat) (q1 : Int32) (h : zH), zMet G yX5_test cX5_test 6 (some .boolean) zvI dh [.ref (zbase G + q0), .int q1] h (kH q0 q1 h)) (a0 : Nat) (a1 : Int32) (h : zH) : zMet G yX5_plain cX5_plain 4 (some .boolean) zvI (dh + 1) [.ref (zbase G + a0), .int a1] h (f_X5_plain n kH a0 a1 h) := by
  refine zMet_of (l := [(0, .ref (zbase G + a0)), (1, .int a1)]) (by decide) (Nat.le_of_ble_eq_true rfl) rfl ?_
  unfold f_X5_plain
  refine zi_iconst (v := 0) dX5_plain_0 (by decide) ?_
  refine zi_istore_n (l' := [(2, .int 0), (0, .ref (zbase G + a0)), (1, .int a1)]) dX5_plain_1 rfl (by decide) rfl ?_
  refine zi_iconst (v := 0) dX5_plain_2 (by decide) ?_
  refine zi_istore_n (l' := [(3, .int 0), (2, .int 0), (0, .ref (zbase G + a0)), (1, .int a1)]) dX5_plain_3 rfl (by decide) rfl ?_
  refine zi_sub [2, 3, 1, 0] rfl ?_
  exact wl_X5_plain_4 G n kH dh hdh hH n a0 a1 0 0 h
set_option maxRecDepth 20000 in
set_option maxHeartbeats 1000000 in
theorem k_X8_landHere (G : zG) (n : Nat) (a0 : Nat) (a1 : Int32) (h : zH) : zMet G yX8_landHere cX8_landHere 2 none zvU 1 [.ref (zbase G + a0), .int a1] h (f_X8_landHere n a0 a1 h) := by
  refine zMet_of (l := [(0, .ref (zbase G + a0)), (1, .int a1)]) (by decide) (Nat.le_of_ble_eq_true rfl) rfl ?_
  unfold f_X8_landHere
  refine zi_iload_n dX8_landHere_0 rfl 1 rfl ?_
  refine zi_if_lt (tgt := 23) dX8_landHere_1 (by decide) ?_ ?_
  · exact zi_retV dX8_landHere_23
  · refine zi_iload_n dX8_landHere_4 rfl 1 rfl ?_
    refine zi_aload_n dX8_landHere_5 rfl 0 rfl ?_
    refine zi_getR dX8_landHere_6 gf_X8_28 (fun v1 => ?_)
    refine zi_alen (Or.inl rfl) dX8_landHere_9 (fun v2 => ?_)
    refine zi_icmp_ge (tgt := 23) dX8_landHere_10 (by decide) ?_ ?_
    · exact zi_retV dX8_landHere_23
    · refine zi_aload_n dX8_landHere_13 rfl 0 rfl ?_
      refine zi_getR dX8_landHere_14 gf_X8_28 (fun v3 => ?_)
      refine zi_iload_n dX8_landHere_17 rfl 1 rfl ?_
      refine zi_aload_n dX8_landHere_18 rfl 0 rfl ?_
      refine zi_getI dX8_landHere_19 gf_X8_9 (fun v4 => ?_)
      refine zi_iast dX8_landHere_22 (fun h5 => ?_)
      exact zi_retV dX8_landHere_23
set_option maxRecDepth 20000 in
set_option maxHeartbeats 1000000 in
theorem wb_X5_test_110 (G : zG) (n : Nat) (kH : Nat → Int32 → zH → Option (Int32 × zH)) (dh : Nat) (hdh : 26 ≤ dh) (hH : ∀ (q0 : Nat) (q1 : Int32) (h : zH), zMet G yX5_test cX5_test 6 (some .boolean) zvI dh [.ref (zbase G + q0), .int q1] h (kH q0 q1 h)) (l0 : Nat) (h : zH) : zW G yX5_test cX5_test 6 (some .boolean) zvI (dh + 2) 110 [(0, .ref (zbase G + l0))] [] h (fb_X5_test_110 n kH l0 h) := by
  unfold fb_X5_test_110
  refine zi_aload_n dX5_test_110 rfl 0 rfl ?_
  refine zi_callVI (As := []) (rest := []) (ci := 5) dX5_test_111 ml_X5_74 md_X5_fails mv_X5_fails rfl (by decide) rfl rfl (Nat.le_of_ble_eq_true rfl) (by omega) (k_X5_fails G n l0 h) (fun r1 h2 => ?_)
  exact zi_retZ dX5_test_114
set_option maxRecDepth 20000 in
set_option maxHeartbeats 1000000 in
theorem wb_X5_test_74 (G : zG) (n : Nat) (kH : Nat → Int32 → zH → Option (Int32 × zH)) (dh : Nat) (hdh : 26 ≤ dh) (hH : ∀ (q0 : Nat) (q1 : Int32) (h : zH), zMet G yX5_test cX5_test 6 (some .boolean) zvI dh [.ref (zbase G + q0), .int q1] h (kH q0 q1 h)) (k4 : Nat → Int32 → Int32 → Int32 → zH → Option (Int32 × zH)) (hk4 : ∀ (l0 : Nat) (l1 : Int32) (l2 : Int32) (l3 : Int32) (h : zH), zW G yX5_test cX5_test 6 (some .boolean) zvI (dh + 2) 4 [(0, .ref (zbase G + l0)), (1, .int l1), (2, .int l2), (3, .int l3)] [] h (k4 l0 l1 l2 l3 h)) (l0 : Nat) (l1 : Int32) (l2 : Int32) (l3 : Int32) (h : zH) : zW G yX5_test cX5_test 6 (some .boolean) zvI (dh + 2) 74 [(0, .ref (zbase G + l0)), (1, .int l1), (2, .int l2), (3, .int l3)] [] h (fb_X5_test_74 n kH k4 l0 l1 l2 l3 h) := by
  unfold fb_X5_test_74
  refine zi_aload_n dX5_test_74 rfl 0 rfl ?_
  refine zi_getR dX5_test_75 gf_X5_16 (fun v1 => ?_)
  refine zi_iload_n dX5_test_78 rfl 2 rfl ?_
  refine zi_callVU (As := [.int l2]) (rest := []) (ci := 8) dX5_test_79 ml_X5_93 md_X8_landHere mv_X8_landHere rfl (by decide) rfl rfl (Nat.le_of_ble_eq_true rfl) (by omega) (k_X8_landHere G n v1 l2 h) (fun _ h3 => ?_)
  refine zi_aload_n dX5_test_82 rfl 0 rfl ?_
  refine zi_sipush (v := 257) dX5_test_83 (by decide) ?_
  refine zi_callVI (As := [.int 257]) (rest := []) (ci := 5) dX5_test_86 ml_X5_51 md_X5_takes mv_X5_takes rfl (by decide) rfl rfl (Nat.le_of_ble_eq_true rfl) (by omega) (k_X5_takes G n l0 257 h3) (fun r4 h5 => ?_)
  refine zi_if_ne (tgt := 94) dX5_test_89 (by decide) ?_ ?_
  · refine zi_aload_n dX5_test_94 rfl 0 rfl ?_
    refine zi_getR dX5_test_95 gf_X5_16 (fun v6 => ?_)
    refine zi_iconst (v := 3) dX5_test_98 (by decide) ?_
    refine zi_iconst (v := 0) dX5_test_99 (by decide) ?_
    refine zi_callVI (As := [.int 3, .int 0]) (rest := []) (ci := 8) dX5_test_100 ml_X5_66 md_X8_addStep mv_X8_addStep rfl (by decide) rfl rfl (Nat.le_of_ble_eq_true rfl) (by omega) (k_X8_addStep G n v6 3 0 h5) (fun r7 h8 => ?_)
    refine zi_istore_n (l' := [(2, .int r7), (0, .ref (zbase G + l0)), (1, .int l1), (3, .int l3)]) dX5_test_103 rfl (by decide) rfl ?_
    refine zi_iinc (j := 3) (v := l3 + 1) (l' := [(3, .int (l3 + 1)), (2, .int r7), (0, .ref (zbase G + l0)), (1, .int l1)]) dX5_test_104 rfl rfl (by decide) rfl ?_
    refine zi_goto (tgt := 4) dX5_test_107 (by decide) ?_
    refine zi_sub [2, 3, 1, 0] rfl ?_
    exact hk4 l0 l1 r7 (l3 + 1) h8
  · refine zi_iconst (v := 1) dX5_test_92 (by decide) ?_
    exact zi_ret1 dX5_test_93
set_option maxRecDepth 20000 in
set_option maxHeartbeats 1000000 in
theorem wb_X5_test_54 (G : zG) (n : Nat) (kH : Nat → Int32 → zH → Option (Int32 × zH)) (dh : Nat) (hdh : 26 ≤ dh) (hH : ∀ (q0 : Nat) (q1 : Int32) (h : zH), zMet G yX5_test cX5_test 6 (some .boolean) zvI dh [.ref (zbase G + q0), .int q1] h (kH q0 q1 h)) (k4 : Nat → Int32 → Int32 → Int32 → zH → Option (Int32 × zH)) (hk4 : ∀ (l0 : Nat) (l1 : Int32) (l2 : Int32) (l3 : Int32) (h : zH), zW G yX5_test cX5_test 6 (some .boolean) zvI (dh + 2) 4 [(0, .ref (zbase G + l0)), (1, .int l1), (2, .int l2), (3, .int l3)] [] h (k4 l0 l1 l2 l3 h)) (l0 : Nat) (l1 : Int32) (l2 : Int32) (l3 : Int32) (h : zH) : zW G yX5_test cX5_test 6 (some .boolean) zvI (dh + 2) 54 [(0, .ref (zbase G + l0)), (1, .int l1), (2, .int l2), (3, .int l3)] [] h (fb_X5_test_54 n kH k4 l0 l1 l2 l3 h) := by
  unfold fb_X5_test_54
  refine zi_goto (tgt := 74) dX5_test_54 (by decide) ?_
  refine zi_sub [0, 1, 2, 3] rfl ?_
  exact wb_X5_test_74 G n kH dh hdh hH k4 hk4 l0 l1 l2 l3 h
set_option maxRecDepth 20000 in
set_option maxHeartbeats 1000000 in
theorem wb_X5_test_17 (G : zG) (n : Nat) (kH : Nat → Int32 → zH → Option (Int32 × zH)) (dh : Nat) (hdh : 26 ≤ dh) (hH : ∀ (q0 : Nat) (q1 : Int32) (h : zH), zMet G yX5_test cX5_test 6 (some .boolean) zvI dh [.ref (zbase G + q0), .int q1] h (kH q0 q1 h)) (k4 : Nat → Int32 → Int32 → Int32 → zH → Option (Int32 × zH)) (k17 : Nat → Int32 → Int32 → Int32 → Int32 → Int32 → zH → Option (Int32 × zH)) (hk4 : ∀ (l0 : Nat) (l1 : Int32) (l2 : Int32) (l3 : Int32) (h : zH), zW G yX5_test cX5_test 6 (some .boolean) zvI (dh + 2) 4 [(0, .ref (zbase G + l0)), (1, .int l1), (2, .int l2), (3, .int l3)] [] h (k4 l0 l1 l2 l3 h)) (hk17 : ∀ (l0 : Nat) (l1 : Int32) (l2 : Int32) (l3 : Int32) (l4 : Int32) (l5 : Int32) (h : zH), zW G yX5_test cX5_test 6 (some .boolean) zvI (dh + 2) 17 [(0, .ref (zbase G + l0)), (1, .int l1), (2, .int l2), (3, .int l3), (4, .int l4), (5, .int l5)] [] h (k17 l0 l1 l2 l3 l4 l5 h)) (l0 : Nat) (l1 : Int32) (l2 : Int32) (l3 : Int32) (l4 : Int32) (l5 : Int32) (h : zH) : zW G yX5_test cX5_test 6 (some .boolean) zvI (dh + 2) 17 [(0, .ref (zbase G + l0)), (1, .int l1), (2, .int l2), (3, .int l3), (4, .int l4), (5, .int l5)] [] h (fb_X5_test_17 n kH k4 k17 l0 l1 l2 l3 l4 l5 h) := by
  unfold fb_X5_test_17
  refine zi_iload dX5_test_17 5 rfl ?_
  refine zi_sipush (v := 400) dX5_test_19 (by decide) ?_
  refine zi_icmp_ge (tgt := 74) dX5_test_22 (by decide) ?_ ?_
  · refine zi_sub [0, 1, 2, 3] rfl ?_
    exact wb_X5_test_74 G n kH dh hdh hH k4 hk4 l0 l1 l2 l3 h
  · refine zi_aload_n dX5_test_25 rfl 0 rfl ?_
    refine zi_iload_n dX5_test_26 rfl 1 rfl ?_
    refine zi_callVI (As := [.int l1]) (rest := []) (ci := 5) dX5_test_27 ml_X5_90 md_X5_plain mv_X5_plain rfl (by decide) rfl rfl (Nat.le_of_ble_eq_true rfl) (by omega) (k_X5_plain G n kH dh hdh hH l0 l1 h) (fun r1 h2 => ?_)
    refine zi_if_ne (tgt := 35) dX5_test_30 (by decide) ?_ ?_
    · refine zi_aload_n dX5_test_35 rfl 0 rfl ?_
      refine zi_getR dX5_test_36 gf_X5_16 (fun v3 => ?_)
      refine zi_iload dX5_test_39 4 rfl ?_
      refine zi_callVU (As := [.int l4]) (rest := []) (ci := 8) dX5_test_41 ml_X5_93 md_X8_landHere mv_X8_landHere rfl (by decide) rfl rfl (Nat.le_of_ble_eq_true rfl) (by omega) (k_X8_landHere G n v3 l4 h2) (fun _ h5 => ?_)
      refine zi_aload_n dX5_test_44 rfl 0 rfl ?_
      refine zi_sipush (v := 258) dX5_test_45 (by decide) ?_
      refine zi_callVI (As := [.int 258]) (rest := []) (ci := 5) dX5_test_48 ml_X5_51 md_X5_takes mv_X5_takes rfl (by decide) rfl rfl (Nat.le_of_ble_eq_true rfl) (by omega) (k_X5_takes G n l0 258 h5) (fun r6 h7 => ?_)
      refine zi_if_ne (tgt := 57) dX5_test_51 (by decide) ?_ ?_
      · refine zi_aload_n dX5_test_57 rfl 0 rfl ?_
        refine zi_getR dX5_test_58 gf_X5_16 (fun v8 => ?_)
        refine zi_iconst (v := 4) dX5_test_61 (by decide) ?_
        refine zi_iconst (v := 0) dX5_test_62 (by decide) ?_
        refine zi_callVI (As := [.int 4, .int 0]) (rest := []) (ci := 8) dX5_test_63 ml_X5_66 md_X8_addStep mv_X8_addStep rfl (by decide) rfl rfl (Nat.le_of_ble_eq_true rfl) (by omega) (k_X8_addStep G n v8 4 0 h7) (fun r9 h10 => ?_)
        refine zi_istore (l' := [(4, .int r9), (0, .ref (zbase G + l0)), (1, .int l1), (2, .int l2), (3, .int l3), (5, .int l5)]) dX5_test_66 (by decide) rfl ?_
        refine zi_iinc (j := 5) (v := l5 + 1) (l' := [(5, .int (l5 + 1)), (4, .int r9), (0, .ref (zbase G + l0)), (1, .int l1), (2, .int l2), (3, .int l3)]) dX5_test_68 rfl rfl (by decide) rfl ?_
        refine zi_goto (tgt := 17) dX5_test_71 (by decide) ?_
        refine zi_sub [2, 3, 4, 5, 1, 0] rfl ?_
        exact hk17 l0 l1 l2 l3 r9 (l5 + 1) h10
      · refine zi_sub [0, 1, 2, 3] rfl ?_
        exact wb_X5_test_54 G n kH dh hdh hH k4 hk4 l0 l1 l2 l3 h7
    · refine zi_iconst (v := 0) dX5_test_33 (by decide) ?_
      exact zi_ret0 dX5_test_34
theorem wl_X5_test_17 (G : zG) (n : Nat) (kH : Nat → Int32 → zH → Option (Int32 × zH)) (dh : Nat) (hdh : 26 ≤ dh) (hH : ∀ (q0 : Nat) (q1 : Int32) (h : zH), zMet G yX5_test cX5_test 6 (some .boolean) zvI dh [.ref (zbase G + q0), .int q1] h (kH q0 q1 h)) (k4 : Nat → Int32 → Int32 → Int32 → zH → Option (Int32 × zH)) (hk4 : ∀ (l0 : Nat) (l1 : Int32) (l2 : Int32) (l3 : Int32) (h : zH), zW G yX5_test cX5_test 6 (some .boolean) zvI (dh + 2) 4 [(0, .ref (zbase G + l0)), (1, .int l1), (2, .int l2), (3, .int l3)] [] h (k4 l0 l1 l2 l3 h)) : ∀ (t : Nat) (l0 : Nat) (l1 : Int32) (l2 : Int32) (l3 : Int32) (l4 : Int32) (l5 : Int32) (h : zH), zW G yX5_test cX5_test 6 (some .boolean) zvI (dh + 2) 17 [(0, .ref (zbase G + l0)), (1, .int l1), (2, .int l2), (3, .int l3), (4, .int l4), (5, .int l5)] [] h (zlp6 (fb_X5_test_17 n kH k4 ) t l0 l1 l2 l3 l4 l5 h) := by
  intro t
  induction t with
  | zero => intros; exact zW_none
  | succ t ih => intro l0 l1 l2 l3 l4 l5 h; rw [zlp6_s]; exact wb_X5_test_17 G n kH dh hdh hH k4  _ hk4  ih l0 l1 l2 l3 l4 l5 h
set_option maxRecDepth 20000 in
set_option maxHeartbeats 1000000 in
theorem wb_X5_test_4 (G : zG) (n : Nat) (kH : Nat → Int32 → zH → Option (Int32 × zH)) (dh : Nat) (hdh : 26 ≤ dh) (hH : ∀ (q0 : Nat) (q1 : Int32) (h : zH), zMet G yX5_test cX5_test 6 (some .boolean) zvI dh [.ref (zbase G + q0), .int q1] h (kH q0 q1 h)) (k4 : Nat → Int32 → Int32 → Int32 → zH → Option (Int32 × zH)) (hk4 : ∀ (l0 : Nat) (l1 : Int32) (l2 : Int32) (l3 : Int32) (h : zH), zW G yX5_test cX5_test 6 (some .boolean) zvI (dh + 2) 4 [(0, .ref (zbase G + l0)), (1, .int l1), (2, .int l2), (3, .int l3)] [] h (k4 l0 l1 l2 l3 h)) (l0 : Nat) (l1 : Int32) (l2 : Int32) (l3 : Int32) (h : zH) : zW G yX5_test cX5_test 6 (some .boolean) zvI (dh + 2) 4 [(0, .ref (zbase G + l0)), (1, .int l1), (2, .int l2), (3, .int l3)] [] h (fb_X5_test_4 n kH k4 l0 l1 l2 l3 h) := by
  unfold fb_X5_test_4
  refine zi_iload_n dX5_test_4 rfl 3 rfl ?_
  refine zi_sipush (v := 400) dX5_test_5 (by decide) ?_
  refine zi_icmp_ge (tgt := 110) dX5_test_8 (by decide) ?_ ?_
  · refine zi_sub [0] rfl ?_
    exact wb_X5_test_110 G n kH dh hdh hH l0 h
  · refine zi_iconst (v := (-1)) dX5_test_11 (by decide) ?_
    refine zi_istore (l' := [(4, .int (-1)), (0, .ref (zbase G + l0)), (1, .int l1), (2, .int l2), (3, .int l3)]) dX5_test_12 (by decide) rfl ?_
    refine zi_iconst (v := 0) dX5_test_14 (by decide) ?_
    refine zi_istore (l' := [(5, .int 0), (4, .int (-1)), (0, .ref (zbase G + l0)), (1, .int l1), (2, .int l2), (3, .int l3)]) dX5_test_15 (by decide) rfl ?_
    refine zi_sub [2, 3, 4, 5, 1, 0] rfl ?_
    exact wl_X5_test_17 G n kH dh hdh hH k4 hk4 n l0 l1 l2 l3 (-1) 0 h
theorem wl_X5_test_4 (G : zG) (n : Nat) (kH : Nat → Int32 → zH → Option (Int32 × zH)) (dh : Nat) (hdh : 26 ≤ dh) (hH : ∀ (q0 : Nat) (q1 : Int32) (h : zH), zMet G yX5_test cX5_test 6 (some .boolean) zvI dh [.ref (zbase G + q0), .int q1] h (kH q0 q1 h)) : ∀ (t : Nat) (l0 : Nat) (l1 : Int32) (l2 : Int32) (l3 : Int32) (h : zH), zW G yX5_test cX5_test 6 (some .boolean) zvI (dh + 2) 4 [(0, .ref (zbase G + l0)), (1, .int l1), (2, .int l2), (3, .int l3)] [] h (zlp4 (fb_X5_test_4 n kH ) t l0 l1 l2 l3 h) := by
  intro t
  induction t with
  | zero => intros; exact zW_none
  | succ t ih => intro l0 l1 l2 l3 h; rw [zlp4_s]; exact wb_X5_test_4 G n kH dh hdh hH  _  ih l0 l1 l2 l3 h
set_option maxRecDepth 20000 in
set_option maxHeartbeats 1000000 in
theorem kB_X5_test (G : zG) (n : Nat) (kH : Nat → Int32 → zH → Option (Int32 × zH)) (dh : Nat) (hdh : 26 ≤ dh) (hH : ∀ (q0 : Nat) (q1 : Int32) (h : zH), zMet G yX5_test cX5_test 6 (some .boolean) zvI dh [.ref (zbase G + q0), .int q1] h (kH q0 q1 h)) (a0 : Nat) (a1 : Int32) (h : zH) : zMet G yX5_test cX5_test 6 (some .boolean) zvI (dh + 2) [.ref (zbase G + a0), .int a1] h (fB_X5_test n kH a0 a1 h) := by
  refine zMet_of (l := [(0, .ref (zbase G + a0)), (1, .int a1)]) (by decide) (Nat.le_of_ble_eq_true rfl) rfl ?_
  unfold fB_X5_test
  refine zi_iconst (v := (-1)) dX5_test_0 (by decide) ?_
  refine zi_istore_n (l' := [(2, .int (-1)), (0, .ref (zbase G + a0)), (1, .int a1)]) dX5_test_1 rfl (by decide) rfl ?_
  refine zi_iconst (v := 0) dX5_test_2 (by decide) ?_
  refine zi_istore_n (l' := [(3, .int 0), (2, .int (-1)), (0, .ref (zbase G + a0)), (1, .int a1)]) dX5_test_3 rfl (by decide) rfl ?_
  refine zi_sub [2, 3, 1, 0] rfl ?_
  exact wl_X5_test_4 G n kH dh hdh hH n a0 a1 (-1) 0 h
theorem k_X5_test (G : zG) (n : Nat) : ∀ (r : Nat) (a0 : Nat) (a1 : Int32) (h : zH), zMet G yX5_test cX5_test 6 (some .boolean) zvI (26 + 2 * r) [.ref (zbase G + a0), .int a1] h (f_X5_test n r a0 a1 h) := by
  intro r
  induction r with
  | zero => intro a0 a1 h r h1 hX; cases hX
  | succ r ih => intro a0 a1 h; exact kB_X5_test G n (f_X5_test n r) (26 + 2 * r) (Nat.le_add_right _ _) ih a0 a1 h
set_option maxRecDepth 20000 in
set_option maxHeartbeats 1000000 in
theorem wb_X5_reads_136 (G : zG) (n : Nat) (l0 : Nat) (h : zH) : zW G yX5_reads cX5_reads 4 (some .boolean) zvI 51 136 [(0, .ref (zbase G + l0))] [] h (fb_X5_reads_136 n l0 h) := by
  unfold fb_X5_reads_136
  refine zi_aload_n dX5_reads_136 rfl 0 rfl ?_
  refine zi_callVI (As := []) (rest := []) (ci := 5) dX5_reads_137 ml_X5_74 md_X5_fails mv_X5_fails rfl (by decide) rfl rfl (Nat.le_of_ble_eq_true rfl) (Nat.le_of_ble_eq_true rfl) (k_X5_fails G n l0 h) (fun r1 h2 => ?_)
  exact zi_retZ dX5_reads_140
set_option maxRecDepth 20000 in
set_option maxHeartbeats 1000000 in
theorem wb_X5_reads_125 (G : zG) (n : Nat) (l0 : Nat) (h : zH) : zW G yX5_reads cX5_reads 4 (some .boolean) zvI 51 125 [(0, .ref (zbase G + l0))] [] h (fb_X5_reads_125 n l0 h) := by
  unfold fb_X5_reads_125
  refine zi_aload_n dX5_reads_125 rfl 0 rfl ?_
  refine zi_callVI (As := []) (rest := []) (ci := 5) dX5_reads_126 ml_X5_74 md_X5_fails mv_X5_fails rfl (by decide) rfl rfl (Nat.le_of_ble_eq_true rfl) (Nat.le_of_ble_eq_true rfl) (k_X5_fails G n l0 h) (fun r1 h2 => ?_)
  exact zi_retZ dX5_reads_129
set_option maxRecDepth 20000 in
set_option maxHeartbeats 1000000 in
theorem wb_X5_reads_107 (G : zG) (n : Nat) (k33 : Nat → Int32 → Int32 → zH → Option (Int32 × zH)) (hk33 : ∀ (l0 : Nat) (l2 : Int32) (l3 : Int32) (h : zH), zW G yX5_reads cX5_reads 4 (some .boolean) zvI 51 33 [(0, .ref (zbase G + l0)), (2, .int l2), (3, .int l3)] [] h (k33 l0 l2 l3 h)) (l0 : Nat) (l2 : Int32) (l3 : Int32) (h : zH) : zW G yX5_reads cX5_reads 4 (some .boolean) zvI 51 107 [(0, .ref (zbase G + l0)), (2, .int l2), (3, .int l3)] [] h (fb_X5_reads_107 n k33 l0 l2 l3 h) := by
  unfold fb_X5_reads_107
  refine zi_aload_n dX5_reads_107 rfl 0 rfl ?_
  refine zi_callVI (As := []) (rest := []) (ci := 5) dX5_reads_108 ml_X5_70 md_X5_present mv_X5_present rfl (by decide) rfl rfl (Nat.le_of_ble_eq_true rfl) (Nat.le_of_ble_eq_true rfl) (k_X5_present G n l0 h) (fun r1 h2 => ?_)
  refine zi_if_ne (tgt := 116) dX5_reads_111 (by decide) ?_ ?_
  · refine zi_aload_n dX5_reads_116 rfl 0 rfl ?_
    refine zi_bipush (v := 59) dX5_reads_117 (by decide) ?_
    refine zi_callVI (As := [.int 59]) (rest := []) (ci := 5) dX5_reads_119 ml_X5_51 md_X5_takes mv_X5_takes rfl (by decide) rfl rfl (Nat.le_of_ble_eq_true rfl) (Nat.le_of_ble_eq_true rfl) (k_X5_takes G n l0 59 h2) (fun r3 h4 => ?_)
    refine zi_if_ne (tgt := 130) dX5_reads_122 (by decide) ?_ ?_
    · refine zi_iinc (j := 2) (v := l3 + 1) (l' := [(3, .int (l3 + 1)), (0, .ref (zbase G + l0)), (2, .int l2)]) dX5_reads_130 rfl rfl (by decide) rfl ?_
      refine zi_goto (tgt := 33) dX5_reads_133 (by decide) ?_
      refine zi_sub [1, 2, 0] rfl ?_
      exact hk33 l0 l2 (l3 + 1) h4
    · refine zi_sub [0] rfl ?_
      exact wb_X5_reads_125 G n l0 h4
  · refine zi_iconst (v := 1) dX5_reads_114 (by decide) ?_
    exact zi_ret1 dX5_reads_115
set_option maxRecDepth 20000 in
set_option maxHeartbeats 1000000 in
theorem wb_X5_reads_62 (G : zG) (n : Nat) (k33 : Nat → Int32 → Int32 → zH → Option (Int32 × zH)) (hk33 : ∀ (l0 : Nat) (l2 : Int32) (l3 : Int32) (h : zH), zW G yX5_reads cX5_reads 4 (some .boolean) zvI 51 33 [(0, .ref (zbase G + l0)), (2, .int l2), (3, .int l3)] [] h (k33 l0 l2 l3 h)) (l0 : Nat) (l2 : Int32) (l3 : Int32) (h : zH) : zW G yX5_reads cX5_reads 4 (some .boolean) zvI 51 62 [(0, .ref (zbase G + l0)), (2, .int l2), (3, .int l3)] [] h (fb_X5_reads_62 n k33 l0 l2 l3 h) := by
  unfold fb_X5_reads_62
  refine zi_aload_n dX5_reads_62 rfl 0 rfl ?_
  refine zi_sipush (v := 256) dX5_reads_63 (by decide) ?_
  refine zi_callVI (As := [.int 256]) (rest := []) (ci := 5) dX5_reads_66 ml_X5_51 md_X5_takes mv_X5_takes rfl (by decide) rfl rfl (Nat.le_of_ble_eq_true rfl) (Nat.le_of_ble_eq_true rfl) (k_X5_takes G n l0 256 h) (fun r1 h2 => ?_)
  refine zi_if_eq (tgt := 107) dX5_reads_69 (by decide) ?_ ?_
  · refine zi_sub [0, 1, 2] rfl ?_
    exact wb_X5_reads_107 G n k33 hk33 l0 l2 l3 h2
  · refine zi_aload_n dX5_reads_72 rfl 0 rfl ?_
    refine zi_getR dX5_reads_73 gf_X5_16 (fun v3 => ?_)
    refine zi_iconst (v := 4) dX5_reads_76 (by decide) ?_
    refine zi_aload_n dX5_reads_77 rfl 0 rfl ?_
    refine zi_getR dX5_reads_78 gf_X5_16 (fun v4 => ?_)
    refine zi_getI dX5_reads_81 gf_X5_55 (fun v5 => ?_)
    refine zi_callVU (As := [.int 4, .int v5]) (rest := []) (ci := 8) dX5_reads_84 ml_X5_58 md_X8_setEntry mv_X8_setEntry rfl (by decide) rfl rfl (Nat.le_of_ble_eq_true rfl) (Nat.le_of_ble_eq_true rfl) (k_X8_setEntry G n v3 4 v5 h2) (fun _ h7 => ?_)
    refine zi_aload_n dX5_reads_87 rfl 0 rfl ?_
    refine zi_iconst (v := 0) dX5_reads_88 (by decide) ?_
    refine zi_callVI (As := [.int 0]) (rest := []) (ci := 5) dX5_reads_89 ml_X5_61 md_X5_test mv_X5_test rfl (by decide) rfl rfl (Nat.le_of_ble_eq_true rfl) (Nat.le_of_ble_eq_true rfl) (k_X5_test G n 12 l0 0 h7) (fun r8 h9 => ?_)
    refine zi_if_ne (tgt := 97) dX5_reads_92 (by decide) ?_ ?_
    · refine zi_aload_n dX5_reads_97 rfl 0 rfl ?_
      refine zi_getR dX5_reads_98 gf_X5_16 (fun v10 => ?_)
      refine zi_iconst (v := 5) dX5_reads_101 (by decide) ?_
      refine zi_iconst (v := 0) dX5_reads_102 (by decide) ?_
      refine zi_callVI (As := [.int 5, .int 0]) (rest := []) (ci := 8) dX5_reads_103 ml_X5_66 md_X8_addStep mv_X8_addStep rfl (by decide) rfl rfl (Nat.le_of_ble_eq_true rfl) (Nat.le_of_ble_eq_true rfl) (k_X8_addStep G n v10 5 0 h9) (fun r11 h12 => ?_)
      refine zi_pop dX5_reads_106 rfl ?_
      refine zi_sub [0, 1, 2] rfl ?_
      exact wb_X5_reads_107 G n k33 hk33 l0 l2 l3 h12
    · refine zi_iconst (v := 0) dX5_reads_95 (by decide) ?_
      exact zi_ret0 dX5_reads_96
set_option maxRecDepth 20000 in
set_option maxHeartbeats 1000000 in
theorem wb_X5_reads_33 (G : zG) (n : Nat) (k33 : Nat → Int32 → Int32 → zH → Option (Int32 × zH)) (hk33 : ∀ (l0 : Nat) (l2 : Int32) (l3 : Int32) (h : zH), zW G yX5_reads cX5_reads 4 (some .boolean) zvI 51 33 [(0, .ref (zbase G + l0)), (2, .int l2), (3, .int l3)] [] h (k33 l0 l2 l3 h)) (l0 : Nat) (l2 : Int32) (l3 : Int32) (h : zH) : zW G yX5_reads cX5_reads 4 (some .boolean) zvI 51 33 [(0, .ref (zbase G + l0)), (2, .int l2), (3, .int l3)] [] h (fb_X5_reads_33 n k33 l0 l2 l3 h) := by
  unfold fb_X5_reads_33
  refine zi_iload_n dX5_reads_33 rfl 2 rfl ?_
  refine zi_bipush (v := 12) dX5_reads_34 (by decide) ?_
  refine zi_icmp_ge (tgt := 136) dX5_reads_36 (by decide) ?_ ?_
  · refine zi_sub [0] rfl ?_
    exact wb_X5_reads_136 G n l0 h
  · refine zi_iload_n dX5_reads_39 rfl 1 rfl ?_
    refine zi_if_eq (tgt := 53) dX5_reads_40 (by decide) ?_ ?_
    · refine zi_aload_n dX5_reads_53 rfl 0 rfl ?_
      refine zi_callVI (As := []) (rest := []) (ci := 5) dX5_reads_54 ml_X5_48 md_X5_lawClause mv_X5_lawClause rfl (by decide) rfl rfl (Nat.le_of_ble_eq_true rfl) (Nat.le_of_ble_eq_true rfl) (k_X5_lawClause G n l0 h) (fun r1 h2 => ?_)
      refine zi_if_ne (tgt := 62) dX5_reads_57 (by decide) ?_ ?_
      · refine zi_sub [0, 1, 2] rfl ?_
        exact wb_X5_reads_62 G n k33 hk33 l0 l2 l3 h2
      · refine zi_iconst (v := 0) dX5_reads_60 (by decide) ?_
        exact zi_ret0 dX5_reads_61
    · refine zi_aload_n dX5_reads_43 rfl 0 rfl ?_
      refine zi_callVI (As := []) (rest := []) (ci := 5) dX5_reads_44 ml_X5_44 md_X5_orderClause mv_X5_orderClause rfl (by decide) rfl rfl (Nat.le_of_ble_eq_true rfl) (Nat.le_of_ble_eq_true rfl) (k_X5_orderClause G n l0 h) (fun r3 h4 => ?_)
      refine zi_if_eq (tgt := 60) dX5_reads_47 (by decide) ?_ ?_
      · refine zi_iconst (v := 0) dX5_reads_60 (by decide) ?_
        exact zi_ret0 dX5_reads_61
      · refine zi_goto (tgt := 62) dX5_reads_50 (by decide) ?_
        refine zi_sub [0, 1, 2] rfl ?_
        exact wb_X5_reads_62 G n k33 hk33 l0 l2 l3 h4
theorem wl_X5_reads_33 (G : zG) (n : Nat) : ∀ (t : Nat) (l0 : Nat) (l2 : Int32) (l3 : Int32) (h : zH), zW G yX5_reads cX5_reads 4 (some .boolean) zvI 51 33 [(0, .ref (zbase G + l0)), (2, .int l2), (3, .int l3)] [] h (zlp3 (fb_X5_reads_33 n ) t l0 l2 l3 h) := by
  intro t
  induction t with
  | zero => intros; exact zW_none
  | succ t ih => intro l0 l2 l3 h; rw [zlp3_s]; exact wb_X5_reads_33 G n  _  ih l0 l2 l3 h
set_option maxRecDepth 20000 in
set_option maxHeartbeats 1000000 in
theorem k_X5_reads (G : zG) (n : Nat) (a0 : Nat) (a1 : Nat) (a2 : Int32) (h : zH) : zMet G yX5_reads cX5_reads 4 (some .boolean) zvI 51 [.ref (zbase G + a0), .ref (zbase G + a1), .int a2] h (f_X5_reads n a0 a1 a2 h) := by
  refine zMet_of (l := [(0, .ref (zbase G + a0)), (1, .ref (zbase G + a1)), (2, .int a2)]) (by decide) (Nat.le_of_ble_eq_true rfl) rfl ?_
  unfold f_X5_reads
  refine zi_aload_n dX5_reads_0 rfl 0 rfl ?_
  refine zi_getR dX5_reads_1 gf_X5_23 (fun v1 => ?_)
  refine zi_aload_n dX5_reads_4 rfl 1 rfl ?_
  refine zi_iload_n dX5_reads_5 rfl 2 rfl ?_
  refine zi_callVU (As := [.ref (zbase G + a1), .int a2]) (rest := []) (ci := 9) dX5_reads_6 ml_X5_37 md_X9_split mv_X9_split rfl (by decide) rfl rfl (Nat.le_of_ble_eq_true rfl) (Nat.le_of_ble_eq_true rfl) (k_X9_split G n v1 a1 a2 h) (fun _ h3 => ?_)
  refine zi_aload_n dX5_reads_9 rfl 0 rfl ?_
  refine zi_getR dX5_reads_10 gf_X5_16 (fun v4 => ?_)
  refine zi_callVU (As := []) (rest := []) (ci := 8) dX5_reads_13 ml_X5_41 md_X8_clear mv_X8_clear rfl (by decide) rfl rfl (Nat.le_of_ble_eq_true rfl) (Nat.le_of_ble_eq_true rfl) (k_X8_clear G n v4 h3) (fun _ h6 => ?_)
  refine zi_aload_n dX5_reads_16 rfl 0 rfl ?_
  refine zi_iconst (v := 0) dX5_reads_17 (by decide) ?_
  refine zi_putI dX5_reads_18 gf_X5_27 (fun h7 => ?_)
  refine zi_aload_n dX5_reads_21 rfl 0 rfl ?_
  refine zi_iconst (v := 0) dX5_reads_22 (by decide) ?_
  refine zi_putI dX5_reads_23 gf_X5_31 (fun h8 => ?_)
  refine zi_aload_n dX5_reads_26 rfl 0 rfl ?_
  refine zi_iconst (v := (-1)) dX5_reads_27 (by decide) ?_
  refine zi_putI dX5_reads_28 gf_X5_34 (fun h9 => ?_)
  refine zi_iconst (v := 0) dX5_reads_31 (by decide) ?_
  refine zi_istore_n (l' := [(3, .int 0), (0, .ref (zbase G + a0)), (1, .ref (zbase G + a1)), (2, .int a2)]) dX5_reads_32 rfl (by decide) rfl ?_
  refine zi_sub [1, 3, 0] rfl ?_
  exact wl_X5_reads_33 G n n a0 a2 0 h9
set_option maxRecDepth 20000 in
set_option maxHeartbeats 1000000 in
theorem k_X8_cutToSize (G : zG) (n : Nat) (a0 : Nat) (h : zH) : zMet G yX8_cutToSize cX8_cutToSize 2 (some (.object "GraceTree$Text")) (zvR G) 3 [.ref (zbase G + a0)] h (f_X8_cutToSize n a0 h) := by
  refine zMet_of (l := [(0, .ref (zbase G + a0))]) (by decide) (Nat.le_of_ble_eq_true rfl) rfl ?_
  unfold f_X8_cutToSize
  refine zi_new dX8_cutToSize_0 nw_X8_10 (fun r1 h2 _ => ?_)
  refine zi_dup dX8_cutToSize_3 rfl ?_
  refine zi_aload_n dX8_cutToSize_4 rfl 0 rfl ?_
  refine zi_getI dX8_cutToSize_5 gf_X8_9 (fun v3 => ?_)
  refine zi_aload_n dX8_cutToSize_8 rfl 0 rfl ?_
  refine zi_getI dX8_cutToSize_9 gf_X8_15 (fun v4 => ?_)
  refine zi_callIU (As := [.int v3, .int v4]) (rest := [.ref (zbase G + r1)]) dX8_cutToSize_12 ml_X8_34 md_X8_init mi_X8_init rfl rfl rfl (Nat.le_of_ble_eq_true rfl) (Nat.le_of_ble_eq_true rfl) (k_X8_init G n r1 v3 v4 h2) (fun _ h6 => ?_)
  refine zi_astore_n (l' := [(1, .ref (zbase G + r1)), (0, .ref (zbase G + a0))]) dX8_cutToSize_15 rfl (by decide) rfl ?_
  refine zi_aload_n dX8_cutToSize_16 rfl 1 rfl ?_
  refine zi_getR dX8_cutToSize_17 gf_X8_24 (fun v7 => ?_)
  refine zi_iconst (v := 0) dX8_cutToSize_20 (by decide) ?_
  refine zi_aload_n dX8_cutToSize_21 rfl 0 rfl ?_
  refine zi_getR dX8_cutToSize_22 gf_X8_24 (fun v8 => ?_)
  refine zi_iconst (v := 0) dX8_cutToSize_25 (by decide) ?_
  refine zi_aload_n dX8_cutToSize_26 rfl 1 rfl ?_
  refine zi_getI dX8_cutToSize_27 gf_X8_9 (fun v9 => ?_)
  refine zi_acp dX8_cutToSize_30 ml_X8_37 ay_nat ay_stat ay_ini (Nat.le_of_ble_eq_true rfl) (Nat.le_of_ble_eq_true rfl) (fun h10 => ?_)
  refine zi_aload_n dX8_cutToSize_33 rfl 1 rfl ?_
  refine zi_getR dX8_cutToSize_34 gf_X8_28 (fun v11 => ?_)
  refine zi_iconst (v := 0) dX8_cutToSize_37 (by decide) ?_
  refine zi_aload_n dX8_cutToSize_38 rfl 0 rfl ?_
  refine zi_getR dX8_cutToSize_39 gf_X8_28 (fun v12 => ?_)
  refine zi_iconst (v := 0) dX8_cutToSize_42 (by decide) ?_
  refine zi_aload_n dX8_cutToSize_43 rfl 1 rfl ?_
  refine zi_getI dX8_cutToSize_44 gf_X8_9 (fun v13 => ?_)
  refine zi_acp dX8_cutToSize_47 ml_X8_37 ay_nat ay_stat ay_ini (Nat.le_of_ble_eq_true rfl) (Nat.le_of_ble_eq_true rfl) (fun h14 => ?_)
  refine zi_aload_n dX8_cutToSize_50 rfl 1 rfl ?_
  refine zi_getR dX8_cutToSize_51 gf_X8_31 (fun v15 => ?_)
  refine zi_iconst (v := 0) dX8_cutToSize_54 (by decide) ?_
  refine zi_aload_n dX8_cutToSize_55 rfl 0 rfl ?_
  refine zi_getR dX8_cutToSize_56 gf_X8_31 (fun v16 => ?_)
  refine zi_iconst (v := 0) dX8_cutToSize_59 (by decide) ?_
  refine zi_iconst (v := 5) dX8_cutToSize_60 (by decide) ?_
  refine zi_aload_n dX8_cutToSize_61 rfl 1 rfl ?_
  refine zi_getI dX8_cutToSize_62 gf_X8_15 (fun v17 => ?_)
  refine zi_imul dX8_cutToSize_65 ?_
  refine zi_acp dX8_cutToSize_66 ml_X8_37 ay_nat ay_stat ay_ini (Nat.le_of_ble_eq_true rfl) (Nat.le_of_ble_eq_true rfl) (fun h18 => ?_)
  refine zi_aload_n dX8_cutToSize_69 rfl 0 rfl ?_
  refine zi_aload_n dX8_cutToSize_70 rfl 1 rfl ?_
  refine zi_getI dX8_cutToSize_71 gf_X8_9 (fun v19 => ?_)
  refine zi_putI dX8_cutToSize_74 gf_X8_9 (fun h20 => ?_)
  refine zi_aload_n dX8_cutToSize_77 rfl 0 rfl ?_
  refine zi_aload_n dX8_cutToSize_78 rfl 1 rfl ?_
  refine zi_getI dX8_cutToSize_79 gf_X8_15 (fun v21 => ?_)
  refine zi_putI dX8_cutToSize_82 gf_X8_15 (fun h22 => ?_)
  refine zi_aload_n dX8_cutToSize_85 rfl 0 rfl ?_
  exact zi_retR dX8_cutToSize_86
set_option maxRecDepth 20000 in
set_option maxHeartbeats 1000000 in
theorem k_X6_addLaw (G : zG) (n : Nat) (a0 : Nat) (a1 : Nat) (h : zH) : zMet G yX6_addLaw cX6_addLaw 2 (some .int) zvI 1 [.ref (zbase G + a0), .ref (zbase G + a1)] h (f_X6_addLaw n a0 a1 h) := by
  refine zMet_of (l := [(0, .ref (zbase G + a0)), (1, .ref (zbase G + a1))]) (by decide) (Nat.le_of_ble_eq_true rfl) rfl ?_
  unfold f_X6_addLaw
  refine zi_aload_n dX6_addLaw_0 rfl 0 rfl ?_
  refine zi_getI dX6_addLaw_1 gf_X6_17 (fun v1 => ?_)
  refine zi_bipush (v := 6) dX6_addLaw_4 (by decide) ?_
  refine zi_icmp_lt (tgt := 12) dX6_addLaw_6 (by decide) ?_ ?_
  · refine zi_aload_n dX6_addLaw_12 rfl 0 rfl ?_
    refine zi_getR dX6_addLaw_13 gf_X6_11 (fun v2 => ?_)
    refine zi_aload_n dX6_addLaw_16 rfl 0 rfl ?_
    refine zi_getI dX6_addLaw_17 gf_X6_17 (fun v3 => ?_)
    refine zi_aload_n dX6_addLaw_20 rfl 1 rfl ?_
    refine zi_aastTn dX6_addLaw_21 (fun h4 => ?_)
    refine zi_aload_n dX6_addLaw_22 rfl 0 rfl ?_
    refine zi_dup dX6_addLaw_23 rfl ?_
    refine zi_getI dX6_addLaw_24 gf_X6_17 (fun v5 => ?_)
    refine zi_iconst (v := 1) dX6_addLaw_27 (by decide) ?_
    refine zi_iadd dX6_addLaw_28 ?_
    refine zi_putI dX6_addLaw_29 gf_X6_17 (fun h6 => ?_)
    refine zi_aload_n dX6_addLaw_32 rfl 0 rfl ?_
    refine zi_getI dX6_addLaw_33 gf_X6_17 (fun v7 => ?_)
    refine zi_iconst (v := 1) dX6_addLaw_36 (by decide) ?_
    refine zi_isub dX6_addLaw_37 ?_
    exact zi_retI dX6_addLaw_38
  · refine zi_bipush (v := (-5)) dX6_addLaw_9 (by decide) ?_
    exact zi_retI dX6_addLaw_11
set_option maxRecDepth 20000 in
set_option maxHeartbeats 1000000 in
theorem k_X11_law (G : zG) (n : Nat) (a0 : Nat) (h : zH) : zMet G yX11_law cX11_law 2 (some .int) zvI 52 [.ref (zbase G + a0)] h (f_X11_law n a0 h) := by
  refine zMet_of (l := [(0, .ref (zbase G + a0))]) (by decide) (Nat.le_of_ble_eq_true rfl) rfl ?_
  unfold f_X11_law
  refine zi_aload_n dX11_law_0 rfl 0 rfl ?_
  refine zi_getR dX11_law_1 gf_X11_31 (fun v1 => ?_)
  refine zi_getI dX11_law_4 gf_X11_224 (fun v2 => ?_)
  refine zi_bipush (v := 6) dX11_law_7 (by decide) ?_
  refine zi_icmp_lt (tgt := 27) dX11_law_9 (by decide) ?_ ?_
  · refine zi_aload_n dX11_law_27 rfl 0 rfl ?_
    refine zi_getR dX11_law_28 gf_X11_72 (fun v3 => ?_)
    refine zi_aload_n dX11_law_31 rfl 0 rfl ?_
    refine zi_getR dX11_law_32 gf_X11_65 (fun v4 => ?_)
    refine zi_iconst (v := 0) dX11_law_35 (by decide) ?_
    refine zi_callVI (As := [.ref (zbase G + v4), .int 0]) (rest := []) (ci := 5) dX11_law_36 ml_X11_227 md_X5_reads mv_X5_reads rfl (by decide) rfl rfl (Nat.le_of_ble_eq_true rfl) (Nat.le_of_ble_eq_true rfl) (k_X5_reads G n v3 v4 0 h) (fun r5 h6 => ?_)
    refine zi_istore_n (l' := [(1, .int r5), (0, .ref (zbase G + a0))]) dX11_law_39 rfl (by decide) rfl ?_
    refine zi_aload_n dX11_law_40 rfl 1 rfl ?_
    refine zi_getR dX11_law_41 gf_X11_65 (fun v7 => ?_)
    refine zi_iconst (v := 0) dX11_law_44 (by decide) ?_
    refine zi_putI dX11_law_45 gf_X11_210 (fun h8 => ?_)
    refine zi_aload_n dX11_law_48 rfl 1 rfl ?_
    refine zi_aload_n dX11_law_49 rfl 1 rfl ?_
    refine zi_getR dX11_law_50 gf_X11_72 (fun v9 => ?_)
    refine zi_getI dX11_law_53 gf_X11_231 (fun v10 => ?_)
    refine zi_putI dX11_law_56 gf_X11_91 (fun h11 => ?_)
    refine zi_iload_n dX11_law_59 rfl 0 rfl ?_
    refine zi_if_ne (tgt := 70) dX11_law_60 (by decide) ?_ ?_
    · refine zi_aload_n dX11_law_70 rfl 1 rfl ?_
      refine zi_aload_n dX11_law_71 rfl 1 rfl ?_
      refine zi_getR dX11_law_72 gf_X11_31 (fun v12 => ?_)
      refine zi_aload_n dX11_law_75 rfl 1 rfl ?_
      refine zi_getR dX11_law_76 gf_X11_72 (fun v13 => ?_)
      refine zi_getR dX11_law_79 gf_X11_234 (fun v14 => ?_)
      refine zi_callVR (As := []) (rest := [.ref (zbase G + v12), .ref (zbase G + a0)]) (ci := 8) dX11_law_82 ml_X11_238 md_X8_cutToSize mv_X8_cutToSize rfl (by decide) rfl rfl (Nat.le_of_ble_eq_true rfl) (Nat.le_of_ble_eq_true rfl) (k_X8_cutToSize G n v14 h11) (fun r15 h16 => ?_)
      refine zi_callVI (As := [.ref (zbase G + r15)]) (rest := [.ref (zbase G + a0)]) (ci := 6) dX11_law_85 ml_X11_244 md_X6_addLaw mv_X6_addLaw rfl (by decide) rfl rfl (Nat.le_of_ble_eq_true rfl) (Nat.le_of_ble_eq_true rfl) (k_X6_addLaw G n v12 r15 h16) (fun r17 h18 => ?_)
      refine zi_callVI (As := [.int r17]) (rest := []) (ci := 11) dX11_law_88 ml_X11_192 md_X11_told mv_X11_told rfl (by decide) rfl rfl (Nat.le_of_ble_eq_true rfl) (Nat.le_of_ble_eq_true rfl) (k_X11_told G n a0 r17 h18) (fun r19 h20 => ?_)
      exact zi_retI dX11_law_91
    · refine zi_aload_n dX11_law_63 rfl 1 rfl ?_
      refine zi_bipush (v := (-6)) dX11_law_64 (by decide) ?_
      refine zi_callVI (As := [.int (-6)]) (rest := []) (ci := 11) dX11_law_66 ml_X11_192 md_X11_told mv_X11_told rfl (by decide) rfl rfl (Nat.le_of_ble_eq_true rfl) (Nat.le_of_ble_eq_true rfl) (k_X11_told G n a0 (-6) h11) (fun r21 h22 => ?_)
      exact zi_retI dX11_law_69
  · refine zi_aload_n dX11_law_12 rfl 0 rfl ?_
    refine zi_getR dX11_law_13 gf_X11_65 (fun v23 => ?_)
    refine zi_iconst (v := 0) dX11_law_16 (by decide) ?_
    refine zi_putI dX11_law_17 gf_X11_210 (fun h24 => ?_)
    refine zi_aload_n dX11_law_20 rfl 0 rfl ?_
    refine zi_bipush (v := (-5)) dX11_law_21 (by decide) ?_
    refine zi_callVI (As := [.int (-5)]) (rest := []) (ci := 11) dX11_law_23 ml_X11_192 md_X11_told mv_X11_told rfl (by decide) rfl rfl (Nat.le_of_ble_eq_true rfl) (Nat.le_of_ble_eq_true rfl) (k_X11_told G n a0 (-5) h24) (fun r25 h26 => ?_)
    exact zi_retI dX11_law_26
set_option maxRecDepth 20000 in
set_option maxHeartbeats 1000000 in
theorem k_X0_copyFrom (G : zG) (n : Nat) (a0 : Nat) (a1 : Nat) (h : zH) : zMet G yX0_copyFrom cX0_copyFrom 2 none zvU 2 [.ref (zbase G + a0), .ref (zbase G + a1)] h (f_X0_copyFrom n a0 a1 h) := by
  refine zMet_of (l := [(0, .ref (zbase G + a0)), (1, .ref (zbase G + a1))]) (by decide) (Nat.le_of_ble_eq_true rfl) rfl ?_
  unfold f_X0_copyFrom
  refine zi_aload_n dX0_copyFrom_0 rfl 1 rfl ?_
  refine zi_getR dX0_copyFrom_1 gf_X0_9 (fun v1 => ?_)
  refine zi_iconst (v := 0) dX0_copyFrom_4 (by decide) ?_
  refine zi_aload_n dX0_copyFrom_5 rfl 0 rfl ?_
  refine zi_getR dX0_copyFrom_6 gf_X0_9 (fun v2 => ?_)
  refine zi_iconst (v := 0) dX0_copyFrom_9 (by decide) ?_
  refine zi_bipush (v := 24) dX0_copyFrom_10 (by decide) ?_
  refine zi_acp dX0_copyFrom_12 ml_X0_40 ay_nat ay_stat ay_ini (Nat.le_of_ble_eq_true rfl) (Nat.le_of_ble_eq_true rfl) (fun h3 => ?_)
  refine zi_aload_n dX0_copyFrom_15 rfl 1 rfl ?_
  refine zi_getR dX0_copyFrom_16 gf_X0_15 (fun v4 => ?_)
  refine zi_iconst (v := 0) dX0_copyFrom_19 (by decide) ?_
  refine zi_aload_n dX0_copyFrom_20 rfl 0 rfl ?_
  refine zi_getR dX0_copyFrom_21 gf_X0_15 (fun v5 => ?_)
  refine zi_iconst (v := 0) dX0_copyFrom_24 (by decide) ?_
  refine zi_bipush (v := 24) dX0_copyFrom_25 (by decide) ?_
  refine zi_acp dX0_copyFrom_27 ml_X0_40 ay_nat ay_stat ay_ini (Nat.le_of_ble_eq_true rfl) (Nat.le_of_ble_eq_true rfl) (fun h6 => ?_)
  refine zi_aload_n dX0_copyFrom_30 rfl 1 rfl ?_
  refine zi_getR dX0_copyFrom_31 gf_X0_18 (fun v7 => ?_)
  refine zi_iconst (v := 0) dX0_copyFrom_34 (by decide) ?_
  refine zi_aload_n dX0_copyFrom_35 rfl 0 rfl ?_
  refine zi_getR dX0_copyFrom_36 gf_X0_18 (fun v8 => ?_)
  refine zi_iconst (v := 0) dX0_copyFrom_39 (by decide) ?_
  refine zi_bipush (v := 24) dX0_copyFrom_40 (by decide) ?_
  refine zi_acp dX0_copyFrom_42 ml_X0_40 ay_nat ay_stat ay_ini (Nat.le_of_ble_eq_true rfl) (Nat.le_of_ble_eq_true rfl) (fun h9 => ?_)
  refine zi_aload_n dX0_copyFrom_45 rfl 1 rfl ?_
  refine zi_getR dX0_copyFrom_46 gf_X0_21 (fun v10 => ?_)
  refine zi_iconst (v := 0) dX0_copyFrom_49 (by decide) ?_
  refine zi_aload_n dX0_copyFrom_50 rfl 0 rfl ?_
  refine zi_getR dX0_copyFrom_51 gf_X0_21 (fun v11 => ?_)
  refine zi_iconst (v := 0) dX0_copyFrom_54 (by decide) ?_
  refine zi_bipush (v := 24) dX0_copyFrom_55 (by decide) ?_
  refine zi_acp dX0_copyFrom_57 ml_X0_40 ay_nat ay_stat ay_ini (Nat.le_of_ble_eq_true rfl) (Nat.le_of_ble_eq_true rfl) (fun h12 => ?_)
  refine zi_aload_n dX0_copyFrom_60 rfl 1 rfl ?_
  refine zi_getR dX0_copyFrom_61 gf_X0_24 (fun v13 => ?_)
  refine zi_iconst (v := 0) dX0_copyFrom_64 (by decide) ?_
  refine zi_aload_n dX0_copyFrom_65 rfl 0 rfl ?_
  refine zi_getR dX0_copyFrom_66 gf_X0_24 (fun v14 => ?_)
  refine zi_iconst (v := 0) dX0_copyFrom_69 (by decide) ?_
  refine zi_bipush (v := 24) dX0_copyFrom_70 (by decide) ?_
  refine zi_acp dX0_copyFrom_72 ml_X0_40 ay_nat ay_stat ay_ini (Nat.le_of_ble_eq_true rfl) (Nat.le_of_ble_eq_true rfl) (fun h15 => ?_)
  refine zi_aload_n dX0_copyFrom_75 rfl 1 rfl ?_
  refine zi_getR dX0_copyFrom_76 gf_X0_27 (fun v16 => ?_)
  refine zi_iconst (v := 0) dX0_copyFrom_79 (by decide) ?_
  refine zi_aload_n dX0_copyFrom_80 rfl 0 rfl ?_
  refine zi_getR dX0_copyFrom_81 gf_X0_27 (fun v17 => ?_)
  refine zi_iconst (v := 0) dX0_copyFrom_84 (by decide) ?_
  refine zi_bipush (v := 24) dX0_copyFrom_85 (by decide) ?_
  refine zi_acp dX0_copyFrom_87 ml_X0_40 ay_nat ay_stat ay_ini (Nat.le_of_ble_eq_true rfl) (Nat.le_of_ble_eq_true rfl) (fun h18 => ?_)
  refine zi_aload_n dX0_copyFrom_90 rfl 0 rfl ?_
  refine zi_aload_n dX0_copyFrom_91 rfl 1 rfl ?_
  refine zi_getI dX0_copyFrom_92 gf_X0_30 (fun v19 => ?_)
  refine zi_putI dX0_copyFrom_95 gf_X0_30 (fun h20 => ?_)
  refine zi_aload_n dX0_copyFrom_98 rfl 0 rfl ?_
  refine zi_aload_n dX0_copyFrom_99 rfl 1 rfl ?_
  refine zi_getI dX0_copyFrom_100 gf_X0_34 (fun v21 => ?_)
  refine zi_putI dX0_copyFrom_103 gf_X0_34 (fun h22 => ?_)
  refine zi_aload_n dX0_copyFrom_106 rfl 0 rfl ?_
  refine zi_aload_n dX0_copyFrom_107 rfl 1 rfl ?_
  refine zi_getI dX0_copyFrom_108 gf_X0_37 (fun v23 => ?_)
  refine zi_putI dX0_copyFrom_111 gf_X0_37 (fun h24 => ?_)
  exact zi_retV dX0_copyFrom_114
set_option maxRecDepth 20000 in
set_option maxHeartbeats 1000000 in
theorem k_X10_copyFrom (G : zG) (n : Nat) (a0 : Nat) (a1 : Nat) (h : zH) : zMet G yX10_copyFrom cX10_copyFrom 2 none zvU 3 [.ref (zbase G + a0), .ref (zbase G + a1)] h (f_X10_copyFrom n a0 a1 h) := by
  refine zMet_of (l := [(0, .ref (zbase G + a0)), (1, .ref (zbase G + a1))]) (by decide) (Nat.le_of_ble_eq_true rfl) rfl ?_
  unfold f_X10_copyFrom
  refine zi_aload_n dX10_copyFrom_0 rfl 0 rfl ?_
  refine zi_getR dX10_copyFrom_1 gf_X10_12 (fun v1 => ?_)
  refine zi_aload_n dX10_copyFrom_4 rfl 1 rfl ?_
  refine zi_getR dX10_copyFrom_5 gf_X10_12 (fun v2 => ?_)
  refine zi_callVU (As := [.ref (zbase G + v2)]) (rest := []) (ci := 0) dX10_copyFrom_8 ml_X10_48 md_X0_copyFrom mv_X0_copyFrom rfl (by decide) rfl rfl (Nat.le_of_ble_eq_true rfl) (Nat.le_of_ble_eq_true rfl) (k_X0_copyFrom G n v1 v2 h) (fun _ h4 => ?_)
  refine zi_aload_n dX10_copyFrom_11 rfl 1 rfl ?_
  refine zi_getR dX10_copyFrom_12 gf_X10_18 (fun v5 => ?_)
  refine zi_iconst (v := 0) dX10_copyFrom_15 (by decide) ?_
  refine zi_aload_n dX10_copyFrom_16 rfl 0 rfl ?_
  refine zi_getR dX10_copyFrom_17 gf_X10_18 (fun v6 => ?_)
  refine zi_iconst (v := 0) dX10_copyFrom_20 (by decide) ?_
  refine zi_bipush (v := 8) dX10_copyFrom_21 (by decide) ?_
  refine zi_acp dX10_copyFrom_23 ml_X10_52 ay_nat ay_stat ay_ini (Nat.le_of_ble_eq_true rfl) (Nat.le_of_ble_eq_true rfl) (fun h7 => ?_)
  refine zi_aload_n dX10_copyFrom_26 rfl 1 rfl ?_
  refine zi_getR dX10_copyFrom_27 gf_X10_22 (fun v8 => ?_)
  refine zi_iconst (v := 0) dX10_copyFrom_30 (by decide) ?_
  refine zi_aload_n dX10_copyFrom_31 rfl 0 rfl ?_
  refine zi_getR dX10_copyFrom_32 gf_X10_22 (fun v9 => ?_)
  refine zi_iconst (v := 0) dX10_copyFrom_35 (by decide) ?_
  refine zi_bipush (v := 8) dX10_copyFrom_36 (by decide) ?_
  refine zi_acp dX10_copyFrom_38 ml_X10_52 ay_nat ay_stat ay_ini (Nat.le_of_ble_eq_true rfl) (Nat.le_of_ble_eq_true rfl) (fun h10 => ?_)
  refine zi_aload_n dX10_copyFrom_41 rfl 0 rfl ?_
  refine zi_aload_n dX10_copyFrom_42 rfl 1 rfl ?_
  refine zi_getI dX10_copyFrom_43 gf_X10_25 (fun v11 => ?_)
  refine zi_putI dX10_copyFrom_46 gf_X10_25 (fun h12 => ?_)
  refine zi_aload_n dX10_copyFrom_49 rfl 0 rfl ?_
  refine zi_aload_n dX10_copyFrom_50 rfl 1 rfl ?_
  refine zi_getI dX10_copyFrom_51 gf_X10_29 (fun v13 => ?_)
  refine zi_putI dX10_copyFrom_54 gf_X10_29 (fun h14 => ?_)
  refine zi_aload_n dX10_copyFrom_57 rfl 0 rfl ?_
  refine zi_aload_n dX10_copyFrom_58 rfl 1 rfl ?_
  refine zi_getI dX10_copyFrom_59 gf_X10_32 (fun v15 => ?_)
  refine zi_putI dX10_copyFrom_62 gf_X10_32 (fun h16 => ?_)
  refine zi_aload_n dX10_copyFrom_65 rfl 0 rfl ?_
  refine zi_aload_n dX10_copyFrom_66 rfl 1 rfl ?_
  refine zi_getZ dX10_copyFrom_67 gf_X10_35 (fun v17 => ?_)
  refine zi_putZ dX10_copyFrom_70 gf_X10_35 (fun h18 => ?_)
  refine zi_aload_n dX10_copyFrom_73 rfl 0 rfl ?_
  refine zi_aload_n dX10_copyFrom_74 rfl 1 rfl ?_
  refine zi_getI dX10_copyFrom_75 gf_X10_39 (fun v19 => ?_)
  refine zi_putI dX10_copyFrom_78 gf_X10_39 (fun h20 => ?_)
  refine zi_aload_n dX10_copyFrom_81 rfl 0 rfl ?_
  refine zi_aload_n dX10_copyFrom_82 rfl 1 rfl ?_
  refine zi_getI dX10_copyFrom_83 gf_X10_42 (fun v21 => ?_)
  refine zi_putI dX10_copyFrom_86 gf_X10_42 (fun h22 => ?_)
  refine zi_aload_n dX10_copyFrom_89 rfl 0 rfl ?_
  refine zi_aload_n dX10_copyFrom_90 rfl 1 rfl ?_
  refine zi_getI dX10_copyFrom_91 gf_X10_45 (fun v23 => ?_)
  refine zi_putI dX10_copyFrom_94 gf_X10_45 (fun h24 => ?_)
  exact zi_retV dX10_copyFrom_97
set_option maxRecDepth 20000 in
set_option maxHeartbeats 1000000 in
theorem k_J9_floorMod_7cf53 (G : zG) (n : Nat) (a0 : Int32) (a1 : Int32) (h : zH) : zMet G yJ9_floorMod_7cf53 cJ9_floorMod_7cf53 3 (some .int) zvI 1 [.int a0, .int a1] h (f_J9_floorMod_7cf53 n a0 a1 h) := by
  refine zMet_ofF (l := [(0, .int a0), (1, .int a1)]) (by decide +kernel) (Nat.le_of_ble_eq_true rfl) rfl ?_
  unfold f_J9_floorMod_7cf53
  refine zi_iload_n dJ9_floorMod_7cf53_0 rfl 0 rfl ?_
  refine zi_iload_n dJ9_floorMod_7cf53_1 rfl 1 rfl ?_
  refine zi_iremz dJ9_floorMod_7cf53_2 ?_
  refine zi_let (sf := fun x1 => .int x1 :: []) (fun x1 => ?_)
  refine zi_istore_n (l' := [(2, .int x1), (0, .int a0), (1, .int a1)]) dJ9_floorMod_7cf53_3 rfl (by decide) rfl ?_
  refine zi_iload_n dJ9_floorMod_7cf53_4 rfl 1 rfl ?_
  refine zi_iload_n dJ9_floorMod_7cf53_5 rfl 2 rfl ?_
  refine zi_ixor dJ9_floorMod_7cf53_6 ?_
  refine zi_if_ge (tgt := 18) dJ9_floorMod_7cf53_7 (by decide) ?_ ?_
  · refine zi_iload_n dJ9_floorMod_7cf53_18 rfl 0 rfl ?_
    exact zi_retI dJ9_floorMod_7cf53_19
  · refine zi_iload_n dJ9_floorMod_7cf53_10 rfl 0 rfl ?_
    refine zi_if_eq (tgt := 18) dJ9_floorMod_7cf53_11 (by decide) ?_ ?_
    · refine zi_iload_n dJ9_floorMod_7cf53_18 rfl 0 rfl ?_
      exact zi_retI dJ9_floorMod_7cf53_19
    · refine zi_iload_n dJ9_floorMod_7cf53_14 rfl 0 rfl ?_
      refine zi_iload_n dJ9_floorMod_7cf53_15 rfl 2 rfl ?_
      refine zi_iadd dJ9_floorMod_7cf53_16 ?_
      exact zi_retI dJ9_floorMod_7cf53_17
set_option maxRecDepth 20000 in
set_option maxHeartbeats 1000000 in
theorem k_X2_slotOf (G : zG) (n : Nat) (a0 : Nat) (a1 : Int32) (h : zH) : zMet G yX2_slotOf cX2_slotOf 2 (some .int) zvI 2 [.ref (zbase G + a0), .int a1] h (f_X2_slotOf n a0 a1 h) := by
  refine zMet_of (l := [(0, .ref (zbase G + a0)), (1, .int a1)]) (by decide) (Nat.le_of_ble_eq_true rfl) rfl ?_
  unfold f_X2_slotOf
  refine zi_aload_n dX2_slotOf_0 rfl 0 rfl ?_
  refine zi_getI dX2_slotOf_1 gf_X2_21 (fun v1 => ?_)
  refine zi_iload_n dX2_slotOf_4 rfl 1 rfl ?_
  refine zi_iadd dX2_slotOf_5 ?_
  refine zi_bipush (v := 17) dX2_slotOf_6 (by decide) ?_
  refine zi_callSI (As := [.int (v1 + a1), .int 17]) (rest := []) dX2_slotOf_8 ml_X2_37 md_J9_floorMod_7cf53 ms_J9_floorMod_7cf53 rfl rfl (Nat.le_of_ble_eq_true rfl) (Nat.le_of_ble_eq_true rfl) (k_J9_floorMod_7cf53 G n (v1 + a1) 17 h) (fun r2 h3 => ?_)
  exact zi_retI dX2_slotOf_11
set_option maxRecDepth 20000 in
set_option maxHeartbeats 1000000 in
theorem wb_X2_copyFrom_18 (G : zG) (n : Nat) (k18 : Nat → Nat → Int32 → zH → Option (Unit × zH)) (hk18 : ∀ (l0 : Nat) (l1 : Nat) (l2 : Int32) (h : zH), zW G yX2_copyFrom cX2_copyFrom 4 none zvU 4 18 [(0, .ref (zbase G + l0)), (1, .ref (zbase G + l1)), (2, .int l2)] [] h (k18 l0 l1 l2 h)) (l0 : Nat) (l1 : Nat) (l2 : Int32) (h : zH) : zW G yX2_copyFrom cX2_copyFrom 4 none zvU 4 18 [(0, .ref (zbase G + l0)), (1, .ref (zbase G + l1)), (2, .int l2)] [] h (fb_X2_copyFrom_18 n k18 l0 l1 l2 h) := by
  unfold fb_X2_copyFrom_18
  refine zi_iload_n dX2_copyFrom_18 rfl 2 rfl ?_
  refine zi_aload_n dX2_copyFrom_19 rfl 0 rfl ?_
  refine zi_getI dX2_copyFrom_20 gf_X2_25 (fun v1 => ?_)
  refine zi_icmp_ge (tgt := 65) dX2_copyFrom_23 (by decide) ?_ ?_
  · exact zi_retV dX2_copyFrom_65
  · refine zi_aload_n dX2_copyFrom_26 rfl 0 rfl ?_
    refine zi_iload_n dX2_copyFrom_27 rfl 2 rfl ?_
    refine zi_callVI (As := [.int l2]) (rest := []) (ci := 2) dX2_copyFrom_28 ml_X2_29 md_X2_slotOf mv_X2_slotOf rfl (by decide) rfl rfl (Nat.le_of_ble_eq_true rfl) (Nat.le_of_ble_eq_true rfl) (k_X2_slotOf G n l0 l2 h) (fun r2 h3 => ?_)
    refine zi_istore_n (l' := [(3, .int r2), (0, .ref (zbase G + l0)), (1, .ref (zbase G + l1)), (2, .int l2)]) dX2_copyFrom_31 rfl (by decide) rfl ?_
    refine zi_aload_n dX2_copyFrom_32 rfl 1 rfl ?_
    refine zi_getR dX2_copyFrom_33 gf_X2_13 (fun v4 => ?_)
    refine zi_iload_n dX2_copyFrom_36 rfl 0 rfl ?_
    refine zi_aaldW dX2_copyFrom_37 (fun v5 => ?_)
    refine zi_aload_n dX2_copyFrom_38 rfl 2 rfl ?_
    refine zi_getR dX2_copyFrom_39 gf_X2_13 (fun v6 => ?_)
    refine zi_iload_n dX2_copyFrom_42 rfl 0 rfl ?_
    refine zi_aaldW dX2_copyFrom_43 (fun v7 => ?_)
    refine zi_callVU (As := [.ref (zbase G + v7)]) (rest := []) (ci := 10) dX2_copyFrom_44 ml_X2_33 md_X10_copyFrom mv_X10_copyFrom rfl (by decide) rfl rfl (Nat.le_of_ble_eq_true rfl) (Nat.le_of_ble_eq_true rfl) (k_X10_copyFrom G n v5 v7 h3) (fun _ h9 => ?_)
    refine zi_aload_n dX2_copyFrom_47 rfl 1 rfl ?_
    refine zi_getR dX2_copyFrom_48 gf_X2_17 (fun v10 => ?_)
    refine zi_iload_n dX2_copyFrom_51 rfl 0 rfl ?_
    refine zi_aload_n dX2_copyFrom_52 rfl 2 rfl ?_
    refine zi_getR dX2_copyFrom_53 gf_X2_17 (fun v11 => ?_)
    refine zi_iload_n dX2_copyFrom_56 rfl 0 rfl ?_
    refine zi_iald dX2_copyFrom_57 (fun v12 => ?_)
    refine zi_iast dX2_copyFrom_58 (fun h13 => ?_)
    refine zi_iinc (j := 3) (v := l2 + 1) (l' := [(2, .int (l2 + 1)), (3, .int r2), (0, .ref (zbase G + l0)), (1, .ref (zbase G + l1))]) dX2_copyFrom_59 rfl rfl (by decide) rfl ?_
    refine zi_goto (tgt := 18) dX2_copyFrom_62 (by decide) ?_
    refine zi_sub [2, 3, 0] rfl ?_
    exact hk18 l0 l1 (l2 + 1) h13
theorem wl_X2_copyFrom_18 (G : zG) (n : Nat) : ∀ (t : Nat) (l0 : Nat) (l1 : Nat) (l2 : Int32) (h : zH), zW G yX2_copyFrom cX2_copyFrom 4 none zvU 4 18 [(0, .ref (zbase G + l0)), (1, .ref (zbase G + l1)), (2, .int l2)] [] h (zlp3 (fb_X2_copyFrom_18 n ) t l0 l1 l2 h) := by
  intro t
  induction t with
  | zero => intros; exact zW_none
  | succ t ih => intro l0 l1 l2 h; rw [zlp3_s]; exact wb_X2_copyFrom_18 G n  _  ih l0 l1 l2 h
set_option maxRecDepth 20000 in
set_option maxHeartbeats 1000000 in
theorem k_X2_copyFrom (G : zG) (n : Nat) (a0 : Nat) (a1 : Nat) (h : zH) : zMet G yX2_copyFrom cX2_copyFrom 4 none zvU 4 [.ref (zbase G + a0), .ref (zbase G + a1)] h (f_X2_copyFrom n a0 a1 h) := by
  refine zMet_of (l := [(0, .ref (zbase G + a0)), (1, .ref (zbase G + a1))]) (by decide) (Nat.le_of_ble_eq_true rfl) rfl ?_
  unfold f_X2_copyFrom
  refine zi_aload_n dX2_copyFrom_0 rfl 0 rfl ?_
  refine zi_aload_n dX2_copyFrom_1 rfl 1 rfl ?_
  refine zi_getI dX2_copyFrom_2 gf_X2_21 (fun v1 => ?_)
  refine zi_putI dX2_copyFrom_5 gf_X2_21 (fun h2 => ?_)
  refine zi_aload_n dX2_copyFrom_8 rfl 0 rfl ?_
  refine zi_aload_n dX2_copyFrom_9 rfl 1 rfl ?_
  refine zi_getI dX2_copyFrom_10 gf_X2_25 (fun v3 => ?_)
  refine zi_putI dX2_copyFrom_13 gf_X2_25 (fun h4 => ?_)
  refine zi_iconst (v := 0) dX2_copyFrom_16 (by decide) ?_
  refine zi_istore_n (l' := [(2, .int 0), (0, .ref (zbase G + a0)), (1, .ref (zbase G + a1))]) dX2_copyFrom_17 rfl (by decide) rfl ?_
  refine zi_sub [1, 2, 0] rfl ?_
  exact wl_X2_copyFrom_18 G n n a0 a1 0 h4
