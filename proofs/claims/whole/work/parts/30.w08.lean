set_option maxRecDepth 20000 in
set_option maxHeartbeats 1000000 in
theorem wb_X12_readPlain_128 (G : zG) (n : Nat) (kH : Nat → Int32 → zH → Option (Unit × zH)) (dh : Nat) (hdh : 39 ≤ dh) (hH : ∀ (q0 : Nat) (q1 : Int32) (h : zH), zMet G yX12_readTest cX12_readTest 2 none zvU dh [.ref (zbase G + q0), .int q1] h (kH q0 q1 h)) (l0 : Nat) (l1 : Int32) (h : zH) : zW G yX12_readPlain cX12_readPlain 4 none zvU (dh + 1) 128 [(0, .ref (zbase G + l0)), (1, .int l1)] [] h (fb_X12_readPlain_128 n kH l0 l1 h) := by
  unfold fb_X12_readPlain_128
  refine zi_aload_n dX12_readPlain_128 rfl 0 rfl ?_
  refine zi_iload_n dX12_readPlain_129 rfl 1 rfl ?_
  refine zi_callVU (As := [.int l1]) (rest := []) (ci := 12) dX12_readPlain_130 ml_X12_174 md_X12_readSum mv_X12_readSum rfl (by decide) rfl rfl (Nat.le_of_ble_eq_true rfl) (by omega) (k_X12_readSum G n 12 l0 l1 h) (fun _ h2 => ?_)
  exact zi_retV dX12_readPlain_133
set_option maxRecDepth 20000 in
set_option maxHeartbeats 1000000 in
theorem wb_X12_readPlain_53 (G : zG) (n : Nat) (kH : Nat → Int32 → zH → Option (Unit × zH)) (dh : Nat) (hdh : 39 ≤ dh) (hH : ∀ (q0 : Nat) (q1 : Int32) (h : zH), zMet G yX12_readTest cX12_readTest 2 none zvU dh [.ref (zbase G + q0), .int q1] h (kH q0 q1 h)) (l0 : Nat) (l1 : Int32) (h : zH) : zW G yX12_readPlain cX12_readPlain 4 none zvU (dh + 1) 53 [(0, .ref (zbase G + l0)), (1, .int l1)] [] h (fb_X12_readPlain_53 n kH l0 l1 h) := by
  unfold fb_X12_readPlain_53
  refine zi_aload_n dX12_readPlain_53 rfl 0 rfl ?_
  refine zi_callVI (As := []) (rest := []) (ci := 12) dX12_readPlain_54 ml_X12_159 md_X12_fine mv_X12_fine rfl (by decide) rfl rfl (Nat.le_of_ble_eq_true rfl) (by omega) (k_X12_fine G n l0 h) (fun r1 h2 => ?_)
  refine zi_if_ne (tgt := 61) dX12_readPlain_57 (by decide) ?_ ?_
  · refine zi_aload_n dX12_readPlain_61 rfl 0 rfl ?_
    refine zi_dup dX12_readPlain_62 rfl ?_
    refine zi_getI dX12_readPlain_63 gf_X12_162 (fun v3 => ?_)
    refine zi_iconst (v := 1) dX12_readPlain_66 (by decide) ?_
    refine zi_iadd dX12_readPlain_67 ?_
    refine zi_putI dX12_readPlain_68 gf_X12_162 (fun h4 => ?_)
    refine zi_aload_n dX12_readPlain_71 rfl 0 rfl ?_
    refine zi_iload_n dX12_readPlain_72 rfl 1 rfl ?_
    refine zi_iconst (v := 1) dX12_readPlain_73 (by decide) ?_
    refine zi_iadd dX12_readPlain_74 ?_
    refine zi_callVU (As := [.int (l1 + 1)]) (rest := []) (ci := 12) dX12_readPlain_75 ml_X12_181 md_X12_readTest mv_X12_readTest rfl (by decide) rfl rfl (Nat.le_of_ble_eq_true rfl) (by omega) (hH l0 (l1 + 1) h4) (fun _ h6 => ?_)
    refine zi_aload_n dX12_readPlain_78 rfl 0 rfl ?_
    refine zi_bipush (v := 41) dX12_readPlain_79 (by decide) ?_
    refine zi_callSI (As := [.int 41]) (rest := [.ref (zbase G + l0)]) dX12_readPlain_81 ml_X12_207 md_X12_sign ms_X12_sign rfl rfl (Nat.le_of_ble_eq_true rfl) (by omega) (k_X12_sign G n 41 h6) (fun r7 h8 => ?_)
    refine zi_callVU (As := [.int r7]) (rest := []) (ci := 12) dX12_readPlain_84 ml_X12_178 md_X12_must mv_X12_must rfl (by decide) rfl rfl (Nat.le_of_ble_eq_true rfl) (by omega) (k_X12_must G n l0 r7 h8) (fun _ h10 => ?_)
    refine zi_goto (tgt := 133) dX12_readPlain_87 (by decide) ?_
    exact zi_retV dX12_readPlain_133
  · exact zi_retV dX12_readPlain_60
set_option maxRecDepth 20000 in
set_option maxHeartbeats 1000000 in
theorem wb_X12_readPlain_16 (G : zG) (n : Nat) (kH : Nat → Int32 → zH → Option (Unit × zH)) (dh : Nat) (hdh : 39 ≤ dh) (hH : ∀ (q0 : Nat) (q1 : Int32) (h : zH), zMet G yX12_readTest cX12_readTest 2 none zvU dh [.ref (zbase G + q0), .int q1] h (kH q0 q1 h)) (l0 : Nat) (l1 : Int32) (h : zH) : zW G yX12_readPlain cX12_readPlain 4 none zvU (dh + 1) 16 [(0, .ref (zbase G + l0)), (1, .int l1)] [] h (fb_X12_readPlain_16 n kH l0 l1 h) := by
  unfold fb_X12_readPlain_16
  refine zi_aload_n dX12_readPlain_16 rfl 0 rfl ?_
  refine zi_callVI (As := []) (rest := []) (ci := 12) dX12_readPlain_17 ml_X12_159 md_X12_fine mv_X12_fine rfl (by decide) rfl rfl (Nat.le_of_ble_eq_true rfl) (by omega) (k_X12_fine G n l0 h) (fun r1 h2 => ?_)
  refine zi_if_ne (tgt := 24) dX12_readPlain_20 (by decide) ?_ ?_
  · refine zi_aload_n dX12_readPlain_24 rfl 0 rfl ?_
    refine zi_getR dX12_readPlain_25 gf_X12_54 (fun v3 => ?_)
    refine zi_aload_n dX12_readPlain_28 rfl 0 rfl ?_
    refine zi_getI dX12_readPlain_29 gf_X12_162 (fun v4 => ?_)
    refine zi_iald dX12_readPlain_32 (fun v5 => ?_)
    refine zi_istore_n (l' := [(3, .int v5), (0, .ref (zbase G + l0)), (1, .int l1)]) dX12_readPlain_33 rfl (by decide) rfl ?_
    refine zi_iload_n dX12_readPlain_34 rfl 0 rfl ?_
    refine zi_bipush (v := 40) dX12_readPlain_35 (by decide) ?_
    refine zi_callSI (As := [.int 40]) (rest := [.int v5]) dX12_readPlain_37 ml_X12_207 md_X12_sign ms_X12_sign rfl rfl (Nat.le_of_ble_eq_true rfl) (by omega) (k_X12_sign G n 40 h2) (fun r6 h7 => ?_)
    refine zi_icmp_ne (tgt := 90) dX12_readPlain_40 (by decide) ?_ ?_
    · refine zi_aload_n dX12_readPlain_90 rfl 1 rfl ?_
      refine zi_iload_n dX12_readPlain_91 rfl 2 rfl ?_
      refine zi_callVU (As := [.int l1]) (rest := []) (ci := 12) dX12_readPlain_92 ml_X12_174 md_X12_readSum mv_X12_readSum rfl (by decide) rfl rfl (Nat.le_of_ble_eq_true rfl) (by omega) (k_X12_readSum G n 12 l0 l1 h7) (fun _ h9 => ?_)
      refine zi_aload_n dX12_readPlain_95 rfl 1 rfl ?_
      refine zi_bipush (v := 60) dX12_readPlain_96 (by decide) ?_
      refine zi_callSI (As := [.int 60]) (rest := [.ref (zbase G + l0)]) dX12_readPlain_98 ml_X12_207 md_X12_sign ms_X12_sign rfl rfl (Nat.le_of_ble_eq_true rfl) (by omega) (k_X12_sign G n 60 h9) (fun r10 h11 => ?_)
      refine zi_callVI (As := [.int r10]) (rest := []) (ci := 12) dX12_readPlain_101 ml_X12_165 md_X12_takes0 mv_X12_takes0 rfl (by decide) rfl rfl (Nat.le_of_ble_eq_true rfl) (by omega) (k_X12_takes0 G n l0 r10 h11) (fun r12 h13 => ?_)
      refine zi_if_ne (tgt := 128) dX12_readPlain_104 (by decide) ?_ ?_
      · refine zi_sub [1, 2] rfl ?_
        exact wb_X12_readPlain_128 G n kH dh hdh hH l0 l1 h13
      · refine zi_aload_n dX12_readPlain_107 rfl 1 rfl ?_
        refine zi_bipush (v := 62) dX12_readPlain_108 (by decide) ?_
        refine zi_callSI (As := [.int 62]) (rest := [.ref (zbase G + l0)]) dX12_readPlain_110 ml_X12_207 md_X12_sign ms_X12_sign rfl rfl (Nat.le_of_ble_eq_true rfl) (by omega) (k_X12_sign G n 62 h13) (fun r14 h15 => ?_)
        refine zi_callVI (As := [.int r14]) (rest := []) (ci := 12) dX12_readPlain_113 ml_X12_165 md_X12_takes0 mv_X12_takes0 rfl (by decide) rfl rfl (Nat.le_of_ble_eq_true rfl) (by omega) (k_X12_takes0 G n l0 r14 h15) (fun r16 h17 => ?_)
        refine zi_if_ne (tgt := 128) dX12_readPlain_116 (by decide) ?_ ?_
        · refine zi_sub [1, 2] rfl ?_
          exact wb_X12_readPlain_128 G n kH dh hdh hH l0 l1 h17
        · refine zi_aload_n dX12_readPlain_119 rfl 1 rfl ?_
          refine zi_bipush (v := 61) dX12_readPlain_120 (by decide) ?_
          refine zi_callSI (As := [.int 61]) (rest := [.ref (zbase G + l0)]) dX12_readPlain_122 ml_X12_207 md_X12_sign ms_X12_sign rfl rfl (Nat.le_of_ble_eq_true rfl) (by omega) (k_X12_sign G n 61 h17) (fun r18 h19 => ?_)
          refine zi_callVU (As := [.int r18]) (rest := []) (ci := 12) dX12_readPlain_125 ml_X12_178 md_X12_must mv_X12_must rfl (by decide) rfl rfl (Nat.le_of_ble_eq_true rfl) (by omega) (k_X12_must G n l0 r18 h19) (fun _ h21 => ?_)
          refine zi_sub [1, 2] rfl ?_
          exact wb_X12_readPlain_128 G n kH dh hdh hH l0 l1 h21
    · refine zi_iload_n dX12_readPlain_43 rfl 2 rfl ?_
      refine zi_bipush (v := 8) dX12_readPlain_44 (by decide) ?_
      refine zi_icmp_ne (tgt := 53) dX12_readPlain_46 (by decide) ?_ ?_
      · refine zi_sub [1, 2] rfl ?_
        exact wb_X12_readPlain_53 G n kH dh hdh hH l0 l1 h7
      · refine zi_aload_n dX12_readPlain_49 rfl 1 rfl ?_
        refine zi_callVU (As := []) (rest := []) (ci := 12) dX12_readPlain_50 ml_X12_168 md_X12_faults mv_X12_faults rfl (by decide) rfl rfl (Nat.le_of_ble_eq_true rfl) (by omega) (k_X12_faults G n l0 h7) (fun _ h23 => ?_)
        refine zi_sub [1, 2] rfl ?_
        exact wb_X12_readPlain_53 G n kH dh hdh hH l0 l1 h23
  · exact zi_retV dX12_readPlain_23
set_option maxRecDepth 20000 in
set_option maxHeartbeats 1000000 in
theorem wb_X12_readPlain_2 (G : zG) (n : Nat) (kH : Nat → Int32 → zH → Option (Unit × zH)) (dh : Nat) (hdh : 39 ≤ dh) (hH : ∀ (q0 : Nat) (q1 : Int32) (h : zH), zMet G yX12_readTest cX12_readTest 2 none zvU dh [.ref (zbase G + q0), .int q1] h (kH q0 q1 h)) (k2 : Nat → Int32 → Int32 → zH → Option (Unit × zH)) (hk2 : ∀ (l0 : Nat) (l1 : Int32) (l2 : Int32) (h : zH), zW G yX12_readPlain cX12_readPlain 4 none zvU (dh + 1) 2 [(0, .ref (zbase G + l0)), (1, .int l1), (2, .int l2)] [] h (k2 l0 l1 l2 h)) (l0 : Nat) (l1 : Int32) (l2 : Int32) (h : zH) : zW G yX12_readPlain cX12_readPlain 4 none zvU (dh + 1) 2 [(0, .ref (zbase G + l0)), (1, .int l1), (2, .int l2)] [] h (fb_X12_readPlain_2 n kH k2 l0 l1 l2 h) := by
  unfold fb_X12_readPlain_2
  refine zi_iload_n dX12_readPlain_2 rfl 2 rfl ?_
  refine zi_if_eq (tgt := 16) dX12_readPlain_3 (by decide) ?_ ?_
  · refine zi_sub [0, 1] rfl ?_
    exact wb_X12_readPlain_16 G n kH dh hdh hH l0 l1 h
  · refine zi_aload_n dX12_readPlain_6 rfl 0 rfl ?_
    refine zi_bipush (v := 6) dX12_readPlain_7 (by decide) ?_
    refine zi_callVI (As := [.int 6]) (rest := []) (ci := 12) dX12_readPlain_9 ml_X12_165 md_X12_takes0 mv_X12_takes0 rfl (by decide) rfl rfl (Nat.le_of_ble_eq_true rfl) (by omega) (k_X12_takes0 G n l0 6 h) (fun r1 h2 => ?_)
    refine zi_istore_n (l' := [(2, .int r1), (0, .ref (zbase G + l0)), (1, .int l1)]) dX12_readPlain_12 rfl (by decide) rfl ?_
    refine zi_goto (tgt := 2) dX12_readPlain_13 (by decide) ?_
    refine zi_sub [1, 2, 0] rfl ?_
    exact hk2 l0 l1 r1 h2
theorem wl_X12_readPlain_2 (G : zG) (n : Nat) (kH : Nat → Int32 → zH → Option (Unit × zH)) (dh : Nat) (hdh : 39 ≤ dh) (hH : ∀ (q0 : Nat) (q1 : Int32) (h : zH), zMet G yX12_readTest cX12_readTest 2 none zvU dh [.ref (zbase G + q0), .int q1] h (kH q0 q1 h)) : ∀ (t : Nat) (l0 : Nat) (l1 : Int32) (l2 : Int32) (h : zH), zW G yX12_readPlain cX12_readPlain 4 none zvU (dh + 1) 2 [(0, .ref (zbase G + l0)), (1, .int l1), (2, .int l2)] [] h (zlp3 (fb_X12_readPlain_2 n kH ) t l0 l1 l2 h) := by
  intro t
  induction t with
  | zero => intros; exact zW_none
  | succ t ih => intro l0 l1 l2 h; rw [zlp3_s]; exact wb_X12_readPlain_2 G n kH dh hdh hH  _  ih l0 l1 l2 h
set_option maxRecDepth 20000 in
set_option maxHeartbeats 1000000 in
theorem k_X12_readPlain (G : zG) (n : Nat) (kH : Nat → Int32 → zH → Option (Unit × zH)) (dh : Nat) (hdh : 39 ≤ dh) (hH : ∀ (q0 : Nat) (q1 : Int32) (h : zH), zMet G yX12_readTest cX12_readTest 2 none zvU dh [.ref (zbase G + q0), .int q1] h (kH q0 q1 h)) (a0 : Nat) (a1 : Int32) (h : zH) : zMet G yX12_readPlain cX12_readPlain 4 none zvU (dh + 1) [.ref (zbase G + a0), .int a1] h (f_X12_readPlain n kH a0 a1 h) := by
  refine zMet_of (l := [(0, .ref (zbase G + a0)), (1, .int a1)]) (by decide) (Nat.le_of_ble_eq_true rfl) rfl ?_
  unfold f_X12_readPlain
  refine zi_iconst (v := 1) dX12_readPlain_0 (by decide) ?_
  refine zi_istore_n (l' := [(2, .int 1), (0, .ref (zbase G + a0)), (1, .int a1)]) dX12_readPlain_1 rfl (by decide) rfl ?_
  refine zi_sub [1, 2, 0] rfl ?_
  exact wl_X12_readPlain_2 G n kH dh hdh hH n a0 a1 1 h
set_option maxRecDepth 20000 in
set_option maxHeartbeats 1000000 in
theorem wb_X12_readBoth_5 (G : zG) (n : Nat) (kH : Nat → Int32 → zH → Option (Unit × zH)) (dh : Nat) (hdh : 39 ≤ dh) (hH : ∀ (q0 : Nat) (q1 : Int32) (h : zH), zMet G yX12_readTest cX12_readTest 2 none zvU dh [.ref (zbase G + q0), .int q1] h (kH q0 q1 h)) (k5 : Nat → Int32 → zH → Option (Unit × zH)) (hk5 : ∀ (l0 : Nat) (l1 : Int32) (h : zH), zW G yX12_readBoth cX12_readBoth 2 none zvU (dh + 2) 5 [(0, .ref (zbase G + l0)), (1, .int l1)] [] h (k5 l0 l1 h)) (l0 : Nat) (l1 : Int32) (h : zH) : zW G yX12_readBoth cX12_readBoth 2 none zvU (dh + 2) 5 [(0, .ref (zbase G + l0)), (1, .int l1)] [] h (fb_X12_readBoth_5 n kH k5 l0 l1 h) := by
  unfold fb_X12_readBoth_5
  refine zi_aload_n dX12_readBoth_5 rfl 0 rfl ?_
  refine zi_iconst (v := 5) dX12_readBoth_6 (by decide) ?_
  refine zi_callVI (As := [.int 5]) (rest := []) (ci := 12) dX12_readBoth_7 ml_X12_165 md_X12_takes0 mv_X12_takes0 rfl (by decide) rfl rfl (Nat.le_of_ble_eq_true rfl) (by omega) (k_X12_takes0 G n l0 5 h) (fun r1 h2 => ?_)
  refine zi_if_eq (tgt := 21) dX12_readBoth_10 (by decide) ?_ ?_
  · exact zi_retV dX12_readBoth_21
  · refine zi_aload_n dX12_readBoth_13 rfl 0 rfl ?_
    refine zi_iload_n dX12_readBoth_14 rfl 1 rfl ?_
    refine zi_callVU (As := [.int l1]) (rest := []) (ci := 12) dX12_readBoth_15 ml_X12_204 md_X12_readPlain mv_X12_readPlain rfl (by decide) rfl rfl (Nat.le_of_ble_eq_true rfl) (by omega) (k_X12_readPlain G n kH dh hdh hH l0 l1 h2) (fun _ h4 => ?_)
    refine zi_goto (tgt := 5) dX12_readBoth_18 (by decide) ?_
    refine zi_sub [0, 1] rfl ?_
    exact hk5 l0 l1 h4
theorem wl_X12_readBoth_5 (G : zG) (n : Nat) (kH : Nat → Int32 → zH → Option (Unit × zH)) (dh : Nat) (hdh : 39 ≤ dh) (hH : ∀ (q0 : Nat) (q1 : Int32) (h : zH), zMet G yX12_readTest cX12_readTest 2 none zvU dh [.ref (zbase G + q0), .int q1] h (kH q0 q1 h)) : ∀ (t : Nat) (l0 : Nat) (l1 : Int32) (h : zH), zW G yX12_readBoth cX12_readBoth 2 none zvU (dh + 2) 5 [(0, .ref (zbase G + l0)), (1, .int l1)] [] h (zlp2 (fb_X12_readBoth_5 n kH ) t l0 l1 h) := by
  intro t
  induction t with
  | zero => intros; exact zW_none
  | succ t ih => intro l0 l1 h; rw [zlp2_s]; exact wb_X12_readBoth_5 G n kH dh hdh hH  _  ih l0 l1 h
set_option maxRecDepth 20000 in
set_option maxHeartbeats 1000000 in
theorem k_X12_readBoth (G : zG) (n : Nat) (kH : Nat → Int32 → zH → Option (Unit × zH)) (dh : Nat) (hdh : 39 ≤ dh) (hH : ∀ (q0 : Nat) (q1 : Int32) (h : zH), zMet G yX12_readTest cX12_readTest 2 none zvU dh [.ref (zbase G + q0), .int q1] h (kH q0 q1 h)) (a0 : Nat) (a1 : Int32) (h : zH) : zMet G yX12_readBoth cX12_readBoth 2 none zvU (dh + 2) [.ref (zbase G + a0), .int a1] h (f_X12_readBoth n kH a0 a1 h) := by
  refine zMet_of (l := [(0, .ref (zbase G + a0)), (1, .int a1)]) (by decide) (Nat.le_of_ble_eq_true rfl) rfl ?_
  unfold f_X12_readBoth
  refine zi_aload_n dX12_readBoth_0 rfl 0 rfl ?_
  refine zi_iload_n dX12_readBoth_1 rfl 1 rfl ?_
  refine zi_callVU (As := [.int a1]) (rest := []) (ci := 12) dX12_readBoth_2 ml_X12_204 md_X12_readPlain mv_X12_readPlain rfl (by decide) rfl rfl (Nat.le_of_ble_eq_true rfl) (by omega) (k_X12_readPlain G n kH dh hdh hH a0 a1 h) (fun _ h2 => ?_)
  refine zi_sub [0, 1] rfl ?_
  exact wl_X12_readBoth_5 G n kH dh hdh hH n a0 a1 h2
set_option maxRecDepth 20000 in
set_option maxHeartbeats 1000000 in
theorem wb_X12_readTest_5 (G : zG) (n : Nat) (kH : Nat → Int32 → zH → Option (Unit × zH)) (dh : Nat) (hdh : 39 ≤ dh) (hH : ∀ (q0 : Nat) (q1 : Int32) (h : zH), zMet G yX12_readTest cX12_readTest 2 none zvU dh [.ref (zbase G + q0), .int q1] h (kH q0 q1 h)) (k5 : Nat → Int32 → zH → Option (Unit × zH)) (hk5 : ∀ (l0 : Nat) (l1 : Int32) (h : zH), zW G yX12_readTest cX12_readTest 2 none zvU (dh + 3) 5 [(0, .ref (zbase G + l0)), (1, .int l1)] [] h (k5 l0 l1 h)) (l0 : Nat) (l1 : Int32) (h : zH) : zW G yX12_readTest cX12_readTest 2 none zvU (dh + 3) 5 [(0, .ref (zbase G + l0)), (1, .int l1)] [] h (fb_X12_readTest_5 n kH k5 l0 l1 h) := by
  unfold fb_X12_readTest_5
  refine zi_aload_n dX12_readTest_5 rfl 0 rfl ?_
  refine zi_iconst (v := 4) dX12_readTest_6 (by decide) ?_
  refine zi_callVI (As := [.int 4]) (rest := []) (ci := 12) dX12_readTest_7 ml_X12_165 md_X12_takes0 mv_X12_takes0 rfl (by decide) rfl rfl (Nat.le_of_ble_eq_true rfl) (by omega) (k_X12_takes0 G n l0 4 h) (fun r1 h2 => ?_)
  refine zi_if_eq (tgt := 21) dX12_readTest_10 (by decide) ?_ ?_
  · exact zi_retV dX12_readTest_21
  · refine zi_aload_n dX12_readTest_13 rfl 0 rfl ?_
    refine zi_iload_n dX12_readTest_14 rfl 1 rfl ?_
    refine zi_callVU (As := [.int l1]) (rest := []) (ci := 12) dX12_readTest_15 ml_X12_201 md_X12_readBoth mv_X12_readBoth rfl (by decide) rfl rfl (Nat.le_of_ble_eq_true rfl) (by omega) (k_X12_readBoth G n kH dh hdh hH l0 l1 h2) (fun _ h4 => ?_)
    refine zi_goto (tgt := 5) dX12_readTest_18 (by decide) ?_
    refine zi_sub [0, 1] rfl ?_
    exact hk5 l0 l1 h4
theorem wl_X12_readTest_5 (G : zG) (n : Nat) (kH : Nat → Int32 → zH → Option (Unit × zH)) (dh : Nat) (hdh : 39 ≤ dh) (hH : ∀ (q0 : Nat) (q1 : Int32) (h : zH), zMet G yX12_readTest cX12_readTest 2 none zvU dh [.ref (zbase G + q0), .int q1] h (kH q0 q1 h)) : ∀ (t : Nat) (l0 : Nat) (l1 : Int32) (h : zH), zW G yX12_readTest cX12_readTest 2 none zvU (dh + 3) 5 [(0, .ref (zbase G + l0)), (1, .int l1)] [] h (zlp2 (fb_X12_readTest_5 n kH ) t l0 l1 h) := by
  intro t
  induction t with
  | zero => intros; exact zW_none
  | succ t ih => intro l0 l1 h; rw [zlp2_s]; exact wb_X12_readTest_5 G n kH dh hdh hH  _  ih l0 l1 h
set_option maxRecDepth 20000 in
set_option maxHeartbeats 1000000 in
theorem kB_X12_readTest (G : zG) (n : Nat) (kH : Nat → Int32 → zH → Option (Unit × zH)) (dh : Nat) (hdh : 39 ≤ dh) (hH : ∀ (q0 : Nat) (q1 : Int32) (h : zH), zMet G yX12_readTest cX12_readTest 2 none zvU dh [.ref (zbase G + q0), .int q1] h (kH q0 q1 h)) (a0 : Nat) (a1 : Int32) (h : zH) : zMet G yX12_readTest cX12_readTest 2 none zvU (dh + 3) [.ref (zbase G + a0), .int a1] h (fB_X12_readTest n kH a0 a1 h) := by
  refine zMet_of (l := [(0, .ref (zbase G + a0)), (1, .int a1)]) (by decide) (Nat.le_of_ble_eq_true rfl) rfl ?_
  unfold fB_X12_readTest
  refine zi_aload_n dX12_readTest_0 rfl 0 rfl ?_
  refine zi_iload_n dX12_readTest_1 rfl 1 rfl ?_
  refine zi_callVU (As := [.int a1]) (rest := []) (ci := 12) dX12_readTest_2 ml_X12_201 md_X12_readBoth mv_X12_readBoth rfl (by decide) rfl rfl (Nat.le_of_ble_eq_true rfl) (by omega) (k_X12_readBoth G n kH dh hdh hH a0 a1 h) (fun _ h2 => ?_)
  refine zi_sub [0, 1] rfl ?_
  exact wl_X12_readTest_5 G n kH dh hdh hH n a0 a1 h2
theorem k_X12_readTest (G : zG) (n : Nat) : ∀ (r : Nat) (a0 : Nat) (a1 : Int32) (h : zH), zMet G yX12_readTest cX12_readTest 2 none zvU (39 + 3 * r) [.ref (zbase G + a0), .int a1] h (f_X12_readTest n r a0 a1 h) := by
  intro r
  induction r with
  | zero => intro a0 a1 h r h1 hX; cases hX
  | succ r ih => intro a0 a1 h; exact kB_X12_readTest G n (f_X12_readTest n r) (39 + 3 * r) (Nat.le_add_right _ _) ih a0 a1 h
set_option maxRecDepth 20000 in
set_option maxHeartbeats 1000000 in
theorem wb_X12_readClause_21 (G : zG) (n : Nat) (l0 : Nat) (h : zH) : zW G yX12_readClause cX12_readClause 1 none zvU 76 21 [(0, .ref (zbase G + l0))] [] h (fb_X12_readClause_21 n l0 h) := by
  unfold fb_X12_readClause_21
  refine zi_aload_n dX12_readClause_21 rfl 0 rfl ?_
  refine zi_iconst (v := 3) dX12_readClause_22 (by decide) ?_
  refine zi_callVI (As := [.int 3]) (rest := []) (ci := 12) dX12_readClause_23 ml_X12_165 md_X12_takes0 mv_X12_takes0 rfl (by decide) rfl rfl (Nat.le_of_ble_eq_true rfl) (Nat.le_of_ble_eq_true rfl) (k_X12_takes0 G n l0 3 h) (fun r1 h2 => ?_)
  refine zi_if_eq (tgt := 34) dX12_readClause_26 (by decide) ?_ ?_
  · exact zi_retV dX12_readClause_34
  · refine zi_aload_n dX12_readClause_29 rfl 0 rfl ?_
    refine zi_iconst (v := 0) dX12_readClause_30 (by decide) ?_
    refine zi_callVU (As := [.int 0]) (rest := []) (ci := 12) dX12_readClause_31 ml_X12_181 md_X12_readTest mv_X12_readTest rfl (by decide) rfl rfl (Nat.le_of_ble_eq_true rfl) (Nat.le_of_ble_eq_true rfl) (k_X12_readTest G n 12 l0 0 h2) (fun _ h4 => ?_)
    exact zi_retV dX12_readClause_34
set_option maxRecDepth 20000 in
set_option maxHeartbeats 1000000 in
theorem k_X12_readClause (G : zG) (n : Nat) (a0 : Nat) (h : zH) : zMet G yX12_readClause cX12_readClause 1 none zvU 76 [.ref (zbase G + a0)] h (f_X12_readClause n a0 h) := by
  refine zMet_of (l := [(0, .ref (zbase G + a0))]) (by decide) (Nat.le_of_ble_eq_true rfl) rfl ?_
  unfold f_X12_readClause
  refine zi_aload_n dX12_readClause_0 rfl 0 rfl ?_
  refine zi_iconst (v := 1) dX12_readClause_1 (by decide) ?_
  refine zi_callVI (As := [.int 1]) (rest := []) (ci := 12) dX12_readClause_2 ml_X12_165 md_X12_takes0 mv_X12_takes0 rfl (by decide) rfl rfl (Nat.le_of_ble_eq_true rfl) (Nat.le_of_ble_eq_true rfl) (k_X12_takes0 G n a0 1 h) (fun r1 h2 => ?_)
  refine zi_if_eq (tgt := 16) dX12_readClause_5 (by decide) ?_ ?_
  · refine zi_aload_n dX12_readClause_16 rfl 0 rfl ?_
    refine zi_iconst (v := 2) dX12_readClause_17 (by decide) ?_
    refine zi_callVU (As := [.int 2]) (rest := []) (ci := 12) dX12_readClause_18 ml_X12_178 md_X12_must mv_X12_must rfl (by decide) rfl rfl (Nat.le_of_ble_eq_true rfl) (Nat.le_of_ble_eq_true rfl) (k_X12_must G n a0 2 h2) (fun _ h4 => ?_)
    refine zi_sub [0] rfl ?_
    exact wb_X12_readClause_21 G n a0 h4
  · refine zi_aload_n dX12_readClause_8 rfl 0 rfl ?_
    refine zi_iconst (v := 0) dX12_readClause_9 (by decide) ?_
    refine zi_callVU (As := [.int 0]) (rest := []) (ci := 12) dX12_readClause_10 ml_X12_174 md_X12_readSum mv_X12_readSum rfl (by decide) rfl rfl (Nat.le_of_ble_eq_true rfl) (Nat.le_of_ble_eq_true rfl) (k_X12_readSum G n 12 a0 0 h2) (fun _ h6 => ?_)
    refine zi_goto (tgt := 21) dX12_readClause_13 (by decide) ?_
    refine zi_sub [0] rfl ?_
    exact wb_X12_readClause_21 G n a0 h6
set_option maxRecDepth 20000 in
set_option maxHeartbeats 1000000 in
theorem wb_X12_takesOneOf_29 (G : zG) (n : Nat) (l0 : Nat) (s0 : Int32) (h : zH) : zW G yX12_takesOneOf cX12_takesOneOf 4 (some .boolean) zvI 2 29 [(0, .ref (zbase G + l0))] [.int s0] h (fb_X12_takesOneOf_29 n l0 s0 h) := by
  unfold fb_X12_takesOneOf_29
  refine zi_istore_n (l' := [(3, .int s0), (0, .ref (zbase G + l0))]) dX12_takesOneOf_29 rfl (by decide) rfl ?_
  refine zi_iload_n dX12_takesOneOf_30 rfl 0 rfl ?_
  refine zi_if_eq (tgt := 44) dX12_takesOneOf_31 (by decide) ?_ ?_
  · refine zi_iload_n dX12_takesOneOf_44 rfl 0 rfl ?_
    exact zi_retZ dX12_takesOneOf_45
  · refine zi_aload_n dX12_takesOneOf_34 rfl 1 rfl ?_
    refine zi_dup dX12_takesOneOf_35 rfl ?_
    refine zi_getI dX12_takesOneOf_36 gf_X12_162 (fun v1 => ?_)
    refine zi_iconst (v := 1) dX12_takesOneOf_39 (by decide) ?_
    refine zi_iadd dX12_takesOneOf_40 ?_
    refine zi_putI dX12_takesOneOf_41 gf_X12_162 (fun h2 => ?_)
    refine zi_iload_n dX12_takesOneOf_44 rfl 0 rfl ?_
    exact zi_retZ dX12_takesOneOf_45
set_option maxRecDepth 20000 in
set_option maxHeartbeats 1000000 in
theorem wb_X12_takesOneOf_28 (G : zG) (n : Nat) (l0 : Nat) (h : zH) : zW G yX12_takesOneOf cX12_takesOneOf 4 (some .boolean) zvI 2 28 [(0, .ref (zbase G + l0))] [] h (fb_X12_takesOneOf_28 n l0 h) := by
  unfold fb_X12_takesOneOf_28
  refine zi_iconst (v := 0) dX12_takesOneOf_28 (by decide) ?_
  refine zi_sub [0] rfl ?_
  exact wb_X12_takesOneOf_29 G n l0 0 h
set_option maxRecDepth 20000 in
set_option maxHeartbeats 1000000 in
theorem k_X12_takesOneOf (G : zG) (n : Nat) (a0 : Nat) (a1 : Int32) (a2 : Int32) (h : zH) : zMet G yX12_takesOneOf cX12_takesOneOf 4 (some .boolean) zvI 2 [.ref (zbase G + a0), .int a1, .int a2] h (f_X12_takesOneOf n a0 a1 a2 h) := by
  refine zMet_of (l := [(0, .ref (zbase G + a0)), (1, .int a1), (2, .int a2)]) (by decide) (Nat.le_of_ble_eq_true rfl) rfl ?_
  unfold f_X12_takesOneOf
  refine zi_aload_n dX12_takesOneOf_0 rfl 0 rfl ?_
  refine zi_callVI (As := []) (rest := []) (ci := 12) dX12_takesOneOf_1 ml_X12_159 md_X12_fine mv_X12_fine rfl (by decide) rfl rfl (Nat.le_of_ble_eq_true rfl) (Nat.le_of_ble_eq_true rfl) (k_X12_fine G n a0 h) (fun r1 h2 => ?_)
  refine zi_if_eq (tgt := 28) dX12_takesOneOf_4 (by decide) ?_ ?_
  · refine zi_sub [0] rfl ?_
    exact wb_X12_takesOneOf_28 G n a0 h2
  · refine zi_aload_n dX12_takesOneOf_7 rfl 0 rfl ?_
    refine zi_getR dX12_takesOneOf_8 gf_X12_54 (fun v3 => ?_)
    refine zi_aload_n dX12_takesOneOf_11 rfl 0 rfl ?_
    refine zi_getI dX12_takesOneOf_12 gf_X12_162 (fun v4 => ?_)
    refine zi_iald dX12_takesOneOf_15 (fun v5 => ?_)
    refine zi_iload_n dX12_takesOneOf_16 rfl 1 rfl ?_
    refine zi_iload_n dX12_takesOneOf_17 rfl 2 rfl ?_
    refine zi_callSI (As := [.int v5, .int a1, .int a2]) (rest := []) dX12_takesOneOf_18 ml_X12_18 md_X12_lies ms_X12_lies rfl rfl (Nat.le_of_ble_eq_true rfl) (Nat.le_of_ble_eq_true rfl) (k_X12_lies G n v5 a1 a2 h2) (fun r6 h7 => ?_)
    refine zi_if_eq (tgt := 28) dX12_takesOneOf_21 (by decide) ?_ ?_
    · refine zi_sub [0] rfl ?_
      exact wb_X12_takesOneOf_28 G n a0 h7
    · refine zi_iconst (v := 1) dX12_takesOneOf_24 (by decide) ?_
      refine zi_goto (tgt := 29) dX12_takesOneOf_25 (by decide) ?_
      refine zi_sub [0] rfl ?_
      exact wb_X12_takesOneOf_29 G n a0 1 h7
set_option maxRecDepth 20000 in
set_option maxHeartbeats 1000000 in
theorem wb_X12_readOrder_69 (G : zG) (n : Nat) (l0 : Nat) (h : zH) : zW G yX12_readOrder cX12_readOrder 1 none zvU 76 69 [(0, .ref (zbase G + l0))] [] h (fb_X12_readOrder_69 n l0 h) := by
  unfold fb_X12_readOrder_69
  refine zi_aload_n dX12_readOrder_69 rfl 0 rfl ?_
  refine zi_iconst (v := 3) dX12_readOrder_70 (by decide) ?_
  refine zi_callVI (As := [.int 3]) (rest := []) (ci := 12) dX12_readOrder_71 ml_X12_165 md_X12_takes0 mv_X12_takes0 rfl (by decide) rfl rfl (Nat.le_of_ble_eq_true rfl) (Nat.le_of_ble_eq_true rfl) (k_X12_takes0 G n l0 3 h) (fun r1 h2 => ?_)
  refine zi_if_eq (tgt := 82) dX12_readOrder_74 (by decide) ?_ ?_
  · exact zi_retV dX12_readOrder_82
  · refine zi_aload_n dX12_readOrder_77 rfl 0 rfl ?_
    refine zi_iconst (v := 0) dX12_readOrder_78 (by decide) ?_
    refine zi_callVU (As := [.int 0]) (rest := []) (ci := 12) dX12_readOrder_79 ml_X12_181 md_X12_readTest mv_X12_readTest rfl (by decide) rfl rfl (Nat.le_of_ble_eq_true rfl) (Nat.le_of_ble_eq_true rfl) (k_X12_readTest G n 12 l0 0 h2) (fun _ h4 => ?_)
    exact zi_retV dX12_readOrder_82
set_option maxRecDepth 20000 in
set_option maxHeartbeats 1000000 in
theorem wb_X12_readOrder_53 (G : zG) (n : Nat) (l0 : Nat) (h : zH) : zW G yX12_readOrder cX12_readOrder 1 none zvU 76 53 [(0, .ref (zbase G + l0))] [] h (fb_X12_readOrder_53 n l0 h) := by
  unfold fb_X12_readOrder_53
  refine zi_aload_n dX12_readOrder_53 rfl 0 rfl ?_
  refine zi_bipush (v := 29) dX12_readOrder_54 (by decide) ?_
  refine zi_callVI (As := [.int 29]) (rest := []) (ci := 12) dX12_readOrder_56 ml_X12_165 md_X12_takes0 mv_X12_takes0 rfl (by decide) rfl rfl (Nat.le_of_ble_eq_true rfl) (Nat.le_of_ble_eq_true rfl) (k_X12_takes0 G n l0 29 h) (fun r1 h2 => ?_)
  refine zi_if_eq (tgt := 69) dX12_readOrder_59 (by decide) ?_ ?_
  · refine zi_sub [0] rfl ?_
    exact wb_X12_readOrder_69 G n l0 h2
  · refine zi_aload_n dX12_readOrder_62 rfl 0 rfl ?_
    refine zi_iconst (v := 1) dX12_readOrder_63 (by decide) ?_
    refine zi_bipush (v := 20) dX12_readOrder_64 (by decide) ?_
    refine zi_callVU (As := [.int 1, .int 20]) (rest := []) (ci := 12) dX12_readOrder_66 ml_X12_187 md_X12_mustNumber mv_X12_mustNumber rfl (by decide) rfl rfl (Nat.le_of_ble_eq_true rfl) (Nat.le_of_ble_eq_true rfl) (k_X12_mustNumber G n l0 1 20 h2) (fun _ h4 => ?_)
    refine zi_sub [0] rfl ?_
    exact wb_X12_readOrder_69 G n l0 h4
set_option maxRecDepth 20000 in
set_option maxHeartbeats 1000000 in
theorem k_X12_readOrder (G : zG) (n : Nat) (a0 : Nat) (h : zH) : zMet G yX12_readOrder cX12_readOrder 1 none zvU 76 [.ref (zbase G + a0)] h (f_X12_readOrder n a0 h) := by
  refine zMet_of (l := [(0, .ref (zbase G + a0))]) (by decide) (Nat.le_of_ble_eq_true rfl) rfl ?_
  unfold f_X12_readOrder
  refine zi_aload_n dX12_readOrder_0 rfl 0 rfl ?_
  refine zi_bipush (v := 20) dX12_readOrder_1 (by decide) ?_
  refine zi_callVI (As := [.int 20]) (rest := []) (ci := 12) dX12_readOrder_3 ml_X12_165 md_X12_takes0 mv_X12_takes0 rfl (by decide) rfl rfl (Nat.le_of_ble_eq_true rfl) (Nat.le_of_ble_eq_true rfl) (k_X12_takes0 G n a0 20 h) (fun r1 h2 => ?_)
  refine zi_if_eq (tgt := 28) dX12_readOrder_6 (by decide) ?_ ?_
  · refine zi_aload_n dX12_readOrder_28 rfl 0 rfl ?_
    refine zi_bipush (v := 22) dX12_readOrder_29 (by decide) ?_
    refine zi_bipush (v := 27) dX12_readOrder_31 (by decide) ?_
    refine zi_callVI (As := [.int 22, .int 27]) (rest := []) (ci := 12) dX12_readOrder_33 ml_X12_184 md_X12_takesOneOf mv_X12_takesOneOf rfl (by decide) rfl rfl (Nat.le_of_ble_eq_true rfl) (Nat.le_of_ble_eq_true rfl) (k_X12_takesOneOf G n a0 22 27 h2) (fun r3 h4 => ?_)
    refine zi_if_eq (tgt := 47) dX12_readOrder_36 (by decide) ?_ ?_
    · refine zi_aload_n dX12_readOrder_47 rfl 0 rfl ?_
      refine zi_bipush (v := 28) dX12_readOrder_48 (by decide) ?_
      refine zi_callVU (As := [.int 28]) (rest := []) (ci := 12) dX12_readOrder_50 ml_X12_178 md_X12_must mv_X12_must rfl (by decide) rfl rfl (Nat.le_of_ble_eq_true rfl) (Nat.le_of_ble_eq_true rfl) (k_X12_must G n a0 28 h4) (fun _ h6 => ?_)
      refine zi_sub [0] rfl ?_
      exact wb_X12_readOrder_53 G n a0 h6
    · refine zi_aload_n dX12_readOrder_39 rfl 0 rfl ?_
      refine zi_iconst (v := 0) dX12_readOrder_40 (by decide) ?_
      refine zi_callVU (As := [.int 0]) (rest := []) (ci := 12) dX12_readOrder_41 ml_X12_174 md_X12_readSum mv_X12_readSum rfl (by decide) rfl rfl (Nat.le_of_ble_eq_true rfl) (Nat.le_of_ble_eq_true rfl) (k_X12_readSum G n 12 a0 0 h4) (fun _ h8 => ?_)
      refine zi_goto (tgt := 53) dX12_readOrder_44 (by decide) ?_
      refine zi_sub [0] rfl ?_
      exact wb_X12_readOrder_53 G n a0 h8
  · refine zi_aload_n dX12_readOrder_9 rfl 0 rfl ?_
    refine zi_iconst (v := 0) dX12_readOrder_10 (by decide) ?_
    refine zi_callVU (As := [.int 0]) (rest := []) (ci := 12) dX12_readOrder_11 ml_X12_174 md_X12_readSum mv_X12_readSum rfl (by decide) rfl rfl (Nat.le_of_ble_eq_true rfl) (Nat.le_of_ble_eq_true rfl) (k_X12_readSum G n 12 a0 0 h2) (fun _ h10 => ?_)
    refine zi_aload_n dX12_readOrder_14 rfl 0 rfl ?_
    refine zi_bipush (v := 21) dX12_readOrder_15 (by decide) ?_
    refine zi_callVU (As := [.int 21]) (rest := []) (ci := 12) dX12_readOrder_17 ml_X12_178 md_X12_must mv_X12_must rfl (by decide) rfl rfl (Nat.le_of_ble_eq_true rfl) (Nat.le_of_ble_eq_true rfl) (k_X12_must G n a0 21 h10) (fun _ h12 => ?_)
    refine zi_aload_n dX12_readOrder_20 rfl 0 rfl ?_
    refine zi_iconst (v := 0) dX12_readOrder_21 (by decide) ?_
    refine zi_callVU (As := [.int 0]) (rest := []) (ci := 12) dX12_readOrder_22 ml_X12_174 md_X12_readSum mv_X12_readSum rfl (by decide) rfl rfl (Nat.le_of_ble_eq_true rfl) (Nat.le_of_ble_eq_true rfl) (k_X12_readSum G n 12 a0 0 h12) (fun _ h14 => ?_)
    refine zi_goto (tgt := 53) dX12_readOrder_25 (by decide) ?_
    refine zi_sub [0] rfl ?_
    exact wb_X12_readOrder_53 G n a0 h14
set_option maxRecDepth 20000 in
set_option maxHeartbeats 1000000 in
theorem k_X12_readOne (G : zG) (n : Nat) (a0 : Nat) (h : zH) : zMet G yX12_readOne cX12_readOne 1 none zvU 77 [.ref (zbase G + a0)] h (f_X12_readOne n a0 h) := by
  refine zMet_of (l := [(0, .ref (zbase G + a0))]) (by decide) (Nat.le_of_ble_eq_true rfl) rfl ?_
  unfold f_X12_readOne
  refine zi_aload_n dX12_readOne_0 rfl 0 rfl ?_
  refine zi_getZ dX12_readOne_1 gf_X12_191 (fun v1 => ?_)
  refine zi_if_eq (tgt := 14) dX12_readOne_4 (by decide) ?_ ?_
  · refine zi_aload_n dX12_readOne_14 rfl 0 rfl ?_
    refine zi_callVU (As := []) (rest := []) (ci := 12) dX12_readOne_15 ml_X12_198 md_X12_readClause mv_X12_readClause rfl (by decide) rfl rfl (Nat.le_of_ble_eq_true rfl) (Nat.le_of_ble_eq_true rfl) (k_X12_readClause G n a0 h) (fun _ h3 => ?_)
    exact zi_retV dX12_readOne_18
  · refine zi_aload_n dX12_readOne_7 rfl 0 rfl ?_
    refine zi_callVU (As := []) (rest := []) (ci := 12) dX12_readOne_8 ml_X12_195 md_X12_readOrder mv_X12_readOrder rfl (by decide) rfl rfl (Nat.le_of_ble_eq_true rfl) (Nat.le_of_ble_eq_true rfl) (k_X12_readOrder G n a0 h) (fun _ h5 => ?_)
    refine zi_goto (tgt := 18) dX12_readOne_11 (by decide) ?_
    exact zi_retV dX12_readOne_18
set_option maxRecDepth 20000 in
set_option maxHeartbeats 1000000 in
theorem wb_X12_reads_95 (G : zG) (n : Nat) (l0 : Nat) (h : zH) : zW G yX12_reads cX12_reads 2 (some .boolean) zvI 78 95 [(0, .ref (zbase G + l0))] [] h (fb_X12_reads_95 n l0 h) := by
  unfold fb_X12_reads_95
  refine zi_aload_n dX12_reads_95 rfl 0 rfl ?_
  refine zi_aload_n dX12_reads_96 rfl 0 rfl ?_
  refine zi_getI dX12_reads_97 gf_X12_156 (fun v1 => ?_)
  refine zi_putI dX12_reads_100 gf_X12_51 (fun h2 => ?_)
  refine zi_aload_n dX12_reads_103 rfl 0 rfl ?_
  refine zi_callVI (As := []) (rest := []) (ci := 12) dX12_reads_104 ml_X12_159 md_X12_fine mv_X12_fine rfl (by decide) rfl rfl (Nat.le_of_ble_eq_true rfl) (Nat.le_of_ble_eq_true rfl) (k_X12_fine G n l0 h2) (fun r3 h4 => ?_)
  exact zi_retZ dX12_reads_107
set_option maxRecDepth 20000 in
set_option maxHeartbeats 1000000 in
theorem wb_X12_reads_73 (G : zG) (n : Nat) (l0 : Nat) (h : zH) : zW G yX12_reads cX12_reads 2 (some .boolean) zvI 78 73 [(0, .ref (zbase G + l0))] [] h (fb_X12_reads_73 n l0 h) := by
  unfold fb_X12_reads_73
  refine zi_aload_n dX12_reads_73 rfl 0 rfl ?_
  refine zi_callVI (As := []) (rest := []) (ci := 12) dX12_reads_74 ml_X12_159 md_X12_fine mv_X12_fine rfl (by decide) rfl rfl (Nat.le_of_ble_eq_true rfl) (Nat.le_of_ble_eq_true rfl) (k_X12_fine G n l0 h) (fun r1 h2 => ?_)
  refine zi_if_eq (tgt := 95) dX12_reads_77 (by decide) ?_ ?_
  · refine zi_sub [0] rfl ?_
    exact wb_X12_reads_95 G n l0 h2
  · refine zi_aload_n dX12_reads_80 rfl 0 rfl ?_
    refine zi_getI dX12_reads_81 gf_X12_162 (fun v3 => ?_)
    refine zi_aload_n dX12_reads_84 rfl 0 rfl ?_
    refine zi_getI dX12_reads_85 gf_X12_143 (fun v4 => ?_)
    refine zi_icmp_ge (tgt := 95) dX12_reads_88 (by decide) ?_ ?_
    · refine zi_sub [0] rfl ?_
      exact wb_X12_reads_95 G n l0 h2
    · refine zi_aload_n dX12_reads_91 rfl 0 rfl ?_
      refine zi_callVU (As := []) (rest := []) (ci := 12) dX12_reads_92 ml_X12_168 md_X12_faults mv_X12_faults rfl (by decide) rfl rfl (Nat.le_of_ble_eq_true rfl) (Nat.le_of_ble_eq_true rfl) (k_X12_faults G n l0 h2) (fun _ h6 => ?_)
      refine zi_sub [0] rfl ?_
      exact wb_X12_reads_95 G n l0 h6
set_option maxRecDepth 20000 in
set_option maxHeartbeats 1000000 in
theorem wb_X12_reads_67 (G : zG) (n : Nat) (k34 : Nat → Int32 → zH → Option (Int32 × zH)) (hk34 : ∀ (l0 : Nat) (l1 : Int32) (h : zH), zW G yX12_reads cX12_reads 2 (some .boolean) zvI 78 34 [(0, .ref (zbase G + l0)), (1, .int l1)] [] h (k34 l0 l1 h)) (l0 : Nat) (l1 : Int32) (h : zH) : zW G yX12_reads cX12_reads 2 (some .boolean) zvI 78 67 [(0, .ref (zbase G + l0)), (1, .int l1)] [] h (fb_X12_reads_67 n k34 l0 l1 h) := by
  unfold fb_X12_reads_67
  refine zi_iinc (j := 1) (v := l1 + 1) (l' := [(1, .int (l1 + 1)), (0, .ref (zbase G + l0))]) dX12_reads_67 rfl rfl (by decide) rfl ?_
  refine zi_goto (tgt := 34) dX12_reads_70 (by decide) ?_
  refine zi_sub [1, 0] rfl ?_
  exact hk34 l0 (l1 + 1) h
set_option maxRecDepth 20000 in
set_option maxHeartbeats 1000000 in
theorem wb_X12_reads_56 (G : zG) (n : Nat) (k34 : Nat → Int32 → zH → Option (Int32 × zH)) (hk34 : ∀ (l0 : Nat) (l1 : Int32) (h : zH), zW G yX12_reads cX12_reads 2 (some .boolean) zvI 78 34 [(0, .ref (zbase G + l0)), (1, .int l1)] [] h (k34 l0 l1 h)) (l0 : Nat) (l1 : Int32) (h : zH) : zW G yX12_reads cX12_reads 2 (some .boolean) zvI 78 56 [(0, .ref (zbase G + l0)), (1, .int l1)] [] h (fb_X12_reads_56 n k34 l0 l1 h) := by
  unfold fb_X12_reads_56
  refine zi_aload_n dX12_reads_56 rfl 0 rfl ?_
  refine zi_callVI (As := []) (rest := []) (ci := 12) dX12_reads_57 ml_X12_159 md_X12_fine mv_X12_fine rfl (by decide) rfl rfl (Nat.le_of_ble_eq_true rfl) (Nat.le_of_ble_eq_true rfl) (k_X12_fine G n l0 h) (fun r1 h2 => ?_)
  refine zi_if_eq (tgt := 67) dX12_reads_60 (by decide) ?_ ?_
  · refine zi_sub [0, 1] rfl ?_
    exact wb_X12_reads_67 G n k34 hk34 l0 l1 h2
  · refine zi_aload_n dX12_reads_63 rfl 0 rfl ?_
    refine zi_callVU (As := []) (rest := []) (ci := 12) dX12_reads_64 ml_X12_229 md_X12_readOne mv_X12_readOne rfl (by decide) rfl rfl (Nat.le_of_ble_eq_true rfl) (Nat.le_of_ble_eq_true rfl) (k_X12_readOne G n l0 h2) (fun _ h4 => ?_)
    refine zi_sub [0, 1] rfl ?_
    exact wb_X12_reads_67 G n k34 hk34 l0 l1 h4
set_option maxRecDepth 20000 in
set_option maxHeartbeats 1000000 in
theorem wb_X12_reads_34 (G : zG) (n : Nat) (k34 : Nat → Int32 → zH → Option (Int32 × zH)) (hk34 : ∀ (l0 : Nat) (l1 : Int32) (h : zH), zW G yX12_reads cX12_reads 2 (some .boolean) zvI 78 34 [(0, .ref (zbase G + l0)), (1, .int l1)] [] h (k34 l0 l1 h)) (l0 : Nat) (l1 : Int32) (h : zH) : zW G yX12_reads cX12_reads 2 (some .boolean) zvI 78 34 [(0, .ref (zbase G + l0)), (1, .int l1)] [] h (fb_X12_reads_34 n k34 l0 l1 h) := by
  unfold fb_X12_reads_34
  refine zi_aload_n dX12_reads_34 rfl 0 rfl ?_
  refine zi_bipush (v := 59) dX12_reads_35 (by decide) ?_
  refine zi_callSI (As := [.int 59]) (rest := [.ref (zbase G + l0)]) dX12_reads_37 ml_X12_207 md_X12_sign ms_X12_sign rfl rfl (Nat.le_of_ble_eq_true rfl) (Nat.le_of_ble_eq_true rfl) (k_X12_sign G n 59 h) (fun r1 h2 => ?_)
  refine zi_callVI (As := [.int r1]) (rest := []) (ci := 12) dX12_reads_40 ml_X12_165 md_X12_takes0 mv_X12_takes0 rfl (by decide) rfl rfl (Nat.le_of_ble_eq_true rfl) (Nat.le_of_ble_eq_true rfl) (k_X12_takes0 G n l0 r1 h2) (fun r3 h4 => ?_)
  refine zi_if_eq (tgt := 73) dX12_reads_43 (by decide) ?_ ?_
  · refine zi_sub [0] rfl ?_
    exact wb_X12_reads_73 G n l0 h4
  · refine zi_iload_n dX12_reads_46 rfl 1 rfl ?_
    refine zi_bipush (v := 12) dX12_reads_47 (by decide) ?_
    refine zi_icmp_ne (tgt := 56) dX12_reads_49 (by decide) ?_ ?_
    · refine zi_sub [0, 1] rfl ?_
      exact wb_X12_reads_56 G n k34 hk34 l0 l1 h4
    · refine zi_aload_n dX12_reads_52 rfl 0 rfl ?_
      refine zi_callVU (As := []) (rest := []) (ci := 12) dX12_reads_53 ml_X12_168 md_X12_faults mv_X12_faults rfl (by decide) rfl rfl (Nat.le_of_ble_eq_true rfl) (Nat.le_of_ble_eq_true rfl) (k_X12_faults G n l0 h4) (fun _ h6 => ?_)
      refine zi_sub [0, 1] rfl ?_
      exact wb_X12_reads_56 G n k34 hk34 l0 l1 h6
theorem wl_X12_reads_34 (G : zG) (n : Nat) : ∀ (t : Nat) (l0 : Nat) (l1 : Int32) (h : zH), zW G yX12_reads cX12_reads 2 (some .boolean) zvI 78 34 [(0, .ref (zbase G + l0)), (1, .int l1)] [] h (zlp2 (fb_X12_reads_34 n ) t l0 l1 h) := by
  intro t
  induction t with
  | zero => intros; exact zW_none
  | succ t ih => intro l0 l1 h; rw [zlp2_s]; exact wb_X12_reads_34 G n  _  ih l0 l1 h
set_option maxRecDepth 20000 in
set_option maxHeartbeats 1000000 in
theorem k_X12_reads (G : zG) (n : Nat) (a0 : Nat) (h : zH) : zMet G yX12_reads cX12_reads 2 (some .boolean) zvI 78 [.ref (zbase G + a0)] h (f_X12_reads n a0 h) := by
  refine zMet_of (l := [(0, .ref (zbase G + a0))]) (by decide) (Nat.le_of_ble_eq_true rfl) rfl ?_
  unfold f_X12_reads
  refine zi_aload_n dX12_reads_0 rfl 0 rfl ?_
  refine zi_aload_n dX12_reads_1 rfl 0 rfl ?_
  refine zi_getI dX12_reads_2 gf_X12_133 (fun v1 => ?_)
  refine zi_callVU (As := [.int v1]) (rest := []) (ci := 12) dX12_reads_5 ml_X12_226 md_X12_splits mv_X12_splits rfl (by decide) rfl rfl (Nat.le_of_ble_eq_true rfl) (Nat.le_of_ble_eq_true rfl) (k_X12_splits G n a0 v1 h) (fun _ h3 => ?_)
  refine zi_aload_n dX12_reads_8 rfl 0 rfl ?_
  refine zi_iconst (v := 0) dX12_reads_9 (by decide) ?_
  refine zi_putI dX12_reads_10 gf_X12_133 (fun h4 => ?_)
  refine zi_aload_n dX12_reads_13 rfl 0 rfl ?_
  refine zi_iconst (v := 0) dX12_reads_14 (by decide) ?_
  refine zi_putI dX12_reads_15 gf_X12_162 (fun h5 => ?_)
  refine zi_aload_n dX12_reads_18 rfl 0 rfl ?_
  refine zi_iconst (v := 0) dX12_reads_19 (by decide) ?_
  refine zi_putI dX12_reads_20 gf_X12_171 (fun h6 => ?_)
  refine zi_aload_n dX12_reads_23 rfl 0 rfl ?_
  refine zi_iconst (v := (-1)) dX12_reads_24 (by decide) ?_
  refine zi_putI dX12_reads_25 gf_X12_156 (fun h7 => ?_)
  refine zi_aload_n dX12_reads_28 rfl 0 rfl ?_
  refine zi_callVU (As := []) (rest := []) (ci := 12) dX12_reads_29 ml_X12_229 md_X12_readOne mv_X12_readOne rfl (by decide) rfl rfl (Nat.le_of_ble_eq_true rfl) (Nat.le_of_ble_eq_true rfl) (k_X12_readOne G n a0 h7) (fun _ h9 => ?_)
  refine zi_iconst (v := 1) dX12_reads_32 (by decide) ?_
  refine zi_istore_n (l' := [(1, .int 1), (0, .ref (zbase G + a0))]) dX12_reads_33 rfl (by decide) rfl ?_
  refine zi_sub [1, 0] rfl ?_
  exact wl_X12_reads_34 G n n a0 1 h9
set_option maxRecDepth 20000 in
set_option maxHeartbeats 1000000 in
theorem wb_X12_readsAs_32 (G : zG) (n : Nat) (l0 : Nat) (s0 : Nat) (s1 : Int32) (h : zH) : zW G yX12_readsAs cX12_readsAs 2 (some .boolean) zvI 79 32 [(0, .ref (zbase G + l0))] [.int s1, .ref (zbase G + s0)] h (fb_X12_readsAs_32 n l0 s0 s1 h) := by
  unfold fb_X12_readsAs_32
  refine zi_putI dX12_readsAs_32 gf_X12_220 (fun h1 => ?_)
  refine zi_aload_n dX12_readsAs_35 rfl 0 rfl ?_
  refine zi_callVI (As := []) (rest := []) (ci := 12) dX12_readsAs_36 ml_X12_232 md_X12_reads mv_X12_reads rfl (by decide) rfl rfl (Nat.le_of_ble_eq_true rfl) (Nat.le_of_ble_eq_true rfl) (k_X12_reads G n l0 h1) (fun r2 h3 => ?_)
  exact zi_retZ dX12_readsAs_39
set_option maxRecDepth 20000 in
set_option maxHeartbeats 1000000 in
theorem wb_X12_readsAs_17 (G : zG) (n : Nat) (l0 : Nat) (l1 : Int32) (s0 : Nat) (s1 : Int32) (h : zH) : zW G yX12_readsAs cX12_readsAs 2 (some .boolean) zvI 79 17 [(0, .ref (zbase G + l0)), (1, .int l1)] [.int s1, .ref (zbase G + s0)] h (fb_X12_readsAs_17 n l0 l1 s0 s1 h) := by
  unfold fb_X12_readsAs_17
  refine zi_putI dX12_readsAs_17 gf_X12_217 (fun h1 => ?_)
  refine zi_aload_n dX12_readsAs_20 rfl 0 rfl ?_
  refine zi_iload_n dX12_readsAs_21 rfl 1 rfl ?_
  refine zi_if_eq (tgt := 30) dX12_readsAs_22 (by decide) ?_ ?_
  · refine zi_bipush (v := 13) dX12_readsAs_30 (by decide) ?_
    refine zi_sub [0] rfl ?_
    exact wb_X12_readsAs_32 G n l0 l0 13 h1
  · refine zi_bipush (v := 19) dX12_readsAs_25 (by decide) ?_
    refine zi_goto (tgt := 32) dX12_readsAs_27 (by decide) ?_
    refine zi_sub [0] rfl ?_
    exact wb_X12_readsAs_32 G n l0 l0 19 h1
set_option maxRecDepth 20000 in
set_option maxHeartbeats 1000000 in
theorem k_X12_readsAs (G : zG) (n : Nat) (a0 : Nat) (a1 : Int32) (h : zH) : zMet G yX12_readsAs cX12_readsAs 2 (some .boolean) zvI 79 [.ref (zbase G + a0), .int a1] h (f_X12_readsAs n a0 a1 h) := by
  refine zMet_of (l := [(0, .ref (zbase G + a0)), (1, .int a1)]) (by decide) (Nat.le_of_ble_eq_true rfl) rfl ?_
  unfold f_X12_readsAs
  refine zi_aload_n dX12_readsAs_0 rfl 0 rfl ?_
  refine zi_iload_n dX12_readsAs_1 rfl 1 rfl ?_
  refine zi_putZ dX12_readsAs_2 gf_X12_191 (fun h1 => ?_)
  refine zi_aload_n dX12_readsAs_5 rfl 0 rfl ?_
  refine zi_iload_n dX12_readsAs_6 rfl 1 rfl ?_
  refine zi_if_eq (tgt := 15) dX12_readsAs_7 (by decide) ?_ ?_
  · refine zi_bipush (v := 7) dX12_readsAs_15 (by decide) ?_
    refine zi_sub [0, 1] rfl ?_
    exact wb_X12_readsAs_17 G n a0 a1 a0 7 h1
  · refine zi_bipush (v := 13) dX12_readsAs_10 (by decide) ?_
    refine zi_goto (tgt := 17) dX12_readsAs_12 (by decide) ?_
    refine zi_sub [0, 1] rfl ?_
    exact wb_X12_readsAs_17 G n a0 a1 a0 13 h1
set_option maxRecDepth 20000 in
set_option maxHeartbeats 1000000 in
theorem wb_X12_lays_16 (G : zG) (n : Nat) (k16 : Nat → Int32 → Int32 → zH → Option (Unit × zH)) (hk16 : ∀ (l0 : Nat) (l1 : Int32) (l2 : Int32) (h : zH), zW G yX12_lays cX12_lays 3 none zvU 1 16 [(0, .ref (zbase G + l0)), (1, .int l1), (2, .int l2)] [] h (k16 l0 l1 l2 h)) (l0 : Nat) (l1 : Int32) (l2 : Int32) (h : zH) : zW G yX12_lays cX12_lays 3 none zvU 1 16 [(0, .ref (zbase G + l0)), (1, .int l1), (2, .int l2)] [] h (fb_X12_lays_16 n k16 l0 l1 l2 h) := by
  unfold fb_X12_lays_16
  refine zi_iload_n dX12_lays_16 rfl 2 rfl ?_
  refine zi_aload_n dX12_lays_17 rfl 0 rfl ?_
  refine zi_getI dX12_lays_18 gf_X12_143 (fun v1 => ?_)
  refine zi_icmp_ge (tgt := 74) dX12_lays_21 (by decide) ?_ ?_
  · exact zi_retV dX12_lays_74
  · refine zi_aload_n dX12_lays_24 rfl 0 rfl ?_
    refine zi_getR dX12_lays_25 gf_X12_28 (fun v2 => ?_)
    refine zi_sipush (v := 215) dX12_lays_28 (by decide) ?_
    refine zi_sipush (v := 400) dX12_lays_31 (by decide) ?_
    refine zi_iload_n dX12_lays_34 rfl 1 rfl ?_
    refine zi_imul dX12_lays_35 ?_
    refine zi_iadd dX12_lays_36 ?_
    refine zi_iload_n dX12_lays_37 rfl 2 rfl ?_
    refine zi_iadd dX12_lays_38 ?_
    refine zi_aload_n dX12_lays_39 rfl 0 rfl ?_
    refine zi_getR dX12_lays_40 gf_X12_54 (fun v3 => ?_)
    refine zi_iload_n dX12_lays_43 rfl 2 rfl ?_
    refine zi_iald dX12_lays_44 (fun v4 => ?_)
    refine zi_iast dX12_lays_45 (fun h5 => ?_)
    refine zi_aload_n dX12_lays_46 rfl 0 rfl ?_
    refine zi_getR dX12_lays_47 gf_X12_28 (fun v6 => ?_)
    refine zi_sipush (v := 3015) dX12_lays_50 (by decide) ?_
    refine zi_sipush (v := 400) dX12_lays_53 (by decide) ?_
    refine zi_iload_n dX12_lays_56 rfl 1 rfl ?_
    refine zi_imul dX12_lays_57 ?_
    refine zi_iadd dX12_lays_58 ?_
    refine zi_iload_n dX12_lays_59 rfl 2 rfl ?_
    refine zi_iadd dX12_lays_60 ?_
    refine zi_aload_n dX12_lays_61 rfl 0 rfl ?_
    refine zi_getR dX12_lays_62 gf_X12_57 (fun v7 => ?_)
    refine zi_iload_n dX12_lays_65 rfl 2 rfl ?_
    refine zi_iald dX12_lays_66 (fun v8 => ?_)
    refine zi_iast dX12_lays_67 (fun h9 => ?_)
    refine zi_iinc (j := 2) (v := l2 + 1) (l' := [(2, .int (l2 + 1)), (0, .ref (zbase G + l0)), (1, .int l1)]) dX12_lays_68 rfl rfl (by decide) rfl ?_
    refine zi_goto (tgt := 16) dX12_lays_71 (by decide) ?_
    refine zi_sub [1, 2, 0] rfl ?_
    exact hk16 l0 l1 (l2 + 1) h9
theorem wl_X12_lays_16 (G : zG) (n : Nat) : ∀ (t : Nat) (l0 : Nat) (l1 : Int32) (l2 : Int32) (h : zH), zW G yX12_lays cX12_lays 3 none zvU 1 16 [(0, .ref (zbase G + l0)), (1, .int l1), (2, .int l2)] [] h (zlp3 (fb_X12_lays_16 n ) t l0 l1 l2 h) := by
  intro t
  induction t with
  | zero => intros; exact zW_none
  | succ t ih => intro l0 l1 l2 h; rw [zlp3_s]; exact wb_X12_lays_16 G n  _  ih l0 l1 l2 h
set_option maxRecDepth 20000 in
set_option maxHeartbeats 1000000 in
theorem k_X12_lays (G : zG) (n : Nat) (a0 : Nat) (a1 : Int32) (h : zH) : zMet G yX12_lays cX12_lays 3 none zvU 1 [.ref (zbase G + a0), .int a1] h (f_X12_lays n a0 a1 h) := by
  refine zMet_of (l := [(0, .ref (zbase G + a0)), (1, .int a1)]) (by decide) (Nat.le_of_ble_eq_true rfl) rfl ?_
  unfold f_X12_lays
  refine zi_aload_n dX12_lays_0 rfl 0 rfl ?_
  refine zi_getR dX12_lays_1 gf_X12_28 (fun v1 => ?_)
  refine zi_sipush (v := 208) dX12_lays_4 (by decide) ?_
  refine zi_iload_n dX12_lays_7 rfl 1 rfl ?_
  refine zi_iadd dX12_lays_8 ?_
  refine zi_aload_n dX12_lays_9 rfl 0 rfl ?_
  refine zi_getI dX12_lays_10 gf_X12_143 (fun v2 => ?_)
  refine zi_iast dX12_lays_13 (fun h3 => ?_)
  refine zi_iconst (v := 0) dX12_lays_14 (by decide) ?_
  refine zi_istore_n (l' := [(2, .int 0), (0, .ref (zbase G + a0)), (1, .int a1)]) dX12_lays_15 rfl (by decide) rfl ?_
  refine zi_sub [1, 2, 0] rfl ?_
  exact wl_X12_lays_16 G n n a0 a1 0 h3
set_option maxRecDepth 20000 in
set_option maxHeartbeats 1000000 in
theorem k_X12_law (G : zG) (n : Nat) (a0 : Nat) (h : zH) : zMet G yX12_law cX12_law 1 (some .int) zvI 80 [.ref (zbase G + a0)] h (f_X12_law n a0 h) := by
  refine zMet_of (l := [(0, .ref (zbase G + a0))]) (by decide) (Nat.le_of_ble_eq_true rfl) rfl ?_
  unfold f_X12_law
  refine zi_aload_n dX12_law_0 rfl 0 rfl ?_
  refine zi_getR dX12_law_1 gf_X12_28 (fun v1 => ?_)
  refine zi_sipush (v := 206) dX12_law_4 (by decide) ?_
  refine zi_iald dX12_law_7 (fun v2 => ?_)
  refine zi_bipush (v := 6) dX12_law_8 (by decide) ?_
  refine zi_icmp_ne (tgt := 25) dX12_law_10 (by decide) ?_ ?_
  · refine zi_aload_n dX12_law_25 rfl 0 rfl ?_
    refine zi_iconst (v := 0) dX12_law_26 (by decide) ?_
    refine zi_callVI (As := [.int 0]) (rest := []) (ci := 12) dX12_law_27 ml_X12_235 md_X12_readsAs mv_X12_readsAs rfl (by decide) rfl rfl (Nat.le_of_ble_eq_true rfl) (Nat.le_of_ble_eq_true rfl) (k_X12_readsAs G n a0 0 h) (fun r3 h4 => ?_)
    refine zi_if_ne (tgt := 40) dX12_law_30 (by decide) ?_ ?_
    · refine zi_aload_n dX12_law_40 rfl 0 rfl ?_
      refine zi_aload_n dX12_law_41 rfl 0 rfl ?_
      refine zi_getR dX12_law_42 gf_X12_28 (fun v5 => ?_)
      refine zi_sipush (v := 206) dX12_law_45 (by decide) ?_
      refine zi_iald dX12_law_48 (fun v6 => ?_)
      refine zi_callVU (As := [.int v6]) (rest := []) (ci := 12) dX12_law_49 ml_X12_239 md_X12_lays mv_X12_lays rfl (by decide) rfl rfl (Nat.le_of_ble_eq_true rfl) (Nat.le_of_ble_eq_true rfl) (k_X12_lays G n a0 v6 h4) (fun _ h8 => ?_)
      refine zi_aload_n dX12_law_52 rfl 0 rfl ?_
      refine zi_getR dX12_law_53 gf_X12_28 (fun v9 => ?_)
      refine zi_sipush (v := 206) dX12_law_56 (by decide) ?_
      refine zi_dup2 dX12_law_59 rfl rfl ?_
      refine zi_iald dX12_law_60 (fun v10 => ?_)
      refine zi_iconst (v := 1) dX12_law_61 (by decide) ?_
      refine zi_iadd dX12_law_62 ?_
      refine zi_iast dX12_law_63 (fun h11 => ?_)
      refine zi_aload_n dX12_law_64 rfl 0 rfl ?_
      refine zi_aload_n dX12_law_65 rfl 0 rfl ?_
      refine zi_getR dX12_law_66 gf_X12_28 (fun v12 => ?_)
      refine zi_sipush (v := 206) dX12_law_69 (by decide) ?_
      refine zi_iald dX12_law_72 (fun v13 => ?_)
      refine zi_iconst (v := 1) dX12_law_73 (by decide) ?_
      refine zi_isub dX12_law_74 ?_
      refine zi_callVI (As := [.int (v13 - 1)]) (rest := []) (ci := 12) dX12_law_75 ml_X12_14 md_X12_good mv_X12_good rfl (by decide) rfl rfl (Nat.le_of_ble_eq_true rfl) (Nat.le_of_ble_eq_true rfl) (k_X12_good G n a0 (v13 - 1) h11) (fun r14 h15 => ?_)
      exact zi_retI dX12_law_78
    · refine zi_aload_n dX12_law_33 rfl 0 rfl ?_
      refine zi_bipush (v := (-6)) dX12_law_34 (by decide) ?_
      refine zi_callVI (As := [.int (-6)]) (rest := []) (ci := 12) dX12_law_36 ml_X12_85 md_X12_refuses mv_X12_refuses rfl (by decide) rfl rfl (Nat.le_of_ble_eq_true rfl) (Nat.le_of_ble_eq_true rfl) (k_X12_refuses G n a0 (-6) h4) (fun r16 h17 => ?_)
      exact zi_retI dX12_law_39
  · refine zi_aload_n dX12_law_13 rfl 0 rfl ?_
    refine zi_iconst (v := 0) dX12_law_14 (by decide) ?_
    refine zi_putI dX12_law_15 gf_X12_133 (fun h18 => ?_)
    refine zi_aload_n dX12_law_18 rfl 0 rfl ?_
    refine zi_bipush (v := (-5)) dX12_law_19 (by decide) ?_
    refine zi_callVI (As := [.int (-5)]) (rest := []) (ci := 12) dX12_law_21 ml_X12_85 md_X12_refuses mv_X12_refuses rfl (by decide) rfl rfl (Nat.le_of_ble_eq_true rfl) (Nat.le_of_ble_eq_true rfl) (k_X12_refuses G n a0 (-5) h18) (fun r19 h20 => ?_)
    exact zi_retI dX12_law_24
set_option maxRecDepth 20000 in
set_option maxHeartbeats 1000000 in
theorem k_X12_fault (G : zG) (n : Nat) (a0 : Nat) (h : zH) : zMet G yX12_fault cX12_fault 1 (some .int) zvI 1 [.ref (zbase G + a0)] h (f_X12_fault n a0 h) := by
  refine zMet_of (l := [(0, .ref (zbase G + a0))]) (by decide) (Nat.le_of_ble_eq_true rfl) rfl ?_
  unfold f_X12_fault
  refine zi_aload_n dX12_fault_0 rfl 0 rfl ?_
  refine zi_getI dX12_fault_1 gf_X12_51 (fun v1 => ?_)
  exact zi_retI dX12_fault_4
set_option maxRecDepth 20000 in
set_option maxHeartbeats 1000000 in
theorem k_X12_isLaw (G : zG) (n : Nat) (a0 : Nat) (a1 : Int32) (h : zH) : zMet G yX12_isLaw cX12_isLaw 2 (some .boolean) zvI 2 [.ref (zbase G + a0), .int a1] h (f_X12_isLaw n a0 a1 h) := by
  refine zMet_of (l := [(0, .ref (zbase G + a0)), (1, .int a1)]) (by decide) (Nat.le_of_ble_eq_true rfl) rfl ?_
  unfold f_X12_isLaw
  refine zi_iload_n dX12_isLaw_0 rfl 1 rfl ?_
  refine zi_iconst (v := (-1)) dX12_isLaw_1 (by decide) ?_
  refine zi_aload_n dX12_isLaw_2 rfl 0 rfl ?_
  refine zi_getR dX12_isLaw_3 gf_X12_28 (fun v1 => ?_)
  refine zi_sipush (v := 206) dX12_isLaw_6 (by decide) ?_
  refine zi_iald dX12_isLaw_9 (fun v2 => ?_)
  refine zi_iconst (v := 1) dX12_isLaw_10 (by decide) ?_
  refine zi_isub dX12_isLaw_11 ?_
  refine zi_callSI (As := [.int a1, .int (-1), .int (v2 - 1)]) (rest := []) dX12_isLaw_12 ml_X12_18 md_X12_lies ms_X12_lies rfl rfl (Nat.le_of_ble_eq_true rfl) (Nat.le_of_ble_eq_true rfl) (k_X12_lies G n a1 (-1) (v2 - 1) h) (fun r3 h4 => ?_)
  exact zi_retZ dX12_isLaw_15
set_option maxRecDepth 20000 in
set_option maxHeartbeats 1000000 in
theorem k_X12_force (G : zG) (n : Nat) (a0 : Nat) (a1 : Int32) (h : zH) : zMet G yX12_force cX12_force 3 (some .int) zvI 3 [.ref (zbase G + a0), .int a1] h (f_X12_force n a0 a1 h) := by
  refine zMet_of (l := [(0, .ref (zbase G + a0)), (1, .int a1)]) (by decide) (Nat.le_of_ble_eq_true rfl) rfl ?_
  unfold f_X12_force
  refine zi_aload_n dX12_force_0 rfl 0 rfl ?_
  refine zi_iload_n dX12_force_1 rfl 1 rfl ?_
  refine zi_callVI (As := [.int a1]) (rest := []) (ci := 12) dX12_force_2 ml_X12_242 md_X12_isLaw mv_X12_isLaw rfl (by decide) rfl rfl (Nat.le_of_ble_eq_true rfl) (Nat.le_of_ble_eq_true rfl) (k_X12_isLaw G n a0 a1 h) (fun r1 h2 => ?_)
  refine zi_if_ne (tgt := 15) dX12_force_5 (by decide) ?_ ?_
  · refine zi_aload_n dX12_force_15 rfl 0 rfl ?_
    refine zi_getR dX12_force_16 gf_X12_28 (fun v3 => ?_)
    refine zi_sipush (v := 207) dX12_force_19 (by decide) ?_
    refine zi_iald dX12_force_22 (fun v4 => ?_)
    refine zi_istore_n (l' := [(2, .int v4), (0, .ref (zbase G + a0)), (1, .int a1)]) dX12_force_23 rfl (by decide) rfl ?_
    refine zi_aload_n dX12_force_24 rfl 1 rfl ?_
    refine zi_getR dX12_force_25 gf_X12_28 (fun v5 => ?_)
    refine zi_sipush (v := 207) dX12_force_28 (by decide) ?_
    refine zi_iload_n dX12_force_31 rfl 2 rfl ?_
    refine zi_iast dX12_force_32 (fun h6 => ?_)
    refine zi_aload_n dX12_force_33 rfl 1 rfl ?_
    refine zi_iload_n dX12_force_34 rfl 0 rfl ?_
    refine zi_callVI (As := [.int v4]) (rest := []) (ci := 12) dX12_force_35 ml_X12_14 md_X12_good mv_X12_good rfl (by decide) rfl rfl (Nat.le_of_ble_eq_true rfl) (Nat.le_of_ble_eq_true rfl) (k_X12_good G n a0 v4 h6) (fun r7 h8 => ?_)
    exact zi_retI dX12_force_38
  · refine zi_aload_n dX12_force_8 rfl 0 rfl ?_
    refine zi_bipush (v := (-2)) dX12_force_9 (by decide) ?_
    refine zi_callVI (As := [.int (-2)]) (rest := []) (ci := 12) dX12_force_11 ml_X12_85 md_X12_refuses mv_X12_refuses rfl (by decide) rfl rfl (Nat.le_of_ble_eq_true rfl) (Nat.le_of_ble_eq_true rfl) (k_X12_refuses G n a0 (-2) h2) (fun r9 h10 => ?_)
    exact zi_retI dX12_force_14
set_option maxRecDepth 20000 in
set_option maxHeartbeats 1000000 in
theorem k_X12_costsAt (G : zG) (n : Nat) (a0 : Nat) (a1 : Int32) (a2 : Int32) (h : zH) : zMet G yX12_costsAt cX12_costsAt 3 (some .int) zvI 89 [.ref (zbase G + a0), .int a1, .int a2] h (f_X12_costsAt n a0 a1 a2 h) := by
  refine zMet_of (l := [(0, .ref (zbase G + a0)), (1, .int a1), (2, .int a2)]) (by decide) (Nat.le_of_ble_eq_true rfl) rfl ?_
  unfold f_X12_costsAt
  refine zi_aload_n dX12_costsAt_0 rfl 0 rfl ?_
  refine zi_iload_n dX12_costsAt_1 rfl 1 rfl ?_
  refine zi_iload_n dX12_costsAt_2 rfl 1 rfl ?_
  refine zi_callSI (As := [.int a1]) (rest := [.int a1, .ref (zbase G + a0)]) dX12_costsAt_3 ml_X12_304 md_X12_levelOf ms_X12_levelOf rfl rfl (Nat.le_of_ble_eq_true rfl) (Nat.le_of_ble_eq_true rfl) (k_X12_levelOf G n a1 h) (fun r1 h2 => ?_)
  refine zi_iload_n dX12_costsAt_6 rfl 2 rfl ?_
  refine zi_aload_n dX12_costsAt_7 rfl 0 rfl ?_
  refine zi_getR dX12_costsAt_8 gf_X12_28 (fun v3 => ?_)
  refine zi_sipush (v := 164) dX12_costsAt_11 (by decide) ?_
  refine zi_iald dX12_costsAt_14 (fun v4 => ?_)
  refine zi_iconst (v := (-1)) dX12_costsAt_15 (by decide) ?_
  refine zi_callVU (As := [.int a1, .int r1, .int a2, .int v4, .int (-1)]) (rest := []) (ci := 12) dX12_costsAt_16 ml_X12_307 md_X12_setsAsked mv_X12_setsAsked rfl (by decide) rfl rfl (Nat.le_of_ble_eq_true rfl) (Nat.le_of_ble_eq_true rfl) (k_X12_setsAsked G n a0 a1 r1 a2 v4 (-1) h2) (fun _ h6 => ?_)
  refine zi_aload_n dX12_costsAt_19 rfl 0 rfl ?_
  refine zi_iconst (v := 1) dX12_costsAt_20 (by decide) ?_
  refine zi_iconst (v := 1) dX12_costsAt_21 (by decide) ?_
  refine zi_callVI (As := [.int 1, .int 1]) (rest := []) (ci := 12) dX12_costsAt_22 ml_X12_311 md_X12_tells mv_X12_tells rfl (by decide) rfl rfl (Nat.le_of_ble_eq_true rfl) (Nat.le_of_ble_eq_true rfl) (k_X12_tells G n a0 1 1 h6) (fun r7 h8 => ?_)
  exact zi_retI dX12_costsAt_25
set_option maxRecDepth 20000 in
set_option maxHeartbeats 1000000 in
theorem k_X12_drops (G : zG) (n : Nat) (a0 : Nat) (a1 : Int32) (h : zH) : zMet G yX12_drops cX12_drops 4 (some .int) zvI 3 [.ref (zbase G + a0), .int a1] h (f_X12_drops n a0 a1 h) := by
  refine zMet_of (l := [(0, .ref (zbase G + a0)), (1, .int a1)]) (by decide) (Nat.le_of_ble_eq_true rfl) rfl ?_
  unfold f_X12_drops
  refine zi_iload_n dX12_drops_0 rfl 1 rfl ?_
  refine zi_callSI (As := [.int a1]) (rest := []) dX12_drops_1 ml_X12_121 md_X12_isKey ms_X12_isKey rfl rfl (Nat.le_of_ble_eq_true rfl) (Nat.le_of_ble_eq_true rfl) (k_X12_isKey G n a1 h) (fun r1 h2 => ?_)
  refine zi_if_ne (tgt := 9) dX12_drops_4 (by decide) ?_ ?_
  · refine zi_aload_n dX12_drops_9 rfl 0 rfl ?_
    refine zi_iload_n dX12_drops_10 rfl 1 rfl ?_
    refine zi_callVI (As := [.int a1]) (rest := []) (ci := 12) dX12_drops_11 ml_X12_321 md_X12_linkTo mv_X12_linkTo rfl (by decide) rfl rfl (Nat.le_of_ble_eq_true rfl) (Nat.le_of_ble_eq_true rfl) (k_X12_linkTo G n a0 a1 h2) (fun r3 h4 => ?_)
    refine zi_istore_n (l' := [(2, .int r3), (0, .ref (zbase G + a0)), (1, .int a1)]) dX12_drops_14 rfl (by decide) rfl ?_
    refine zi_aload_n dX12_drops_15 rfl 1 rfl ?_
    refine zi_getR dX12_drops_16 gf_X12_28 (fun v5 => ?_)
    refine zi_iload_n dX12_drops_19 rfl 0 rfl ?_
    refine zi_iald dX12_drops_20 (fun v6 => ?_)
    refine zi_istore_n (l' := [(3, .int v6), (2, .int r3), (0, .ref (zbase G + a0)), (1, .int a1)]) dX12_drops_21 rfl (by decide) rfl ?_
    refine zi_iload_n dX12_drops_22 rfl 0 rfl ?_
    refine zi_iconst (v := (-1)) dX12_drops_23 (by decide) ?_
    refine zi_icmp_eq (tgt := 40) dX12_drops_24 (by decide) ?_ ?_
    · refine zi_bipush (v := (-3)) dX12_drops_40 (by decide) ?_
      exact zi_retI dX12_drops_42
    · refine zi_aload_n dX12_drops_27 rfl 2 rfl ?_
      refine zi_getR dX12_drops_28 gf_X12_28 (fun v7 => ?_)
      refine zi_bipush (v := 24) dX12_drops_31 (by decide) ?_
      refine zi_iload_n dX12_drops_33 rfl 0 rfl ?_
      refine zi_iadd dX12_drops_34 ?_
      refine zi_iald dX12_drops_35 (fun v8 => ?_)
      refine zi_iload_n dX12_drops_36 rfl 3 rfl ?_
      refine zi_icmp_eq (tgt := 43) dX12_drops_37 (by decide) ?_ ?_
      · refine zi_aload_n dX12_drops_43 rfl 2 rfl ?_
        refine zi_getR dX12_drops_44 gf_X12_28 (fun v9 => ?_)
        refine zi_iload_n dX12_drops_47 rfl 1 rfl ?_
        refine zi_aload_n dX12_drops_48 rfl 2 rfl ?_
        refine zi_getR dX12_drops_49 gf_X12_28 (fun v10 => ?_)
        refine zi_bipush (v := 72) dX12_drops_52 (by decide) ?_
        refine zi_iload_n dX12_drops_54 rfl 0 rfl ?_
        refine zi_iadd dX12_drops_55 ?_
        refine zi_iald dX12_drops_56 (fun v11 => ?_)
        refine zi_iast dX12_drops_57 (fun h12 => ?_)
        refine zi_aload_n dX12_drops_58 rfl 2 rfl ?_
        refine zi_iload_n dX12_drops_59 rfl 0 rfl ?_
        refine zi_callVU (As := [.int v6]) (rest := []) (ci := 12) dX12_drops_60 ml_X12_324 md_X12_ages mv_X12_ages rfl (by decide) rfl rfl (Nat.le_of_ble_eq_true rfl) (Nat.le_of_ble_eq_true rfl) (k_X12_ages G n a0 v6 h12) (fun _ h14 => ?_)
        refine zi_iload_n dX12_drops_63 rfl 0 rfl ?_
        exact zi_retI dX12_drops_64
      · refine zi_bipush (v := (-3)) dX12_drops_40 (by decide) ?_
        exact zi_retI dX12_drops_42
  · refine zi_iconst (v := (-1)) dX12_drops_7 (by decide) ?_
    exact zi_retI dX12_drops_8
set_option maxRecDepth 20000 in
set_option maxHeartbeats 1000000 in
theorem k_X12_enters (G : zG) (n : Nat) (a0 : Nat) (a1 : Int32) (h : zH) : zMet G yX12_enters cX12_enters 2 (some .int) zvI 3 [.ref (zbase G + a0), .int a1] h (f_X12_enters n a0 a1 h) := by
  refine zMet_of (l := [(0, .ref (zbase G + a0)), (1, .int a1)]) (by decide) (Nat.le_of_ble_eq_true rfl) rfl ?_
  unfold f_X12_enters
  refine zi_iload_n dX12_enters_0 rfl 1 rfl ?_
  refine zi_callSI (As := [.int a1]) (rest := []) dX12_enters_1 ml_X12_106 md_X12_isProcessor ms_X12_isProcessor rfl rfl (Nat.le_of_ble_eq_true rfl) (Nat.le_of_ble_eq_true rfl) (k_X12_isProcessor G n a1 h) (fun r1 h2 => ?_)
  refine zi_if_ne (tgt := 9) dX12_enters_4 (by decide) ?_ ?_
  · refine zi_aload_n dX12_enters_9 rfl 0 rfl ?_
    refine zi_iload_n dX12_enters_10 rfl 1 rfl ?_
    refine zi_callVI (As := [.int a1]) (rest := []) (ci := 12) dX12_enters_11 ml_X12_102 md_X12_isOn mv_X12_isOn rfl (by decide) rfl rfl (Nat.le_of_ble_eq_true rfl) (Nat.le_of_ble_eq_true rfl) (k_X12_isOn G n a0 a1 h2) (fun r3 h4 => ?_)
    refine zi_if_eq (tgt := 20) dX12_enters_14 (by decide) ?_ ?_
    · refine zi_aload_n dX12_enters_20 rfl 0 rfl ?_
      refine zi_getR dX12_enters_21 gf_X12_28 (fun v5 => ?_)
      refine zi_bipush (v := 97) dX12_enters_24 (by decide) ?_
      refine zi_iload_n dX12_enters_26 rfl 1 rfl ?_
      refine zi_iadd dX12_enters_27 ?_
      refine zi_iconst (v := 1) dX12_enters_28 (by decide) ?_
      refine zi_iast dX12_enters_29 (fun h6 => ?_)
      refine zi_aload_n dX12_enters_30 rfl 0 rfl ?_
      refine zi_getR dX12_enters_31 gf_X12_28 (fun v7 => ?_)
      refine zi_bipush (v := 105) dX12_enters_34 (by decide) ?_
      refine zi_iload_n dX12_enters_36 rfl 1 rfl ?_
      refine zi_iadd dX12_enters_37 ?_
      refine zi_aload_n dX12_enters_38 rfl 0 rfl ?_
      refine zi_getR dX12_enters_39 gf_X12_28 (fun v8 => ?_)
      refine zi_bipush (v := 96) dX12_enters_42 (by decide) ?_
      refine zi_iald dX12_enters_44 (fun v9 => ?_)
      refine zi_iast dX12_enters_45 (fun h10 => ?_)
      refine zi_aload_n dX12_enters_46 rfl 0 rfl ?_
      refine zi_getR dX12_enters_47 gf_X12_28 (fun v11 => ?_)
      refine zi_bipush (v := 113) dX12_enters_50 (by decide) ?_
      refine zi_iload_n dX12_enters_52 rfl 1 rfl ?_
      refine zi_iadd dX12_enters_53 ?_
      refine zi_iconst (v := 0) dX12_enters_54 (by decide) ?_
      refine zi_iast dX12_enters_55 (fun h12 => ?_)
      refine zi_iconst (v := 1) dX12_enters_56 (by decide) ?_
      refine zi_aload_n dX12_enters_57 rfl 0 rfl ?_
      refine zi_getR dX12_enters_58 gf_X12_28 (fun v13 => ?_)
      refine zi_bipush (v := 96) dX12_enters_61 (by decide) ?_
      refine zi_iald dX12_enters_63 (fun v14 => ?_)
      refine zi_iadd dX12_enters_64 ?_
      exact zi_retI dX12_enters_65
    · refine zi_bipush (v := (-3)) dX12_enters_17 (by decide) ?_
      exact zi_retI dX12_enters_19
  · refine zi_iconst (v := (-1)) dX12_enters_7 (by decide) ?_
    exact zi_retI dX12_enters_8
set_option maxRecDepth 20000 in
set_option maxHeartbeats 1000000 in
theorem k_X12_steps (G : zG) (n : Nat) (a0 : Nat) (a1 : Int32) (h : zH) : zMet G yX12_steps cX12_steps 2 (some .int) zvI 3 [.ref (zbase G + a0), .int a1] h (f_X12_steps n a0 a1 h) := by
  refine zMet_of (l := [(0, .ref (zbase G + a0)), (1, .int a1)]) (by decide) (Nat.le_of_ble_eq_true rfl) rfl ?_
  unfold f_X12_steps
  refine zi_iload_n dX12_steps_0 rfl 1 rfl ?_
  refine zi_callSI (As := [.int a1]) (rest := []) dX12_steps_1 ml_X12_106 md_X12_isProcessor ms_X12_isProcessor rfl rfl (Nat.le_of_ble_eq_true rfl) (Nat.le_of_ble_eq_true rfl) (k_X12_isProcessor G n a1 h) (fun r1 h2 => ?_)
  refine zi_if_ne (tgt := 9) dX12_steps_4 (by decide) ?_ ?_
  · refine zi_aload_n dX12_steps_9 rfl 0 rfl ?_
    refine zi_iload_n dX12_steps_10 rfl 1 rfl ?_
    refine zi_callVI (As := [.int a1]) (rest := []) (ci := 12) dX12_steps_11 ml_X12_327 md_X12_isParked mv_X12_isParked rfl (by decide) rfl rfl (Nat.le_of_ble_eq_true rfl) (Nat.le_of_ble_eq_true rfl) (k_X12_isParked G n a0 a1 h2) (fun r3 h4 => ?_)
    refine zi_if_ne (tgt := 26) dX12_steps_14 (by decide) ?_ ?_
    · refine zi_bipush (v := (-3)) dX12_steps_26 (by decide) ?_
      exact zi_retI dX12_steps_28
    · refine zi_aload_n dX12_steps_17 rfl 0 rfl ?_
      refine zi_iload_n dX12_steps_18 rfl 1 rfl ?_
      refine zi_callVI (As := [.int a1]) (rest := []) (ci := 12) dX12_steps_19 ml_X12_109 md_X12_cellOf mv_X12_cellOf rfl (by decide) rfl rfl (Nat.le_of_ble_eq_true rfl) (Nat.le_of_ble_eq_true rfl) (k_X12_cellOf G n a0 a1 h4) (fun r5 h6 => ?_)
      refine zi_iconst (v := (-1)) dX12_steps_22 (by decide) ?_
      refine zi_icmp_ne (tgt := 29) dX12_steps_23 (by decide) ?_ ?_
      · refine zi_aload_n dX12_steps_29 rfl 0 rfl ?_
        refine zi_getR dX12_steps_30 gf_X12_28 (fun v7 => ?_)
        refine zi_bipush (v := 105) dX12_steps_33 (by decide) ?_
        refine zi_iload_n dX12_steps_35 rfl 1 rfl ?_
        refine zi_iadd dX12_steps_36 ?_
        refine zi_aload_n dX12_steps_37 rfl 0 rfl ?_
        refine zi_getR dX12_steps_38 gf_X12_28 (fun v8 => ?_)
        refine zi_bipush (v := 72) dX12_steps_41 (by decide) ?_
        refine zi_aload_n dX12_steps_43 rfl 0 rfl ?_
        refine zi_getR dX12_steps_44 gf_X12_28 (fun v9 => ?_)
        refine zi_bipush (v := 105) dX12_steps_47 (by decide) ?_
        refine zi_iload_n dX12_steps_49 rfl 1 rfl ?_
        refine zi_iadd dX12_steps_50 ?_
        refine zi_iald dX12_steps_51 (fun v10 => ?_)
        refine zi_iadd dX12_steps_52 ?_
        refine zi_iald dX12_steps_53 (fun v11 => ?_)
        refine zi_iast dX12_steps_54 (fun h12 => ?_)
        refine zi_iconst (v := 1) dX12_steps_55 (by decide) ?_
        refine zi_aload_n dX12_steps_56 rfl 0 rfl ?_
        refine zi_getR dX12_steps_57 gf_X12_28 (fun v13 => ?_)
        refine zi_bipush (v := 105) dX12_steps_60 (by decide) ?_
        refine zi_iload_n dX12_steps_62 rfl 1 rfl ?_
        refine zi_iadd dX12_steps_63 ?_
        refine zi_iald dX12_steps_64 (fun v14 => ?_)
        refine zi_iadd dX12_steps_65 ?_
        exact zi_retI dX12_steps_66
      · refine zi_bipush (v := (-3)) dX12_steps_26 (by decide) ?_
        exact zi_retI dX12_steps_28
  · refine zi_iconst (v := (-1)) dX12_steps_7 (by decide) ?_
    exact zi_retI dX12_steps_8
set_option maxRecDepth 20000 in
set_option maxHeartbeats 1000000 in
theorem wb_X12_parks_59 (G : zG) (n : Nat) (l0 : Nat) (l1 : Int32) (s0 : Nat) (s1 : Int32) (s2 : Int32) (h : zH) : zW G yX12_parks cX12_parks 3 (some .int) zvI 3 59 [(0, .ref (zbase G + l0)), (1, .int l1)] [.int s2, .int s1, .ref (zbase G + s0)] h (fb_X12_parks_59 n l0 l1 s0 s1 s2 h) := by
  unfold fb_X12_parks_59
  refine zi_iast dX12_parks_59 (fun h1 => ?_)
  refine zi_iload_n dX12_parks_60 rfl 1 rfl ?_
  refine zi_iload_n dX12_parks_61 rfl 1 rfl ?_
  refine zi_iconst (v := 2) dX12_parks_62 (by decide) ?_
  refine zi_irem dX12_parks_63 (by decide) ?_
  refine zi_isub dX12_parks_64 ?_
  refine zi_let (sf := fun x2 => .int x2 :: []) (fun x2 => ?_)
  refine zi_istore_n (l' := [(2, .int x2), (0, .ref (zbase G + l0)), (1, .int l1)]) dX12_parks_65 rfl (by decide) rfl ?_
  refine zi_aload_n dX12_parks_66 rfl 1 rfl ?_
  refine zi_getR dX12_parks_67 gf_X12_28 (fun v3 => ?_)
  refine zi_bipush (v := 113) dX12_parks_70 (by decide) ?_
  refine zi_iload_n dX12_parks_72 rfl 0 rfl ?_
  refine zi_iadd dX12_parks_73 ?_
  refine zi_iald dX12_parks_74 (fun v4 => ?_)
  refine zi_aload_n dX12_parks_75 rfl 1 rfl ?_
  refine zi_getR dX12_parks_76 gf_X12_28 (fun v5 => ?_)
  refine zi_bipush (v := 113) dX12_parks_79 (by decide) ?_
  refine zi_iload_n dX12_parks_81 rfl 0 rfl ?_
  refine zi_iadd dX12_parks_82 ?_
  refine zi_iconst (v := 1) dX12_parks_83 (by decide) ?_
  refine zi_iadd dX12_parks_84 ?_
  refine zi_iald dX12_parks_85 (fun v6 => ?_)
  refine zi_iadd dX12_parks_86 ?_
  exact zi_retI dX12_parks_87
set_option maxRecDepth 20000 in
set_option maxHeartbeats 1000000 in
theorem k_X12_parks (G : zG) (n : Nat) (a0 : Nat) (a1 : Int32) (h : zH) : zMet G yX12_parks cX12_parks 3 (some .int) zvI 3 [.ref (zbase G + a0), .int a1] h (f_X12_parks n a0 a1 h) := by
  refine zMet_of (l := [(0, .ref (zbase G + a0)), (1, .int a1)]) (by decide) (Nat.le_of_ble_eq_true rfl) rfl ?_
  unfold f_X12_parks
  refine zi_iload_n dX12_parks_0 rfl 1 rfl ?_
  refine zi_callSI (As := [.int a1]) (rest := []) dX12_parks_1 ml_X12_106 md_X12_isProcessor ms_X12_isProcessor rfl rfl (Nat.le_of_ble_eq_true rfl) (Nat.le_of_ble_eq_true rfl) (k_X12_isProcessor G n a1 h) (fun r1 h2 => ?_)
  refine zi_if_ne (tgt := 9) dX12_parks_4 (by decide) ?_ ?_
  · refine zi_aload_n dX12_parks_9 rfl 0 rfl ?_
    refine zi_iload_n dX12_parks_10 rfl 1 rfl ?_
    refine zi_callVI (As := [.int a1]) (rest := []) (ci := 12) dX12_parks_11 ml_X12_102 md_X12_isOn mv_X12_isOn rfl (by decide) rfl rfl (Nat.le_of_ble_eq_true rfl) (Nat.le_of_ble_eq_true rfl) (k_X12_isOn G n a0 a1 h2) (fun r3 h4 => ?_)
    refine zi_if_eq (tgt := 25) dX12_parks_14 (by decide) ?_ ?_
    · refine zi_bipush (v := (-3)) dX12_parks_25 (by decide) ?_
      exact zi_retI dX12_parks_27
    · refine zi_aload_n dX12_parks_17 rfl 0 rfl ?_
      refine zi_iload_n dX12_parks_18 rfl 1 rfl ?_
      refine zi_callVI (As := [.int a1]) (rest := []) (ci := 12) dX12_parks_19 ml_X12_327 md_X12_isParked mv_X12_isParked rfl (by decide) rfl rfl (Nat.le_of_ble_eq_true rfl) (Nat.le_of_ble_eq_true rfl) (k_X12_isParked G n a0 a1 h4) (fun r5 h6 => ?_)
      refine zi_if_eq (tgt := 28) dX12_parks_22 (by decide) ?_ ?_
      · refine zi_aload_n dX12_parks_28 rfl 0 rfl ?_
        refine zi_getR dX12_parks_29 gf_X12_28 (fun v7 => ?_)
        refine zi_bipush (v := 113) dX12_parks_32 (by decide) ?_
        refine zi_iload_n dX12_parks_34 rfl 1 rfl ?_
        refine zi_iadd dX12_parks_35 ?_
        refine zi_iconst (v := 1) dX12_parks_36 (by decide) ?_
        refine zi_iast dX12_parks_37 (fun h8 => ?_)
        refine zi_aload_n dX12_parks_38 rfl 0 rfl ?_
        refine zi_getR dX12_parks_39 gf_X12_28 (fun v9 => ?_)
        refine zi_bipush (v := 121) dX12_parks_42 (by decide) ?_
        refine zi_iload_n dX12_parks_44 rfl 1 rfl ?_
        refine zi_iadd dX12_parks_45 ?_
        refine zi_aload_n dX12_parks_46 rfl 0 rfl ?_
        refine zi_iload_n dX12_parks_47 rfl 1 rfl ?_
        refine zi_callVI (As := [.int a1]) (rest := [.int ((121 : Int32) + a1), .ref (zbase G + v9)]) (ci := 12) dX12_parks_48 ml_X12_112 md_X12_hasReported mv_X12_hasReported rfl (by decide) rfl rfl (Nat.le_of_ble_eq_true rfl) (Nat.le_of_ble_eq_true rfl) (k_X12_hasReported G n a0 a1 h8) (fun r10 h11 => ?_)
        refine zi_if_eq (tgt := 58) dX12_parks_51 (by decide) ?_ ?_
        · refine zi_iconst (v := 1) dX12_parks_58 (by decide) ?_
          refine zi_sub [0, 1] rfl ?_
          exact wb_X12_parks_59 G n a0 a1 v9 ((121 : Int32) + a1) 1 h11
        · refine zi_iconst (v := 0) dX12_parks_54 (by decide) ?_
          refine zi_goto (tgt := 59) dX12_parks_55 (by decide) ?_
          refine zi_sub [0, 1] rfl ?_
          exact wb_X12_parks_59 G n a0 a1 v9 ((121 : Int32) + a1) 0 h11
      · refine zi_bipush (v := (-3)) dX12_parks_25 (by decide) ?_
        exact zi_retI dX12_parks_27
  · refine zi_iconst (v := (-1)) dX12_parks_7 (by decide) ?_
    exact zi_retI dX12_parks_8
set_option maxRecDepth 20000 in
set_option maxHeartbeats 1000000 in
theorem k_X12_reports (G : zG) (n : Nat) (a0 : Nat) (a1 : Int32) (a2 : Int32) (h : zH) : zMet G yX12_reports cX12_reports 4 none zvU 90 [.ref (zbase G + a0), .int a1, .int a2] h (f_X12_reports n a0 a1 a2 h) := by
  refine zMet_of (l := [(0, .ref (zbase G + a0)), (1, .int a1), (2, .int a2)]) (by decide) (Nat.le_of_ble_eq_true rfl) rfl ?_
  unfold f_X12_reports
  refine zi_aload_n dX12_reports_0 rfl 0 rfl ?_
  refine zi_iload_n dX12_reports_1 rfl 1 rfl ?_
  refine zi_iload_n dX12_reports_2 rfl 2 rfl ?_
  refine zi_callVI (As := [.int a1, .int a2]) (rest := []) (ci := 12) dX12_reports_3 ml_X12_339 md_X12_costsAt mv_X12_costsAt rfl (by decide) rfl rfl (Nat.le_of_ble_eq_true rfl) (Nat.le_of_ble_eq_true rfl) (k_X12_costsAt G n a0 a1 a2 h) (fun r1 h2 => ?_)
  refine zi_istore_n (l' := [(3, .int r1), (0, .ref (zbase G + a0)), (1, .int a1), (2, .int a2)]) dX12_reports_6 rfl (by decide) rfl ?_
  refine zi_aload_n dX12_reports_7 rfl 1 rfl ?_
  refine zi_getR dX12_reports_8 gf_X12_28 (fun v3 => ?_)
  refine zi_sipush (v := 189) dX12_reports_11 (by decide) ?_
  refine zi_dup2 dX12_reports_14 rfl rfl ?_
  refine zi_iald dX12_reports_15 (fun v4 => ?_)
  refine zi_iload_n dX12_reports_16 rfl 0 rfl ?_
  refine zi_iadd dX12_reports_17 ?_
  refine zi_iast dX12_reports_18 (fun h5 => ?_)
  refine zi_aload_n dX12_reports_19 rfl 1 rfl ?_
  refine zi_getR dX12_reports_20 gf_X12_28 (fun v6 => ?_)
  refine zi_sipush (v := 131) dX12_reports_23 (by decide) ?_
  refine zi_iload_n dX12_reports_26 rfl 2 rfl ?_
  refine zi_iadd dX12_reports_27 ?_
  refine zi_dup2 dX12_reports_28 rfl rfl ?_
  refine zi_iald dX12_reports_29 (fun v7 => ?_)
  refine zi_iconst (v := 1) dX12_reports_30 (by decide) ?_
  refine zi_iload_n dX12_reports_31 rfl 3 rfl ?_
  refine zi_ishl dX12_reports_32 ?_
  refine zi_iconst (v := (-1)) dX12_reports_33 (by decide) ?_
  refine zi_ixor dX12_reports_34 ?_
  refine zi_iand dX12_reports_35 ?_
  refine zi_iast dX12_reports_36 (fun h8 => ?_)
  exact zi_retV dX12_reports_37
set_option maxRecDepth 20000 in
set_option maxHeartbeats 1000000 in
theorem wb_X12_begins_113 (G : zG) (n : Nat) (k113 : Nat → Int32 → zH → Option (Unit × zH)) (hk113 : ∀ (l0 : Nat) (l1 : Int32) (h : zH), zW G yX12_begins cX12_begins 2 none zvU 1 113 [(0, .ref (zbase G + l0)), (1, .int l1)] [] h (k113 l0 l1 h)) (l0 : Nat) (l1 : Int32) (h : zH) : zW G yX12_begins cX12_begins 2 none zvU 1 113 [(0, .ref (zbase G + l0)), (1, .int l1)] [] h (fb_X12_begins_113 n k113 l0 l1 h) := by
  unfold fb_X12_begins_113
  refine zi_iload_n dX12_begins_113 rfl 1 rfl ?_
  refine zi_bipush (v := 8) dX12_begins_114 (by decide) ?_
  refine zi_icmp_ge (tgt := 143) dX12_begins_116 (by decide) ?_ ?_
  · exact zi_retV dX12_begins_143
  · refine zi_aload_n dX12_begins_119 rfl 0 rfl ?_
    refine zi_getR dX12_begins_120 gf_X12_28 (fun v1 => ?_)
    refine zi_bipush (v := 121) dX12_begins_123 (by decide) ?_
    refine zi_iload_n dX12_begins_125 rfl 1 rfl ?_
    refine zi_iadd dX12_begins_126 ?_
    refine zi_aload_n dX12_begins_127 rfl 0 rfl ?_
    refine zi_getR dX12_begins_128 gf_X12_28 (fun v2 => ?_)
    refine zi_bipush (v := 113) dX12_begins_131 (by decide) ?_
    refine zi_iload_n dX12_begins_133 rfl 1 rfl ?_
    refine zi_iadd dX12_begins_134 ?_
    refine zi_iald dX12_begins_135 (fun v3 => ?_)
    refine zi_iast dX12_begins_136 (fun h4 => ?_)
    refine zi_iinc (j := 1) (v := l1 + 1) (l' := [(1, .int (l1 + 1)), (0, .ref (zbase G + l0))]) dX12_begins_137 rfl rfl (by decide) rfl ?_
    refine zi_goto (tgt := 113) dX12_begins_140 (by decide) ?_
    refine zi_sub [1, 0] rfl ?_
    exact hk113 l0 (l1 + 1) h4
theorem wl_X12_begins_113 (G : zG) (n : Nat) : ∀ (t : Nat) (l0 : Nat) (l1 : Int32) (h : zH), zW G yX12_begins cX12_begins 2 none zvU 1 113 [(0, .ref (zbase G + l0)), (1, .int l1)] [] h (zlp2 (fb_X12_begins_113 n ) t l0 l1 h) := by
  intro t
  induction t with
  | zero => intros; exact zW_none
  | succ t ih => intro l0 l1 h; rw [zlp2_s]; exact wb_X12_begins_113 G n  _  ih l0 l1 h
set_option maxRecDepth 20000 in
set_option maxHeartbeats 1000000 in
theorem wb_X12_begins_111 (G : zG) (n : Nat) (l0 : Nat) (h : zH) : zW G yX12_begins cX12_begins 2 none zvU 1 111 [(0, .ref (zbase G + l0))] [] h (fb_X12_begins_111 n l0 h) := by
  unfold fb_X12_begins_111
  refine zi_iconst (v := 0) dX12_begins_111 (by decide) ?_
  refine zi_istore_n (l' := [(1, .int 0), (0, .ref (zbase G + l0))]) dX12_begins_112 rfl (by decide) rfl ?_
  refine zi_sub [1, 0] rfl ?_
  exact wl_X12_begins_113 G n n l0 0 h
set_option maxRecDepth 20000 in
set_option maxHeartbeats 1000000 in
theorem wb_X12_begins_88 (G : zG) (n : Nat) (k88 : Nat → Int32 → zH → Option (Unit × zH)) (hk88 : ∀ (l0 : Nat) (l1 : Int32) (h : zH), zW G yX12_begins cX12_begins 2 none zvU 1 88 [(0, .ref (zbase G + l0)), (1, .int l1)] [] h (k88 l0 l1 h)) (l0 : Nat) (l1 : Int32) (h : zH) : zW G yX12_begins cX12_begins 2 none zvU 1 88 [(0, .ref (zbase G + l0)), (1, .int l1)] [] h (fb_X12_begins_88 n k88 l0 l1 h) := by
  unfold fb_X12_begins_88
  refine zi_iload_n dX12_begins_88 rfl 1 rfl ?_
  refine zi_bipush (v := 7) dX12_begins_89 (by decide) ?_
  refine zi_icmp_gt (tgt := 111) dX12_begins_91 (by decide) ?_ ?_
  · refine zi_sub [0] rfl ?_
    exact wb_X12_begins_111 G n l0 h
  · refine zi_aload_n dX12_begins_94 rfl 0 rfl ?_
    refine zi_getR dX12_begins_95 gf_X12_28 (fun v1 => ?_)
    refine zi_sipush (v := 131) dX12_begins_98 (by decide) ?_
    refine zi_iload_n dX12_begins_101 rfl 1 rfl ?_
    refine zi_iadd dX12_begins_102 ?_
    refine zi_iconst (v := 3) dX12_begins_103 (by decide) ?_
    refine zi_iast dX12_begins_104 (fun h2 => ?_)
    refine zi_iinc (j := 1) (v := l1 + 1) (l' := [(1, .int (l1 + 1)), (0, .ref (zbase G + l0))]) dX12_begins_105 rfl rfl (by decide) rfl ?_
    refine zi_goto (tgt := 88) dX12_begins_108 (by decide) ?_
    refine zi_sub [1, 0] rfl ?_
    exact hk88 l0 (l1 + 1) h2
theorem wl_X12_begins_88 (G : zG) (n : Nat) : ∀ (t : Nat) (l0 : Nat) (l1 : Int32) (h : zH), zW G yX12_begins cX12_begins 2 none zvU 1 88 [(0, .ref (zbase G + l0)), (1, .int l1)] [] h (zlp2 (fb_X12_begins_88 n ) t l0 l1 h) := by
  intro t
  induction t with
  | zero => intros; exact zW_none
  | succ t ih => intro l0 l1 h; rw [zlp2_s]; exact wb_X12_begins_88 G n  _  ih l0 l1 h
set_option maxRecDepth 20000 in
set_option maxHeartbeats 1000000 in
theorem wb_X12_begins_77 (G : zG) (n : Nat) (l0 : Nat) (h : zH) : zW G yX12_begins cX12_begins 2 none zvU 1 77 [(0, .ref (zbase G + l0))] [] h (fb_X12_begins_77 n l0 h) := by
  unfold fb_X12_begins_77
  refine zi_aload_n dX12_begins_77 rfl 0 rfl ?_
  refine zi_getR dX12_begins_78 gf_X12_28 (fun v1 => ?_)
  refine zi_sipush (v := 139) dX12_begins_81 (by decide) ?_
  refine zi_iconst (v := 0) dX12_begins_84 (by decide) ?_
  refine zi_iast dX12_begins_85 (fun h2 => ?_)
  refine zi_iconst (v := 1) dX12_begins_86 (by decide) ?_
  refine zi_istore_n (l' := [(1, .int 1), (0, .ref (zbase G + l0))]) dX12_begins_87 rfl (by decide) rfl ?_
  refine zi_sub [1, 0] rfl ?_
  exact wl_X12_begins_88 G n n l0 1 h2
set_option maxRecDepth 20000 in
set_option maxHeartbeats 1000000 in
theorem wb_X12_begins_39 (G : zG) (n : Nat) (k39 : Nat → Int32 → zH → Option (Unit × zH)) (hk39 : ∀ (l0 : Nat) (l1 : Int32) (h : zH), zW G yX12_begins cX12_begins 2 none zvU 1 39 [(0, .ref (zbase G + l0)), (1, .int l1)] [] h (k39 l0 l1 h)) (l0 : Nat) (l1 : Int32) (h : zH) : zW G yX12_begins cX12_begins 2 none zvU 1 39 [(0, .ref (zbase G + l0)), (1, .int l1)] [] h (fb_X12_begins_39 n k39 l0 l1 h) := by
  unfold fb_X12_begins_39
  refine zi_iload_n dX12_begins_39 rfl 1 rfl ?_
  refine zi_aload_n dX12_begins_40 rfl 0 rfl ?_
  refine zi_getR dX12_begins_41 gf_X12_28 (fun v1 => ?_)
  refine zi_sipush (v := 139) dX12_begins_44 (by decide) ?_
  refine zi_iald dX12_begins_47 (fun v2 => ?_)
  refine zi_icmp_ge (tgt := 77) dX12_begins_48 (by decide) ?_ ?_
  · refine zi_sub [0] rfl ?_
    exact wb_X12_begins_77 G n l0 h
  · refine zi_aload_n dX12_begins_51 rfl 0 rfl ?_
    refine zi_getR dX12_begins_52 gf_X12_28 (fun v3 => ?_)
    refine zi_sipush (v := 165) dX12_begins_55 (by decide) ?_
    refine zi_iload_n dX12_begins_58 rfl 1 rfl ?_
    refine zi_iadd dX12_begins_59 ?_
    refine zi_aload_n dX12_begins_60 rfl 0 rfl ?_
    refine zi_getR dX12_begins_61 gf_X12_28 (fun v4 => ?_)
    refine zi_sipush (v := 140) dX12_begins_64 (by decide) ?_
    refine zi_iload_n dX12_begins_67 rfl 1 rfl ?_
    refine zi_iadd dX12_begins_68 ?_
    refine zi_iald dX12_begins_69 (fun v5 => ?_)
    refine zi_iast dX12_begins_70 (fun h6 => ?_)
    refine zi_iinc (j := 1) (v := l1 + 1) (l' := [(1, .int (l1 + 1)), (0, .ref (zbase G + l0))]) dX12_begins_71 rfl rfl (by decide) rfl ?_
    refine zi_goto (tgt := 39) dX12_begins_74 (by decide) ?_
    refine zi_sub [1, 0] rfl ?_
    exact hk39 l0 (l1 + 1) h6
theorem wl_X12_begins_39 (G : zG) (n : Nat) : ∀ (t : Nat) (l0 : Nat) (l1 : Int32) (h : zH), zW G yX12_begins cX12_begins 2 none zvU 1 39 [(0, .ref (zbase G + l0)), (1, .int l1)] [] h (zlp2 (fb_X12_begins_39 n ) t l0 l1 h) := by
  intro t
  induction t with
  | zero => intros; exact zW_none
  | succ t ih => intro l0 l1 h; rw [zlp2_s]; exact wb_X12_begins_39 G n  _  ih l0 l1 h
set_option maxRecDepth 20000 in
set_option maxHeartbeats 1000000 in
theorem k_X12_begins (G : zG) (n : Nat) (a0 : Nat) (h : zH) : zMet G yX12_begins cX12_begins 2 none zvU 1 [.ref (zbase G + a0)] h (f_X12_begins n a0 h) := by
  refine zMet_of (l := [(0, .ref (zbase G + a0))]) (by decide) (Nat.le_of_ble_eq_true rfl) rfl ?_
  unfold f_X12_begins
  refine zi_aload_n dX12_begins_0 rfl 0 rfl ?_
  refine zi_getR dX12_begins_1 gf_X12_28 (fun v1 => ?_)
  refine zi_sipush (v := 129) dX12_begins_4 (by decide) ?_
  refine zi_iconst (v := 1) dX12_begins_7 (by decide) ?_
  refine zi_iast dX12_begins_8 (fun h2 => ?_)
  refine zi_aload_n dX12_begins_9 rfl 0 rfl ?_
  refine zi_getR dX12_begins_10 gf_X12_28 (fun v3 => ?_)
  refine zi_sipush (v := 130) dX12_begins_13 (by decide) ?_
  refine zi_dup2 dX12_begins_16 rfl rfl ?_
  refine zi_iald dX12_begins_17 (fun v4 => ?_)
  refine zi_iconst (v := 1) dX12_begins_18 (by decide) ?_
  refine zi_iadd dX12_begins_19 ?_
  refine zi_iast dX12_begins_20 (fun h5 => ?_)
  refine zi_aload_n dX12_begins_21 rfl 0 rfl ?_
  refine zi_getR dX12_begins_22 gf_X12_28 (fun v6 => ?_)
  refine zi_sipush (v := 164) dX12_begins_25 (by decide) ?_
  refine zi_aload_n dX12_begins_28 rfl 0 rfl ?_
  refine zi_getR dX12_begins_29 gf_X12_28 (fun v7 => ?_)
  refine zi_sipush (v := 139) dX12_begins_32 (by decide) ?_
  refine zi_iald dX12_begins_35 (fun v8 => ?_)
  refine zi_iast dX12_begins_36 (fun h9 => ?_)
  refine zi_iconst (v := 0) dX12_begins_37 (by decide) ?_
  refine zi_istore_n (l' := [(1, .int 0), (0, .ref (zbase G + a0))]) dX12_begins_38 rfl (by decide) rfl ?_
  refine zi_sub [1, 0] rfl ?_
  exact wl_X12_begins_39 G n n a0 0 h9
set_option maxRecDepth 20000 in
set_option maxHeartbeats 1000000 in
theorem wb_X12_endsNow_40 (G : zG) (n : Nat) (l0 : Nat) (l1 : Int32) (h : zH) : zW G yX12_endsNow cX12_endsNow 3 (some .int) zvI 2 40 [(0, .ref (zbase G + l0)), (1, .int l1)] [] h (fb_X12_endsNow_40 n l0 l1 h) := by
  unfold fb_X12_endsNow_40
  refine zi_aload_n dX12_endsNow_40 rfl 0 rfl ?_
  refine zi_getR dX12_endsNow_41 gf_X12_28 (fun v1 => ?_)
  refine zi_sipush (v := 164) dX12_endsNow_44 (by decide) ?_
  refine zi_iconst (v := 0) dX12_endsNow_47 (by decide) ?_
  refine zi_iast dX12_endsNow_48 (fun h2 => ?_)
  refine zi_aload_n dX12_endsNow_49 rfl 0 rfl ?_
  refine zi_getR dX12_endsNow_50 gf_X12_28 (fun v3 => ?_)
  refine zi_sipush (v := 129) dX12_endsNow_53 (by decide) ?_
  refine zi_iconst (v := 0) dX12_endsNow_56 (by decide) ?_
  refine zi_iast dX12_endsNow_57 (fun h4 => ?_)
  refine zi_aload_n dX12_endsNow_58 rfl 0 rfl ?_
  refine zi_getR dX12_endsNow_59 gf_X12_28 (fun v5 => ?_)
  refine zi_sipush (v := 190) dX12_endsNow_62 (by decide) ?_
  refine zi_sipush (v := 999) dX12_endsNow_65 (by decide) ?_
  refine zi_aload_n dX12_endsNow_68 rfl 0 rfl ?_
  refine zi_getR dX12_endsNow_69 gf_X12_28 (fun v6 => ?_)
  refine zi_sipush (v := 190) dX12_endsNow_72 (by decide) ?_
  refine zi_iald dX12_endsNow_75 (fun v7 => ?_)
  refine zi_iconst (v := 1) dX12_endsNow_76 (by decide) ?_
  refine zi_iadd dX12_endsNow_77 ?_
  refine zi_callSI (As := [.int 999, .int (v7 + 1)]) (rest := [.int 190, .ref (zbase G + v5)]) dX12_endsNow_78 ml_X12_348 md_X12_lesser ms_X12_lesser rfl rfl (Nat.le_of_ble_eq_true rfl) (Nat.le_of_ble_eq_true rfl) (k_X12_lesser G n 999 (v7 + 1) h4) (fun r8 h9 => ?_)
  refine zi_iast dX12_endsNow_81 (fun h10 => ?_)
  refine zi_aload_n dX12_endsNow_82 rfl 0 rfl ?_
  refine zi_getR dX12_endsNow_83 gf_X12_28 (fun v11 => ?_)
  refine zi_sipush (v := 139) dX12_endsNow_86 (by decide) ?_
  refine zi_iald dX12_endsNow_89 (fun v12 => ?_)
  refine zi_if_le (tgt := 97) dX12_endsNow_90 (by decide) ?_ ?_
  · refine zi_iload_n dX12_endsNow_97 rfl 1 rfl ?_
    exact zi_retI dX12_endsNow_98
  · refine zi_aload_n dX12_endsNow_93 rfl 0 rfl ?_
    refine zi_callVU (As := []) (rest := []) (ci := 12) dX12_endsNow_94 ml_X12_336 md_X12_begins mv_X12_begins rfl (by decide) rfl rfl (Nat.le_of_ble_eq_true rfl) (Nat.le_of_ble_eq_true rfl) (k_X12_begins G n l0 h10) (fun _ h14 => ?_)
    refine zi_iload_n dX12_endsNow_97 rfl 1 rfl ?_
    exact zi_retI dX12_endsNow_98
set_option maxRecDepth 20000 in
set_option maxHeartbeats 1000000 in
theorem wb_X12_endsNow_11 (G : zG) (n : Nat) (k11 : Nat → Int32 → Int32 → zH → Option (Int32 × zH)) (hk11 : ∀ (l0 : Nat) (l1 : Int32) (l2 : Int32) (h : zH), zW G yX12_endsNow cX12_endsNow 3 (some .int) zvI 2 11 [(0, .ref (zbase G + l0)), (1, .int l1), (2, .int l2)] [] h (k11 l0 l1 l2 h)) (l0 : Nat) (l1 : Int32) (l2 : Int32) (h : zH) : zW G yX12_endsNow cX12_endsNow 3 (some .int) zvI 2 11 [(0, .ref (zbase G + l0)), (1, .int l1), (2, .int l2)] [] h (fb_X12_endsNow_11 n k11 l0 l1 l2 h) := by
  unfold fb_X12_endsNow_11
  refine zi_iload_n dX12_endsNow_11 rfl 2 rfl ?_
  refine zi_iload_n dX12_endsNow_12 rfl 1 rfl ?_
  refine zi_icmp_ge (tgt := 40) dX12_endsNow_13 (by decide) ?_ ?_
  · refine zi_sub [0, 1] rfl ?_
    exact wb_X12_endsNow_40 G n l0 l1 h
  · refine zi_aload_n dX12_endsNow_16 rfl 0 rfl ?_
    refine zi_getR dX12_endsNow_17 gf_X12_28 (fun v1 => ?_)
    refine zi_iconst (v := 0) dX12_endsNow_20 (by decide) ?_
    refine zi_aload_n dX12_endsNow_21 rfl 0 rfl ?_
    refine zi_getR dX12_endsNow_22 gf_X12_28 (fun v2 => ?_)
    refine zi_sipush (v := 165) dX12_endsNow_25 (by decide) ?_
    refine zi_iload_n dX12_endsNow_28 rfl 2 rfl ?_
    refine zi_iadd dX12_endsNow_29 ?_
    refine zi_iald dX12_endsNow_30 (fun v3 => ?_)
    refine zi_iadd dX12_endsNow_31 ?_
    refine zi_iconst (v := 0) dX12_endsNow_32 (by decide) ?_
    refine zi_iast dX12_endsNow_33 (fun h4 => ?_)
    refine zi_iinc (j := 2) (v := l2 + 1) (l' := [(2, .int (l2 + 1)), (0, .ref (zbase G + l0)), (1, .int l1)]) dX12_endsNow_34 rfl rfl (by decide) rfl ?_
    refine zi_goto (tgt := 11) dX12_endsNow_37 (by decide) ?_
    refine zi_sub [1, 2, 0] rfl ?_
    exact hk11 l0 l1 (l2 + 1) h4
theorem wl_X12_endsNow_11 (G : zG) (n : Nat) : ∀ (t : Nat) (l0 : Nat) (l1 : Int32) (l2 : Int32) (h : zH), zW G yX12_endsNow cX12_endsNow 3 (some .int) zvI 2 11 [(0, .ref (zbase G + l0)), (1, .int l1), (2, .int l2)] [] h (zlp3 (fb_X12_endsNow_11 n ) t l0 l1 l2 h) := by
  intro t
  induction t with
  | zero => intros; exact zW_none
  | succ t ih => intro l0 l1 l2 h; rw [zlp3_s]; exact wb_X12_endsNow_11 G n  _  ih l0 l1 l2 h
set_option maxRecDepth 20000 in
set_option maxHeartbeats 1000000 in
theorem k_X12_endsNow (G : zG) (n : Nat) (a0 : Nat) (h : zH) : zMet G yX12_endsNow cX12_endsNow 3 (some .int) zvI 2 [.ref (zbase G + a0)] h (f_X12_endsNow n a0 h) := by
  refine zMet_of (l := [(0, .ref (zbase G + a0))]) (by decide) (Nat.le_of_ble_eq_true rfl) rfl ?_
  unfold f_X12_endsNow
  refine zi_aload_n dX12_endsNow_0 rfl 0 rfl ?_
  refine zi_getR dX12_endsNow_1 gf_X12_28 (fun v1 => ?_)
  refine zi_sipush (v := 164) dX12_endsNow_4 (by decide) ?_
  refine zi_iald dX12_endsNow_7 (fun v2 => ?_)
  refine zi_istore_n (l' := [(1, .int v2), (0, .ref (zbase G + a0))]) dX12_endsNow_8 rfl (by decide) rfl ?_
  refine zi_iconst (v := 0) dX12_endsNow_9 (by decide) ?_
  refine zi_istore_n (l' := [(2, .int 0), (1, .int v2), (0, .ref (zbase G + a0))]) dX12_endsNow_10 rfl (by decide) rfl ?_
  refine zi_sub [2, 1, 0] rfl ?_
  exact wl_X12_endsNow_11 G n n a0 v2 0 h
set_option maxRecDepth 20000 in
set_option maxHeartbeats 1000000 in
theorem wb_X12_looksAt_76 (G : zG) (n : Nat) (l0 : Nat) (l3 : Int32) (h : zH) : zW G yX12_looksAt cX12_looksAt 4 (some .int) zvI 91 76 [(0, .ref (zbase G + l0)), (3, .int l3)] [] h (fb_X12_looksAt_76 n l0 l3 h) := by
  unfold fb_X12_looksAt_76
  refine zi_iload_n dX12_looksAt_76 rfl 1 rfl ?_
  refine zi_iconst (v := 1) dX12_looksAt_77 (by decide) ?_
  refine zi_icmp_ne (tgt := 101) dX12_looksAt_78 (by decide) ?_ ?_
  · refine zi_iconst (v := 0) dX12_looksAt_101 (by decide) ?_
    exact zi_retI dX12_looksAt_102
  · refine zi_aload_n dX12_looksAt_81 rfl 0 rfl ?_
    refine zi_getR dX12_looksAt_82 gf_X12_28 (fun v1 => ?_)
    refine zi_sipush (v := 131) dX12_looksAt_85 (by decide) ?_
    refine zi_iload_n dX12_looksAt_88 rfl 1 rfl ?_
    refine zi_iadd dX12_looksAt_89 ?_
    refine zi_iald dX12_looksAt_90 (fun v2 => ?_)
    refine zi_if_ne (tgt := 101) dX12_looksAt_91 (by decide) ?_ ?_
    · refine zi_iconst (v := 0) dX12_looksAt_101 (by decide) ?_
      exact zi_retI dX12_looksAt_102
    · refine zi_aload_n dX12_looksAt_94 rfl 0 rfl ?_
      refine zi_callVI (As := []) (rest := []) (ci := 12) dX12_looksAt_95 ml_X12_345 md_X12_endsNow mv_X12_endsNow rfl (by decide) rfl rfl (Nat.le_of_ble_eq_true rfl) (Nat.le_of_ble_eq_true rfl) (k_X12_endsNow G n l0 h) (fun r3 h4 => ?_)
      refine zi_goto (tgt := 102) dX12_looksAt_98 (by decide) ?_
      exact zi_retI dX12_looksAt_102
set_option maxRecDepth 20000 in
set_option maxHeartbeats 1000000 in
theorem wb_X12_looksAt_41 (G : zG) (n : Nat) (k41 : Nat → Int32 → zH → Option (Int32 × zH)) (hk41 : ∀ (l0 : Nat) (l3 : Int32) (h : zH), zW G yX12_looksAt cX12_looksAt 4 (some .int) zvI 91 41 [(0, .ref (zbase G + l0)), (3, .int l3)] [] h (k41 l0 l3 h)) (l0 : Nat) (l3 : Int32) (h : zH) : zW G yX12_looksAt cX12_looksAt 4 (some .int) zvI 91 41 [(0, .ref (zbase G + l0)), (3, .int l3)] [] h (fb_X12_looksAt_41 n k41 l0 l3 h) := by
  unfold fb_X12_looksAt_41
  refine zi_iload_n dX12_looksAt_41 rfl 1 rfl ?_
  refine zi_iconst (v := 1) dX12_looksAt_42 (by decide) ?_
  refine zi_icmp_le (tgt := 76) dX12_looksAt_43 (by decide) ?_ ?_
  · refine zi_sub [0, 1] rfl ?_
    exact wb_X12_looksAt_76 G n l0 l3 h
  · refine zi_aload_n dX12_looksAt_46 rfl 0 rfl ?_
    refine zi_getR dX12_looksAt_47 gf_X12_28 (fun v1 => ?_)
    refine zi_sipush (v := 131) dX12_looksAt_50 (by decide) ?_
    refine zi_iload_n dX12_looksAt_53 rfl 1 rfl ?_
    refine zi_iadd dX12_looksAt_54 ?_
    refine zi_iald dX12_looksAt_55 (fun v2 => ?_)
    refine zi_if_ne (tgt := 76) dX12_looksAt_56 (by decide) ?_ ?_
    · refine zi_sub [0, 1] rfl ?_
      exact wb_X12_looksAt_76 G n l0 l3 h
    · refine zi_aload_n dX12_looksAt_59 rfl 0 rfl ?_
      refine zi_iload_n dX12_looksAt_60 rfl 1 rfl ?_
      refine zi_iconst (v := 2) dX12_looksAt_61 (by decide) ?_
      refine zi_idiv dX12_looksAt_62 (by decide) ?_
      refine zi_iload_n dX12_looksAt_63 rfl 1 rfl ?_
      refine zi_iconst (v := 2) dX12_looksAt_64 (by decide) ?_
      refine zi_irem dX12_looksAt_65 (by decide) ?_
      refine zi_callVU (As := [.int (l3 / 2), .int (l3 - l3 / 2 * 2)]) (rest := []) (ci := 12) dX12_looksAt_66 ml_X12_342 md_X12_reports mv_X12_reports rfl (by decide) rfl rfl (Nat.le_of_ble_eq_true rfl) (Nat.le_of_ble_eq_true rfl) (k_X12_reports G n l0 (l3 / 2) (l3 - l3 / 2 * 2) h) (fun _ h4 => ?_)
      refine zi_iload_n dX12_looksAt_69 rfl 1 rfl ?_
      refine zi_iconst (v := 2) dX12_looksAt_70 (by decide) ?_
      refine zi_idiv dX12_looksAt_71 (by decide) ?_
      refine zi_let (sf := fun x5 => .int x5 :: []) (fun x5 => ?_)
      refine zi_istore_n (l' := [(3, .int x5), (0, .ref (zbase G + l0))]) dX12_looksAt_72 rfl (by decide) rfl ?_
      refine zi_goto (tgt := 41) dX12_looksAt_73 (by decide) ?_
      refine zi_sub [1, 0] rfl ?_
      exact hk41 l0 x5 h4
theorem wl_X12_looksAt_41 (G : zG) (n : Nat) : ∀ (t : Nat) (l0 : Nat) (l3 : Int32) (h : zH), zW G yX12_looksAt cX12_looksAt 4 (some .int) zvI 91 41 [(0, .ref (zbase G + l0)), (3, .int l3)] [] h (zlp2 (fb_X12_looksAt_41 n ) t l0 l3 h) := by
  intro t
  induction t with
  | zero => intros; exact zW_none
  | succ t ih => intro l0 l3 h; rw [zlp2_s]; exact wb_X12_looksAt_41 G n  _  ih l0 l3 h
set_option maxRecDepth 20000 in
set_option maxHeartbeats 1000000 in
theorem k_X12_looksAt (G : zG) (n : Nat) (a0 : Nat) (a1 : Int32) (h : zH) : zMet G yX12_looksAt cX12_looksAt 4 (some .int) zvI 91 [.ref (zbase G + a0), .int a1] h (f_X12_looksAt n a0 a1 h) := by
  refine zMet_of (l := [(0, .ref (zbase G + a0)), (1, .int a1)]) (by decide) (Nat.le_of_ble_eq_true rfl) rfl ?_
  unfold f_X12_looksAt
  refine zi_iconst (v := 2) dX12_looksAt_0 (by decide) ?_
  refine zi_iload_n dX12_looksAt_1 rfl 1 rfl ?_
  refine zi_iconst (v := 4) dX12_looksAt_2 (by decide) ?_
  refine zi_isub dX12_looksAt_3 ?_
  refine zi_imul dX12_looksAt_4 ?_
  refine zi_let (sf := fun x1 => .int x1 :: []) (fun x1 => ?_)
  refine zi_istore_n (l' := [(2, .int x1), (0, .ref (zbase G + a0)), (1, .int a1)]) dX12_looksAt_5 rfl (by decide) rfl ?_
  refine zi_aload_n dX12_looksAt_6 rfl 1 rfl ?_
  refine zi_getR dX12_looksAt_7 gf_X12_28 (fun v2 => ?_)
  refine zi_sipush (v := 131) dX12_looksAt_10 (by decide) ?_
  refine zi_iload_n dX12_looksAt_13 rfl 2 rfl ?_
  refine zi_iadd dX12_looksAt_14 ?_
  refine zi_iald dX12_looksAt_15 (fun v3 => ?_)
  refine zi_if_ne (tgt := 37) dX12_looksAt_16 (by decide) ?_ ?_
  · refine zi_iconst (v := 0) dX12_looksAt_37 (by decide) ?_
    exact zi_retI dX12_looksAt_38
  · refine zi_aload_n dX12_looksAt_19 rfl 1 rfl ?_
    refine zi_iload_n dX12_looksAt_20 rfl 0 rfl ?_
    refine zi_callVI (As := [.int x1]) (rest := []) (ci := 12) dX12_looksAt_21 ml_X12_330 md_X12_isHeld mv_X12_isHeld rfl (by decide) rfl rfl (Nat.le_of_ble_eq_true rfl) (Nat.le_of_ble_eq_true rfl) (k_X12_isHeld G n a0 x1 h) (fun r4 h5 => ?_)
    refine zi_if_ne (tgt := 37) dX12_looksAt_24 (by decide) ?_ ?_
    · refine zi_iconst (v := 0) dX12_looksAt_37 (by decide) ?_
      exact zi_retI dX12_looksAt_38
    · refine zi_aload_n dX12_looksAt_27 rfl 1 rfl ?_
      refine zi_iload_n dX12_looksAt_28 rfl 0 rfl ?_
      refine zi_iconst (v := 1) dX12_looksAt_29 (by decide) ?_
      refine zi_iadd dX12_looksAt_30 ?_
      refine zi_callVI (As := [.int (x1 + 1)]) (rest := []) (ci := 12) dX12_looksAt_31 ml_X12_330 md_X12_isHeld mv_X12_isHeld rfl (by decide) rfl rfl (Nat.le_of_ble_eq_true rfl) (Nat.le_of_ble_eq_true rfl) (k_X12_isHeld G n a0 (x1 + 1) h5) (fun r6 h7 => ?_)
      refine zi_if_eq (tgt := 39) dX12_looksAt_34 (by decide) ?_ ?_
      · refine zi_iload_n dX12_looksAt_39 rfl 2 rfl ?_
        refine zi_istore_n (l' := [(3, .int a1), (2, .int x1), (0, .ref (zbase G + a0)), (1, .int a1)]) dX12_looksAt_40 rfl (by decide) rfl ?_
        refine zi_sub [2, 0] rfl ?_
        exact wl_X12_looksAt_41 G n n a0 a1 h7
      · refine zi_iconst (v := 0) dX12_looksAt_37 (by decide) ?_
        exact zi_retI dX12_looksAt_38
set_option maxRecDepth 20000 in
set_option maxHeartbeats 1000000 in
theorem k_X12_leaves0 (G : zG) (n : Nat) (a0 : Nat) (a1 : Int32) (h : zH) : zMet G yX12_leaves0 cX12_leaves0 3 (some .int) zvI 92 [.ref (zbase G + a0), .int a1] h (f_X12_leaves0 n a0 a1 h) := by
  refine zMet_of (l := [(0, .ref (zbase G + a0)), (1, .int a1)]) (by decide) (Nat.le_of_ble_eq_true rfl) rfl ?_
  unfold f_X12_leaves0
  refine zi_iload_n dX12_leaves0_0 rfl 1 rfl ?_
  refine zi_callSI (As := [.int a1]) (rest := []) dX12_leaves0_1 ml_X12_106 md_X12_isProcessor ms_X12_isProcessor rfl rfl (Nat.le_of_ble_eq_true rfl) (Nat.le_of_ble_eq_true rfl) (k_X12_isProcessor G n a1 h) (fun r1 h2 => ?_)
  refine zi_if_ne (tgt := 9) dX12_leaves0_4 (by decide) ?_ ?_
  · refine zi_aload_n dX12_leaves0_9 rfl 0 rfl ?_
    refine zi_iload_n dX12_leaves0_10 rfl 1 rfl ?_
    refine zi_callVI (As := [.int a1]) (rest := []) (ci := 12) dX12_leaves0_11 ml_X12_102 md_X12_isOn mv_X12_isOn rfl (by decide) rfl rfl (Nat.le_of_ble_eq_true rfl) (Nat.le_of_ble_eq_true rfl) (k_X12_isOn G n a0 a1 h2) (fun r3 h4 => ?_)
    refine zi_if_ne (tgt := 20) dX12_leaves0_14 (by decide) ?_ ?_
    · refine zi_aload_n dX12_leaves0_20 rfl 0 rfl ?_
      refine zi_iload_n dX12_leaves0_21 rfl 1 rfl ?_
      refine zi_callVI (As := [.int a1]) (rest := []) (ci := 12) dX12_leaves0_22 ml_X12_330 md_X12_isHeld mv_X12_isHeld rfl (by decide) rfl rfl (Nat.le_of_ble_eq_true rfl) (Nat.le_of_ble_eq_true rfl) (k_X12_isHeld G n a0 a1 h4) (fun r5 h6 => ?_)
      refine zi_istore_n (l' := [(2, .int r5), (0, .ref (zbase G + a0)), (1, .int a1)]) dX12_leaves0_25 rfl (by decide) rfl ?_
      refine zi_aload_n dX12_leaves0_26 rfl 1 rfl ?_
      refine zi_getR dX12_leaves0_27 gf_X12_28 (fun v7 => ?_)
      refine zi_bipush (v := 97) dX12_leaves0_30 (by decide) ?_
      refine zi_iload_n dX12_leaves0_32 rfl 2 rfl ?_
      refine zi_iadd dX12_leaves0_33 ?_
      refine zi_iconst (v := 0) dX12_leaves0_34 (by decide) ?_
      refine zi_iast dX12_leaves0_35 (fun h8 => ?_)
      refine zi_aload_n dX12_leaves0_36 rfl 1 rfl ?_
      refine zi_getR dX12_leaves0_37 gf_X12_28 (fun v9 => ?_)
      refine zi_bipush (v := 113) dX12_leaves0_40 (by decide) ?_
      refine zi_iload_n dX12_leaves0_42 rfl 2 rfl ?_
      refine zi_iadd dX12_leaves0_43 ?_
      refine zi_iconst (v := 0) dX12_leaves0_44 (by decide) ?_
      refine zi_iast dX12_leaves0_45 (fun h10 => ?_)
      refine zi_aload_n dX12_leaves0_46 rfl 1 rfl ?_
      refine zi_getR dX12_leaves0_47 gf_X12_28 (fun v11 => ?_)
      refine zi_bipush (v := 121) dX12_leaves0_50 (by decide) ?_
      refine zi_iload_n dX12_leaves0_52 rfl 2 rfl ?_
      refine zi_iadd dX12_leaves0_53 ?_
      refine zi_iconst (v := 0) dX12_leaves0_54 (by decide) ?_
      refine zi_iast dX12_leaves0_55 (fun h12 => ?_)
      refine zi_iload_n dX12_leaves0_56 rfl 0 rfl ?_
      refine zi_if_eq (tgt := 71) dX12_leaves0_57 (by decide) ?_ ?_
      · refine zi_iconst (v := 0) dX12_leaves0_71 (by decide) ?_
        exact zi_retI dX12_leaves0_72
      · refine zi_aload_n dX12_leaves0_60 rfl 1 rfl ?_
        refine zi_iload_n dX12_leaves0_61 rfl 2 rfl ?_
        refine zi_callSI (As := [.int a1]) (rest := [.ref (zbase G + a0)]) dX12_leaves0_62 ml_X12_95 md_X12_leafOf ms_X12_leafOf rfl rfl (Nat.le_of_ble_eq_true rfl) (Nat.le_of_ble_eq_true rfl) (k_X12_leafOf G n a1 h12) (fun r13 h14 => ?_)
        refine zi_callVI (As := [.int r13]) (rest := []) (ci := 12) dX12_leaves0_65 ml_X12_333 md_X12_looksAt mv_X12_looksAt rfl (by decide) rfl rfl (Nat.le_of_ble_eq_true rfl) (Nat.le_of_ble_eq_true rfl) (k_X12_looksAt G n a0 r13 h14) (fun r15 h16 => ?_)
        refine zi_goto (tgt := 72) dX12_leaves0_68 (by decide) ?_
        exact zi_retI dX12_leaves0_72
    · refine zi_bipush (v := (-3)) dX12_leaves0_17 (by decide) ?_
      exact zi_retI dX12_leaves0_19
  · refine zi_iconst (v := (-1)) dX12_leaves0_7 (by decide) ?_
    exact zi_retI dX12_leaves0_8
set_option maxRecDepth 20000 in
set_option maxHeartbeats 1000000 in
theorem k_X12_beginsOr (G : zG) (n : Nat) (a0 : Nat) (h : zH) : zMet G yX12_beginsOr cX12_beginsOr 1 (some .int) zvI 2 [.ref (zbase G + a0)] h (f_X12_beginsOr n a0 h) := by
  refine zMet_of (l := [(0, .ref (zbase G + a0))]) (by decide) (Nat.le_of_ble_eq_true rfl) rfl ?_
  unfold f_X12_beginsOr
  refine zi_aload_n dX12_beginsOr_0 rfl 0 rfl ?_
  refine zi_callVI (As := []) (rest := []) (ci := 12) dX12_beginsOr_1 ml_X12_91 md_X12_runs0 mv_X12_runs0 rfl (by decide) rfl rfl (Nat.le_of_ble_eq_true rfl) (Nat.le_of_ble_eq_true rfl) (k_X12_runs0 G n a0 h) (fun r1 h2 => ?_)
  refine zi_if_ne (tgt := 18) dX12_beginsOr_4 (by decide) ?_ ?_
  · refine zi_bipush (v := (-3)) dX12_beginsOr_18 (by decide) ?_
    exact zi_retI dX12_beginsOr_20
  · refine zi_aload_n dX12_beginsOr_7 rfl 0 rfl ?_
    refine zi_getR dX12_beginsOr_8 gf_X12_28 (fun v3 => ?_)
    refine zi_sipush (v := 139) dX12_beginsOr_11 (by decide) ?_
    refine zi_iald dX12_beginsOr_14 (fun v4 => ?_)
    refine zi_if_ne (tgt := 21) dX12_beginsOr_15 (by decide) ?_ ?_
    · refine zi_aload_n dX12_beginsOr_21 rfl 0 rfl ?_
      refine zi_callVU (As := []) (rest := []) (ci := 12) dX12_beginsOr_22 ml_X12_336 md_X12_begins mv_X12_begins rfl (by decide) rfl rfl (Nat.le_of_ble_eq_true rfl) (Nat.le_of_ble_eq_true rfl) (k_X12_begins G n a0 h2) (fun _ h6 => ?_)
      refine zi_aload_n dX12_beginsOr_25 rfl 0 rfl ?_
      refine zi_getR dX12_beginsOr_26 gf_X12_28 (fun v7 => ?_)
      refine zi_sipush (v := 130) dX12_beginsOr_29 (by decide) ?_
      refine zi_iald dX12_beginsOr_32 (fun v8 => ?_)
      exact zi_retI dX12_beginsOr_33
    · refine zi_bipush (v := (-3)) dX12_beginsOr_18 (by decide) ?_
      exact zi_retI dX12_beginsOr_20
set_option maxRecDepth 20000 in
set_option maxHeartbeats 1000000 in
theorem k_X12_canTick (G : zG) (n : Nat) (a0 : Nat) (a1 : Int32) (h : zH) : zMet G yX12_canTick cX12_canTick 2 (some .boolean) zvI 2 [.ref (zbase G + a0), .int a1] h (f_X12_canTick n a0 a1 h) := by
  refine zMet_of (l := [(0, .ref (zbase G + a0)), (1, .int a1)]) (by decide) (Nat.le_of_ble_eq_true rfl) rfl ?_
  unfold f_X12_canTick
  refine zi_aload_n dX12_canTick_0 rfl 0 rfl ?_
  refine zi_iload_n dX12_canTick_1 rfl 1 rfl ?_
  refine zi_callVI (As := [.int a1]) (rest := []) (ci := 12) dX12_canTick_2 ml_X12_102 md_X12_isOn mv_X12_isOn rfl (by decide) rfl rfl (Nat.le_of_ble_eq_true rfl) (Nat.le_of_ble_eq_true rfl) (k_X12_isOn G n a0 a1 h) (fun r1 h2 => ?_)
  refine zi_if_eq (tgt := 16) dX12_canTick_5 (by decide) ?_ ?_
  · refine zi_iconst (v := 1) dX12_canTick_16 (by decide) ?_
    refine zi_goto (tgt := 21) dX12_canTick_17 (by decide) ?_
    exact zi_ret1 dX12_canTick_21
  · refine zi_aload_n dX12_canTick_8 rfl 0 rfl ?_
    refine zi_iload_n dX12_canTick_9 rfl 1 rfl ?_
    refine zi_callVI (As := [.int a1]) (rest := []) (ci := 12) dX12_canTick_10 ml_X12_327 md_X12_isParked mv_X12_isParked rfl (by decide) rfl rfl (Nat.le_of_ble_eq_true rfl) (Nat.le_of_ble_eq_true rfl) (k_X12_isParked G n a0 a1 h2) (fun r3 h4 => ?_)
    refine zi_if_eq (tgt := 20) dX12_canTick_13 (by decide) ?_ ?_
    · refine zi_iconst (v := 0) dX12_canTick_20 (by decide) ?_
      exact zi_ret0 dX12_canTick_21
    · refine zi_iconst (v := 1) dX12_canTick_16 (by decide) ?_
      refine zi_goto (tgt := 21) dX12_canTick_17 (by decide) ?_
      exact zi_ret1 dX12_canTick_21
set_option maxRecDepth 20000 in
set_option maxHeartbeats 1000000 in
theorem k_X12_ticks (G : zG) (n : Nat) (a0 : Nat) (a1 : Int32) (h : zH) : zMet G yX12_ticks cX12_ticks 2 (some .int) zvI 92 [.ref (zbase G + a0), .int a1] h (f_X12_ticks n a0 a1 h) := by
  refine zMet_of (l := [(0, .ref (zbase G + a0)), (1, .int a1)]) (by decide) (Nat.le_of_ble_eq_true rfl) rfl ?_
  unfold f_X12_ticks
  refine zi_iload_n dX12_ticks_0 rfl 1 rfl ?_
  refine zi_callSI (As := [.int a1]) (rest := []) dX12_ticks_1 ml_X12_106 md_X12_isProcessor ms_X12_isProcessor rfl rfl (Nat.le_of_ble_eq_true rfl) (Nat.le_of_ble_eq_true rfl) (k_X12_isProcessor G n a1 h) (fun r1 h2 => ?_)
  refine zi_if_ne (tgt := 9) dX12_ticks_4 (by decide) ?_ ?_
  · refine zi_aload_n dX12_ticks_9 rfl 0 rfl ?_
    refine zi_iload_n dX12_ticks_10 rfl 1 rfl ?_
    refine zi_callVI (As := [.int a1]) (rest := []) (ci := 12) dX12_ticks_11 ml_X12_351 md_X12_canTick mv_X12_canTick rfl (by decide) rfl rfl (Nat.le_of_ble_eq_true rfl) (Nat.le_of_ble_eq_true rfl) (k_X12_canTick G n a0 a1 h2) (fun r3 h4 => ?_)
    refine zi_if_ne (tgt := 20) dX12_ticks_14 (by decide) ?_ ?_
    · refine zi_aload_n dX12_ticks_20 rfl 0 rfl ?_
      refine zi_iload_n dX12_ticks_21 rfl 1 rfl ?_
      refine zi_callVI (As := [.int a1]) (rest := []) (ci := 12) dX12_ticks_22 ml_X12_112 md_X12_hasReported mv_X12_hasReported rfl (by decide) rfl rfl (Nat.le_of_ble_eq_true rfl) (Nat.le_of_ble_eq_true rfl) (k_X12_hasReported G n a0 a1 h4) (fun r5 h6 => ?_)
      refine zi_if_eq (tgt := 30) dX12_ticks_25 (by decide) ?_ ?_
      · refine zi_aload_n dX12_ticks_30 rfl 0 rfl ?_
        refine zi_iload_n dX12_ticks_31 rfl 1 rfl ?_
        refine zi_callSI (As := [.int a1]) (rest := [.ref (zbase G + a0)]) dX12_ticks_32 ml_X12_95 md_X12_leafOf ms_X12_leafOf rfl rfl (Nat.le_of_ble_eq_true rfl) (Nat.le_of_ble_eq_true rfl) (k_X12_leafOf G n a1 h6) (fun r7 h8 => ?_)
        refine zi_iload_n dX12_ticks_35 rfl 1 rfl ?_
        refine zi_iconst (v := 2) dX12_ticks_36 (by decide) ?_
        refine zi_irem dX12_ticks_37 (by decide) ?_
        refine zi_callVU (As := [.int r7, .int (a1 - a1 / 2 * 2)]) (rest := []) (ci := 12) dX12_ticks_38 ml_X12_342 md_X12_reports mv_X12_reports rfl (by decide) rfl rfl (Nat.le_of_ble_eq_true rfl) (Nat.le_of_ble_eq_true rfl) (k_X12_reports G n a0 r7 (a1 - a1 / 2 * 2) h8) (fun _ h10 => ?_)
        refine zi_aload_n dX12_ticks_41 rfl 0 rfl ?_
        refine zi_iload_n dX12_ticks_42 rfl 1 rfl ?_
        refine zi_callSI (As := [.int a1]) (rest := [.ref (zbase G + a0)]) dX12_ticks_43 ml_X12_95 md_X12_leafOf ms_X12_leafOf rfl rfl (Nat.le_of_ble_eq_true rfl) (Nat.le_of_ble_eq_true rfl) (k_X12_leafOf G n a1 h10) (fun r11 h12 => ?_)
        refine zi_callVI (As := [.int r11]) (rest := []) (ci := 12) dX12_ticks_46 ml_X12_333 md_X12_looksAt mv_X12_looksAt rfl (by decide) rfl rfl (Nat.le_of_ble_eq_true rfl) (Nat.le_of_ble_eq_true rfl) (k_X12_looksAt G n a0 r11 h12) (fun r13 h14 => ?_)
        exact zi_retI dX12_ticks_49
      · refine zi_iconst (v := 0) dX12_ticks_28 (by decide) ?_
        exact zi_retI dX12_ticks_29
    · refine zi_bipush (v := (-3)) dX12_ticks_17 (by decide) ?_
      exact zi_retI dX12_ticks_19
  · refine zi_iconst (v := (-1)) dX12_ticks_7 (by decide) ?_
    exact zi_retI dX12_ticks_8
set_option maxRecDepth 20000 in
set_option maxHeartbeats 1000000 in
theorem wb_X12_hurries_72 (G : zG) (n : Nat) (k23 : Nat → Int32 → Int32 → Int32 → zH → Option (Int32 × zH)) (hk23 : ∀ (l0 : Nat) (l1 : Int32) (l2 : Int32) (l3 : Int32) (h : zH), zW G yX12_hurries cX12_hurries 4 (some .int) zvI 93 23 [(0, .ref (zbase G + l0)), (1, .int l1), (2, .int l2), (3, .int l3)] [] h (k23 l0 l1 l2 l3 h)) (l0 : Nat) (l1 : Int32) (l2 : Int32) (l3 : Int32) (h : zH) : zW G yX12_hurries cX12_hurries 4 (some .int) zvI 93 72 [(0, .ref (zbase G + l0)), (1, .int l1), (2, .int l2), (3, .int l3)] [] h (fb_X12_hurries_72 n k23 l0 l1 l2 l3 h) := by
  unfold fb_X12_hurries_72
  refine zi_iinc (j := 3) (v := l3 + 1) (l' := [(3, .int (l3 + 1)), (0, .ref (zbase G + l0)), (1, .int l1), (2, .int l2)]) dX12_hurries_72 rfl rfl (by decide) rfl ?_
  refine zi_goto (tgt := 23) dX12_hurries_75 (by decide) ?_
  refine zi_sub [1, 2, 3, 0] rfl ?_
  exact hk23 l0 l1 l2 (l3 + 1) h
set_option maxRecDepth 20000 in
set_option maxHeartbeats 1000000 in
theorem wb_X12_hurries_23 (G : zG) (n : Nat) (k23 : Nat → Int32 → Int32 → Int32 → zH → Option (Int32 × zH)) (hk23 : ∀ (l0 : Nat) (l1 : Int32) (l2 : Int32) (l3 : Int32) (h : zH), zW G yX12_hurries cX12_hurries 4 (some .int) zvI 93 23 [(0, .ref (zbase G + l0)), (1, .int l1), (2, .int l2), (3, .int l3)] [] h (k23 l0 l1 l2 l3 h)) (l0 : Nat) (l1 : Int32) (l2 : Int32) (l3 : Int32) (h : zH) : zW G yX12_hurries cX12_hurries 4 (some .int) zvI 93 23 [(0, .ref (zbase G + l0)), (1, .int l1), (2, .int l2), (3, .int l3)] [] h (fb_X12_hurries_23 n k23 l0 l1 l2 l3 h) := by
  unfold fb_X12_hurries_23
  refine zi_iload_n dX12_hurries_23 rfl 3 rfl ?_
  refine zi_bipush (v := 8) dX12_hurries_24 (by decide) ?_
  refine zi_icmp_ge (tgt := 78) dX12_hurries_26 (by decide) ?_ ?_
  · refine zi_iload_n dX12_hurries_78 rfl 2 rfl ?_
    exact zi_retI dX12_hurries_79
  · refine zi_aload_n dX12_hurries_29 rfl 0 rfl ?_
    refine zi_callVI (As := []) (rest := []) (ci := 12) dX12_hurries_30 ml_X12_91 md_X12_runs0 mv_X12_runs0 rfl (by decide) rfl rfl (Nat.le_of_ble_eq_true rfl) (Nat.le_of_ble_eq_true rfl) (k_X12_runs0 G n l0 h) (fun r1 h2 => ?_)
    refine zi_if_eq (tgt := 78) dX12_hurries_33 (by decide) ?_ ?_
    · refine zi_iload_n dX12_hurries_78 rfl 2 rfl ?_
      exact zi_retI dX12_hurries_79
    · refine zi_aload_n dX12_hurries_36 rfl 0 rfl ?_
      refine zi_getR dX12_hurries_37 gf_X12_28 (fun v3 => ?_)
      refine zi_sipush (v := 130) dX12_hurries_40 (by decide) ?_
      refine zi_iald dX12_hurries_43 (fun v4 => ?_)
      refine zi_iload_n dX12_hurries_44 rfl 1 rfl ?_
      refine zi_icmp_ne (tgt := 78) dX12_hurries_45 (by decide) ?_ ?_
      · refine zi_iload_n dX12_hurries_78 rfl 2 rfl ?_
        exact zi_retI dX12_hurries_79
      · refine zi_aload_n dX12_hurries_48 rfl 0 rfl ?_
        refine zi_iload_n dX12_hurries_49 rfl 3 rfl ?_
        refine zi_callVI (As := [.int l3]) (rest := []) (ci := 12) dX12_hurries_50 ml_X12_351 md_X12_canTick mv_X12_canTick rfl (by decide) rfl rfl (Nat.le_of_ble_eq_true rfl) (Nat.le_of_ble_eq_true rfl) (k_X12_canTick G n l0 l3 h2) (fun r5 h6 => ?_)
        refine zi_if_eq (tgt := 72) dX12_hurries_53 (by decide) ?_ ?_
        · refine zi_sub [0, 1, 2, 3] rfl ?_
          exact wb_X12_hurries_72 G n k23 hk23 l0 l1 l2 l3 h6
        · refine zi_aload_n dX12_hurries_56 rfl 0 rfl ?_
          refine zi_iload_n dX12_hurries_57 rfl 3 rfl ?_
          refine zi_callVI (As := [.int l3]) (rest := []) (ci := 12) dX12_hurries_58 ml_X12_112 md_X12_hasReported mv_X12_hasReported rfl (by decide) rfl rfl (Nat.le_of_ble_eq_true rfl) (Nat.le_of_ble_eq_true rfl) (k_X12_hasReported G n l0 l3 h6) (fun r7 h8 => ?_)
          refine zi_if_ne (tgt := 72) dX12_hurries_61 (by decide) ?_ ?_
          · refine zi_sub [0, 1, 2, 3] rfl ?_
            exact wb_X12_hurries_72 G n k23 hk23 l0 l1 l2 l3 h8
          · refine zi_iload_n dX12_hurries_64 rfl 2 rfl ?_
            refine zi_aload_n dX12_hurries_65 rfl 0 rfl ?_
            refine zi_iload_n dX12_hurries_66 rfl 3 rfl ?_
            refine zi_callVI (As := [.int l3]) (rest := [.int l2]) (ci := 12) dX12_hurries_67 ml_X12_354 md_X12_ticks mv_X12_ticks rfl (by decide) rfl rfl (Nat.le_of_ble_eq_true rfl) (Nat.le_of_ble_eq_true rfl) (k_X12_ticks G n l0 l3 h8) (fun r9 h10 => ?_)
            refine zi_iadd dX12_hurries_70 ?_
            refine zi_let (sf := fun x11 => .int x11 :: []) (fun x11 => ?_)
            refine zi_istore_n (l' := [(2, .int x11), (0, .ref (zbase G + l0)), (1, .int l1), (3, .int l3)]) dX12_hurries_71 rfl (by decide) rfl ?_
            refine zi_sub [1, 2, 0, 3] rfl ?_
            exact wb_X12_hurries_72 G n k23 hk23 l0 l1 x11 l3 h10
theorem wl_X12_hurries_23 (G : zG) (n : Nat) : ∀ (t : Nat) (l0 : Nat) (l1 : Int32) (l2 : Int32) (l3 : Int32) (h : zH), zW G yX12_hurries cX12_hurries 4 (some .int) zvI 93 23 [(0, .ref (zbase G + l0)), (1, .int l1), (2, .int l2), (3, .int l3)] [] h (zlp4 (fb_X12_hurries_23 n ) t l0 l1 l2 l3 h) := by
  intro t
  induction t with
  | zero => intros; exact zW_none
  | succ t ih => intro l0 l1 l2 l3 h; rw [zlp4_s]; exact wb_X12_hurries_23 G n  _  ih l0 l1 l2 l3 h
set_option maxRecDepth 20000 in
set_option maxHeartbeats 1000000 in
theorem k_X12_hurries (G : zG) (n : Nat) (a0 : Nat) (h : zH) : zMet G yX12_hurries cX12_hurries 4 (some .int) zvI 93 [.ref (zbase G + a0)] h (f_X12_hurries n a0 h) := by
  refine zMet_of (l := [(0, .ref (zbase G + a0))]) (by decide) (Nat.le_of_ble_eq_true rfl) rfl ?_
  unfold f_X12_hurries
  refine zi_aload_n dX12_hurries_0 rfl 0 rfl ?_
  refine zi_callVI (As := []) (rest := []) (ci := 12) dX12_hurries_1 ml_X12_91 md_X12_runs0 mv_X12_runs0 rfl (by decide) rfl rfl (Nat.le_of_ble_eq_true rfl) (Nat.le_of_ble_eq_true rfl) (k_X12_runs0 G n a0 h) (fun r1 h2 => ?_)
  refine zi_if_ne (tgt := 10) dX12_hurries_4 (by decide) ?_ ?_
  · refine zi_aload_n dX12_hurries_10 rfl 0 rfl ?_
    refine zi_getR dX12_hurries_11 gf_X12_28 (fun v3 => ?_)
    refine zi_sipush (v := 130) dX12_hurries_14 (by decide) ?_
    refine zi_iald dX12_hurries_17 (fun v4 => ?_)
    refine zi_istore_n (l' := [(1, .int v4), (0, .ref (zbase G + a0))]) dX12_hurries_18 rfl (by decide) rfl ?_
    refine zi_iconst (v := 0) dX12_hurries_19 (by decide) ?_
    refine zi_istore_n (l' := [(2, .int 0), (1, .int v4), (0, .ref (zbase G + a0))]) dX12_hurries_20 rfl (by decide) rfl ?_
    refine zi_iconst (v := 0) dX12_hurries_21 (by decide) ?_
    refine zi_istore_n (l' := [(3, .int 0), (2, .int 0), (1, .int v4), (0, .ref (zbase G + a0))]) dX12_hurries_22 rfl (by decide) rfl ?_
    refine zi_sub [3, 2, 1, 0] rfl ?_
    exact wl_X12_hurries_23 G n n a0 v4 0 0 h2
  · refine zi_bipush (v := (-3)) dX12_hurries_7 (by decide) ?_
    exact zi_retI dX12_hurries_9
set_option maxRecDepth 20000 in
set_option maxHeartbeats 1000000 in
theorem wb_X12_keptOr_105 (G : zG) (n : Nat) (l0 : Nat) (l1 : Int32) (l2 : Int32) (l3 : Int32) (h : zH) : zW G yX12_keptOr cX12_keptOr 5 (some .int) zvI 1 105 [(0, .ref (zbase G + l0)), (1, .int l1), (2, .int l2), (3, .int l3)] [] h (fb_X12_keptOr_105 n l0 l1 l2 l3 h) := by
  unfold fb_X12_keptOr_105
  refine zi_aload_n dX12_keptOr_105 rfl 0 rfl ?_
  refine zi_getR dX12_keptOr_106 gf_X12_66 (fun v1 => ?_)
  refine zi_iload_n dX12_keptOr_109 rfl 3 rfl ?_
  refine zi_aload_n dX12_keptOr_110 rfl 0 rfl ?_
  refine zi_getI dX12_keptOr_111 gf_X12_11 (fun v2 => ?_)
  refine zi_imul dX12_keptOr_114 ?_
  refine zi_sipush (v := 191) dX12_keptOr_115 (by decide) ?_
  refine zi_iadd dX12_keptOr_118 ?_
  refine zi_iload_n dX12_keptOr_119 rfl 1 rfl ?_
  refine zi_iast dX12_keptOr_120 (fun h3 => ?_)
  refine zi_aload_n dX12_keptOr_121 rfl 0 rfl ?_
  refine zi_dup dX12_keptOr_122 rfl ?_
  refine zi_getI dX12_keptOr_123 gf_X12_11 (fun v4 => ?_)
  refine zi_iconst (v := 1) dX12_keptOr_126 (by decide) ?_
  refine zi_iadd dX12_keptOr_127 ?_
  refine zi_putI dX12_keptOr_128 gf_X12_11 (fun h5 => ?_)
  refine zi_iload_n dX12_keptOr_131 rfl 2 rfl ?_
  exact zi_retI dX12_keptOr_132
set_option maxRecDepth 20000 in
set_option maxHeartbeats 1000000 in
theorem wb_X12_keptOr_66 (G : zG) (n : Nat) (k66 : Nat → Int32 → Int32 → Int32 → Int32 → zH → Option (Int32 × zH)) (hk66 : ∀ (l0 : Nat) (l1 : Int32) (l2 : Int32) (l3 : Int32) (l4 : Int32) (h : zH), zW G yX12_keptOr cX12_keptOr 5 (some .int) zvI 1 66 [(0, .ref (zbase G + l0)), (1, .int l1), (2, .int l2), (3, .int l3), (4, .int l4)] [] h (k66 l0 l1 l2 l3 l4 h)) (l0 : Nat) (l1 : Int32) (l2 : Int32) (l3 : Int32) (l4 : Int32) (h : zH) : zW G yX12_keptOr cX12_keptOr 5 (some .int) zvI 1 66 [(0, .ref (zbase G + l0)), (1, .int l1), (2, .int l2), (3, .int l3), (4, .int l4)] [] h (fb_X12_keptOr_66 n k66 l0 l1 l2 l3 l4 h) := by
  unfold fb_X12_keptOr_66
  refine zi_iload dX12_keptOr_66 4 rfl ?_
  refine zi_sipush (v := 191) dX12_keptOr_68 (by decide) ?_
  refine zi_icmp_ge (tgt := 105) dX12_keptOr_71 (by decide) ?_ ?_
  · refine zi_sub [0, 1, 2, 3] rfl ?_
    exact wb_X12_keptOr_105 G n l0 l1 l2 l3 h
  · refine zi_aload_n dX12_keptOr_74 rfl 0 rfl ?_
    refine zi_getR dX12_keptOr_75 gf_X12_66 (fun v1 => ?_)
    refine zi_iload_n dX12_keptOr_78 rfl 3 rfl ?_
    refine zi_aload_n dX12_keptOr_79 rfl 0 rfl ?_
    refine zi_getI dX12_keptOr_80 gf_X12_11 (fun v2 => ?_)
    refine zi_imul dX12_keptOr_83 ?_
    refine zi_iload dX12_keptOr_84 4 rfl ?_
    refine zi_iadd dX12_keptOr_86 ?_
    refine zi_aload_n dX12_keptOr_87 rfl 0 rfl ?_
    refine zi_getR dX12_keptOr_88 gf_X12_38 (fun v3 => ?_)
    refine zi_sipush (v := 382) dX12_keptOr_91 (by decide) ?_
    refine zi_iload dX12_keptOr_94 4 rfl ?_
    refine zi_iadd dX12_keptOr_96 ?_
    refine zi_iald dX12_keptOr_97 (fun v4 => ?_)
    refine zi_iast dX12_keptOr_98 (fun h5 => ?_)
    refine zi_iinc (j := 4) (v := l4 + 1) (l' := [(4, .int (l4 + 1)), (0, .ref (zbase G + l0)), (1, .int l1), (2, .int l2), (3, .int l3)]) dX12_keptOr_99 rfl rfl (by decide) rfl ?_
    refine zi_goto (tgt := 66) dX12_keptOr_102 (by decide) ?_
    refine zi_sub [1, 2, 3, 4, 0] rfl ?_
    exact hk66 l0 l1 l2 l3 (l4 + 1) h5
theorem wl_X12_keptOr_66 (G : zG) (n : Nat) : ∀ (t : Nat) (l0 : Nat) (l1 : Int32) (l2 : Int32) (l3 : Int32) (l4 : Int32) (h : zH), zW G yX12_keptOr cX12_keptOr 5 (some .int) zvI 1 66 [(0, .ref (zbase G + l0)), (1, .int l1), (2, .int l2), (3, .int l3), (4, .int l4)] [] h (zlp5 (fb_X12_keptOr_66 n ) t l0 l1 l2 l3 l4 h) := by
  intro t
  induction t with
  | zero => intros; exact zW_none
  | succ t ih => intro l0 l1 l2 l3 l4 h; rw [zlp5_s]; exact wb_X12_keptOr_66 G n  _  ih l0 l1 l2 l3 l4 h
set_option maxRecDepth 20000 in
set_option maxHeartbeats 1000000 in
theorem wb_X12_keptOr_63 (G : zG) (n : Nat) (l0 : Nat) (l1 : Int32) (l2 : Int32) (l3 : Int32) (h : zH) : zW G yX12_keptOr cX12_keptOr 5 (some .int) zvI 1 63 [(0, .ref (zbase G + l0)), (1, .int l1), (2, .int l2), (3, .int l3)] [] h (fb_X12_keptOr_63 n l0 l1 l2 l3 h) := by
  unfold fb_X12_keptOr_63
  refine zi_iconst (v := 0) dX12_keptOr_63 (by decide) ?_
  refine zi_istore (l' := [(4, .int 0), (0, .ref (zbase G + l0)), (1, .int l1), (2, .int l2), (3, .int l3)]) dX12_keptOr_64 (by decide) rfl ?_
  refine zi_sub [1, 2, 3, 4, 0] rfl ?_
  exact wl_X12_keptOr_66 G n n l0 l1 l2 l3 0 h
set_option maxRecDepth 20000 in
set_option maxHeartbeats 1000000 in
theorem wb_X12_keptOr_53 (G : zG) (n : Nat) (l0 : Nat) (l1 : Int32) (l2 : Int32) (l3 : Int32) (h : zH) : zW G yX12_keptOr cX12_keptOr 5 (some .int) zvI 1 53 [(0, .ref (zbase G + l0)), (1, .int l1), (2, .int l2), (3, .int l3)] [] h (fb_X12_keptOr_53 n l0 l1 l2 l3 h) := by
  unfold fb_X12_keptOr_53
  refine zi_aload_n dX12_keptOr_53 rfl 0 rfl ?_
  refine zi_dup dX12_keptOr_54 rfl ?_
  refine zi_getI dX12_keptOr_55 gf_X12_11 (fun v1 => ?_)
  refine zi_iconst (v := 1) dX12_keptOr_58 (by decide) ?_
  refine zi_isub dX12_keptOr_59 ?_
  refine zi_putI dX12_keptOr_60 gf_X12_11 (fun h2 => ?_)
  refine zi_sub [0, 1, 2, 3] rfl ?_
  exact wb_X12_keptOr_63 G n l0 l1 l2 l3 h2
set_option maxRecDepth 20000 in
set_option maxHeartbeats 1000000 in
theorem wb_X12_keptOr_22 (G : zG) (n : Nat) (k22 : Nat → Int32 → Int32 → Int32 → Int32 → zH → Option (Int32 × zH)) (hk22 : ∀ (l0 : Nat) (l1 : Int32) (l2 : Int32) (l3 : Int32) (l4 : Int32) (h : zH), zW G yX12_keptOr cX12_keptOr 5 (some .int) zvI 1 22 [(0, .ref (zbase G + l0)), (1, .int l1), (2, .int l2), (3, .int l3), (4, .int l4)] [] h (k22 l0 l1 l2 l3 l4 h)) (l0 : Nat) (l1 : Int32) (l2 : Int32) (l3 : Int32) (l4 : Int32) (h : zH) : zW G yX12_keptOr cX12_keptOr 5 (some .int) zvI 1 22 [(0, .ref (zbase G + l0)), (1, .int l1), (2, .int l2), (3, .int l3), (4, .int l4)] [] h (fb_X12_keptOr_22 n k22 l0 l1 l2 l3 l4 h) := by
  unfold fb_X12_keptOr_22
  refine zi_iload dX12_keptOr_22 4 rfl ?_
  refine zi_bipush (v := 15) dX12_keptOr_24 (by decide) ?_
  refine zi_iload_n dX12_keptOr_26 rfl 3 rfl ?_
  refine zi_imul dX12_keptOr_27 ?_
  refine zi_icmp_ge (tgt := 53) dX12_keptOr_28 (by decide) ?_ ?_
  · refine zi_sub [0, 1, 2, 3] rfl ?_
    exact wb_X12_keptOr_53 G n l0 l1 l2 l3 h
  · refine zi_aload_n dX12_keptOr_31 rfl 0 rfl ?_
    refine zi_getR dX12_keptOr_32 gf_X12_66 (fun v1 => ?_)
    refine zi_iload dX12_keptOr_35 4 rfl ?_
    refine zi_aload_n dX12_keptOr_37 rfl 0 rfl ?_
    refine zi_getR dX12_keptOr_38 gf_X12_66 (fun v2 => ?_)
    refine zi_iload dX12_keptOr_41 4 rfl ?_
    refine zi_iload_n dX12_keptOr_43 rfl 3 rfl ?_
    refine zi_iadd dX12_keptOr_44 ?_
    refine zi_iald dX12_keptOr_45 (fun v3 => ?_)
    refine zi_iast dX12_keptOr_46 (fun h4 => ?_)
    refine zi_iinc (j := 4) (v := l4 + 1) (l' := [(4, .int (l4 + 1)), (0, .ref (zbase G + l0)), (1, .int l1), (2, .int l2), (3, .int l3)]) dX12_keptOr_47 rfl rfl (by decide) rfl ?_
    refine zi_goto (tgt := 22) dX12_keptOr_50 (by decide) ?_
    refine zi_sub [1, 2, 3, 4, 0] rfl ?_
    exact hk22 l0 l1 l2 l3 (l4 + 1) h4
theorem wl_X12_keptOr_22 (G : zG) (n : Nat) : ∀ (t : Nat) (l0 : Nat) (l1 : Int32) (l2 : Int32) (l3 : Int32) (l4 : Int32) (h : zH), zW G yX12_keptOr cX12_keptOr 5 (some .int) zvI 1 22 [(0, .ref (zbase G + l0)), (1, .int l1), (2, .int l2), (3, .int l3), (4, .int l4)] [] h (zlp5 (fb_X12_keptOr_22 n ) t l0 l1 l2 l3 l4 h) := by
  intro t
  induction t with
  | zero => intros; exact zW_none
  | succ t ih => intro l0 l1 l2 l3 l4 h; rw [zlp5_s]; exact wb_X12_keptOr_22 G n  _  ih l0 l1 l2 l3 l4 h
set_option maxRecDepth 20000 in
set_option maxHeartbeats 1000000 in
theorem k_X12_keptOr (G : zG) (n : Nat) (a0 : Nat) (a1 : Int32) (a2 : Int32) (h : zH) : zMet G yX12_keptOr cX12_keptOr 5 (some .int) zvI 1 [.ref (zbase G + a0), .int a1, .int a2] h (f_X12_keptOr n a0 a1 a2 h) := by
  refine zMet_of (l := [(0, .ref (zbase G + a0)), (1, .int a1), (2, .int a2)]) (by decide) (Nat.le_of_ble_eq_true rfl) rfl ?_
  unfold f_X12_keptOr
  refine zi_iload_n dX12_keptOr_0 rfl 2 rfl ?_
  refine zi_if_ge (tgt := 6) dX12_keptOr_1 (by decide) ?_ ?_
  · refine zi_sipush (v := 192) dX12_keptOr_6 (by decide) ?_
    refine zi_istore_n (l' := [(3, .int 192), (0, .ref (zbase G + a0)), (1, .int a1), (2, .int a2)]) dX12_keptOr_9 rfl (by decide) rfl ?_
    refine zi_aload_n dX12_keptOr_10 rfl 1 rfl ?_
    refine zi_getI dX12_keptOr_11 gf_X12_11 (fun v1 => ?_)
    refine zi_bipush (v := 16) dX12_keptOr_14 (by decide) ?_
    refine zi_icmp_ne (tgt := 63) dX12_keptOr_16 (by decide) ?_ ?_
    · refine zi_sub [1, 2, 3, 0] rfl ?_
      exact wb_X12_keptOr_63 G n a0 a1 a2 192 h
    · refine zi_iconst (v := 0) dX12_keptOr_19 (by decide) ?_
      refine zi_istore (l' := [(4, .int 0), (3, .int 192), (0, .ref (zbase G + a0)), (1, .int a1), (2, .int a2)]) dX12_keptOr_20 (by decide) rfl ?_
      refine zi_sub [2, 3, 4, 1, 0] rfl ?_
      exact wl_X12_keptOr_22 G n n a0 a1 a2 192 0 h
  · refine zi_iload_n dX12_keptOr_4 rfl 2 rfl ?_
    exact zi_retI dX12_keptOr_5
