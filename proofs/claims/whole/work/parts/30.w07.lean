set_option maxRecDepth 20000 in
set_option maxHeartbeats 1000000 in
theorem wb_X12_lowestFree_25 (G : zG) (n : Nat) (l1 : Int32) (h : zH) : zW G yX12_lowestFree cX12_lowestFree 2 (some .int) zvI 1 25 [(1, .int l1)] [] h (fb_X12_lowestFree_25 n l1 h) := by
  unfold fb_X12_lowestFree_25
  refine zi_iload_n dX12_lowestFree_25 rfl 0 rfl ?_
  refine zi_bipush (v := 24) dX12_lowestFree_26 (by decide) ?_
  refine zi_icmp_ne (tgt := 35) dX12_lowestFree_28 (by decide) ?_ ?_
  · refine zi_iload_n dX12_lowestFree_35 rfl 0 rfl ?_
    exact zi_retI dX12_lowestFree_36
  · refine zi_iconst (v := (-1)) dX12_lowestFree_31 (by decide) ?_
    refine zi_goto (tgt := 36) dX12_lowestFree_32 (by decide) ?_
    exact zi_retI dX12_lowestFree_36
set_option maxRecDepth 20000 in
set_option maxHeartbeats 1000000 in
theorem wb_X12_lowestFree_2 (G : zG) (n : Nat) (k2 : Nat → Int32 → zH → Option (Int32 × zH)) (hk2 : ∀ (l0 : Nat) (l1 : Int32) (h : zH), zW G yX12_lowestFree cX12_lowestFree 2 (some .int) zvI 1 2 [(0, .ref (zbase G + l0)), (1, .int l1)] [] h (k2 l0 l1 h)) (l0 : Nat) (l1 : Int32) (h : zH) : zW G yX12_lowestFree cX12_lowestFree 2 (some .int) zvI 1 2 [(0, .ref (zbase G + l0)), (1, .int l1)] [] h (fb_X12_lowestFree_2 n k2 l0 l1 h) := by
  unfold fb_X12_lowestFree_2
  refine zi_iload_n dX12_lowestFree_2 rfl 1 rfl ?_
  refine zi_bipush (v := 24) dX12_lowestFree_3 (by decide) ?_
  refine zi_icmp_ge (tgt := 25) dX12_lowestFree_5 (by decide) ?_ ?_
  · refine zi_sub [1] rfl ?_
    exact wb_X12_lowestFree_25 G n l1 h
  · refine zi_aload_n dX12_lowestFree_8 rfl 0 rfl ?_
    refine zi_getR dX12_lowestFree_9 gf_X12_28 (fun v1 => ?_)
    refine zi_iconst (v := 0) dX12_lowestFree_12 (by decide) ?_
    refine zi_iload_n dX12_lowestFree_13 rfl 1 rfl ?_
    refine zi_iadd dX12_lowestFree_14 ?_
    refine zi_iald dX12_lowestFree_15 (fun v2 => ?_)
    refine zi_if_eq (tgt := 25) dX12_lowestFree_16 (by decide) ?_ ?_
    · refine zi_sub [1] rfl ?_
      exact wb_X12_lowestFree_25 G n l1 h
    · refine zi_iinc (j := 1) (v := l1 + 1) (l' := [(1, .int (l1 + 1)), (0, .ref (zbase G + l0))]) dX12_lowestFree_19 rfl rfl (by decide) rfl ?_
      refine zi_goto (tgt := 2) dX12_lowestFree_22 (by decide) ?_
      refine zi_sub [1, 0] rfl ?_
      exact hk2 l0 (l1 + 1) h
theorem wl_X12_lowestFree_2 (G : zG) (n : Nat) : ∀ (t : Nat) (l0 : Nat) (l1 : Int32) (h : zH), zW G yX12_lowestFree cX12_lowestFree 2 (some .int) zvI 1 2 [(0, .ref (zbase G + l0)), (1, .int l1)] [] h (zlp2 (fb_X12_lowestFree_2 n ) t l0 l1 h) := by
  intro t
  induction t with
  | zero => intros; exact zW_none
  | succ t ih => intro l0 l1 h; rw [zlp2_s]; exact wb_X12_lowestFree_2 G n  _  ih l0 l1 h
set_option maxRecDepth 20000 in
set_option maxHeartbeats 1000000 in
theorem k_X12_lowestFree (G : zG) (n : Nat) (a0 : Nat) (h : zH) : zMet G yX12_lowestFree cX12_lowestFree 2 (some .int) zvI 1 [.ref (zbase G + a0)] h (f_X12_lowestFree n a0 h) := by
  refine zMet_of (l := [(0, .ref (zbase G + a0))]) (by decide) (Nat.le_of_ble_eq_true rfl) rfl ?_
  unfold f_X12_lowestFree
  refine zi_iconst (v := 0) dX12_lowestFree_0 (by decide) ?_
  refine zi_istore_n (l' := [(1, .int 0), (0, .ref (zbase G + a0))]) dX12_lowestFree_1 rfl (by decide) rfl ?_
  refine zi_sub [1, 0] rfl ?_
  exact wl_X12_lowestFree_2 G n n a0 0 h
set_option maxRecDepth 20000 in
set_option maxHeartbeats 1000000 in
theorem wb_X12_linkTo_3 (G : zG) (n : Nat) (k3 : Nat → Int32 → Int32 → zH → Option (Int32 × zH)) (hk3 : ∀ (l0 : Nat) (l1 : Int32) (l2 : Int32) (h : zH), zW G yX12_linkTo cX12_linkTo 3 (some .int) zvI 1 3 [(0, .ref (zbase G + l0)), (1, .int l1), (2, .int l2)] [] h (k3 l0 l1 l2 h)) (l0 : Nat) (l1 : Int32) (l2 : Int32) (h : zH) : zW G yX12_linkTo cX12_linkTo 3 (some .int) zvI 1 3 [(0, .ref (zbase G + l0)), (1, .int l1), (2, .int l2)] [] h (fb_X12_linkTo_3 n k3 l0 l1 l2 h) := by
  unfold fb_X12_linkTo_3
  refine zi_aload_n dX12_linkTo_3 rfl 0 rfl ?_
  refine zi_getR dX12_linkTo_4 gf_X12_28 (fun v1 => ?_)
  refine zi_iload_n dX12_linkTo_7 rfl 2 rfl ?_
  refine zi_iald dX12_linkTo_8 (fun v2 => ?_)
  refine zi_iconst (v := (-1)) dX12_linkTo_9 (by decide) ?_
  refine zi_icmp_eq (tgt := 44) dX12_linkTo_10 (by decide) ?_ ?_
  · refine zi_iload_n dX12_linkTo_44 rfl 2 rfl ?_
    exact zi_retI dX12_linkTo_45
  · refine zi_aload_n dX12_linkTo_13 rfl 0 rfl ?_
    refine zi_getR dX12_linkTo_14 gf_X12_28 (fun v3 => ?_)
    refine zi_bipush (v := 24) dX12_linkTo_17 (by decide) ?_
    refine zi_aload_n dX12_linkTo_19 rfl 0 rfl ?_
    refine zi_getR dX12_linkTo_20 gf_X12_28 (fun v4 => ?_)
    refine zi_iload_n dX12_linkTo_23 rfl 2 rfl ?_
    refine zi_iald dX12_linkTo_24 (fun v5 => ?_)
    refine zi_iadd dX12_linkTo_25 ?_
    refine zi_iald dX12_linkTo_26 (fun v6 => ?_)
    refine zi_iload_n dX12_linkTo_27 rfl 1 rfl ?_
    refine zi_icmp_ge (tgt := 44) dX12_linkTo_28 (by decide) ?_ ?_
    · refine zi_iload_n dX12_linkTo_44 rfl 2 rfl ?_
      exact zi_retI dX12_linkTo_45
    · refine zi_bipush (v := 72) dX12_linkTo_31 (by decide) ?_
      refine zi_aload_n dX12_linkTo_33 rfl 0 rfl ?_
      refine zi_getR dX12_linkTo_34 gf_X12_28 (fun v7 => ?_)
      refine zi_iload_n dX12_linkTo_37 rfl 2 rfl ?_
      refine zi_iald dX12_linkTo_38 (fun v8 => ?_)
      refine zi_iadd dX12_linkTo_39 ?_
      refine zi_let (sf := fun x9 => .int x9 :: []) (fun x9 => ?_)
      refine zi_istore_n (l' := [(2, .int x9), (0, .ref (zbase G + l0)), (1, .int l1)]) dX12_linkTo_40 rfl (by decide) rfl ?_
      refine zi_goto (tgt := 3) dX12_linkTo_41 (by decide) ?_
      refine zi_sub [1, 2, 0] rfl ?_
      exact hk3 l0 l1 x9 h
theorem wl_X12_linkTo_3 (G : zG) (n : Nat) : ∀ (t : Nat) (l0 : Nat) (l1 : Int32) (l2 : Int32) (h : zH), zW G yX12_linkTo cX12_linkTo 3 (some .int) zvI 1 3 [(0, .ref (zbase G + l0)), (1, .int l1), (2, .int l2)] [] h (zlp3 (fb_X12_linkTo_3 n ) t l0 l1 l2 h) := by
  intro t
  induction t with
  | zero => intros; exact zW_none
  | succ t ih => intro l0 l1 l2 h; rw [zlp3_s]; exact wb_X12_linkTo_3 G n  _  ih l0 l1 l2 h
set_option maxRecDepth 20000 in
set_option maxHeartbeats 1000000 in
theorem k_X12_linkTo (G : zG) (n : Nat) (a0 : Nat) (a1 : Int32) (h : zH) : zMet G yX12_linkTo cX12_linkTo 3 (some .int) zvI 1 [.ref (zbase G + a0), .int a1] h (f_X12_linkTo n a0 a1 h) := by
  refine zMet_of (l := [(0, .ref (zbase G + a0)), (1, .int a1)]) (by decide) (Nat.le_of_ble_eq_true rfl) rfl ?_
  unfold f_X12_linkTo
  refine zi_bipush (v := 96) dX12_linkTo_0 (by decide) ?_
  refine zi_istore_n (l' := [(2, .int 96), (0, .ref (zbase G + a0)), (1, .int a1)]) dX12_linkTo_2 rfl (by decide) rfl ?_
  refine zi_sub [1, 2, 0] rfl ?_
  exact wl_X12_linkTo_3 G n n a0 a1 96 h
set_option maxRecDepth 20000 in
set_option maxHeartbeats 1000000 in
theorem k_X12_ages (G : zG) (n : Nat) (a0 : Nat) (a1 : Int32) (h : zH) : zMet G yX12_ages cX12_ages 2 none zvU 1 [.ref (zbase G + a0), .int a1] h (f_X12_ages n a0 a1 h) := by
  refine zMet_of (l := [(0, .ref (zbase G + a0)), (1, .int a1)]) (by decide) (Nat.le_of_ble_eq_true rfl) rfl ?_
  unfold f_X12_ages
  refine zi_aload_n dX12_ages_0 rfl 0 rfl ?_
  refine zi_getR dX12_ages_1 gf_X12_28 (fun v1 => ?_)
  refine zi_iconst (v := 0) dX12_ages_4 (by decide) ?_
  refine zi_iload_n dX12_ages_5 rfl 1 rfl ?_
  refine zi_iadd dX12_ages_6 ?_
  refine zi_iconst (v := 2) dX12_ages_7 (by decide) ?_
  refine zi_iast dX12_ages_8 (fun h2 => ?_)
  refine zi_aload_n dX12_ages_9 rfl 0 rfl ?_
  refine zi_getR dX12_ages_10 gf_X12_28 (fun v3 => ?_)
  refine zi_sipush (v := 140) dX12_ages_13 (by decide) ?_
  refine zi_aload_n dX12_ages_16 rfl 0 rfl ?_
  refine zi_getR dX12_ages_17 gf_X12_28 (fun v4 => ?_)
  refine zi_sipush (v := 139) dX12_ages_20 (by decide) ?_
  refine zi_iald dX12_ages_23 (fun v5 => ?_)
  refine zi_iadd dX12_ages_24 ?_
  refine zi_iload_n dX12_ages_25 rfl 1 rfl ?_
  refine zi_iast dX12_ages_26 (fun h6 => ?_)
  refine zi_aload_n dX12_ages_27 rfl 0 rfl ?_
  refine zi_getR dX12_ages_28 gf_X12_28 (fun v7 => ?_)
  refine zi_sipush (v := 139) dX12_ages_31 (by decide) ?_
  refine zi_dup2 dX12_ages_34 rfl rfl ?_
  refine zi_iald dX12_ages_35 (fun v8 => ?_)
  refine zi_iconst (v := 1) dX12_ages_36 (by decide) ?_
  refine zi_iadd dX12_ages_37 ?_
  refine zi_iast dX12_ages_38 (fun h9 => ?_)
  exact zi_retV dX12_ages_39
set_option maxRecDepth 20000 in
set_option maxHeartbeats 1000000 in
theorem wb_X12_puts_144 (G : zG) (n : Nat) (l0 : Nat) (l3 : Int32) (l4 : Int32) (l5 : Int32) (l6 : Int32) (s0 : Nat) (s1 : Int32) (s2 : Int32) (h : zH) : zW G yX12_puts cX12_puts 7 (some .int) zvI 90 144 [(0, .ref (zbase G + l0)), (3, .int l3), (4, .int l4), (5, .int l5), (6, .int l6)] [.int s2, .int s1, .ref (zbase G + s0)] h (fb_X12_puts_144 n l0 l3 l4 l5 l6 s0 s1 s2 h) := by
  unfold fb_X12_puts_144
  refine zi_iast dX12_puts_144 (fun h1 => ?_)
  refine zi_aload_n dX12_puts_145 rfl 0 rfl ?_
  refine zi_getR dX12_puts_146 gf_X12_28 (fun v2 => ?_)
  refine zi_iload dX12_puts_149 2 rfl ?_
  refine zi_iload_n dX12_puts_151 rfl 1 rfl ?_
  refine zi_iast dX12_puts_152 (fun h3 => ?_)
  refine zi_iload dX12_puts_153 4 rfl ?_
  refine zi_if_eq (tgt := 164) dX12_puts_155 (by decide) ?_ ?_
  · refine zi_iload_n dX12_puts_164 rfl 1 rfl ?_
    exact zi_retI dX12_puts_165
  · refine zi_aload_n dX12_puts_158 rfl 0 rfl ?_
    refine zi_iload dX12_puts_159 3 rfl ?_
    refine zi_callVU (As := [.int l5]) (rest := []) (ci := 12) dX12_puts_161 ml_X12_324 md_X12_ages mv_X12_ages rfl (by decide) rfl rfl (Nat.le_of_ble_eq_true rfl) (Nat.le_of_ble_eq_true rfl) (k_X12_ages G n l0 l5 h3) (fun _ h5 => ?_)
    refine zi_iload_n dX12_puts_164 rfl 1 rfl ?_
    exact zi_retI dX12_puts_165
set_option maxRecDepth 20000 in
set_option maxHeartbeats 1000000 in
theorem wb_X12_puts_85 (G : zG) (n : Nat) (l0 : Nat) (l1 : Int32) (l2 : Int32) (l3 : Int32) (l4 : Int32) (l5 : Int32) (s0 : Int32) (h : zH) : zW G yX12_puts cX12_puts 7 (some .int) zvI 90 85 [(0, .ref (zbase G + l0)), (1, .int l1), (2, .int l2), (3, .int l3), (4, .int l4), (5, .int l5)] [.int s0] h (fb_X12_puts_85 n l0 l1 l2 l3 l4 l5 s0 h) := by
  unfold fb_X12_puts_85
  refine zi_istore (l' := [(6, .int s0), (0, .ref (zbase G + l0)), (1, .int l1), (2, .int l2), (3, .int l3), (4, .int l4), (5, .int l5)]) dX12_puts_85 (by decide) rfl ?_
  refine zi_aload_n dX12_puts_87 rfl 1 rfl ?_
  refine zi_getR dX12_puts_88 gf_X12_28 (fun v1 => ?_)
  refine zi_iconst (v := 0) dX12_puts_91 (by decide) ?_
  refine zi_iload_n dX12_puts_92 rfl 4 rfl ?_
  refine zi_iadd dX12_puts_93 ?_
  refine zi_iconst (v := 1) dX12_puts_94 (by decide) ?_
  refine zi_iast dX12_puts_95 (fun h2 => ?_)
  refine zi_aload_n dX12_puts_96 rfl 1 rfl ?_
  refine zi_getR dX12_puts_97 gf_X12_28 (fun v3 => ?_)
  refine zi_bipush (v := 24) dX12_puts_100 (by decide) ?_
  refine zi_iload_n dX12_puts_102 rfl 4 rfl ?_
  refine zi_iadd dX12_puts_103 ?_
  refine zi_iload_n dX12_puts_104 rfl 2 rfl ?_
  refine zi_iast dX12_puts_105 (fun h4 => ?_)
  refine zi_aload_n dX12_puts_106 rfl 1 rfl ?_
  refine zi_getR dX12_puts_107 gf_X12_28 (fun v5 => ?_)
  refine zi_bipush (v := 48) dX12_puts_110 (by decide) ?_
  refine zi_iload_n dX12_puts_112 rfl 4 rfl ?_
  refine zi_iadd dX12_puts_113 ?_
  refine zi_iload_n dX12_puts_114 rfl 3 rfl ?_
  refine zi_iast dX12_puts_115 (fun h6 => ?_)
  refine zi_aload_n dX12_puts_116 rfl 1 rfl ?_
  refine zi_getR dX12_puts_117 gf_X12_28 (fun v7 => ?_)
  refine zi_bipush (v := 72) dX12_puts_120 (by decide) ?_
  refine zi_iload_n dX12_puts_122 rfl 4 rfl ?_
  refine zi_iadd dX12_puts_123 ?_
  refine zi_iload dX12_puts_124 0 rfl ?_
  refine zi_if_eq (tgt := 142) dX12_puts_126 (by decide) ?_ ?_
  · refine zi_iload dX12_puts_142 6 rfl ?_
    refine zi_sub [1, 4, 5, 6, 0] rfl ?_
    exact wb_X12_puts_144 G n l0 l3 l4 l5 s0 v7 ((72 : Int32) + l3) l5 h6
  · refine zi_aload_n dX12_puts_129 rfl 1 rfl ?_
    refine zi_getR dX12_puts_130 gf_X12_28 (fun v8 => ?_)
    refine zi_bipush (v := 72) dX12_puts_133 (by decide) ?_
    refine zi_iload dX12_puts_135 6 rfl ?_
    refine zi_iadd dX12_puts_137 ?_
    refine zi_iald dX12_puts_138 (fun v9 => ?_)
    refine zi_goto (tgt := 144) dX12_puts_139 (by decide) ?_
    refine zi_sub [1, 4, 5, 6, 0] rfl ?_
    exact wb_X12_puts_144 G n l0 l3 l4 l5 s0 v7 ((72 : Int32) + l3) v9 h6
set_option maxRecDepth 20000 in
set_option maxHeartbeats 1000000 in
theorem wb_X12_puts_84 (G : zG) (n : Nat) (l0 : Nat) (l1 : Int32) (l2 : Int32) (l3 : Int32) (l4 : Int32) (l5 : Int32) (h : zH) : zW G yX12_puts cX12_puts 7 (some .int) zvI 90 84 [(0, .ref (zbase G + l0)), (1, .int l1), (2, .int l2), (3, .int l3), (4, .int l4), (5, .int l5)] [] h (fb_X12_puts_84 n l0 l1 l2 l3 l4 l5 h) := by
  unfold fb_X12_puts_84
  refine zi_iconst (v := 0) dX12_puts_84 (by decide) ?_
  refine zi_sub [0, 1, 2, 3, 4, 5] rfl ?_
  exact wb_X12_puts_85 G n l0 l1 l2 l3 l4 l5 0 h
set_option maxRecDepth 20000 in
set_option maxHeartbeats 1000000 in
theorem k_X12_puts (G : zG) (n : Nat) (a0 : Nat) (a1 : Int32) (a2 : Int32) (h : zH) : zMet G yX12_puts cX12_puts 7 (some .int) zvI 90 [.ref (zbase G + a0), .int a1, .int a2] h (f_X12_puts n a0 a1 a2 h) := by
  refine zMet_of (l := [(0, .ref (zbase G + a0)), (1, .int a1), (2, .int a2)]) (by decide) (Nat.le_of_ble_eq_true rfl) rfl ?_
  unfold f_X12_puts
  refine zi_iload_n dX12_puts_0 rfl 1 rfl ?_
  refine zi_callSI (As := [.int a1]) (rest := []) dX12_puts_1 ml_X12_121 md_X12_isKey ms_X12_isKey rfl rfl (Nat.le_of_ble_eq_true rfl) (Nat.le_of_ble_eq_true rfl) (k_X12_isKey G n a1 h) (fun r1 h2 => ?_)
  refine zi_if_eq (tgt := 18) dX12_puts_4 (by decide) ?_ ?_
  · refine zi_iconst (v := (-1)) dX12_puts_18 (by decide) ?_
    exact zi_retI dX12_puts_19
  · refine zi_iload_n dX12_puts_7 rfl 2 rfl ?_
    refine zi_iconst (v := 0) dX12_puts_8 (by decide) ?_
    refine zi_sipush (v := 999) dX12_puts_9 (by decide) ?_
    refine zi_callSI (As := [.int a2, .int 0, .int 999]) (rest := []) dX12_puts_12 ml_X12_18 md_X12_lies ms_X12_lies rfl rfl (Nat.le_of_ble_eq_true rfl) (Nat.le_of_ble_eq_true rfl) (k_X12_lies G n a2 0 999 h2) (fun r3 h4 => ?_)
    refine zi_if_ne (tgt := 20) dX12_puts_15 (by decide) ?_ ?_
    · refine zi_aload_n dX12_puts_20 rfl 0 rfl ?_
      refine zi_iload_n dX12_puts_21 rfl 1 rfl ?_
      refine zi_callVI (As := [.int a1]) (rest := []) (ci := 12) dX12_puts_22 ml_X12_314 md_X12_isBarred mv_X12_isBarred rfl (by decide) rfl rfl (Nat.le_of_ble_eq_true rfl) (Nat.le_of_ble_eq_true rfl) (k_X12_isBarred G n a0 a1 h4) (fun r5 h6 => ?_)
      refine zi_if_eq (tgt := 31) dX12_puts_25 (by decide) ?_ ?_
      · refine zi_aload_n dX12_puts_31 rfl 0 rfl ?_
        refine zi_callVI (As := []) (rest := []) (ci := 12) dX12_puts_32 ml_X12_317 md_X12_lowestFree mv_X12_lowestFree rfl (by decide) rfl rfl (Nat.le_of_ble_eq_true rfl) (Nat.le_of_ble_eq_true rfl) (k_X12_lowestFree G n a0 h6) (fun r7 h8 => ?_)
        refine zi_istore_n (l' := [(3, .int r7), (0, .ref (zbase G + a0)), (1, .int a1), (2, .int a2)]) dX12_puts_35 rfl (by decide) rfl ?_
        refine zi_iload_n dX12_puts_36 rfl 0 rfl ?_
        refine zi_iconst (v := (-1)) dX12_puts_37 (by decide) ?_
        refine zi_icmp_ne (tgt := 44) dX12_puts_38 (by decide) ?_ ?_
        · refine zi_aload_n dX12_puts_44 rfl 1 rfl ?_
          refine zi_iload_n dX12_puts_45 rfl 2 rfl ?_
          refine zi_callVI (As := [.int a1]) (rest := []) (ci := 12) dX12_puts_46 ml_X12_321 md_X12_linkTo mv_X12_linkTo rfl (by decide) rfl rfl (Nat.le_of_ble_eq_true rfl) (Nat.le_of_ble_eq_true rfl) (k_X12_linkTo G n a0 a1 h8) (fun r9 h10 => ?_)
          refine zi_istore (l' := [(4, .int r9), (3, .int r7), (0, .ref (zbase G + a0)), (1, .int a1), (2, .int a2)]) dX12_puts_49 (by decide) rfl ?_
          refine zi_aload_n dX12_puts_51 rfl 2 rfl ?_
          refine zi_getR dX12_puts_52 gf_X12_28 (fun v11 => ?_)
          refine zi_iload dX12_puts_55 0 rfl ?_
          refine zi_iald dX12_puts_57 (fun v12 => ?_)
          refine zi_istore (l' := [(5, .int v12), (4, .int r9), (3, .int r7), (0, .ref (zbase G + a0)), (1, .int a1), (2, .int a2)]) dX12_puts_58 (by decide) rfl ?_
          refine zi_iload dX12_puts_60 0 rfl ?_
          refine zi_iconst (v := (-1)) dX12_puts_62 (by decide) ?_
          refine zi_icmp_eq (tgt := 84) dX12_puts_63 (by decide) ?_ ?_
          · refine zi_sub [3, 4, 5, 2, 1, 0] rfl ?_
            exact wb_X12_puts_84 G n a0 a1 a2 r7 r9 v12 h10
          · refine zi_aload_n dX12_puts_66 rfl 3 rfl ?_
            refine zi_getR dX12_puts_67 gf_X12_28 (fun v13 => ?_)
            refine zi_bipush (v := 24) dX12_puts_70 (by decide) ?_
            refine zi_iload dX12_puts_72 0 rfl ?_
            refine zi_iadd dX12_puts_74 ?_
            refine zi_iald dX12_puts_75 (fun v14 => ?_)
            refine zi_iload_n dX12_puts_76 rfl 4 rfl ?_
            refine zi_icmp_ne (tgt := 84) dX12_puts_77 (by decide) ?_ ?_
            · refine zi_sub [3, 4, 5, 2, 1, 0] rfl ?_
              exact wb_X12_puts_84 G n a0 a1 a2 r7 r9 v12 h10
            · refine zi_iconst (v := 1) dX12_puts_80 (by decide) ?_
              refine zi_goto (tgt := 85) dX12_puts_81 (by decide) ?_
              refine zi_sub [3, 4, 5, 2, 1, 0] rfl ?_
              exact wb_X12_puts_85 G n a0 a1 a2 r7 r9 v12 1 h10
        · refine zi_bipush (v := (-5)) dX12_puts_41 (by decide) ?_
          exact zi_retI dX12_puts_43
      · refine zi_bipush (v := (-3)) dX12_puts_28 (by decide) ?_
        exact zi_retI dX12_puts_30
    · refine zi_iconst (v := (-1)) dX12_puts_18 (by decide) ?_
      exact zi_retI dX12_puts_19
set_option maxRecDepth 20000 in
set_option maxHeartbeats 1000000 in
theorem wb_X12_row_109 (G : zG) (n : Nat) (l0 : Nat) (l2 : Int32) (h : zH) : zW G yX12_row cX12_row 5 (some .int) zvI 91 109 [(0, .ref (zbase G + l0)), (2, .int l2)] [] h (fb_X12_row_109 n l0 l2 h) := by
  unfold fb_X12_row_109
  refine zi_aload_n dX12_row_109 rfl 0 rfl ?_
  refine zi_iload_n dX12_row_110 rfl 1 rfl ?_
  refine zi_callVI (As := [.int l2]) (rest := []) (ci := 12) dX12_row_111 ml_X12_88 md_X12_settled mv_X12_settled rfl (by decide) rfl rfl (Nat.le_of_ble_eq_true rfl) (Nat.le_of_ble_eq_true rfl) (k_X12_settled G n l0 l2 h) (fun r1 h2 => ?_)
  exact zi_retI dX12_row_114
set_option maxRecDepth 20000 in
set_option maxHeartbeats 1000000 in
theorem wb_X12_row_99 (G : zG) (n : Nat) (k32 : Nat → Int32 → Int32 → Int32 → zH → Option (Int32 × zH)) (hk32 : ∀ (l0 : Nat) (l1 : Int32) (l2 : Int32) (l3 : Int32) (h : zH), zW G yX12_row cX12_row 5 (some .int) zvI 91 32 [(0, .ref (zbase G + l0)), (1, .int l1), (2, .int l2), (3, .int l3)] [] h (k32 l0 l1 l2 l3 h)) (l0 : Nat) (l1 : Int32) (l2 : Int32) (l3 : Int32) (s0 : Nat) (s1 : Int32) (s2 : Int32) (h : zH) : zW G yX12_row cX12_row 5 (some .int) zvI 91 99 [(0, .ref (zbase G + l0)), (1, .int l1), (2, .int l2), (3, .int l3)] [.int s2, .int s1, .ref (zbase G + s0)] h (fb_X12_row_99 n k32 l0 l1 l2 l3 s0 s1 s2 h) := by
  unfold fb_X12_row_99
  refine zi_iadd dX12_row_99 ?_
  refine zi_putI dX12_row_100 gf_X12_136 (fun h1 => ?_)
  refine zi_iinc (j := 3) (v := l3 + 2) (l' := [(3, .int (l3 + 2)), (0, .ref (zbase G + l0)), (1, .int l1), (2, .int l2)]) dX12_row_103 rfl rfl (by decide) rfl ?_
  refine zi_goto (tgt := 32) dX12_row_106 (by decide) ?_
  refine zi_sub [1, 2, 3, 0] rfl ?_
  exact hk32 l0 l1 l2 (l3 + 2) h1
set_option maxRecDepth 20000 in
set_option maxHeartbeats 1000000 in
theorem wb_X12_row_82 (G : zG) (n : Nat) (k32 : Nat → Int32 → Int32 → Int32 → zH → Option (Int32 × zH)) (hk32 : ∀ (l0 : Nat) (l1 : Int32) (l2 : Int32) (l3 : Int32) (h : zH), zW G yX12_row cX12_row 5 (some .int) zvI 91 32 [(0, .ref (zbase G + l0)), (1, .int l1), (2, .int l2), (3, .int l3)] [] h (k32 l0 l1 l2 l3 h)) (l0 : Nat) (l1 : Int32) (l3 : Int32) (l4 : Int32) (s0 : Int32) (s1 : Int32) (h : zH) : zW G yX12_row cX12_row 5 (some .int) zvI 91 82 [(0, .ref (zbase G + l0)), (1, .int l1), (3, .int l3), (4, .int l4)] [.int s1, .int s0] h (fb_X12_row_82 n k32 l0 l1 l3 l4 s0 s1 h) := by
  unfold fb_X12_row_82
  refine zi_iadd dX12_row_82 ?_
  refine zi_let (sf := fun x1 => .int x1 :: []) (fun x1 => ?_)
  refine zi_istore_n (l' := [(2, .int x1), (0, .ref (zbase G + l0)), (1, .int l1), (3, .int l3), (4, .int l4)]) dX12_row_83 rfl (by decide) rfl ?_
  refine zi_aload_n dX12_row_84 rfl 1 rfl ?_
  refine zi_dup dX12_row_85 rfl ?_
  refine zi_getI dX12_row_86 gf_X12_136 (fun v2 => ?_)
  refine zi_iload dX12_row_89 4 rfl ?_
  refine zi_if_eq (tgt := 98) dX12_row_91 (by decide) ?_ ?_
  · refine zi_iconst (v := 1) dX12_row_98 (by decide) ?_
    refine zi_sub [1, 2, 0, 3] rfl ?_
    exact wb_X12_row_99 G n k32 hk32 l0 l1 x1 l3 l0 v2 1 h
  · refine zi_iconst (v := 0) dX12_row_94 (by decide) ?_
    refine zi_goto (tgt := 99) dX12_row_95 (by decide) ?_
    refine zi_sub [1, 2, 0, 3] rfl ?_
    exact wb_X12_row_99 G n k32 hk32 l0 l1 x1 l3 l0 v2 0 h
set_option maxRecDepth 20000 in
set_option maxHeartbeats 1000000 in
theorem wb_X12_row_69 (G : zG) (n : Nat) (k32 : Nat → Int32 → Int32 → Int32 → zH → Option (Int32 × zH)) (hk32 : ∀ (l0 : Nat) (l1 : Int32) (l2 : Int32) (l3 : Int32) (h : zH), zW G yX12_row cX12_row 5 (some .int) zvI 91 32 [(0, .ref (zbase G + l0)), (1, .int l1), (2, .int l2), (3, .int l3)] [] h (k32 l0 l1 l2 l3 h)) (l0 : Nat) (l1 : Int32) (l2 : Int32) (l3 : Int32) (s0 : Int32) (h : zH) : zW G yX12_row cX12_row 5 (some .int) zvI 91 69 [(0, .ref (zbase G + l0)), (1, .int l1), (2, .int l2), (3, .int l3)] [.int s0] h (fb_X12_row_69 n k32 l0 l1 l2 l3 s0 h) := by
  unfold fb_X12_row_69
  refine zi_istore (l' := [(4, .int s0), (0, .ref (zbase G + l0)), (1, .int l1), (2, .int l2), (3, .int l3)]) dX12_row_69 (by decide) rfl ?_
  refine zi_iload_n dX12_row_71 rfl 3 rfl ?_
  refine zi_iload dX12_row_72 0 rfl ?_
  refine zi_if_eq (tgt := 81) dX12_row_74 (by decide) ?_ ?_
  · refine zi_iconst (v := 0) dX12_row_81 (by decide) ?_
    refine zi_sub [1, 2, 4, 0] rfl ?_
    exact wb_X12_row_82 G n k32 hk32 l0 l1 l3 s0 l2 0 h
  · refine zi_iconst (v := 1) dX12_row_77 (by decide) ?_
    refine zi_goto (tgt := 82) dX12_row_78 (by decide) ?_
    refine zi_sub [1, 2, 4, 0] rfl ?_
    exact wb_X12_row_82 G n k32 hk32 l0 l1 l3 s0 l2 1 h
set_option maxRecDepth 20000 in
set_option maxHeartbeats 1000000 in
theorem wb_X12_row_32 (G : zG) (n : Nat) (k32 : Nat → Int32 → Int32 → Int32 → zH → Option (Int32 × zH)) (hk32 : ∀ (l0 : Nat) (l1 : Int32) (l2 : Int32) (l3 : Int32) (h : zH), zW G yX12_row cX12_row 5 (some .int) zvI 91 32 [(0, .ref (zbase G + l0)), (1, .int l1), (2, .int l2), (3, .int l3)] [] h (k32 l0 l1 l2 l3 h)) (l0 : Nat) (l1 : Int32) (l2 : Int32) (l3 : Int32) (h : zH) : zW G yX12_row cX12_row 5 (some .int) zvI 91 32 [(0, .ref (zbase G + l0)), (1, .int l1), (2, .int l2), (3, .int l3)] [] h (fb_X12_row_32 n k32 l0 l1 l2 l3 h) := by
  unfold fb_X12_row_32
  refine zi_iload_n dX12_row_32 rfl 3 rfl ?_
  refine zi_iconst (v := 2) dX12_row_33 (by decide) ?_
  refine zi_iadd dX12_row_34 ?_
  refine zi_iload_n dX12_row_35 rfl 1 rfl ?_
  refine zi_icmp_gt (tgt := 109) dX12_row_36 (by decide) ?_ ?_
  · refine zi_sub [0, 2] rfl ?_
    exact wb_X12_row_109 G n l0 l2 h
  · refine zi_aload_n dX12_row_39 rfl 0 rfl ?_
    refine zi_aload_n dX12_row_40 rfl 0 rfl ?_
    refine zi_getR dX12_row_41 gf_X12_45 (fun v1 => ?_)
    refine zi_iload_n dX12_row_44 rfl 3 rfl ?_
    refine zi_bald dX12_row_45 (fun v2 => ?_)
    refine zi_aload_n dX12_row_46 rfl 0 rfl ?_
    refine zi_getR dX12_row_47 gf_X12_45 (fun v3 => ?_)
    refine zi_iload_n dX12_row_50 rfl 3 rfl ?_
    refine zi_iconst (v := 1) dX12_row_51 (by decide) ?_
    refine zi_iadd dX12_row_52 ?_
    refine zi_bald dX12_row_53 (fun v4 => ?_)
    refine zi_sipush (v := 255) dX12_row_54 (by decide) ?_
    refine zi_iand dX12_row_57 ?_
    refine zi_callVI (As := [.int v2, .int (v4 &&& 255)]) (rest := []) (ci := 12) dX12_row_58 ml_X12_139 md_X12_puts mv_X12_puts rfl (by decide) rfl rfl (Nat.le_of_ble_eq_true rfl) (Nat.le_of_ble_eq_true rfl) (k_X12_puts G n l0 v2 (v4 &&& 255) h) (fun r5 h6 => ?_)
    refine zi_if_lt (tgt := 68) dX12_row_61 (by decide) ?_ ?_
    · refine zi_iconst (v := 0) dX12_row_68 (by decide) ?_
      refine zi_sub [0, 1, 2, 3] rfl ?_
      exact wb_X12_row_69 G n k32 hk32 l0 l1 l2 l3 0 h6
    · refine zi_iconst (v := 1) dX12_row_64 (by decide) ?_
      refine zi_goto (tgt := 69) dX12_row_65 (by decide) ?_
      refine zi_sub [0, 1, 2, 3] rfl ?_
      exact wb_X12_row_69 G n k32 hk32 l0 l1 l2 l3 1 h6
theorem wl_X12_row_32 (G : zG) (n : Nat) : ∀ (t : Nat) (l0 : Nat) (l1 : Int32) (l2 : Int32) (l3 : Int32) (h : zH), zW G yX12_row cX12_row 5 (some .int) zvI 91 32 [(0, .ref (zbase G + l0)), (1, .int l1), (2, .int l2), (3, .int l3)] [] h (zlp4 (fb_X12_row_32 n ) t l0 l1 l2 l3 h) := by
  intro t
  induction t with
  | zero => intros; exact zW_none
  | succ t ih => intro l0 l1 l2 l3 h; rw [zlp4_s]; exact wb_X12_row_32 G n  _  ih l0 l1 l2 l3 h
set_option maxRecDepth 20000 in
set_option maxHeartbeats 1000000 in
theorem k_X12_row (G : zG) (n : Nat) (a0 : Nat) (h : zH) : zMet G yX12_row cX12_row 5 (some .int) zvI 91 [.ref (zbase G + a0)] h (f_X12_row n a0 h) := by
  refine zMet_of (l := [(0, .ref (zbase G + a0))]) (by decide) (Nat.le_of_ble_eq_true rfl) rfl ?_
  unfold f_X12_row
  refine zi_aload_n dX12_row_0 rfl 0 rfl ?_
  refine zi_getI dX12_row_1 gf_X12_133 (fun v1 => ?_)
  refine zi_istore_n (l' := [(1, .int v1), (0, .ref (zbase G + a0))]) dX12_row_4 rfl (by decide) rfl ?_
  refine zi_aload_n dX12_row_5 rfl 1 rfl ?_
  refine zi_iconst (v := 0) dX12_row_6 (by decide) ?_
  refine zi_putI dX12_row_7 gf_X12_133 (fun h2 => ?_)
  refine zi_iload_n dX12_row_10 rfl 0 rfl ?_
  refine zi_if_ne (tgt := 21) dX12_row_11 (by decide) ?_ ?_
  · refine zi_iconst (v := 0) dX12_row_21 (by decide) ?_
    refine zi_istore_n (l' := [(2, .int 0), (1, .int v1), (0, .ref (zbase G + a0))]) dX12_row_22 rfl (by decide) rfl ?_
    refine zi_aload_n dX12_row_23 rfl 2 rfl ?_
    refine zi_iload_n dX12_row_24 rfl 1 rfl ?_
    refine zi_iconst (v := 2) dX12_row_25 (by decide) ?_
    refine zi_irem dX12_row_26 (by decide) ?_
    refine zi_putI dX12_row_27 gf_X12_136 (fun h3 => ?_)
    refine zi_iconst (v := 0) dX12_row_30 (by decide) ?_
    refine zi_istore_n (l' := [(3, .int 0), (2, .int 0), (1, .int v1), (0, .ref (zbase G + a0))]) dX12_row_31 rfl (by decide) rfl ?_
    refine zi_sub [3, 2, 1, 0] rfl ?_
    exact wl_X12_row_32 G n n a0 v1 0 0 h3
  · refine zi_aload_n dX12_row_14 rfl 1 rfl ?_
    refine zi_bipush (v := (-6)) dX12_row_15 (by decide) ?_
    refine zi_callVI (As := [.int (-6)]) (rest := []) (ci := 12) dX12_row_17 ml_X12_85 md_X12_refuses mv_X12_refuses rfl (by decide) rfl rfl (Nat.le_of_ble_eq_true rfl) (Nat.le_of_ble_eq_true rfl) (k_X12_refuses G n a0 (-6) h2) (fun r4 h5 => ?_)
    exact zi_retI dX12_row_20
set_option maxRecDepth 20000 in
set_option maxHeartbeats 1000000 in
theorem k_X12_tears (G : zG) (n : Nat) (a0 : Nat) (h : zH) : zMet G yX12_tears cX12_tears 1 (some .int) zvI 1 [.ref (zbase G + a0)] h (f_X12_tears n a0 h) := by
  refine zMet_of (l := [(0, .ref (zbase G + a0))]) (by decide) (Nat.le_of_ble_eq_true rfl) rfl ?_
  unfold f_X12_tears
  refine zi_aload_n dX12_tears_0 rfl 0 rfl ?_
  refine zi_getI dX12_tears_1 gf_X12_136 (fun v1 => ?_)
  exact zi_retI dX12_tears_4
set_option maxRecDepth 20000 in
set_option maxHeartbeats 1000000 in
theorem wb_X12_feed_101 (G : zG) (n : Nat) (l0 : Nat) (h : zH) : zW G yX12_feed cX12_feed 7 (some .int) zvI 1 101 [(0, .ref (zbase G + l0))] [] h (fb_X12_feed_101 n l0 h) := by
  unfold fb_X12_feed_101
  refine zi_aload_n dX12_feed_101 rfl 0 rfl ?_
  refine zi_dup dX12_feed_102 rfl ?_
  refine zi_getI dX12_feed_103 gf_X12_133 (fun v1 => ?_)
  refine zi_bipush (v := 20) dX12_feed_106 (by decide) ?_
  refine zi_iadd dX12_feed_108 ?_
  refine zi_putI dX12_feed_109 gf_X12_133 (fun h2 => ?_)
  refine zi_aload_n dX12_feed_112 rfl 0 rfl ?_
  refine zi_getI dX12_feed_113 gf_X12_133 (fun v3 => ?_)
  exact zi_retI dX12_feed_116
set_option maxRecDepth 20000 in
set_option maxHeartbeats 1000000 in
theorem wb_X12_feed_55 (G : zG) (n : Nat) (k55 : Nat → Int32 → zH → Option (Int32 × zH)) (hk55 : ∀ (l0 : Nat) (l6 : Int32) (h : zH), zW G yX12_feed cX12_feed 7 (some .int) zvI 1 55 [(0, .ref (zbase G + l0)), (6, .int l6)] [] h (k55 l0 l6 h)) (l0 : Nat) (l6 : Int32) (h : zH) : zW G yX12_feed cX12_feed 7 (some .int) zvI 1 55 [(0, .ref (zbase G + l0)), (6, .int l6)] [] h (fb_X12_feed_55 n k55 l0 l6 h) := by
  unfold fb_X12_feed_55
  refine zi_iload dX12_feed_55 1 rfl ?_
  refine zi_bipush (v := 20) dX12_feed_57 (by decide) ?_
  refine zi_icmp_ge (tgt := 101) dX12_feed_59 (by decide) ?_ ?_
  · refine zi_sub [0] rfl ?_
    exact wb_X12_feed_101 G n l0 h
  · refine zi_aload_n dX12_feed_62 rfl 0 rfl ?_
    refine zi_getR dX12_feed_63 gf_X12_45 (fun v1 => ?_)
    refine zi_aload_n dX12_feed_66 rfl 0 rfl ?_
    refine zi_getI dX12_feed_67 gf_X12_133 (fun v2 => ?_)
    refine zi_iload dX12_feed_70 1 rfl ?_
    refine zi_iadd dX12_feed_72 ?_
    refine zi_aload_n dX12_feed_73 rfl 0 rfl ?_
    refine zi_getR dX12_feed_74 gf_X12_48 (fun v3 => ?_)
    refine zi_iload dX12_feed_77 1 rfl ?_
    refine zi_iconst (v := 4) dX12_feed_79 (by decide) ?_
    refine zi_idiv dX12_feed_80 (by decide) ?_
    refine zi_iald dX12_feed_81 (fun v4 => ?_)
    refine zi_bipush (v := 24) dX12_feed_82 (by decide) ?_
    refine zi_bipush (v := 8) dX12_feed_84 (by decide) ?_
    refine zi_iload dX12_feed_86 1 rfl ?_
    refine zi_iconst (v := 4) dX12_feed_88 (by decide) ?_
    refine zi_irem dX12_feed_89 (by decide) ?_
    refine zi_imul dX12_feed_90 ?_
    refine zi_isub dX12_feed_91 ?_
    refine zi_ishr dX12_feed_92 ?_
    refine zi_i2b dX12_feed_93 ?_
    refine zi_bast dX12_feed_94 (fun h5 => ?_)
    refine zi_iinc (j := 1) (v := l6 + 1) (l' := [(6, .int (l6 + 1)), (0, .ref (zbase G + l0))]) dX12_feed_95 rfl rfl (by decide) rfl ?_
    refine zi_goto (tgt := 55) dX12_feed_98 (by decide) ?_
    refine zi_sub [1, 0] rfl ?_
    exact hk55 l0 (l6 + 1) h5
theorem wl_X12_feed_55 (G : zG) (n : Nat) : ∀ (t : Nat) (l0 : Nat) (l6 : Int32) (h : zH), zW G yX12_feed cX12_feed 7 (some .int) zvI 1 55 [(0, .ref (zbase G + l0)), (6, .int l6)] [] h (zlp2 (fb_X12_feed_55 n ) t l0 l6 h) := by
  intro t
  induction t with
  | zero => intros; exact zW_none
  | succ t ih => intro l0 l6 h; rw [zlp2_s]; exact wb_X12_feed_55 G n  _  ih l0 l6 h
set_option maxRecDepth 20000 in
set_option maxHeartbeats 1000000 in
theorem k_X12_feed (G : zG) (n : Nat) (a0 : Nat) (a1 : Int32) (a2 : Int32) (a3 : Int32) (a4 : Int32) (a5 : Int32) (h : zH) : zMet G yX12_feed cX12_feed 7 (some .int) zvI 1 [.ref (zbase G + a0), .int a1, .int a2, .int a3, .int a4, .int a5] h (f_X12_feed n a0 a1 a2 a3 a4 a5 h) := by
  refine zMet_of (l := [(0, .ref (zbase G + a0)), (1, .int a1), (2, .int a2), (3, .int a3), (4, .int a4), (5, .int a5)]) (by decide) (Nat.le_of_ble_eq_true rfl) rfl ?_
  unfold f_X12_feed
  refine zi_aload_n dX12_feed_0 rfl 0 rfl ?_
  refine zi_getI dX12_feed_1 gf_X12_133 (fun v1 => ?_)
  refine zi_bipush (v := 20) dX12_feed_4 (by decide) ?_
  refine zi_iadd dX12_feed_6 ?_
  refine zi_sipush (v := 400) dX12_feed_7 (by decide) ?_
  refine zi_icmp_le (tgt := 15) dX12_feed_10 (by decide) ?_ ?_
  · refine zi_aload_n dX12_feed_15 rfl 0 rfl ?_
    refine zi_getR dX12_feed_16 gf_X12_48 (fun v2 => ?_)
    refine zi_iconst (v := 0) dX12_feed_19 (by decide) ?_
    refine zi_iload_n dX12_feed_20 rfl 1 rfl ?_
    refine zi_iast dX12_feed_21 (fun h3 => ?_)
    refine zi_aload_n dX12_feed_22 rfl 0 rfl ?_
    refine zi_getR dX12_feed_23 gf_X12_48 (fun v4 => ?_)
    refine zi_iconst (v := 1) dX12_feed_26 (by decide) ?_
    refine zi_iload_n dX12_feed_27 rfl 2 rfl ?_
    refine zi_iast dX12_feed_28 (fun h5 => ?_)
    refine zi_aload_n dX12_feed_29 rfl 0 rfl ?_
    refine zi_getR dX12_feed_30 gf_X12_48 (fun v6 => ?_)
    refine zi_iconst (v := 2) dX12_feed_33 (by decide) ?_
    refine zi_iload_n dX12_feed_34 rfl 3 rfl ?_
    refine zi_iast dX12_feed_35 (fun h7 => ?_)
    refine zi_aload_n dX12_feed_36 rfl 0 rfl ?_
    refine zi_getR dX12_feed_37 gf_X12_48 (fun v8 => ?_)
    refine zi_iconst (v := 3) dX12_feed_40 (by decide) ?_
    refine zi_iload dX12_feed_41 4 rfl ?_
    refine zi_iast dX12_feed_43 (fun h9 => ?_)
    refine zi_aload_n dX12_feed_44 rfl 0 rfl ?_
    refine zi_getR dX12_feed_45 gf_X12_48 (fun v10 => ?_)
    refine zi_iconst (v := 4) dX12_feed_48 (by decide) ?_
    refine zi_iload dX12_feed_49 5 rfl ?_
    refine zi_iast dX12_feed_51 (fun h11 => ?_)
    refine zi_iconst (v := 0) dX12_feed_52 (by decide) ?_
    refine zi_istore (l' := [(6, .int 0), (0, .ref (zbase G + a0)), (1, .int a1), (2, .int a2), (3, .int a3), (4, .int a4), (5, .int a5)]) dX12_feed_53 (by decide) rfl ?_
    refine zi_sub [1, 0] rfl ?_
    exact wl_X12_feed_55 G n n a0 0 h11
  · refine zi_iconst (v := (-1)) dX12_feed_13 (by decide) ?_
    exact zi_retI dX12_feed_14
set_option maxRecDepth 20000 in
set_option maxHeartbeats 1000000 in
theorem k_X12_end (G : zG) (n : Nat) (a0 : Nat) (a1 : Int32) (h : zH) : zMet G yX12_end cX12_end 2 (some .int) zvI 2 [.ref (zbase G + a0), .int a1] h (f_X12_end n a0 a1 h) := by
  refine zMet_of (l := [(0, .ref (zbase G + a0)), (1, .int a1)]) (by decide) (Nat.le_of_ble_eq_true rfl) rfl ?_
  unfold f_X12_end
  refine zi_iload_n dX12_end_0 rfl 1 rfl ?_
  refine zi_iconst (v := 0) dX12_end_1 (by decide) ?_
  refine zi_aload_n dX12_end_2 rfl 0 rfl ?_
  refine zi_getI dX12_end_3 gf_X12_133 (fun v1 => ?_)
  refine zi_callSI (As := [.int a1, .int 0, .int v1]) (rest := []) dX12_end_6 ml_X12_18 md_X12_lies ms_X12_lies rfl rfl (Nat.le_of_ble_eq_true rfl) (Nat.le_of_ble_eq_true rfl) (k_X12_lies G n a1 0 v1 h) (fun r2 h3 => ?_)
  refine zi_if_ne (tgt := 14) dX12_end_9 (by decide) ?_ ?_
  · refine zi_aload_n dX12_end_14 rfl 0 rfl ?_
    refine zi_iload_n dX12_end_15 rfl 1 rfl ?_
    refine zi_putI dX12_end_16 gf_X12_133 (fun h4 => ?_)
    refine zi_iload_n dX12_end_19 rfl 1 rfl ?_
    exact zi_retI dX12_end_20
  · refine zi_iconst (v := (-1)) dX12_end_12 (by decide) ?_
    exact zi_retI dX12_end_13
set_option maxRecDepth 20000 in
set_option maxHeartbeats 1000000 in
theorem k_X12_isSmall (G : zG) (n : Nat) (a0 : Int32) (h : zH) : zMet G yX12_isSmall cX12_isSmall 1 (some .boolean) zvI 1 [.int a0] h (f_X12_isSmall n a0 h) := by
  refine zMet_of (l := [(0, .int a0)]) (by decide) (Nat.le_of_ble_eq_true rfl) rfl ?_
  unfold f_X12_isSmall
  refine zi_iload_n dX12_isSmall_0 rfl 0 rfl ?_
  refine zi_bipush (v := 97) dX12_isSmall_1 (by decide) ?_
  refine zi_icmp_lt (tgt := 16) dX12_isSmall_3 (by decide) ?_ ?_
  · refine zi_iconst (v := 0) dX12_isSmall_16 (by decide) ?_
    exact zi_ret0 dX12_isSmall_17
  · refine zi_iload_n dX12_isSmall_6 rfl 0 rfl ?_
    refine zi_bipush (v := 122) dX12_isSmall_7 (by decide) ?_
    refine zi_icmp_gt (tgt := 16) dX12_isSmall_9 (by decide) ?_ ?_
    · refine zi_iconst (v := 0) dX12_isSmall_16 (by decide) ?_
      exact zi_ret0 dX12_isSmall_17
    · refine zi_iconst (v := 1) dX12_isSmall_12 (by decide) ?_
      refine zi_goto (tgt := 17) dX12_isSmall_13 (by decide) ?_
      exact zi_ret1 dX12_isSmall_17
set_option maxRecDepth 20000 in
set_option maxHeartbeats 1000000 in
theorem k_X12_isDigit (G : zG) (n : Nat) (a0 : Int32) (h : zH) : zMet G yX12_isDigit cX12_isDigit 1 (some .boolean) zvI 1 [.int a0] h (f_X12_isDigit n a0 h) := by
  refine zMet_of (l := [(0, .int a0)]) (by decide) (Nat.le_of_ble_eq_true rfl) rfl ?_
  unfold f_X12_isDigit
  refine zi_iload_n dX12_isDigit_0 rfl 0 rfl ?_
  refine zi_bipush (v := 48) dX12_isDigit_1 (by decide) ?_
  refine zi_icmp_lt (tgt := 16) dX12_isDigit_3 (by decide) ?_ ?_
  · refine zi_iconst (v := 0) dX12_isDigit_16 (by decide) ?_
    exact zi_ret0 dX12_isDigit_17
  · refine zi_iload_n dX12_isDigit_6 rfl 0 rfl ?_
    refine zi_bipush (v := 57) dX12_isDigit_7 (by decide) ?_
    refine zi_icmp_gt (tgt := 16) dX12_isDigit_9 (by decide) ?_ ?_
    · refine zi_iconst (v := 0) dX12_isDigit_16 (by decide) ?_
      exact zi_ret0 dX12_isDigit_17
    · refine zi_iconst (v := 1) dX12_isDigit_12 (by decide) ?_
      refine zi_goto (tgt := 17) dX12_isDigit_13 (by decide) ?_
      exact zi_ret1 dX12_isDigit_17
set_option maxRecDepth 20000 in
set_option maxHeartbeats 1000000 in
theorem wb_X12_wordOf_104 (G : zG) (n : Nat) (k5 : Nat → Int32 → Int32 → Int32 → Int32 → zH → Option (Int32 × zH)) (hk5 : ∀ (l0 : Nat) (l1 : Int32) (l2 : Int32) (l3 : Int32) (l4 : Int32) (h : zH), zW G yX12_wordOf cX12_wordOf 8 (some .int) zvI 1 5 [(0, .ref (zbase G + l0)), (1, .int l1), (2, .int l2), (3, .int l3), (4, .int l4)] [] h (k5 l0 l1 l2 l3 l4 h)) (l0 : Nat) (l1 : Int32) (l2 : Int32) (l3 : Int32) (l4 : Int32) (l5 : Int32) (l6 : Int32) (h : zH) : zW G yX12_wordOf cX12_wordOf 8 (some .int) zvI 1 104 [(0, .ref (zbase G + l0)), (1, .int l1), (2, .int l2), (3, .int l3), (4, .int l4), (5, .int l5), (6, .int l6)] [] h (fb_X12_wordOf_104 n k5 l0 l1 l2 l3 l4 l5 l6 h) := by
  unfold fb_X12_wordOf_104
  refine zi_iload dX12_wordOf_104 6 rfl ?_
  refine zi_if_eq (tgt := 111) dX12_wordOf_106 (by decide) ?_ ?_
  · refine zi_iload dX12_wordOf_111 4 rfl ?_
    refine zi_iload dX12_wordOf_113 5 rfl ?_
    refine zi_iconst (v := 1) dX12_wordOf_115 (by decide) ?_
    refine zi_iadd dX12_wordOf_116 ?_
    refine zi_iadd dX12_wordOf_117 ?_
    refine zi_let (sf := fun x1 => .int x1 :: []) (fun x1 => ?_)
    refine zi_istore (l' := [(4, .int x1), (0, .ref (zbase G + l0)), (1, .int l1), (2, .int l2), (3, .int l3), (5, .int l5), (6, .int l6)]) dX12_wordOf_118 (by decide) rfl ?_
    refine zi_iinc (j := 4) (v := l3 + 1) (l' := [(3, .int (l3 + 1)), (4, .int x1), (0, .ref (zbase G + l0)), (1, .int l1), (2, .int l2), (5, .int l5), (6, .int l6)]) dX12_wordOf_120 rfl rfl (by decide) rfl ?_
    refine zi_goto (tgt := 5) dX12_wordOf_123 (by decide) ?_
    refine zi_sub [2, 3, 4, 0, 1] rfl ?_
    exact hk5 l0 l1 l2 (l3 + 1) x1 h
  · refine zi_iload_n dX12_wordOf_109 rfl 3 rfl ?_
    exact zi_retI dX12_wordOf_110
set_option maxRecDepth 20000 in
set_option maxHeartbeats 1000000 in
theorem wb_X12_wordOf_96 (G : zG) (n : Nat) (k5 : Nat → Int32 → Int32 → Int32 → Int32 → zH → Option (Int32 × zH)) (k57 : Nat → Int32 → Int32 → Int32 → Int32 → Int32 → Int32 → Int32 → zH → Option (Int32 × zH)) (hk5 : ∀ (l0 : Nat) (l1 : Int32) (l2 : Int32) (l3 : Int32) (l4 : Int32) (h : zH), zW G yX12_wordOf cX12_wordOf 8 (some .int) zvI 1 5 [(0, .ref (zbase G + l0)), (1, .int l1), (2, .int l2), (3, .int l3), (4, .int l4)] [] h (k5 l0 l1 l2 l3 l4 h)) (hk57 : ∀ (l0 : Nat) (l1 : Int32) (l2 : Int32) (l3 : Int32) (l4 : Int32) (l5 : Int32) (l6 : Int32) (l7 : Int32) (h : zH), zW G yX12_wordOf cX12_wordOf 8 (some .int) zvI 1 57 [(0, .ref (zbase G + l0)), (1, .int l1), (2, .int l2), (3, .int l3), (4, .int l4), (5, .int l5), (6, .int l6), (7, .int l7)] [] h (k57 l0 l1 l2 l3 l4 l5 l6 l7 h)) (l0 : Nat) (l1 : Int32) (l2 : Int32) (l3 : Int32) (l4 : Int32) (l5 : Int32) (l7 : Int32) (s0 : Int32) (h : zH) : zW G yX12_wordOf cX12_wordOf 8 (some .int) zvI 1 96 [(0, .ref (zbase G + l0)), (1, .int l1), (2, .int l2), (3, .int l3), (4, .int l4), (5, .int l5), (7, .int l7)] [.int s0] h (fb_X12_wordOf_96 n k5 k57 l0 l1 l2 l3 l4 l5 l7 s0 h) := by
  unfold fb_X12_wordOf_96
  refine zi_istore (l' := [(6, .int s0), (0, .ref (zbase G + l0)), (1, .int l1), (2, .int l2), (3, .int l3), (4, .int l4), (5, .int l5), (7, .int l7)]) dX12_wordOf_96 (by decide) rfl ?_
  refine zi_iinc (j := 7) (v := l7 + 1) (l' := [(7, .int (l7 + 1)), (6, .int s0), (0, .ref (zbase G + l0)), (1, .int l1), (2, .int l2), (3, .int l3), (4, .int l4), (5, .int l5)]) dX12_wordOf_98 rfl rfl (by decide) rfl ?_
  refine zi_goto (tgt := 57) dX12_wordOf_101 (by decide) ?_
  refine zi_sub [2, 3, 4, 5, 6, 7, 1, 0] rfl ?_
  exact hk57 l0 l1 l2 l3 l4 l5 s0 (l7 + 1) h
set_option maxRecDepth 20000 in
set_option maxHeartbeats 1000000 in
theorem wb_X12_wordOf_57 (G : zG) (n : Nat) (k5 : Nat → Int32 → Int32 → Int32 → Int32 → zH → Option (Int32 × zH)) (k57 : Nat → Int32 → Int32 → Int32 → Int32 → Int32 → Int32 → Int32 → zH → Option (Int32 × zH)) (hk5 : ∀ (l0 : Nat) (l1 : Int32) (l2 : Int32) (l3 : Int32) (l4 : Int32) (h : zH), zW G yX12_wordOf cX12_wordOf 8 (some .int) zvI 1 5 [(0, .ref (zbase G + l0)), (1, .int l1), (2, .int l2), (3, .int l3), (4, .int l4)] [] h (k5 l0 l1 l2 l3 l4 h)) (hk57 : ∀ (l0 : Nat) (l1 : Int32) (l2 : Int32) (l3 : Int32) (l4 : Int32) (l5 : Int32) (l6 : Int32) (l7 : Int32) (h : zH), zW G yX12_wordOf cX12_wordOf 8 (some .int) zvI 1 57 [(0, .ref (zbase G + l0)), (1, .int l1), (2, .int l2), (3, .int l3), (4, .int l4), (5, .int l5), (6, .int l6), (7, .int l7)] [] h (k57 l0 l1 l2 l3 l4 l5 l6 l7 h)) (l0 : Nat) (l1 : Int32) (l2 : Int32) (l3 : Int32) (l4 : Int32) (l5 : Int32) (l6 : Int32) (l7 : Int32) (h : zH) : zW G yX12_wordOf cX12_wordOf 8 (some .int) zvI 1 57 [(0, .ref (zbase G + l0)), (1, .int l1), (2, .int l2), (3, .int l3), (4, .int l4), (5, .int l5), (6, .int l6), (7, .int l7)] [] h (fb_X12_wordOf_57 n k5 k57 l0 l1 l2 l3 l4 l5 l6 l7 h) := by
  unfold fb_X12_wordOf_57
  refine zi_iload dX12_wordOf_57 7 rfl ?_
  refine zi_iload dX12_wordOf_59 5 rfl ?_
  refine zi_icmp_ge (tgt := 104) dX12_wordOf_61 (by decide) ?_ ?_
  · refine zi_sub [0, 1, 2, 3, 4, 5, 6] rfl ?_
    exact wb_X12_wordOf_104 G n k5 hk5 l0 l1 l2 l3 l4 l5 l6 h
  · refine zi_iload dX12_wordOf_64 6 rfl ?_
    refine zi_if_eq (tgt := 104) dX12_wordOf_66 (by decide) ?_ ?_
    · refine zi_sub [0, 1, 2, 3, 4, 5, 6] rfl ?_
      exact wb_X12_wordOf_104 G n k5 hk5 l0 l1 l2 l3 l4 l5 l6 h
    · refine zi_aload_n dX12_wordOf_69 rfl 0 rfl ?_
      refine zi_getR dX12_wordOf_70 gf_X12_41 (fun v1 => ?_)
      refine zi_iload dX12_wordOf_73 4 rfl ?_
      refine zi_iload dX12_wordOf_75 7 rfl ?_
      refine zi_iadd dX12_wordOf_77 ?_
      refine zi_bald dX12_wordOf_78 (fun v2 => ?_)
      refine zi_aload_n dX12_wordOf_79 rfl 0 rfl ?_
      refine zi_getR dX12_wordOf_80 gf_X12_45 (fun v3 => ?_)
      refine zi_iload_n dX12_wordOf_83 rfl 1 rfl ?_
      refine zi_iload dX12_wordOf_84 7 rfl ?_
      refine zi_iadd dX12_wordOf_86 ?_
      refine zi_bald dX12_wordOf_87 (fun v4 => ?_)
      refine zi_icmp_ne (tgt := 95) dX12_wordOf_88 (by decide) ?_ ?_
      · refine zi_iconst (v := 0) dX12_wordOf_95 (by decide) ?_
        refine zi_sub [0, 1, 2, 3, 4, 5, 7] rfl ?_
        exact wb_X12_wordOf_96 G n k5 k57 hk5 hk57 l0 l1 l2 l3 l4 l5 l7 0 h
      · refine zi_iconst (v := 1) dX12_wordOf_91 (by decide) ?_
        refine zi_goto (tgt := 96) dX12_wordOf_92 (by decide) ?_
        refine zi_sub [0, 1, 2, 3, 4, 5, 7] rfl ?_
        exact wb_X12_wordOf_96 G n k5 k57 hk5 hk57 l0 l1 l2 l3 l4 l5 l7 1 h
theorem wl_X12_wordOf_57 (G : zG) (n : Nat) (k5 : Nat → Int32 → Int32 → Int32 → Int32 → zH → Option (Int32 × zH)) (hk5 : ∀ (l0 : Nat) (l1 : Int32) (l2 : Int32) (l3 : Int32) (l4 : Int32) (h : zH), zW G yX12_wordOf cX12_wordOf 8 (some .int) zvI 1 5 [(0, .ref (zbase G + l0)), (1, .int l1), (2, .int l2), (3, .int l3), (4, .int l4)] [] h (k5 l0 l1 l2 l3 l4 h)) : ∀ (t : Nat) (l0 : Nat) (l1 : Int32) (l2 : Int32) (l3 : Int32) (l4 : Int32) (l5 : Int32) (l6 : Int32) (l7 : Int32) (h : zH), zW G yX12_wordOf cX12_wordOf 8 (some .int) zvI 1 57 [(0, .ref (zbase G + l0)), (1, .int l1), (2, .int l2), (3, .int l3), (4, .int l4), (5, .int l5), (6, .int l6), (7, .int l7)] [] h (zlp8 (fb_X12_wordOf_57 n k5 ) t l0 l1 l2 l3 l4 l5 l6 l7 h) := by
  intro t
  induction t with
  | zero => intros; exact zW_none
  | succ t ih => intro l0 l1 l2 l3 l4 l5 l6 l7 h; rw [zlp8_s]; exact wb_X12_wordOf_57 G n k5  _ hk5  ih l0 l1 l2 l3 l4 l5 l6 l7 h
set_option maxRecDepth 20000 in
set_option maxHeartbeats 1000000 in
theorem wb_X12_wordOf_52 (G : zG) (n : Nat) (k5 : Nat → Int32 → Int32 → Int32 → Int32 → zH → Option (Int32 × zH)) (hk5 : ∀ (l0 : Nat) (l1 : Int32) (l2 : Int32) (l3 : Int32) (l4 : Int32) (h : zH), zW G yX12_wordOf cX12_wordOf 8 (some .int) zvI 1 5 [(0, .ref (zbase G + l0)), (1, .int l1), (2, .int l2), (3, .int l3), (4, .int l4)] [] h (k5 l0 l1 l2 l3 l4 h)) (l0 : Nat) (l1 : Int32) (l2 : Int32) (l3 : Int32) (l4 : Int32) (l5 : Int32) (s0 : Int32) (h : zH) : zW G yX12_wordOf cX12_wordOf 8 (some .int) zvI 1 52 [(0, .ref (zbase G + l0)), (1, .int l1), (2, .int l2), (3, .int l3), (4, .int l4), (5, .int l5)] [.int s0] h (fb_X12_wordOf_52 n k5 l0 l1 l2 l3 l4 l5 s0 h) := by
  unfold fb_X12_wordOf_52
  refine zi_istore (l' := [(6, .int s0), (0, .ref (zbase G + l0)), (1, .int l1), (2, .int l2), (3, .int l3), (4, .int l4), (5, .int l5)]) dX12_wordOf_52 (by decide) rfl ?_
  refine zi_iconst (v := 0) dX12_wordOf_54 (by decide) ?_
  refine zi_istore (l' := [(7, .int 0), (6, .int s0), (0, .ref (zbase G + l0)), (1, .int l1), (2, .int l2), (3, .int l3), (4, .int l4), (5, .int l5)]) dX12_wordOf_55 (by decide) rfl ?_
  refine zi_sub [2, 3, 4, 5, 6, 7, 1, 0] rfl ?_
  exact wl_X12_wordOf_57 G n k5 hk5 n l0 l1 l2 l3 l4 l5 s0 0 h
set_option maxRecDepth 20000 in
set_option maxHeartbeats 1000000 in
theorem wb_X12_wordOf_39 (G : zG) (n : Nat) (k5 : Nat → Int32 → Int32 → Int32 → Int32 → zH → Option (Int32 × zH)) (hk5 : ∀ (l0 : Nat) (l1 : Int32) (l2 : Int32) (l3 : Int32) (l4 : Int32) (h : zH), zW G yX12_wordOf cX12_wordOf 8 (some .int) zvI 1 5 [(0, .ref (zbase G + l0)), (1, .int l1), (2, .int l2), (3, .int l3), (4, .int l4)] [] h (k5 l0 l1 l2 l3 l4 h)) (l0 : Nat) (l1 : Int32) (l2 : Int32) (l3 : Int32) (l4 : Int32) (l5 : Int32) (h : zH) : zW G yX12_wordOf cX12_wordOf 8 (some .int) zvI 1 39 [(0, .ref (zbase G + l0)), (1, .int l1), (2, .int l2), (3, .int l3), (4, .int l4), (5, .int l5)] [] h (fb_X12_wordOf_39 n k5 l0 l1 l2 l3 l4 l5 h) := by
  unfold fb_X12_wordOf_39
  refine zi_iload dX12_wordOf_39 5 rfl ?_
  refine zi_iload_n dX12_wordOf_41 rfl 2 rfl ?_
  refine zi_iload_n dX12_wordOf_42 rfl 1 rfl ?_
  refine zi_isub dX12_wordOf_43 ?_
  refine zi_icmp_ne (tgt := 51) dX12_wordOf_44 (by decide) ?_ ?_
  · refine zi_iconst (v := 0) dX12_wordOf_51 (by decide) ?_
    refine zi_sub [0, 1, 2, 3, 4, 5] rfl ?_
    exact wb_X12_wordOf_52 G n k5 hk5 l0 l1 l2 l3 l4 l5 0 h
  · refine zi_iconst (v := 1) dX12_wordOf_47 (by decide) ?_
    refine zi_goto (tgt := 52) dX12_wordOf_48 (by decide) ?_
    refine zi_sub [0, 1, 2, 3, 4, 5] rfl ?_
    exact wb_X12_wordOf_52 G n k5 hk5 l0 l1 l2 l3 l4 l5 1 h
set_option maxRecDepth 20000 in
set_option maxHeartbeats 1000000 in
theorem wb_X12_wordOf_18 (G : zG) (n : Nat) (k5 : Nat → Int32 → Int32 → Int32 → Int32 → zH → Option (Int32 × zH)) (k18 : Nat → Int32 → Int32 → Int32 → Int32 → Int32 → zH → Option (Int32 × zH)) (hk5 : ∀ (l0 : Nat) (l1 : Int32) (l2 : Int32) (l3 : Int32) (l4 : Int32) (h : zH), zW G yX12_wordOf cX12_wordOf 8 (some .int) zvI 1 5 [(0, .ref (zbase G + l0)), (1, .int l1), (2, .int l2), (3, .int l3), (4, .int l4)] [] h (k5 l0 l1 l2 l3 l4 h)) (hk18 : ∀ (l0 : Nat) (l1 : Int32) (l2 : Int32) (l3 : Int32) (l4 : Int32) (l5 : Int32) (h : zH), zW G yX12_wordOf cX12_wordOf 8 (some .int) zvI 1 18 [(0, .ref (zbase G + l0)), (1, .int l1), (2, .int l2), (3, .int l3), (4, .int l4), (5, .int l5)] [] h (k18 l0 l1 l2 l3 l4 l5 h)) (l0 : Nat) (l1 : Int32) (l2 : Int32) (l3 : Int32) (l4 : Int32) (l5 : Int32) (h : zH) : zW G yX12_wordOf cX12_wordOf 8 (some .int) zvI 1 18 [(0, .ref (zbase G + l0)), (1, .int l1), (2, .int l2), (3, .int l3), (4, .int l4), (5, .int l5)] [] h (fb_X12_wordOf_18 n k5 k18 l0 l1 l2 l3 l4 l5 h) := by
  unfold fb_X12_wordOf_18
  refine zi_aload_n dX12_wordOf_18 rfl 0 rfl ?_
  refine zi_getR dX12_wordOf_19 gf_X12_41 (fun v1 => ?_)
  refine zi_iload dX12_wordOf_22 4 rfl ?_
  refine zi_iload dX12_wordOf_24 5 rfl ?_
  refine zi_iadd dX12_wordOf_26 ?_
  refine zi_bald dX12_wordOf_27 (fun v2 => ?_)
  refine zi_bipush (v := 32) dX12_wordOf_28 (by decide) ?_
  refine zi_icmp_eq (tgt := 39) dX12_wordOf_30 (by decide) ?_ ?_
  · refine zi_sub [0, 1, 2, 3, 4, 5] rfl ?_
    exact wb_X12_wordOf_39 G n k5 hk5 l0 l1 l2 l3 l4 l5 h
  · refine zi_iinc (j := 5) (v := l5 + 1) (l' := [(5, .int (l5 + 1)), (0, .ref (zbase G + l0)), (1, .int l1), (2, .int l2), (3, .int l3), (4, .int l4)]) dX12_wordOf_33 rfl rfl (by decide) rfl ?_
    refine zi_goto (tgt := 18) dX12_wordOf_36 (by decide) ?_
    refine zi_sub [1, 2, 3, 4, 5, 0] rfl ?_
    exact hk18 l0 l1 l2 l3 l4 (l5 + 1) h
theorem wl_X12_wordOf_18 (G : zG) (n : Nat) (k5 : Nat → Int32 → Int32 → Int32 → Int32 → zH → Option (Int32 × zH)) (hk5 : ∀ (l0 : Nat) (l1 : Int32) (l2 : Int32) (l3 : Int32) (l4 : Int32) (h : zH), zW G yX12_wordOf cX12_wordOf 8 (some .int) zvI 1 5 [(0, .ref (zbase G + l0)), (1, .int l1), (2, .int l2), (3, .int l3), (4, .int l4)] [] h (k5 l0 l1 l2 l3 l4 h)) : ∀ (t : Nat) (l0 : Nat) (l1 : Int32) (l2 : Int32) (l3 : Int32) (l4 : Int32) (l5 : Int32) (h : zH), zW G yX12_wordOf cX12_wordOf 8 (some .int) zvI 1 18 [(0, .ref (zbase G + l0)), (1, .int l1), (2, .int l2), (3, .int l3), (4, .int l4), (5, .int l5)] [] h (zlp6 (fb_X12_wordOf_18 n k5 ) t l0 l1 l2 l3 l4 l5 h) := by
  intro t
  induction t with
  | zero => intros; exact zW_none
  | succ t ih => intro l0 l1 l2 l3 l4 l5 h; rw [zlp6_s]; exact wb_X12_wordOf_18 G n k5  _ hk5  ih l0 l1 l2 l3 l4 l5 h
set_option maxRecDepth 20000 in
set_option maxHeartbeats 1000000 in
theorem wb_X12_wordOf_5 (G : zG) (n : Nat) (k5 : Nat → Int32 → Int32 → Int32 → Int32 → zH → Option (Int32 × zH)) (hk5 : ∀ (l0 : Nat) (l1 : Int32) (l2 : Int32) (l3 : Int32) (l4 : Int32) (h : zH), zW G yX12_wordOf cX12_wordOf 8 (some .int) zvI 1 5 [(0, .ref (zbase G + l0)), (1, .int l1), (2, .int l2), (3, .int l3), (4, .int l4)] [] h (k5 l0 l1 l2 l3 l4 h)) (l0 : Nat) (l1 : Int32) (l2 : Int32) (l3 : Int32) (l4 : Int32) (h : zH) : zW G yX12_wordOf cX12_wordOf 8 (some .int) zvI 1 5 [(0, .ref (zbase G + l0)), (1, .int l1), (2, .int l2), (3, .int l3), (4, .int l4)] [] h (fb_X12_wordOf_5 n k5 l0 l1 l2 l3 l4 h) := by
  unfold fb_X12_wordOf_5
  refine zi_iload dX12_wordOf_5 4 rfl ?_
  refine zi_aload_n dX12_wordOf_7 rfl 0 rfl ?_
  refine zi_getR dX12_wordOf_8 gf_X12_41 (fun v1 => ?_)
  refine zi_alen (Or.inr rfl) dX12_wordOf_11 (fun v2 => ?_)
  refine zi_icmp_ge (tgt := 126) dX12_wordOf_12 (by decide) ?_ ?_
  · refine zi_iconst (v := 0) dX12_wordOf_126 (by decide) ?_
    exact zi_retI dX12_wordOf_127
  · refine zi_iconst (v := 0) dX12_wordOf_15 (by decide) ?_
    refine zi_istore (l' := [(5, .int 0), (0, .ref (zbase G + l0)), (1, .int l1), (2, .int l2), (3, .int l3), (4, .int l4)]) dX12_wordOf_16 (by decide) rfl ?_
    refine zi_sub [1, 2, 3, 4, 5, 0] rfl ?_
    exact wl_X12_wordOf_18 G n k5 hk5 n l0 l1 l2 l3 l4 0 h
theorem wl_X12_wordOf_5 (G : zG) (n : Nat) : ∀ (t : Nat) (l0 : Nat) (l1 : Int32) (l2 : Int32) (l3 : Int32) (l4 : Int32) (h : zH), zW G yX12_wordOf cX12_wordOf 8 (some .int) zvI 1 5 [(0, .ref (zbase G + l0)), (1, .int l1), (2, .int l2), (3, .int l3), (4, .int l4)] [] h (zlp5 (fb_X12_wordOf_5 n ) t l0 l1 l2 l3 l4 h) := by
  intro t
  induction t with
  | zero => intros; exact zW_none
  | succ t ih => intro l0 l1 l2 l3 l4 h; rw [zlp5_s]; exact wb_X12_wordOf_5 G n  _  ih l0 l1 l2 l3 l4 h
set_option maxRecDepth 20000 in
set_option maxHeartbeats 1000000 in
theorem k_X12_wordOf (G : zG) (n : Nat) (a0 : Nat) (a1 : Int32) (a2 : Int32) (h : zH) : zMet G yX12_wordOf cX12_wordOf 8 (some .int) zvI 1 [.ref (zbase G + a0), .int a1, .int a2] h (f_X12_wordOf n a0 a1 a2 h) := by
  refine zMet_of (l := [(0, .ref (zbase G + a0)), (1, .int a1), (2, .int a2)]) (by decide) (Nat.le_of_ble_eq_true rfl) rfl ?_
  unfold f_X12_wordOf
  refine zi_iconst (v := 1) dX12_wordOf_0 (by decide) ?_
  refine zi_istore_n (l' := [(3, .int 1), (0, .ref (zbase G + a0)), (1, .int a1), (2, .int a2)]) dX12_wordOf_1 rfl (by decide) rfl ?_
  refine zi_iconst (v := 0) dX12_wordOf_2 (by decide) ?_
  refine zi_istore (l' := [(4, .int 0), (3, .int 1), (0, .ref (zbase G + a0)), (1, .int a1), (2, .int a2)]) dX12_wordOf_3 (by decide) rfl ?_
  refine zi_sub [2, 3, 4, 1, 0] rfl ?_
  exact wl_X12_wordOf_5 G n n a0 a1 a2 1 0 h
set_option maxRecDepth 20000 in
set_option maxHeartbeats 1000000 in
theorem wb_X12_splits_263 (G : zG) (n : Nat) (l0 : Nat) (l1 : Int32) (h : zH) : zW G yX12_splits cX12_splits 6 none zvU 2 263 [(0, .ref (zbase G + l0)), (1, .int l1)] [] h (fb_X12_splits_263 n l0 l1 h) := by
  unfold fb_X12_splits_263
  refine zi_aload_n dX12_splits_263 rfl 0 rfl ?_
  refine zi_getR dX12_splits_264 gf_X12_60 (fun v1 => ?_)
  refine zi_aload_n dX12_splits_267 rfl 0 rfl ?_
  refine zi_getI dX12_splits_268 gf_X12_143 (fun v2 => ?_)
  refine zi_iload_n dX12_splits_271 rfl 1 rfl ?_
  refine zi_iast dX12_splits_272 (fun h3 => ?_)
  refine zi_aload_n dX12_splits_273 rfl 0 rfl ?_
  refine zi_getR dX12_splits_274 gf_X12_54 (fun v4 => ?_)
  refine zi_aload_n dX12_splits_277 rfl 0 rfl ?_
  refine zi_getI dX12_splits_278 gf_X12_143 (fun v5 => ?_)
  refine zi_iconst (v := 0) dX12_splits_281 (by decide) ?_
  refine zi_iast dX12_splits_282 (fun h6 => ?_)
  refine zi_aload_n dX12_splits_283 rfl 0 rfl ?_
  refine zi_getR dX12_splits_284 gf_X12_57 (fun v7 => ?_)
  refine zi_aload_n dX12_splits_287 rfl 0 rfl ?_
  refine zi_getI dX12_splits_288 gf_X12_143 (fun v8 => ?_)
  refine zi_iconst (v := 0) dX12_splits_291 (by decide) ?_
  refine zi_iast dX12_splits_292 (fun h9 => ?_)
  exact zi_retV dX12_splits_293
set_option maxRecDepth 20000 in
set_option maxHeartbeats 1000000 in
theorem wb_X12_splits_247 (G : zG) (n : Nat) (k7 : Nat → Int32 → Int32 → zH → Option (Unit × zH)) (hk7 : ∀ (l0 : Nat) (l1 : Int32) (l2 : Int32) (h : zH), zW G yX12_splits cX12_splits 6 none zvU 2 7 [(0, .ref (zbase G + l0)), (1, .int l1), (2, .int l2)] [] h (k7 l0 l1 l2 h)) (l0 : Nat) (l1 : Int32) (l4 : Int32) (h : zH) : zW G yX12_splits cX12_splits 6 none zvU 2 247 [(0, .ref (zbase G + l0)), (1, .int l1), (4, .int l4)] [] h (fb_X12_splits_247 n k7 l0 l1 l4 h) := by
  unfold fb_X12_splits_247
  refine zi_aload_n dX12_splits_247 rfl 0 rfl ?_
  refine zi_dup dX12_splits_248 rfl ?_
  refine zi_getI dX12_splits_249 gf_X12_143 (fun v1 => ?_)
  refine zi_iconst (v := 1) dX12_splits_252 (by decide) ?_
  refine zi_iadd dX12_splits_253 ?_
  refine zi_putI dX12_splits_254 gf_X12_143 (fun h2 => ?_)
  refine zi_iload dX12_splits_257 2 rfl ?_
  refine zi_istore_n (l' := [(2, .int l4), (0, .ref (zbase G + l0)), (1, .int l1), (4, .int l4)]) dX12_splits_259 rfl (by decide) rfl ?_
  refine zi_goto (tgt := 7) dX12_splits_260 (by decide) ?_
  refine zi_sub [1, 2, 0] rfl ?_
  exact hk7 l0 l1 l4 h2
set_option maxRecDepth 20000 in
set_option maxHeartbeats 1000000 in
theorem wb_X12_splits_240 (G : zG) (n : Nat) (k7 : Nat → Int32 → Int32 → zH → Option (Unit × zH)) (k169 : Nat → Int32 → Int32 → Int32 → Int32 → zH → Option (Unit × zH)) (hk7 : ∀ (l0 : Nat) (l1 : Int32) (l2 : Int32) (h : zH), zW G yX12_splits cX12_splits 6 none zvU 2 7 [(0, .ref (zbase G + l0)), (1, .int l1), (2, .int l2)] [] h (k7 l0 l1 l2 h)) (hk169 : ∀ (l0 : Nat) (l1 : Int32) (l3 : Int32) (l4 : Int32) (l5 : Int32) (h : zH), zW G yX12_splits cX12_splits 6 none zvU 2 169 [(0, .ref (zbase G + l0)), (1, .int l1), (3, .int l3), (4, .int l4), (5, .int l5)] [] h (k169 l0 l1 l3 l4 l5 h)) (l0 : Nat) (l1 : Int32) (l3 : Int32) (l4 : Int32) (l5 : Int32) (s0 : Nat) (s1 : Int32) (s2 : Int32) (h : zH) : zW G yX12_splits cX12_splits 6 none zvU 2 240 [(0, .ref (zbase G + l0)), (1, .int l1), (3, .int l3), (4, .int l4), (5, .int l5)] [.int s2, .int s1, .ref (zbase G + s0)] h (fb_X12_splits_240 n k7 k169 l0 l1 l3 l4 l5 s0 s1 s2 h) := by
  unfold fb_X12_splits_240
  refine zi_iast dX12_splits_240 (fun h1 => ?_)
  refine zi_iinc (j := 4) (v := l5 + 1) (l' := [(5, .int (l5 + 1)), (0, .ref (zbase G + l0)), (1, .int l1), (3, .int l3), (4, .int l4)]) dX12_splits_241 rfl rfl (by decide) rfl ?_
  refine zi_goto (tgt := 169) dX12_splits_244 (by decide) ?_
  refine zi_sub [1, 2, 3, 4, 0] rfl ?_
  exact hk169 l0 l1 l3 l4 (l5 + 1) h1
set_option maxRecDepth 20000 in
set_option maxHeartbeats 1000000 in
theorem wb_X12_splits_169 (G : zG) (n : Nat) (k7 : Nat → Int32 → Int32 → zH → Option (Unit × zH)) (k169 : Nat → Int32 → Int32 → Int32 → Int32 → zH → Option (Unit × zH)) (hk7 : ∀ (l0 : Nat) (l1 : Int32) (l2 : Int32) (h : zH), zW G yX12_splits cX12_splits 6 none zvU 2 7 [(0, .ref (zbase G + l0)), (1, .int l1), (2, .int l2)] [] h (k7 l0 l1 l2 h)) (hk169 : ∀ (l0 : Nat) (l1 : Int32) (l3 : Int32) (l4 : Int32) (l5 : Int32) (h : zH), zW G yX12_splits cX12_splits 6 none zvU 2 169 [(0, .ref (zbase G + l0)), (1, .int l1), (3, .int l3), (4, .int l4), (5, .int l5)] [] h (k169 l0 l1 l3 l4 l5 h)) (l0 : Nat) (l1 : Int32) (l3 : Int32) (l4 : Int32) (l5 : Int32) (h : zH) : zW G yX12_splits cX12_splits 6 none zvU 2 169 [(0, .ref (zbase G + l0)), (1, .int l1), (3, .int l3), (4, .int l4), (5, .int l5)] [] h (fb_X12_splits_169 n k7 k169 l0 l1 l3 l4 l5 h) := by
  unfold fb_X12_splits_169
  refine zi_iload dX12_splits_169 4 rfl ?_
  refine zi_iload dX12_splits_171 3 rfl ?_
  refine zi_icmp_ge (tgt := 247) dX12_splits_173 (by decide) ?_ ?_
  · refine zi_sub [0, 1, 3] rfl ?_
    exact wb_X12_splits_247 G n k7 hk7 l0 l1 l4 h
  · refine zi_iload_n dX12_splits_176 rfl 2 rfl ?_
    refine zi_callSI (As := [.int l3]) (rest := []) dX12_splits_177 ml_X12_149 md_X12_isDigit ms_X12_isDigit rfl rfl (Nat.le_of_ble_eq_true rfl) (Nat.le_of_ble_eq_true rfl) (k_X12_isDigit G n l3 h) (fun r1 h2 => ?_)
    refine zi_if_eq (tgt := 247) dX12_splits_180 (by decide) ?_ ?_
    · refine zi_sub [0, 1, 3] rfl ?_
      exact wb_X12_splits_247 G n k7 hk7 l0 l1 l4 h2
    · refine zi_aload_n dX12_splits_183 rfl 0 rfl ?_
      refine zi_getR dX12_splits_184 gf_X12_57 (fun v3 => ?_)
      refine zi_aload_n dX12_splits_187 rfl 0 rfl ?_
      refine zi_getI dX12_splits_188 gf_X12_143 (fun v4 => ?_)
      refine zi_aload_n dX12_splits_191 rfl 0 rfl ?_
      refine zi_getR dX12_splits_192 gf_X12_57 (fun v5 => ?_)
      refine zi_aload_n dX12_splits_195 rfl 0 rfl ?_
      refine zi_getI dX12_splits_196 gf_X12_143 (fun v6 => ?_)
      refine zi_iald dX12_splits_199 (fun v7 => ?_)
      refine zi_ldc dX12_splits_200 kc_X12_155 ?_
      refine zi_icmp_le (tgt := 217) dX12_splits_202 (by decide) ?_ ?_
      · refine zi_bipush (v := 10) dX12_splits_217 (by decide) ?_
        refine zi_aload_n dX12_splits_219 rfl 0 rfl ?_
        refine zi_getR dX12_splits_220 gf_X12_57 (fun v8 => ?_)
        refine zi_aload_n dX12_splits_223 rfl 0 rfl ?_
        refine zi_getI dX12_splits_224 gf_X12_143 (fun v9 => ?_)
        refine zi_iald dX12_splits_227 (fun v10 => ?_)
        refine zi_imul dX12_splits_228 ?_
        refine zi_aload_n dX12_splits_229 rfl 0 rfl ?_
        refine zi_getR dX12_splits_230 gf_X12_45 (fun v11 => ?_)
        refine zi_iload dX12_splits_233 4 rfl ?_
        refine zi_bald dX12_splits_235 (fun v12 => ?_)
        refine zi_iadd dX12_splits_236 ?_
        refine zi_bipush (v := 48) dX12_splits_237 (by decide) ?_
        refine zi_isub dX12_splits_239 ?_
        refine zi_sub [0, 1, 2, 3, 4] rfl ?_
        exact wb_X12_splits_240 G n k7 k169 hk7 hk169 l0 l1 l3 l4 l5 v3 v4 ((((10 : Int32) * v10) + v12) - 48) h2
      · refine zi_aload_n dX12_splits_205 rfl 0 rfl ?_
        refine zi_getR dX12_splits_206 gf_X12_57 (fun v13 => ?_)
        refine zi_aload_n dX12_splits_209 rfl 0 rfl ?_
        refine zi_getI dX12_splits_210 gf_X12_143 (fun v14 => ?_)
        refine zi_iald dX12_splits_213 (fun v15 => ?_)
        refine zi_goto (tgt := 240) dX12_splits_214 (by decide) ?_
        refine zi_sub [0, 1, 2, 3, 4] rfl ?_
        exact wb_X12_splits_240 G n k7 k169 hk7 hk169 l0 l1 l3 l4 l5 v3 v4 v15 h2
theorem wl_X12_splits_169 (G : zG) (n : Nat) (k7 : Nat → Int32 → Int32 → zH → Option (Unit × zH)) (hk7 : ∀ (l0 : Nat) (l1 : Int32) (l2 : Int32) (h : zH), zW G yX12_splits cX12_splits 6 none zvU 2 7 [(0, .ref (zbase G + l0)), (1, .int l1), (2, .int l2)] [] h (k7 l0 l1 l2 h)) : ∀ (t : Nat) (l0 : Nat) (l1 : Int32) (l3 : Int32) (l4 : Int32) (l5 : Int32) (h : zH), zW G yX12_splits cX12_splits 6 none zvU 2 169 [(0, .ref (zbase G + l0)), (1, .int l1), (3, .int l3), (4, .int l4), (5, .int l5)] [] h (zlp5 (fb_X12_splits_169 n k7 ) t l0 l1 l3 l4 l5 h) := by
  intro t
  induction t with
  | zero => intros; exact zW_none
  | succ t ih => intro l0 l1 l3 l4 l5 h; rw [zlp5_s]; exact wb_X12_splits_169 G n k7  _ hk7  ih l0 l1 l3 l4 l5 h
set_option maxRecDepth 20000 in
set_option maxHeartbeats 1000000 in
theorem wb_X12_splits_165 (G : zG) (n : Nat) (k7 : Nat → Int32 → Int32 → zH → Option (Unit × zH)) (hk7 : ∀ (l0 : Nat) (l1 : Int32) (l2 : Int32) (h : zH), zW G yX12_splits cX12_splits 6 none zvU 2 7 [(0, .ref (zbase G + l0)), (1, .int l1), (2, .int l2)] [] h (k7 l0 l1 l2 h)) (l0 : Nat) (l1 : Int32) (l2 : Int32) (l3 : Int32) (l4 : Int32) (s0 : Nat) (s1 : Int32) (s2 : Int32) (h : zH) : zW G yX12_splits cX12_splits 6 none zvU 2 165 [(0, .ref (zbase G + l0)), (1, .int l1), (2, .int l2), (3, .int l3), (4, .int l4)] [.int s2, .int s1, .ref (zbase G + s0)] h (fb_X12_splits_165 n k7 l0 l1 l2 l3 l4 s0 s1 s2 h) := by
  unfold fb_X12_splits_165
  refine zi_iast dX12_splits_165 (fun h1 => ?_)
  refine zi_iload_n dX12_splits_166 rfl 2 rfl ?_
  refine zi_istore (l' := [(5, .int l2), (0, .ref (zbase G + l0)), (1, .int l1), (2, .int l2), (3, .int l3), (4, .int l4)]) dX12_splits_167 (by decide) rfl ?_
  refine zi_sub [1, 2, 4, 5, 0] rfl ?_
  exact wl_X12_splits_169 G n k7 hk7 n l0 l1 l3 l4 l2 h1
set_option maxRecDepth 20000 in
set_option maxHeartbeats 1000000 in
theorem wb_X12_splits_100 (G : zG) (n : Nat) (k7 : Nat → Int32 → Int32 → zH → Option (Unit × zH)) (hk7 : ∀ (l0 : Nat) (l1 : Int32) (l2 : Int32) (h : zH), zW G yX12_splits cX12_splits 6 none zvU 2 7 [(0, .ref (zbase G + l0)), (1, .int l1), (2, .int l2)] [] h (k7 l0 l1 l2 h)) (l0 : Nat) (l1 : Int32) (l2 : Int32) (l3 : Int32) (l4 : Int32) (h : zH) : zW G yX12_splits cX12_splits 6 none zvU 2 100 [(0, .ref (zbase G + l0)), (1, .int l1), (2, .int l2), (3, .int l3), (4, .int l4)] [] h (fb_X12_splits_100 n k7 l0 l1 l2 l3 l4 h) := by
  unfold fb_X12_splits_100
  refine zi_aload_n dX12_splits_100 rfl 0 rfl ?_
  refine zi_getR dX12_splits_101 gf_X12_60 (fun v1 => ?_)
  refine zi_aload_n dX12_splits_104 rfl 0 rfl ?_
  refine zi_getI dX12_splits_105 gf_X12_143 (fun v2 => ?_)
  refine zi_iload_n dX12_splits_108 rfl 2 rfl ?_
  refine zi_iast dX12_splits_109 (fun h3 => ?_)
  refine zi_aload_n dX12_splits_110 rfl 0 rfl ?_
  refine zi_getR dX12_splits_111 gf_X12_57 (fun v4 => ?_)
  refine zi_aload_n dX12_splits_114 rfl 0 rfl ?_
  refine zi_getI dX12_splits_115 gf_X12_143 (fun v5 => ?_)
  refine zi_iconst (v := 0) dX12_splits_118 (by decide) ?_
  refine zi_iast dX12_splits_119 (fun h6 => ?_)
  refine zi_aload_n dX12_splits_120 rfl 0 rfl ?_
  refine zi_getR dX12_splits_121 gf_X12_54 (fun v7 => ?_)
  refine zi_aload_n dX12_splits_124 rfl 0 rfl ?_
  refine zi_getI dX12_splits_125 gf_X12_143 (fun v8 => ?_)
  refine zi_iload_n dX12_splits_128 rfl 3 rfl ?_
  refine zi_callSI (As := [.int l3]) (rest := [.int v8, .ref (zbase G + v7)]) dX12_splits_129 ml_X12_146 md_X12_isSmall ms_X12_isSmall rfl rfl (Nat.le_of_ble_eq_true rfl) (Nat.le_of_ble_eq_true rfl) (k_X12_isSmall G n l3 h6) (fun r9 h10 => ?_)
  refine zi_if_eq (tgt := 145) dX12_splits_132 (by decide) ?_ ?_
  · refine zi_iload_n dX12_splits_145 rfl 3 rfl ?_
    refine zi_callSI (As := [.int l3]) (rest := [.int v8, .ref (zbase G + v7)]) dX12_splits_146 ml_X12_149 md_X12_isDigit ms_X12_isDigit rfl rfl (Nat.le_of_ble_eq_true rfl) (Nat.le_of_ble_eq_true rfl) (k_X12_isDigit G n l3 h10) (fun r11 h12 => ?_)
    refine zi_if_eq (tgt := 157) dX12_splits_149 (by decide) ?_ ?_
    · refine zi_bipush (v := 100) dX12_splits_157 (by decide) ?_
      refine zi_iload_n dX12_splits_159 rfl 3 rfl ?_
      refine zi_sipush (v := 255) dX12_splits_160 (by decide) ?_
      refine zi_iand dX12_splits_163 ?_
      refine zi_iadd dX12_splits_164 ?_
      refine zi_sub [0, 1, 2, 3, 4] rfl ?_
      exact wb_X12_splits_165 G n k7 hk7 l0 l1 l2 l3 l4 v7 v8 ((100 : Int32) + (l3 &&& 255)) h12
    · refine zi_bipush (v := 50) dX12_splits_152 (by decide) ?_
      refine zi_goto (tgt := 165) dX12_splits_154 (by decide) ?_
      refine zi_sub [0, 1, 2, 3, 4] rfl ?_
      exact wb_X12_splits_165 G n k7 hk7 l0 l1 l2 l3 l4 v7 v8 50 h12
  · refine zi_aload_n dX12_splits_135 rfl 0 rfl ?_
    refine zi_iload_n dX12_splits_136 rfl 2 rfl ?_
    refine zi_iload dX12_splits_137 4 rfl ?_
    refine zi_callVI (As := [.int l2, .int l4]) (rest := [.int v8, .ref (zbase G + v7)]) (ci := 12) dX12_splits_139 ml_X12_152 md_X12_wordOf mv_X12_wordOf rfl (by decide) rfl rfl (Nat.le_of_ble_eq_true rfl) (Nat.le_of_ble_eq_true rfl) (k_X12_wordOf G n l0 l2 l4 h10) (fun r13 h14 => ?_)
    refine zi_goto (tgt := 165) dX12_splits_142 (by decide) ?_
    refine zi_sub [0, 1, 2, 3, 4] rfl ?_
    exact wb_X12_splits_165 G n k7 hk7 l0 l1 l2 l3 l4 v7 v8 r13 h14
set_option maxRecDepth 20000 in
set_option maxHeartbeats 1000000 in
theorem wb_X12_splits_75 (G : zG) (n : Nat) (k7 : Nat → Int32 → Int32 → zH → Option (Unit × zH)) (k75 : Nat → Int32 → Int32 → Int32 → Int32 → zH → Option (Unit × zH)) (hk7 : ∀ (l0 : Nat) (l1 : Int32) (l2 : Int32) (h : zH), zW G yX12_splits cX12_splits 6 none zvU 2 7 [(0, .ref (zbase G + l0)), (1, .int l1), (2, .int l2)] [] h (k7 l0 l1 l2 h)) (hk75 : ∀ (l0 : Nat) (l1 : Int32) (l2 : Int32) (l3 : Int32) (l4 : Int32) (h : zH), zW G yX12_splits cX12_splits 6 none zvU 2 75 [(0, .ref (zbase G + l0)), (1, .int l1), (2, .int l2), (3, .int l3), (4, .int l4)] [] h (k75 l0 l1 l2 l3 l4 h)) (l0 : Nat) (l1 : Int32) (l2 : Int32) (l3 : Int32) (l4 : Int32) (h : zH) : zW G yX12_splits cX12_splits 6 none zvU 2 75 [(0, .ref (zbase G + l0)), (1, .int l1), (2, .int l2), (3, .int l3), (4, .int l4)] [] h (fb_X12_splits_75 n k7 k75 l0 l1 l2 l3 l4 h) := by
  unfold fb_X12_splits_75
  refine zi_iload dX12_splits_75 4 rfl ?_
  refine zi_iload_n dX12_splits_77 rfl 1 rfl ?_
  refine zi_icmp_ge (tgt := 100) dX12_splits_78 (by decide) ?_ ?_
  · refine zi_sub [0, 1, 2, 3, 4] rfl ?_
    exact wb_X12_splits_100 G n k7 hk7 l0 l1 l2 l3 l4 h
  · refine zi_aload_n dX12_splits_81 rfl 0 rfl ?_
    refine zi_getR dX12_splits_82 gf_X12_45 (fun v1 => ?_)
    refine zi_iload dX12_splits_85 4 rfl ?_
    refine zi_bald dX12_splits_87 (fun v2 => ?_)
    refine zi_callSI (As := [.int v2]) (rest := []) dX12_splits_88 ml_X12_149 md_X12_isDigit ms_X12_isDigit rfl rfl (Nat.le_of_ble_eq_true rfl) (Nat.le_of_ble_eq_true rfl) (k_X12_isDigit G n v2 h) (fun r3 h4 => ?_)
    refine zi_if_eq (tgt := 100) dX12_splits_91 (by decide) ?_ ?_
    · refine zi_sub [0, 1, 2, 3, 4] rfl ?_
      exact wb_X12_splits_100 G n k7 hk7 l0 l1 l2 l3 l4 h4
    · refine zi_iinc (j := 4) (v := l4 + 1) (l' := [(4, .int (l4 + 1)), (0, .ref (zbase G + l0)), (1, .int l1), (2, .int l2), (3, .int l3)]) dX12_splits_94 rfl rfl (by decide) rfl ?_
      refine zi_goto (tgt := 75) dX12_splits_97 (by decide) ?_
      refine zi_sub [1, 2, 3, 4, 0] rfl ?_
      exact hk75 l0 l1 l2 l3 (l4 + 1) h4
theorem wl_X12_splits_75 (G : zG) (n : Nat) (k7 : Nat → Int32 → Int32 → zH → Option (Unit × zH)) (hk7 : ∀ (l0 : Nat) (l1 : Int32) (l2 : Int32) (h : zH), zW G yX12_splits cX12_splits 6 none zvU 2 7 [(0, .ref (zbase G + l0)), (1, .int l1), (2, .int l2)] [] h (k7 l0 l1 l2 h)) : ∀ (t : Nat) (l0 : Nat) (l1 : Int32) (l2 : Int32) (l3 : Int32) (l4 : Int32) (h : zH), zW G yX12_splits cX12_splits 6 none zvU 2 75 [(0, .ref (zbase G + l0)), (1, .int l1), (2, .int l2), (3, .int l3), (4, .int l4)] [] h (zlp5 (fb_X12_splits_75 n k7 ) t l0 l1 l2 l3 l4 h) := by
  intro t
  induction t with
  | zero => intros; exact zW_none
  | succ t ih => intro l0 l1 l2 l3 l4 h; rw [zlp5_s]; exact wb_X12_splits_75 G n k7  _ hk7  ih l0 l1 l2 l3 l4 h
set_option maxRecDepth 20000 in
set_option maxHeartbeats 1000000 in
theorem wb_X12_splits_68 (G : zG) (n : Nat) (k7 : Nat → Int32 → Int32 → zH → Option (Unit × zH)) (hk7 : ∀ (l0 : Nat) (l1 : Int32) (l2 : Int32) (h : zH), zW G yX12_splits cX12_splits 6 none zvU 2 7 [(0, .ref (zbase G + l0)), (1, .int l1), (2, .int l2)] [] h (k7 l0 l1 l2 h)) (l0 : Nat) (l1 : Int32) (l2 : Int32) (l3 : Int32) (l4 : Int32) (h : zH) : zW G yX12_splits cX12_splits 6 none zvU 2 68 [(0, .ref (zbase G + l0)), (1, .int l1), (2, .int l2), (3, .int l3), (4, .int l4)] [] h (fb_X12_splits_68 n k7 l0 l1 l2 l3 l4 h) := by
  unfold fb_X12_splits_68
  refine zi_iload_n dX12_splits_68 rfl 3 rfl ?_
  refine zi_callSI (As := [.int l3]) (rest := []) dX12_splits_69 ml_X12_149 md_X12_isDigit ms_X12_isDigit rfl rfl (Nat.le_of_ble_eq_true rfl) (Nat.le_of_ble_eq_true rfl) (k_X12_isDigit G n l3 h) (fun r1 h2 => ?_)
  refine zi_if_eq (tgt := 100) dX12_splits_72 (by decide) ?_ ?_
  · refine zi_sub [0, 1, 2, 3, 4] rfl ?_
    exact wb_X12_splits_100 G n k7 hk7 l0 l1 l2 l3 l4 h2
  · refine zi_sub [0, 1, 2, 3, 4] rfl ?_
    exact wl_X12_splits_75 G n k7 hk7 n l0 l1 l2 l3 l4 h2
set_option maxRecDepth 20000 in
set_option maxHeartbeats 1000000 in
theorem wb_X12_splits_43 (G : zG) (n : Nat) (k7 : Nat → Int32 → Int32 → zH → Option (Unit × zH)) (k43 : Nat → Int32 → Int32 → Int32 → Int32 → zH → Option (Unit × zH)) (hk7 : ∀ (l0 : Nat) (l1 : Int32) (l2 : Int32) (h : zH), zW G yX12_splits cX12_splits 6 none zvU 2 7 [(0, .ref (zbase G + l0)), (1, .int l1), (2, .int l2)] [] h (k7 l0 l1 l2 h)) (hk43 : ∀ (l0 : Nat) (l1 : Int32) (l2 : Int32) (l3 : Int32) (l4 : Int32) (h : zH), zW G yX12_splits cX12_splits 6 none zvU 2 43 [(0, .ref (zbase G + l0)), (1, .int l1), (2, .int l2), (3, .int l3), (4, .int l4)] [] h (k43 l0 l1 l2 l3 l4 h)) (l0 : Nat) (l1 : Int32) (l2 : Int32) (l3 : Int32) (l4 : Int32) (h : zH) : zW G yX12_splits cX12_splits 6 none zvU 2 43 [(0, .ref (zbase G + l0)), (1, .int l1), (2, .int l2), (3, .int l3), (4, .int l4)] [] h (fb_X12_splits_43 n k7 k43 l0 l1 l2 l3 l4 h) := by
  unfold fb_X12_splits_43
  refine zi_iload dX12_splits_43 4 rfl ?_
  refine zi_iload_n dX12_splits_45 rfl 1 rfl ?_
  refine zi_icmp_ge (tgt := 68) dX12_splits_46 (by decide) ?_ ?_
  · refine zi_sub [0, 1, 2, 3, 4] rfl ?_
    exact wb_X12_splits_68 G n k7 hk7 l0 l1 l2 l3 l4 h
  · refine zi_aload_n dX12_splits_49 rfl 0 rfl ?_
    refine zi_getR dX12_splits_50 gf_X12_45 (fun v1 => ?_)
    refine zi_iload dX12_splits_53 4 rfl ?_
    refine zi_bald dX12_splits_55 (fun v2 => ?_)
    refine zi_callSI (As := [.int v2]) (rest := []) dX12_splits_56 ml_X12_146 md_X12_isSmall ms_X12_isSmall rfl rfl (Nat.le_of_ble_eq_true rfl) (Nat.le_of_ble_eq_true rfl) (k_X12_isSmall G n v2 h) (fun r3 h4 => ?_)
    refine zi_if_eq (tgt := 68) dX12_splits_59 (by decide) ?_ ?_
    · refine zi_sub [0, 1, 2, 3, 4] rfl ?_
      exact wb_X12_splits_68 G n k7 hk7 l0 l1 l2 l3 l4 h4
    · refine zi_iinc (j := 4) (v := l4 + 1) (l' := [(4, .int (l4 + 1)), (0, .ref (zbase G + l0)), (1, .int l1), (2, .int l2), (3, .int l3)]) dX12_splits_62 rfl rfl (by decide) rfl ?_
      refine zi_goto (tgt := 43) dX12_splits_65 (by decide) ?_
      refine zi_sub [1, 2, 3, 4, 0] rfl ?_
      exact hk43 l0 l1 l2 l3 (l4 + 1) h4
theorem wl_X12_splits_43 (G : zG) (n : Nat) (k7 : Nat → Int32 → Int32 → zH → Option (Unit × zH)) (hk7 : ∀ (l0 : Nat) (l1 : Int32) (l2 : Int32) (h : zH), zW G yX12_splits cX12_splits 6 none zvU 2 7 [(0, .ref (zbase G + l0)), (1, .int l1), (2, .int l2)] [] h (k7 l0 l1 l2 h)) : ∀ (t : Nat) (l0 : Nat) (l1 : Int32) (l2 : Int32) (l3 : Int32) (l4 : Int32) (h : zH), zW G yX12_splits cX12_splits 6 none zvU 2 43 [(0, .ref (zbase G + l0)), (1, .int l1), (2, .int l2), (3, .int l3), (4, .int l4)] [] h (zlp5 (fb_X12_splits_43 n k7 ) t l0 l1 l2 l3 l4 h) := by
  intro t
  induction t with
  | zero => intros; exact zW_none
  | succ t ih => intro l0 l1 l2 l3 l4 h; rw [zlp5_s]; exact wb_X12_splits_43 G n k7  _ hk7  ih l0 l1 l2 l3 l4 h
set_option maxRecDepth 20000 in
set_option maxHeartbeats 1000000 in
theorem wb_X12_splits_7 (G : zG) (n : Nat) (k7 : Nat → Int32 → Int32 → zH → Option (Unit × zH)) (hk7 : ∀ (l0 : Nat) (l1 : Int32) (l2 : Int32) (h : zH), zW G yX12_splits cX12_splits 6 none zvU 2 7 [(0, .ref (zbase G + l0)), (1, .int l1), (2, .int l2)] [] h (k7 l0 l1 l2 h)) (l0 : Nat) (l1 : Int32) (l2 : Int32) (h : zH) : zW G yX12_splits cX12_splits 6 none zvU 2 7 [(0, .ref (zbase G + l0)), (1, .int l1), (2, .int l2)] [] h (fb_X12_splits_7 n k7 l0 l1 l2 h) := by
  unfold fb_X12_splits_7
  refine zi_iload_n dX12_splits_7 rfl 2 rfl ?_
  refine zi_iload_n dX12_splits_8 rfl 1 rfl ?_
  refine zi_icmp_ge (tgt := 263) dX12_splits_9 (by decide) ?_ ?_
  · refine zi_sub [0, 1] rfl ?_
    exact wb_X12_splits_263 G n l0 l1 h
  · refine zi_aload_n dX12_splits_12 rfl 0 rfl ?_
    refine zi_getR dX12_splits_13 gf_X12_45 (fun v1 => ?_)
    refine zi_iload_n dX12_splits_16 rfl 2 rfl ?_
    refine zi_bald dX12_splits_17 (fun v2 => ?_)
    refine zi_istore_n (l' := [(3, .int v2), (0, .ref (zbase G + l0)), (1, .int l1), (2, .int l2)]) dX12_splits_18 rfl (by decide) rfl ?_
    refine zi_iload_n dX12_splits_19 rfl 0 rfl ?_
    refine zi_bipush (v := 32) dX12_splits_20 (by decide) ?_
    refine zi_icmp_ne (tgt := 31) dX12_splits_22 (by decide) ?_ ?_
    · refine zi_iload_n dX12_splits_31 rfl 3 rfl ?_
      refine zi_iconst (v := 1) dX12_splits_32 (by decide) ?_
      refine zi_iadd dX12_splits_33 ?_
      refine zi_let (sf := fun x3 => .int x3 :: []) (fun x3 => ?_)
      refine zi_istore (l' := [(4, .int x3), (3, .int v2), (0, .ref (zbase G + l0)), (1, .int l1), (2, .int l2)]) dX12_splits_34 (by decide) rfl ?_
      refine zi_iload_n dX12_splits_36 rfl 1 rfl ?_
      refine zi_callSI (As := [.int v2]) (rest := []) dX12_splits_37 ml_X12_146 md_X12_isSmall ms_X12_isSmall rfl rfl (Nat.le_of_ble_eq_true rfl) (Nat.le_of_ble_eq_true rfl) (k_X12_isSmall G n v2 h) (fun r4 h5 => ?_)
      refine zi_if_eq (tgt := 68) dX12_splits_40 (by decide) ?_ ?_
      · refine zi_sub [2, 3, 4, 1, 0] rfl ?_
        exact wb_X12_splits_68 G n k7 hk7 l0 l1 l2 v2 x3 h5
      · refine zi_sub [2, 3, 4, 1, 0] rfl ?_
        exact wl_X12_splits_43 G n k7 hk7 n l0 l1 l2 v2 x3 h5
    · refine zi_iinc (j := 3) (v := l2 + 1) (l' := [(2, .int (l2 + 1)), (3, .int v2), (0, .ref (zbase G + l0)), (1, .int l1)]) dX12_splits_25 rfl rfl (by decide) rfl ?_
      refine zi_goto (tgt := 7) dX12_splits_28 (by decide) ?_
      refine zi_sub [2, 3, 0] rfl ?_
      exact hk7 l0 l1 (l2 + 1) h
theorem wl_X12_splits_7 (G : zG) (n : Nat) : ∀ (t : Nat) (l0 : Nat) (l1 : Int32) (l2 : Int32) (h : zH), zW G yX12_splits cX12_splits 6 none zvU 2 7 [(0, .ref (zbase G + l0)), (1, .int l1), (2, .int l2)] [] h (zlp3 (fb_X12_splits_7 n ) t l0 l1 l2 h) := by
  intro t
  induction t with
  | zero => intros; exact zW_none
  | succ t ih => intro l0 l1 l2 h; rw [zlp3_s]; exact wb_X12_splits_7 G n  _  ih l0 l1 l2 h
set_option maxRecDepth 20000 in
set_option maxHeartbeats 1000000 in
theorem k_X12_splits (G : zG) (n : Nat) (a0 : Nat) (a1 : Int32) (h : zH) : zMet G yX12_splits cX12_splits 6 none zvU 2 [.ref (zbase G + a0), .int a1] h (f_X12_splits n a0 a1 h) := by
  refine zMet_of (l := [(0, .ref (zbase G + a0)), (1, .int a1)]) (by decide) (Nat.le_of_ble_eq_true rfl) rfl ?_
  unfold f_X12_splits
  refine zi_aload_n dX12_splits_0 rfl 0 rfl ?_
  refine zi_iconst (v := 0) dX12_splits_1 (by decide) ?_
  refine zi_putI dX12_splits_2 gf_X12_143 (fun h1 => ?_)
  refine zi_iconst (v := 0) dX12_splits_5 (by decide) ?_
  refine zi_istore_n (l' := [(2, .int 0), (0, .ref (zbase G + a0)), (1, .int a1)]) dX12_splits_6 rfl (by decide) rfl ?_
  refine zi_sub [1, 2, 0] rfl ?_
  exact wl_X12_splits_7 G n n a0 a1 0 h1
set_option maxRecDepth 20000 in
set_option maxHeartbeats 1000000 in
theorem k_X12_fine (G : zG) (n : Nat) (a0 : Nat) (h : zH) : zMet G yX12_fine cX12_fine 1 (some .boolean) zvI 1 [.ref (zbase G + a0)] h (f_X12_fine n a0 h) := by
  refine zMet_of (l := [(0, .ref (zbase G + a0))]) (by decide) (Nat.le_of_ble_eq_true rfl) rfl ?_
  unfold f_X12_fine
  refine zi_aload_n dX12_fine_0 rfl 0 rfl ?_
  refine zi_getI dX12_fine_1 gf_X12_156 (fun v1 => ?_)
  refine zi_iconst (v := (-1)) dX12_fine_4 (by decide) ?_
  refine zi_icmp_ne (tgt := 12) dX12_fine_5 (by decide) ?_ ?_
  · refine zi_iconst (v := 0) dX12_fine_12 (by decide) ?_
    exact zi_ret0 dX12_fine_13
  · refine zi_iconst (v := 1) dX12_fine_8 (by decide) ?_
    refine zi_goto (tgt := 13) dX12_fine_9 (by decide) ?_
    exact zi_ret1 dX12_fine_13
set_option maxRecDepth 20000 in
set_option maxHeartbeats 1000000 in
theorem k_X12_faults (G : zG) (n : Nat) (a0 : Nat) (h : zH) : zMet G yX12_faults cX12_faults 1 none zvU 2 [.ref (zbase G + a0)] h (f_X12_faults n a0 h) := by
  refine zMet_of (l := [(0, .ref (zbase G + a0))]) (by decide) (Nat.le_of_ble_eq_true rfl) rfl ?_
  unfold f_X12_faults
  refine zi_aload_n dX12_faults_0 rfl 0 rfl ?_
  refine zi_callVI (As := []) (rest := []) (ci := 12) dX12_faults_1 ml_X12_159 md_X12_fine mv_X12_fine rfl (by decide) rfl rfl (Nat.le_of_ble_eq_true rfl) (Nat.le_of_ble_eq_true rfl) (k_X12_fine G n a0 h) (fun r1 h2 => ?_)
  refine zi_if_eq (tgt := 20) dX12_faults_4 (by decide) ?_ ?_
  · exact zi_retV dX12_faults_20
  · refine zi_aload_n dX12_faults_7 rfl 0 rfl ?_
    refine zi_aload_n dX12_faults_8 rfl 0 rfl ?_
    refine zi_getR dX12_faults_9 gf_X12_60 (fun v3 => ?_)
    refine zi_aload_n dX12_faults_12 rfl 0 rfl ?_
    refine zi_getI dX12_faults_13 gf_X12_162 (fun v4 => ?_)
    refine zi_iald dX12_faults_16 (fun v5 => ?_)
    refine zi_putI dX12_faults_17 gf_X12_156 (fun h6 => ?_)
    exact zi_retV dX12_faults_20
set_option maxRecDepth 20000 in
set_option maxHeartbeats 1000000 in
theorem wb_X12_takes0_25 (G : zG) (n : Nat) (l0 : Nat) (s0 : Int32) (h : zH) : zW G yX12_takes0 cX12_takes0 3 (some .boolean) zvI 2 25 [(0, .ref (zbase G + l0))] [.int s0] h (fb_X12_takes0_25 n l0 s0 h) := by
  unfold fb_X12_takes0_25
  refine zi_istore_n (l' := [(2, .int s0), (0, .ref (zbase G + l0))]) dX12_takes0_25 rfl (by decide) rfl ?_
  refine zi_iload_n dX12_takes0_26 rfl 0 rfl ?_
  refine zi_if_eq (tgt := 40) dX12_takes0_27 (by decide) ?_ ?_
  · refine zi_iload_n dX12_takes0_40 rfl 0 rfl ?_
    exact zi_retZ dX12_takes0_41
  · refine zi_aload_n dX12_takes0_30 rfl 1 rfl ?_
    refine zi_dup dX12_takes0_31 rfl ?_
    refine zi_getI dX12_takes0_32 gf_X12_162 (fun v1 => ?_)
    refine zi_iconst (v := 1) dX12_takes0_35 (by decide) ?_
    refine zi_iadd dX12_takes0_36 ?_
    refine zi_putI dX12_takes0_37 gf_X12_162 (fun h2 => ?_)
    refine zi_iload_n dX12_takes0_40 rfl 0 rfl ?_
    exact zi_retZ dX12_takes0_41
set_option maxRecDepth 20000 in
set_option maxHeartbeats 1000000 in
theorem wb_X12_takes0_24 (G : zG) (n : Nat) (l0 : Nat) (h : zH) : zW G yX12_takes0 cX12_takes0 3 (some .boolean) zvI 2 24 [(0, .ref (zbase G + l0))] [] h (fb_X12_takes0_24 n l0 h) := by
  unfold fb_X12_takes0_24
  refine zi_iconst (v := 0) dX12_takes0_24 (by decide) ?_
  refine zi_sub [0] rfl ?_
  exact wb_X12_takes0_25 G n l0 0 h
set_option maxRecDepth 20000 in
set_option maxHeartbeats 1000000 in
theorem k_X12_takes0 (G : zG) (n : Nat) (a0 : Nat) (a1 : Int32) (h : zH) : zMet G yX12_takes0 cX12_takes0 3 (some .boolean) zvI 2 [.ref (zbase G + a0), .int a1] h (f_X12_takes0 n a0 a1 h) := by
  refine zMet_of (l := [(0, .ref (zbase G + a0)), (1, .int a1)]) (by decide) (Nat.le_of_ble_eq_true rfl) rfl ?_
  unfold f_X12_takes0
  refine zi_aload_n dX12_takes0_0 rfl 0 rfl ?_
  refine zi_callVI (As := []) (rest := []) (ci := 12) dX12_takes0_1 ml_X12_159 md_X12_fine mv_X12_fine rfl (by decide) rfl rfl (Nat.le_of_ble_eq_true rfl) (Nat.le_of_ble_eq_true rfl) (k_X12_fine G n a0 h) (fun r1 h2 => ?_)
  refine zi_if_eq (tgt := 24) dX12_takes0_4 (by decide) ?_ ?_
  · refine zi_sub [0] rfl ?_
    exact wb_X12_takes0_24 G n a0 h2
  · refine zi_aload_n dX12_takes0_7 rfl 0 rfl ?_
    refine zi_getR dX12_takes0_8 gf_X12_54 (fun v3 => ?_)
    refine zi_aload_n dX12_takes0_11 rfl 0 rfl ?_
    refine zi_getI dX12_takes0_12 gf_X12_162 (fun v4 => ?_)
    refine zi_iald dX12_takes0_15 (fun v5 => ?_)
    refine zi_iload_n dX12_takes0_16 rfl 1 rfl ?_
    refine zi_icmp_ne (tgt := 24) dX12_takes0_17 (by decide) ?_ ?_
    · refine zi_sub [0] rfl ?_
      exact wb_X12_takes0_24 G n a0 h2
    · refine zi_iconst (v := 1) dX12_takes0_20 (by decide) ?_
      refine zi_goto (tgt := 25) dX12_takes0_21 (by decide) ?_
      refine zi_sub [0] rfl ?_
      exact wb_X12_takes0_25 G n a0 1 h2
set_option maxRecDepth 20000 in
set_option maxHeartbeats 1000000 in
theorem k_X12_must (G : zG) (n : Nat) (a0 : Nat) (a1 : Int32) (h : zH) : zMet G yX12_must cX12_must 2 none zvU 3 [.ref (zbase G + a0), .int a1] h (f_X12_must n a0 a1 h) := by
  refine zMet_of (l := [(0, .ref (zbase G + a0)), (1, .int a1)]) (by decide) (Nat.le_of_ble_eq_true rfl) rfl ?_
  unfold f_X12_must
  refine zi_aload_n dX12_must_0 rfl 0 rfl ?_
  refine zi_iload_n dX12_must_1 rfl 1 rfl ?_
  refine zi_callVI (As := [.int a1]) (rest := []) (ci := 12) dX12_must_2 ml_X12_165 md_X12_takes0 mv_X12_takes0 rfl (by decide) rfl rfl (Nat.le_of_ble_eq_true rfl) (Nat.le_of_ble_eq_true rfl) (k_X12_takes0 G n a0 a1 h) (fun r1 h2 => ?_)
  refine zi_if_ne (tgt := 12) dX12_must_5 (by decide) ?_ ?_
  · exact zi_retV dX12_must_12
  · refine zi_aload_n dX12_must_8 rfl 0 rfl ?_
    refine zi_callVU (As := []) (rest := []) (ci := 12) dX12_must_9 ml_X12_168 md_X12_faults mv_X12_faults rfl (by decide) rfl rfl (Nat.le_of_ble_eq_true rfl) (Nat.le_of_ble_eq_true rfl) (k_X12_faults G n a0 h2) (fun _ h4 => ?_)
    exact zi_retV dX12_must_12
set_option maxRecDepth 20000 in
set_option maxHeartbeats 1000000 in
theorem wb_X12_leaf_13 (G : zG) (n : Nat) (l0 : Nat) (h : zH) : zW G yX12_leaf cX12_leaf 1 none zvU 3 13 [(0, .ref (zbase G + l0))] [] h (fb_X12_leaf_13 n l0 h) := by
  unfold fb_X12_leaf_13
  refine zi_aload_n dX12_leaf_13 rfl 0 rfl ?_
  refine zi_dup dX12_leaf_14 rfl ?_
  refine zi_getI dX12_leaf_15 gf_X12_171 (fun v1 => ?_)
  refine zi_iconst (v := 1) dX12_leaf_18 (by decide) ?_
  refine zi_iadd dX12_leaf_19 ?_
  refine zi_putI dX12_leaf_20 gf_X12_171 (fun h2 => ?_)
  refine zi_aload_n dX12_leaf_23 rfl 0 rfl ?_
  refine zi_callVI (As := []) (rest := []) (ci := 12) dX12_leaf_24 ml_X12_159 md_X12_fine mv_X12_fine rfl (by decide) rfl rfl (Nat.le_of_ble_eq_true rfl) (Nat.le_of_ble_eq_true rfl) (k_X12_fine G n l0 h2) (fun r3 h4 => ?_)
  refine zi_if_eq (tgt := 40) dX12_leaf_27 (by decide) ?_ ?_
  · exact zi_retV dX12_leaf_40
  · refine zi_aload_n dX12_leaf_30 rfl 0 rfl ?_
    refine zi_dup dX12_leaf_31 rfl ?_
    refine zi_getI dX12_leaf_32 gf_X12_162 (fun v5 => ?_)
    refine zi_iconst (v := 1) dX12_leaf_35 (by decide) ?_
    refine zi_iadd dX12_leaf_36 ?_
    refine zi_putI dX12_leaf_37 gf_X12_162 (fun h6 => ?_)
    exact zi_retV dX12_leaf_40
set_option maxRecDepth 20000 in
set_option maxHeartbeats 1000000 in
theorem k_X12_leaf (G : zG) (n : Nat) (a0 : Nat) (h : zH) : zMet G yX12_leaf cX12_leaf 1 none zvU 3 [.ref (zbase G + a0)] h (f_X12_leaf n a0 h) := by
  refine zMet_of (l := [(0, .ref (zbase G + a0))]) (by decide) (Nat.le_of_ble_eq_true rfl) rfl ?_
  unfold f_X12_leaf
  refine zi_aload_n dX12_leaf_0 rfl 0 rfl ?_
  refine zi_getI dX12_leaf_1 gf_X12_171 (fun v1 => ?_)
  refine zi_bipush (v := 50) dX12_leaf_4 (by decide) ?_
  refine zi_icmp_ne (tgt := 13) dX12_leaf_6 (by decide) ?_ ?_
  · refine zi_sub [0] rfl ?_
    exact wb_X12_leaf_13 G n a0 h
  · refine zi_aload_n dX12_leaf_9 rfl 0 rfl ?_
    refine zi_callVU (As := []) (rest := []) (ci := 12) dX12_leaf_10 ml_X12_168 md_X12_faults mv_X12_faults rfl (by decide) rfl rfl (Nat.le_of_ble_eq_true rfl) (Nat.le_of_ble_eq_true rfl) (k_X12_faults G n a0 h) (fun _ h3 => ?_)
    refine zi_sub [0] rfl ?_
    exact wb_X12_leaf_13 G n a0 h3
set_option maxRecDepth 20000 in
set_option maxHeartbeats 1000000 in
theorem wb_X12_mustNumber_42 (G : zG) (n : Nat) (l0 : Nat) (h : zH) : zW G yX12_mustNumber cX12_mustNumber 3 none zvU 3 42 [(0, .ref (zbase G + l0))] [] h (fb_X12_mustNumber_42 n l0 h) := by
  unfold fb_X12_mustNumber_42
  refine zi_aload_n dX12_mustNumber_42 rfl 0 rfl ?_
  refine zi_callVI (As := []) (rest := []) (ci := 12) dX12_mustNumber_43 ml_X12_159 md_X12_fine mv_X12_fine rfl (by decide) rfl rfl (Nat.le_of_ble_eq_true rfl) (Nat.le_of_ble_eq_true rfl) (k_X12_fine G n l0 h) (fun r1 h2 => ?_)
  refine zi_if_eq (tgt := 59) dX12_mustNumber_46 (by decide) ?_ ?_
  · exact zi_retV dX12_mustNumber_59
  · refine zi_aload_n dX12_mustNumber_49 rfl 0 rfl ?_
    refine zi_dup dX12_mustNumber_50 rfl ?_
    refine zi_getI dX12_mustNumber_51 gf_X12_162 (fun v3 => ?_)
    refine zi_iconst (v := 1) dX12_mustNumber_54 (by decide) ?_
    refine zi_iadd dX12_mustNumber_55 ?_
    refine zi_putI dX12_mustNumber_56 gf_X12_162 (fun h4 => ?_)
    exact zi_retV dX12_mustNumber_59
set_option maxRecDepth 20000 in
set_option maxHeartbeats 1000000 in
theorem wb_X12_mustNumber_38 (G : zG) (n : Nat) (l0 : Nat) (h : zH) : zW G yX12_mustNumber cX12_mustNumber 3 none zvU 3 38 [(0, .ref (zbase G + l0))] [] h (fb_X12_mustNumber_38 n l0 h) := by
  unfold fb_X12_mustNumber_38
  refine zi_aload_n dX12_mustNumber_38 rfl 0 rfl ?_
  refine zi_callVU (As := []) (rest := []) (ci := 12) dX12_mustNumber_39 ml_X12_168 md_X12_faults mv_X12_faults rfl (by decide) rfl rfl (Nat.le_of_ble_eq_true rfl) (Nat.le_of_ble_eq_true rfl) (k_X12_faults G n l0 h) (fun _ h2 => ?_)
  refine zi_sub [0] rfl ?_
  exact wb_X12_mustNumber_42 G n l0 h2
set_option maxRecDepth 20000 in
set_option maxHeartbeats 1000000 in
theorem k_X12_mustNumber (G : zG) (n : Nat) (a0 : Nat) (a1 : Int32) (a2 : Int32) (h : zH) : zMet G yX12_mustNumber cX12_mustNumber 3 none zvU 3 [.ref (zbase G + a0), .int a1, .int a2] h (f_X12_mustNumber n a0 a1 a2 h) := by
  refine zMet_of (l := [(0, .ref (zbase G + a0)), (1, .int a1), (2, .int a2)]) (by decide) (Nat.le_of_ble_eq_true rfl) rfl ?_
  unfold f_X12_mustNumber
  refine zi_aload_n dX12_mustNumber_0 rfl 0 rfl ?_
  refine zi_callVI (As := []) (rest := []) (ci := 12) dX12_mustNumber_1 ml_X12_159 md_X12_fine mv_X12_fine rfl (by decide) rfl rfl (Nat.le_of_ble_eq_true rfl) (Nat.le_of_ble_eq_true rfl) (k_X12_fine G n a0 h) (fun r1 h2 => ?_)
  refine zi_if_eq (tgt := 42) dX12_mustNumber_4 (by decide) ?_ ?_
  · refine zi_sub [0] rfl ?_
    exact wb_X12_mustNumber_42 G n a0 h2
  · refine zi_aload_n dX12_mustNumber_7 rfl 0 rfl ?_
    refine zi_getR dX12_mustNumber_8 gf_X12_54 (fun v3 => ?_)
    refine zi_aload_n dX12_mustNumber_11 rfl 0 rfl ?_
    refine zi_getI dX12_mustNumber_12 gf_X12_162 (fun v4 => ?_)
    refine zi_iald dX12_mustNumber_15 (fun v5 => ?_)
    refine zi_bipush (v := 50) dX12_mustNumber_16 (by decide) ?_
    refine zi_icmp_ne (tgt := 38) dX12_mustNumber_18 (by decide) ?_ ?_
    · refine zi_sub [0] rfl ?_
      exact wb_X12_mustNumber_38 G n a0 h2
    · refine zi_aload_n dX12_mustNumber_21 rfl 0 rfl ?_
      refine zi_getR dX12_mustNumber_22 gf_X12_57 (fun v6 => ?_)
      refine zi_aload_n dX12_mustNumber_25 rfl 0 rfl ?_
      refine zi_getI dX12_mustNumber_26 gf_X12_162 (fun v7 => ?_)
      refine zi_iald dX12_mustNumber_29 (fun v8 => ?_)
      refine zi_iload_n dX12_mustNumber_30 rfl 1 rfl ?_
      refine zi_iload_n dX12_mustNumber_31 rfl 2 rfl ?_
      refine zi_callSI (As := [.int v8, .int a1, .int a2]) (rest := []) dX12_mustNumber_32 ml_X12_18 md_X12_lies ms_X12_lies rfl rfl (Nat.le_of_ble_eq_true rfl) (Nat.le_of_ble_eq_true rfl) (k_X12_lies G n v8 a1 a2 h2) (fun r9 h10 => ?_)
      refine zi_if_ne (tgt := 42) dX12_mustNumber_35 (by decide) ?_ ?_
      · refine zi_sub [0] rfl ?_
        exact wb_X12_mustNumber_42 G n a0 h10
      · refine zi_sub [0] rfl ?_
        exact wb_X12_mustNumber_38 G n a0 h10
set_option maxRecDepth 20000 in
set_option maxHeartbeats 1000000 in
theorem wb_X12_readPart_158 (G : zG) (n : Nat) (kH : Nat → Int32 → zH → Option (Unit × zH)) (dh : Nat) (hdh : 3 ≤ dh) (hH : ∀ (q0 : Nat) (q1 : Int32) (h : zH), zMet G yX12_readSum cX12_readSum 2 none zvU dh [.ref (zbase G + q0), .int q1] h (kH q0 q1 h)) (l0 : Nat) (h : zH) : zW G yX12_readPart cX12_readPart 3 none zvU (dh + 1) 158 [(0, .ref (zbase G + l0))] [] h (fb_X12_readPart_158 n kH l0 h) := by
  unfold fb_X12_readPart_158
  refine zi_aload_n dX12_readPart_158 rfl 0 rfl ?_
  refine zi_callVU (As := []) (rest := []) (ci := 12) dX12_readPart_159 ml_X12_168 md_X12_faults mv_X12_faults rfl (by decide) rfl rfl (Nat.le_of_ble_eq_true rfl) (by omega) (k_X12_faults G n l0 h) (fun _ h2 => ?_)
  exact zi_retV dX12_readPart_162
set_option maxRecDepth 20000 in
set_option maxHeartbeats 1000000 in
theorem wb_X12_readPart_135 (G : zG) (n : Nat) (kH : Nat → Int32 → zH → Option (Unit × zH)) (dh : Nat) (hdh : 3 ≤ dh) (hH : ∀ (q0 : Nat) (q1 : Int32) (h : zH), zMet G yX12_readSum cX12_readSum 2 none zvU dh [.ref (zbase G + q0), .int q1] h (kH q0 q1 h)) (l0 : Nat) (l2 : Int32) (h : zH) : zW G yX12_readPart cX12_readPart 3 none zvU (dh + 1) 135 [(0, .ref (zbase G + l0)), (2, .int l2)] [] h (fb_X12_readPart_135 n kH l0 l2 h) := by
  unfold fb_X12_readPart_135
  refine zi_aload_n dX12_readPart_135 rfl 0 rfl ?_
  refine zi_getZ dX12_readPart_136 gf_X12_191 (fun v1 => ?_)
  refine zi_if_eq (tgt := 162) dX12_readPart_139 (by decide) ?_ ?_
  · exact zi_retV dX12_readPart_162
  · refine zi_iload_n dX12_readPart_142 rfl 1 rfl ?_
    refine zi_bipush (v := 19) dX12_readPart_143 (by decide) ?_
    refine zi_icmp_ne (tgt := 162) dX12_readPart_145 (by decide) ?_ ?_
    · exact zi_retV dX12_readPart_162
    · refine zi_aload_n dX12_readPart_148 rfl 0 rfl ?_
      refine zi_iconst (v := 0) dX12_readPart_149 (by decide) ?_
      refine zi_bipush (v := 99) dX12_readPart_150 (by decide) ?_
      refine zi_callVU (As := [.int 0, .int 99]) (rest := []) (ci := 12) dX12_readPart_152 ml_X12_187 md_X12_mustNumber mv_X12_mustNumber rfl (by decide) rfl rfl (Nat.le_of_ble_eq_true rfl) (by omega) (k_X12_mustNumber G n l0 0 99 h) (fun _ h3 => ?_)
      refine zi_goto (tgt := 162) dX12_readPart_155 (by decide) ?_
      exact zi_retV dX12_readPart_162
set_option maxRecDepth 20000 in
set_option maxHeartbeats 1000000 in
theorem wb_X12_readPart_111 (G : zG) (n : Nat) (kH : Nat → Int32 → zH → Option (Unit × zH)) (dh : Nat) (hdh : 3 ≤ dh) (hH : ∀ (q0 : Nat) (q1 : Int32) (h : zH), zMet G yX12_readSum cX12_readSum 2 none zvU dh [.ref (zbase G + q0), .int q1] h (kH q0 q1 h)) (l0 : Nat) (l2 : Int32) (h : zH) : zW G yX12_readPart cX12_readPart 3 none zvU (dh + 1) 111 [(0, .ref (zbase G + l0)), (2, .int l2)] [] h (fb_X12_readPart_111 n kH l0 l2 h) := by
  unfold fb_X12_readPart_111
  refine zi_aload_n dX12_readPart_111 rfl 0 rfl ?_
  refine zi_callVU (As := []) (rest := []) (ci := 12) dX12_readPart_112 ml_X12_223 md_X12_leaf mv_X12_leaf rfl (by decide) rfl rfl (Nat.le_of_ble_eq_true rfl) (by omega) (k_X12_leaf G n l0 h) (fun _ h2 => ?_)
  refine zi_aload_n dX12_readPart_115 rfl 0 rfl ?_
  refine zi_getZ dX12_readPart_116 gf_X12_191 (fun v3 => ?_)
  refine zi_if_eq (tgt := 135) dX12_readPart_119 (by decide) ?_ ?_
  · refine zi_sub [0, 1] rfl ?_
    exact wb_X12_readPart_135 G n kH dh hdh hH l0 l2 h2
  · refine zi_iload_n dX12_readPart_122 rfl 1 rfl ?_
    refine zi_bipush (v := 18) dX12_readPart_123 (by decide) ?_
    refine zi_icmp_ne (tgt := 135) dX12_readPart_125 (by decide) ?_ ?_
    · refine zi_sub [0, 1] rfl ?_
      exact wb_X12_readPart_135 G n kH dh hdh hH l0 l2 h2
    · refine zi_aload_n dX12_readPart_128 rfl 0 rfl ?_
      refine zi_iconst (v := 0) dX12_readPart_129 (by decide) ?_
      refine zi_bipush (v := 7) dX12_readPart_130 (by decide) ?_
      refine zi_callVU (As := [.int 0, .int 7]) (rest := []) (ci := 12) dX12_readPart_132 ml_X12_187 md_X12_mustNumber mv_X12_mustNumber rfl (by decide) rfl rfl (Nat.le_of_ble_eq_true rfl) (by omega) (k_X12_mustNumber G n l0 0 7 h2) (fun _ h5 => ?_)
      refine zi_sub [0, 1] rfl ?_
      exact wb_X12_readPart_135 G n kH dh hdh hH l0 l2 h5
set_option maxRecDepth 20000 in
set_option maxHeartbeats 1000000 in
theorem wb_X12_readPart_95 (G : zG) (n : Nat) (kH : Nat → Int32 → zH → Option (Unit × zH)) (dh : Nat) (hdh : 3 ≤ dh) (hH : ∀ (q0 : Nat) (q1 : Int32) (h : zH), zMet G yX12_readSum cX12_readSum 2 none zvU dh [.ref (zbase G + q0), .int q1] h (kH q0 q1 h)) (l0 : Nat) (l2 : Int32) (h : zH) : zW G yX12_readPart cX12_readPart 3 none zvU (dh + 1) 95 [(0, .ref (zbase G + l0)), (2, .int l2)] [] h (fb_X12_readPart_95 n kH l0 l2 h) := by
  unfold fb_X12_readPart_95
  refine zi_iload_n dX12_readPart_95 rfl 1 rfl ?_
  refine zi_aload_n dX12_readPart_96 rfl 0 rfl ?_
  refine zi_getI dX12_readPart_97 gf_X12_217 (fun v1 => ?_)
  refine zi_icmp_lt (tgt := 158) dX12_readPart_100 (by decide) ?_ ?_
  · refine zi_sub [0] rfl ?_
    exact wb_X12_readPart_158 G n kH dh hdh hH l0 h
  · refine zi_iload_n dX12_readPart_103 rfl 1 rfl ?_
    refine zi_aload_n dX12_readPart_104 rfl 0 rfl ?_
    refine zi_getI dX12_readPart_105 gf_X12_220 (fun v2 => ?_)
    refine zi_icmp_gt (tgt := 158) dX12_readPart_108 (by decide) ?_ ?_
    · refine zi_sub [0] rfl ?_
      exact wb_X12_readPart_158 G n kH dh hdh hH l0 h
    · refine zi_sub [0, 1] rfl ?_
      exact wb_X12_readPart_111 G n kH dh hdh hH l0 l2 h
set_option maxRecDepth 20000 in
set_option maxHeartbeats 1000000 in
theorem wb_X12_readPart_37 (G : zG) (n : Nat) (kH : Nat → Int32 → zH → Option (Unit × zH)) (dh : Nat) (hdh : 3 ≤ dh) (hH : ∀ (q0 : Nat) (q1 : Int32) (h : zH), zMet G yX12_readSum cX12_readSum 2 none zvU dh [.ref (zbase G + q0), .int q1] h (kH q0 q1 h)) (l0 : Nat) (l1 : Int32) (h : zH) : zW G yX12_readPart cX12_readPart 3 none zvU (dh + 1) 37 [(0, .ref (zbase G + l0)), (1, .int l1)] [] h (fb_X12_readPart_37 n kH l0 l1 h) := by
  unfold fb_X12_readPart_37
  refine zi_aload_n dX12_readPart_37 rfl 0 rfl ?_
  refine zi_callVI (As := []) (rest := []) (ci := 12) dX12_readPart_38 ml_X12_159 md_X12_fine mv_X12_fine rfl (by decide) rfl rfl (Nat.le_of_ble_eq_true rfl) (by omega) (k_X12_fine G n l0 h) (fun r1 h2 => ?_)
  refine zi_if_ne (tgt := 45) dX12_readPart_41 (by decide) ?_ ?_
  · refine zi_aload_n dX12_readPart_45 rfl 0 rfl ?_
    refine zi_dup dX12_readPart_46 rfl ?_
    refine zi_getI dX12_readPart_47 gf_X12_162 (fun v3 => ?_)
    refine zi_iconst (v := 1) dX12_readPart_50 (by decide) ?_
    refine zi_iadd dX12_readPart_51 ?_
    refine zi_putI dX12_readPart_52 gf_X12_162 (fun h4 => ?_)
    refine zi_aload_n dX12_readPart_55 rfl 0 rfl ?_
    refine zi_iload_n dX12_readPart_56 rfl 1 rfl ?_
    refine zi_iconst (v := 1) dX12_readPart_57 (by decide) ?_
    refine zi_iadd dX12_readPart_58 ?_
    refine zi_callVU (As := [.int (l1 + 1)]) (rest := []) (ci := 12) dX12_readPart_59 ml_X12_174 md_X12_readSum mv_X12_readSum rfl (by decide) rfl rfl (Nat.le_of_ble_eq_true rfl) (by omega) (hH l0 (l1 + 1) h4) (fun _ h6 => ?_)
    refine zi_aload_n dX12_readPart_62 rfl 0 rfl ?_
    refine zi_bipush (v := 93) dX12_readPart_63 (by decide) ?_
    refine zi_callSI (As := [.int 93]) (rest := [.ref (zbase G + l0)]) dX12_readPart_65 ml_X12_207 md_X12_sign ms_X12_sign rfl rfl (Nat.le_of_ble_eq_true rfl) (by omega) (k_X12_sign G n 93 h6) (fun r7 h8 => ?_)
    refine zi_callVU (As := [.int r7]) (rest := []) (ci := 12) dX12_readPart_68 ml_X12_178 md_X12_must mv_X12_must rfl (by decide) rfl rfl (Nat.le_of_ble_eq_true rfl) (by omega) (k_X12_must G n l0 r7 h8) (fun _ h10 => ?_)
    refine zi_goto (tgt := 162) dX12_readPart_71 (by decide) ?_
    exact zi_retV dX12_readPart_162
  · exact zi_retV dX12_readPart_44
set_option maxRecDepth 20000 in
set_option maxHeartbeats 1000000 in
theorem k_X12_readPart (G : zG) (n : Nat) (kH : Nat → Int32 → zH → Option (Unit × zH)) (dh : Nat) (hdh : 3 ≤ dh) (hH : ∀ (q0 : Nat) (q1 : Int32) (h : zH), zMet G yX12_readSum cX12_readSum 2 none zvU dh [.ref (zbase G + q0), .int q1] h (kH q0 q1 h)) (a0 : Nat) (a1 : Int32) (h : zH) : zMet G yX12_readPart cX12_readPart 3 none zvU (dh + 1) [.ref (zbase G + a0), .int a1] h (f_X12_readPart n kH a0 a1 h) := by
  refine zMet_of (l := [(0, .ref (zbase G + a0)), (1, .int a1)]) (by decide) (Nat.le_of_ble_eq_true rfl) rfl ?_
  unfold f_X12_readPart
  refine zi_aload_n dX12_readPart_0 rfl 0 rfl ?_
  refine zi_callVI (As := []) (rest := []) (ci := 12) dX12_readPart_1 ml_X12_159 md_X12_fine mv_X12_fine rfl (by decide) rfl rfl (Nat.le_of_ble_eq_true rfl) (by omega) (k_X12_fine G n a0 h) (fun r1 h2 => ?_)
  refine zi_if_ne (tgt := 8) dX12_readPart_4 (by decide) ?_ ?_
  · refine zi_aload_n dX12_readPart_8 rfl 0 rfl ?_
    refine zi_getR dX12_readPart_9 gf_X12_54 (fun v3 => ?_)
    refine zi_aload_n dX12_readPart_12 rfl 0 rfl ?_
    refine zi_getI dX12_readPart_13 gf_X12_162 (fun v4 => ?_)
    refine zi_iald dX12_readPart_16 (fun v5 => ?_)
    refine zi_istore_n (l' := [(2, .int v5), (0, .ref (zbase G + a0)), (1, .int a1)]) dX12_readPart_17 rfl (by decide) rfl ?_
    refine zi_iload_n dX12_readPart_18 rfl 0 rfl ?_
    refine zi_bipush (v := 91) dX12_readPart_19 (by decide) ?_
    refine zi_callSI (As := [.int 91]) (rest := [.int v5]) dX12_readPart_21 ml_X12_207 md_X12_sign ms_X12_sign rfl rfl (Nat.le_of_ble_eq_true rfl) (by omega) (k_X12_sign G n 91 h2) (fun r6 h7 => ?_)
    refine zi_icmp_ne (tgt := 74) dX12_readPart_24 (by decide) ?_ ?_
    · refine zi_iload_n dX12_readPart_74 rfl 0 rfl ?_
      refine zi_bipush (v := 50) dX12_readPart_75 (by decide) ?_
      refine zi_icmp_ne (tgt := 95) dX12_readPart_77 (by decide) ?_ ?_
      · refine zi_sub [1, 0] rfl ?_
        exact wb_X12_readPart_95 G n kH dh hdh hH a0 v5 h7
      · refine zi_aload_n dX12_readPart_80 rfl 1 rfl ?_
        refine zi_getR dX12_readPart_81 gf_X12_57 (fun v8 => ?_)
        refine zi_aload_n dX12_readPart_84 rfl 1 rfl ?_
        refine zi_getI dX12_readPart_85 gf_X12_162 (fun v9 => ?_)
        refine zi_iald dX12_readPart_88 (fun v10 => ?_)
        refine zi_sipush (v := 1000) dX12_readPart_89 (by decide) ?_
        refine zi_icmp_le (tgt := 111) dX12_readPart_92 (by decide) ?_ ?_
        · refine zi_sub [1, 0] rfl ?_
          exact wb_X12_readPart_111 G n kH dh hdh hH a0 v5 h7
        · refine zi_sub [1, 0] rfl ?_
          exact wb_X12_readPart_95 G n kH dh hdh hH a0 v5 h7
    · refine zi_iload_n dX12_readPart_27 rfl 2 rfl ?_
      refine zi_bipush (v := 8) dX12_readPart_28 (by decide) ?_
      refine zi_icmp_ne (tgt := 37) dX12_readPart_30 (by decide) ?_ ?_
      · refine zi_sub [1, 2] rfl ?_
        exact wb_X12_readPart_37 G n kH dh hdh hH a0 a1 h7
      · refine zi_aload_n dX12_readPart_33 rfl 1 rfl ?_
        refine zi_callVU (As := []) (rest := []) (ci := 12) dX12_readPart_34 ml_X12_168 md_X12_faults mv_X12_faults rfl (by decide) rfl rfl (Nat.le_of_ble_eq_true rfl) (by omega) (k_X12_faults G n a0 h7) (fun _ h12 => ?_)
        refine zi_sub [1, 2] rfl ?_
        exact wb_X12_readPart_37 G n kH dh hdh hH a0 a1 h12
  · exact zi_retV dX12_readPart_7
set_option maxRecDepth 20000 in
set_option maxHeartbeats 1000000 in
theorem wb_X12_readTerm_41 (G : zG) (n : Nat) (kH : Nat → Int32 → zH → Option (Unit × zH)) (dh : Nat) (hdh : 3 ≤ dh) (hH : ∀ (q0 : Nat) (q1 : Int32) (h : zH), zMet G yX12_readSum cX12_readSum 2 none zvU dh [.ref (zbase G + q0), .int q1] h (kH q0 q1 h)) (k5 : Nat → Int32 → zH → Option (Unit × zH)) (hk5 : ∀ (l0 : Nat) (l1 : Int32) (h : zH), zW G yX12_readTerm cX12_readTerm 2 none zvU (dh + 2) 5 [(0, .ref (zbase G + l0)), (1, .int l1)] [] h (k5 l0 l1 h)) (l0 : Nat) (l1 : Int32) (h : zH) : zW G yX12_readTerm cX12_readTerm 2 none zvU (dh + 2) 41 [(0, .ref (zbase G + l0)), (1, .int l1)] [] h (fb_X12_readTerm_41 n kH k5 l0 l1 h) := by
  unfold fb_X12_readTerm_41
  refine zi_aload_n dX12_readTerm_41 rfl 0 rfl ?_
  refine zi_iload_n dX12_readTerm_42 rfl 1 rfl ?_
  refine zi_callVU (As := [.int l1]) (rest := []) (ci := 12) dX12_readTerm_43 ml_X12_214 md_X12_readPart mv_X12_readPart rfl (by decide) rfl rfl (Nat.le_of_ble_eq_true rfl) (by omega) (k_X12_readPart G n kH dh hdh hH l0 l1 h) (fun _ h2 => ?_)
  refine zi_goto (tgt := 5) dX12_readTerm_46 (by decide) ?_
  refine zi_sub [0, 1] rfl ?_
  exact hk5 l0 l1 h2
set_option maxRecDepth 20000 in
set_option maxHeartbeats 1000000 in
theorem wb_X12_readTerm_5 (G : zG) (n : Nat) (kH : Nat → Int32 → zH → Option (Unit × zH)) (dh : Nat) (hdh : 3 ≤ dh) (hH : ∀ (q0 : Nat) (q1 : Int32) (h : zH), zMet G yX12_readSum cX12_readSum 2 none zvU dh [.ref (zbase G + q0), .int q1] h (kH q0 q1 h)) (k5 : Nat → Int32 → zH → Option (Unit × zH)) (hk5 : ∀ (l0 : Nat) (l1 : Int32) (h : zH), zW G yX12_readTerm cX12_readTerm 2 none zvU (dh + 2) 5 [(0, .ref (zbase G + l0)), (1, .int l1)] [] h (k5 l0 l1 h)) (l0 : Nat) (l1 : Int32) (h : zH) : zW G yX12_readTerm cX12_readTerm 2 none zvU (dh + 2) 5 [(0, .ref (zbase G + l0)), (1, .int l1)] [] h (fb_X12_readTerm_5 n kH k5 l0 l1 h) := by
  unfold fb_X12_readTerm_5
  refine zi_aload_n dX12_readTerm_5 rfl 0 rfl ?_
  refine zi_bipush (v := 42) dX12_readTerm_6 (by decide) ?_
  refine zi_callSI (As := [.int 42]) (rest := [.ref (zbase G + l0)]) dX12_readTerm_8 ml_X12_207 md_X12_sign ms_X12_sign rfl rfl (Nat.le_of_ble_eq_true rfl) (by omega) (k_X12_sign G n 42 h) (fun r1 h2 => ?_)
  refine zi_callVI (As := [.int r1]) (rest := []) (ci := 12) dX12_readTerm_11 ml_X12_165 md_X12_takes0 mv_X12_takes0 rfl (by decide) rfl rfl (Nat.le_of_ble_eq_true rfl) (by omega) (k_X12_takes0 G n l0 r1 h2) (fun r3 h4 => ?_)
  refine zi_if_ne (tgt := 41) dX12_readTerm_14 (by decide) ?_ ?_
  · refine zi_sub [0, 1] rfl ?_
    exact wb_X12_readTerm_41 G n kH dh hdh hH k5 hk5 l0 l1 h4
  · refine zi_aload_n dX12_readTerm_17 rfl 0 rfl ?_
    refine zi_bipush (v := 47) dX12_readTerm_18 (by decide) ?_
    refine zi_callSI (As := [.int 47]) (rest := [.ref (zbase G + l0)]) dX12_readTerm_20 ml_X12_207 md_X12_sign ms_X12_sign rfl rfl (Nat.le_of_ble_eq_true rfl) (by omega) (k_X12_sign G n 47 h4) (fun r5 h6 => ?_)
    refine zi_callVI (As := [.int r5]) (rest := []) (ci := 12) dX12_readTerm_23 ml_X12_165 md_X12_takes0 mv_X12_takes0 rfl (by decide) rfl rfl (Nat.le_of_ble_eq_true rfl) (by omega) (k_X12_takes0 G n l0 r5 h6) (fun r7 h8 => ?_)
    refine zi_if_ne (tgt := 41) dX12_readTerm_26 (by decide) ?_ ?_
    · refine zi_sub [0, 1] rfl ?_
      exact wb_X12_readTerm_41 G n kH dh hdh hH k5 hk5 l0 l1 h8
    · refine zi_aload_n dX12_readTerm_29 rfl 0 rfl ?_
      refine zi_bipush (v := 37) dX12_readTerm_30 (by decide) ?_
      refine zi_callSI (As := [.int 37]) (rest := [.ref (zbase G + l0)]) dX12_readTerm_32 ml_X12_207 md_X12_sign ms_X12_sign rfl rfl (Nat.le_of_ble_eq_true rfl) (by omega) (k_X12_sign G n 37 h8) (fun r9 h10 => ?_)
      refine zi_callVI (As := [.int r9]) (rest := []) (ci := 12) dX12_readTerm_35 ml_X12_165 md_X12_takes0 mv_X12_takes0 rfl (by decide) rfl rfl (Nat.le_of_ble_eq_true rfl) (by omega) (k_X12_takes0 G n l0 r9 h10) (fun r11 h12 => ?_)
      refine zi_if_eq (tgt := 49) dX12_readTerm_38 (by decide) ?_ ?_
      · exact zi_retV dX12_readTerm_49
      · refine zi_sub [0, 1] rfl ?_
        exact wb_X12_readTerm_41 G n kH dh hdh hH k5 hk5 l0 l1 h12
theorem wl_X12_readTerm_5 (G : zG) (n : Nat) (kH : Nat → Int32 → zH → Option (Unit × zH)) (dh : Nat) (hdh : 3 ≤ dh) (hH : ∀ (q0 : Nat) (q1 : Int32) (h : zH), zMet G yX12_readSum cX12_readSum 2 none zvU dh [.ref (zbase G + q0), .int q1] h (kH q0 q1 h)) : ∀ (t : Nat) (l0 : Nat) (l1 : Int32) (h : zH), zW G yX12_readTerm cX12_readTerm 2 none zvU (dh + 2) 5 [(0, .ref (zbase G + l0)), (1, .int l1)] [] h (zlp2 (fb_X12_readTerm_5 n kH ) t l0 l1 h) := by
  intro t
  induction t with
  | zero => intros; exact zW_none
  | succ t ih => intro l0 l1 h; rw [zlp2_s]; exact wb_X12_readTerm_5 G n kH dh hdh hH  _  ih l0 l1 h
set_option maxRecDepth 20000 in
set_option maxHeartbeats 1000000 in
theorem k_X12_readTerm (G : zG) (n : Nat) (kH : Nat → Int32 → zH → Option (Unit × zH)) (dh : Nat) (hdh : 3 ≤ dh) (hH : ∀ (q0 : Nat) (q1 : Int32) (h : zH), zMet G yX12_readSum cX12_readSum 2 none zvU dh [.ref (zbase G + q0), .int q1] h (kH q0 q1 h)) (a0 : Nat) (a1 : Int32) (h : zH) : zMet G yX12_readTerm cX12_readTerm 2 none zvU (dh + 2) [.ref (zbase G + a0), .int a1] h (f_X12_readTerm n kH a0 a1 h) := by
  refine zMet_of (l := [(0, .ref (zbase G + a0)), (1, .int a1)]) (by decide) (Nat.le_of_ble_eq_true rfl) rfl ?_
  unfold f_X12_readTerm
  refine zi_aload_n dX12_readTerm_0 rfl 0 rfl ?_
  refine zi_iload_n dX12_readTerm_1 rfl 1 rfl ?_
  refine zi_callVU (As := [.int a1]) (rest := []) (ci := 12) dX12_readTerm_2 ml_X12_214 md_X12_readPart mv_X12_readPart rfl (by decide) rfl rfl (Nat.le_of_ble_eq_true rfl) (by omega) (k_X12_readPart G n kH dh hdh hH a0 a1 h) (fun _ h2 => ?_)
  refine zi_sub [0, 1] rfl ?_
  exact wl_X12_readTerm_5 G n kH dh hdh hH n a0 a1 h2
set_option maxRecDepth 20000 in
set_option maxHeartbeats 1000000 in
theorem wb_X12_readSum_29 (G : zG) (n : Nat) (kH : Nat → Int32 → zH → Option (Unit × zH)) (dh : Nat) (hdh : 3 ≤ dh) (hH : ∀ (q0 : Nat) (q1 : Int32) (h : zH), zMet G yX12_readSum cX12_readSum 2 none zvU dh [.ref (zbase G + q0), .int q1] h (kH q0 q1 h)) (k5 : Nat → Int32 → zH → Option (Unit × zH)) (hk5 : ∀ (l0 : Nat) (l1 : Int32) (h : zH), zW G yX12_readSum cX12_readSum 2 none zvU (dh + 3) 5 [(0, .ref (zbase G + l0)), (1, .int l1)] [] h (k5 l0 l1 h)) (l0 : Nat) (l1 : Int32) (h : zH) : zW G yX12_readSum cX12_readSum 2 none zvU (dh + 3) 29 [(0, .ref (zbase G + l0)), (1, .int l1)] [] h (fb_X12_readSum_29 n kH k5 l0 l1 h) := by
  unfold fb_X12_readSum_29
  refine zi_aload_n dX12_readSum_29 rfl 0 rfl ?_
  refine zi_iload_n dX12_readSum_30 rfl 1 rfl ?_
  refine zi_callVU (As := [.int l1]) (rest := []) (ci := 12) dX12_readSum_31 ml_X12_211 md_X12_readTerm mv_X12_readTerm rfl (by decide) rfl rfl (Nat.le_of_ble_eq_true rfl) (by omega) (k_X12_readTerm G n kH dh hdh hH l0 l1 h) (fun _ h2 => ?_)
  refine zi_goto (tgt := 5) dX12_readSum_34 (by decide) ?_
  refine zi_sub [0, 1] rfl ?_
  exact hk5 l0 l1 h2
set_option maxRecDepth 20000 in
set_option maxHeartbeats 1000000 in
theorem wb_X12_readSum_5 (G : zG) (n : Nat) (kH : Nat → Int32 → zH → Option (Unit × zH)) (dh : Nat) (hdh : 3 ≤ dh) (hH : ∀ (q0 : Nat) (q1 : Int32) (h : zH), zMet G yX12_readSum cX12_readSum 2 none zvU dh [.ref (zbase G + q0), .int q1] h (kH q0 q1 h)) (k5 : Nat → Int32 → zH → Option (Unit × zH)) (hk5 : ∀ (l0 : Nat) (l1 : Int32) (h : zH), zW G yX12_readSum cX12_readSum 2 none zvU (dh + 3) 5 [(0, .ref (zbase G + l0)), (1, .int l1)] [] h (k5 l0 l1 h)) (l0 : Nat) (l1 : Int32) (h : zH) : zW G yX12_readSum cX12_readSum 2 none zvU (dh + 3) 5 [(0, .ref (zbase G + l0)), (1, .int l1)] [] h (fb_X12_readSum_5 n kH k5 l0 l1 h) := by
  unfold fb_X12_readSum_5
  refine zi_aload_n dX12_readSum_5 rfl 0 rfl ?_
  refine zi_bipush (v := 43) dX12_readSum_6 (by decide) ?_
  refine zi_callSI (As := [.int 43]) (rest := [.ref (zbase G + l0)]) dX12_readSum_8 ml_X12_207 md_X12_sign ms_X12_sign rfl rfl (Nat.le_of_ble_eq_true rfl) (by omega) (k_X12_sign G n 43 h) (fun r1 h2 => ?_)
  refine zi_callVI (As := [.int r1]) (rest := []) (ci := 12) dX12_readSum_11 ml_X12_165 md_X12_takes0 mv_X12_takes0 rfl (by decide) rfl rfl (Nat.le_of_ble_eq_true rfl) (by omega) (k_X12_takes0 G n l0 r1 h2) (fun r3 h4 => ?_)
  refine zi_if_ne (tgt := 29) dX12_readSum_14 (by decide) ?_ ?_
  · refine zi_sub [0, 1] rfl ?_
    exact wb_X12_readSum_29 G n kH dh hdh hH k5 hk5 l0 l1 h4
  · refine zi_aload_n dX12_readSum_17 rfl 0 rfl ?_
    refine zi_bipush (v := 45) dX12_readSum_18 (by decide) ?_
    refine zi_callSI (As := [.int 45]) (rest := [.ref (zbase G + l0)]) dX12_readSum_20 ml_X12_207 md_X12_sign ms_X12_sign rfl rfl (Nat.le_of_ble_eq_true rfl) (by omega) (k_X12_sign G n 45 h4) (fun r5 h6 => ?_)
    refine zi_callVI (As := [.int r5]) (rest := []) (ci := 12) dX12_readSum_23 ml_X12_165 md_X12_takes0 mv_X12_takes0 rfl (by decide) rfl rfl (Nat.le_of_ble_eq_true rfl) (by omega) (k_X12_takes0 G n l0 r5 h6) (fun r7 h8 => ?_)
    refine zi_if_eq (tgt := 37) dX12_readSum_26 (by decide) ?_ ?_
    · exact zi_retV dX12_readSum_37
    · refine zi_sub [0, 1] rfl ?_
      exact wb_X12_readSum_29 G n kH dh hdh hH k5 hk5 l0 l1 h8
theorem wl_X12_readSum_5 (G : zG) (n : Nat) (kH : Nat → Int32 → zH → Option (Unit × zH)) (dh : Nat) (hdh : 3 ≤ dh) (hH : ∀ (q0 : Nat) (q1 : Int32) (h : zH), zMet G yX12_readSum cX12_readSum 2 none zvU dh [.ref (zbase G + q0), .int q1] h (kH q0 q1 h)) : ∀ (t : Nat) (l0 : Nat) (l1 : Int32) (h : zH), zW G yX12_readSum cX12_readSum 2 none zvU (dh + 3) 5 [(0, .ref (zbase G + l0)), (1, .int l1)] [] h (zlp2 (fb_X12_readSum_5 n kH ) t l0 l1 h) := by
  intro t
  induction t with
  | zero => intros; exact zW_none
  | succ t ih => intro l0 l1 h; rw [zlp2_s]; exact wb_X12_readSum_5 G n kH dh hdh hH  _  ih l0 l1 h
set_option maxRecDepth 20000 in
set_option maxHeartbeats 1000000 in
theorem kB_X12_readSum (G : zG) (n : Nat) (kH : Nat → Int32 → zH → Option (Unit × zH)) (dh : Nat) (hdh : 3 ≤ dh) (hH : ∀ (q0 : Nat) (q1 : Int32) (h : zH), zMet G yX12_readSum cX12_readSum 2 none zvU dh [.ref (zbase G + q0), .int q1] h (kH q0 q1 h)) (a0 : Nat) (a1 : Int32) (h : zH) : zMet G yX12_readSum cX12_readSum 2 none zvU (dh + 3) [.ref (zbase G + a0), .int a1] h (fB_X12_readSum n kH a0 a1 h) := by
  refine zMet_of (l := [(0, .ref (zbase G + a0)), (1, .int a1)]) (by decide) (Nat.le_of_ble_eq_true rfl) rfl ?_
  unfold fB_X12_readSum
  refine zi_aload_n dX12_readSum_0 rfl 0 rfl ?_
  refine zi_iload_n dX12_readSum_1 rfl 1 rfl ?_
  refine zi_callVU (As := [.int a1]) (rest := []) (ci := 12) dX12_readSum_2 ml_X12_211 md_X12_readTerm mv_X12_readTerm rfl (by decide) rfl rfl (Nat.le_of_ble_eq_true rfl) (by omega) (k_X12_readTerm G n kH dh hdh hH a0 a1 h) (fun _ h2 => ?_)
  refine zi_sub [0, 1] rfl ?_
  exact wl_X12_readSum_5 G n kH dh hdh hH n a0 a1 h2
theorem k_X12_readSum (G : zG) (n : Nat) : ∀ (r : Nat) (a0 : Nat) (a1 : Int32) (h : zH), zMet G yX12_readSum cX12_readSum 2 none zvU (3 + 3 * r) [.ref (zbase G + a0), .int a1] h (f_X12_readSum n r a0 a1 h) := by
  intro r
  induction r with
  | zero => intro a0 a1 h r h1 hX; cases hX
  | succ r ih => intro a0 a1 h; exact kB_X12_readSum G n (f_X12_readSum n r) (3 + 3 * r) (Nat.le_add_right _ _) ih a0 a1 h
