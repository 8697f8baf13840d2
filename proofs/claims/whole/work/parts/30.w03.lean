set_option maxRecDepth 20000 in
set_option maxHeartbeats 1000000 in
theorem wb_X0_tellValues_92 (G : zG) (n : Nat) (k42 : Nat → Nat → Int32 → Int32 → Int32 → zH → Option (Unit × zH)) (hk42 : ∀ (l0 : Nat) (l1 : Nat) (l2 : Int32) (l3 : Int32) (l4 : Int32) (h : zH), zW G yX0_tellValues cX0_tellValues 5 none zvU 2 42 [(0, .ref (zbase G + l0)), (1, .ref (zbase G + l1)), (2, .int l2), (3, .int l3), (4, .int l4)] [] h (k42 l0 l1 l2 l3 l4 h)) (l0 : Nat) (l1 : Nat) (l2 : Int32) (l3 : Int32) (l4 : Int32) (h : zH) : zW G yX0_tellValues cX0_tellValues 5 none zvU 2 92 [(0, .ref (zbase G + l0)), (1, .ref (zbase G + l1)), (2, .int l2), (3, .int l3), (4, .int l4)] [] h (fb_X0_tellValues_92 n k42 l0 l1 l2 l3 l4 h) := by
  unfold fb_X0_tellValues_92
  refine zi_aload_n dX0_tellValues_92 rfl 0 rfl ?_
  refine zi_getR dX0_tellValues_93 gf_X0_21 (fun v1 => ?_)
  refine zi_iload_n dX0_tellValues_96 rfl 3 rfl ?_
  refine zi_iald dX0_tellValues_97 (fun v2 => ?_)
  refine zi_istore_n (l' := [(3, .int v2), (0, .ref (zbase G + l0)), (1, .ref (zbase G + l1)), (2, .int l2), (4, .int l4)]) dX0_tellValues_98 rfl (by decide) rfl ?_
  refine zi_iinc (j := 4) (v := l4 + 1) (l' := [(4, .int (l4 + 1)), (3, .int v2), (0, .ref (zbase G + l0)), (1, .ref (zbase G + l1)), (2, .int l2)]) dX0_tellValues_99 rfl rfl (by decide) rfl ?_
  refine zi_goto (tgt := 42) dX0_tellValues_102 (by decide) ?_
  refine zi_sub [2, 3, 4, 1, 0] rfl ?_
  exact hk42 l0 l1 l2 v2 (l4 + 1) h
set_option maxRecDepth 20000 in
set_option maxHeartbeats 1000000 in
theorem wb_X0_tellValues_42 (G : zG) (n : Nat) (k42 : Nat → Nat → Int32 → Int32 → Int32 → zH → Option (Unit × zH)) (hk42 : ∀ (l0 : Nat) (l1 : Nat) (l2 : Int32) (l3 : Int32) (l4 : Int32) (h : zH), zW G yX0_tellValues cX0_tellValues 5 none zvU 2 42 [(0, .ref (zbase G + l0)), (1, .ref (zbase G + l1)), (2, .int l2), (3, .int l3), (4, .int l4)] [] h (k42 l0 l1 l2 l3 l4 h)) (l0 : Nat) (l1 : Nat) (l2 : Int32) (l3 : Int32) (l4 : Int32) (h : zH) : zW G yX0_tellValues cX0_tellValues 5 none zvU 2 42 [(0, .ref (zbase G + l0)), (1, .ref (zbase G + l1)), (2, .int l2), (3, .int l3), (4, .int l4)] [] h (fb_X0_tellValues_42 n k42 l0 l1 l2 l3 l4 h) := by
  unfold fb_X0_tellValues_42
  refine zi_iload dX0_tellValues_42 4 rfl ?_
  refine zi_bipush (v := 24) dX0_tellValues_44 (by decide) ?_
  refine zi_icmp_ge (tgt := 105) dX0_tellValues_46 (by decide) ?_ ?_
  · exact zi_retV dX0_tellValues_105
  · refine zi_iload_n dX0_tellValues_49 rfl 3 rfl ?_
    refine zi_callNI (As := [.int l3]) (rest := []) (host := "GraceTree") dX0_tellValues_50 mn_X0_46 md_X11_isCell ms_X11_isCell rfl rfl (Nat.le_of_ble_eq_true rfl) (Nat.le_of_ble_eq_true rfl) (k_X11_isCell G n l3 h) (fun r1 h2 => ?_)
    refine zi_if_eq (tgt := 105) dX0_tellValues_53 (by decide) ?_ ?_
    · exact zi_retV dX0_tellValues_105
    · refine zi_aload_n dX0_tellValues_56 rfl 0 rfl ?_
      refine zi_getR dX0_tellValues_57 gf_X0_15 (fun v3 => ?_)
      refine zi_iload_n dX0_tellValues_60 rfl 3 rfl ?_
      refine zi_iald dX0_tellValues_61 (fun v4 => ?_)
      refine zi_if_lt (tgt := 92) dX0_tellValues_62 (by decide) ?_ ?_
      · refine zi_sub [0, 1, 2, 3, 4] rfl ?_
        exact wb_X0_tellValues_92 G n k42 hk42 l0 l1 l2 l3 l4 h2
      · refine zi_aload_n dX0_tellValues_65 rfl 0 rfl ?_
        refine zi_getR dX0_tellValues_66 gf_X0_15 (fun v5 => ?_)
        refine zi_iload_n dX0_tellValues_69 rfl 3 rfl ?_
        refine zi_iald dX0_tellValues_70 (fun v6 => ?_)
        refine zi_bipush (v := 100) dX0_tellValues_71 (by decide) ?_
        refine zi_icmp_ge (tgt := 92) dX0_tellValues_73 (by decide) ?_ ?_
        · refine zi_sub [0, 1, 2, 3, 4] rfl ?_
          exact wb_X0_tellValues_92 G n k42 hk42 l0 l1 l2 l3 l4 h2
        · refine zi_aload_n dX0_tellValues_76 rfl 1 rfl ?_
          refine zi_iload_n dX0_tellValues_77 rfl 2 rfl ?_
          refine zi_aload_n dX0_tellValues_78 rfl 0 rfl ?_
          refine zi_getR dX0_tellValues_79 gf_X0_15 (fun v7 => ?_)
          refine zi_iload_n dX0_tellValues_82 rfl 3 rfl ?_
          refine zi_iald dX0_tellValues_83 (fun v8 => ?_)
          refine zi_iadd dX0_tellValues_84 ?_
          refine zi_aload_n dX0_tellValues_85 rfl 0 rfl ?_
          refine zi_getR dX0_tellValues_86 gf_X0_18 (fun v9 => ?_)
          refine zi_iload_n dX0_tellValues_89 rfl 3 rfl ?_
          refine zi_iald dX0_tellValues_90 (fun v10 => ?_)
          refine zi_iast dX0_tellValues_91 (fun h11 => ?_)
          refine zi_sub [0, 1, 2, 3, 4] rfl ?_
          exact wb_X0_tellValues_92 G n k42 hk42 l0 l1 l2 l3 l4 h11
theorem wl_X0_tellValues_42 (G : zG) (n : Nat) : ∀ (t : Nat) (l0 : Nat) (l1 : Nat) (l2 : Int32) (l3 : Int32) (l4 : Int32) (h : zH), zW G yX0_tellValues cX0_tellValues 5 none zvU 2 42 [(0, .ref (zbase G + l0)), (1, .ref (zbase G + l1)), (2, .int l2), (3, .int l3), (4, .int l4)] [] h (zlp5 (fb_X0_tellValues_42 n ) t l0 l1 l2 l3 l4 h) := by
  intro t
  induction t with
  | zero => intros; exact zW_none
  | succ t ih => intro l0 l1 l2 l3 l4 h; rw [zlp5_s]; exact wb_X0_tellValues_42 G n  _  ih l0 l1 l2 l3 l4 h
set_option maxRecDepth 20000 in
set_option maxHeartbeats 1000000 in
theorem wb_X0_tellValues_34 (G : zG) (n : Nat) (l0 : Nat) (l1 : Nat) (l2 : Int32) (h : zH) : zW G yX0_tellValues cX0_tellValues 5 none zvU 2 34 [(0, .ref (zbase G + l0)), (1, .ref (zbase G + l1)), (2, .int l2)] [] h (fb_X0_tellValues_34 n l0 l1 l2 h) := by
  unfold fb_X0_tellValues_34
  refine zi_aload_n dX0_tellValues_34 rfl 0 rfl ?_
  refine zi_getI dX0_tellValues_35 gf_X0_30 (fun v1 => ?_)
  refine zi_istore_n (l' := [(3, .int v1), (0, .ref (zbase G + l0)), (1, .ref (zbase G + l1)), (2, .int l2)]) dX0_tellValues_38 rfl (by decide) rfl ?_
  refine zi_iconst (v := 0) dX0_tellValues_39 (by decide) ?_
  refine zi_istore (l' := [(4, .int 0), (3, .int v1), (0, .ref (zbase G + l0)), (1, .ref (zbase G + l1)), (2, .int l2)]) dX0_tellValues_40 (by decide) rfl ?_
  refine zi_sub [2, 3, 4, 1, 0] rfl ?_
  exact wl_X0_tellValues_42 G n n l0 l1 l2 v1 0 h
set_option maxRecDepth 20000 in
set_option maxHeartbeats 1000000 in
theorem wb_X0_tellValues_16 (G : zG) (n : Nat) (k16 : Nat → Nat → Int32 → Int32 → zH → Option (Unit × zH)) (hk16 : ∀ (l0 : Nat) (l1 : Nat) (l2 : Int32) (l3 : Int32) (h : zH), zW G yX0_tellValues cX0_tellValues 5 none zvU 2 16 [(0, .ref (zbase G + l0)), (1, .ref (zbase G + l1)), (2, .int l2), (3, .int l3)] [] h (k16 l0 l1 l2 l3 h)) (l0 : Nat) (l1 : Nat) (l2 : Int32) (l3 : Int32) (h : zH) : zW G yX0_tellValues cX0_tellValues 5 none zvU 2 16 [(0, .ref (zbase G + l0)), (1, .ref (zbase G + l1)), (2, .int l2), (3, .int l3)] [] h (fb_X0_tellValues_16 n k16 l0 l1 l2 l3 h) := by
  unfold fb_X0_tellValues_16
  refine zi_iload_n dX0_tellValues_16 rfl 3 rfl ?_
  refine zi_bipush (v := 100) dX0_tellValues_17 (by decide) ?_
  refine zi_icmp_ge (tgt := 34) dX0_tellValues_19 (by decide) ?_ ?_
  · refine zi_sub [0, 1, 2] rfl ?_
    exact wb_X0_tellValues_34 G n l0 l1 l2 h
  · refine zi_aload_n dX0_tellValues_22 rfl 1 rfl ?_
    refine zi_iload_n dX0_tellValues_23 rfl 2 rfl ?_
    refine zi_iload_n dX0_tellValues_24 rfl 3 rfl ?_
    refine zi_iadd dX0_tellValues_25 ?_
    refine zi_iconst (v := (-1)) dX0_tellValues_26 (by decide) ?_
    refine zi_iast dX0_tellValues_27 (fun h1 => ?_)
    refine zi_iinc (j := 3) (v := l3 + 1) (l' := [(3, .int (l3 + 1)), (0, .ref (zbase G + l0)), (1, .ref (zbase G + l1)), (2, .int l2)]) dX0_tellValues_28 rfl rfl (by decide) rfl ?_
    refine zi_goto (tgt := 16) dX0_tellValues_31 (by decide) ?_
    refine zi_sub [1, 2, 3, 0] rfl ?_
    exact hk16 l0 l1 l2 (l3 + 1) h1
theorem wl_X0_tellValues_16 (G : zG) (n : Nat) : ∀ (t : Nat) (l0 : Nat) (l1 : Nat) (l2 : Int32) (l3 : Int32) (h : zH), zW G yX0_tellValues cX0_tellValues 5 none zvU 2 16 [(0, .ref (zbase G + l0)), (1, .ref (zbase G + l1)), (2, .int l2), (3, .int l3)] [] h (zlp4 (fb_X0_tellValues_16 n ) t l0 l1 l2 l3 h) := by
  intro t
  induction t with
  | zero => intros; exact zW_none
  | succ t ih => intro l0 l1 l2 l3 h; rw [zlp4_s]; exact wb_X0_tellValues_16 G n  _  ih l0 l1 l2 l3 h
set_option maxRecDepth 20000 in
set_option maxHeartbeats 1000000 in
theorem k_X0_tellValues (G : zG) (n : Nat) (a0 : Nat) (a1 : Nat) (a2 : Int32) (h : zH) : zMet G yX0_tellValues cX0_tellValues 5 none zvU 2 [.ref (zbase G + a0), .ref (zbase G + a1), .int a2] h (f_X0_tellValues n a0 a1 a2 h) := by
  refine zMet_of (l := [(0, .ref (zbase G + a0)), (1, .ref (zbase G + a1)), (2, .int a2)]) (by decide) (Nat.le_of_ble_eq_true rfl) rfl ?_
  unfold f_X0_tellValues
  refine zi_iload_n dX0_tellValues_0 rfl 2 rfl ?_
  refine zi_if_lt (tgt := 13) dX0_tellValues_1 (by decide) ?_ ?_
  · exact zi_retV dX0_tellValues_13
  · refine zi_iload_n dX0_tellValues_4 rfl 2 rfl ?_
    refine zi_bipush (v := 100) dX0_tellValues_5 (by decide) ?_
    refine zi_iadd dX0_tellValues_7 ?_
    refine zi_aload_n dX0_tellValues_8 rfl 1 rfl ?_
    refine zi_alen (Or.inl rfl) dX0_tellValues_9 (fun v1 => ?_)
    refine zi_icmp_le (tgt := 14) dX0_tellValues_10 (by decide) ?_ ?_
    · refine zi_iconst (v := 0) dX0_tellValues_14 (by decide) ?_
      refine zi_istore_n (l' := [(3, .int 0), (0, .ref (zbase G + a0)), (1, .ref (zbase G + a1)), (2, .int a2)]) dX0_tellValues_15 rfl (by decide) rfl ?_
      refine zi_sub [1, 2, 3, 0] rfl ?_
      exact wl_X0_tellValues_16 G n n a0 a1 a2 0 h
    · exact zi_retV dX0_tellValues_13
set_option maxRecDepth 20000 in
set_option maxHeartbeats 1000000 in
theorem wb_X11_tellOrderWords_82 (G : zG) (n : Nat) (l0 : Nat) (l1 : Nat) (h : zH) : zW G yX11_tellOrderWords cX11_tellOrderWords 3 none zvU 3 82 [(0, .ref (zbase G + l0)), (1, .ref (zbase G + l1))] [] h (fb_X11_tellOrderWords_82 n l0 l1 h) := by
  unfold fb_X11_tellOrderWords_82
  refine zi_aload_n dX11_tellOrderWords_82 rfl 0 rfl ?_
  refine zi_getR dX11_tellOrderWords_83 gf_X11_10 (fun v1 => ?_)
  refine zi_getR dX11_tellOrderWords_86 gf_X11_140 (fun v2 => ?_)
  refine zi_aload_n dX11_tellOrderWords_89 rfl 1 rfl ?_
  refine zi_bipush (v := 13) dX11_tellOrderWords_90 (by decide) ?_
  refine zi_callVU (As := [.ref (zbase G + l1), .int 13]) (rest := []) (ci := 0) dX11_tellOrderWords_92 ml_X11_410 md_X0_tellValues mv_X0_tellValues rfl (by decide) rfl rfl (Nat.le_of_ble_eq_true rfl) (Nat.le_of_ble_eq_true rfl) (k_X0_tellValues G n v2 l1 13 h) (fun _ h4 => ?_)
  exact zi_retV dX11_tellOrderWords_95
set_option maxRecDepth 20000 in
set_option maxHeartbeats 1000000 in
theorem wb_X11_tellOrderWords_57 (G : zG) (n : Nat) (k57 : Nat → Nat → Int32 → zH → Option (Unit × zH)) (hk57 : ∀ (l0 : Nat) (l1 : Nat) (l2 : Int32) (h : zH), zW G yX11_tellOrderWords cX11_tellOrderWords 3 none zvU 3 57 [(0, .ref (zbase G + l0)), (1, .ref (zbase G + l1)), (2, .int l2)] [] h (k57 l0 l1 l2 h)) (l0 : Nat) (l1 : Nat) (l2 : Int32) (h : zH) : zW G yX11_tellOrderWords cX11_tellOrderWords 3 none zvU 3 57 [(0, .ref (zbase G + l0)), (1, .ref (zbase G + l1)), (2, .int l2)] [] h (fb_X11_tellOrderWords_57 n k57 l0 l1 l2 h) := by
  unfold fb_X11_tellOrderWords_57
  refine zi_iload_n dX11_tellOrderWords_57 rfl 2 rfl ?_
  refine zi_bipush (v := 8) dX11_tellOrderWords_58 (by decide) ?_
  refine zi_icmp_ge (tgt := 82) dX11_tellOrderWords_60 (by decide) ?_ ?_
  · refine zi_sub [0, 1] rfl ?_
    exact wb_X11_tellOrderWords_82 G n l0 l1 h
  · refine zi_aload_n dX11_tellOrderWords_63 rfl 1 rfl ?_
    refine zi_iconst (v := 5) dX11_tellOrderWords_64 (by decide) ?_
    refine zi_iload_n dX11_tellOrderWords_65 rfl 2 rfl ?_
    refine zi_iadd dX11_tellOrderWords_66 ?_
    refine zi_aload_n dX11_tellOrderWords_67 rfl 0 rfl ?_
    refine zi_getR dX11_tellOrderWords_68 gf_X11_10 (fun v1 => ?_)
    refine zi_iload_n dX11_tellOrderWords_71 rfl 2 rfl ?_
    refine zi_callVI (As := [.int l2]) (rest := [.int ((5 : Int32) + l2), .ref (zbase G + l1)]) (ci := 10) dX11_tellOrderWords_72 ml_X11_123 md_X10_cellOf mv_X10_cellOf rfl (by decide) rfl rfl (Nat.le_of_ble_eq_true rfl) (Nat.le_of_ble_eq_true rfl) (k_X10_cellOf G n v1 l2 h) (fun r2 h3 => ?_)
    refine zi_iast dX11_tellOrderWords_75 (fun h4 => ?_)
    refine zi_iinc (j := 2) (v := l2 + 1) (l' := [(2, .int (l2 + 1)), (0, .ref (zbase G + l0)), (1, .ref (zbase G + l1))]) dX11_tellOrderWords_76 rfl rfl (by decide) rfl ?_
    refine zi_goto (tgt := 57) dX11_tellOrderWords_79 (by decide) ?_
    refine zi_sub [1, 2, 0] rfl ?_
    exact hk57 l0 l1 (l2 + 1) h4
theorem wl_X11_tellOrderWords_57 (G : zG) (n : Nat) : ∀ (t : Nat) (l0 : Nat) (l1 : Nat) (l2 : Int32) (h : zH), zW G yX11_tellOrderWords cX11_tellOrderWords 3 none zvU 3 57 [(0, .ref (zbase G + l0)), (1, .ref (zbase G + l1)), (2, .int l2)] [] h (zlp3 (fb_X11_tellOrderWords_57 n ) t l0 l1 l2 h) := by
  intro t
  induction t with
  | zero => intros; exact zW_none
  | succ t ih => intro l0 l1 l2 h; rw [zlp3_s]; exact wb_X11_tellOrderWords_57 G n  _  ih l0 l1 l2 h
set_option maxRecDepth 20000 in
set_option maxHeartbeats 1000000 in
theorem k_X11_tellOrderWords (G : zG) (n : Nat) (a0 : Nat) (h : zH) : zMet G yX11_tellOrderWords cX11_tellOrderWords 3 none zvU 3 [.ref (zbase G + a0)] h (f_X11_tellOrderWords n a0 h) := by
  refine zMet_of (l := [(0, .ref (zbase G + a0))]) (by decide) (Nat.le_of_ble_eq_true rfl) rfl ?_
  unfold f_X11_tellOrderWords
  refine zi_aload_n dX11_tellOrderWords_0 rfl 0 rfl ?_
  refine zi_getR dX11_tellOrderWords_1 gf_X11_22 (fun v1 => ?_)
  refine zi_getR dX11_tellOrderWords_4 gf_X11_407 (fun v2 => ?_)
  refine zi_astore_n (l' := [(1, .ref (zbase G + v2)), (0, .ref (zbase G + a0))]) dX11_tellOrderWords_7 rfl (by decide) rfl ?_
  refine zi_aload_n dX11_tellOrderWords_8 rfl 0 rfl ?_
  refine zi_iconst (v := 0) dX11_tellOrderWords_9 (by decide) ?_
  refine zi_aload_n dX11_tellOrderWords_10 rfl 1 rfl ?_
  refine zi_getR dX11_tellOrderWords_11 gf_X11_10 (fun v3 => ?_)
  refine zi_getI dX11_tellOrderWords_14 gf_X11_198 (fun v4 => ?_)
  refine zi_iast dX11_tellOrderWords_17 (fun h5 => ?_)
  refine zi_aload_n dX11_tellOrderWords_18 rfl 0 rfl ?_
  refine zi_iconst (v := 1) dX11_tellOrderWords_19 (by decide) ?_
  refine zi_aload_n dX11_tellOrderWords_20 rfl 1 rfl ?_
  refine zi_getI dX11_tellOrderWords_21 gf_X11_97 (fun v6 => ?_)
  refine zi_iast dX11_tellOrderWords_24 (fun h7 => ?_)
  refine zi_aload_n dX11_tellOrderWords_25 rfl 0 rfl ?_
  refine zi_iconst (v := 2) dX11_tellOrderWords_26 (by decide) ?_
  refine zi_aload_n dX11_tellOrderWords_27 rfl 1 rfl ?_
  refine zi_getI dX11_tellOrderWords_28 gf_X11_100 (fun v8 => ?_)
  refine zi_iast dX11_tellOrderWords_31 (fun h9 => ?_)
  refine zi_aload_n dX11_tellOrderWords_32 rfl 0 rfl ?_
  refine zi_iconst (v := 3) dX11_tellOrderWords_33 (by decide) ?_
  refine zi_aload_n dX11_tellOrderWords_34 rfl 1 rfl ?_
  refine zi_getR dX11_tellOrderWords_35 gf_X11_10 (fun v10 => ?_)
  refine zi_getR dX11_tellOrderWords_38 gf_X11_140 (fun v11 => ?_)
  refine zi_getI dX11_tellOrderWords_41 gf_X11_177 (fun v12 => ?_)
  refine zi_iast dX11_tellOrderWords_44 (fun h13 => ?_)
  refine zi_aload_n dX11_tellOrderWords_45 rfl 0 rfl ?_
  refine zi_iconst (v := 4) dX11_tellOrderWords_46 (by decide) ?_
  refine zi_aload_n dX11_tellOrderWords_47 rfl 1 rfl ?_
  refine zi_getR dX11_tellOrderWords_48 gf_X11_10 (fun v14 => ?_)
  refine zi_getI dX11_tellOrderWords_51 gf_X11_380 (fun v15 => ?_)
  refine zi_iast dX11_tellOrderWords_54 (fun h16 => ?_)
  refine zi_iconst (v := 0) dX11_tellOrderWords_55 (by decide) ?_
  refine zi_istore_n (l' := [(2, .int 0), (1, .ref (zbase G + v2)), (0, .ref (zbase G + a0))]) dX11_tellOrderWords_56 rfl (by decide) rfl ?_
  refine zi_sub [2, 1, 0] rfl ?_
  exact wl_X11_tellOrderWords_57 G n n a0 v2 0 h16
set_option maxRecDepth 20000 in
set_option maxHeartbeats 1000000 in
theorem k_X2_prepare (G : zG) (n : Nat) (a0 : Nat) (a1 : Nat) (h : zH) : zMet G yX2_prepare cX2_prepare 2 none zvU 4 [.ref (zbase G + a0), .ref (zbase G + a1)] h (f_X2_prepare n a0 a1 h) := by
  refine zMet_of (l := [(0, .ref (zbase G + a0)), (1, .ref (zbase G + a1))]) (by decide) (Nat.le_of_ble_eq_true rfl) rfl ?_
  unfold f_X2_prepare
  refine zi_aload_n dX2_prepare_0 rfl 0 rfl ?_
  refine zi_getR dX2_prepare_1 gf_X2_13 (fun v1 => ?_)
  refine zi_aload_n dX2_prepare_4 rfl 0 rfl ?_
  refine zi_aload_n dX2_prepare_5 rfl 0 rfl ?_
  refine zi_getI dX2_prepare_6 gf_X2_25 (fun v2 => ?_)
  refine zi_callVI (As := [.int v2]) (rest := [.ref (zbase G + v1)]) (ci := 2) dX2_prepare_9 ml_X2_29 md_X2_slotOf mv_X2_slotOf rfl (by decide) rfl rfl (Nat.le_of_ble_eq_true rfl) (Nat.le_of_ble_eq_true rfl) (k_X2_slotOf G n a0 v2 h) (fun r3 h4 => ?_)
  refine zi_aaldW dX2_prepare_12 (fun v5 => ?_)
  refine zi_aload_n dX2_prepare_13 rfl 1 rfl ?_
  refine zi_callVU (As := [.ref (zbase G + a1)]) (rest := []) (ci := 10) dX2_prepare_14 ml_X2_33 md_X10_copyFrom mv_X10_copyFrom rfl (by decide) rfl rfl (Nat.le_of_ble_eq_true rfl) (Nat.le_of_ble_eq_true rfl) (k_X10_copyFrom G n v5 a1 h4) (fun _ h7 => ?_)
  exact zi_retV dX2_prepare_17
set_option maxRecDepth 20000 in
set_option maxHeartbeats 1000000 in
theorem wb_X0_waitingBecomeCurrent_34 (G : zG) (n : Nat) (l0 : Nat) (h : zH) : zW G yX0_waitingBecomeCurrent cX0_waitingBecomeCurrent 2 none zvU 1 34 [(0, .ref (zbase G + l0))] [] h (fb_X0_waitingBecomeCurrent_34 n l0 h) := by
  unfold fb_X0_waitingBecomeCurrent_34
  refine zi_aload_n dX0_waitingBecomeCurrent_34 rfl 0 rfl ?_
  refine zi_aload_n dX0_waitingBecomeCurrent_35 rfl 0 rfl ?_
  refine zi_getI dX0_waitingBecomeCurrent_36 gf_X0_34 (fun v1 => ?_)
  refine zi_putI dX0_waitingBecomeCurrent_39 gf_X0_37 (fun h2 => ?_)
  refine zi_aload_n dX0_waitingBecomeCurrent_42 rfl 0 rfl ?_
  refine zi_iconst (v := 0) dX0_waitingBecomeCurrent_43 (by decide) ?_
  refine zi_putI dX0_waitingBecomeCurrent_44 gf_X0_34 (fun h3 => ?_)
  exact zi_retV dX0_waitingBecomeCurrent_47
set_option maxRecDepth 20000 in
set_option maxHeartbeats 1000000 in
theorem wb_X0_waitingBecomeCurrent_2 (G : zG) (n : Nat) (k2 : Nat → Int32 → zH → Option (Unit × zH)) (hk2 : ∀ (l0 : Nat) (l1 : Int32) (h : zH), zW G yX0_waitingBecomeCurrent cX0_waitingBecomeCurrent 2 none zvU 1 2 [(0, .ref (zbase G + l0)), (1, .int l1)] [] h (k2 l0 l1 h)) (l0 : Nat) (l1 : Int32) (h : zH) : zW G yX0_waitingBecomeCurrent cX0_waitingBecomeCurrent 2 none zvU 1 2 [(0, .ref (zbase G + l0)), (1, .int l1)] [] h (fb_X0_waitingBecomeCurrent_2 n k2 l0 l1 h) := by
  unfold fb_X0_waitingBecomeCurrent_2
  refine zi_iload_n dX0_waitingBecomeCurrent_2 rfl 1 rfl ?_
  refine zi_aload_n dX0_waitingBecomeCurrent_3 rfl 0 rfl ?_
  refine zi_getI dX0_waitingBecomeCurrent_4 gf_X0_34 (fun v1 => ?_)
  refine zi_icmp_ge (tgt := 34) dX0_waitingBecomeCurrent_7 (by decide) ?_ ?_
  · refine zi_sub [0] rfl ?_
    exact wb_X0_waitingBecomeCurrent_34 G n l0 h
  · refine zi_iload_n dX0_waitingBecomeCurrent_10 rfl 1 rfl ?_
    refine zi_bipush (v := 24) dX0_waitingBecomeCurrent_11 (by decide) ?_
    refine zi_icmp_ge (tgt := 34) dX0_waitingBecomeCurrent_13 (by decide) ?_ ?_
    · refine zi_sub [0] rfl ?_
      exact wb_X0_waitingBecomeCurrent_34 G n l0 h
    · refine zi_aload_n dX0_waitingBecomeCurrent_16 rfl 0 rfl ?_
      refine zi_getR dX0_waitingBecomeCurrent_17 gf_X0_27 (fun v2 => ?_)
      refine zi_iload_n dX0_waitingBecomeCurrent_20 rfl 1 rfl ?_
      refine zi_aload_n dX0_waitingBecomeCurrent_21 rfl 0 rfl ?_
      refine zi_getR dX0_waitingBecomeCurrent_22 gf_X0_24 (fun v3 => ?_)
      refine zi_iload_n dX0_waitingBecomeCurrent_25 rfl 1 rfl ?_
      refine zi_iald dX0_waitingBecomeCurrent_26 (fun v4 => ?_)
      refine zi_iast dX0_waitingBecomeCurrent_27 (fun h5 => ?_)
      refine zi_iinc (j := 1) (v := l1 + 1) (l' := [(1, .int (l1 + 1)), (0, .ref (zbase G + l0))]) dX0_waitingBecomeCurrent_28 rfl rfl (by decide) rfl ?_
      refine zi_goto (tgt := 2) dX0_waitingBecomeCurrent_31 (by decide) ?_
      refine zi_sub [1, 0] rfl ?_
      exact hk2 l0 (l1 + 1) h5
theorem wl_X0_waitingBecomeCurrent_2 (G : zG) (n : Nat) : ∀ (t : Nat) (l0 : Nat) (l1 : Int32) (h : zH), zW G yX0_waitingBecomeCurrent cX0_waitingBecomeCurrent 2 none zvU 1 2 [(0, .ref (zbase G + l0)), (1, .int l1)] [] h (zlp2 (fb_X0_waitingBecomeCurrent_2 n ) t l0 l1 h) := by
  intro t
  induction t with
  | zero => intros; exact zW_none
  | succ t ih => intro l0 l1 h; rw [zlp2_s]; exact wb_X0_waitingBecomeCurrent_2 G n  _  ih l0 l1 h
set_option maxRecDepth 20000 in
set_option maxHeartbeats 1000000 in
theorem k_X0_waitingBecomeCurrent (G : zG) (n : Nat) (a0 : Nat) (h : zH) : zMet G yX0_waitingBecomeCurrent cX0_waitingBecomeCurrent 2 none zvU 1 [.ref (zbase G + a0)] h (f_X0_waitingBecomeCurrent n a0 h) := by
  refine zMet_of (l := [(0, .ref (zbase G + a0))]) (by decide) (Nat.le_of_ble_eq_true rfl) rfl ?_
  unfold f_X0_waitingBecomeCurrent
  refine zi_iconst (v := 0) dX0_waitingBecomeCurrent_0 (by decide) ?_
  refine zi_istore_n (l' := [(1, .int 0), (0, .ref (zbase G + a0))]) dX0_waitingBecomeCurrent_1 rfl (by decide) rfl ?_
  refine zi_sub [1, 0] rfl ?_
  exact wl_X0_waitingBecomeCurrent_2 G n n a0 0 h
set_option maxRecDepth 20000 in
set_option maxHeartbeats 1000000 in
theorem k_X10_startGrace (G : zG) (n : Nat) (a0 : Nat) (h : zH) : zMet G yX10_startGrace cX10_startGrace 1 (some .int) zvI 2 [.ref (zbase G + a0)] h (f_X10_startGrace n a0 h) := by
  refine zMet_of (l := [(0, .ref (zbase G + a0))]) (by decide) (Nat.le_of_ble_eq_true rfl) rfl ?_
  unfold f_X10_startGrace
  refine zi_aload_n dX10_startGrace_0 rfl 0 rfl ?_
  refine zi_getZ dX10_startGrace_1 gf_X10_35 (fun v1 => ?_)
  refine zi_if_ne (tgt := 17) dX10_startGrace_4 (by decide) ?_ ?_
  · refine zi_bipush (v := (-3)) dX10_startGrace_17 (by decide) ?_
    exact zi_retI dX10_startGrace_19
  · refine zi_aload_n dX10_startGrace_7 rfl 0 rfl ?_
    refine zi_getR dX10_startGrace_8 gf_X10_12 (fun v2 => ?_)
    refine zi_getI dX10_startGrace_11 gf_X10_135 (fun v3 => ?_)
    refine zi_if_ne (tgt := 20) dX10_startGrace_14 (by decide) ?_ ?_
    · refine zi_aload_n dX10_startGrace_20 rfl 0 rfl ?_
      refine zi_iconst (v := 1) dX10_startGrace_21 (by decide) ?_
      refine zi_putZ dX10_startGrace_22 gf_X10_35 (fun h4 => ?_)
      refine zi_aload_n dX10_startGrace_25 rfl 0 rfl ?_
      refine zi_dup dX10_startGrace_26 rfl ?_
      refine zi_getI dX10_startGrace_27 gf_X10_39 (fun v5 => ?_)
      refine zi_iconst (v := 1) dX10_startGrace_30 (by decide) ?_
      refine zi_iadd dX10_startGrace_31 ?_
      refine zi_putI dX10_startGrace_32 gf_X10_39 (fun h6 => ?_)
      refine zi_aload_n dX10_startGrace_35 rfl 0 rfl ?_
      refine zi_getR dX10_startGrace_36 gf_X10_12 (fun v7 => ?_)
      refine zi_callVU (As := []) (rest := []) (ci := 0) dX10_startGrace_39 ml_X10_138 md_X0_waitingBecomeCurrent mv_X0_waitingBecomeCurrent rfl (by decide) rfl rfl (Nat.le_of_ble_eq_true rfl) (Nat.le_of_ble_eq_true rfl) (k_X0_waitingBecomeCurrent G n v7 h6) (fun _ h9 => ?_)
      refine zi_aload_n dX10_startGrace_42 rfl 0 rfl ?_
      refine zi_getR dX10_startGrace_43 gf_X10_22 (fun v10 => ?_)
      refine zi_iconst (v := 3) dX10_startGrace_46 (by decide) ?_
      refine zi_callSU (As := [.ref (zbase G + v10), .int 3]) (rest := []) dX10_startGrace_47 ml_X10_141 md_J7_fill_53178 ms_J7_fill_53178 rfl rfl (Nat.le_of_ble_eq_true rfl) (Nat.le_of_ble_eq_true rfl) (k_J7_fill_53178 G n v10 3 h9) (fun _ h12 => ?_)
      refine zi_aload_n dX10_startGrace_50 rfl 0 rfl ?_
      refine zi_aload_n dX10_startGrace_51 rfl 0 rfl ?_
      refine zi_getI dX10_startGrace_52 gf_X10_29 (fun v13 => ?_)
      refine zi_putI dX10_startGrace_55 gf_X10_32 (fun h14 => ?_)
      refine zi_aload_n dX10_startGrace_58 rfl 0 rfl ?_
      refine zi_getI dX10_startGrace_59 gf_X10_39 (fun v15 => ?_)
      exact zi_retI dX10_startGrace_62
    · refine zi_bipush (v := (-3)) dX10_startGrace_17 (by decide) ?_
      exact zi_retI dX10_startGrace_19
set_option maxRecDepth 20000 in
set_option maxHeartbeats 1000000 in
theorem k_X10_leafOf (G : zG) (n : Nat) (a0 : Int32) (h : zH) : zMet G yX10_leafOf cX10_leafOf 1 (some .int) zvI 1 [.int a0] h (f_X10_leafOf n a0 h) := by
  refine zMet_of (l := [(0, .int a0)]) (by decide) (Nat.le_of_ble_eq_true rfl) rfl ?_
  unfold f_X10_leafOf
  refine zi_iconst (v := 4) dX10_leafOf_0 (by decide) ?_
  refine zi_iload_n dX10_leafOf_1 rfl 0 rfl ?_
  refine zi_iconst (v := 2) dX10_leafOf_2 (by decide) ?_
  refine zi_idiv dX10_leafOf_3 (by decide) ?_
  refine zi_iadd dX10_leafOf_4 ?_
  exact zi_retI dX10_leafOf_5
set_option maxRecDepth 20000 in
set_option maxHeartbeats 1000000 in
theorem k_J9_min_f86c9 (G : zG) (n : Nat) (a0 : Int64) (a1 : Int64) (h : zH) : zMet G yJ9_min_f86c9 cJ9_min_f86c9 4 (some .long) zvL 1 [.long a0, .long a1] h (f_J9_min_f86c9 n a0 a1 h) := by
  refine zMet_ofF (l := [(0, .long a0), (2, .long a1)]) (by decide +kernel) (Nat.le_of_ble_eq_true rfl) rfl ?_
  unfold f_J9_min_f86c9
  refine zi_lload_n dJ9_min_f86c9_0 rfl 0 rfl ?_
  refine zi_lload_n dJ9_min_f86c9_1 rfl 1 rfl ?_
  refine zi_lcmp dJ9_min_f86c9_2 ?_
  refine zi_if_gt (tgt := 10) dJ9_min_f86c9_3 (by decide) ?_ ?_
  · refine zi_lload_n dJ9_min_f86c9_10 rfl 1 rfl ?_
    exact zi_retL dJ9_min_f86c9_11
  · refine zi_lload_n dJ9_min_f86c9_6 rfl 0 rfl ?_
    refine zi_goto (tgt := 11) dJ9_min_f86c9_7 (by decide) ?_
    exact zi_retL dJ9_min_f86c9_11
set_option maxRecDepth 20000 in
set_option maxHeartbeats 1000000 in
theorem k_J9_max_f86c9 (G : zG) (n : Nat) (a0 : Int64) (a1 : Int64) (h : zH) : zMet G yJ9_max_f86c9 cJ9_max_f86c9 4 (some .long) zvL 1 [.long a0, .long a1] h (f_J9_max_f86c9 n a0 a1 h) := by
  refine zMet_ofF (l := [(0, .long a0), (2, .long a1)]) (by decide +kernel) (Nat.le_of_ble_eq_true rfl) rfl ?_
  unfold f_J9_max_f86c9
  refine zi_lload_n dJ9_max_f86c9_0 rfl 0 rfl ?_
  refine zi_lload_n dJ9_max_f86c9_1 rfl 1 rfl ?_
  refine zi_lcmp dJ9_max_f86c9_2 ?_
  refine zi_if_lt (tgt := 10) dJ9_max_f86c9_3 (by decide) ?_ ?_
  · refine zi_lload_n dJ9_max_f86c9_10 rfl 1 rfl ?_
    exact zi_retL dJ9_max_f86c9_11
  · refine zi_lload_n dJ9_max_f86c9_6 rfl 0 rfl ?_
    refine zi_goto (tgt := 11) dJ9_max_f86c9_7 (by decide) ?_
    exact zi_retL dJ9_max_f86c9_11
set_option maxRecDepth 20000 in
set_option maxHeartbeats 1000000 in
theorem wb_X6_costOf_147 (G : zG) (n : Nat) (k61 : Nat → Nat → Int32 → zH → Option (Int32 × zH)) (hk61 : ∀ (l0 : Nat) (l1 : Nat) (l6 : Int32) (h : zH), zW G yX6_costOf cX6_costOf 9 (some .int) zvI 3 61 [(0, .ref (zbase G + l0)), (1, .ref (zbase G + l1)), (6, .int l6)] [] h (k61 l0 l1 l6 h)) (l0 : Nat) (l1 : Nat) (l6 : Int32) (h : zH) : zW G yX6_costOf cX6_costOf 9 (some .int) zvI 3 147 [(0, .ref (zbase G + l0)), (1, .ref (zbase G + l1)), (6, .int l6)] [] h (fb_X6_costOf_147 n k61 l0 l1 l6 h) := by
  unfold fb_X6_costOf_147
  refine zi_iinc (j := 2) (v := l6 + (-1)) (l' := [(6, .int (l6 + (-1))), (0, .ref (zbase G + l0)), (1, .ref (zbase G + l1))]) dX6_costOf_147 rfl rfl (by decide) rfl ?_
  refine zi_goto (tgt := 61) dX6_costOf_150 (by decide) ?_
  refine zi_sub [1, 2, 0] rfl ?_
  exact hk61 l0 l1 (l6 + (-1)) h
set_option maxRecDepth 20000 in
set_option maxHeartbeats 1000000 in
theorem wb_X6_costOf_124 (G : zG) (n : Nat) (l0 : Nat) (h : zH) : zW G yX6_costOf cX6_costOf 9 (some .int) zvI 3 124 [(0, .ref (zbase G + l0))] [] h (fb_X6_costOf_124 n l0 h) := by
  unfold fb_X6_costOf_124
  refine zi_aload_n dX6_costOf_124 rfl 0 rfl ?_
  refine zi_getR dX6_costOf_125 gf_X6_30 (fun v1 => ?_)
  refine zi_getL dX6_costOf_128 gf_X6_69 (fun v2 => ?_)
  refine zi_lstore (l' := [(7, .long v2), (0, .ref (zbase G + l0))]) dX6_costOf_131 (by decide) rfl ?_
  refine zi_lconst (v := 0) dX6_costOf_133 (by decide) ?_
  refine zi_ldc2 dX6_costOf_134 kl_X6_73 ?_
  refine zi_lload dX6_costOf_137 0 rfl ?_
  refine zi_callSL (As := [.long 99, .long v2]) (rest := [.long 0]) dX6_costOf_139 ml_X6_75 md_J9_min_f86c9 ms_J9_min_f86c9 rfl rfl (Nat.le_of_ble_eq_true rfl) (Nat.le_of_ble_eq_true rfl) (k_J9_min_f86c9 G n 99 v2 h) (fun r3 h4 => ?_)
  refine zi_callSL (As := [.long 0, .long r3]) (rest := []) dX6_costOf_142 ml_X6_81 md_J9_max_f86c9 ms_J9_max_f86c9 rfl rfl (Nat.le_of_ble_eq_true rfl) (Nat.le_of_ble_eq_true rfl) (k_J9_max_f86c9 G n 0 r3 h4) (fun r5 h6 => ?_)
  refine zi_l2i dX6_costOf_145 ?_
  exact zi_retI dX6_costOf_146
set_option maxRecDepth 20000 in
set_option maxHeartbeats 1000000 in
theorem wb_X6_costOf_61 (G : zG) (n : Nat) (k61 : Nat → Nat → Int32 → zH → Option (Int32 × zH)) (hk61 : ∀ (l0 : Nat) (l1 : Nat) (l6 : Int32) (h : zH), zW G yX6_costOf cX6_costOf 9 (some .int) zvI 3 61 [(0, .ref (zbase G + l0)), (1, .ref (zbase G + l1)), (6, .int l6)] [] h (k61 l0 l1 l6 h)) (l0 : Nat) (l1 : Nat) (l6 : Int32) (h : zH) : zW G yX6_costOf cX6_costOf 9 (some .int) zvI 3 61 [(0, .ref (zbase G + l0)), (1, .ref (zbase G + l1)), (6, .int l6)] [] h (fb_X6_costOf_61 n k61 l0 l1 l6 h) := by
  unfold fb_X6_costOf_61
  refine zi_iload dX6_costOf_61 2 rfl ?_
  refine zi_if_lt (tgt := 153) dX6_costOf_63 (by decide) ?_ ?_
  · refine zi_iconst (v := 1) dX6_costOf_153 (by decide) ?_
    exact zi_retI dX6_costOf_154
  · refine zi_aload_n dX6_costOf_66 rfl 1 rfl ?_
    refine zi_iload dX6_costOf_67 2 rfl ?_
    refine zi_iconst (v := 0) dX6_costOf_69 (by decide) ?_
    refine zi_callVI (As := [.int l6, .int 0]) (rest := []) (ci := 8) dX6_costOf_70 ml_X6_59 md_X8_entry mv_X8_entry rfl (by decide) rfl rfl (Nat.le_of_ble_eq_true rfl) (Nat.le_of_ble_eq_true rfl) (k_X8_entry G n l1 l6 0 h) (fun r1 h2 => ?_)
    refine zi_if_ne (tgt := 147) dX6_costOf_73 (by decide) ?_ ?_
    · refine zi_sub [0, 1, 2] rfl ?_
      exact wb_X6_costOf_147 G n k61 hk61 l0 l1 l6 h2
    · refine zi_aload_n dX6_costOf_76 rfl 0 rfl ?_
      refine zi_getR dX6_costOf_77 gf_X6_30 (fun v3 => ?_)
      refine zi_aload_n dX6_costOf_80 rfl 1 rfl ?_
      refine zi_aload_n dX6_costOf_81 rfl 1 rfl ?_
      refine zi_iload dX6_costOf_82 2 rfl ?_
      refine zi_iconst (v := 4) dX6_costOf_84 (by decide) ?_
      refine zi_callVI (As := [.int l6, .int 4]) (rest := [.ref (zbase G + l1), .ref (zbase G + v3)]) (ci := 8) dX6_costOf_85 ml_X6_59 md_X8_entry mv_X8_entry rfl (by decide) rfl rfl (Nat.le_of_ble_eq_true rfl) (Nat.le_of_ble_eq_true rfl) (k_X8_entry G n l1 l6 4 h2) (fun r4 h5 => ?_)
      refine zi_callVI (As := [.ref (zbase G + l1), .int r4]) (rest := []) (ci := 4) dX6_costOf_88 ml_X6_63 md_X4_runs mv_X4_runs rfl (by decide) rfl rfl (Nat.le_of_ble_eq_true rfl) (Nat.le_of_ble_eq_true rfl) (k_X4_runs G n v3 l1 r4 h5) (fun r6 h7 => ?_)
      refine zi_if_eq (tgt := 147) dX6_costOf_91 (by decide) ?_ ?_
      · refine zi_sub [0, 1, 2] rfl ?_
        exact wb_X6_costOf_147 G n k61 hk61 l0 l1 l6 h7
      · refine zi_aload_n dX6_costOf_94 rfl 0 rfl ?_
        refine zi_getR dX6_costOf_95 gf_X6_30 (fun v8 => ?_)
        refine zi_getL dX6_costOf_98 gf_X6_69 (fun v9 => ?_)
        refine zi_lconst (v := 0) dX6_costOf_101 (by decide) ?_
        refine zi_lcmp dX6_costOf_102 ?_
        refine zi_if_eq (tgt := 147) dX6_costOf_103 (by decide) ?_ ?_
        · refine zi_sub [0, 1, 2] rfl ?_
          exact wb_X6_costOf_147 G n k61 hk61 l0 l1 l6 h7
        · refine zi_aload_n dX6_costOf_106 rfl 0 rfl ?_
          refine zi_getR dX6_costOf_107 gf_X6_30 (fun v10 => ?_)
          refine zi_aload_n dX6_costOf_110 rfl 1 rfl ?_
          refine zi_aload_n dX6_costOf_111 rfl 1 rfl ?_
          refine zi_iload dX6_costOf_112 2 rfl ?_
          refine zi_iconst (v := 1) dX6_costOf_114 (by decide) ?_
          refine zi_callVI (As := [.int l6, .int 1]) (rest := [.ref (zbase G + l1), .ref (zbase G + v10)]) (ci := 8) dX6_costOf_115 ml_X6_59 md_X8_entry mv_X8_entry rfl (by decide) rfl rfl (Nat.le_of_ble_eq_true rfl) (Nat.le_of_ble_eq_true rfl) (k_X8_entry G n l1 l6 1 h7) (fun r11 h12 => ?_)
          refine zi_callVI (As := [.ref (zbase G + l1), .int r11]) (rest := []) (ci := 4) dX6_costOf_118 ml_X6_63 md_X4_runs mv_X4_runs rfl (by decide) rfl rfl (Nat.le_of_ble_eq_true rfl) (Nat.le_of_ble_eq_true rfl) (k_X4_runs G n v10 l1 r11 h12) (fun r13 h14 => ?_)
          refine zi_if_eq (tgt := 147) dX6_costOf_121 (by decide) ?_ ?_
          · refine zi_sub [0, 1, 2] rfl ?_
            exact wb_X6_costOf_147 G n k61 hk61 l0 l1 l6 h14
          · refine zi_sub [0] rfl ?_
            exact wb_X6_costOf_124 G n l0 h14
theorem wl_X6_costOf_61 (G : zG) (n : Nat) : ∀ (t : Nat) (l0 : Nat) (l1 : Nat) (l6 : Int32) (h : zH), zW G yX6_costOf cX6_costOf 9 (some .int) zvI 3 61 [(0, .ref (zbase G + l0)), (1, .ref (zbase G + l1)), (6, .int l6)] [] h (zlp3 (fb_X6_costOf_61 n ) t l0 l1 l6 h) := by
  intro t
  induction t with
  | zero => intros; exact zW_none
  | succ t ih => intro l0 l1 l6 h; rw [zlp3_s]; exact wb_X6_costOf_61 G n  _  ih l0 l1 l6 h
set_option maxRecDepth 20000 in
set_option maxHeartbeats 1000000 in
theorem wb_X6_costOf_25 (G : zG) (n : Nat) (l0 : Nat) (l1 : Nat) (l2 : Int32) (l3 : Int32) (l4 : Nat) (s0 : Int32) (h : zH) : zW G yX6_costOf cX6_costOf 9 (some .int) zvI 3 25 [(0, .ref (zbase G + l0)), (1, .ref (zbase G + l1)), (2, .int l2), (3, .int l3), (4, .ref (zbase G + l4))] [.int s0] h (fb_X6_costOf_25 n l0 l1 l2 l3 l4 s0 h) := by
  unfold fb_X6_costOf_25
  refine zi_istore (l' := [(5, .int s0), (0, .ref (zbase G + l0)), (1, .ref (zbase G + l1)), (2, .int l2), (3, .int l3), (4, .ref (zbase G + l4))]) dX6_costOf_25 (by decide) rfl ?_
  refine zi_aload_n dX6_costOf_27 rfl 1 rfl ?_
  refine zi_iload_n dX6_costOf_28 rfl 3 rfl ?_
  refine zi_iload dX6_costOf_29 0 rfl ?_
  refine zi_iload_n dX6_costOf_31 rfl 4 rfl ?_
  refine zi_aload dX6_costOf_32 5 rfl ?_
  refine zi_getR dX6_costOf_34 gf_X6_34 (fun v1 => ?_)
  refine zi_getI dX6_costOf_37 gf_X6_40 (fun v2 => ?_)
  refine zi_callVU (As := [.int l2, .int s0, .int l3, .int v2]) (rest := []) (ci := 6) dX6_costOf_40 ml_X6_45 md_X6_tellWhere mv_X6_tellWhere rfl (by decide) rfl rfl (Nat.le_of_ble_eq_true rfl) (Nat.le_of_ble_eq_true rfl) (k_X6_tellWhere G n l0 l2 s0 l3 v2 h) (fun _ h4 => ?_)
  refine zi_aload_n dX6_costOf_43 rfl 1 rfl ?_
  refine zi_iconst (v := (-1)) dX6_costOf_44 (by decide) ?_
  refine zi_aload dX6_costOf_45 5 rfl ?_
  refine zi_getI dX6_costOf_47 gf_X6_49 (fun v5 => ?_)
  refine zi_callVU (As := [.int (-1), .int v5]) (rest := []) (ci := 6) dX6_costOf_50 ml_X6_52 md_X6_tellWhat mv_X6_tellWhat rfl (by decide) rfl rfl (Nat.le_of_ble_eq_true rfl) (Nat.le_of_ble_eq_true rfl) (k_X6_tellWhat G n l0 (-1) v5 h4) (fun _ h7 => ?_)
  refine zi_aload_n dX6_costOf_53 rfl 2 rfl ?_
  refine zi_getI dX6_costOf_54 gf_X6_56 (fun v8 => ?_)
  refine zi_iconst (v := 1) dX6_costOf_57 (by decide) ?_
  refine zi_isub dX6_costOf_58 ?_
  refine zi_let (sf := fun x9 => .int x9 :: []) (fun x9 => ?_)
  refine zi_istore (l' := [(6, .int x9), (5, .int s0), (0, .ref (zbase G + l0)), (1, .ref (zbase G + l1)), (2, .int l2), (3, .int l3), (4, .ref (zbase G + l4))]) dX6_costOf_59 (by decide) rfl ?_
  refine zi_sub [2, 3, 0] rfl ?_
  exact wl_X6_costOf_61 G n n l0 l1 x9 h7
set_option maxRecDepth 20000 in
set_option maxHeartbeats 1000000 in
theorem k_X6_costOf (G : zG) (n : Nat) (a0 : Nat) (a1 : Nat) (a2 : Int32) (a3 : Int32) (a4 : Nat) (h : zH) : zMet G yX6_costOf cX6_costOf 9 (some .int) zvI 3 [.ref (zbase G + a0), zrf G a1, .int a2, .int a3, .ref (zbase G + a4)] h (f_X6_costOf n a0 a1 a2 a3 a4 h) := by
  refine zMet_of (l := [(0, .ref (zbase G + a0)), (1, zrf G a1), (2, .int a2), (3, .int a3), (4, .ref (zbase G + a4))]) (by decide) (by unfold zrf; by_cases h0 : a1 = 0 <;> simp [h0, lg_sl, Value.category]) (by unfold zrf; by_cases h0 : a1 = 0 <;> simp [h0, lv_args, Value.category]) ?_
  unfold f_X6_costOf
  refine zi_aload_nz dX6_costOf_0 rfl 1 rfl ?_
  refine zi_ifnonnull (lf := fun w => [(0, .ref (zbase G + a0)), (1, w), (2, .int a2), (3, .int a3), (4, .ref (zbase G + a4))]) (tgt := 6) dX6_costOf_1 (by decide) (fun _ => ?_) ?_
  · refine zi_iload_n dX6_costOf_6 rfl 2 rfl ?_
    refine zi_iconst (v := 1) dX6_costOf_7 (by decide) ?_
    refine zi_icmp_ne (tgt := 15) dX6_costOf_8 (by decide) ?_ ?_
    · refine zi_iload_n dX6_costOf_15 rfl 2 rfl ?_
      refine zi_iconst (v := 4) dX6_costOf_16 (by decide) ?_
      refine zi_icmp_ge (tgt := 24) dX6_costOf_17 (by decide) ?_ ?_
      · refine zi_iconst (v := 2) dX6_costOf_24 (by decide) ?_
        refine zi_sub [0, 1, 2, 3, 4] rfl ?_
        exact wb_X6_costOf_25 G n a0 a1 a2 a3 a4 2 h
      · refine zi_iconst (v := 1) dX6_costOf_20 (by decide) ?_
        refine zi_goto (tgt := 25) dX6_costOf_21 (by decide) ?_
        refine zi_sub [0, 1, 2, 3, 4] rfl ?_
        exact wb_X6_costOf_25 G n a0 a1 a2 a3 a4 1 h
    · refine zi_iconst (v := 0) dX6_costOf_11 (by decide) ?_
      refine zi_goto (tgt := 25) dX6_costOf_12 (by decide) ?_
      refine zi_sub [0, 1, 2, 3, 4] rfl ?_
      exact wb_X6_costOf_25 G n a0 a1 a2 a3 a4 0 h
  · refine zi_iconst (v := 1) dX6_costOf_4 (by decide) ?_
    exact zi_retI dX6_costOf_5
set_option maxRecDepth 20000 in
set_option maxHeartbeats 1000000 in
theorem k_X10_processorsOf (G : zG) (n : Nat) (a0 : Int32) (h : zH) : zMet G yX10_processorsOf cX10_processorsOf 1 (some .int) zvI 1 [.int a0] h (f_X10_processorsOf n a0 h) := by
  refine zMet_of (l := [(0, .int a0)]) (by decide) (Nat.le_of_ble_eq_true rfl) rfl ?_
  unfold f_X10_processorsOf
  refine zi_iconst (v := 3) dX10_processorsOf_0 (by decide) ?_
  refine zi_iconst (v := 2) dX10_processorsOf_1 (by decide) ?_
  refine zi_iload_n dX10_processorsOf_2 rfl 0 rfl ?_
  refine zi_iconst (v := 4) dX10_processorsOf_3 (by decide) ?_
  refine zi_isub dX10_processorsOf_4 ?_
  refine zi_imul dX10_processorsOf_5 ?_
  refine zi_ishl dX10_processorsOf_6 ?_
  exact zi_retI dX10_processorsOf_7
set_option maxRecDepth 20000 in
set_option maxHeartbeats 1000000 in
theorem wb_X10_isQuiet_22 (G : zG) (n : Nat) (l0 : Nat) (l1 : Int32) (s0 : Int32) (h : zH) : zW G yX10_isQuiet cX10_isQuiet 3 (some .boolean) zvI 2 22 [(0, .ref (zbase G + l0)), (1, .int l1)] [.int s0] h (fb_X10_isQuiet_22 n l0 l1 s0 h) := by
  unfold fb_X10_isQuiet_22
  refine zi_istore_n (l' := [(2, .int s0), (0, .ref (zbase G + l0)), (1, .int l1)]) dX10_isQuiet_22 rfl (by decide) rfl ?_
  refine zi_aload_n dX10_isQuiet_23 rfl 1 rfl ?_
  refine zi_getR dX10_isQuiet_24 gf_X10_22 (fun v1 => ?_)
  refine zi_iload_n dX10_isQuiet_27 rfl 2 rfl ?_
  refine zi_iald dX10_isQuiet_28 (fun v2 => ?_)
  refine zi_if_ne (tgt := 40) dX10_isQuiet_29 (by decide) ?_ ?_
  · refine zi_iconst (v := 0) dX10_isQuiet_40 (by decide) ?_
    exact zi_ret0 dX10_isQuiet_41
  · refine zi_iload_n dX10_isQuiet_32 rfl 0 rfl ?_
    refine zi_if_ne (tgt := 40) dX10_isQuiet_33 (by decide) ?_ ?_
    · refine zi_iconst (v := 0) dX10_isQuiet_40 (by decide) ?_
      exact zi_ret0 dX10_isQuiet_41
    · refine zi_iconst (v := 1) dX10_isQuiet_36 (by decide) ?_
      refine zi_goto (tgt := 41) dX10_isQuiet_37 (by decide) ?_
      exact zi_ret1 dX10_isQuiet_41
set_option maxRecDepth 20000 in
set_option maxHeartbeats 1000000 in
theorem wb_X10_isQuiet_21 (G : zG) (n : Nat) (l0 : Nat) (l1 : Int32) (h : zH) : zW G yX10_isQuiet cX10_isQuiet 3 (some .boolean) zvI 2 21 [(0, .ref (zbase G + l0)), (1, .int l1)] [] h (fb_X10_isQuiet_21 n l0 l1 h) := by
  unfold fb_X10_isQuiet_21
  refine zi_iconst (v := 0) dX10_isQuiet_21 (by decide) ?_
  refine zi_sub [0, 1] rfl ?_
  exact wb_X10_isQuiet_22 G n l0 l1 0 h
set_option maxRecDepth 20000 in
set_option maxHeartbeats 1000000 in
theorem k_X10_isQuiet (G : zG) (n : Nat) (a0 : Nat) (a1 : Int32) (h : zH) : zMet G yX10_isQuiet cX10_isQuiet 3 (some .boolean) zvI 2 [.ref (zbase G + a0), .int a1] h (f_X10_isQuiet n a0 a1 h) := by
  refine zMet_of (l := [(0, .ref (zbase G + a0)), (1, .int a1)]) (by decide) (Nat.le_of_ble_eq_true rfl) rfl ?_
  unfold f_X10_isQuiet
  refine zi_iload_n dX10_isQuiet_0 rfl 1 rfl ?_
  refine zi_iconst (v := 4) dX10_isQuiet_1 (by decide) ?_
  refine zi_icmp_lt (tgt := 21) dX10_isQuiet_2 (by decide) ?_ ?_
  · refine zi_sub [0, 1] rfl ?_
    exact wb_X10_isQuiet_21 G n a0 a1 h
  · refine zi_aload_n dX10_isQuiet_5 rfl 0 rfl ?_
    refine zi_getI dX10_isQuiet_6 gf_X10_32 (fun v1 => ?_)
    refine zi_iload_n dX10_isQuiet_9 rfl 1 rfl ?_
    refine zi_callSI (As := [.int a1]) (rest := [.int v1]) dX10_isQuiet_10 ml_X10_121 md_X10_processorsOf ms_X10_processorsOf rfl rfl (Nat.le_of_ble_eq_true rfl) (Nat.le_of_ble_eq_true rfl) (k_X10_processorsOf G n a1 h) (fun r2 h3 => ?_)
    refine zi_iand dX10_isQuiet_13 ?_
    refine zi_if_eq (tgt := 21) dX10_isQuiet_14 (by decide) ?_ ?_
    · refine zi_sub [0, 1] rfl ?_
      exact wb_X10_isQuiet_21 G n a0 a1 h3
    · refine zi_iconst (v := 1) dX10_isQuiet_17 (by decide) ?_
      refine zi_goto (tgt := 22) dX10_isQuiet_18 (by decide) ?_
      refine zi_sub [0, 1] rfl ?_
      exact wb_X10_isQuiet_22 G n a0 a1 1 h3
set_option maxRecDepth 20000 in
set_option maxHeartbeats 1000000 in
theorem wb_X0_freeCurrent_42 (G : zG) (n : Nat) (k7 : Nat → Int32 → Int32 → zH → Option (Int32 × zH)) (hk7 : ∀ (l0 : Nat) (l1 : Int32) (l2 : Int32) (h : zH), zW G yX0_freeCurrent cX0_freeCurrent 3 (some .int) zvI 2 7 [(0, .ref (zbase G + l0)), (1, .int l1), (2, .int l2)] [] h (k7 l0 l1 l2 h)) (l0 : Nat) (l1 : Int32) (l2 : Int32) (h : zH) : zW G yX0_freeCurrent cX0_freeCurrent 3 (some .int) zvI 2 42 [(0, .ref (zbase G + l0)), (1, .int l1), (2, .int l2)] [] h (fb_X0_freeCurrent_42 n k7 l0 l1 l2 h) := by
  unfold fb_X0_freeCurrent_42
  refine zi_iinc (j := 2) (v := l2 + 1) (l' := [(2, .int (l2 + 1)), (0, .ref (zbase G + l0)), (1, .int l1)]) dX0_freeCurrent_42 rfl rfl (by decide) rfl ?_
  refine zi_goto (tgt := 7) dX0_freeCurrent_45 (by decide) ?_
  refine zi_sub [1, 2, 0] rfl ?_
  exact hk7 l0 l1 (l2 + 1) h
set_option maxRecDepth 20000 in
set_option maxHeartbeats 1000000 in
theorem wb_X0_freeCurrent_7 (G : zG) (n : Nat) (k7 : Nat → Int32 → Int32 → zH → Option (Int32 × zH)) (hk7 : ∀ (l0 : Nat) (l1 : Int32) (l2 : Int32) (h : zH), zW G yX0_freeCurrent cX0_freeCurrent 3 (some .int) zvI 2 7 [(0, .ref (zbase G + l0)), (1, .int l1), (2, .int l2)] [] h (k7 l0 l1 l2 h)) (l0 : Nat) (l1 : Int32) (l2 : Int32) (h : zH) : zW G yX0_freeCurrent cX0_freeCurrent 3 (some .int) zvI 2 7 [(0, .ref (zbase G + l0)), (1, .int l1), (2, .int l2)] [] h (fb_X0_freeCurrent_7 n k7 l0 l1 l2 h) := by
  unfold fb_X0_freeCurrent_7
  refine zi_iload_n dX0_freeCurrent_7 rfl 2 rfl ?_
  refine zi_iload_n dX0_freeCurrent_8 rfl 1 rfl ?_
  refine zi_icmp_ge (tgt := 48) dX0_freeCurrent_9 (by decide) ?_ ?_
  · refine zi_aload_n dX0_freeCurrent_48 rfl 0 rfl ?_
    refine zi_iconst (v := 0) dX0_freeCurrent_49 (by decide) ?_
    refine zi_putI dX0_freeCurrent_50 gf_X0_37 (fun h1 => ?_)
    refine zi_iload_n dX0_freeCurrent_53 rfl 1 rfl ?_
    exact zi_retI dX0_freeCurrent_54
  · refine zi_iload_n dX0_freeCurrent_12 rfl 2 rfl ?_
    refine zi_bipush (v := 24) dX0_freeCurrent_13 (by decide) ?_
    refine zi_icmp_ge (tgt := 48) dX0_freeCurrent_15 (by decide) ?_ ?_
    · refine zi_aload_n dX0_freeCurrent_48 rfl 0 rfl ?_
      refine zi_iconst (v := 0) dX0_freeCurrent_49 (by decide) ?_
      refine zi_putI dX0_freeCurrent_50 gf_X0_37 (fun h2 => ?_)
      refine zi_iload_n dX0_freeCurrent_53 rfl 1 rfl ?_
      exact zi_retI dX0_freeCurrent_54
    · refine zi_aload_n dX0_freeCurrent_18 rfl 0 rfl ?_
      refine zi_getR dX0_freeCurrent_19 gf_X0_27 (fun v3 => ?_)
      refine zi_iload_n dX0_freeCurrent_22 rfl 2 rfl ?_
      refine zi_iald dX0_freeCurrent_23 (fun v4 => ?_)
      refine zi_callNI (As := [.int v4]) (rest := []) (host := "GraceTree") dX0_freeCurrent_24 mn_X0_46 md_X11_isCell ms_X11_isCell rfl rfl (Nat.le_of_ble_eq_true rfl) (Nat.le_of_ble_eq_true rfl) (k_X11_isCell G n v4 h) (fun r5 h6 => ?_)
      refine zi_if_eq (tgt := 42) dX0_freeCurrent_27 (by decide) ?_ ?_
      · refine zi_sub [0, 1, 2] rfl ?_
        exact wb_X0_freeCurrent_42 G n k7 hk7 l0 l1 l2 h6
      · refine zi_aload_n dX0_freeCurrent_30 rfl 0 rfl ?_
        refine zi_getR dX0_freeCurrent_31 gf_X0_9 (fun v7 => ?_)
        refine zi_aload_n dX0_freeCurrent_34 rfl 0 rfl ?_
        refine zi_getR dX0_freeCurrent_35 gf_X0_27 (fun v8 => ?_)
        refine zi_iload_n dX0_freeCurrent_38 rfl 2 rfl ?_
        refine zi_iald dX0_freeCurrent_39 (fun v9 => ?_)
        refine zi_iconst (v := 0) dX0_freeCurrent_40 (by decide) ?_
        refine zi_iast dX0_freeCurrent_41 (fun h10 => ?_)
        refine zi_sub [0, 1, 2] rfl ?_
        exact wb_X0_freeCurrent_42 G n k7 hk7 l0 l1 l2 h10
theorem wl_X0_freeCurrent_7 (G : zG) (n : Nat) : ∀ (t : Nat) (l0 : Nat) (l1 : Int32) (l2 : Int32) (h : zH), zW G yX0_freeCurrent cX0_freeCurrent 3 (some .int) zvI 2 7 [(0, .ref (zbase G + l0)), (1, .int l1), (2, .int l2)] [] h (zlp3 (fb_X0_freeCurrent_7 n ) t l0 l1 l2 h) := by
  intro t
  induction t with
  | zero => intros; exact zW_none
  | succ t ih => intro l0 l1 l2 h; rw [zlp3_s]; exact wb_X0_freeCurrent_7 G n  _  ih l0 l1 l2 h
set_option maxRecDepth 20000 in
set_option maxHeartbeats 1000000 in
theorem k_X0_freeCurrent (G : zG) (n : Nat) (a0 : Nat) (h : zH) : zMet G yX0_freeCurrent cX0_freeCurrent 3 (some .int) zvI 2 [.ref (zbase G + a0)] h (f_X0_freeCurrent n a0 h) := by
  refine zMet_of (l := [(0, .ref (zbase G + a0))]) (by decide) (Nat.le_of_ble_eq_true rfl) rfl ?_
  unfold f_X0_freeCurrent
  refine zi_aload_n dX0_freeCurrent_0 rfl 0 rfl ?_
  refine zi_getI dX0_freeCurrent_1 gf_X0_37 (fun v1 => ?_)
  refine zi_istore_n (l' := [(1, .int v1), (0, .ref (zbase G + a0))]) dX0_freeCurrent_4 rfl (by decide) rfl ?_
  refine zi_iconst (v := 0) dX0_freeCurrent_5 (by decide) ?_
  refine zi_istore_n (l' := [(2, .int 0), (1, .int v1), (0, .ref (zbase G + a0))]) dX0_freeCurrent_6 rfl (by decide) rfl ?_
  refine zi_sub [2, 1, 0] rfl ?_
  exact wl_X0_freeCurrent_7 G n n a0 v1 0 h
set_option maxRecDepth 20000 in
set_option maxHeartbeats 1000000 in
theorem k_X10_endGrace (G : zG) (n : Nat) (a0 : Nat) (h : zH) : zMet G yX10_endGrace cX10_endGrace 2 (some .int) zvI 3 [.ref (zbase G + a0)] h (f_X10_endGrace n a0 h) := by
  refine zMet_of (l := [(0, .ref (zbase G + a0))]) (by decide) (Nat.le_of_ble_eq_true rfl) rfl ?_
  unfold f_X10_endGrace
  refine zi_aload_n dX10_endGrace_0 rfl 0 rfl ?_
  refine zi_getR dX10_endGrace_1 gf_X10_12 (fun v1 => ?_)
  refine zi_callVI (As := []) (rest := []) (ci := 0) dX10_endGrace_4 ml_X10_166 md_X0_freeCurrent mv_X0_freeCurrent rfl (by decide) rfl rfl (Nat.le_of_ble_eq_true rfl) (Nat.le_of_ble_eq_true rfl) (k_X0_freeCurrent G n v1 h) (fun r2 h3 => ?_)
  refine zi_istore_n (l' := [(1, .int r2), (0, .ref (zbase G + a0))]) dX10_endGrace_7 rfl (by decide) rfl ?_
  refine zi_aload_n dX10_endGrace_8 rfl 1 rfl ?_
  refine zi_iconst (v := 0) dX10_endGrace_9 (by decide) ?_
  refine zi_putZ dX10_endGrace_10 gf_X10_35 (fun h4 => ?_)
  refine zi_aload_n dX10_endGrace_13 rfl 1 rfl ?_
  refine zi_iconst (v := 0) dX10_endGrace_14 (by decide) ?_
  refine zi_putI dX10_endGrace_15 gf_X10_32 (fun h5 => ?_)
  refine zi_aload_n dX10_endGrace_18 rfl 1 rfl ?_
  refine zi_aload_n dX10_endGrace_19 rfl 1 rfl ?_
  refine zi_getI dX10_endGrace_20 gf_X10_45 (fun v6 => ?_)
  refine zi_iconst (v := 1) dX10_endGrace_23 (by decide) ?_
  refine zi_iadd dX10_endGrace_24 ?_
  refine zi_sipush (v := 999) dX10_endGrace_25 (by decide) ?_
  refine zi_callSI (As := [.int (v6 + 1), .int 999]) (rest := [.ref (zbase G + a0)]) dX10_endGrace_28 ml_X10_169 md_J9_min_7cf53 ms_J9_min_7cf53 rfl rfl (Nat.le_of_ble_eq_true rfl) (Nat.le_of_ble_eq_true rfl) (k_J9_min_7cf53 G n (v6 + 1) 999 h5) (fun r7 h8 => ?_)
  refine zi_putI dX10_endGrace_31 gf_X10_45 (fun h9 => ?_)
  refine zi_aload_n dX10_endGrace_34 rfl 1 rfl ?_
  refine zi_callVI (As := []) (rest := []) (ci := 10) dX10_endGrace_35 ml_X10_82 md_X10_startGrace mv_X10_startGrace rfl (by decide) rfl rfl (Nat.le_of_ble_eq_true rfl) (Nat.le_of_ble_eq_true rfl) (k_X10_startGrace G n a0 h9) (fun r10 h11 => ?_)
  refine zi_pop dX10_endGrace_38 rfl ?_
  refine zi_iload_n dX10_endGrace_39 rfl 0 rfl ?_
  exact zi_retI dX10_endGrace_40
set_option maxRecDepth 20000 in
set_option maxHeartbeats 1000000 in
theorem wb_X10_report_87 (G : zG) (n : Nat) (l0 : Nat) (h : zH) : zW G yX10_report cX10_report 6 (some .int) zvI 4 87 [(0, .ref (zbase G + l0))] [] h (fb_X10_report_87 n l0 h) := by
  unfold fb_X10_report_87
  refine zi_aload_n dX10_report_87 rfl 0 rfl ?_
  refine zi_callVI (As := []) (rest := []) (ci := 10) dX10_report_88 ml_X10_163 md_X10_endGrace mv_X10_endGrace rfl (by decide) rfl rfl (Nat.le_of_ble_eq_true rfl) (Nat.le_of_ble_eq_true rfl) (k_X10_endGrace G n l0 h) (fun r1 h2 => ?_)
  exact zi_retI dX10_report_91
set_option maxRecDepth 20000 in
set_option maxHeartbeats 1000000 in
theorem wb_X10_report_6 (G : zG) (n : Nat) (k6 : Nat → Nat → Int32 → Int32 → zH → Option (Int32 × zH)) (hk6 : ∀ (l0 : Nat) (l3 : Nat) (l4 : Int32) (l5 : Int32) (h : zH), zW G yX10_report cX10_report 6 (some .int) zvI 4 6 [(0, .ref (zbase G + l0)), (3, .ref (zbase G + l3)), (4, .int l4), (5, .int l5)] [] h (k6 l0 l3 l4 l5 h)) (l0 : Nat) (l3 : Nat) (l4 : Int32) (l5 : Int32) (h : zH) : zW G yX10_report cX10_report 6 (some .int) zvI 4 6 [(0, .ref (zbase G + l0)), (3, .ref (zbase G + l3)), (4, .int l4), (5, .int l5)] [] h (fb_X10_report_6 n k6 l0 l3 l4 l5 h) := by
  unfold fb_X10_report_6
  refine zi_iload dX10_report_6 3 rfl ?_
  refine zi_iconst (v := 1) dX10_report_8 (by decide) ?_
  refine zi_icmp_lt (tgt := 87) dX10_report_9 (by decide) ?_ ?_
  · refine zi_sub [0] rfl ?_
    exact wb_X10_report_87 G n l0 h
  · refine zi_iload dX10_report_12 3 rfl ?_
    refine zi_bipush (v := 8) dX10_report_14 (by decide) ?_
    refine zi_icmp_ge (tgt := 87) dX10_report_16 (by decide) ?_ ?_
    · refine zi_sub [0] rfl ?_
      exact wb_X10_report_87 G n l0 h
    · refine zi_aload_n dX10_report_19 rfl 0 rfl ?_
      refine zi_dup dX10_report_20 rfl ?_
      refine zi_getI dX10_report_21 gf_X10_42 (fun v1 => ?_)
      refine zi_aload_n dX10_report_24 rfl 1 rfl ?_
      refine zi_aload_n dX10_report_25 rfl 1 rfl ?_
      refine zi_aload_n dX10_report_26 rfl 1 rfl ?_
      refine zi_getI dX10_report_27 gf_X10_152 (fun v2 => ?_)
      refine zi_callVN (As := [.int v2]) (rest := [.ref (zbase G + l3), .int v1, .ref (zbase G + l0)]) (ci := 6) dX10_report_30 ml_X10_155 md_X6_lawAt mv_X6_lawAt rfl (by decide) rfl rfl (Nat.le_of_ble_eq_true rfl) (Nat.le_of_ble_eq_true rfl) (k_X6_lawAt G n l3 v2 h) (fun r3 h4 => ?_)
      refine zi_iload dX10_report_33 3 rfl ?_
      refine zi_iload dX10_report_35 2 rfl ?_
      refine zi_aload_n dX10_report_37 rfl 0 rfl ?_
      refine zi_callVI (As := [zrf G r3, .int l5, .int l4, .ref (zbase G + l0)]) (rest := [.int v1, .ref (zbase G + l0)]) (ci := 6) dX10_report_38 ml_X10_159 md_X6_costOf mv_X6_costOf rfl (by decide) rfl rfl (Nat.le_of_ble_eq_true rfl) (Nat.le_of_ble_eq_true rfl) (k_X6_costOf G n l3 r3 l5 l4 l0 h4) (fun r5 h6 => ?_)
      refine zi_iadd dX10_report_41 ?_
      refine zi_putI dX10_report_42 gf_X10_42 (fun h7 => ?_)
      refine zi_aload_n dX10_report_45 rfl 0 rfl ?_
      refine zi_getR dX10_report_46 gf_X10_22 (fun v8 => ?_)
      refine zi_iload dX10_report_49 3 rfl ?_
      refine zi_dup2 dX10_report_51 rfl rfl ?_
      refine zi_iald dX10_report_52 (fun v9 => ?_)
      refine zi_iconst (v := 1) dX10_report_53 (by decide) ?_
      refine zi_iload dX10_report_54 2 rfl ?_
      refine zi_ishl dX10_report_56 ?_
      refine zi_iconst (v := (-1)) dX10_report_57 (by decide) ?_
      refine zi_ixor dX10_report_58 ?_
      refine zi_iand dX10_report_59 ?_
      refine zi_iast dX10_report_60 (fun h10 => ?_)
      refine zi_aload_n dX10_report_61 rfl 0 rfl ?_
      refine zi_iload dX10_report_62 3 rfl ?_
      refine zi_callVI (As := [.int l5]) (rest := []) (ci := 10) dX10_report_64 ml_X10_129 md_X10_isQuiet mv_X10_isQuiet rfl (by decide) rfl rfl (Nat.le_of_ble_eq_true rfl) (Nat.le_of_ble_eq_true rfl) (k_X10_isQuiet G n l0 l5 h10) (fun r11 h12 => ?_)
      refine zi_if_ne (tgt := 72) dX10_report_67 (by decide) ?_ ?_
      · refine zi_iload dX10_report_72 3 rfl ?_
        refine zi_iconst (v := 1) dX10_report_74 (by decide) ?_
        refine zi_iand dX10_report_75 ?_
        refine zi_let (sf := fun x13 => .int x13 :: []) (fun x13 => ?_)
        refine zi_istore (l' := [(4, .int x13), (0, .ref (zbase G + l0)), (3, .ref (zbase G + l3)), (5, .int l5)]) dX10_report_76 (by decide) rfl ?_
        refine zi_iload dX10_report_78 3 rfl ?_
        refine zi_iconst (v := 2) dX10_report_80 (by decide) ?_
        refine zi_idiv dX10_report_81 (by decide) ?_
        refine zi_let (sf := fun x14 => .int x14 :: []) (fun x14 => ?_)
        refine zi_istore (l' := [(5, .int x14), (4, .int x13), (0, .ref (zbase G + l0)), (3, .ref (zbase G + l3))]) dX10_report_82 (by decide) rfl ?_
        refine zi_goto (tgt := 6) dX10_report_84 (by decide) ?_
        refine zi_sub [2, 3, 1, 0] rfl ?_
        exact hk6 l0 l3 x13 x14 h12
      · refine zi_iconst (v := 0) dX10_report_70 (by decide) ?_
        exact zi_retI dX10_report_71
theorem wl_X10_report_6 (G : zG) (n : Nat) : ∀ (t : Nat) (l0 : Nat) (l3 : Nat) (l4 : Int32) (l5 : Int32) (h : zH), zW G yX10_report cX10_report 6 (some .int) zvI 4 6 [(0, .ref (zbase G + l0)), (3, .ref (zbase G + l3)), (4, .int l4), (5, .int l5)] [] h (zlp4 (fb_X10_report_6 n ) t l0 l3 l4 l5 h) := by
  intro t
  induction t with
  | zero => intros; exact zW_none
  | succ t ih => intro l0 l3 l4 l5 h; rw [zlp4_s]; exact wb_X10_report_6 G n  _  ih l0 l3 l4 l5 h
set_option maxRecDepth 20000 in
set_option maxHeartbeats 1000000 in
theorem k_X10_report (G : zG) (n : Nat) (a0 : Nat) (a1 : Int32) (a2 : Int32) (a3 : Nat) (h : zH) : zMet G yX10_report cX10_report 6 (some .int) zvI 4 [.ref (zbase G + a0), .int a1, .int a2, .ref (zbase G + a3)] h (f_X10_report n a0 a1 a2 a3 h) := by
  refine zMet_of (l := [(0, .ref (zbase G + a0)), (1, .int a1), (2, .int a2), (3, .ref (zbase G + a3))]) (by decide) (Nat.le_of_ble_eq_true rfl) rfl ?_
  unfold f_X10_report
  refine zi_iload_n dX10_report_0 rfl 2 rfl ?_
  refine zi_istore (l' := [(4, .int a2), (0, .ref (zbase G + a0)), (1, .int a1), (2, .int a2), (3, .ref (zbase G + a3))]) dX10_report_1 (by decide) rfl ?_
  refine zi_iload_n dX10_report_3 rfl 2 rfl ?_
  refine zi_istore (l' := [(5, .int a1), (4, .int a2), (0, .ref (zbase G + a0)), (1, .int a1), (2, .int a2), (3, .ref (zbase G + a3))]) dX10_report_4 (by decide) rfl ?_
  refine zi_sub [2, 5, 1, 0] rfl ?_
  exact wl_X10_report_6 G n n a0 a3 a2 a1 h
set_option maxRecDepth 20000 in
set_option maxHeartbeats 1000000 in
theorem k_X10_beQuiet (G : zG) (n : Nat) (a0 : Nat) (a1 : Int32) (a2 : Nat) (h : zH) : zMet G yX10_beQuiet cX10_beQuiet 4 (some .int) zvI 5 [.ref (zbase G + a0), .int a1, .ref (zbase G + a2)] h (f_X10_beQuiet n a0 a1 a2 h) := by
  refine zMet_of (l := [(0, .ref (zbase G + a0)), (1, .int a1), (2, .ref (zbase G + a2))]) (by decide) (Nat.le_of_ble_eq_true rfl) rfl ?_
  unfold f_X10_beQuiet
  refine zi_iload_n dX10_beQuiet_0 rfl 1 rfl ?_
  refine zi_callNI (As := [.int a1]) (rest := []) (host := "GraceTree") dX10_beQuiet_1 mn_X10_86 md_X11_isProcessor ms_X11_isProcessor rfl rfl (Nat.le_of_ble_eq_true rfl) (Nat.le_of_ble_eq_true rfl) (k_X11_isProcessor G n a1 h) (fun r1 h2 => ?_)
  refine zi_if_ne (tgt := 9) dX10_beQuiet_4 (by decide) ?_ ?_
  · refine zi_iconst (v := 1) dX10_beQuiet_9 (by decide) ?_
    refine zi_iload_n dX10_beQuiet_10 rfl 1 rfl ?_
    refine zi_ishl dX10_beQuiet_11 ?_
    refine zi_let (sf := fun x3 => .int x3 :: []) (fun x3 => ?_)
    refine zi_istore_n (l' := [(3, .int x3), (0, .ref (zbase G + a0)), (1, .int a1), (2, .ref (zbase G + a2))]) dX10_beQuiet_12 rfl (by decide) rfl ?_
    refine zi_aload_n dX10_beQuiet_13 rfl 1 rfl ?_
    refine zi_getI dX10_beQuiet_14 gf_X10_25 (fun v4 => ?_)
    refine zi_aload_n dX10_beQuiet_17 rfl 1 rfl ?_
    refine zi_getI dX10_beQuiet_18 gf_X10_29 (fun v5 => ?_)
    refine zi_iconst (v := (-1)) dX10_beQuiet_21 (by decide) ?_
    refine zi_ixor dX10_beQuiet_22 ?_
    refine zi_iand dX10_beQuiet_23 ?_
    refine zi_iload_n dX10_beQuiet_24 rfl 0 rfl ?_
    refine zi_iand dX10_beQuiet_25 ?_
    refine zi_if_eq (tgt := 32) dX10_beQuiet_26 (by decide) ?_ ?_
    · refine zi_aload_n dX10_beQuiet_32 rfl 1 rfl ?_
      refine zi_callVI (As := []) (rest := []) (ci := 10) dX10_beQuiet_33 ml_X10_90 md_X10_unreported mv_X10_unreported rfl (by decide) rfl rfl (Nat.le_of_ble_eq_true rfl) (Nat.le_of_ble_eq_true rfl) (k_X10_unreported G n a0 h2) (fun r6 h7 => ?_)
      refine zi_iload_n dX10_beQuiet_36 rfl 0 rfl ?_
      refine zi_iand dX10_beQuiet_37 ?_
      refine zi_if_ne (tgt := 43) dX10_beQuiet_38 (by decide) ?_ ?_
      · refine zi_aload_n dX10_beQuiet_43 rfl 1 rfl ?_
        refine zi_iload_n dX10_beQuiet_44 rfl 2 rfl ?_
        refine zi_callSI (As := [.int a1]) (rest := [.ref (zbase G + a0)]) dX10_beQuiet_45 ml_X10_118 md_X10_leafOf ms_X10_leafOf rfl rfl (Nat.le_of_ble_eq_true rfl) (Nat.le_of_ble_eq_true rfl) (k_X10_leafOf G n a1 h7) (fun r8 h9 => ?_)
        refine zi_iload_n dX10_beQuiet_48 rfl 2 rfl ?_
        refine zi_iconst (v := 1) dX10_beQuiet_49 (by decide) ?_
        refine zi_iand dX10_beQuiet_50 ?_
        refine zi_aload_n dX10_beQuiet_51 rfl 3 rfl ?_
        refine zi_callVI (As := [.int r8, .int (a1 &&& 1), .ref (zbase G + a2)]) (rest := []) (ci := 10) dX10_beQuiet_52 ml_X10_132 md_X10_report mv_X10_report rfl (by decide) rfl rfl (Nat.le_of_ble_eq_true rfl) (Nat.le_of_ble_eq_true rfl) (k_X10_report G n a0 r8 (a1 &&& 1) a2 h9) (fun r10 h11 => ?_)
        exact zi_retI dX10_beQuiet_55
      · refine zi_iconst (v := 0) dX10_beQuiet_41 (by decide) ?_
        exact zi_retI dX10_beQuiet_42
    · refine zi_bipush (v := (-3)) dX10_beQuiet_29 (by decide) ?_
      exact zi_retI dX10_beQuiet_31
  · refine zi_iconst (v := (-1)) dX10_beQuiet_7 (by decide) ?_
    exact zi_retI dX10_beQuiet_8
set_option maxRecDepth 20000 in
set_option maxHeartbeats 1000000 in
theorem wb_X10_goOut_39 (G : zG) (n : Nat) (l0 : Nat) (l1 : Int32) (l2 : Nat) (l3 : Int32) (s0 : Int32) (h : zH) : zW G yX10_goOut cX10_goOut 6 (some .int) zvI 5 39 [(0, .ref (zbase G + l0)), (1, .int l1), (2, .ref (zbase G + l2)), (3, .int l3)] [.int s0] h (fb_X10_goOut_39 n l0 l1 l2 l3 s0 h) := by
  unfold fb_X10_goOut_39
  refine zi_istore (l' := [(4, .int s0), (0, .ref (zbase G + l0)), (1, .int l1), (2, .ref (zbase G + l2)), (3, .int l3)]) dX10_goOut_39 (by decide) rfl ?_
  refine zi_aload_n dX10_goOut_41 rfl 1 rfl ?_
  refine zi_dup dX10_goOut_42 rfl ?_
  refine zi_getI dX10_goOut_43 gf_X10_25 (fun v1 => ?_)
  refine zi_iload_n dX10_goOut_46 rfl 4 rfl ?_
  refine zi_iconst (v := (-1)) dX10_goOut_47 (by decide) ?_
  refine zi_ixor dX10_goOut_48 ?_
  refine zi_iand dX10_goOut_49 ?_
  refine zi_putI dX10_goOut_50 gf_X10_25 (fun h2 => ?_)
  refine zi_aload_n dX10_goOut_53 rfl 1 rfl ?_
  refine zi_dup dX10_goOut_54 rfl ?_
  refine zi_getI dX10_goOut_55 gf_X10_29 (fun v3 => ?_)
  refine zi_iload_n dX10_goOut_58 rfl 4 rfl ?_
  refine zi_iconst (v := (-1)) dX10_goOut_59 (by decide) ?_
  refine zi_ixor dX10_goOut_60 ?_
  refine zi_iand dX10_goOut_61 ?_
  refine zi_putI dX10_goOut_62 gf_X10_29 (fun h4 => ?_)
  refine zi_aload_n dX10_goOut_65 rfl 1 rfl ?_
  refine zi_dup dX10_goOut_66 rfl ?_
  refine zi_getI dX10_goOut_67 gf_X10_32 (fun v5 => ?_)
  refine zi_iload_n dX10_goOut_70 rfl 4 rfl ?_
  refine zi_iconst (v := (-1)) dX10_goOut_71 (by decide) ?_
  refine zi_ixor dX10_goOut_72 ?_
  refine zi_iand dX10_goOut_73 ?_
  refine zi_putI dX10_goOut_74 gf_X10_32 (fun h6 => ?_)
  refine zi_iload_n dX10_goOut_77 rfl 2 rfl ?_
  refine zi_callSI (As := [.int l1]) (rest := []) dX10_goOut_78 ml_X10_118 md_X10_leafOf ms_X10_leafOf rfl rfl (Nat.le_of_ble_eq_true rfl) (Nat.le_of_ble_eq_true rfl) (k_X10_leafOf G n l1 h6) (fun r7 h8 => ?_)
  refine zi_istore (l' := [(5, .int r7), (4, .int s0), (0, .ref (zbase G + l0)), (1, .int l1), (2, .ref (zbase G + l2)), (3, .int l3)]) dX10_goOut_81 (by decide) rfl ?_
  refine zi_iload dX10_goOut_83 1 rfl ?_
  refine zi_if_eq (tgt := 113) dX10_goOut_85 (by decide) ?_ ?_
  · refine zi_iconst (v := 0) dX10_goOut_113 (by decide) ?_
    exact zi_retI dX10_goOut_114
  · refine zi_aload_n dX10_goOut_88 rfl 2 rfl ?_
    refine zi_iload dX10_goOut_89 0 rfl ?_
    refine zi_callVI (As := [.int r7]) (rest := []) (ci := 10) dX10_goOut_91 ml_X10_129 md_X10_isQuiet mv_X10_isQuiet rfl (by decide) rfl rfl (Nat.le_of_ble_eq_true rfl) (Nat.le_of_ble_eq_true rfl) (k_X10_isQuiet G n l0 r7 h8) (fun r9 h10 => ?_)
    refine zi_if_eq (tgt := 113) dX10_goOut_94 (by decide) ?_ ?_
    · refine zi_iconst (v := 0) dX10_goOut_113 (by decide) ?_
      exact zi_retI dX10_goOut_114
    · refine zi_aload_n dX10_goOut_97 rfl 2 rfl ?_
      refine zi_iload dX10_goOut_98 0 rfl ?_
      refine zi_iconst (v := 2) dX10_goOut_100 (by decide) ?_
      refine zi_idiv dX10_goOut_101 (by decide) ?_
      refine zi_iload dX10_goOut_102 0 rfl ?_
      refine zi_iconst (v := 1) dX10_goOut_104 (by decide) ?_
      refine zi_iand dX10_goOut_105 ?_
      refine zi_aload_n dX10_goOut_106 rfl 4 rfl ?_
      refine zi_callVI (As := [.int (r7 / 2), .int (r7 &&& 1), .ref (zbase G + l2)]) (rest := []) (ci := 10) dX10_goOut_107 ml_X10_132 md_X10_report mv_X10_report rfl (by decide) rfl rfl (Nat.le_of_ble_eq_true rfl) (Nat.le_of_ble_eq_true rfl) (k_X10_report G n l0 (r7 / 2) (r7 &&& 1) l2 h10) (fun r11 h12 => ?_)
      refine zi_goto (tgt := 114) dX10_goOut_110 (by decide) ?_
      exact zi_retI dX10_goOut_114
set_option maxRecDepth 20000 in
set_option maxHeartbeats 1000000 in
theorem k_X10_goOut (G : zG) (n : Nat) (a0 : Nat) (a1 : Int32) (a2 : Nat) (h : zH) : zMet G yX10_goOut cX10_goOut 6 (some .int) zvI 5 [.ref (zbase G + a0), .int a1, .ref (zbase G + a2)] h (f_X10_goOut n a0 a1 a2 h) := by
  refine zMet_of (l := [(0, .ref (zbase G + a0)), (1, .int a1), (2, .ref (zbase G + a2))]) (by decide) (Nat.le_of_ble_eq_true rfl) rfl ?_
  unfold f_X10_goOut
  refine zi_iload_n dX10_goOut_0 rfl 1 rfl ?_
  refine zi_callNI (As := [.int a1]) (rest := []) (host := "GraceTree") dX10_goOut_1 mn_X10_86 md_X11_isProcessor ms_X11_isProcessor rfl rfl (Nat.le_of_ble_eq_true rfl) (Nat.le_of_ble_eq_true rfl) (k_X11_isProcessor G n a1 h) (fun r1 h2 => ?_)
  refine zi_if_ne (tgt := 9) dX10_goOut_4 (by decide) ?_ ?_
  · refine zi_iconst (v := 1) dX10_goOut_9 (by decide) ?_
    refine zi_iload_n dX10_goOut_10 rfl 1 rfl ?_
    refine zi_ishl dX10_goOut_11 ?_
    refine zi_let (sf := fun x3 => .int x3 :: []) (fun x3 => ?_)
    refine zi_istore_n (l' := [(3, .int x3), (0, .ref (zbase G + a0)), (1, .int a1), (2, .ref (zbase G + a2))]) dX10_goOut_12 rfl (by decide) rfl ?_
    refine zi_aload_n dX10_goOut_13 rfl 1 rfl ?_
    refine zi_getI dX10_goOut_14 gf_X10_25 (fun v4 => ?_)
    refine zi_iload_n dX10_goOut_17 rfl 0 rfl ?_
    refine zi_iand dX10_goOut_18 ?_
    refine zi_if_ne (tgt := 25) dX10_goOut_19 (by decide) ?_ ?_
    · refine zi_aload_n dX10_goOut_25 rfl 1 rfl ?_
      refine zi_getI dX10_goOut_26 gf_X10_32 (fun v5 => ?_)
      refine zi_iload_n dX10_goOut_29 rfl 0 rfl ?_
      refine zi_iand dX10_goOut_30 ?_
      refine zi_if_eq (tgt := 38) dX10_goOut_31 (by decide) ?_ ?_
      · refine zi_iconst (v := 0) dX10_goOut_38 (by decide) ?_
        refine zi_sub [1, 2, 3, 0] rfl ?_
        exact wb_X10_goOut_39 G n a0 a1 a2 x3 0 h2
      · refine zi_iconst (v := 1) dX10_goOut_34 (by decide) ?_
        refine zi_goto (tgt := 39) dX10_goOut_35 (by decide) ?_
        refine zi_sub [1, 2, 3, 0] rfl ?_
        exact wb_X10_goOut_39 G n a0 a1 a2 x3 1 h2
    · refine zi_bipush (v := (-3)) dX10_goOut_22 (by decide) ?_
      exact zi_retI dX10_goOut_24
  · refine zi_iconst (v := (-1)) dX10_goOut_7 (by decide) ?_
    exact zi_retI dX10_goOut_8
set_option maxRecDepth 20000 in
set_option maxHeartbeats 1000000 in
theorem k_J6_bitCount_0f7a4 (G : zG) (n : Nat) (a0 : Int32) (h : zH) : zMet G yJ6_bitCount_0f7a4 cJ6_bitCount_0f7a4 1 (some .int) zvI 1 [.int a0] h (f_J6_bitCount_0f7a4 n a0 h) := by
  refine zMet_ofF (l := [(0, .int a0)]) (by decide +kernel) (Nat.le_of_ble_eq_true rfl) rfl ?_
  unfold f_J6_bitCount_0f7a4
  refine zi_iload_n dJ6_bitCount_0f7a4_0 rfl 0 rfl ?_
  refine zi_iload_n dJ6_bitCount_0f7a4_1 rfl 0 rfl ?_
  refine zi_iconst (v := 1) dJ6_bitCount_0f7a4_2 (by decide) ?_
  refine zi_iushr dJ6_bitCount_0f7a4_3 ?_
  refine zi_ldcw dJ6_bitCount_0f7a4_4 kc_J6_265 ?_
  refine zi_iand dJ6_bitCount_0f7a4_7 ?_
  refine zi_isub dJ6_bitCount_0f7a4_8 ?_
  refine zi_let (sf := fun x1 => .int x1 :: []) (fun x1 => ?_)
  refine zi_istore_n (l' := [(0, .int x1)]) dJ6_bitCount_0f7a4_9 rfl (by decide) rfl ?_
  refine zi_iload_n dJ6_bitCount_0f7a4_10 rfl 0 rfl ?_
  refine zi_ldcw dJ6_bitCount_0f7a4_11 kc_J6_266 ?_
  refine zi_iand dJ6_bitCount_0f7a4_14 ?_
  refine zi_iload_n dJ6_bitCount_0f7a4_15 rfl 0 rfl ?_
  refine zi_iconst (v := 2) dJ6_bitCount_0f7a4_16 (by decide) ?_
  refine zi_iushr dJ6_bitCount_0f7a4_17 ?_
  refine zi_ldcw dJ6_bitCount_0f7a4_18 kc_J6_266 ?_
  refine zi_iand dJ6_bitCount_0f7a4_21 ?_
  refine zi_iadd dJ6_bitCount_0f7a4_22 ?_
  refine zi_let (sf := fun x2 => .int x2 :: []) (fun x2 => ?_)
  refine zi_istore_n (l' := [(0, .int x2)]) dJ6_bitCount_0f7a4_23 rfl (by decide) rfl ?_
  refine zi_iload_n dJ6_bitCount_0f7a4_24 rfl 0 rfl ?_
  refine zi_iload_n dJ6_bitCount_0f7a4_25 rfl 0 rfl ?_
  refine zi_iconst (v := 4) dJ6_bitCount_0f7a4_26 (by decide) ?_
  refine zi_iushr dJ6_bitCount_0f7a4_27 ?_
  refine zi_iadd dJ6_bitCount_0f7a4_28 ?_
  refine zi_ldcw dJ6_bitCount_0f7a4_29 kc_J6_267 ?_
  refine zi_iand dJ6_bitCount_0f7a4_32 ?_
  refine zi_let (sf := fun x3 => .int x3 :: []) (fun x3 => ?_)
  refine zi_istore_n (l' := [(0, .int x3)]) dJ6_bitCount_0f7a4_33 rfl (by decide) rfl ?_
  refine zi_iload_n dJ6_bitCount_0f7a4_34 rfl 0 rfl ?_
  refine zi_iload_n dJ6_bitCount_0f7a4_35 rfl 0 rfl ?_
  refine zi_bipush (v := 8) dJ6_bitCount_0f7a4_36 (by decide) ?_
  refine zi_iushr dJ6_bitCount_0f7a4_38 ?_
  refine zi_iadd dJ6_bitCount_0f7a4_39 ?_
  refine zi_let (sf := fun x4 => .int x4 :: []) (fun x4 => ?_)
  refine zi_istore_n (l' := [(0, .int x4)]) dJ6_bitCount_0f7a4_40 rfl (by decide) rfl ?_
  refine zi_iload_n dJ6_bitCount_0f7a4_41 rfl 0 rfl ?_
  refine zi_iload_n dJ6_bitCount_0f7a4_42 rfl 0 rfl ?_
  refine zi_bipush (v := 16) dJ6_bitCount_0f7a4_43 (by decide) ?_
  refine zi_iushr dJ6_bitCount_0f7a4_45 ?_
  refine zi_iadd dJ6_bitCount_0f7a4_46 ?_
  refine zi_let (sf := fun x5 => .int x5 :: []) (fun x5 => ?_)
  refine zi_istore_n (l' := [(0, .int x5)]) dJ6_bitCount_0f7a4_47 rfl (by decide) rfl ?_
  refine zi_iload_n dJ6_bitCount_0f7a4_48 rfl 0 rfl ?_
  refine zi_bipush (v := 63) dJ6_bitCount_0f7a4_49 (by decide) ?_
  refine zi_iand dJ6_bitCount_0f7a4_51 ?_
  exact zi_retI dJ6_bitCount_0f7a4_52
set_option maxRecDepth 20000 in
set_option maxHeartbeats 1000000 in
theorem k_X10_standStill (G : zG) (n : Nat) (a0 : Nat) (a1 : Int32) (h : zH) : zMet G yX10_standStill cX10_standStill 3 (some .int) zvI 2 [.ref (zbase G + a0), .int a1] h (f_X10_standStill n a0 a1 h) := by
  refine zMet_of (l := [(0, .ref (zbase G + a0)), (1, .int a1)]) (by decide) (Nat.le_of_ble_eq_true rfl) rfl ?_
  unfold f_X10_standStill
  refine zi_iload_n dX10_standStill_0 rfl 1 rfl ?_
  refine zi_callNI (As := [.int a1]) (rest := []) (host := "GraceTree") dX10_standStill_1 mn_X10_86 md_X11_isProcessor ms_X11_isProcessor rfl rfl (Nat.le_of_ble_eq_true rfl) (Nat.le_of_ble_eq_true rfl) (k_X11_isProcessor G n a1 h) (fun r1 h2 => ?_)
  refine zi_if_ne (tgt := 9) dX10_standStill_4 (by decide) ?_ ?_
  · refine zi_iconst (v := 1) dX10_standStill_9 (by decide) ?_
    refine zi_iload_n dX10_standStill_10 rfl 1 rfl ?_
    refine zi_ishl dX10_standStill_11 ?_
    refine zi_let (sf := fun x3 => .int x3 :: []) (fun x3 => ?_)
    refine zi_istore_n (l' := [(2, .int x3), (0, .ref (zbase G + a0)), (1, .int a1)]) dX10_standStill_12 rfl (by decide) rfl ?_
    refine zi_aload_n dX10_standStill_13 rfl 1 rfl ?_
    refine zi_getI dX10_standStill_14 gf_X10_25 (fun v4 => ?_)
    refine zi_iload_n dX10_standStill_17 rfl 0 rfl ?_
    refine zi_iand dX10_standStill_18 ?_
    refine zi_if_eq (tgt := 31) dX10_standStill_19 (by decide) ?_ ?_
    · refine zi_bipush (v := (-3)) dX10_standStill_31 (by decide) ?_
      exact zi_retI dX10_standStill_33
    · refine zi_aload_n dX10_standStill_22 rfl 1 rfl ?_
      refine zi_getI dX10_standStill_23 gf_X10_29 (fun v5 => ?_)
      refine zi_iload_n dX10_standStill_26 rfl 0 rfl ?_
      refine zi_iand dX10_standStill_27 ?_
      refine zi_if_eq (tgt := 34) dX10_standStill_28 (by decide) ?_ ?_
      · refine zi_aload_n dX10_standStill_34 rfl 1 rfl ?_
        refine zi_dup dX10_standStill_35 rfl ?_
        refine zi_getI dX10_standStill_36 gf_X10_29 (fun v6 => ?_)
        refine zi_iload_n dX10_standStill_39 rfl 0 rfl ?_
        refine zi_ior dX10_standStill_40 ?_
        refine zi_putI dX10_standStill_41 gf_X10_29 (fun h7 => ?_)
        refine zi_aload_n dX10_standStill_44 rfl 1 rfl ?_
        refine zi_dup dX10_standStill_45 rfl ?_
        refine zi_getI dX10_standStill_46 gf_X10_32 (fun v8 => ?_)
        refine zi_aload_n dX10_standStill_49 rfl 1 rfl ?_
        refine zi_callVI (As := []) (rest := [.int v8, .ref (zbase G + a0)]) (ci := 10) dX10_standStill_50 ml_X10_90 md_X10_unreported mv_X10_unreported rfl (by decide) rfl rfl (Nat.le_of_ble_eq_true rfl) (Nat.le_of_ble_eq_true rfl) (k_X10_unreported G n a0 h7) (fun r9 h10 => ?_)
        refine zi_iload_n dX10_standStill_53 rfl 0 rfl ?_
        refine zi_iand dX10_standStill_54 ?_
        refine zi_ior dX10_standStill_55 ?_
        refine zi_putI dX10_standStill_56 gf_X10_32 (fun h11 => ?_)
        refine zi_aload_n dX10_standStill_59 rfl 1 rfl ?_
        refine zi_getI dX10_standStill_60 gf_X10_29 (fun v12 => ?_)
        refine zi_iload_n dX10_standStill_63 rfl 2 rfl ?_
        refine zi_callSI (As := [.int a1]) (rest := [.int v12]) dX10_standStill_64 ml_X10_118 md_X10_leafOf ms_X10_leafOf rfl rfl (Nat.le_of_ble_eq_true rfl) (Nat.le_of_ble_eq_true rfl) (k_X10_leafOf G n a1 h11) (fun r13 h14 => ?_)
        refine zi_callSI (As := [.int r13]) (rest := [.int v12]) dX10_standStill_67 ml_X10_121 md_X10_processorsOf ms_X10_processorsOf rfl rfl (Nat.le_of_ble_eq_true rfl) (Nat.le_of_ble_eq_true rfl) (k_X10_processorsOf G n r13 h14) (fun r15 h16 => ?_)
        refine zi_iand dX10_standStill_70 ?_
        refine zi_callSI (As := [.int (v12 &&& r15)]) (rest := []) dX10_standStill_71 ml_X10_124 md_J6_bitCount_0f7a4 ms_J6_bitCount_0f7a4 rfl rfl (Nat.le_of_ble_eq_true rfl) (Nat.le_of_ble_eq_true rfl) (k_J6_bitCount_0f7a4 G n (v12 &&& r15) h16) (fun r17 h18 => ?_)
        exact zi_retI dX10_standStill_74
      · refine zi_bipush (v := (-3)) dX10_standStill_31 (by decide) ?_
        exact zi_retI dX10_standStill_33
  · refine zi_iconst (v := (-1)) dX10_standStill_7 (by decide) ?_
    exact zi_retI dX10_standStill_8
set_option maxRecDepth 20000 in
set_option maxHeartbeats 1000000 in
theorem k_X10_goOn (G : zG) (n : Nat) (a0 : Nat) (a1 : Int32) (h : zH) : zMet G yX10_goOn cX10_goOn 3 (some .int) zvI 3 [.ref (zbase G + a0), .int a1] h (f_X10_goOn n a0 a1 h) := by
  refine zMet_of (l := [(0, .ref (zbase G + a0)), (1, .int a1)]) (by decide) (Nat.le_of_ble_eq_true rfl) rfl ?_
  unfold f_X10_goOn
  refine zi_iload_n dX10_goOn_0 rfl 1 rfl ?_
  refine zi_callNI (As := [.int a1]) (rest := []) (host := "GraceTree") dX10_goOn_1 mn_X10_86 md_X11_isProcessor ms_X11_isProcessor rfl rfl (Nat.le_of_ble_eq_true rfl) (Nat.le_of_ble_eq_true rfl) (k_X11_isProcessor G n a1 h) (fun r1 h2 => ?_)
  refine zi_if_ne (tgt := 9) dX10_goOn_4 (by decide) ?_ ?_
  · refine zi_aload_n dX10_goOn_9 rfl 0 rfl ?_
    refine zi_iload_n dX10_goOn_10 rfl 1 rfl ?_
    refine zi_callVI (As := [.int a1]) (rest := []) (ci := 10) dX10_goOn_11 ml_X10_109 md_X10_cellOf mv_X10_cellOf rfl (by decide) rfl rfl (Nat.le_of_ble_eq_true rfl) (Nat.le_of_ble_eq_true rfl) (k_X10_cellOf G n a0 a1 h2) (fun r3 h4 => ?_)
    refine zi_istore_n (l' := [(2, .int r3), (0, .ref (zbase G + a0)), (1, .int a1)]) dX10_goOn_14 rfl (by decide) rfl ?_
    refine zi_iload_n dX10_goOn_15 rfl 0 rfl ?_
    refine zi_callNI (As := [.int r3]) (rest := []) (host := "GraceTree") dX10_goOn_16 mn_X10_112 md_X11_isCell ms_X11_isCell rfl rfl (Nat.le_of_ble_eq_true rfl) (Nat.le_of_ble_eq_true rfl) (k_X11_isCell G n r3 h4) (fun r5 h6 => ?_)
    refine zi_if_eq (tgt := 33) dX10_goOn_19 (by decide) ?_ ?_
    · refine zi_bipush (v := (-3)) dX10_goOn_33 (by decide) ?_
      exact zi_retI dX10_goOn_35
    · refine zi_aload_n dX10_goOn_22 rfl 1 rfl ?_
      refine zi_getI dX10_goOn_23 gf_X10_29 (fun v7 => ?_)
      refine zi_iconst (v := 1) dX10_goOn_26 (by decide) ?_
      refine zi_iload_n dX10_goOn_27 rfl 2 rfl ?_
      refine zi_ishl dX10_goOn_28 ?_
      refine zi_iand dX10_goOn_29 ?_
      refine zi_if_eq (tgt := 36) dX10_goOn_30 (by decide) ?_ ?_
      · refine zi_aload_n dX10_goOn_36 rfl 1 rfl ?_
        refine zi_getR dX10_goOn_37 gf_X10_18 (fun v8 => ?_)
        refine zi_iload_n dX10_goOn_40 rfl 2 rfl ?_
        refine zi_aload_n dX10_goOn_41 rfl 1 rfl ?_
        refine zi_getR dX10_goOn_42 gf_X10_12 (fun v9 => ?_)
        refine zi_getR dX10_goOn_45 gf_X10_115 (fun v10 => ?_)
        refine zi_iload_n dX10_goOn_48 rfl 0 rfl ?_
        refine zi_iald dX10_goOn_49 (fun v11 => ?_)
        refine zi_iast dX10_goOn_50 (fun h12 => ?_)
        refine zi_iconst (v := 1) dX10_goOn_51 (by decide) ?_
        refine zi_aload_n dX10_goOn_52 rfl 1 rfl ?_
        refine zi_getR dX10_goOn_53 gf_X10_18 (fun v13 => ?_)
        refine zi_iload_n dX10_goOn_56 rfl 2 rfl ?_
        refine zi_iald dX10_goOn_57 (fun v14 => ?_)
        refine zi_iadd dX10_goOn_58 ?_
        exact zi_retI dX10_goOn_59
      · refine zi_bipush (v := (-3)) dX10_goOn_33 (by decide) ?_
        exact zi_retI dX10_goOn_35
  · refine zi_iconst (v := (-1)) dX10_goOn_7 (by decide) ?_
    exact zi_retI dX10_goOn_8
set_option maxRecDepth 20000 in
set_option maxHeartbeats 1000000 in
theorem k_X10_goIn (G : zG) (n : Nat) (a0 : Nat) (a1 : Int32) (h : zH) : zMet G yX10_goIn cX10_goIn 3 (some .int) zvI 2 [.ref (zbase G + a0), .int a1] h (f_X10_goIn n a0 a1 h) := by
  refine zMet_of (l := [(0, .ref (zbase G + a0)), (1, .int a1)]) (by decide) (Nat.le_of_ble_eq_true rfl) rfl ?_
  unfold f_X10_goIn
  refine zi_iload_n dX10_goIn_0 rfl 1 rfl ?_
  refine zi_callNI (As := [.int a1]) (rest := []) (host := "GraceTree") dX10_goIn_1 mn_X10_86 md_X11_isProcessor ms_X11_isProcessor rfl rfl (Nat.le_of_ble_eq_true rfl) (Nat.le_of_ble_eq_true rfl) (k_X11_isProcessor G n a1 h) (fun r1 h2 => ?_)
  refine zi_if_ne (tgt := 9) dX10_goIn_4 (by decide) ?_ ?_
  · refine zi_iconst (v := 1) dX10_goIn_9 (by decide) ?_
    refine zi_iload_n dX10_goIn_10 rfl 1 rfl ?_
    refine zi_ishl dX10_goIn_11 ?_
    refine zi_let (sf := fun x3 => .int x3 :: []) (fun x3 => ?_)
    refine zi_istore_n (l' := [(2, .int x3), (0, .ref (zbase G + a0)), (1, .int a1)]) dX10_goIn_12 rfl (by decide) rfl ?_
    refine zi_aload_n dX10_goIn_13 rfl 1 rfl ?_
    refine zi_getI dX10_goIn_14 gf_X10_25 (fun v4 => ?_)
    refine zi_iload_n dX10_goIn_17 rfl 0 rfl ?_
    refine zi_iand dX10_goIn_18 ?_
    refine zi_if_eq (tgt := 25) dX10_goIn_19 (by decide) ?_ ?_
    · refine zi_aload_n dX10_goIn_25 rfl 1 rfl ?_
      refine zi_dup dX10_goIn_26 rfl ?_
      refine zi_getI dX10_goIn_27 gf_X10_25 (fun v5 => ?_)
      refine zi_iload_n dX10_goIn_30 rfl 0 rfl ?_
      refine zi_ior dX10_goIn_31 ?_
      refine zi_putI dX10_goIn_32 gf_X10_25 (fun h6 => ?_)
      refine zi_aload_n dX10_goIn_35 rfl 1 rfl ?_
      refine zi_getR dX10_goIn_36 gf_X10_18 (fun v7 => ?_)
      refine zi_iload_n dX10_goIn_39 rfl 2 rfl ?_
      refine zi_aload_n dX10_goIn_40 rfl 1 rfl ?_
      refine zi_getR dX10_goIn_41 gf_X10_12 (fun v8 => ?_)
      refine zi_getI dX10_goIn_44 gf_X10_106 (fun v9 => ?_)
      refine zi_iast dX10_goIn_47 (fun h10 => ?_)
      refine zi_iconst (v := 1) dX10_goIn_48 (by decide) ?_
      refine zi_aload_n dX10_goIn_49 rfl 1 rfl ?_
      refine zi_getR dX10_goIn_50 gf_X10_18 (fun v11 => ?_)
      refine zi_iload_n dX10_goIn_53 rfl 2 rfl ?_
      refine zi_iald dX10_goIn_54 (fun v12 => ?_)
      refine zi_iadd dX10_goIn_55 ?_
      exact zi_retI dX10_goIn_56
    · refine zi_bipush (v := (-3)) dX10_goIn_22 (by decide) ?_
      exact zi_retI dX10_goIn_24
  · refine zi_iconst (v := (-1)) dX10_goIn_7 (by decide) ?_
    exact zi_retI dX10_goIn_8
set_option maxRecDepth 20000 in
set_option maxHeartbeats 1000000 in
theorem k_X0_remove (G : zG) (n : Nat) (a0 : Nat) (a1 : Int32) (h : zH) : zMet G yX0_remove cX0_remove 4 (some .int) zvI 3 [.ref (zbase G + a0), .int a1] h (f_X0_remove n a0 a1 h) := by
  refine zMet_of (l := [(0, .ref (zbase G + a0)), (1, .int a1)]) (by decide) (Nat.le_of_ble_eq_true rfl) rfl ?_
  unfold f_X0_remove
  refine zi_aload_n dX0_remove_0 rfl 0 rfl ?_
  refine zi_iload_n dX0_remove_1 rfl 1 rfl ?_
  refine zi_callVI (As := [.int a1]) (rest := []) (ci := 0) dX0_remove_2 ml_X0_50 md_X0_lastBelow mv_X0_lastBelow rfl (by decide) rfl rfl (Nat.le_of_ble_eq_true rfl) (Nat.le_of_ble_eq_true rfl) (k_X0_lastBelow G n a0 a1 h) (fun r1 h2 => ?_)
  refine zi_istore_n (l' := [(2, .int r1), (0, .ref (zbase G + a0)), (1, .int a1)]) dX0_remove_5 rfl (by decide) rfl ?_
  refine zi_aload_n dX0_remove_6 rfl 1 rfl ?_
  refine zi_iload_n dX0_remove_7 rfl 0 rfl ?_
  refine zi_callVI (As := [.int r1]) (rest := []) (ci := 0) dX0_remove_8 ml_X0_54 md_X0_follower mv_X0_follower rfl (by decide) rfl rfl (Nat.le_of_ble_eq_true rfl) (Nat.le_of_ble_eq_true rfl) (k_X0_follower G n a0 r1 h2) (fun r3 h4 => ?_)
  refine zi_istore_n (l' := [(3, .int r3), (2, .int r1), (0, .ref (zbase G + a0)), (1, .int a1)]) dX0_remove_11 rfl (by decide) rfl ?_
  refine zi_iload_n dX0_remove_12 rfl 0 rfl ?_
  refine zi_callNI (As := [.int r3]) (rest := []) (host := "GraceTree") dX0_remove_13 mn_X0_46 md_X11_isCell ms_X11_isCell rfl rfl (Nat.le_of_ble_eq_true rfl) (Nat.le_of_ble_eq_true rfl) (k_X11_isCell G n r3 h4) (fun r5 h6 => ?_)
  refine zi_if_eq (tgt := 29) dX0_remove_16 (by decide) ?_ ?_
  · refine zi_bipush (v := (-3)) dX0_remove_29 (by decide) ?_
    exact zi_retI dX0_remove_31
  · refine zi_aload_n dX0_remove_19 rfl 2 rfl ?_
    refine zi_getR dX0_remove_20 gf_X0_15 (fun v7 => ?_)
    refine zi_iload_n dX0_remove_23 rfl 0 rfl ?_
    refine zi_iald dX0_remove_24 (fun v8 => ?_)
    refine zi_iload_n dX0_remove_25 rfl 3 rfl ?_
    refine zi_icmp_eq (tgt := 32) dX0_remove_26 (by decide) ?_ ?_
    · refine zi_aload_n dX0_remove_32 rfl 2 rfl ?_
      refine zi_iload_n dX0_remove_33 rfl 1 rfl ?_
      refine zi_aload_n dX0_remove_34 rfl 2 rfl ?_
      refine zi_getR dX0_remove_35 gf_X0_21 (fun v9 => ?_)
      refine zi_iload_n dX0_remove_38 rfl 0 rfl ?_
      refine zi_iald dX0_remove_39 (fun v10 => ?_)
      refine zi_callVU (As := [.int r1, .int v10]) (rest := []) (ci := 0) dX0_remove_40 ml_X0_61 md_X0_leadTo mv_X0_leadTo rfl (by decide) rfl rfl (Nat.le_of_ble_eq_true rfl) (Nat.le_of_ble_eq_true rfl) (k_X0_leadTo G n a0 r1 v10 h6) (fun _ h12 => ?_)
      refine zi_aload_n dX0_remove_43 rfl 2 rfl ?_
      refine zi_iload_n dX0_remove_44 rfl 0 rfl ?_
      refine zi_callVU (As := [.int r3]) (rest := []) (ci := 0) dX0_remove_45 ml_X0_65 md_X0_retire mv_X0_retire rfl (by decide) rfl rfl (Nat.le_of_ble_eq_true rfl) (Nat.le_of_ble_eq_true rfl) (k_X0_retire G n a0 r3 h12) (fun _ h14 => ?_)
      refine zi_iload_n dX0_remove_48 rfl 0 rfl ?_
      exact zi_retI dX0_remove_49
    · refine zi_bipush (v := (-3)) dX0_remove_29 (by decide) ?_
      exact zi_retI dX0_remove_31
set_option maxRecDepth 20000 in
set_option maxHeartbeats 1000000 in
theorem k_X10_dropKey (G : zG) (n : Nat) (a0 : Nat) (a1 : Int32) (h : zH) : zMet G yX10_dropKey cX10_dropKey 2 (some .int) zvI 4 [.ref (zbase G + a0), .int a1] h (f_X10_dropKey n a0 a1 h) := by
  refine zMet_of (l := [(0, .ref (zbase G + a0)), (1, .int a1)]) (by decide) (Nat.le_of_ble_eq_true rfl) rfl ?_
  unfold f_X10_dropKey
  refine zi_iload_n dX10_dropKey_0 rfl 1 rfl ?_
  refine zi_if_lt (tgt := 10) dX10_dropKey_1 (by decide) ?_ ?_
  · refine zi_iconst (v := (-1)) dX10_dropKey_10 (by decide) ?_
    exact zi_retI dX10_dropKey_11
  · refine zi_iload_n dX10_dropKey_4 rfl 1 rfl ?_
    refine zi_bipush (v := 100) dX10_dropKey_5 (by decide) ?_
    refine zi_icmp_lt (tgt := 12) dX10_dropKey_7 (by decide) ?_ ?_
    · refine zi_aload_n dX10_dropKey_12 rfl 0 rfl ?_
      refine zi_getR dX10_dropKey_13 gf_X10_12 (fun v1 => ?_)
      refine zi_iload_n dX10_dropKey_16 rfl 1 rfl ?_
      refine zi_callVI (As := [.int a1]) (rest := []) (ci := 0) dX10_dropKey_17 ml_X10_103 md_X0_remove mv_X0_remove rfl (by decide) rfl rfl (Nat.le_of_ble_eq_true rfl) (Nat.le_of_ble_eq_true rfl) (k_X0_remove G n v1 a1 h) (fun r2 h3 => ?_)
      exact zi_retI dX10_dropKey_20
    · refine zi_iconst (v := (-1)) dX10_dropKey_10 (by decide) ?_
      exact zi_retI dX10_dropKey_11
set_option maxRecDepth 20000 in
set_option maxHeartbeats 1000000 in
theorem k_X10_act (G : zG) (n : Nat) (a0 : Nat) (a1 : Int32) (a2 : Int32) (a3 : Int32) (a4 : Nat) (h : zH) : zMet G yX10_act cX10_act 5 (some .int) zvI 6 [.ref (zbase G + a0), .int a1, .int a2, .int a3, .ref (zbase G + a4)] h (f_X10_act n a0 a1 a2 a3 a4 h) := by
  refine zMet_of (l := [(0, .ref (zbase G + a0)), (1, .int a1), (2, .int a2), (3, .int a3), (4, .ref (zbase G + a4))]) (by decide) (Nat.le_of_ble_eq_true rfl) rfl ?_
  unfold f_X10_act
  refine zi_iload_n dX10_act_0 rfl 1 rfl ?_
  refine zi_tsw (tgt := 102) _ dX10_act_1 rfl ?_ (by decide) ?_ ?_
  · intro j q hq
    match j, hq with
    | 0, hq => cases hq; exact ⟨rfl, _, rfl, rfl⟩
    | 1, hq => cases hq; exact ⟨rfl, _, rfl, rfl⟩
    | 2, hq => cases hq; exact ⟨rfl, _, rfl, rfl⟩
    | 3, hq => cases hq; exact ⟨rfl, _, rfl, rfl⟩
    | 4, hq => cases hq; exact ⟨rfl, _, rfl, rfl⟩
    | 5, hq => cases hq; exact ⟨rfl, _, rfl, rfl⟩
    | 6, hq => cases hq; exact ⟨rfl, _, rfl, rfl⟩
    | 7, hq => cases hq; exact ⟨rfl, _, rfl, rfl⟩
    | j + 8, hq => simp at hq
  · simp only [List.forall_mem_cons, List.not_mem_nil, false_implies, implies_true, and_true]
    refine ⟨?_, ?_, ?_, ?_, ?_, ?_, ?_, ?_⟩
    · refine zi_aload_n dX10_act_48 rfl 0 rfl ?_
      refine zi_iload_n dX10_act_49 rfl 2 rfl ?_
      refine zi_iload_n dX10_act_50 rfl 3 rfl ?_
      refine zi_aload dX10_act_51 4 rfl ?_
      refine zi_callVI (As := [.int a2, .int a3, .ref (zbase G + a4)]) (rest := []) (ci := 10) dX10_act_53 ml_X10_58 md_X10_putKey mv_X10_putKey rfl (by decide) rfl rfl (Nat.le_of_ble_eq_true rfl) (Nat.le_of_ble_eq_true rfl) (k_X10_putKey G n a0 a2 a3 a4 h) (fun r1 h2 => ?_)
      exact zi_retI dX10_act_56
    · refine zi_aload_n dX10_act_57 rfl 0 rfl ?_
      refine zi_iload_n dX10_act_58 rfl 2 rfl ?_
      refine zi_callVI (As := [.int a2]) (rest := []) (ci := 10) dX10_act_59 ml_X10_62 md_X10_dropKey mv_X10_dropKey rfl (by decide) rfl rfl (Nat.le_of_ble_eq_true rfl) (Nat.le_of_ble_eq_true rfl) (k_X10_dropKey G n a0 a2 h) (fun r3 h4 => ?_)
      exact zi_retI dX10_act_62
    · refine zi_aload_n dX10_act_63 rfl 0 rfl ?_
      refine zi_iload_n dX10_act_64 rfl 2 rfl ?_
      refine zi_callVI (As := [.int a2]) (rest := []) (ci := 10) dX10_act_65 ml_X10_66 md_X10_goIn mv_X10_goIn rfl (by decide) rfl rfl (Nat.le_of_ble_eq_true rfl) (Nat.le_of_ble_eq_true rfl) (k_X10_goIn G n a0 a2 h) (fun r5 h6 => ?_)
      exact zi_retI dX10_act_68
    · refine zi_aload_n dX10_act_69 rfl 0 rfl ?_
      refine zi_iload_n dX10_act_70 rfl 2 rfl ?_
      refine zi_callVI (As := [.int a2]) (rest := []) (ci := 10) dX10_act_71 ml_X10_69 md_X10_goOn mv_X10_goOn rfl (by decide) rfl rfl (Nat.le_of_ble_eq_true rfl) (Nat.le_of_ble_eq_true rfl) (k_X10_goOn G n a0 a2 h) (fun r7 h8 => ?_)
      exact zi_retI dX10_act_74
    · refine zi_aload_n dX10_act_75 rfl 0 rfl ?_
      refine zi_iload_n dX10_act_76 rfl 2 rfl ?_
      refine zi_callVI (As := [.int a2]) (rest := []) (ci := 10) dX10_act_77 ml_X10_72 md_X10_standStill mv_X10_standStill rfl (by decide) rfl rfl (Nat.le_of_ble_eq_true rfl) (Nat.le_of_ble_eq_true rfl) (k_X10_standStill G n a0 a2 h) (fun r9 h10 => ?_)
      exact zi_retI dX10_act_80
    · refine zi_aload_n dX10_act_81 rfl 0 rfl ?_
      refine zi_iload_n dX10_act_82 rfl 2 rfl ?_
      refine zi_aload dX10_act_83 4 rfl ?_
      refine zi_callVI (As := [.int a2, .ref (zbase G + a4)]) (rest := []) (ci := 10) dX10_act_85 ml_X10_75 md_X10_goOut mv_X10_goOut rfl (by decide) rfl rfl (Nat.le_of_ble_eq_true rfl) (Nat.le_of_ble_eq_true rfl) (k_X10_goOut G n a0 a2 a4 h) (fun r11 h12 => ?_)
      exact zi_retI dX10_act_88
    · refine zi_aload_n dX10_act_89 rfl 0 rfl ?_
      refine zi_iload_n dX10_act_90 rfl 2 rfl ?_
      refine zi_aload dX10_act_91 4 rfl ?_
      refine zi_callVI (As := [.int a2, .ref (zbase G + a4)]) (rest := []) (ci := 10) dX10_act_93 ml_X10_79 md_X10_beQuiet mv_X10_beQuiet rfl (by decide) rfl rfl (Nat.le_of_ble_eq_true rfl) (Nat.le_of_ble_eq_true rfl) (k_X10_beQuiet G n a0 a2 a4 h) (fun r13 h14 => ?_)
      exact zi_retI dX10_act_96
    · refine zi_aload_n dX10_act_97 rfl 0 rfl ?_
      refine zi_callVI (As := []) (rest := []) (ci := 10) dX10_act_98 ml_X10_82 md_X10_startGrace mv_X10_startGrace rfl (by decide) rfl rfl (Nat.le_of_ble_eq_true rfl) (Nat.le_of_ble_eq_true rfl) (k_X10_startGrace G n a0 h) (fun r15 h16 => ?_)
      exact zi_retI dX10_act_101
  · refine zi_bipush (v := (-3)) dX10_act_102 (by decide) ?_
    exact zi_retI dX10_act_104
set_option maxRecDepth 20000 in
set_option maxHeartbeats 1000000 in
theorem k_X2_commit (G : zG) (n : Nat) (a0 : Nat) (a1 : Int32) (h : zH) : zMet G yX2_commit cX2_commit 2 none zvU 3 [.ref (zbase G + a0), .int a1] h (f_X2_commit n a0 a1 h) := by
  refine zMet_of (l := [(0, .ref (zbase G + a0)), (1, .int a1)]) (by decide) (Nat.le_of_ble_eq_true rfl) rfl ?_
  unfold f_X2_commit
  refine zi_aload_n dX2_commit_0 rfl 0 rfl ?_
  refine zi_getR dX2_commit_1 gf_X2_17 (fun v1 => ?_)
  refine zi_aload_n dX2_commit_4 rfl 0 rfl ?_
  refine zi_aload_n dX2_commit_5 rfl 0 rfl ?_
  refine zi_getI dX2_commit_6 gf_X2_25 (fun v2 => ?_)
  refine zi_callVI (As := [.int v2]) (rest := [.ref (zbase G + v1)]) (ci := 2) dX2_commit_9 ml_X2_29 md_X2_slotOf mv_X2_slotOf rfl (by decide) rfl rfl (Nat.le_of_ble_eq_true rfl) (Nat.le_of_ble_eq_true rfl) (k_X2_slotOf G n a0 v2 h) (fun r3 h4 => ?_)
  refine zi_iload_n dX2_commit_12 rfl 1 rfl ?_
  refine zi_iast dX2_commit_13 (fun h5 => ?_)
  refine zi_aload_n dX2_commit_14 rfl 0 rfl ?_
  refine zi_getI dX2_commit_15 gf_X2_25 (fun v6 => ?_)
  refine zi_bipush (v := 16) dX2_commit_18 (by decide) ?_
  refine zi_icmp_ge (tgt := 36) dX2_commit_20 (by decide) ?_ ?_
  · refine zi_aload_n dX2_commit_36 rfl 0 rfl ?_
    refine zi_aload_n dX2_commit_37 rfl 0 rfl ?_
    refine zi_iconst (v := 1) dX2_commit_38 (by decide) ?_
    refine zi_callVI (As := [.int 1]) (rest := [.ref (zbase G + a0)]) (ci := 2) dX2_commit_39 ml_X2_29 md_X2_slotOf mv_X2_slotOf rfl (by decide) rfl rfl (Nat.le_of_ble_eq_true rfl) (Nat.le_of_ble_eq_true rfl) (k_X2_slotOf G n a0 1 h5) (fun r7 h8 => ?_)
    refine zi_putI dX2_commit_42 gf_X2_21 (fun h9 => ?_)
    exact zi_retV dX2_commit_45
  · refine zi_aload_n dX2_commit_23 rfl 0 rfl ?_
    refine zi_dup dX2_commit_24 rfl ?_
    refine zi_getI dX2_commit_25 gf_X2_25 (fun v10 => ?_)
    refine zi_iconst (v := 1) dX2_commit_28 (by decide) ?_
    refine zi_iadd dX2_commit_29 ?_
    refine zi_putI dX2_commit_30 gf_X2_25 (fun h11 => ?_)
    refine zi_goto (tgt := 45) dX2_commit_33 (by decide) ?_
    exact zi_retV dX2_commit_45
set_option maxRecDepth 20000 in
set_option maxHeartbeats 1000000 in
theorem wb_X11_runClause_180 (G : zG) (n : Nat) (k18 : Nat → Nat → Int32 → Int32 → Int32 → Int32 → zH → Option (Int32 × zH)) (hk18 : ∀ (l0 : Nat) (l1 : Nat) (l2 : Int32) (l3 : Int32) (l4 : Int32) (l5 : Int32) (h : zH), zW G yX11_runClause cX11_runClause 9 (some .boolean) zvI 7 18 [(0, .ref (zbase G + l0)), (1, .ref (zbase G + l1)), (2, .int l2), (3, .int l3), (4, .int l4), (5, .int l5)] [] h (k18 l0 l1 l2 l3 l4 l5 h)) (l0 : Nat) (l1 : Nat) (l2 : Int32) (l3 : Int32) (l4 : Int32) (l5 : Int32) (h : zH) : zW G yX11_runClause cX11_runClause 9 (some .boolean) zvI 7 180 [(0, .ref (zbase G + l0)), (1, .ref (zbase G + l1)), (2, .int l2), (3, .int l3), (4, .int l4), (5, .int l5)] [] h (fb_X11_runClause_180 n k18 l0 l1 l2 l3 l4 l5 h) := by
  unfold fb_X11_runClause_180
  refine zi_iinc (j := 5) (v := l5 + 1) (l' := [(5, .int (l5 + 1)), (0, .ref (zbase G + l0)), (1, .ref (zbase G + l1)), (2, .int l2), (3, .int l3), (4, .int l4)]) dX11_runClause_180 rfl rfl (by decide) rfl ?_
  refine zi_goto (tgt := 18) dX11_runClause_183 (by decide) ?_
  refine zi_sub [1, 2, 3, 4, 5, 0] rfl ?_
  exact hk18 l0 l1 l2 l3 l4 (l5 + 1) h
set_option maxRecDepth 20000 in
set_option maxHeartbeats 1000000 in
theorem wb_X11_runClause_18 (G : zG) (n : Nat) (k18 : Nat → Nat → Int32 → Int32 → Int32 → Int32 → zH → Option (Int32 × zH)) (hk18 : ∀ (l0 : Nat) (l1 : Nat) (l2 : Int32) (l3 : Int32) (l4 : Int32) (l5 : Int32) (h : zH), zW G yX11_runClause cX11_runClause 9 (some .boolean) zvI 7 18 [(0, .ref (zbase G + l0)), (1, .ref (zbase G + l1)), (2, .int l2), (3, .int l3), (4, .int l4), (5, .int l5)] [] h (k18 l0 l1 l2 l3 l4 l5 h)) (l0 : Nat) (l1 : Nat) (l2 : Int32) (l3 : Int32) (l4 : Int32) (l5 : Int32) (h : zH) : zW G yX11_runClause cX11_runClause 9 (some .boolean) zvI 7 18 [(0, .ref (zbase G + l0)), (1, .ref (zbase G + l1)), (2, .int l2), (3, .int l3), (4, .int l4), (5, .int l5)] [] h (fb_X11_runClause_18 n k18 l0 l1 l2 l3 l4 l5 h) := by
  unfold fb_X11_runClause_18
  refine zi_iload dX11_runClause_18 5 rfl ?_
  refine zi_iload_n dX11_runClause_20 rfl 3 rfl ?_
  refine zi_icmp_ge (tgt := 186) dX11_runClause_21 (by decide) ?_ ?_
  · refine zi_iconst (v := 1) dX11_runClause_186 (by decide) ?_
    exact zi_ret1 dX11_runClause_187
  · refine zi_aload_n dX11_runClause_24 rfl 0 rfl ?_
    refine zi_callVU (As := []) (rest := []) (ci := 11) dX11_runClause_25 ml_X11_398 md_X11_tellOrderWords mv_X11_tellOrderWords rfl (by decide) rfl rfl (Nat.le_of_ble_eq_true rfl) (Nat.le_of_ble_eq_true rfl) (k_X11_tellOrderWords G n l0 h) (fun _ h2 => ?_)
    refine zi_aload_n dX11_runClause_28 rfl 0 rfl ?_
    refine zi_getR dX11_runClause_29 gf_X11_22 (fun v3 => ?_)
    refine zi_aload_n dX11_runClause_32 rfl 1 rfl ?_
    refine zi_aload_n dX11_runClause_33 rfl 1 rfl ?_
    refine zi_iload_n dX11_runClause_34 rfl 2 rfl ?_
    refine zi_iconst (v := 4) dX11_runClause_35 (by decide) ?_
    refine zi_callVI (As := [.int l2, .int 4]) (rest := [.ref (zbase G + l1), .ref (zbase G + v3)]) (ci := 8) dX11_runClause_36 ml_X11_395 md_X8_entry mv_X8_entry rfl (by decide) rfl rfl (Nat.le_of_ble_eq_true rfl) (Nat.le_of_ble_eq_true rfl) (k_X8_entry G n l1 l2 4 h2) (fun r4 h5 => ?_)
    refine zi_callVI (As := [.ref (zbase G + l1), .int r4]) (rest := []) (ci := 4) dX11_runClause_39 ml_X11_401 md_X4_runs mv_X4_runs rfl (by decide) rfl rfl (Nat.le_of_ble_eq_true rfl) (Nat.le_of_ble_eq_true rfl) (k_X4_runs G n v3 l1 r4 h5) (fun r6 h7 => ?_)
    refine zi_if_eq (tgt := 180) dX11_runClause_42 (by decide) ?_ ?_
    · refine zi_sub [0, 1, 2, 3, 4, 5] rfl ?_
      exact wb_X11_runClause_180 G n k18 hk18 l0 l1 l2 l3 l4 l5 h7
    · refine zi_aload_n dX11_runClause_45 rfl 0 rfl ?_
      refine zi_getR dX11_runClause_46 gf_X11_22 (fun v8 => ?_)
      refine zi_getL dX11_runClause_49 gf_X11_403 (fun v9 => ?_)
      refine zi_lconst (v := 0) dX11_runClause_52 (by decide) ?_
      refine zi_lcmp dX11_runClause_53 ?_
      refine zi_if_ne (tgt := 60) dX11_runClause_54 (by decide) ?_ ?_
      · refine zi_aload_n dX11_runClause_60 rfl 0 rfl ?_
        refine zi_getR dX11_runClause_61 gf_X11_22 (fun v10 => ?_)
        refine zi_aload_n dX11_runClause_64 rfl 1 rfl ?_
        refine zi_aload_n dX11_runClause_65 rfl 1 rfl ?_
        refine zi_iload_n dX11_runClause_66 rfl 2 rfl ?_
        refine zi_iconst (v := 1) dX11_runClause_67 (by decide) ?_
        refine zi_callVI (As := [.int l2, .int 1]) (rest := [.ref (zbase G + l1), .ref (zbase G + v10)]) (ci := 8) dX11_runClause_68 ml_X11_395 md_X8_entry mv_X8_entry rfl (by decide) rfl rfl (Nat.le_of_ble_eq_true rfl) (Nat.le_of_ble_eq_true rfl) (k_X8_entry G n l1 l2 1 h7) (fun r11 h12 => ?_)
        refine zi_callVI (As := [.ref (zbase G + l1), .int r11]) (rest := []) (ci := 4) dX11_runClause_71 ml_X11_401 md_X4_runs mv_X4_runs rfl (by decide) rfl rfl (Nat.le_of_ble_eq_true rfl) (Nat.le_of_ble_eq_true rfl) (k_X4_runs G n v10 l1 r11 h12) (fun r13 h14 => ?_)
        refine zi_if_ne (tgt := 79) dX11_runClause_74 (by decide) ?_ ?_
        · refine zi_aload_n dX11_runClause_79 rfl 0 rfl ?_
          refine zi_getR dX11_runClause_80 gf_X11_22 (fun v15 => ?_)
          refine zi_getL dX11_runClause_83 gf_X11_403 (fun v16 => ?_)
          refine zi_l2i dX11_runClause_86 ?_
          refine zi_let (sf := fun x17 => .int x17 :: []) (fun x17 => ?_)
          refine zi_istore (l' := [(6, .int x17), (0, .ref (zbase G + l0)), (1, .ref (zbase G + l1)), (2, .int l2), (3, .int l3), (4, .int l4), (5, .int l5)]) dX11_runClause_87 (by decide) rfl ?_
          refine zi_aload_n dX11_runClause_89 rfl 1 rfl ?_
          refine zi_getR dX11_runClause_90 gf_X11_22 (fun v18 => ?_)
          refine zi_aload_n dX11_runClause_93 rfl 2 rfl ?_
          refine zi_aload_n dX11_runClause_94 rfl 2 rfl ?_
          refine zi_iload_n dX11_runClause_95 rfl 3 rfl ?_
          refine zi_iconst (v := 2) dX11_runClause_96 (by decide) ?_
          refine zi_callVI (As := [.int l2, .int 2]) (rest := [.ref (zbase G + l1), .ref (zbase G + v18)]) (ci := 8) dX11_runClause_97 ml_X11_395 md_X8_entry mv_X8_entry rfl (by decide) rfl rfl (Nat.le_of_ble_eq_true rfl) (Nat.le_of_ble_eq_true rfl) (k_X8_entry G n l1 l2 2 h14) (fun r19 h20 => ?_)
          refine zi_callVI (As := [.ref (zbase G + l1), .int r19]) (rest := []) (ci := 4) dX11_runClause_100 ml_X11_401 md_X4_runs mv_X4_runs rfl (by decide) rfl rfl (Nat.le_of_ble_eq_true rfl) (Nat.le_of_ble_eq_true rfl) (k_X4_runs G n v18 l1 r19 h20) (fun r21 h22 => ?_)
          refine zi_if_ne (tgt := 108) dX11_runClause_103 (by decide) ?_ ?_
          · refine zi_aload_n dX11_runClause_108 rfl 1 rfl ?_
            refine zi_getR dX11_runClause_109 gf_X11_22 (fun v23 => ?_)
            refine zi_getL dX11_runClause_112 gf_X11_403 (fun v24 => ?_)
            refine zi_l2i dX11_runClause_115 ?_
            refine zi_let (sf := fun x25 => .int x25 :: []) (fun x25 => ?_)
            refine zi_istore (l' := [(7, .int x25), (6, .int x17), (0, .ref (zbase G + l0)), (1, .ref (zbase G + l1)), (2, .int l2), (3, .int l3), (4, .int l4), (5, .int l5)]) dX11_runClause_116 (by decide) rfl ?_
            refine zi_aload_n dX11_runClause_118 rfl 2 rfl ?_
            refine zi_getR dX11_runClause_119 gf_X11_45 (fun v26 => ?_)
            refine zi_aload_n dX11_runClause_122 rfl 2 rfl ?_
            refine zi_getR dX11_runClause_123 gf_X11_10 (fun v27 => ?_)
            refine zi_callVU (As := [.ref (zbase G + v27)]) (rest := []) (ci := 2) dX11_runClause_126 ml_X11_268 md_X2_prepare mv_X2_prepare rfl (by decide) rfl rfl (Nat.le_of_ble_eq_true rfl) (Nat.le_of_ble_eq_true rfl) (k_X2_prepare G n v26 v27 h22) (fun _ h29 => ?_)
            refine zi_aload_n dX11_runClause_129 rfl 2 rfl ?_
            refine zi_getR dX11_runClause_130 gf_X11_10 (fun v30 => ?_)
            refine zi_iload dX11_runClause_133 6 rfl ?_
            refine zi_iload dX11_runClause_135 1 rfl ?_
            refine zi_iload dX11_runClause_137 0 rfl ?_
            refine zi_aload_n dX11_runClause_139 rfl 2 rfl ?_
            refine zi_getR dX11_runClause_140 gf_X11_31 (fun v31 => ?_)
            refine zi_callVI (As := [.int l4, .int x17, .int x25, .ref (zbase G + v31)]) (rest := []) (ci := 10) dX11_runClause_143 ml_X11_353 md_X10_act mv_X10_act rfl (by decide) rfl rfl (Nat.le_of_ble_eq_true rfl) (Nat.le_of_ble_eq_true rfl) (k_X10_act G n v30 l4 x17 x25 v31 h29) (fun r32 h33 => ?_)
            refine zi_istore (l' := [(8, .int r32), (7, .int x25), (6, .int x17), (0, .ref (zbase G + l0)), (1, .ref (zbase G + l1)), (2, .int l2), (3, .int l3), (4, .int l4), (5, .int l5)]) dX11_runClause_146 (by decide) rfl ?_
            refine zi_iload dX11_runClause_148 0 rfl ?_
            refine zi_if_ge (tgt := 155) dX11_runClause_150 (by decide) ?_ ?_
            · refine zi_aload_n dX11_runClause_155 rfl 3 rfl ?_
              refine zi_getR dX11_runClause_156 gf_X11_45 (fun v34 => ?_)
              refine zi_iload dX11_runClause_159 7 rfl ?_
              refine zi_callVU (As := [.int l4]) (rest := []) (ci := 2) dX11_runClause_161 ml_X11_392 md_X2_commit mv_X2_commit rfl (by decide) rfl rfl (Nat.le_of_ble_eq_true rfl) (Nat.le_of_ble_eq_true rfl) (k_X2_commit G n v34 l4 h33) (fun _ h36 => ?_)
              refine zi_aload_n dX11_runClause_164 rfl 3 rfl ?_
              refine zi_dup dX11_runClause_165 rfl ?_
              refine zi_getI dX11_runClause_166 gf_X11_97 (fun v37 => ?_)
              refine zi_iconst (v := 1) dX11_runClause_169 (by decide) ?_
              refine zi_iadd dX11_runClause_170 ?_
              refine zi_putI dX11_runClause_171 gf_X11_97 (fun h38 => ?_)
              refine zi_aload_n dX11_runClause_174 rfl 3 rfl ?_
              refine zi_iload dX11_runClause_175 0 rfl ?_
              refine zi_putI dX11_runClause_177 gf_X11_100 (fun h39 => ?_)
              refine zi_sub [3, 4, 5, 6, 7, 8] rfl ?_
              exact wb_X11_runClause_180 G n k18 hk18 l0 l1 l2 l3 l4 l5 h39
            · refine zi_iconst (v := 0) dX11_runClause_153 (by decide) ?_
              exact zi_ret0 dX11_runClause_154
          · refine zi_iconst (v := 0) dX11_runClause_106 (by decide) ?_
            exact zi_ret0 dX11_runClause_107
        · refine zi_iconst (v := 0) dX11_runClause_77 (by decide) ?_
          exact zi_ret0 dX11_runClause_78
      · refine zi_goto (tgt := 180) dX11_runClause_57 (by decide) ?_
        refine zi_sub [0, 1, 2, 3, 4, 5] rfl ?_
        exact wb_X11_runClause_180 G n k18 hk18 l0 l1 l2 l3 l4 l5 h7
theorem wl_X11_runClause_18 (G : zG) (n : Nat) : ∀ (t : Nat) (l0 : Nat) (l1 : Nat) (l2 : Int32) (l3 : Int32) (l4 : Int32) (l5 : Int32) (h : zH), zW G yX11_runClause cX11_runClause 9 (some .boolean) zvI 7 18 [(0, .ref (zbase G + l0)), (1, .ref (zbase G + l1)), (2, .int l2), (3, .int l3), (4, .int l4), (5, .int l5)] [] h (zlp6 (fb_X11_runClause_18 n ) t l0 l1 l2 l3 l4 l5 h) := by
  intro t
  induction t with
  | zero => intros; exact zW_none
  | succ t ih => intro l0 l1 l2 l3 l4 l5 h; rw [zlp6_s]; exact wb_X11_runClause_18 G n  _  ih l0 l1 l2 l3 l4 l5 h
set_option maxRecDepth 20000 in
set_option maxHeartbeats 1000000 in
theorem k_X11_runClause (G : zG) (n : Nat) (a0 : Nat) (a1 : Nat) (a2 : Int32) (h : zH) : zMet G yX11_runClause cX11_runClause 9 (some .boolean) zvI 7 [.ref (zbase G + a0), .ref (zbase G + a1), .int a2] h (f_X11_runClause n a0 a1 a2 h) := by
  refine zMet_of (l := [(0, .ref (zbase G + a0)), (1, .ref (zbase G + a1)), (2, .int a2)]) (by decide) (Nat.le_of_ble_eq_true rfl) rfl ?_
  unfold f_X11_runClause
  refine zi_aload_n dX11_runClause_0 rfl 1 rfl ?_
  refine zi_iload_n dX11_runClause_1 rfl 2 rfl ?_
  refine zi_iconst (v := 3) dX11_runClause_2 (by decide) ?_
  refine zi_callVI (As := [.int a2, .int 3]) (rest := []) (ci := 8) dX11_runClause_3 ml_X11_395 md_X8_entry mv_X8_entry rfl (by decide) rfl rfl (Nat.le_of_ble_eq_true rfl) (Nat.le_of_ble_eq_true rfl) (k_X8_entry G n a1 a2 3 h) (fun r1 h2 => ?_)
  refine zi_istore_n (l' := [(3, .int r1), (0, .ref (zbase G + a0)), (1, .ref (zbase G + a1)), (2, .int a2)]) dX11_runClause_6 rfl (by decide) rfl ?_
  refine zi_aload_n dX11_runClause_7 rfl 2 rfl ?_
  refine zi_iload_n dX11_runClause_8 rfl 3 rfl ?_
  refine zi_iconst (v := 0) dX11_runClause_9 (by decide) ?_
  refine zi_callVI (As := [.int a2, .int 0]) (rest := []) (ci := 8) dX11_runClause_10 ml_X11_395 md_X8_entry mv_X8_entry rfl (by decide) rfl rfl (Nat.le_of_ble_eq_true rfl) (Nat.le_of_ble_eq_true rfl) (k_X8_entry G n a1 a2 0 h2) (fun r3 h4 => ?_)
  refine zi_istore (l' := [(4, .int r3), (3, .int r1), (0, .ref (zbase G + a0)), (1, .ref (zbase G + a1)), (2, .int a2)]) dX11_runClause_13 (by decide) rfl ?_
  refine zi_iconst (v := 0) dX11_runClause_15 (by decide) ?_
  refine zi_istore (l' := [(5, .int 0), (4, .int r3), (3, .int r1), (0, .ref (zbase G + a0)), (1, .ref (zbase G + a1)), (2, .int a2)]) dX11_runClause_16 (by decide) rfl ?_
  refine zi_sub [3, 4, 5, 2, 1, 0] rfl ?_
  exact wl_X11_runClause_18 G n n a0 a1 a2 r1 r3 0 h4
set_option maxRecDepth 20000 in
set_option maxHeartbeats 1000000 in
theorem wb_X11_orders_151 (G : zG) (n : Nat) (l0 : Nat) (h : zH) : zW G yX11_orders cX11_orders 3 (some .int) zvI 52 151 [(0, .ref (zbase G + l0))] [] h (fb_X11_orders_151 n l0 h) := by
  unfold fb_X11_orders_151
  refine zi_aload_n dX11_orders_151 rfl 0 rfl ?_
  refine zi_aload_n dX11_orders_152 rfl 0 rfl ?_
  refine zi_getI dX11_orders_153 gf_X11_97 (fun v1 => ?_)
  refine zi_callVI (As := [.int v1]) (rest := []) (ci := 11) dX11_orders_156 ml_X11_192 md_X11_told mv_X11_told rfl (by decide) rfl rfl (Nat.le_of_ble_eq_true rfl) (Nat.le_of_ble_eq_true rfl) (k_X11_told G n l0 v1 h) (fun r2 h3 => ?_)
  exact zi_retI dX11_orders_159
set_option maxRecDepth 20000 in
set_option maxHeartbeats 1000000 in
theorem wb_X11_orders_111 (G : zG) (n : Nat) (l0 : Nat) (l2 : Int32) (h : zH) : zW G yX11_orders cX11_orders 3 (some .int) zvI 52 111 [(0, .ref (zbase G + l0)), (2, .int l2)] [] h (fb_X11_orders_111 n l0 l2 h) := by
  unfold fb_X11_orders_111
  refine zi_aload_n dX11_orders_111 rfl 0 rfl ?_
  refine zi_getR dX11_orders_112 gf_X11_10 (fun v1 => ?_)
  refine zi_aload_n dX11_orders_115 rfl 0 rfl ?_
  refine zi_getR dX11_orders_116 gf_X11_16 (fun v2 => ?_)
  refine zi_callVU (As := [.ref (zbase G + v2)]) (rest := []) (ci := 10) dX11_orders_119 ml_X11_248 md_X10_copyFrom mv_X10_copyFrom rfl (by decide) rfl rfl (Nat.le_of_ble_eq_true rfl) (Nat.le_of_ble_eq_true rfl) (k_X10_copyFrom G n v1 v2 h) (fun _ h4 => ?_)
  refine zi_aload_n dX11_orders_122 rfl 0 rfl ?_
  refine zi_getR dX11_orders_123 gf_X11_45 (fun v5 => ?_)
  refine zi_aload_n dX11_orders_126 rfl 0 rfl ?_
  refine zi_getR dX11_orders_127 gf_X11_49 (fun v6 => ?_)
  refine zi_callVU (As := [.ref (zbase G + v6)]) (rest := []) (ci := 2) dX11_orders_130 ml_X11_252 md_X2_copyFrom mv_X2_copyFrom rfl (by decide) rfl rfl (Nat.le_of_ble_eq_true rfl) (Nat.le_of_ble_eq_true rfl) (k_X2_copyFrom G n v5 v6 h4) (fun _ h8 => ?_)
  refine zi_aload_n dX11_orders_133 rfl 0 rfl ?_
  refine zi_iload_n dX11_orders_134 rfl 1 rfl ?_
  refine zi_putI dX11_orders_135 gf_X11_94 (fun h9 => ?_)
  refine zi_aload_n dX11_orders_138 rfl 0 rfl ?_
  refine zi_bipush (v := (-3)) dX11_orders_139 (by decide) ?_
  refine zi_callVI (As := [.int (-3)]) (rest := []) (ci := 11) dX11_orders_141 ml_X11_192 md_X11_told mv_X11_told rfl (by decide) rfl rfl (Nat.le_of_ble_eq_true rfl) (Nat.le_of_ble_eq_true rfl) (k_X11_told G n l0 (-3) h9) (fun r10 h11 => ?_)
  exact zi_retI dX11_orders_144
set_option maxRecDepth 20000 in
set_option maxHeartbeats 1000000 in
theorem wb_X11_orders_82 (G : zG) (n : Nat) (k82 : Nat → Int32 → zH → Option (Int32 × zH)) (hk82 : ∀ (l0 : Nat) (l2 : Int32) (h : zH), zW G yX11_orders cX11_orders 3 (some .int) zvI 52 82 [(0, .ref (zbase G + l0)), (2, .int l2)] [] h (k82 l0 l2 h)) (l0 : Nat) (l2 : Int32) (h : zH) : zW G yX11_orders cX11_orders 3 (some .int) zvI 52 82 [(0, .ref (zbase G + l0)), (2, .int l2)] [] h (fb_X11_orders_82 n k82 l0 l2 h) := by
  unfold fb_X11_orders_82
  refine zi_iload_n dX11_orders_82 rfl 1 rfl ?_
  refine zi_aload_n dX11_orders_83 rfl 0 rfl ?_
  refine zi_getR dX11_orders_84 gf_X11_72 (fun v1 => ?_)
  refine zi_getR dX11_orders_87 gf_X11_234 (fun v2 => ?_)
  refine zi_getI dX11_orders_90 gf_X11_255 (fun v3 => ?_)
  refine zi_icmp_ge (tgt := 151) dX11_orders_93 (by decide) ?_ ?_
  · refine zi_sub [0] rfl ?_
    exact wb_X11_orders_151 G n l0 h
  · refine zi_aload_n dX11_orders_96 rfl 0 rfl ?_
    refine zi_aload_n dX11_orders_97 rfl 0 rfl ?_
    refine zi_getR dX11_orders_98 gf_X11_72 (fun v4 => ?_)
    refine zi_getR dX11_orders_101 gf_X11_234 (fun v5 => ?_)
    refine zi_iload_n dX11_orders_104 rfl 1 rfl ?_
    refine zi_callVI (As := [.ref (zbase G + v5), .int l2]) (rest := []) (ci := 11) dX11_orders_105 ml_X11_258 md_X11_runClause mv_X11_runClause rfl (by decide) rfl rfl (Nat.le_of_ble_eq_true rfl) (Nat.le_of_ble_eq_true rfl) (k_X11_runClause G n l0 v5 l2 h) (fun r6 h7 => ?_)
    refine zi_if_ne (tgt := 145) dX11_orders_108 (by decide) ?_ ?_
    · refine zi_iinc (j := 1) (v := l2 + 1) (l' := [(2, .int (l2 + 1)), (0, .ref (zbase G + l0))]) dX11_orders_145 rfl rfl (by decide) rfl ?_
      refine zi_goto (tgt := 82) dX11_orders_148 (by decide) ?_
      refine zi_sub [1, 0] rfl ?_
      exact hk82 l0 (l2 + 1) h7
    · refine zi_sub [0, 1] rfl ?_
      exact wb_X11_orders_111 G n l0 l2 h7
theorem wl_X11_orders_82 (G : zG) (n : Nat) : ∀ (t : Nat) (l0 : Nat) (l2 : Int32) (h : zH), zW G yX11_orders cX11_orders 3 (some .int) zvI 52 82 [(0, .ref (zbase G + l0)), (2, .int l2)] [] h (zlp2 (fb_X11_orders_82 n ) t l0 l2 h) := by
  intro t
  induction t with
  | zero => intros; exact zW_none
  | succ t ih => intro l0 l2 h; rw [zlp2_s]; exact wb_X11_orders_82 G n  _  ih l0 l2 h
set_option maxRecDepth 20000 in
set_option maxHeartbeats 1000000 in
theorem k_X11_orders (G : zG) (n : Nat) (a0 : Nat) (h : zH) : zMet G yX11_orders cX11_orders 3 (some .int) zvI 52 [.ref (zbase G + a0)] h (f_X11_orders n a0 h) := by
  refine zMet_of (l := [(0, .ref (zbase G + a0))]) (by decide) (Nat.le_of_ble_eq_true rfl) rfl ?_
  unfold f_X11_orders
  refine zi_aload_n dX11_orders_0 rfl 0 rfl ?_
  refine zi_getR dX11_orders_1 gf_X11_72 (fun v1 => ?_)
  refine zi_aload_n dX11_orders_4 rfl 0 rfl ?_
  refine zi_getR dX11_orders_5 gf_X11_65 (fun v2 => ?_)
  refine zi_iconst (v := 1) dX11_orders_8 (by decide) ?_
  refine zi_callVI (As := [.ref (zbase G + v2), .int 1]) (rest := []) (ci := 5) dX11_orders_9 ml_X11_227 md_X5_reads mv_X5_reads rfl (by decide) rfl rfl (Nat.le_of_ble_eq_true rfl) (Nat.le_of_ble_eq_true rfl) (k_X5_reads G n v1 v2 1 h) (fun r3 h4 => ?_)
  refine zi_istore_n (l' := [(1, .int r3), (0, .ref (zbase G + a0))]) dX11_orders_12 rfl (by decide) rfl ?_
  refine zi_aload_n dX11_orders_13 rfl 1 rfl ?_
  refine zi_getR dX11_orders_14 gf_X11_65 (fun v5 => ?_)
  refine zi_iconst (v := 0) dX11_orders_17 (by decide) ?_
  refine zi_putI dX11_orders_18 gf_X11_210 (fun h6 => ?_)
  refine zi_aload_n dX11_orders_21 rfl 1 rfl ?_
  refine zi_aload_n dX11_orders_22 rfl 1 rfl ?_
  refine zi_getR dX11_orders_23 gf_X11_72 (fun v7 => ?_)
  refine zi_getI dX11_orders_26 gf_X11_231 (fun v8 => ?_)
  refine zi_putI dX11_orders_29 gf_X11_91 (fun h9 => ?_)
  refine zi_aload_n dX11_orders_32 rfl 1 rfl ?_
  refine zi_iconst (v := (-1)) dX11_orders_33 (by decide) ?_
  refine zi_putI dX11_orders_34 gf_X11_94 (fun h10 => ?_)
  refine zi_iload_n dX11_orders_37 rfl 0 rfl ?_
  refine zi_if_ne (tgt := 48) dX11_orders_38 (by decide) ?_ ?_
  · refine zi_aload_n dX11_orders_48 rfl 1 rfl ?_
    refine zi_getR dX11_orders_49 gf_X11_16 (fun v11 => ?_)
    refine zi_aload_n dX11_orders_52 rfl 1 rfl ?_
    refine zi_getR dX11_orders_53 gf_X11_10 (fun v12 => ?_)
    refine zi_callVU (As := [.ref (zbase G + v12)]) (rest := []) (ci := 10) dX11_orders_56 ml_X11_248 md_X10_copyFrom mv_X10_copyFrom rfl (by decide) rfl rfl (Nat.le_of_ble_eq_true rfl) (Nat.le_of_ble_eq_true rfl) (k_X10_copyFrom G n v11 v12 h10) (fun _ h14 => ?_)
    refine zi_aload_n dX11_orders_59 rfl 1 rfl ?_
    refine zi_getR dX11_orders_60 gf_X11_49 (fun v15 => ?_)
    refine zi_aload_n dX11_orders_63 rfl 1 rfl ?_
    refine zi_getR dX11_orders_64 gf_X11_45 (fun v16 => ?_)
    refine zi_callVU (As := [.ref (zbase G + v16)]) (rest := []) (ci := 2) dX11_orders_67 ml_X11_252 md_X2_copyFrom mv_X2_copyFrom rfl (by decide) rfl rfl (Nat.le_of_ble_eq_true rfl) (Nat.le_of_ble_eq_true rfl) (k_X2_copyFrom G n v15 v16 h14) (fun _ h18 => ?_)
    refine zi_aload_n dX11_orders_70 rfl 1 rfl ?_
    refine zi_iconst (v := 0) dX11_orders_71 (by decide) ?_
    refine zi_putI dX11_orders_72 gf_X11_97 (fun h19 => ?_)
    refine zi_aload_n dX11_orders_75 rfl 1 rfl ?_
    refine zi_iconst (v := (-1)) dX11_orders_76 (by decide) ?_
    refine zi_putI dX11_orders_77 gf_X11_100 (fun h20 => ?_)
    refine zi_iconst (v := 0) dX11_orders_80 (by decide) ?_
    refine zi_istore_n (l' := [(2, .int 0), (1, .int r3), (0, .ref (zbase G + a0))]) dX11_orders_81 rfl (by decide) rfl ?_
    refine zi_sub [2, 0] rfl ?_
    exact wl_X11_orders_82 G n n a0 0 h20
  · refine zi_aload_n dX11_orders_41 rfl 1 rfl ?_
    refine zi_bipush (v := (-6)) dX11_orders_42 (by decide) ?_
    refine zi_callVI (As := [.int (-6)]) (rest := []) (ci := 11) dX11_orders_44 ml_X11_192 md_X11_told mv_X11_told rfl (by decide) rfl rfl (Nat.le_of_ble_eq_true rfl) (Nat.le_of_ble_eq_true rfl) (k_X11_told G n a0 (-6) h10) (fun r21 h22 => ?_)
    exact zi_retI dX11_orders_47
set_option maxRecDepth 20000 in
set_option maxHeartbeats 1000000 in
theorem k_X11_fault (G : zG) (n : Nat) (a0 : Nat) (h : zH) : zMet G yX11_fault cX11_fault 1 (some .int) zvI 1 [.ref (zbase G + a0)] h (f_X11_fault n a0 h) := by
  refine zMet_of (l := [(0, .ref (zbase G + a0))]) (by decide) (Nat.le_of_ble_eq_true rfl) rfl ?_
  unfold f_X11_fault
  refine zi_aload_n dX11_fault_0 rfl 0 rfl ?_
  refine zi_getI dX11_fault_1 gf_X11_91 (fun v1 => ?_)
  exact zi_retI dX11_fault_4
set_option maxRecDepth 20000 in
set_option maxHeartbeats 1000000 in
theorem k_X11_stopped (G : zG) (n : Nat) (a0 : Nat) (h : zH) : zMet G yX11_stopped cX11_stopped 1 (some .int) zvI 1 [.ref (zbase G + a0)] h (f_X11_stopped n a0 h) := by
  refine zMet_of (l := [(0, .ref (zbase G + a0))]) (by decide) (Nat.le_of_ble_eq_true rfl) rfl ?_
  unfold f_X11_stopped
  refine zi_aload_n dX11_stopped_0 rfl 0 rfl ?_
  refine zi_getI dX11_stopped_1 gf_X11_94 (fun v1 => ?_)
  exact zi_retI dX11_stopped_4
set_option maxRecDepth 20000 in
set_option maxHeartbeats 1000000 in
theorem k_X6_hasLaw (G : zG) (n : Nat) (a0 : Nat) (a1 : Int32) (h : zH) : zMet G yX6_hasLaw cX6_hasLaw 2 (some .boolean) zvI 1 [.ref (zbase G + a0), .int a1] h (f_X6_hasLaw n a0 a1 h) := by
  refine zMet_of (l := [(0, .ref (zbase G + a0)), (1, .int a1)]) (by decide) (Nat.le_of_ble_eq_true rfl) rfl ?_
  unfold f_X6_hasLaw
  refine zi_iload_n dX6_hasLaw_0 rfl 1 rfl ?_
  refine zi_if_lt (tgt := 22) dX6_hasLaw_1 (by decide) ?_ ?_
  · refine zi_iconst (v := 0) dX6_hasLaw_22 (by decide) ?_
    exact zi_ret0 dX6_hasLaw_23
  · refine zi_iload_n dX6_hasLaw_4 rfl 1 rfl ?_
    refine zi_aload_n dX6_hasLaw_5 rfl 0 rfl ?_
    refine zi_getI dX6_hasLaw_6 gf_X6_17 (fun v1 => ?_)
    refine zi_icmp_ge (tgt := 22) dX6_hasLaw_9 (by decide) ?_ ?_
    · refine zi_iconst (v := 0) dX6_hasLaw_22 (by decide) ?_
      exact zi_ret0 dX6_hasLaw_23
    · refine zi_iload_n dX6_hasLaw_12 rfl 1 rfl ?_
      refine zi_bipush (v := 6) dX6_hasLaw_13 (by decide) ?_
      refine zi_icmp_ge (tgt := 22) dX6_hasLaw_15 (by decide) ?_ ?_
      · refine zi_iconst (v := 0) dX6_hasLaw_22 (by decide) ?_
        exact zi_ret0 dX6_hasLaw_23
      · refine zi_iconst (v := 1) dX6_hasLaw_18 (by decide) ?_
        refine zi_goto (tgt := 23) dX6_hasLaw_19 (by decide) ?_
        exact zi_ret1 dX6_hasLaw_23
set_option maxRecDepth 20000 in
set_option maxHeartbeats 1000000 in
theorem wb_X11_force_23 (G : zG) (n : Nat) (l0 : Nat) (l1 : Int32) (h : zH) : zW G yX11_force cX11_force 3 (some .int) zvI 3 23 [(0, .ref (zbase G + l0)), (1, .int l1)] [] h (fb_X11_force_23 n l0 l1 h) := by
  unfold fb_X11_force_23
  refine zi_aload_n dX11_force_23 rfl 0 rfl ?_
  refine zi_getR dX11_force_24 gf_X11_31 (fun v1 => ?_)
  refine zi_getI dX11_force_27 gf_X11_265 (fun v2 => ?_)
  refine zi_istore_n (l' := [(2, .int v2), (0, .ref (zbase G + l0)), (1, .int l1)]) dX11_force_30 rfl (by decide) rfl ?_
  refine zi_aload_n dX11_force_31 rfl 1 rfl ?_
  refine zi_getR dX11_force_32 gf_X11_31 (fun v3 => ?_)
  refine zi_iload_n dX11_force_35 rfl 2 rfl ?_
  refine zi_putI dX11_force_36 gf_X11_265 (fun h4 => ?_)
  refine zi_aload_n dX11_force_39 rfl 1 rfl ?_
  refine zi_iconst (v := 0) dX11_force_40 (by decide) ?_
  refine zi_putI dX11_force_41 gf_X11_103 (fun h5 => ?_)
  refine zi_iload_n dX11_force_44 rfl 0 rfl ?_
  exact zi_retI dX11_force_45
set_option maxRecDepth 20000 in
set_option maxHeartbeats 1000000 in
theorem k_X11_force (G : zG) (n : Nat) (a0 : Nat) (a1 : Int32) (h : zH) : zMet G yX11_force cX11_force 3 (some .int) zvI 3 [.ref (zbase G + a0), .int a1] h (f_X11_force n a0 a1 h) := by
  refine zMet_of (l := [(0, .ref (zbase G + a0)), (1, .int a1)]) (by decide) (Nat.le_of_ble_eq_true rfl) rfl ?_
  unfold f_X11_force
  refine zi_iload_n dX11_force_0 rfl 1 rfl ?_
  refine zi_iconst (v := (-1)) dX11_force_1 (by decide) ?_
  refine zi_icmp_eq (tgt := 23) dX11_force_2 (by decide) ?_ ?_
  · refine zi_sub [0, 1] rfl ?_
    exact wb_X11_force_23 G n a0 a1 h
  · refine zi_aload_n dX11_force_5 rfl 0 rfl ?_
    refine zi_getR dX11_force_6 gf_X11_31 (fun v1 => ?_)
    refine zi_iload_n dX11_force_9 rfl 1 rfl ?_
    refine zi_callVI (As := [.int a1]) (rest := []) (ci := 6) dX11_force_10 ml_X11_262 md_X6_hasLaw mv_X6_hasLaw rfl (by decide) rfl rfl (Nat.le_of_ble_eq_true rfl) (Nat.le_of_ble_eq_true rfl) (k_X6_hasLaw G n v1 a1 h) (fun r2 h3 => ?_)
    refine zi_if_ne (tgt := 23) dX11_force_13 (by decide) ?_ ?_
    · refine zi_sub [0, 1] rfl ?_
      exact wb_X11_force_23 G n a0 a1 h3
    · refine zi_aload_n dX11_force_16 rfl 0 rfl ?_
      refine zi_bipush (v := (-2)) dX11_force_17 (by decide) ?_
      refine zi_callVI (As := [.int (-2)]) (rest := []) (ci := 11) dX11_force_19 ml_X11_192 md_X11_told mv_X11_told rfl (by decide) rfl rfl (Nat.le_of_ble_eq_true rfl) (Nat.le_of_ble_eq_true rfl) (k_X11_told G n a0 (-2) h3) (fun r4 h5 => ?_)
      exact zi_retI dX11_force_22
set_option maxRecDepth 20000 in
set_option maxHeartbeats 1000000 in
theorem wb_X11_acted_12 (G : zG) (n : Nat) (l0 : Nat) (l2 : Int32) (h : zH) : zW G yX11_acted cX11_acted 3 (some .int) zvI 4 12 [(0, .ref (zbase G + l0)), (2, .int l2)] [] h (fb_X11_acted_12 n l0 l2 h) := by
  unfold fb_X11_acted_12
  refine zi_aload_n dX11_acted_12 rfl 0 rfl ?_
  refine zi_iload_n dX11_acted_13 rfl 1 rfl ?_
  refine zi_callVI (As := [.int l2]) (rest := []) (ci := 11) dX11_acted_14 ml_X11_192 md_X11_told mv_X11_told rfl (by decide) rfl rfl (Nat.le_of_ble_eq_true rfl) (Nat.le_of_ble_eq_true rfl) (k_X11_told G n l0 l2 h) (fun r1 h2 => ?_)
  exact zi_retI dX11_acted_17
set_option maxRecDepth 20000 in
set_option maxHeartbeats 1000000 in
theorem k_X11_acted (G : zG) (n : Nat) (a0 : Nat) (a1 : Int32) (a2 : Int32) (h : zH) : zMet G yX11_acted cX11_acted 3 (some .int) zvI 4 [.ref (zbase G + a0), .int a1, .int a2] h (f_X11_acted n a0 a1 a2 h) := by
  refine zMet_of (l := [(0, .ref (zbase G + a0)), (1, .int a1), (2, .int a2)]) (by decide) (Nat.le_of_ble_eq_true rfl) rfl ?_
  unfold f_X11_acted
  refine zi_iload_n dX11_acted_0 rfl 2 rfl ?_
  refine zi_if_lt (tgt := 12) dX11_acted_1 (by decide) ?_ ?_
  · refine zi_sub [0, 2] rfl ?_
    exact wb_X11_acted_12 G n a0 a2 h
  · refine zi_aload_n dX11_acted_4 rfl 0 rfl ?_
    refine zi_getR dX11_acted_5 gf_X11_45 (fun v1 => ?_)
    refine zi_iload_n dX11_acted_8 rfl 1 rfl ?_
    refine zi_callVU (As := [.int a1]) (rest := []) (ci := 2) dX11_acted_9 ml_X11_392 md_X2_commit mv_X2_commit rfl (by decide) rfl rfl (Nat.le_of_ble_eq_true rfl) (Nat.le_of_ble_eq_true rfl) (k_X2_commit G n v1 a1 h) (fun _ h3 => ?_)
    refine zi_sub [0, 2] rfl ?_
    exact wb_X11_acted_12 G n a0 a2 h3
set_option maxRecDepth 20000 in
set_option maxHeartbeats 1000000 in
theorem k_X11_put (G : zG) (n : Nat) (a0 : Nat) (a1 : Int32) (a2 : Int32) (h : zH) : zMet G yX11_put cX11_put 3 (some .int) zvI 5 [.ref (zbase G + a0), .int a1, .int a2] h (f_X11_put n a0 a1 a2 h) := by
  refine zMet_of (l := [(0, .ref (zbase G + a0)), (1, .int a1), (2, .int a2)]) (by decide) (Nat.le_of_ble_eq_true rfl) rfl ?_
  unfold f_X11_put
  refine zi_aload_n dX11_put_0 rfl 0 rfl ?_
  refine zi_getR dX11_put_1 gf_X11_45 (fun v1 => ?_)
  refine zi_aload_n dX11_put_4 rfl 0 rfl ?_
  refine zi_getR dX11_put_5 gf_X11_10 (fun v2 => ?_)
  refine zi_callVU (As := [.ref (zbase G + v2)]) (rest := []) (ci := 2) dX11_put_8 ml_X11_268 md_X2_prepare mv_X2_prepare rfl (by decide) rfl rfl (Nat.le_of_ble_eq_true rfl) (Nat.le_of_ble_eq_true rfl) (k_X2_prepare G n v1 v2 h) (fun _ h4 => ?_)
  refine zi_aload_n dX11_put_11 rfl 0 rfl ?_
  refine zi_iconst (v := 0) dX11_put_12 (by decide) ?_
  refine zi_aload_n dX11_put_13 rfl 0 rfl ?_
  refine zi_getR dX11_put_14 gf_X11_10 (fun v5 => ?_)
  refine zi_iload_n dX11_put_17 rfl 1 rfl ?_
  refine zi_iload_n dX11_put_18 rfl 2 rfl ?_
  refine zi_aload_n dX11_put_19 rfl 0 rfl ?_
  refine zi_getR dX11_put_20 gf_X11_31 (fun v6 => ?_)
  refine zi_callVI (As := [.int a1, .int a2, .ref (zbase G + v6)]) (rest := [.int 0, .ref (zbase G + a0)]) (ci := 10) dX11_put_23 ml_X11_220 md_X10_putKey mv_X10_putKey rfl (by decide) rfl rfl (Nat.le_of_ble_eq_true rfl) (Nat.le_of_ble_eq_true rfl) (k_X10_putKey G n v5 a1 a2 v6 h4) (fun r7 h8 => ?_)
  refine zi_callVI (As := [.int 0, .int r7]) (rest := []) (ci := 11) dX11_put_26 ml_X11_271 md_X11_acted mv_X11_acted rfl (by decide) rfl rfl (Nat.le_of_ble_eq_true rfl) (Nat.le_of_ble_eq_true rfl) (k_X11_acted G n a0 0 r7 h8) (fun r9 h10 => ?_)
  exact zi_retI dX11_put_29
set_option maxRecDepth 20000 in
set_option maxHeartbeats 1000000 in
theorem k_X11_drop (G : zG) (n : Nat) (a0 : Nat) (a1 : Int32) (h : zH) : zMet G yX11_drop cX11_drop 2 (some .int) zvI 5 [.ref (zbase G + a0), .int a1] h (f_X11_drop n a0 a1 h) := by
  refine zMet_of (l := [(0, .ref (zbase G + a0)), (1, .int a1)]) (by decide) (Nat.le_of_ble_eq_true rfl) rfl ?_
  unfold f_X11_drop
  refine zi_aload_n dX11_drop_0 rfl 0 rfl ?_
  refine zi_getR dX11_drop_1 gf_X11_45 (fun v1 => ?_)
  refine zi_aload_n dX11_drop_4 rfl 0 rfl ?_
  refine zi_getR dX11_drop_5 gf_X11_10 (fun v2 => ?_)
  refine zi_callVU (As := [.ref (zbase G + v2)]) (rest := []) (ci := 2) dX11_drop_8 ml_X11_268 md_X2_prepare mv_X2_prepare rfl (by decide) rfl rfl (Nat.le_of_ble_eq_true rfl) (Nat.le_of_ble_eq_true rfl) (k_X2_prepare G n v1 v2 h) (fun _ h4 => ?_)
  refine zi_aload_n dX11_drop_11 rfl 0 rfl ?_
  refine zi_iconst (v := 1) dX11_drop_12 (by decide) ?_
  refine zi_aload_n dX11_drop_13 rfl 0 rfl ?_
  refine zi_getR dX11_drop_14 gf_X11_10 (fun v5 => ?_)
  refine zi_iload_n dX11_drop_17 rfl 1 rfl ?_
  refine zi_callVI (As := [.int a1]) (rest := [.int 1, .ref (zbase G + a0)]) (ci := 10) dX11_drop_18 ml_X11_274 md_X10_dropKey mv_X10_dropKey rfl (by decide) rfl rfl (Nat.le_of_ble_eq_true rfl) (Nat.le_of_ble_eq_true rfl) (k_X10_dropKey G n v5 a1 h4) (fun r6 h7 => ?_)
  refine zi_callVI (As := [.int 1, .int r6]) (rest := []) (ci := 11) dX11_drop_21 ml_X11_271 md_X11_acted mv_X11_acted rfl (by decide) rfl rfl (Nat.le_of_ble_eq_true rfl) (Nat.le_of_ble_eq_true rfl) (k_X11_acted G n a0 1 r6 h7) (fun r8 h9 => ?_)
  exact zi_retI dX11_drop_24
set_option maxRecDepth 20000 in
set_option maxHeartbeats 1000000 in
theorem k_X11_enter (G : zG) (n : Nat) (a0 : Nat) (a1 : Int32) (h : zH) : zMet G yX11_enter cX11_enter 2 (some .int) zvI 5 [.ref (zbase G + a0), .int a1] h (f_X11_enter n a0 a1 h) := by
  refine zMet_of (l := [(0, .ref (zbase G + a0)), (1, .int a1)]) (by decide) (Nat.le_of_ble_eq_true rfl) rfl ?_
  unfold f_X11_enter
  refine zi_aload_n dX11_enter_0 rfl 0 rfl ?_
  refine zi_getR dX11_enter_1 gf_X11_45 (fun v1 => ?_)
  refine zi_aload_n dX11_enter_4 rfl 0 rfl ?_
  refine zi_getR dX11_enter_5 gf_X11_10 (fun v2 => ?_)
  refine zi_callVU (As := [.ref (zbase G + v2)]) (rest := []) (ci := 2) dX11_enter_8 ml_X11_268 md_X2_prepare mv_X2_prepare rfl (by decide) rfl rfl (Nat.le_of_ble_eq_true rfl) (Nat.le_of_ble_eq_true rfl) (k_X2_prepare G n v1 v2 h) (fun _ h4 => ?_)
  refine zi_aload_n dX11_enter_11 rfl 0 rfl ?_
  refine zi_iconst (v := 2) dX11_enter_12 (by decide) ?_
  refine zi_aload_n dX11_enter_13 rfl 0 rfl ?_
  refine zi_getR dX11_enter_14 gf_X11_10 (fun v5 => ?_)
  refine zi_iload_n dX11_enter_17 rfl 1 rfl ?_
  refine zi_callVI (As := [.int a1]) (rest := [.int 2, .ref (zbase G + a0)]) (ci := 10) dX11_enter_18 ml_X11_277 md_X10_goIn mv_X10_goIn rfl (by decide) rfl rfl (Nat.le_of_ble_eq_true rfl) (Nat.le_of_ble_eq_true rfl) (k_X10_goIn G n v5 a1 h4) (fun r6 h7 => ?_)
  refine zi_callVI (As := [.int 2, .int r6]) (rest := []) (ci := 11) dX11_enter_21 ml_X11_271 md_X11_acted mv_X11_acted rfl (by decide) rfl rfl (Nat.le_of_ble_eq_true rfl) (Nat.le_of_ble_eq_true rfl) (k_X11_acted G n a0 2 r6 h7) (fun r8 h9 => ?_)
  exact zi_retI dX11_enter_24
