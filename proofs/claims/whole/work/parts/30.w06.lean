set_option maxRecDepth 20000 in
set_option maxHeartbeats 1000000 in
theorem k_X12_cell (G : zG) (n : Nat) (a0 : Nat) (a1 : Int32) (a2 : Int32) (h : zH) : zMet G yX12_cell cX12_cell 3 (some .int) zvI 3 [.ref (zbase G + a0), .int a1, .int a2] h (f_X12_cell n a0 a1 a2 h) := by
  refine zMet_of (l := [(0, .ref (zbase G + a0)), (1, .int a1), (2, .int a2)]) (by decide) (Nat.le_of_ble_eq_true rfl) rfl ?_
  unfold f_X12_cell
  refine zi_iload_n dX12_cell_0 rfl 1 rfl ?_
  refine zi_callSI (As := [.int a1]) (rest := []) dX12_cell_1 ml_X12_115 md_X12_isCell ms_X12_isCell rfl rfl (Nat.le_of_ble_eq_true rfl) (Nat.le_of_ble_eq_true rfl) (k_X12_isCell G n a1 h) (fun r1 h2 => ?_)
  refine zi_if_ne (tgt := 9) dX12_cell_4 (by decide) ?_ ?_
  · refine zi_iload_n dX12_cell_9 rfl 2 rfl ?_
    refine zi_if_ne (tgt := 22) dX12_cell_10 (by decide) ?_ ?_
    · refine zi_aload_n dX12_cell_22 rfl 0 rfl ?_
      refine zi_getR dX12_cell_23 gf_X12_28 (fun v3 => ?_)
      refine zi_iconst (v := 0) dX12_cell_26 (by decide) ?_
      refine zi_iload_n dX12_cell_27 rfl 1 rfl ?_
      refine zi_iadd dX12_cell_28 ?_
      refine zi_iald dX12_cell_29 (fun v4 => ?_)
      refine zi_if_ne (tgt := 35) dX12_cell_30 (by decide) ?_ ?_
      · refine zi_iload_n dX12_cell_35 rfl 2 rfl ?_
        refine zi_tsw (tgt := 94) _ dX12_cell_36 rfl ?_ (by decide) ?_ ?_
        · intro j q hq
          match j, hq with
          | 0, hq => cases hq; exact ⟨rfl, _, rfl, rfl⟩
          | 1, hq => cases hq; exact ⟨rfl, _, rfl, rfl⟩
          | 2, hq => cases hq; exact ⟨rfl, _, rfl, rfl⟩
          | j + 3, hq => simp at hq
        · simp only [List.forall_mem_cons, List.not_mem_nil, false_implies, implies_true, and_true]
          refine ⟨?_, ?_, ?_⟩
          · refine zi_aload_n dX12_cell_64 rfl 0 rfl ?_
            refine zi_getR dX12_cell_65 gf_X12_28 (fun v5 => ?_)
            refine zi_bipush (v := 24) dX12_cell_68 (by decide) ?_
            refine zi_iload_n dX12_cell_70 rfl 1 rfl ?_
            refine zi_iadd dX12_cell_71 ?_
            refine zi_iald dX12_cell_72 (fun v6 => ?_)
            exact zi_retI dX12_cell_73
          · refine zi_aload_n dX12_cell_74 rfl 0 rfl ?_
            refine zi_getR dX12_cell_75 gf_X12_28 (fun v7 => ?_)
            refine zi_bipush (v := 48) dX12_cell_78 (by decide) ?_
            refine zi_iload_n dX12_cell_80 rfl 1 rfl ?_
            refine zi_iadd dX12_cell_81 ?_
            refine zi_iald dX12_cell_82 (fun v8 => ?_)
            exact zi_retI dX12_cell_83
          · refine zi_aload_n dX12_cell_84 rfl 0 rfl ?_
            refine zi_getR dX12_cell_85 gf_X12_28 (fun v9 => ?_)
            refine zi_bipush (v := 72) dX12_cell_88 (by decide) ?_
            refine zi_iload_n dX12_cell_90 rfl 1 rfl ?_
            refine zi_iadd dX12_cell_91 ?_
            refine zi_iald dX12_cell_92 (fun v10 => ?_)
            exact zi_retI dX12_cell_93
        · refine zi_iconst (v := (-1)) dX12_cell_94 (by decide) ?_
          exact zi_retI dX12_cell_95
      · refine zi_iconst (v := (-1)) dX12_cell_33 (by decide) ?_
        exact zi_retI dX12_cell_34
    · refine zi_aload_n dX12_cell_13 rfl 0 rfl ?_
      refine zi_getR dX12_cell_14 gf_X12_28 (fun v11 => ?_)
      refine zi_iconst (v := 0) dX12_cell_17 (by decide) ?_
      refine zi_iload_n dX12_cell_18 rfl 1 rfl ?_
      refine zi_iadd dX12_cell_19 ?_
      refine zi_iald dX12_cell_20 (fun v12 => ?_)
      exact zi_retI dX12_cell_21
  · refine zi_iconst (v := (-1)) dX12_cell_7 (by decide) ?_
    exact zi_retI dX12_cell_8
set_option maxRecDepth 20000 in
set_option maxHeartbeats 1000000 in
theorem wb_X12_list_16 (G : zG) (n : Nat) (k16 : Nat → Int32 → Int32 → Int32 → zH → Option (Int32 × zH)) (hk16 : ∀ (l0 : Nat) (l1 : Int32) (l2 : Int32) (l3 : Int32) (h : zH), zW G yX12_list cX12_list 4 (some .int) zvI 1 16 [(0, .ref (zbase G + l0)), (1, .int l1), (2, .int l2), (3, .int l3)] [] h (k16 l0 l1 l2 l3 h)) (l0 : Nat) (l1 : Int32) (l2 : Int32) (l3 : Int32) (h : zH) : zW G yX12_list cX12_list 4 (some .int) zvI 1 16 [(0, .ref (zbase G + l0)), (1, .int l1), (2, .int l2), (3, .int l3)] [] h (fb_X12_list_16 n k16 l0 l1 l2 l3 h) := by
  unfold fb_X12_list_16
  refine zi_iload_n dX12_list_16 rfl 3 rfl ?_
  refine zi_iload_n dX12_list_17 rfl 1 rfl ?_
  refine zi_icmp_ge (tgt := 42) dX12_list_18 (by decide) ?_ ?_
  · refine zi_iload_n dX12_list_42 rfl 2 rfl ?_
    exact zi_retI dX12_list_43
  · refine zi_iload_n dX12_list_21 rfl 2 rfl ?_
    refine zi_iconst (v := (-1)) dX12_list_22 (by decide) ?_
    refine zi_icmp_eq (tgt := 42) dX12_list_23 (by decide) ?_ ?_
    · refine zi_iload_n dX12_list_42 rfl 2 rfl ?_
      exact zi_retI dX12_list_43
    · refine zi_aload_n dX12_list_26 rfl 0 rfl ?_
      refine zi_getR dX12_list_27 gf_X12_28 (fun v1 => ?_)
      refine zi_bipush (v := 72) dX12_list_30 (by decide) ?_
      refine zi_iload_n dX12_list_32 rfl 2 rfl ?_
      refine zi_iadd dX12_list_33 ?_
      refine zi_iald dX12_list_34 (fun v2 => ?_)
      refine zi_istore_n (l' := [(2, .int v2), (0, .ref (zbase G + l0)), (1, .int l1), (3, .int l3)]) dX12_list_35 rfl (by decide) rfl ?_
      refine zi_iinc (j := 3) (v := l3 + 1) (l' := [(3, .int (l3 + 1)), (2, .int v2), (0, .ref (zbase G + l0)), (1, .int l1)]) dX12_list_36 rfl rfl (by decide) rfl ?_
      refine zi_goto (tgt := 16) dX12_list_39 (by decide) ?_
      refine zi_sub [2, 3, 1, 0] rfl ?_
      exact hk16 l0 l1 v2 (l3 + 1) h
theorem wl_X12_list_16 (G : zG) (n : Nat) : ∀ (t : Nat) (l0 : Nat) (l1 : Int32) (l2 : Int32) (l3 : Int32) (h : zH), zW G yX12_list cX12_list 4 (some .int) zvI 1 16 [(0, .ref (zbase G + l0)), (1, .int l1), (2, .int l2), (3, .int l3)] [] h (zlp4 (fb_X12_list_16 n ) t l0 l1 l2 l3 h) := by
  intro t
  induction t with
  | zero => intros; exact zW_none
  | succ t ih => intro l0 l1 l2 l3 h; rw [zlp4_s]; exact wb_X12_list_16 G n  _  ih l0 l1 l2 l3 h
set_option maxRecDepth 20000 in
set_option maxHeartbeats 1000000 in
theorem k_X12_list (G : zG) (n : Nat) (a0 : Nat) (a1 : Int32) (h : zH) : zMet G yX12_list cX12_list 4 (some .int) zvI 1 [.ref (zbase G + a0), .int a1] h (f_X12_list n a0 a1 h) := by
  refine zMet_of (l := [(0, .ref (zbase G + a0)), (1, .int a1)]) (by decide) (Nat.le_of_ble_eq_true rfl) rfl ?_
  unfold f_X12_list
  refine zi_iload_n dX12_list_0 rfl 1 rfl ?_
  refine zi_if_ge (tgt := 6) dX12_list_1 (by decide) ?_ ?_
  · refine zi_aload_n dX12_list_6 rfl 0 rfl ?_
    refine zi_getR dX12_list_7 gf_X12_28 (fun v1 => ?_)
    refine zi_bipush (v := 96) dX12_list_10 (by decide) ?_
    refine zi_iald dX12_list_12 (fun v2 => ?_)
    refine zi_istore_n (l' := [(2, .int v2), (0, .ref (zbase G + a0)), (1, .int a1)]) dX12_list_13 rfl (by decide) rfl ?_
    refine zi_iconst (v := 0) dX12_list_14 (by decide) ?_
    refine zi_istore_n (l' := [(3, .int 0), (2, .int v2), (0, .ref (zbase G + a0)), (1, .int a1)]) dX12_list_15 rfl (by decide) rfl ?_
    refine zi_sub [2, 3, 1, 0] rfl ?_
    exact wl_X12_list_16 G n n a0 a1 v2 0 h
  · refine zi_iconst (v := (-1)) dX12_list_4 (by decide) ?_
    exact zi_retI dX12_list_5
set_option maxRecDepth 20000 in
set_option maxHeartbeats 1000000 in
theorem wb_X12_listMany_10 (G : zG) (n : Nat) (k10 : Nat → Int32 → Int32 → zH → Option (Int32 × zH)) (hk10 : ∀ (l0 : Nat) (l1 : Int32) (l2 : Int32) (h : zH), zW G yX12_listMany cX12_listMany 3 (some .int) zvI 1 10 [(0, .ref (zbase G + l0)), (1, .int l1), (2, .int l2)] [] h (k10 l0 l1 l2 h)) (l0 : Nat) (l1 : Int32) (l2 : Int32) (h : zH) : zW G yX12_listMany cX12_listMany 3 (some .int) zvI 1 10 [(0, .ref (zbase G + l0)), (1, .int l1), (2, .int l2)] [] h (fb_X12_listMany_10 n k10 l0 l1 l2 h) := by
  unfold fb_X12_listMany_10
  refine zi_iload_n dX12_listMany_10 rfl 2 rfl ?_
  refine zi_iconst (v := (-1)) dX12_listMany_11 (by decide) ?_
  refine zi_icmp_eq (tgt := 31) dX12_listMany_12 (by decide) ?_ ?_
  · refine zi_iload_n dX12_listMany_31 rfl 1 rfl ?_
    exact zi_retI dX12_listMany_32
  · refine zi_iinc (j := 1) (v := l1 + 1) (l' := [(1, .int (l1 + 1)), (0, .ref (zbase G + l0)), (2, .int l2)]) dX12_listMany_15 rfl rfl (by decide) rfl ?_
    refine zi_aload_n dX12_listMany_18 rfl 1 rfl ?_
    refine zi_getR dX12_listMany_19 gf_X12_28 (fun v1 => ?_)
    refine zi_bipush (v := 72) dX12_listMany_22 (by decide) ?_
    refine zi_iload_n dX12_listMany_24 rfl 2 rfl ?_
    refine zi_iadd dX12_listMany_25 ?_
    refine zi_iald dX12_listMany_26 (fun v2 => ?_)
    refine zi_istore_n (l' := [(2, .int v2), (1, .int (l1 + 1)), (0, .ref (zbase G + l0))]) dX12_listMany_27 rfl (by decide) rfl ?_
    refine zi_goto (tgt := 10) dX12_listMany_28 (by decide) ?_
    refine zi_sub [2, 1, 0] rfl ?_
    exact hk10 l0 (l1 + 1) v2 h
theorem wl_X12_listMany_10 (G : zG) (n : Nat) : ∀ (t : Nat) (l0 : Nat) (l1 : Int32) (l2 : Int32) (h : zH), zW G yX12_listMany cX12_listMany 3 (some .int) zvI 1 10 [(0, .ref (zbase G + l0)), (1, .int l1), (2, .int l2)] [] h (zlp3 (fb_X12_listMany_10 n ) t l0 l1 l2 h) := by
  intro t
  induction t with
  | zero => intros; exact zW_none
  | succ t ih => intro l0 l1 l2 h; rw [zlp3_s]; exact wb_X12_listMany_10 G n  _  ih l0 l1 l2 h
set_option maxRecDepth 20000 in
set_option maxHeartbeats 1000000 in
theorem k_X12_listMany (G : zG) (n : Nat) (a0 : Nat) (h : zH) : zMet G yX12_listMany cX12_listMany 3 (some .int) zvI 1 [.ref (zbase G + a0)] h (f_X12_listMany n a0 h) := by
  refine zMet_of (l := [(0, .ref (zbase G + a0))]) (by decide) (Nat.le_of_ble_eq_true rfl) rfl ?_
  unfold f_X12_listMany
  refine zi_iconst (v := 0) dX12_listMany_0 (by decide) ?_
  refine zi_istore_n (l' := [(1, .int 0), (0, .ref (zbase G + a0))]) dX12_listMany_1 rfl (by decide) rfl ?_
  refine zi_aload_n dX12_listMany_2 rfl 1 rfl ?_
  refine zi_getR dX12_listMany_3 gf_X12_28 (fun v1 => ?_)
  refine zi_bipush (v := 96) dX12_listMany_6 (by decide) ?_
  refine zi_iald dX12_listMany_8 (fun v2 => ?_)
  refine zi_istore_n (l' := [(2, .int v2), (1, .int 0), (0, .ref (zbase G + a0))]) dX12_listMany_9 rfl (by decide) rfl ?_
  refine zi_sub [2, 1, 0] rfl ?_
  exact wl_X12_listMany_10 G n n a0 0 v2 h
set_option maxRecDepth 20000 in
set_option maxHeartbeats 1000000 in
theorem wb_X12_cellWith_8 (G : zG) (n : Nat) (k8 : Nat → Int32 → Int32 → zH → Option (Int32 × zH)) (hk8 : ∀ (l0 : Nat) (l1 : Int32) (l2 : Int32) (h : zH), zW G yX12_cellWith cX12_cellWith 3 (some .int) zvI 1 8 [(0, .ref (zbase G + l0)), (1, .int l1), (2, .int l2)] [] h (k8 l0 l1 l2 h)) (l0 : Nat) (l1 : Int32) (l2 : Int32) (h : zH) : zW G yX12_cellWith cX12_cellWith 3 (some .int) zvI 1 8 [(0, .ref (zbase G + l0)), (1, .int l1), (2, .int l2)] [] h (fb_X12_cellWith_8 n k8 l0 l1 l2 h) := by
  unfold fb_X12_cellWith_8
  refine zi_iload_n dX12_cellWith_8 rfl 2 rfl ?_
  refine zi_iconst (v := (-1)) dX12_cellWith_9 (by decide) ?_
  refine zi_icmp_eq (tgt := 39) dX12_cellWith_10 (by decide) ?_ ?_
  · refine zi_iload_n dX12_cellWith_39 rfl 2 rfl ?_
    exact zi_retI dX12_cellWith_40
  · refine zi_aload_n dX12_cellWith_13 rfl 0 rfl ?_
    refine zi_getR dX12_cellWith_14 gf_X12_28 (fun v1 => ?_)
    refine zi_bipush (v := 24) dX12_cellWith_17 (by decide) ?_
    refine zi_iload_n dX12_cellWith_19 rfl 2 rfl ?_
    refine zi_iadd dX12_cellWith_20 ?_
    refine zi_iald dX12_cellWith_21 (fun v2 => ?_)
    refine zi_iload_n dX12_cellWith_22 rfl 1 rfl ?_
    refine zi_icmp_eq (tgt := 39) dX12_cellWith_23 (by decide) ?_ ?_
    · refine zi_iload_n dX12_cellWith_39 rfl 2 rfl ?_
      exact zi_retI dX12_cellWith_40
    · refine zi_aload_n dX12_cellWith_26 rfl 0 rfl ?_
      refine zi_getR dX12_cellWith_27 gf_X12_28 (fun v3 => ?_)
      refine zi_bipush (v := 72) dX12_cellWith_30 (by decide) ?_
      refine zi_iload_n dX12_cellWith_32 rfl 2 rfl ?_
      refine zi_iadd dX12_cellWith_33 ?_
      refine zi_iald dX12_cellWith_34 (fun v4 => ?_)
      refine zi_istore_n (l' := [(2, .int v4), (0, .ref (zbase G + l0)), (1, .int l1)]) dX12_cellWith_35 rfl (by decide) rfl ?_
      refine zi_goto (tgt := 8) dX12_cellWith_36 (by decide) ?_
      refine zi_sub [1, 2, 0] rfl ?_
      exact hk8 l0 l1 v4 h
theorem wl_X12_cellWith_8 (G : zG) (n : Nat) : ∀ (t : Nat) (l0 : Nat) (l1 : Int32) (l2 : Int32) (h : zH), zW G yX12_cellWith cX12_cellWith 3 (some .int) zvI 1 8 [(0, .ref (zbase G + l0)), (1, .int l1), (2, .int l2)] [] h (zlp3 (fb_X12_cellWith_8 n ) t l0 l1 l2 h) := by
  intro t
  induction t with
  | zero => intros; exact zW_none
  | succ t ih => intro l0 l1 l2 h; rw [zlp3_s]; exact wb_X12_cellWith_8 G n  _  ih l0 l1 l2 h
set_option maxRecDepth 20000 in
set_option maxHeartbeats 1000000 in
theorem k_X12_cellWith (G : zG) (n : Nat) (a0 : Nat) (a1 : Int32) (h : zH) : zMet G yX12_cellWith cX12_cellWith 3 (some .int) zvI 1 [.ref (zbase G + a0), .int a1] h (f_X12_cellWith n a0 a1 h) := by
  refine zMet_of (l := [(0, .ref (zbase G + a0)), (1, .int a1)]) (by decide) (Nat.le_of_ble_eq_true rfl) rfl ?_
  unfold f_X12_cellWith
  refine zi_aload_n dX12_cellWith_0 rfl 0 rfl ?_
  refine zi_getR dX12_cellWith_1 gf_X12_28 (fun v1 => ?_)
  refine zi_bipush (v := 96) dX12_cellWith_4 (by decide) ?_
  refine zi_iald dX12_cellWith_6 (fun v2 => ?_)
  refine zi_istore_n (l' := [(2, .int v2), (0, .ref (zbase G + a0)), (1, .int a1)]) dX12_cellWith_7 rfl (by decide) rfl ?_
  refine zi_sub [1, 2, 0] rfl ?_
  exact wl_X12_cellWith_8 G n n a0 a1 v2 h
set_option maxRecDepth 20000 in
set_option maxHeartbeats 1000000 in
theorem k_X12_valueOf0 (G : zG) (n : Nat) (a0 : Nat) (a1 : Int32) (h : zH) : zMet G yX12_valueOf0 cX12_valueOf0 3 (some .int) zvI 2 [.ref (zbase G + a0), .int a1] h (f_X12_valueOf0 n a0 a1 h) := by
  refine zMet_of (l := [(0, .ref (zbase G + a0)), (1, .int a1)]) (by decide) (Nat.le_of_ble_eq_true rfl) rfl ?_
  unfold f_X12_valueOf0
  refine zi_aload_n dX12_valueOf0_0 rfl 0 rfl ?_
  refine zi_iload_n dX12_valueOf0_1 rfl 1 rfl ?_
  refine zi_callVI (As := [.int a1]) (rest := []) (ci := 12) dX12_valueOf0_2 ml_X12_118 md_X12_cellWith mv_X12_cellWith rfl (by decide) rfl rfl (Nat.le_of_ble_eq_true rfl) (Nat.le_of_ble_eq_true rfl) (k_X12_cellWith G n a0 a1 h) (fun r1 h2 => ?_)
  refine zi_istore_n (l' := [(2, .int r1), (0, .ref (zbase G + a0)), (1, .int a1)]) dX12_valueOf0_5 rfl (by decide) rfl ?_
  refine zi_iload_n dX12_valueOf0_6 rfl 0 rfl ?_
  refine zi_iconst (v := (-1)) dX12_valueOf0_7 (by decide) ?_
  refine zi_icmp_ne (tgt := 15) dX12_valueOf0_8 (by decide) ?_ ?_
  · refine zi_aload_n dX12_valueOf0_15 rfl 1 rfl ?_
    refine zi_getR dX12_valueOf0_16 gf_X12_28 (fun v3 => ?_)
    refine zi_bipush (v := 48) dX12_valueOf0_19 (by decide) ?_
    refine zi_iload_n dX12_valueOf0_21 rfl 0 rfl ?_
    refine zi_iadd dX12_valueOf0_22 ?_
    refine zi_iald dX12_valueOf0_23 (fun v4 => ?_)
    exact zi_retI dX12_valueOf0_24
  · refine zi_iconst (v := (-1)) dX12_valueOf0_11 (by decide) ?_
    refine zi_goto (tgt := 24) dX12_valueOf0_12 (by decide) ?_
    exact zi_retI dX12_valueOf0_24
set_option maxRecDepth 20000 in
set_option maxHeartbeats 1000000 in
theorem k_X12_find (G : zG) (n : Nat) (a0 : Nat) (a1 : Int32) (h : zH) : zMet G yX12_find cX12_find 2 (some .int) zvI 3 [.ref (zbase G + a0), .int a1] h (f_X12_find n a0 a1 h) := by
  refine zMet_of (l := [(0, .ref (zbase G + a0)), (1, .int a1)]) (by decide) (Nat.le_of_ble_eq_true rfl) rfl ?_
  unfold f_X12_find
  refine zi_iload_n dX12_find_0 rfl 1 rfl ?_
  refine zi_callSI (As := [.int a1]) (rest := []) dX12_find_1 ml_X12_121 md_X12_isKey ms_X12_isKey rfl rfl (Nat.le_of_ble_eq_true rfl) (Nat.le_of_ble_eq_true rfl) (k_X12_isKey G n a1 h) (fun r1 h2 => ?_)
  refine zi_if_eq (tgt := 15) dX12_find_4 (by decide) ?_ ?_
  · refine zi_iconst (v := (-1)) dX12_find_15 (by decide) ?_
    exact zi_retI dX12_find_16
  · refine zi_aload_n dX12_find_7 rfl 0 rfl ?_
    refine zi_iload_n dX12_find_8 rfl 1 rfl ?_
    refine zi_callVI (As := [.int a1]) (rest := []) (ci := 12) dX12_find_9 ml_X12_124 md_X12_valueOf0 mv_X12_valueOf0 rfl (by decide) rfl rfl (Nat.le_of_ble_eq_true rfl) (Nat.le_of_ble_eq_true rfl) (k_X12_valueOf0 G n a0 a1 h2) (fun r3 h4 => ?_)
    refine zi_goto (tgt := 16) dX12_find_12 (by decide) ?_
    exact zi_retI dX12_find_16
set_option maxRecDepth 20000 in
set_option maxHeartbeats 1000000 in
theorem k_X12_node (G : zG) (n : Nat) (a0 : Nat) (a1 : Int32) (h : zH) : zMet G yX12_node cX12_node 2 (some .int) zvI 2 [.ref (zbase G + a0), .int a1] h (f_X12_node n a0 a1 h) := by
  refine zMet_of (l := [(0, .ref (zbase G + a0)), (1, .int a1)]) (by decide) (Nat.le_of_ble_eq_true rfl) rfl ?_
  unfold f_X12_node
  refine zi_iload_n dX12_node_0 rfl 1 rfl ?_
  refine zi_iconst (v := 1) dX12_node_1 (by decide) ?_
  refine zi_bipush (v := 7) dX12_node_2 (by decide) ?_
  refine zi_callSI (As := [.int a1, .int 1, .int 7]) (rest := []) dX12_node_4 ml_X12_18 md_X12_lies ms_X12_lies rfl rfl (Nat.le_of_ble_eq_true rfl) (Nat.le_of_ble_eq_true rfl) (k_X12_lies G n a1 1 7 h) (fun r1 h2 => ?_)
  refine zi_if_eq (tgt := 23) dX12_node_7 (by decide) ?_ ?_
  · refine zi_iconst (v := (-1)) dX12_node_23 (by decide) ?_
    exact zi_retI dX12_node_24
  · refine zi_aload_n dX12_node_10 rfl 0 rfl ?_
    refine zi_getR dX12_node_11 gf_X12_28 (fun v3 => ?_)
    refine zi_sipush (v := 131) dX12_node_14 (by decide) ?_
    refine zi_iload_n dX12_node_17 rfl 1 rfl ?_
    refine zi_iadd dX12_node_18 ?_
    refine zi_iald dX12_node_19 (fun v4 => ?_)
    refine zi_goto (tgt := 24) dX12_node_20 (by decide) ?_
    exact zi_retI dX12_node_24
set_option maxRecDepth 20000 in
set_option maxHeartbeats 1000000 in
theorem wb_X12_old_24 (G : zG) (n : Nat) (l0 : Nat) (l2 : Int32) (s0 : Int32) (h : zH) : zW G yX12_old cX12_old 4 (some .int) zvI 2 24 [(0, .ref (zbase G + l0)), (2, .int l2)] [.int s0] h (fb_X12_old_24 n l0 l2 s0 h) := by
  unfold fb_X12_old_24
  refine zi_istore_n (l' := [(3, .int s0), (0, .ref (zbase G + l0)), (2, .int l2)]) dX12_old_24 rfl (by decide) rfl ?_
  refine zi_iload_n dX12_old_25 rfl 2 rfl ?_
  refine zi_iconst (v := 0) dX12_old_26 (by decide) ?_
  refine zi_aload_n dX12_old_27 rfl 1 rfl ?_
  refine zi_getR dX12_old_28 gf_X12_28 (fun v1 => ?_)
  refine zi_iload_n dX12_old_31 rfl 0 rfl ?_
  refine zi_iald dX12_old_32 (fun v2 => ?_)
  refine zi_iconst (v := 1) dX12_old_33 (by decide) ?_
  refine zi_isub dX12_old_34 ?_
  refine zi_callSI (As := [.int l2, .int 0, .int (v2 - 1)]) (rest := []) dX12_old_35 ml_X12_18 md_X12_lies ms_X12_lies rfl rfl (Nat.le_of_ble_eq_true rfl) (Nat.le_of_ble_eq_true rfl) (k_X12_lies G n l2 0 (v2 - 1) h) (fun r3 h4 => ?_)
  refine zi_if_eq (tgt := 54) dX12_old_38 (by decide) ?_ ?_
  · refine zi_iconst (v := (-1)) dX12_old_54 (by decide) ?_
    exact zi_retI dX12_old_55
  · refine zi_aload_n dX12_old_41 rfl 1 rfl ?_
    refine zi_getR dX12_old_42 gf_X12_28 (fun v5 => ?_)
    refine zi_iload_n dX12_old_45 rfl 0 rfl ?_
    refine zi_iconst (v := 1) dX12_old_46 (by decide) ?_
    refine zi_iadd dX12_old_47 ?_
    refine zi_iload_n dX12_old_48 rfl 2 rfl ?_
    refine zi_iadd dX12_old_49 ?_
    refine zi_iald dX12_old_50 (fun v6 => ?_)
    refine zi_goto (tgt := 55) dX12_old_51 (by decide) ?_
    exact zi_retI dX12_old_55
set_option maxRecDepth 20000 in
set_option maxHeartbeats 1000000 in
theorem k_X12_old (G : zG) (n : Nat) (a0 : Nat) (a1 : Int32) (a2 : Int32) (h : zH) : zMet G yX12_old cX12_old 4 (some .int) zvI 2 [.ref (zbase G + a0), .int a1, .int a2] h (f_X12_old n a0 a1 a2 h) := by
  refine zMet_of (l := [(0, .ref (zbase G + a0)), (1, .int a1), (2, .int a2)]) (by decide) (Nat.le_of_ble_eq_true rfl) rfl ?_
  unfold f_X12_old
  refine zi_iload_n dX12_old_0 rfl 1 rfl ?_
  refine zi_iconst (v := 0) dX12_old_1 (by decide) ?_
  refine zi_iconst (v := 1) dX12_old_2 (by decide) ?_
  refine zi_callSI (As := [.int a1, .int 0, .int 1]) (rest := []) dX12_old_3 ml_X12_18 md_X12_lies ms_X12_lies rfl rfl (Nat.le_of_ble_eq_true rfl) (Nat.le_of_ble_eq_true rfl) (k_X12_lies G n a1 0 1 h) (fun r1 h2 => ?_)
  refine zi_if_ne (tgt := 11) dX12_old_6 (by decide) ?_ ?_
  · refine zi_iload_n dX12_old_11 rfl 1 rfl ?_
    refine zi_if_ne (tgt := 21) dX12_old_12 (by decide) ?_ ?_
    · refine zi_sipush (v := 164) dX12_old_21 (by decide) ?_
      refine zi_sub [0, 2] rfl ?_
      exact wb_X12_old_24 G n a0 a2 164 h2
    · refine zi_sipush (v := 139) dX12_old_15 (by decide) ?_
      refine zi_goto (tgt := 24) dX12_old_18 (by decide) ?_
      refine zi_sub [0, 2] rfl ?_
      exact wb_X12_old_24 G n a0 a2 139 h2
  · refine zi_iconst (v := (-1)) dX12_old_9 (by decide) ?_
    exact zi_retI dX12_old_10
set_option maxRecDepth 20000 in
set_option maxHeartbeats 1000000 in
theorem k_X12_isTerm (G : zG) (n : Nat) (a0 : Int32) (a1 : Int32) (h : zH) : zMet G yX12_isTerm cX12_isTerm 2 (some .boolean) zvI 2 [.int a0, .int a1] h (f_X12_isTerm n a0 a1 h) := by
  refine zMet_of (l := [(0, .int a0), (1, .int a1)]) (by decide) (Nat.le_of_ble_eq_true rfl) rfl ?_
  unfold f_X12_isTerm
  refine zi_iload_n dX12_isTerm_0 rfl 0 rfl ?_
  refine zi_tsw (tgt := 53) _ dX12_isTerm_1 rfl ?_ (by decide) ?_ ?_
  · intro j q hq
    match j, hq with
    | 0, hq => cases hq; exact ⟨rfl, _, rfl, rfl⟩
    | 1, hq => cases hq; exact ⟨rfl, _, rfl, rfl⟩
    | 2, hq => cases hq; exact ⟨rfl, _, rfl, rfl⟩
    | j + 3, hq => simp at hq
  · simp only [List.forall_mem_cons, List.not_mem_nil, false_implies, implies_true, and_true]
    refine ⟨?_, ?_, ?_⟩
    · refine zi_iload_n dX12_isTerm_28 rfl 1 rfl ?_
      refine zi_iconst (v := 0) dX12_isTerm_29 (by decide) ?_
      refine zi_sipush (v := 999) dX12_isTerm_30 (by decide) ?_
      refine zi_callSI (As := [.int a1, .int 0, .int 999]) (rest := []) dX12_isTerm_33 ml_X12_18 md_X12_lies ms_X12_lies rfl rfl (Nat.le_of_ble_eq_true rfl) (Nat.le_of_ble_eq_true rfl) (k_X12_lies G n a1 0 999 h) (fun r1 h2 => ?_)
      exact zi_retZ dX12_isTerm_36
    · refine zi_iload_n dX12_isTerm_37 rfl 1 rfl ?_
      refine zi_iconst (v := 0) dX12_isTerm_38 (by decide) ?_
      refine zi_bipush (v := 10) dX12_isTerm_39 (by decide) ?_
      refine zi_callSI (As := [.int a1, .int 0, .int 10]) (rest := []) dX12_isTerm_41 ml_X12_18 md_X12_lies ms_X12_lies rfl rfl (Nat.le_of_ble_eq_true rfl) (Nat.le_of_ble_eq_true rfl) (k_X12_lies G n a1 0 10 h) (fun r3 h4 => ?_)
      exact zi_retZ dX12_isTerm_44
    · refine zi_iload_n dX12_isTerm_45 rfl 1 rfl ?_
      refine zi_iconst (v := 0) dX12_isTerm_46 (by decide) ?_
      refine zi_bipush (v := 9) dX12_isTerm_47 (by decide) ?_
      refine zi_callSI (As := [.int a1, .int 0, .int 9]) (rest := []) dX12_isTerm_49 ml_X12_18 md_X12_lies ms_X12_lies rfl rfl (Nat.le_of_ble_eq_true rfl) (Nat.le_of_ble_eq_true rfl) (k_X12_lies G n a1 0 9 h) (fun r5 h6 => ?_)
      exact zi_retZ dX12_isTerm_52
  · refine zi_iconst (v := 0) dX12_isTerm_53 (by decide) ?_
    exact zi_ret0 dX12_isTerm_54
set_option maxRecDepth 20000 in
set_option maxHeartbeats 1000000 in
theorem k_X12_termAt (G : zG) (n : Nat) (a0 : Int32) (h : zH) : zMet G yX12_termAt cX12_termAt 1 (some .int) zvI 1 [.int a0] h (f_X12_termAt n a0 h) := by
  refine zMet_of (l := [(0, .int a0)]) (by decide) (Nat.le_of_ble_eq_true rfl) rfl ?_
  unfold f_X12_termAt
  refine zi_iload_n dX12_termAt_0 rfl 0 rfl ?_
  refine zi_lsw (tgt := 36) _ dX12_termAt_1 (by decide) rfl (by decide) ?_ ?_
  · simp only [List.forall_mem_cons, List.not_mem_nil, false_implies, implies_true, and_true]
    refine ⟨?_, ?_⟩
    · refine zi_sipush (v := 190) dX12_termAt_28 (by decide) ?_
      exact zi_retI dX12_termAt_31
    · refine zi_sipush (v := 203) dX12_termAt_32 (by decide) ?_
      exact zi_retI dX12_termAt_35
  · refine zi_sipush (v := 204) dX12_termAt_36 (by decide) ?_
    exact zi_retI dX12_termAt_39
set_option maxRecDepth 20000 in
set_option maxHeartbeats 1000000 in
theorem k_X12_terms (G : zG) (n : Nat) (a0 : Nat) (a1 : Int32) (a2 : Int32) (h : zH) : zMet G yX12_terms cX12_terms 4 (some .int) zvI 3 [.ref (zbase G + a0), .int a1, .int a2] h (f_X12_terms n a0 a1 a2 h) := by
  refine zMet_of (l := [(0, .ref (zbase G + a0)), (1, .int a1), (2, .int a2)]) (by decide) (Nat.le_of_ble_eq_true rfl) rfl ?_
  unfold f_X12_terms
  refine zi_iload_n dX12_terms_0 rfl 1 rfl ?_
  refine zi_iload_n dX12_terms_1 rfl 2 rfl ?_
  refine zi_callSI (As := [.int a1, .int a2]) (rest := []) dX12_terms_2 ml_X12_127 md_X12_isTerm ms_X12_isTerm rfl rfl (Nat.le_of_ble_eq_true rfl) (Nat.le_of_ble_eq_true rfl) (k_X12_isTerm G n a1 a2 h) (fun r1 h2 => ?_)
  refine zi_if_ne (tgt := 14) dX12_terms_5 (by decide) ?_ ?_
  · refine zi_aload_n dX12_terms_14 rfl 0 rfl ?_
    refine zi_getR dX12_terms_15 gf_X12_28 (fun v3 => ?_)
    refine zi_iload_n dX12_terms_18 rfl 1 rfl ?_
    refine zi_callSI (As := [.int a1]) (rest := [.ref (zbase G + v3)]) dX12_terms_19 ml_X12_130 md_X12_termAt ms_X12_termAt rfl rfl (Nat.le_of_ble_eq_true rfl) (Nat.le_of_ble_eq_true rfl) (k_X12_termAt G n a1 h2) (fun r4 h5 => ?_)
    refine zi_iald dX12_terms_22 (fun v6 => ?_)
    refine zi_istore_n (l' := [(3, .int v6), (0, .ref (zbase G + a0)), (1, .int a1), (2, .int a2)]) dX12_terms_23 rfl (by decide) rfl ?_
    refine zi_aload_n dX12_terms_24 rfl 1 rfl ?_
    refine zi_getR dX12_terms_25 gf_X12_28 (fun v7 => ?_)
    refine zi_iload_n dX12_terms_28 rfl 2 rfl ?_
    refine zi_callSI (As := [.int a1]) (rest := [.ref (zbase G + v7)]) dX12_terms_29 ml_X12_130 md_X12_termAt ms_X12_termAt rfl rfl (Nat.le_of_ble_eq_true rfl) (Nat.le_of_ble_eq_true rfl) (k_X12_termAt G n a1 h5) (fun r8 h9 => ?_)
    refine zi_iload_n dX12_terms_32 rfl 3 rfl ?_
    refine zi_iast dX12_terms_33 (fun h10 => ?_)
    refine zi_aload_n dX12_terms_34 rfl 1 rfl ?_
    refine zi_iload_n dX12_terms_35 rfl 0 rfl ?_
    refine zi_callVI (As := [.int v6]) (rest := []) (ci := 12) dX12_terms_36 ml_X12_88 md_X12_settled mv_X12_settled rfl (by decide) rfl rfl (Nat.le_of_ble_eq_true rfl) (Nat.le_of_ble_eq_true rfl) (k_X12_settled G n a0 v6 h10) (fun r11 h12 => ?_)
    exact zi_retI dX12_terms_39
  · refine zi_aload_n dX12_terms_8 rfl 0 rfl ?_
    refine zi_iconst (v := (-1)) dX12_terms_9 (by decide) ?_
    refine zi_callVI (As := [.int (-1)]) (rest := []) (ci := 12) dX12_terms_10 ml_X12_85 md_X12_refuses mv_X12_refuses rfl (by decide) rfl rfl (Nat.le_of_ble_eq_true rfl) (Nat.le_of_ble_eq_true rfl) (k_X12_refuses G n a0 (-1) h2) (fun r13 h14 => ?_)
    exact zi_retI dX12_terms_13
set_option maxRecDepth 20000 in
set_option maxHeartbeats 1000000 in
theorem k_X12_setsAsked (G : zG) (n : Nat) (a0 : Nat) (a1 : Int32) (a2 : Int32) (a3 : Int32) (a4 : Int32) (a5 : Int32) (h : zH) : zMet G yX12_setsAsked cX12_setsAsked 6 none zvU 1 [.ref (zbase G + a0), .int a1, .int a2, .int a3, .int a4, .int a5] h (f_X12_setsAsked n a0 a1 a2 a3 a4 a5 h) := by
  refine zMet_of (l := [(0, .ref (zbase G + a0)), (1, .int a1), (2, .int a2), (3, .int a3), (4, .int a4), (5, .int a5)]) (by decide) (Nat.le_of_ble_eq_true rfl) rfl ?_
  unfold f_X12_setsAsked
  refine zi_aload_n dX12_setsAsked_0 rfl 0 rfl ?_
  refine zi_getR dX12_setsAsked_1 gf_X12_63 (fun v1 => ?_)
  refine zi_iconst (v := 0) dX12_setsAsked_4 (by decide) ?_
  refine zi_iload_n dX12_setsAsked_5 rfl 1 rfl ?_
  refine zi_iast dX12_setsAsked_6 (fun h2 => ?_)
  refine zi_aload_n dX12_setsAsked_7 rfl 0 rfl ?_
  refine zi_getR dX12_setsAsked_8 gf_X12_63 (fun v3 => ?_)
  refine zi_iconst (v := 1) dX12_setsAsked_11 (by decide) ?_
  refine zi_iload_n dX12_setsAsked_12 rfl 2 rfl ?_
  refine zi_iast dX12_setsAsked_13 (fun h4 => ?_)
  refine zi_aload_n dX12_setsAsked_14 rfl 0 rfl ?_
  refine zi_getR dX12_setsAsked_15 gf_X12_63 (fun v5 => ?_)
  refine zi_iconst (v := 2) dX12_setsAsked_18 (by decide) ?_
  refine zi_iload_n dX12_setsAsked_19 rfl 3 rfl ?_
  refine zi_iast dX12_setsAsked_20 (fun h6 => ?_)
  refine zi_aload_n dX12_setsAsked_21 rfl 0 rfl ?_
  refine zi_getR dX12_setsAsked_22 gf_X12_63 (fun v7 => ?_)
  refine zi_iconst (v := 3) dX12_setsAsked_25 (by decide) ?_
  refine zi_iload dX12_setsAsked_26 4 rfl ?_
  refine zi_iast dX12_setsAsked_28 (fun h8 => ?_)
  refine zi_aload_n dX12_setsAsked_29 rfl 0 rfl ?_
  refine zi_getR dX12_setsAsked_30 gf_X12_63 (fun v9 => ?_)
  refine zi_iconst (v := 4) dX12_setsAsked_33 (by decide) ?_
  refine zi_iload dX12_setsAsked_34 5 rfl ?_
  refine zi_iast dX12_setsAsked_36 (fun h10 => ?_)
  refine zi_aload_n dX12_setsAsked_37 rfl 0 rfl ?_
  refine zi_getR dX12_setsAsked_38 gf_X12_63 (fun v11 => ?_)
  refine zi_iconst (v := 5) dX12_setsAsked_41 (by decide) ?_
  refine zi_aload_n dX12_setsAsked_42 rfl 0 rfl ?_
  refine zi_getR dX12_setsAsked_43 gf_X12_28 (fun v12 => ?_)
  refine zi_sipush (v := 204) dX12_setsAsked_46 (by decide) ?_
  refine zi_iald dX12_setsAsked_49 (fun v13 => ?_)
  refine zi_iast dX12_setsAsked_50 (fun h14 => ?_)
  refine zi_aload_n dX12_setsAsked_51 rfl 0 rfl ?_
  refine zi_getR dX12_setsAsked_52 gf_X12_63 (fun v15 => ?_)
  refine zi_bipush (v := 6) dX12_setsAsked_55 (by decide) ?_
  refine zi_aload_n dX12_setsAsked_57 rfl 0 rfl ?_
  refine zi_getR dX12_setsAsked_58 gf_X12_28 (fun v16 => ?_)
  refine zi_sipush (v := 190) dX12_setsAsked_61 (by decide) ?_
  refine zi_iald dX12_setsAsked_64 (fun v17 => ?_)
  refine zi_iast dX12_setsAsked_65 (fun h18 => ?_)
  exact zi_retV dX12_setsAsked_66
set_option maxRecDepth 20000 in
set_option maxHeartbeats 1000000 in
theorem k_X12_codeAt (G : zG) (n : Nat) (a0 : Nat) (a1 : Int32) (h : zH) : zMet G yX12_codeAt cX12_codeAt 2 (some .int) zvI 1 [.ref (zbase G + a0), .int a1] h (f_X12_codeAt n a0 a1 h) := by
  refine zMet_of (l := [(0, .ref (zbase G + a0)), (1, .int a1)]) (by decide) (Nat.le_of_ble_eq_true rfl) rfl ?_
  unfold f_X12_codeAt
  refine zi_iload_n dX12_codeAt_0 rfl 1 rfl ?_
  refine zi_aload_n dX12_codeAt_1 rfl 0 rfl ?_
  refine zi_getI dX12_codeAt_2 gf_X12_245 (fun v1 => ?_)
  refine zi_icmp_ge (tgt := 21) dX12_codeAt_5 (by decide) ?_ ?_
  · refine zi_iconst (v := 0) dX12_codeAt_21 (by decide) ?_
    exact zi_retI dX12_codeAt_22
  · refine zi_aload_n dX12_codeAt_8 rfl 0 rfl ?_
    refine zi_getR dX12_codeAt_9 gf_X12_28 (fun v2 => ?_)
    refine zi_sipush (v := 215) dX12_codeAt_12 (by decide) ?_
    refine zi_iload_n dX12_codeAt_15 rfl 1 rfl ?_
    refine zi_iadd dX12_codeAt_16 ?_
    refine zi_iald dX12_codeAt_17 (fun v3 => ?_)
    refine zi_goto (tgt := 22) dX12_codeAt_18 (by decide) ?_
    exact zi_retI dX12_codeAt_22
set_option maxRecDepth 20000 in
set_option maxHeartbeats 1000000 in
theorem k_X12_sign (G : zG) (n : Nat) (a0 : Int32) (h : zH) : zMet G yX12_sign cX12_sign 1 (some .int) zvI 1 [.int a0] h (f_X12_sign n a0 h) := by
  refine zMet_of (l := [(0, .int a0)]) (by decide) (Nat.le_of_ble_eq_true rfl) rfl ?_
  unfold f_X12_sign
  refine zi_bipush (v := 100) dX12_sign_0 (by decide) ?_
  refine zi_iload_n dX12_sign_2 rfl 0 rfl ?_
  refine zi_iadd dX12_sign_3 ?_
  exact zi_retI dX12_sign_4
set_option maxRecDepth 20000 in
set_option maxHeartbeats 1000000 in
theorem wb_X12_passes0_17 (G : zG) (n : Nat) (l0 : Nat) (s0 : Int32) (h : zH) : zW G yX12_passes0 cX12_passes0 3 (some .boolean) zvI 2 17 [(0, .ref (zbase G + l0))] [.int s0] h (fb_X12_passes0_17 n l0 s0 h) := by
  unfold fb_X12_passes0_17
  refine zi_istore_n (l' := [(2, .int s0), (0, .ref (zbase G + l0))]) dX12_passes0_17 rfl (by decide) rfl ?_
  refine zi_iload_n dX12_passes0_18 rfl 0 rfl ?_
  refine zi_if_eq (tgt := 32) dX12_passes0_19 (by decide) ?_ ?_
  · refine zi_iload_n dX12_passes0_32 rfl 0 rfl ?_
    exact zi_retZ dX12_passes0_33
  · refine zi_aload_n dX12_passes0_22 rfl 1 rfl ?_
    refine zi_dup dX12_passes0_23 rfl ?_
    refine zi_getI dX12_passes0_24 gf_X12_248 (fun v1 => ?_)
    refine zi_iconst (v := 1) dX12_passes0_27 (by decide) ?_
    refine zi_iadd dX12_passes0_28 ?_
    refine zi_putI dX12_passes0_29 gf_X12_248 (fun h2 => ?_)
    refine zi_iload_n dX12_passes0_32 rfl 0 rfl ?_
    exact zi_retZ dX12_passes0_33
set_option maxRecDepth 20000 in
set_option maxHeartbeats 1000000 in
theorem k_X12_passes0 (G : zG) (n : Nat) (a0 : Nat) (a1 : Int32) (h : zH) : zMet G yX12_passes0 cX12_passes0 3 (some .boolean) zvI 2 [.ref (zbase G + a0), .int a1] h (f_X12_passes0 n a0 a1 h) := by
  refine zMet_of (l := [(0, .ref (zbase G + a0)), (1, .int a1)]) (by decide) (Nat.le_of_ble_eq_true rfl) rfl ?_
  unfold f_X12_passes0
  refine zi_aload_n dX12_passes0_0 rfl 0 rfl ?_
  refine zi_aload_n dX12_passes0_1 rfl 0 rfl ?_
  refine zi_getI dX12_passes0_2 gf_X12_248 (fun v1 => ?_)
  refine zi_callVI (As := [.int v1]) (rest := []) (ci := 12) dX12_passes0_5 ml_X12_251 md_X12_codeAt mv_X12_codeAt rfl (by decide) rfl rfl (Nat.le_of_ble_eq_true rfl) (Nat.le_of_ble_eq_true rfl) (k_X12_codeAt G n a0 v1 h) (fun r2 h3 => ?_)
  refine zi_iload_n dX12_passes0_8 rfl 1 rfl ?_
  refine zi_icmp_ne (tgt := 16) dX12_passes0_9 (by decide) ?_ ?_
  · refine zi_iconst (v := 0) dX12_passes0_16 (by decide) ?_
    refine zi_sub [0] rfl ?_
    exact wb_X12_passes0_17 G n a0 0 h3
  · refine zi_iconst (v := 1) dX12_passes0_12 (by decide) ?_
    refine zi_goto (tgt := 17) dX12_passes0_13 (by decide) ?_
    refine zi_sub [0] rfl ?_
    exact wb_X12_passes0_17 G n a0 1 h3
set_option maxRecDepth 20000 in
set_option maxHeartbeats 1000000 in
theorem k_X12_orderValue (G : zG) (n : Nat) (a0 : Nat) (a1 : Int32) (a2 : Int32) (h : zH) : zMet G yX12_orderValue cX12_orderValue 3 (some .int) zvI 3 [.ref (zbase G + a0), .int a1, .int a2] h (f_X12_orderValue n a0 a1 a2 h) := by
  refine zMet_of (l := [(0, .ref (zbase G + a0)), (1, .int a1), (2, .int a2)]) (by decide) (Nat.le_of_ble_eq_true rfl) rfl ?_
  unfold f_X12_orderValue
  refine zi_iload_n dX12_orderValue_0 rfl 1 rfl ?_
  refine zi_tsw (tgt := 83) _ dX12_orderValue_1 rfl ?_ (by decide) ?_ ?_
  · intro j q hq
    match j, hq with
    | 0, hq => cases hq; exact ⟨rfl, _, rfl, rfl⟩
    | 1, hq => cases hq; exact ⟨rfl, _, rfl, rfl⟩
    | 2, hq => cases hq; exact ⟨rfl, _, rfl, rfl⟩
    | 3, hq => cases hq; exact ⟨rfl, _, rfl, rfl⟩
    | 4, hq => cases hq; exact ⟨rfl, _, rfl, rfl⟩
    | 5, hq => cases hq; exact ⟨rfl, _, rfl, rfl⟩
    | j + 6, hq => simp at hq
  · simp only [List.forall_mem_cons, List.not_mem_nil, false_implies, implies_true, and_true]
    refine ⟨?_, ?_, ?_, ?_, ?_, ?_⟩
    · refine zi_aload_n dX12_orderValue_40 rfl 0 rfl ?_
      refine zi_getR dX12_orderValue_41 gf_X12_28 (fun v1 => ?_)
      refine zi_sipush (v := 190) dX12_orderValue_44 (by decide) ?_
      refine zi_iald dX12_orderValue_47 (fun v2 => ?_)
      exact zi_retI dX12_orderValue_48
    · refine zi_aload_n dX12_orderValue_49 rfl 0 rfl ?_
      refine zi_getI dX12_orderValue_50 gf_X12_284 (fun v3 => ?_)
      exact zi_retI dX12_orderValue_53
    · refine zi_aload_n dX12_orderValue_54 rfl 0 rfl ?_
      refine zi_getI dX12_orderValue_55 gf_X12_287 (fun v4 => ?_)
      exact zi_retI dX12_orderValue_58
    · refine zi_aload_n dX12_orderValue_59 rfl 0 rfl ?_
      refine zi_getR dX12_orderValue_60 gf_X12_28 (fun v5 => ?_)
      refine zi_sipush (v := 139) dX12_orderValue_63 (by decide) ?_
      refine zi_iald dX12_orderValue_66 (fun v6 => ?_)
      exact zi_retI dX12_orderValue_67
    · refine zi_aload_n dX12_orderValue_68 rfl 0 rfl ?_
      refine zi_getR dX12_orderValue_69 gf_X12_28 (fun v7 => ?_)
      refine zi_sipush (v := 130) dX12_orderValue_72 (by decide) ?_
      refine zi_iald dX12_orderValue_75 (fun v8 => ?_)
      exact zi_retI dX12_orderValue_76
    · refine zi_aload_n dX12_orderValue_77 rfl 0 rfl ?_
      refine zi_iload_n dX12_orderValue_78 rfl 2 rfl ?_
      refine zi_callVI (As := [.int a2]) (rest := []) (ci := 12) dX12_orderValue_79 ml_X12_109 md_X12_cellOf mv_X12_cellOf rfl (by decide) rfl rfl (Nat.le_of_ble_eq_true rfl) (Nat.le_of_ble_eq_true rfl) (k_X12_cellOf G n a0 a2 h) (fun r9 h10 => ?_)
      exact zi_retI dX12_orderValue_82
  · refine zi_aload_n dX12_orderValue_83 rfl 0 rfl ?_
    refine zi_iload_n dX12_orderValue_84 rfl 2 rfl ?_
    refine zi_callVI (As := [.int a2]) (rest := []) (ci := 12) dX12_orderValue_85 ml_X12_124 md_X12_valueOf0 mv_X12_valueOf0 rfl (by decide) rfl rfl (Nat.le_of_ble_eq_true rfl) (Nat.le_of_ble_eq_true rfl) (k_X12_valueOf0 G n a0 a2 h) (fun r11 h12 => ?_)
    exact zi_retI dX12_orderValue_88
set_option maxRecDepth 20000 in
set_option maxHeartbeats 1000000 in
theorem wb_X12_partOf_94 (G : zG) (n : Nat) (kH : Nat → Int32 → zH → Option (Int64 × zH)) (dh : Nat) (hdh : 3 ≤ dh) (hH : ∀ (q0 : Nat) (q1 : Int32) (h : zH), zMet G yX12_sumOf cX12_sumOf 7 (some .long) zvL dh [.ref (zbase G + q0), .int q1] h (kH q0 q1 h)) (l0 : Nat) (l1 : Int32) (l2 : Int32) (l3 : Int32) (h : zH) : zW G yX12_partOf cX12_partOf 4 (some .long) zvL (dh + 1) 94 [(0, .ref (zbase G + l0)), (1, .int l1), (2, .int l2), (3, .int l3)] [] h (fb_X12_partOf_94 n kH l0 l1 l2 l3 h) := by
  unfold fb_X12_partOf_94
  refine zi_iload_n dX12_partOf_94 rfl 1 rfl ?_
  refine zi_if_eq (tgt := 105) dX12_partOf_95 (by decide) ?_ ?_
  · refine zi_lconst (v := 0) dX12_partOf_105 (by decide) ?_
    exact zi_retL dX12_partOf_106
  · refine zi_aload_n dX12_partOf_98 rfl 0 rfl ?_
    refine zi_getZ dX12_partOf_99 gf_X12_258 (fun v1 => ?_)
    refine zi_if_eq (tgt := 107) dX12_partOf_102 (by decide) ?_ ?_
    · refine zi_iload_n dX12_partOf_107 rfl 2 rfl ?_
      refine zi_bipush (v := 50) dX12_partOf_108 (by decide) ?_
      refine zi_icmp_ne (tgt := 130) dX12_partOf_110 (by decide) ?_ ?_
      · refine zi_aload_n dX12_partOf_130 rfl 0 rfl ?_
        refine zi_getZ dX12_partOf_131 gf_X12_278 (fun v2 => ?_)
        refine zi_if_eq (tgt := 147) dX12_partOf_134 (by decide) ?_ ?_
        · refine zi_aload_n dX12_partOf_147 rfl 0 rfl ?_
          refine zi_getR dX12_partOf_148 gf_X12_63 (fun v3 => ?_)
          refine zi_iload_n dX12_partOf_151 rfl 2 rfl ?_
          refine zi_bipush (v := 7) dX12_partOf_152 (by decide) ?_
          refine zi_isub dX12_partOf_154 ?_
          refine zi_iald dX12_partOf_155 (fun v4 => ?_)
          refine zi_i2l dX12_partOf_156 ?_
          exact zi_retL dX12_partOf_157
        · refine zi_aload_n dX12_partOf_137 rfl 0 rfl ?_
          refine zi_iload_n dX12_partOf_138 rfl 2 rfl ?_
          refine zi_iload_n dX12_partOf_139 rfl 3 rfl ?_
          refine zi_callVI (As := [.int l2, .int l3]) (rest := []) (ci := 12) dX12_partOf_140 ml_X12_281 md_X12_orderValue mv_X12_orderValue rfl (by decide) rfl rfl (Nat.le_of_ble_eq_true rfl) (by omega) (k_X12_orderValue G n l0 l2 l3 h) (fun r5 h6 => ?_)
          refine zi_i2l dX12_partOf_143 ?_
          refine zi_goto (tgt := 157) dX12_partOf_144 (by decide) ?_
          exact zi_retL dX12_partOf_157
      · refine zi_aload_n dX12_partOf_113 rfl 0 rfl ?_
        refine zi_getR dX12_partOf_114 gf_X12_28 (fun v7 => ?_)
        refine zi_sipush (v := 3015) dX12_partOf_117 (by decide) ?_
        refine zi_aload_n dX12_partOf_120 rfl 0 rfl ?_
        refine zi_getI dX12_partOf_121 gf_X12_248 (fun v8 => ?_)
        refine zi_iadd dX12_partOf_124 ?_
        refine zi_iconst (v := 1) dX12_partOf_125 (by decide) ?_
        refine zi_isub dX12_partOf_126 ?_
        refine zi_iald dX12_partOf_127 (fun v9 => ?_)
        refine zi_i2l dX12_partOf_128 ?_
        exact zi_retL dX12_partOf_129
    · refine zi_lconst (v := 0) dX12_partOf_105 (by decide) ?_
      exact zi_retL dX12_partOf_106
set_option maxRecDepth 20000 in
set_option maxHeartbeats 1000000 in
theorem wb_X12_partOf_70 (G : zG) (n : Nat) (kH : Nat → Int32 → zH → Option (Int64 × zH)) (dh : Nat) (hdh : 3 ≤ dh) (hH : ∀ (q0 : Nat) (q1 : Int32) (h : zH), zMet G yX12_sumOf cX12_sumOf 7 (some .long) zvL dh [.ref (zbase G + q0), .int q1] h (kH q0 q1 h)) (l0 : Nat) (l1 : Int32) (l2 : Int32) (h : zH) : zW G yX12_partOf cX12_partOf 4 (some .long) zvL (dh + 1) 70 [(0, .ref (zbase G + l0)), (1, .int l1), (2, .int l2)] [] h (fb_X12_partOf_70 n kH l0 l1 l2 h) := by
  unfold fb_X12_partOf_70
  refine zi_aload_n dX12_partOf_70 rfl 0 rfl ?_
  refine zi_getR dX12_partOf_71 gf_X12_28 (fun v1 => ?_)
  refine zi_sipush (v := 3015) dX12_partOf_74 (by decide) ?_
  refine zi_aload_n dX12_partOf_77 rfl 0 rfl ?_
  refine zi_getI dX12_partOf_78 gf_X12_248 (fun v2 => ?_)
  refine zi_iadd dX12_partOf_81 ?_
  refine zi_iald dX12_partOf_82 (fun v3 => ?_)
  refine zi_istore_n (l' := [(3, .int v3), (0, .ref (zbase G + l0)), (1, .int l1), (2, .int l2)]) dX12_partOf_83 rfl (by decide) rfl ?_
  refine zi_aload_n dX12_partOf_84 rfl 1 rfl ?_
  refine zi_dup dX12_partOf_85 rfl ?_
  refine zi_getI dX12_partOf_86 gf_X12_248 (fun v4 => ?_)
  refine zi_iconst (v := 1) dX12_partOf_89 (by decide) ?_
  refine zi_iadd dX12_partOf_90 ?_
  refine zi_putI dX12_partOf_91 gf_X12_248 (fun h5 => ?_)
  refine zi_sub [1, 2, 3, 0] rfl ?_
  exact wb_X12_partOf_94 G n kH dh hdh hH l0 l1 l2 v3 h5
set_option maxRecDepth 20000 in
set_option maxHeartbeats 1000000 in
theorem k_X12_partOf (G : zG) (n : Nat) (kH : Nat → Int32 → zH → Option (Int64 × zH)) (dh : Nat) (hdh : 3 ≤ dh) (hH : ∀ (q0 : Nat) (q1 : Int32) (h : zH), zMet G yX12_sumOf cX12_sumOf 7 (some .long) zvL dh [.ref (zbase G + q0), .int q1] h (kH q0 q1 h)) (a0 : Nat) (a1 : Int32) (h : zH) : zMet G yX12_partOf cX12_partOf 4 (some .long) zvL (dh + 1) [.ref (zbase G + a0), .int a1] h (f_X12_partOf n kH a0 a1 h) := by
  refine zMet_of (l := [(0, .ref (zbase G + a0)), (1, .int a1)]) (by decide) (Nat.le_of_ble_eq_true rfl) rfl ?_
  unfold f_X12_partOf
  refine zi_aload_n dX12_partOf_0 rfl 0 rfl ?_
  refine zi_bipush (v := 91) dX12_partOf_1 (by decide) ?_
  refine zi_callSI (As := [.int 91]) (rest := [.ref (zbase G + a0)]) dX12_partOf_3 ml_X12_207 md_X12_sign ms_X12_sign rfl rfl (Nat.le_of_ble_eq_true rfl) (by omega) (k_X12_sign G n 91 h) (fun r1 h2 => ?_)
  refine zi_callVI (As := [.int r1]) (rest := []) (ci := 12) dX12_partOf_6 ml_X12_272 md_X12_passes0 mv_X12_passes0 rfl (by decide) rfl rfl (Nat.le_of_ble_eq_true rfl) (by omega) (k_X12_passes0 G n a0 r1 h2) (fun r3 h4 => ?_)
  refine zi_if_eq (tgt := 30) dX12_partOf_9 (by decide) ?_ ?_
  · refine zi_aload_n dX12_partOf_30 rfl 0 rfl ?_
    refine zi_aload_n dX12_partOf_31 rfl 0 rfl ?_
    refine zi_getI dX12_partOf_32 gf_X12_248 (fun v5 => ?_)
    refine zi_callVI (As := [.int v5]) (rest := []) (ci := 12) dX12_partOf_35 ml_X12_251 md_X12_codeAt mv_X12_codeAt rfl (by decide) rfl rfl (Nat.le_of_ble_eq_true rfl) (by omega) (k_X12_codeAt G n a0 v5 h4) (fun r6 h7 => ?_)
    refine zi_istore_n (l' := [(2, .int r6), (0, .ref (zbase G + a0)), (1, .int a1)]) dX12_partOf_38 rfl (by decide) rfl ?_
    refine zi_iconst (v := 0) dX12_partOf_39 (by decide) ?_
    refine zi_istore_n (l' := [(3, .int 0), (2, .int r6), (0, .ref (zbase G + a0)), (1, .int a1)]) dX12_partOf_40 rfl (by decide) rfl ?_
    refine zi_aload_n dX12_partOf_41 rfl 2 rfl ?_
    refine zi_dup dX12_partOf_42 rfl ?_
    refine zi_getI dX12_partOf_43 gf_X12_248 (fun v8 => ?_)
    refine zi_iconst (v := 1) dX12_partOf_46 (by decide) ?_
    refine zi_iadd dX12_partOf_47 ?_
    refine zi_putI dX12_partOf_48 gf_X12_248 (fun h9 => ?_)
    refine zi_aload_n dX12_partOf_51 rfl 2 rfl ?_
    refine zi_getZ dX12_partOf_52 gf_X12_278 (fun v10 => ?_)
    refine zi_if_eq (tgt := 94) dX12_partOf_55 (by decide) ?_ ?_
    · refine zi_sub [2, 3, 1, 0] rfl ?_
      exact wb_X12_partOf_94 G n kH dh hdh hH a0 a1 r6 0 h9
    · refine zi_iload_n dX12_partOf_58 rfl 1 rfl ?_
      refine zi_bipush (v := 18) dX12_partOf_59 (by decide) ?_
      refine zi_icmp_eq (tgt := 70) dX12_partOf_61 (by decide) ?_ ?_
      · refine zi_sub [2, 3, 1] rfl ?_
        exact wb_X12_partOf_70 G n kH dh hdh hH a0 a1 r6 h9
      · refine zi_iload_n dX12_partOf_64 rfl 1 rfl ?_
        refine zi_bipush (v := 19) dX12_partOf_65 (by decide) ?_
        refine zi_icmp_ne (tgt := 94) dX12_partOf_67 (by decide) ?_ ?_
        · refine zi_sub [2, 3, 1, 0] rfl ?_
          exact wb_X12_partOf_94 G n kH dh hdh hH a0 a1 r6 0 h9
        · refine zi_sub [2, 3, 1] rfl ?_
          exact wb_X12_partOf_70 G n kH dh hdh hH a0 a1 r6 h9
  · refine zi_aload_n dX12_partOf_12 rfl 0 rfl ?_
    refine zi_iload_n dX12_partOf_13 rfl 1 rfl ?_
    refine zi_callVL (As := [.int a1]) (rest := []) (ci := 12) dX12_partOf_14 ml_X12_275 md_X12_sumOf mv_X12_sumOf rfl (by decide) rfl rfl (Nat.le_of_ble_eq_true rfl) (by omega) (hH a0 a1 h4) (fun r11 h12 => ?_)
    refine zi_lstore_n (l' := [(2, .long r11), (0, .ref (zbase G + a0)), (1, .int a1)]) dX12_partOf_17 rfl (by decide) rfl ?_
    refine zi_aload_n dX12_partOf_18 rfl 1 rfl ?_
    refine zi_dup dX12_partOf_19 rfl ?_
    refine zi_getI dX12_partOf_20 gf_X12_248 (fun v13 => ?_)
    refine zi_iconst (v := 1) dX12_partOf_23 (by decide) ?_
    refine zi_iadd dX12_partOf_24 ?_
    refine zi_putI dX12_partOf_25 gf_X12_248 (fun h14 => ?_)
    refine zi_lload_n dX12_partOf_28 rfl 0 rfl ?_
    exact zi_retL dX12_partOf_29
set_option maxRecDepth 20000 in
set_option maxHeartbeats 1000000 in
theorem wb_X12_bounded_25 (G : zG) (n : Nat) (l0 : Nat) (l1 : Int64) (h : zH) : zW G yX12_bounded cX12_bounded 4 (some .long) zvL 1 25 [(0, .ref (zbase G + l0)), (1, .long l1)] [] h (fb_X12_bounded_25 n l0 l1 h) := by
  unfold fb_X12_bounded_25
  refine zi_aload_n dX12_bounded_25 rfl 0 rfl ?_
  refine zi_getZ dX12_bounded_26 gf_X12_258 (fun v1 => ?_)
  refine zi_if_eq (tgt := 36) dX12_bounded_29 (by decide) ?_ ?_
  · refine zi_lload_n dX12_bounded_36 rfl 1 rfl ?_
    exact zi_retL dX12_bounded_37
  · refine zi_lconst (v := 0) dX12_bounded_32 (by decide) ?_
    refine zi_goto (tgt := 37) dX12_bounded_33 (by decide) ?_
    exact zi_retL dX12_bounded_37
set_option maxRecDepth 20000 in
set_option maxHeartbeats 1000000 in
theorem wb_X12_bounded_20 (G : zG) (n : Nat) (l0 : Nat) (l1 : Int64) (h : zH) : zW G yX12_bounded cX12_bounded 4 (some .long) zvL 1 20 [(0, .ref (zbase G + l0)), (1, .long l1)] [] h (fb_X12_bounded_20 n l0 l1 h) := by
  unfold fb_X12_bounded_20
  refine zi_aload_n dX12_bounded_20 rfl 0 rfl ?_
  refine zi_iconst (v := 1) dX12_bounded_21 (by decide) ?_
  refine zi_putZ dX12_bounded_22 gf_X12_258 (fun h1 => ?_)
  refine zi_sub [0, 1] rfl ?_
  exact wb_X12_bounded_25 G n l0 l1 h1
set_option maxRecDepth 20000 in
set_option maxHeartbeats 1000000 in
theorem k_X12_bounded (G : zG) (n : Nat) (a0 : Nat) (a1 : Int64) (a2 : Int32) (h : zH) : zMet G yX12_bounded cX12_bounded 4 (some .long) zvL 1 [.ref (zbase G + a0), .long a1, .int a2] h (f_X12_bounded n a0 a1 a2 h) := by
  refine zMet_of (l := [(0, .ref (zbase G + a0)), (1, .long a1), (3, .int a2)]) (by decide) (Nat.le_of_ble_eq_true rfl) rfl ?_
  unfold f_X12_bounded
  refine zi_iload_n dX12_bounded_0 rfl 2 rfl ?_
  refine zi_if_eq (tgt := 25) dX12_bounded_1 (by decide) ?_ ?_
  · refine zi_sub [0, 1] rfl ?_
    exact wb_X12_bounded_25 G n a0 a1 h
  · refine zi_lload_n dX12_bounded_4 rfl 1 rfl ?_
    refine zi_ldc2 dX12_bounded_5 kl_X12_254 ?_
    refine zi_lcmp dX12_bounded_8 ?_
    refine zi_if_gt (tgt := 20) dX12_bounded_9 (by decide) ?_ ?_
    · refine zi_sub [0, 1] rfl ?_
      exact wb_X12_bounded_20 G n a0 a1 h
    · refine zi_lload_n dX12_bounded_12 rfl 1 rfl ?_
      refine zi_ldc2 dX12_bounded_13 kl_X12_256 ?_
      refine zi_lcmp dX12_bounded_16 ?_
      refine zi_if_ge (tgt := 25) dX12_bounded_17 (by decide) ?_ ?_
      · refine zi_sub [0, 1] rfl ?_
        exact wb_X12_bounded_25 G n a0 a1 h
      · refine zi_sub [0, 1] rfl ?_
        exact wb_X12_bounded_20 G n a0 a1 h
set_option maxRecDepth 20000 in
set_option maxHeartbeats 1000000 in
theorem wb_X12_termOf_160 (G : zG) (n : Nat) (kH : Nat → Int32 → zH → Option (Int64 × zH)) (dh : Nat) (hdh : 3 ≤ dh) (hH : ∀ (q0 : Nat) (q1 : Int32) (h : zH), zMet G yX12_sumOf cX12_sumOf 7 (some .long) zvL dh [.ref (zbase G + q0), .int q1] h (kH q0 q1 h)) (k6 : Nat → Int32 → Int64 → zH → Option (Int64 × zH)) (hk6 : ∀ (l0 : Nat) (l1 : Int32) (l2 : Int64) (h : zH), zW G yX12_termOf cX12_termOf 7 (some .long) zvL (dh + 2) 6 [(0, .ref (zbase G + l0)), (1, .int l1), (2, .long l2)] [] h (k6 l0 l1 l2 h)) (l0 : Nat) (l1 : Int32) (s0 : Nat) (s1 : Int64) (h : zH) : zW G yX12_termOf cX12_termOf 7 (some .long) zvL (dh + 2) 160 [(0, .ref (zbase G + l0)), (1, .int l1)] [.long s1, .ref (zbase G + s0)] h (fb_X12_termOf_160 n kH k6 l0 l1 s0 s1 h) := by
  unfold fb_X12_termOf_160
  refine zi_iload_n dX12_termOf_160 rfl 1 rfl ?_
  refine zi_callVL (As := [.long s1, .int l1]) (rest := []) (ci := 12) dX12_termOf_161 ml_X12_265 md_X12_bounded mv_X12_bounded rfl (by decide) rfl rfl (Nat.le_of_ble_eq_true rfl) (by omega) (k_X12_bounded G n s0 s1 l1 h) (fun r1 h2 => ?_)
  refine zi_lstore_n (l' := [(2, .long r1), (0, .ref (zbase G + l0)), (1, .int l1)]) dX12_termOf_164 rfl (by decide) rfl ?_
  refine zi_goto (tgt := 6) dX12_termOf_165 (by decide) ?_
  refine zi_sub [1, 2, 0] rfl ?_
  exact hk6 l0 l1 r1 h2
set_option maxRecDepth 20000 in
set_option maxHeartbeats 1000000 in
theorem wb_X12_termOf_121 (G : zG) (n : Nat) (kH : Nat → Int32 → zH → Option (Int64 × zH)) (dh : Nat) (hdh : 3 ≤ dh) (hH : ∀ (q0 : Nat) (q1 : Int32) (h : zH), zMet G yX12_sumOf cX12_sumOf 7 (some .long) zvL dh [.ref (zbase G + q0), .int q1] h (kH q0 q1 h)) (k6 : Nat → Int32 → Int64 → zH → Option (Int64 × zH)) (hk6 : ∀ (l0 : Nat) (l1 : Int32) (l2 : Int64) (h : zH), zW G yX12_termOf cX12_termOf 7 (some .long) zvL (dh + 2) 6 [(0, .ref (zbase G + l0)), (1, .int l1), (2, .long l2)] [] h (k6 l0 l1 l2 h)) (l0 : Nat) (l1 : Int32) (l2 : Int64) (l4 : Int32) (l5 : Int64) (h : zH) : zW G yX12_termOf cX12_termOf 7 (some .long) zvL (dh + 2) 121 [(0, .ref (zbase G + l0)), (1, .int l1), (2, .long l2), (4, .int l4), (5, .long l5)] [] h (fb_X12_termOf_121 n kH k6 l0 l1 l2 l4 l5 h) := by
  unfold fb_X12_termOf_121
  refine zi_aload_n dX12_termOf_121 rfl 0 rfl ?_
  refine zi_iload dX12_termOf_122 3 rfl ?_
  refine zi_bipush (v := 42) dX12_termOf_124 (by decide) ?_
  refine zi_callSI (As := [.int 42]) (rest := [.int l4, .ref (zbase G + l0)]) dX12_termOf_126 ml_X12_207 md_X12_sign ms_X12_sign rfl rfl (Nat.le_of_ble_eq_true rfl) (by omega) (k_X12_sign G n 42 h) (fun r1 h2 => ?_)
  refine zi_icmp_ne (tgt := 139) dX12_termOf_129 (by decide) ?_ ?_
  · refine zi_iload dX12_termOf_139 3 rfl ?_
    refine zi_bipush (v := 47) dX12_termOf_141 (by decide) ?_
    refine zi_callSI (As := [.int 47]) (rest := [.int l4, .ref (zbase G + l0)]) dX12_termOf_143 ml_X12_207 md_X12_sign ms_X12_sign rfl rfl (Nat.le_of_ble_eq_true rfl) (by omega) (k_X12_sign G n 47 h2) (fun r3 h4 => ?_)
    refine zi_icmp_ne (tgt := 156) dX12_termOf_146 (by decide) ?_ ?_
    · refine zi_lload_n dX12_termOf_156 rfl 2 rfl ?_
      refine zi_lload dX12_termOf_157 4 rfl ?_
      refine zi_lremz dX12_termOf_159 ?_
      refine zi_sub [0, 1] rfl ?_
      exact wb_X12_termOf_160 G n kH dh hdh hH k6 hk6 l0 l1 l0 (l2 - l2 / l5 * l5) h4
    · refine zi_lload_n dX12_termOf_149 rfl 2 rfl ?_
      refine zi_lload dX12_termOf_150 4 rfl ?_
      refine zi_ldivz dX12_termOf_152 ?_
      refine zi_goto (tgt := 160) dX12_termOf_153 (by decide) ?_
      refine zi_sub [0, 1] rfl ?_
      exact wb_X12_termOf_160 G n kH dh hdh hH k6 hk6 l0 l1 l0 (l2 / l5) h4
  · refine zi_lload_n dX12_termOf_132 rfl 2 rfl ?_
    refine zi_lload dX12_termOf_133 4 rfl ?_
    refine zi_lmul dX12_termOf_135 ?_
    refine zi_goto (tgt := 160) dX12_termOf_136 (by decide) ?_
    refine zi_sub [0, 1] rfl ?_
    exact wb_X12_termOf_160 G n kH dh hdh hH k6 hk6 l0 l1 l0 (l2 * l5) h2
set_option maxRecDepth 20000 in
set_option maxHeartbeats 1000000 in
theorem wb_X12_termOf_115 (G : zG) (n : Nat) (kH : Nat → Int32 → zH → Option (Int64 × zH)) (dh : Nat) (hdh : 3 ≤ dh) (hH : ∀ (q0 : Nat) (q1 : Int32) (h : zH), zMet G yX12_sumOf cX12_sumOf 7 (some .long) zvL dh [.ref (zbase G + q0), .int q1] h (kH q0 q1 h)) (k6 : Nat → Int32 → Int64 → zH → Option (Int64 × zH)) (hk6 : ∀ (l0 : Nat) (l1 : Int32) (l2 : Int64) (h : zH), zW G yX12_termOf cX12_termOf 7 (some .long) zvL (dh + 2) 6 [(0, .ref (zbase G + l0)), (1, .int l1), (2, .long l2)] [] h (k6 l0 l1 l2 h)) (l0 : Nat) (l1 : Int32) (l2 : Int64) (l4 : Int32) (s0 : Nat) (s1 : Int32) (h : zH) : zW G yX12_termOf cX12_termOf 7 (some .long) zvL (dh + 2) 115 [(0, .ref (zbase G + l0)), (1, .int l1), (2, .long l2), (4, .int l4)] [.int s1, .ref (zbase G + s0)] h (fb_X12_termOf_115 n kH k6 l0 l1 l2 l4 s0 s1 h) := by
  unfold fb_X12_termOf_115
  refine zi_putZ dX12_termOf_115 gf_X12_258 (fun h1 => ?_)
  refine zi_lconst (v := 1) dX12_termOf_118 (by decide) ?_
  refine zi_lstore (l' := [(5, .long 1), (0, .ref (zbase G + l0)), (1, .int l1), (2, .long l2), (4, .int l4)]) dX12_termOf_119 (by decide) rfl ?_
  refine zi_sub [1, 2, 3, 4, 0] rfl ?_
  exact wb_X12_termOf_121 G n kH dh hdh hH k6 hk6 l0 l1 l2 l4 1 h1
set_option maxRecDepth 20000 in
set_option maxHeartbeats 1000000 in
theorem wb_X12_termOf_110 (G : zG) (n : Nat) (kH : Nat → Int32 → zH → Option (Int64 × zH)) (dh : Nat) (hdh : 3 ≤ dh) (hH : ∀ (q0 : Nat) (q1 : Int32) (h : zH), zMet G yX12_sumOf cX12_sumOf 7 (some .long) zvL dh [.ref (zbase G + q0), .int q1] h (kH q0 q1 h)) (k6 : Nat → Int32 → Int64 → zH → Option (Int64 × zH)) (hk6 : ∀ (l0 : Nat) (l1 : Int32) (l2 : Int64) (h : zH), zW G yX12_termOf cX12_termOf 7 (some .long) zvL (dh + 2) 6 [(0, .ref (zbase G + l0)), (1, .int l1), (2, .long l2)] [] h (k6 l0 l1 l2 h)) (l0 : Nat) (l1 : Int32) (l2 : Int64) (l4 : Int32) (s0 : Nat) (h : zH) : zW G yX12_termOf cX12_termOf 7 (some .long) zvL (dh + 2) 110 [(0, .ref (zbase G + l0)), (1, .int l1), (2, .long l2), (4, .int l4)] [.ref (zbase G + s0)] h (fb_X12_termOf_110 n kH k6 l0 l1 l2 l4 s0 h) := by
  unfold fb_X12_termOf_110
  refine zi_iconst (v := 1) dX12_termOf_110 (by decide) ?_
  refine zi_goto (tgt := 115) dX12_termOf_111 (by decide) ?_
  refine zi_sub [0, 1, 2, 3] rfl ?_
  exact wb_X12_termOf_115 G n kH dh hdh hH k6 hk6 l0 l1 l2 l4 s0 1 h
set_option maxRecDepth 20000 in
set_option maxHeartbeats 1000000 in
theorem wb_X12_termOf_54 (G : zG) (n : Nat) (kH : Nat → Int32 → zH → Option (Int64 × zH)) (dh : Nat) (hdh : 3 ≤ dh) (hH : ∀ (q0 : Nat) (q1 : Int32) (h : zH), zMet G yX12_sumOf cX12_sumOf 7 (some .long) zvL dh [.ref (zbase G + q0), .int q1] h (kH q0 q1 h)) (k6 : Nat → Int32 → Int64 → zH → Option (Int64 × zH)) (hk6 : ∀ (l0 : Nat) (l1 : Int32) (l2 : Int64) (h : zH), zW G yX12_termOf cX12_termOf 7 (some .long) zvL (dh + 2) 6 [(0, .ref (zbase G + l0)), (1, .int l1), (2, .long l2)] [] h (k6 l0 l1 l2 h)) (l0 : Nat) (l1 : Int32) (l2 : Int64) (h : zH) : zW G yX12_termOf cX12_termOf 7 (some .long) zvL (dh + 2) 54 [(0, .ref (zbase G + l0)), (1, .int l1), (2, .long l2)] [] h (fb_X12_termOf_54 n kH k6 l0 l1 l2 h) := by
  unfold fb_X12_termOf_54
  refine zi_aload_n dX12_termOf_54 rfl 0 rfl ?_
  refine zi_aload_n dX12_termOf_55 rfl 0 rfl ?_
  refine zi_getI dX12_termOf_56 gf_X12_248 (fun v1 => ?_)
  refine zi_callVI (As := [.int v1]) (rest := []) (ci := 12) dX12_termOf_59 ml_X12_251 md_X12_codeAt mv_X12_codeAt rfl (by decide) rfl rfl (Nat.le_of_ble_eq_true rfl) (by omega) (k_X12_codeAt G n l0 v1 h) (fun r2 h3 => ?_)
  refine zi_istore (l' := [(4, .int r2), (0, .ref (zbase G + l0)), (1, .int l1), (2, .long l2)]) dX12_termOf_62 (by decide) rfl ?_
  refine zi_aload_n dX12_termOf_64 rfl 1 rfl ?_
  refine zi_dup dX12_termOf_65 rfl ?_
  refine zi_getI dX12_termOf_66 gf_X12_248 (fun v4 => ?_)
  refine zi_iconst (v := 1) dX12_termOf_69 (by decide) ?_
  refine zi_iadd dX12_termOf_70 ?_
  refine zi_putI dX12_termOf_71 gf_X12_248 (fun h5 => ?_)
  refine zi_aload_n dX12_termOf_74 rfl 1 rfl ?_
  refine zi_iload_n dX12_termOf_75 rfl 2 rfl ?_
  refine zi_callVL (As := [.int l1]) (rest := []) (ci := 12) dX12_termOf_76 ml_X12_269 md_X12_partOf mv_X12_partOf rfl (by decide) rfl rfl (Nat.le_of_ble_eq_true rfl) (by omega) (k_X12_partOf G n kH dh hdh hH l0 l1 h5) (fun r6 h7 => ?_)
  refine zi_lstore (l' := [(5, .long r6), (4, .int r2), (0, .ref (zbase G + l0)), (1, .int l1), (2, .long l2)]) dX12_termOf_79 (by decide) rfl ?_
  refine zi_iload dX12_termOf_81 1 rfl ?_
  refine zi_bipush (v := 42) dX12_termOf_83 (by decide) ?_
  refine zi_callSI (As := [.int 42]) (rest := [.int r2]) dX12_termOf_85 ml_X12_207 md_X12_sign ms_X12_sign rfl rfl (Nat.le_of_ble_eq_true rfl) (by omega) (k_X12_sign G n 42 h7) (fun r8 h9 => ?_)
  refine zi_icmp_eq (tgt := 121) dX12_termOf_88 (by decide) ?_ ?_
  · refine zi_sub [2, 3, 4, 1, 0] rfl ?_
    exact wb_X12_termOf_121 G n kH dh hdh hH k6 hk6 l0 l1 l2 r2 r6 h9
  · refine zi_lload dX12_termOf_91 0 rfl ?_
    refine zi_lconst (v := 0) dX12_termOf_93 (by decide) ?_
    refine zi_lcmp dX12_termOf_94 ?_
    refine zi_if_ne (tgt := 121) dX12_termOf_95 (by decide) ?_ ?_
    · refine zi_sub [2, 3, 4, 1, 0] rfl ?_
      exact wb_X12_termOf_121 G n kH dh hdh hH k6 hk6 l0 l1 l2 r2 r6 h9
    · refine zi_aload_n dX12_termOf_98 rfl 2 rfl ?_
      refine zi_aload_n dX12_termOf_99 rfl 2 rfl ?_
      refine zi_getZ dX12_termOf_100 gf_X12_258 (fun v10 => ?_)
      refine zi_if_ne (tgt := 110) dX12_termOf_103 (by decide) ?_ ?_
      · refine zi_sub [2, 3, 4, 1] rfl ?_
        exact wb_X12_termOf_110 G n kH dh hdh hH k6 hk6 l0 l1 l2 r2 l0 h9
      · refine zi_iload_n dX12_termOf_106 rfl 3 rfl ?_
        refine zi_if_eq (tgt := 114) dX12_termOf_107 (by decide) ?_ ?_
        · refine zi_iconst (v := 0) dX12_termOf_114 (by decide) ?_
          refine zi_sub [2, 3, 4, 1] rfl ?_
          exact wb_X12_termOf_115 G n kH dh hdh hH k6 hk6 l0 l1 l2 r2 l0 0 h9
        · refine zi_sub [2, 3, 4, 1] rfl ?_
          exact wb_X12_termOf_110 G n kH dh hdh hH k6 hk6 l0 l1 l2 r2 l0 h9
set_option maxRecDepth 20000 in
set_option maxHeartbeats 1000000 in
theorem wb_X12_termOf_6 (G : zG) (n : Nat) (kH : Nat → Int32 → zH → Option (Int64 × zH)) (dh : Nat) (hdh : 3 ≤ dh) (hH : ∀ (q0 : Nat) (q1 : Int32) (h : zH), zMet G yX12_sumOf cX12_sumOf 7 (some .long) zvL dh [.ref (zbase G + q0), .int q1] h (kH q0 q1 h)) (k6 : Nat → Int32 → Int64 → zH → Option (Int64 × zH)) (hk6 : ∀ (l0 : Nat) (l1 : Int32) (l2 : Int64) (h : zH), zW G yX12_termOf cX12_termOf 7 (some .long) zvL (dh + 2) 6 [(0, .ref (zbase G + l0)), (1, .int l1), (2, .long l2)] [] h (k6 l0 l1 l2 h)) (l0 : Nat) (l1 : Int32) (l2 : Int64) (h : zH) : zW G yX12_termOf cX12_termOf 7 (some .long) zvL (dh + 2) 6 [(0, .ref (zbase G + l0)), (1, .int l1), (2, .long l2)] [] h (fb_X12_termOf_6 n kH k6 l0 l1 l2 h) := by
  unfold fb_X12_termOf_6
  refine zi_aload_n dX12_termOf_6 rfl 0 rfl ?_
  refine zi_aload_n dX12_termOf_7 rfl 0 rfl ?_
  refine zi_getI dX12_termOf_8 gf_X12_248 (fun v1 => ?_)
  refine zi_callVI (As := [.int v1]) (rest := []) (ci := 12) dX12_termOf_11 ml_X12_251 md_X12_codeAt mv_X12_codeAt rfl (by decide) rfl rfl (Nat.le_of_ble_eq_true rfl) (by omega) (k_X12_codeAt G n l0 v1 h) (fun r2 h3 => ?_)
  refine zi_bipush (v := 42) dX12_termOf_14 (by decide) ?_
  refine zi_callSI (As := [.int 42]) (rest := [.int r2]) dX12_termOf_16 ml_X12_207 md_X12_sign ms_X12_sign rfl rfl (Nat.le_of_ble_eq_true rfl) (by omega) (k_X12_sign G n 42 h3) (fun r4 h5 => ?_)
  refine zi_icmp_eq (tgt := 54) dX12_termOf_19 (by decide) ?_ ?_
  · refine zi_sub [0, 1, 2] rfl ?_
    exact wb_X12_termOf_54 G n kH dh hdh hH k6 hk6 l0 l1 l2 h5
  · refine zi_aload_n dX12_termOf_22 rfl 0 rfl ?_
    refine zi_aload_n dX12_termOf_23 rfl 0 rfl ?_
    refine zi_getI dX12_termOf_24 gf_X12_248 (fun v6 => ?_)
    refine zi_callVI (As := [.int v6]) (rest := []) (ci := 12) dX12_termOf_27 ml_X12_251 md_X12_codeAt mv_X12_codeAt rfl (by decide) rfl rfl (Nat.le_of_ble_eq_true rfl) (by omega) (k_X12_codeAt G n l0 v6 h5) (fun r7 h8 => ?_)
    refine zi_bipush (v := 47) dX12_termOf_30 (by decide) ?_
    refine zi_callSI (As := [.int 47]) (rest := [.int r7]) dX12_termOf_32 ml_X12_207 md_X12_sign ms_X12_sign rfl rfl (Nat.le_of_ble_eq_true rfl) (by omega) (k_X12_sign G n 47 h8) (fun r9 h10 => ?_)
    refine zi_icmp_eq (tgt := 54) dX12_termOf_35 (by decide) ?_ ?_
    · refine zi_sub [0, 1, 2] rfl ?_
      exact wb_X12_termOf_54 G n kH dh hdh hH k6 hk6 l0 l1 l2 h10
    · refine zi_aload_n dX12_termOf_38 rfl 0 rfl ?_
      refine zi_aload_n dX12_termOf_39 rfl 0 rfl ?_
      refine zi_getI dX12_termOf_40 gf_X12_248 (fun v11 => ?_)
      refine zi_callVI (As := [.int v11]) (rest := []) (ci := 12) dX12_termOf_43 ml_X12_251 md_X12_codeAt mv_X12_codeAt rfl (by decide) rfl rfl (Nat.le_of_ble_eq_true rfl) (by omega) (k_X12_codeAt G n l0 v11 h10) (fun r12 h13 => ?_)
      refine zi_bipush (v := 37) dX12_termOf_46 (by decide) ?_
      refine zi_callSI (As := [.int 37]) (rest := [.int r12]) dX12_termOf_48 ml_X12_207 md_X12_sign ms_X12_sign rfl rfl (Nat.le_of_ble_eq_true rfl) (by omega) (k_X12_sign G n 37 h13) (fun r14 h15 => ?_)
      refine zi_icmp_ne (tgt := 168) dX12_termOf_51 (by decide) ?_ ?_
      · refine zi_lload_n dX12_termOf_168 rfl 2 rfl ?_
        exact zi_retL dX12_termOf_169
      · refine zi_sub [0, 1, 2] rfl ?_
        exact wb_X12_termOf_54 G n kH dh hdh hH k6 hk6 l0 l1 l2 h15
theorem wl_X12_termOf_6 (G : zG) (n : Nat) (kH : Nat → Int32 → zH → Option (Int64 × zH)) (dh : Nat) (hdh : 3 ≤ dh) (hH : ∀ (q0 : Nat) (q1 : Int32) (h : zH), zMet G yX12_sumOf cX12_sumOf 7 (some .long) zvL dh [.ref (zbase G + q0), .int q1] h (kH q0 q1 h)) : ∀ (t : Nat) (l0 : Nat) (l1 : Int32) (l2 : Int64) (h : zH), zW G yX12_termOf cX12_termOf 7 (some .long) zvL (dh + 2) 6 [(0, .ref (zbase G + l0)), (1, .int l1), (2, .long l2)] [] h (zlp3 (fb_X12_termOf_6 n kH ) t l0 l1 l2 h) := by
  intro t
  induction t with
  | zero => intros; exact zW_none
  | succ t ih => intro l0 l1 l2 h; rw [zlp3_s]; exact wb_X12_termOf_6 G n kH dh hdh hH  _  ih l0 l1 l2 h
set_option maxRecDepth 20000 in
set_option maxHeartbeats 1000000 in
theorem k_X12_termOf (G : zG) (n : Nat) (kH : Nat → Int32 → zH → Option (Int64 × zH)) (dh : Nat) (hdh : 3 ≤ dh) (hH : ∀ (q0 : Nat) (q1 : Int32) (h : zH), zMet G yX12_sumOf cX12_sumOf 7 (some .long) zvL dh [.ref (zbase G + q0), .int q1] h (kH q0 q1 h)) (a0 : Nat) (a1 : Int32) (h : zH) : zMet G yX12_termOf cX12_termOf 7 (some .long) zvL (dh + 2) [.ref (zbase G + a0), .int a1] h (f_X12_termOf n kH a0 a1 h) := by
  refine zMet_of (l := [(0, .ref (zbase G + a0)), (1, .int a1)]) (by decide) (Nat.le_of_ble_eq_true rfl) rfl ?_
  unfold f_X12_termOf
  refine zi_aload_n dX12_termOf_0 rfl 0 rfl ?_
  refine zi_iload_n dX12_termOf_1 rfl 1 rfl ?_
  refine zi_callVL (As := [.int a1]) (rest := []) (ci := 12) dX12_termOf_2 ml_X12_269 md_X12_partOf mv_X12_partOf rfl (by decide) rfl rfl (Nat.le_of_ble_eq_true rfl) (by omega) (k_X12_partOf G n kH dh hdh hH a0 a1 h) (fun r1 h2 => ?_)
  refine zi_lstore_n (l' := [(2, .long r1), (0, .ref (zbase G + a0)), (1, .int a1)]) dX12_termOf_5 rfl (by decide) rfl ?_
  refine zi_sub [1, 2, 0] rfl ?_
  exact wl_X12_termOf_6 G n kH dh hdh hH n a0 a1 r1 h2
set_option maxRecDepth 20000 in
set_option maxHeartbeats 1000000 in
theorem wb_X12_sumOf_95 (G : zG) (n : Nat) (kH : Nat → Int32 → zH → Option (Int64 × zH)) (dh : Nat) (hdh : 3 ≤ dh) (hH : ∀ (q0 : Nat) (q1 : Int32) (h : zH), zMet G yX12_sumOf cX12_sumOf 7 (some .long) zvL dh [.ref (zbase G + q0), .int q1] h (kH q0 q1 h)) (k6 : Nat → Int32 → Int64 → zH → Option (Int64 × zH)) (hk6 : ∀ (l0 : Nat) (l1 : Int32) (l2 : Int64) (h : zH), zW G yX12_sumOf cX12_sumOf 7 (some .long) zvL (dh + 3) 6 [(0, .ref (zbase G + l0)), (1, .int l1), (2, .long l2)] [] h (k6 l0 l1 l2 h)) (l0 : Nat) (l1 : Int32) (s0 : Nat) (s1 : Int64) (h : zH) : zW G yX12_sumOf cX12_sumOf 7 (some .long) zvL (dh + 3) 95 [(0, .ref (zbase G + l0)), (1, .int l1)] [.long s1, .ref (zbase G + s0)] h (fb_X12_sumOf_95 n kH k6 l0 l1 s0 s1 h) := by
  unfold fb_X12_sumOf_95
  refine zi_iload_n dX12_sumOf_95 rfl 1 rfl ?_
  refine zi_callVL (As := [.long s1, .int l1]) (rest := []) (ci := 12) dX12_sumOf_96 ml_X12_265 md_X12_bounded mv_X12_bounded rfl (by decide) rfl rfl (Nat.le_of_ble_eq_true rfl) (by omega) (k_X12_bounded G n s0 s1 l1 h) (fun r1 h2 => ?_)
  refine zi_lstore_n (l' := [(2, .long r1), (0, .ref (zbase G + l0)), (1, .int l1)]) dX12_sumOf_99 rfl (by decide) rfl ?_
  refine zi_goto (tgt := 6) dX12_sumOf_100 (by decide) ?_
  refine zi_sub [1, 2, 0] rfl ?_
  exact hk6 l0 l1 r1 h2
set_option maxRecDepth 20000 in
set_option maxHeartbeats 1000000 in
theorem wb_X12_sumOf_59 (G : zG) (n : Nat) (kH : Nat → Int32 → zH → Option (Int64 × zH)) (dh : Nat) (hdh : 3 ≤ dh) (hH : ∀ (q0 : Nat) (q1 : Int32) (h : zH), zMet G yX12_sumOf cX12_sumOf 7 (some .long) zvL dh [.ref (zbase G + q0), .int q1] h (kH q0 q1 h)) (k6 : Nat → Int32 → Int64 → zH → Option (Int64 × zH)) (hk6 : ∀ (l0 : Nat) (l1 : Int32) (l2 : Int64) (h : zH), zW G yX12_sumOf cX12_sumOf 7 (some .long) zvL (dh + 3) 6 [(0, .ref (zbase G + l0)), (1, .int l1), (2, .long l2)] [] h (k6 l0 l1 l2 h)) (l0 : Nat) (l1 : Int32) (l2 : Int64) (s0 : Int32) (h : zH) : zW G yX12_sumOf cX12_sumOf 7 (some .long) zvL (dh + 3) 59 [(0, .ref (zbase G + l0)), (1, .int l1), (2, .long l2)] [.int s0] h (fb_X12_sumOf_59 n kH k6 l0 l1 l2 s0 h) := by
  unfold fb_X12_sumOf_59
  refine zi_istore (l' := [(4, .int s0), (0, .ref (zbase G + l0)), (1, .int l1), (2, .long l2)]) dX12_sumOf_59 (by decide) rfl ?_
  refine zi_aload_n dX12_sumOf_61 rfl 1 rfl ?_
  refine zi_dup dX12_sumOf_62 rfl ?_
  refine zi_getI dX12_sumOf_63 gf_X12_248 (fun v1 => ?_)
  refine zi_iconst (v := 1) dX12_sumOf_66 (by decide) ?_
  refine zi_iadd dX12_sumOf_67 ?_
  refine zi_putI dX12_sumOf_68 gf_X12_248 (fun h2 => ?_)
  refine zi_aload_n dX12_sumOf_71 rfl 1 rfl ?_
  refine zi_iload_n dX12_sumOf_72 rfl 2 rfl ?_
  refine zi_callVL (As := [.int l1]) (rest := []) (ci := 12) dX12_sumOf_73 ml_X12_261 md_X12_termOf mv_X12_termOf rfl (by decide) rfl rfl (Nat.le_of_ble_eq_true rfl) (by omega) (k_X12_termOf G n kH dh hdh hH l0 l1 h2) (fun r3 h4 => ?_)
  refine zi_lstore (l' := [(5, .long r3), (4, .int s0), (0, .ref (zbase G + l0)), (1, .int l1), (2, .long l2)]) dX12_sumOf_76 (by decide) rfl ?_
  refine zi_aload_n dX12_sumOf_78 rfl 2 rfl ?_
  refine zi_iload dX12_sumOf_79 1 rfl ?_
  refine zi_if_eq (tgt := 91) dX12_sumOf_81 (by decide) ?_ ?_
  · refine zi_lload_n dX12_sumOf_91 rfl 4 rfl ?_
    refine zi_lload dX12_sumOf_92 0 rfl ?_
    refine zi_lsub dX12_sumOf_94 ?_
    refine zi_sub [2, 3] rfl ?_
    exact wb_X12_sumOf_95 G n kH dh hdh hH k6 hk6 l0 l1 l0 (l2 - r3) h4
  · refine zi_lload_n dX12_sumOf_84 rfl 4 rfl ?_
    refine zi_lload dX12_sumOf_85 0 rfl ?_
    refine zi_ladd dX12_sumOf_87 ?_
    refine zi_goto (tgt := 95) dX12_sumOf_88 (by decide) ?_
    refine zi_sub [2, 3] rfl ?_
    exact wb_X12_sumOf_95 G n kH dh hdh hH k6 hk6 l0 l1 l0 (l2 + r3) h4
set_option maxRecDepth 20000 in
set_option maxHeartbeats 1000000 in
theorem wb_X12_sumOf_38 (G : zG) (n : Nat) (kH : Nat → Int32 → zH → Option (Int64 × zH)) (dh : Nat) (hdh : 3 ≤ dh) (hH : ∀ (q0 : Nat) (q1 : Int32) (h : zH), zMet G yX12_sumOf cX12_sumOf 7 (some .long) zvL dh [.ref (zbase G + q0), .int q1] h (kH q0 q1 h)) (k6 : Nat → Int32 → Int64 → zH → Option (Int64 × zH)) (hk6 : ∀ (l0 : Nat) (l1 : Int32) (l2 : Int64) (h : zH), zW G yX12_sumOf cX12_sumOf 7 (some .long) zvL (dh + 3) 6 [(0, .ref (zbase G + l0)), (1, .int l1), (2, .long l2)] [] h (k6 l0 l1 l2 h)) (l0 : Nat) (l1 : Int32) (l2 : Int64) (h : zH) : zW G yX12_sumOf cX12_sumOf 7 (some .long) zvL (dh + 3) 38 [(0, .ref (zbase G + l0)), (1, .int l1), (2, .long l2)] [] h (fb_X12_sumOf_38 n kH k6 l0 l1 l2 h) := by
  unfold fb_X12_sumOf_38
  refine zi_aload_n dX12_sumOf_38 rfl 0 rfl ?_
  refine zi_aload_n dX12_sumOf_39 rfl 0 rfl ?_
  refine zi_getI dX12_sumOf_40 gf_X12_248 (fun v1 => ?_)
  refine zi_callVI (As := [.int v1]) (rest := []) (ci := 12) dX12_sumOf_43 ml_X12_251 md_X12_codeAt mv_X12_codeAt rfl (by decide) rfl rfl (Nat.le_of_ble_eq_true rfl) (by omega) (k_X12_codeAt G n l0 v1 h) (fun r2 h3 => ?_)
  refine zi_bipush (v := 43) dX12_sumOf_46 (by decide) ?_
  refine zi_callSI (As := [.int 43]) (rest := [.int r2]) dX12_sumOf_48 ml_X12_207 md_X12_sign ms_X12_sign rfl rfl (Nat.le_of_ble_eq_true rfl) (by omega) (k_X12_sign G n 43 h3) (fun r4 h5 => ?_)
  refine zi_icmp_ne (tgt := 58) dX12_sumOf_51 (by decide) ?_ ?_
  · refine zi_iconst (v := 0) dX12_sumOf_58 (by decide) ?_
    refine zi_sub [0, 1, 2] rfl ?_
    exact wb_X12_sumOf_59 G n kH dh hdh hH k6 hk6 l0 l1 l2 0 h5
  · refine zi_iconst (v := 1) dX12_sumOf_54 (by decide) ?_
    refine zi_goto (tgt := 59) dX12_sumOf_55 (by decide) ?_
    refine zi_sub [0, 1, 2] rfl ?_
    exact wb_X12_sumOf_59 G n kH dh hdh hH k6 hk6 l0 l1 l2 1 h5
set_option maxRecDepth 20000 in
set_option maxHeartbeats 1000000 in
theorem wb_X12_sumOf_6 (G : zG) (n : Nat) (kH : Nat → Int32 → zH → Option (Int64 × zH)) (dh : Nat) (hdh : 3 ≤ dh) (hH : ∀ (q0 : Nat) (q1 : Int32) (h : zH), zMet G yX12_sumOf cX12_sumOf 7 (some .long) zvL dh [.ref (zbase G + q0), .int q1] h (kH q0 q1 h)) (k6 : Nat → Int32 → Int64 → zH → Option (Int64 × zH)) (hk6 : ∀ (l0 : Nat) (l1 : Int32) (l2 : Int64) (h : zH), zW G yX12_sumOf cX12_sumOf 7 (some .long) zvL (dh + 3) 6 [(0, .ref (zbase G + l0)), (1, .int l1), (2, .long l2)] [] h (k6 l0 l1 l2 h)) (l0 : Nat) (l1 : Int32) (l2 : Int64) (h : zH) : zW G yX12_sumOf cX12_sumOf 7 (some .long) zvL (dh + 3) 6 [(0, .ref (zbase G + l0)), (1, .int l1), (2, .long l2)] [] h (fb_X12_sumOf_6 n kH k6 l0 l1 l2 h) := by
  unfold fb_X12_sumOf_6
  refine zi_aload_n dX12_sumOf_6 rfl 0 rfl ?_
  refine zi_aload_n dX12_sumOf_7 rfl 0 rfl ?_
  refine zi_getI dX12_sumOf_8 gf_X12_248 (fun v1 => ?_)
  refine zi_callVI (As := [.int v1]) (rest := []) (ci := 12) dX12_sumOf_11 ml_X12_251 md_X12_codeAt mv_X12_codeAt rfl (by decide) rfl rfl (Nat.le_of_ble_eq_true rfl) (by omega) (k_X12_codeAt G n l0 v1 h) (fun r2 h3 => ?_)
  refine zi_bipush (v := 43) dX12_sumOf_14 (by decide) ?_
  refine zi_callSI (As := [.int 43]) (rest := [.int r2]) dX12_sumOf_16 ml_X12_207 md_X12_sign ms_X12_sign rfl rfl (Nat.le_of_ble_eq_true rfl) (by omega) (k_X12_sign G n 43 h3) (fun r4 h5 => ?_)
  refine zi_icmp_eq (tgt := 38) dX12_sumOf_19 (by decide) ?_ ?_
  · refine zi_sub [0, 1, 2] rfl ?_
    exact wb_X12_sumOf_38 G n kH dh hdh hH k6 hk6 l0 l1 l2 h5
  · refine zi_aload_n dX12_sumOf_22 rfl 0 rfl ?_
    refine zi_aload_n dX12_sumOf_23 rfl 0 rfl ?_
    refine zi_getI dX12_sumOf_24 gf_X12_248 (fun v6 => ?_)
    refine zi_callVI (As := [.int v6]) (rest := []) (ci := 12) dX12_sumOf_27 ml_X12_251 md_X12_codeAt mv_X12_codeAt rfl (by decide) rfl rfl (Nat.le_of_ble_eq_true rfl) (by omega) (k_X12_codeAt G n l0 v6 h5) (fun r7 h8 => ?_)
    refine zi_bipush (v := 45) dX12_sumOf_30 (by decide) ?_
    refine zi_callSI (As := [.int 45]) (rest := [.int r7]) dX12_sumOf_32 ml_X12_207 md_X12_sign ms_X12_sign rfl rfl (Nat.le_of_ble_eq_true rfl) (by omega) (k_X12_sign G n 45 h8) (fun r9 h10 => ?_)
    refine zi_icmp_ne (tgt := 103) dX12_sumOf_35 (by decide) ?_ ?_
    · refine zi_lload_n dX12_sumOf_103 rfl 2 rfl ?_
      exact zi_retL dX12_sumOf_104
    · refine zi_sub [0, 1, 2] rfl ?_
      exact wb_X12_sumOf_38 G n kH dh hdh hH k6 hk6 l0 l1 l2 h10
theorem wl_X12_sumOf_6 (G : zG) (n : Nat) (kH : Nat → Int32 → zH → Option (Int64 × zH)) (dh : Nat) (hdh : 3 ≤ dh) (hH : ∀ (q0 : Nat) (q1 : Int32) (h : zH), zMet G yX12_sumOf cX12_sumOf 7 (some .long) zvL dh [.ref (zbase G + q0), .int q1] h (kH q0 q1 h)) : ∀ (t : Nat) (l0 : Nat) (l1 : Int32) (l2 : Int64) (h : zH), zW G yX12_sumOf cX12_sumOf 7 (some .long) zvL (dh + 3) 6 [(0, .ref (zbase G + l0)), (1, .int l1), (2, .long l2)] [] h (zlp3 (fb_X12_sumOf_6 n kH ) t l0 l1 l2 h) := by
  intro t
  induction t with
  | zero => intros; exact zW_none
  | succ t ih => intro l0 l1 l2 h; rw [zlp3_s]; exact wb_X12_sumOf_6 G n kH dh hdh hH  _  ih l0 l1 l2 h
set_option maxRecDepth 20000 in
set_option maxHeartbeats 1000000 in
theorem kB_X12_sumOf (G : zG) (n : Nat) (kH : Nat → Int32 → zH → Option (Int64 × zH)) (dh : Nat) (hdh : 3 ≤ dh) (hH : ∀ (q0 : Nat) (q1 : Int32) (h : zH), zMet G yX12_sumOf cX12_sumOf 7 (some .long) zvL dh [.ref (zbase G + q0), .int q1] h (kH q0 q1 h)) (a0 : Nat) (a1 : Int32) (h : zH) : zMet G yX12_sumOf cX12_sumOf 7 (some .long) zvL (dh + 3) [.ref (zbase G + a0), .int a1] h (fB_X12_sumOf n kH a0 a1 h) := by
  refine zMet_of (l := [(0, .ref (zbase G + a0)), (1, .int a1)]) (by decide) (Nat.le_of_ble_eq_true rfl) rfl ?_
  unfold fB_X12_sumOf
  refine zi_aload_n dX12_sumOf_0 rfl 0 rfl ?_
  refine zi_iload_n dX12_sumOf_1 rfl 1 rfl ?_
  refine zi_callVL (As := [.int a1]) (rest := []) (ci := 12) dX12_sumOf_2 ml_X12_261 md_X12_termOf mv_X12_termOf rfl (by decide) rfl rfl (Nat.le_of_ble_eq_true rfl) (by omega) (k_X12_termOf G n kH dh hdh hH a0 a1 h) (fun r1 h2 => ?_)
  refine zi_lstore_n (l' := [(2, .long r1), (0, .ref (zbase G + a0)), (1, .int a1)]) dX12_sumOf_5 rfl (by decide) rfl ?_
  refine zi_sub [1, 2, 0] rfl ?_
  exact wl_X12_sumOf_6 G n kH dh hdh hH n a0 a1 r1 h2
theorem k_X12_sumOf (G : zG) (n : Nat) : ∀ (r : Nat) (a0 : Nat) (a1 : Int32) (h : zH), zMet G yX12_sumOf cX12_sumOf 7 (some .long) zvL (3 + 3 * r) [.ref (zbase G + a0), .int a1] h (f_X12_sumOf n r a0 a1 h) := by
  intro r
  induction r with
  | zero => intro a0 a1 h r h1 hX; cases hX
  | succ r ih => intro a0 a1 h; exact kB_X12_sumOf G n (f_X12_sumOf n r) (3 + 3 * r) (Nat.le_add_right _ _) ih a0 a1 h
set_option maxRecDepth 20000 in
set_option maxHeartbeats 1000000 in
theorem k_X12_positiveOf (G : zG) (n : Nat) (kH : Nat → Int32 → zH → Option (Int32 × zH)) (dh : Nat) (hdh : 39 ≤ dh) (hH : ∀ (q0 : Nat) (q1 : Int32) (h : zH), zMet G yX12_testOf cX12_testOf 4 (some .boolean) zvI dh [.ref (zbase G + q0), .int q1] h (kH q0 q1 h)) (a0 : Nat) (a1 : Int32) (h : zH) : zMet G yX12_positiveOf cX12_positiveOf 7 (some .boolean) zvI (dh + 1) [.ref (zbase G + a0), .int a1] h (f_X12_positiveOf n kH a0 a1 h) := by
  refine zMet_of (l := [(0, .ref (zbase G + a0)), (1, .int a1)]) (by decide) (Nat.le_of_ble_eq_true rfl) rfl ?_
  unfold f_X12_positiveOf
  refine zi_aload_n dX12_positiveOf_0 rfl 0 rfl ?_
  refine zi_bipush (v := 40) dX12_positiveOf_1 (by decide) ?_
  refine zi_callSI (As := [.int 40]) (rest := [.ref (zbase G + a0)]) dX12_positiveOf_3 ml_X12_207 md_X12_sign ms_X12_sign rfl rfl (Nat.le_of_ble_eq_true rfl) (by omega) (k_X12_sign G n 40 h) (fun r1 h2 => ?_)
  refine zi_callVI (As := [.int r1]) (rest := []) (ci := 12) dX12_positiveOf_6 ml_X12_272 md_X12_passes0 mv_X12_passes0 rfl (by decide) rfl rfl (Nat.le_of_ble_eq_true rfl) (by omega) (k_X12_passes0 G n a0 r1 h2) (fun r3 h4 => ?_)
  refine zi_if_eq (tgt := 30) dX12_positiveOf_9 (by decide) ?_ ?_
  · refine zi_aload_n dX12_positiveOf_30 rfl 0 rfl ?_
    refine zi_iload_n dX12_positiveOf_31 rfl 1 rfl ?_
    refine zi_callVL (As := [.int a1]) (rest := []) (ci := 12) dX12_positiveOf_32 ml_X12_275 md_X12_sumOf mv_X12_sumOf rfl (by decide) rfl rfl (Nat.le_of_ble_eq_true rfl) (by omega) (k_X12_sumOf G n 12 a0 a1 h4) (fun r5 h6 => ?_)
    refine zi_lstore_n (l' := [(2, .long r5), (0, .ref (zbase G + a0)), (1, .int a1)]) dX12_positiveOf_35 rfl (by decide) rfl ?_
    refine zi_aload_n dX12_positiveOf_36 rfl 1 rfl ?_
    refine zi_aload_n dX12_positiveOf_37 rfl 1 rfl ?_
    refine zi_getI dX12_positiveOf_38 gf_X12_248 (fun v7 => ?_)
    refine zi_callVI (As := [.int v7]) (rest := []) (ci := 12) dX12_positiveOf_41 ml_X12_251 md_X12_codeAt mv_X12_codeAt rfl (by decide) rfl rfl (Nat.le_of_ble_eq_true rfl) (by omega) (k_X12_codeAt G n a0 v7 h6) (fun r8 h9 => ?_)
    refine zi_istore (l' := [(4, .int r8), (2, .long r5), (0, .ref (zbase G + a0)), (1, .int a1)]) dX12_positiveOf_44 (by decide) rfl ?_
    refine zi_aload_n dX12_positiveOf_46 rfl 2 rfl ?_
    refine zi_dup dX12_positiveOf_47 rfl ?_
    refine zi_getI dX12_positiveOf_48 gf_X12_248 (fun v10 => ?_)
    refine zi_iconst (v := 1) dX12_positiveOf_51 (by decide) ?_
    refine zi_iadd dX12_positiveOf_52 ?_
    refine zi_putI dX12_positiveOf_53 gf_X12_248 (fun h11 => ?_)
    refine zi_aload_n dX12_positiveOf_56 rfl 2 rfl ?_
    refine zi_iload_n dX12_positiveOf_57 rfl 3 rfl ?_
    refine zi_callVL (As := [.int a1]) (rest := []) (ci := 12) dX12_positiveOf_58 ml_X12_275 md_X12_sumOf mv_X12_sumOf rfl (by decide) rfl rfl (Nat.le_of_ble_eq_true rfl) (by omega) (k_X12_sumOf G n 12 a0 a1 h11) (fun r12 h13 => ?_)
    refine zi_lstore (l' := [(5, .long r12), (4, .int r8), (2, .long r5), (0, .ref (zbase G + a0)), (1, .int a1)]) dX12_positiveOf_61 (by decide) rfl ?_
    refine zi_iload_n dX12_positiveOf_63 rfl 4 rfl ?_
    refine zi_if_eq (tgt := 125) dX12_positiveOf_64 (by decide) ?_ ?_
    · refine zi_iconst (v := 0) dX12_positiveOf_125 (by decide) ?_
      exact zi_ret0 dX12_positiveOf_126
    · refine zi_aload_n dX12_positiveOf_67 rfl 3 rfl ?_
      refine zi_getZ dX12_positiveOf_68 gf_X12_258 (fun v14 => ?_)
      refine zi_if_ne (tgt := 125) dX12_positiveOf_71 (by decide) ?_ ?_
      · refine zi_iconst (v := 0) dX12_positiveOf_125 (by decide) ?_
        exact zi_ret0 dX12_positiveOf_126
      · refine zi_iload dX12_positiveOf_74 1 rfl ?_
        refine zi_bipush (v := 60) dX12_positiveOf_76 (by decide) ?_
        refine zi_callSI (As := [.int 60]) (rest := [.int r8]) dX12_positiveOf_78 ml_X12_207 md_X12_sign ms_X12_sign rfl rfl (Nat.le_of_ble_eq_true rfl) (by omega) (k_X12_sign G n 60 h13) (fun r15 h16 => ?_)
        refine zi_icmp_ne (tgt := 94) dX12_positiveOf_81 (by decide) ?_ ?_
        · refine zi_iload dX12_positiveOf_94 1 rfl ?_
          refine zi_bipush (v := 62) dX12_positiveOf_96 (by decide) ?_
          refine zi_callSI (As := [.int 62]) (rest := [.int r8]) dX12_positiveOf_98 ml_X12_207 md_X12_sign ms_X12_sign rfl rfl (Nat.le_of_ble_eq_true rfl) (by omega) (k_X12_sign G n 62 h16) (fun r17 h18 => ?_)
          refine zi_icmp_ne (tgt := 114) dX12_positiveOf_101 (by decide) ?_ ?_
          · refine zi_lload_n dX12_positiveOf_114 rfl 2 rfl ?_
            refine zi_lload dX12_positiveOf_115 0 rfl ?_
            refine zi_lcmp dX12_positiveOf_117 ?_
            refine zi_if_ne (tgt := 125) dX12_positiveOf_118 (by decide) ?_ ?_
            · refine zi_iconst (v := 0) dX12_positiveOf_125 (by decide) ?_
              exact zi_ret0 dX12_positiveOf_126
            · refine zi_iconst (v := 1) dX12_positiveOf_121 (by decide) ?_
              refine zi_goto (tgt := 126) dX12_positiveOf_122 (by decide) ?_
              exact zi_ret1 dX12_positiveOf_126
          · refine zi_lload_n dX12_positiveOf_104 rfl 2 rfl ?_
            refine zi_lload dX12_positiveOf_105 0 rfl ?_
            refine zi_lcmp dX12_positiveOf_107 ?_
            refine zi_if_le (tgt := 125) dX12_positiveOf_108 (by decide) ?_ ?_
            · refine zi_iconst (v := 0) dX12_positiveOf_125 (by decide) ?_
              exact zi_ret0 dX12_positiveOf_126
            · refine zi_goto (tgt := 121) dX12_positiveOf_111 (by decide) ?_
              refine zi_iconst (v := 1) dX12_positiveOf_121 (by decide) ?_
              refine zi_goto (tgt := 126) dX12_positiveOf_122 (by decide) ?_
              exact zi_ret1 dX12_positiveOf_126
        · refine zi_lload_n dX12_positiveOf_84 rfl 2 rfl ?_
          refine zi_lload dX12_positiveOf_85 0 rfl ?_
          refine zi_lcmp dX12_positiveOf_87 ?_
          refine zi_if_ge (tgt := 125) dX12_positiveOf_88 (by decide) ?_ ?_
          · refine zi_iconst (v := 0) dX12_positiveOf_125 (by decide) ?_
            exact zi_ret0 dX12_positiveOf_126
          · refine zi_goto (tgt := 121) dX12_positiveOf_91 (by decide) ?_
            refine zi_iconst (v := 1) dX12_positiveOf_121 (by decide) ?_
            refine zi_goto (tgt := 126) dX12_positiveOf_122 (by decide) ?_
            exact zi_ret1 dX12_positiveOf_126
  · refine zi_aload_n dX12_positiveOf_12 rfl 0 rfl ?_
    refine zi_iload_n dX12_positiveOf_13 rfl 1 rfl ?_
    refine zi_callVI (As := [.int a1]) (rest := []) (ci := 12) dX12_positiveOf_14 ml_X12_299 md_X12_testOf mv_X12_testOf rfl (by decide) rfl rfl (Nat.le_of_ble_eq_true rfl) (by omega) (hH a0 a1 h4) (fun r19 h20 => ?_)
    refine zi_istore_n (l' := [(2, .int r19), (0, .ref (zbase G + a0)), (1, .int a1)]) dX12_positiveOf_17 rfl (by decide) rfl ?_
    refine zi_aload_n dX12_positiveOf_18 rfl 1 rfl ?_
    refine zi_dup dX12_positiveOf_19 rfl ?_
    refine zi_getI dX12_positiveOf_20 gf_X12_248 (fun v21 => ?_)
    refine zi_iconst (v := 1) dX12_positiveOf_23 (by decide) ?_
    refine zi_iadd dX12_positiveOf_24 ?_
    refine zi_putI dX12_positiveOf_25 gf_X12_248 (fun h22 => ?_)
    refine zi_iload_n dX12_positiveOf_28 rfl 0 rfl ?_
    exact zi_retZ dX12_positiveOf_29
set_option maxRecDepth 20000 in
set_option maxHeartbeats 1000000 in
theorem wb_X12_plainOf_24 (G : zG) (n : Nat) (kH : Nat → Int32 → zH → Option (Int32 × zH)) (dh : Nat) (hdh : 39 ≤ dh) (hH : ∀ (q0 : Nat) (q1 : Int32) (h : zH), zMet G yX12_testOf cX12_testOf 4 (some .boolean) zvI dh [.ref (zbase G + q0), .int q1] h (kH q0 q1 h)) (l0 : Nat) (l1 : Int32) (l2 : Int32) (h : zH) : zW G yX12_plainOf cX12_plainOf 3 (some .boolean) zvI (dh + 2) 24 [(0, .ref (zbase G + l0)), (1, .int l1), (2, .int l2)] [] h (fb_X12_plainOf_24 n kH l0 l1 l2 h) := by
  unfold fb_X12_plainOf_24
  refine zi_aload_n dX12_plainOf_24 rfl 0 rfl ?_
  refine zi_iload_n dX12_plainOf_25 rfl 1 rfl ?_
  refine zi_callVI (As := [.int l1]) (rest := []) (ci := 12) dX12_plainOf_26 ml_X12_296 md_X12_positiveOf mv_X12_positiveOf rfl (by decide) rfl rfl (Nat.le_of_ble_eq_true rfl) (by omega) (k_X12_positiveOf G n kH dh hdh hH l0 l1 h) (fun r1 h2 => ?_)
  refine zi_iload_n dX12_plainOf_29 rfl 2 rfl ?_
  refine zi_icmp_eq (tgt := 37) dX12_plainOf_30 (by decide) ?_ ?_
  · refine zi_iconst (v := 0) dX12_plainOf_37 (by decide) ?_
    exact zi_ret0 dX12_plainOf_38
  · refine zi_iconst (v := 1) dX12_plainOf_33 (by decide) ?_
    refine zi_goto (tgt := 38) dX12_plainOf_34 (by decide) ?_
    exact zi_ret1 dX12_plainOf_38
set_option maxRecDepth 20000 in
set_option maxHeartbeats 1000000 in
theorem wb_X12_plainOf_20 (G : zG) (n : Nat) (kH : Nat → Int32 → zH → Option (Int32 × zH)) (dh : Nat) (hdh : 39 ≤ dh) (hH : ∀ (q0 : Nat) (q1 : Int32) (h : zH), zMet G yX12_testOf cX12_testOf 4 (some .boolean) zvI dh [.ref (zbase G + q0), .int q1] h (kH q0 q1 h)) (k2 : Nat → Int32 → Int32 → zH → Option (Int32 × zH)) (hk2 : ∀ (l0 : Nat) (l1 : Int32) (l2 : Int32) (h : zH), zW G yX12_plainOf cX12_plainOf 3 (some .boolean) zvI (dh + 2) 2 [(0, .ref (zbase G + l0)), (1, .int l1), (2, .int l2)] [] h (k2 l0 l1 l2 h)) (l0 : Nat) (l1 : Int32) (s0 : Int32) (h : zH) : zW G yX12_plainOf cX12_plainOf 3 (some .boolean) zvI (dh + 2) 20 [(0, .ref (zbase G + l0)), (1, .int l1)] [.int s0] h (fb_X12_plainOf_20 n kH k2 l0 l1 s0 h) := by
  unfold fb_X12_plainOf_20
  refine zi_istore_n (l' := [(2, .int s0), (0, .ref (zbase G + l0)), (1, .int l1)]) dX12_plainOf_20 rfl (by decide) rfl ?_
  refine zi_goto (tgt := 2) dX12_plainOf_21 (by decide) ?_
  refine zi_sub [1, 2, 0] rfl ?_
  exact hk2 l0 l1 s0 h
set_option maxRecDepth 20000 in
set_option maxHeartbeats 1000000 in
theorem wb_X12_plainOf_2 (G : zG) (n : Nat) (kH : Nat → Int32 → zH → Option (Int32 × zH)) (dh : Nat) (hdh : 39 ≤ dh) (hH : ∀ (q0 : Nat) (q1 : Int32) (h : zH), zMet G yX12_testOf cX12_testOf 4 (some .boolean) zvI dh [.ref (zbase G + q0), .int q1] h (kH q0 q1 h)) (k2 : Nat → Int32 → Int32 → zH → Option (Int32 × zH)) (hk2 : ∀ (l0 : Nat) (l1 : Int32) (l2 : Int32) (h : zH), zW G yX12_plainOf cX12_plainOf 3 (some .boolean) zvI (dh + 2) 2 [(0, .ref (zbase G + l0)), (1, .int l1), (2, .int l2)] [] h (k2 l0 l1 l2 h)) (l0 : Nat) (l1 : Int32) (l2 : Int32) (h : zH) : zW G yX12_plainOf cX12_plainOf 3 (some .boolean) zvI (dh + 2) 2 [(0, .ref (zbase G + l0)), (1, .int l1), (2, .int l2)] [] h (fb_X12_plainOf_2 n kH k2 l0 l1 l2 h) := by
  unfold fb_X12_plainOf_2
  refine zi_aload_n dX12_plainOf_2 rfl 0 rfl ?_
  refine zi_bipush (v := 6) dX12_plainOf_3 (by decide) ?_
  refine zi_callVI (As := [.int 6]) (rest := []) (ci := 12) dX12_plainOf_5 ml_X12_272 md_X12_passes0 mv_X12_passes0 rfl (by decide) rfl rfl (Nat.le_of_ble_eq_true rfl) (by omega) (k_X12_passes0 G n l0 6 h) (fun r1 h2 => ?_)
  refine zi_if_eq (tgt := 24) dX12_plainOf_8 (by decide) ?_ ?_
  · refine zi_sub [0, 1, 2] rfl ?_
    exact wb_X12_plainOf_24 G n kH dh hdh hH l0 l1 l2 h2
  · refine zi_iload_n dX12_plainOf_11 rfl 2 rfl ?_
    refine zi_if_ne (tgt := 19) dX12_plainOf_12 (by decide) ?_ ?_
    · refine zi_iconst (v := 0) dX12_plainOf_19 (by decide) ?_
      refine zi_sub [0, 1] rfl ?_
      exact wb_X12_plainOf_20 G n kH dh hdh hH k2 hk2 l0 l1 0 h2
    · refine zi_iconst (v := 1) dX12_plainOf_15 (by decide) ?_
      refine zi_goto (tgt := 20) dX12_plainOf_16 (by decide) ?_
      refine zi_sub [0, 1] rfl ?_
      exact wb_X12_plainOf_20 G n kH dh hdh hH k2 hk2 l0 l1 1 h2
theorem wl_X12_plainOf_2 (G : zG) (n : Nat) (kH : Nat → Int32 → zH → Option (Int32 × zH)) (dh : Nat) (hdh : 39 ≤ dh) (hH : ∀ (q0 : Nat) (q1 : Int32) (h : zH), zMet G yX12_testOf cX12_testOf 4 (some .boolean) zvI dh [.ref (zbase G + q0), .int q1] h (kH q0 q1 h)) : ∀ (t : Nat) (l0 : Nat) (l1 : Int32) (l2 : Int32) (h : zH), zW G yX12_plainOf cX12_plainOf 3 (some .boolean) zvI (dh + 2) 2 [(0, .ref (zbase G + l0)), (1, .int l1), (2, .int l2)] [] h (zlp3 (fb_X12_plainOf_2 n kH ) t l0 l1 l2 h) := by
  intro t
  induction t with
  | zero => intros; exact zW_none
  | succ t ih => intro l0 l1 l2 h; rw [zlp3_s]; exact wb_X12_plainOf_2 G n kH dh hdh hH  _  ih l0 l1 l2 h
set_option maxRecDepth 20000 in
set_option maxHeartbeats 1000000 in
theorem k_X12_plainOf (G : zG) (n : Nat) (kH : Nat → Int32 → zH → Option (Int32 × zH)) (dh : Nat) (hdh : 39 ≤ dh) (hH : ∀ (q0 : Nat) (q1 : Int32) (h : zH), zMet G yX12_testOf cX12_testOf 4 (some .boolean) zvI dh [.ref (zbase G + q0), .int q1] h (kH q0 q1 h)) (a0 : Nat) (a1 : Int32) (h : zH) : zMet G yX12_plainOf cX12_plainOf 3 (some .boolean) zvI (dh + 2) [.ref (zbase G + a0), .int a1] h (f_X12_plainOf n kH a0 a1 h) := by
  refine zMet_of (l := [(0, .ref (zbase G + a0)), (1, .int a1)]) (by decide) (Nat.le_of_ble_eq_true rfl) rfl ?_
  unfold f_X12_plainOf
  refine zi_iconst (v := 0) dX12_plainOf_0 (by decide) ?_
  refine zi_istore_n (l' := [(2, .int 0), (0, .ref (zbase G + a0)), (1, .int a1)]) dX12_plainOf_1 rfl (by decide) rfl ?_
  refine zi_sub [1, 2, 0] rfl ?_
  exact wl_X12_plainOf_2 G n kH dh hdh hH n a0 a1 0 h
set_option maxRecDepth 20000 in
set_option maxHeartbeats 1000000 in
theorem wb_X12_bothOf_45 (G : zG) (n : Nat) (kH : Nat → Int32 → zH → Option (Int32 × zH)) (dh : Nat) (hdh : 39 ≤ dh) (hH : ∀ (q0 : Nat) (q1 : Int32) (h : zH), zMet G yX12_testOf cX12_testOf 4 (some .boolean) zvI dh [.ref (zbase G + q0), .int q1] h (kH q0 q1 h)) (k6 : Nat → Int32 → Int32 → zH → Option (Int32 × zH)) (hk6 : ∀ (l0 : Nat) (l1 : Int32) (l2 : Int32) (h : zH), zW G yX12_bothOf cX12_bothOf 4 (some .boolean) zvI (dh + 3) 6 [(0, .ref (zbase G + l0)), (1, .int l1), (2, .int l2)] [] h (k6 l0 l1 l2 h)) (l0 : Nat) (l1 : Int32) (s0 : Int32) (h : zH) : zW G yX12_bothOf cX12_bothOf 4 (some .boolean) zvI (dh + 3) 45 [(0, .ref (zbase G + l0)), (1, .int l1)] [.int s0] h (fb_X12_bothOf_45 n kH k6 l0 l1 s0 h) := by
  unfold fb_X12_bothOf_45
  refine zi_istore_n (l' := [(2, .int s0), (0, .ref (zbase G + l0)), (1, .int l1)]) dX12_bothOf_45 rfl (by decide) rfl ?_
  refine zi_goto (tgt := 6) dX12_bothOf_46 (by decide) ?_
  refine zi_sub [1, 2, 0] rfl ?_
  exact hk6 l0 l1 s0 h
set_option maxRecDepth 20000 in
set_option maxHeartbeats 1000000 in
theorem wb_X12_bothOf_44 (G : zG) (n : Nat) (kH : Nat → Int32 → zH → Option (Int32 × zH)) (dh : Nat) (hdh : 39 ≤ dh) (hH : ∀ (q0 : Nat) (q1 : Int32) (h : zH), zMet G yX12_testOf cX12_testOf 4 (some .boolean) zvI dh [.ref (zbase G + q0), .int q1] h (kH q0 q1 h)) (k6 : Nat → Int32 → Int32 → zH → Option (Int32 × zH)) (hk6 : ∀ (l0 : Nat) (l1 : Int32) (l2 : Int32) (h : zH), zW G yX12_bothOf cX12_bothOf 4 (some .boolean) zvI (dh + 3) 6 [(0, .ref (zbase G + l0)), (1, .int l1), (2, .int l2)] [] h (k6 l0 l1 l2 h)) (l0 : Nat) (l1 : Int32) (h : zH) : zW G yX12_bothOf cX12_bothOf 4 (some .boolean) zvI (dh + 3) 44 [(0, .ref (zbase G + l0)), (1, .int l1)] [] h (fb_X12_bothOf_44 n kH k6 l0 l1 h) := by
  unfold fb_X12_bothOf_44
  refine zi_iconst (v := 0) dX12_bothOf_44 (by decide) ?_
  refine zi_sub [0, 1] rfl ?_
  exact wb_X12_bothOf_45 G n kH dh hdh hH k6 hk6 l0 l1 0 h
set_option maxRecDepth 20000 in
set_option maxHeartbeats 1000000 in
theorem wb_X12_bothOf_28 (G : zG) (n : Nat) (kH : Nat → Int32 → zH → Option (Int32 × zH)) (dh : Nat) (hdh : 39 ≤ dh) (hH : ∀ (q0 : Nat) (q1 : Int32) (h : zH), zMet G yX12_testOf cX12_testOf 4 (some .boolean) zvI dh [.ref (zbase G + q0), .int q1] h (kH q0 q1 h)) (k6 : Nat → Int32 → Int32 → zH → Option (Int32 × zH)) (hk6 : ∀ (l0 : Nat) (l1 : Int32) (l2 : Int32) (h : zH), zW G yX12_bothOf cX12_bothOf 4 (some .boolean) zvI (dh + 3) 6 [(0, .ref (zbase G + l0)), (1, .int l1), (2, .int l2)] [] h (k6 l0 l1 l2 h)) (l0 : Nat) (l1 : Int32) (l2 : Int32) (s0 : Nat) (s1 : Int32) (h : zH) : zW G yX12_bothOf cX12_bothOf 4 (some .boolean) zvI (dh + 3) 28 [(0, .ref (zbase G + l0)), (1, .int l1), (2, .int l2)] [.int s1, .ref (zbase G + s0)] h (fb_X12_bothOf_28 n kH k6 l0 l1 l2 s0 s1 h) := by
  unfold fb_X12_bothOf_28
  refine zi_callVI (As := [.int s1]) (rest := []) (ci := 12) dX12_bothOf_28 ml_X12_293 md_X12_plainOf mv_X12_plainOf rfl (by decide) rfl rfl (Nat.le_of_ble_eq_true rfl) (by omega) (k_X12_plainOf G n kH dh hdh hH s0 s1 h) (fun r1 h2 => ?_)
  refine zi_istore_n (l' := [(3, .int r1), (0, .ref (zbase G + l0)), (1, .int l1), (2, .int l2)]) dX12_bothOf_31 rfl (by decide) rfl ?_
  refine zi_iload_n dX12_bothOf_32 rfl 3 rfl ?_
  refine zi_if_eq (tgt := 44) dX12_bothOf_33 (by decide) ?_ ?_
  · refine zi_sub [1, 2] rfl ?_
    exact wb_X12_bothOf_44 G n kH dh hdh hH k6 hk6 l0 l1 h2
  · refine zi_iload_n dX12_bothOf_36 rfl 0 rfl ?_
    refine zi_if_eq (tgt := 44) dX12_bothOf_37 (by decide) ?_ ?_
    · refine zi_sub [1, 2] rfl ?_
      exact wb_X12_bothOf_44 G n kH dh hdh hH k6 hk6 l0 l1 h2
    · refine zi_iconst (v := 1) dX12_bothOf_40 (by decide) ?_
      refine zi_goto (tgt := 45) dX12_bothOf_41 (by decide) ?_
      refine zi_sub [1, 2] rfl ?_
      exact wb_X12_bothOf_45 G n kH dh hdh hH k6 hk6 l0 l1 1 h2
set_option maxRecDepth 20000 in
set_option maxHeartbeats 1000000 in
theorem wb_X12_bothOf_27 (G : zG) (n : Nat) (kH : Nat → Int32 → zH → Option (Int32 × zH)) (dh : Nat) (hdh : 39 ≤ dh) (hH : ∀ (q0 : Nat) (q1 : Int32) (h : zH), zMet G yX12_testOf cX12_testOf 4 (some .boolean) zvI dh [.ref (zbase G + q0), .int q1] h (kH q0 q1 h)) (k6 : Nat → Int32 → Int32 → zH → Option (Int32 × zH)) (hk6 : ∀ (l0 : Nat) (l1 : Int32) (l2 : Int32) (h : zH), zW G yX12_bothOf cX12_bothOf 4 (some .boolean) zvI (dh + 3) 6 [(0, .ref (zbase G + l0)), (1, .int l1), (2, .int l2)] [] h (k6 l0 l1 l2 h)) (l0 : Nat) (l1 : Int32) (l2 : Int32) (s0 : Nat) (h : zH) : zW G yX12_bothOf cX12_bothOf 4 (some .boolean) zvI (dh + 3) 27 [(0, .ref (zbase G + l0)), (1, .int l1), (2, .int l2)] [.ref (zbase G + s0)] h (fb_X12_bothOf_27 n kH k6 l0 l1 l2 s0 h) := by
  unfold fb_X12_bothOf_27
  refine zi_iconst (v := 0) dX12_bothOf_27 (by decide) ?_
  refine zi_sub [0, 1, 2] rfl ?_
  exact wb_X12_bothOf_28 G n kH dh hdh hH k6 hk6 l0 l1 l2 s0 0 h
set_option maxRecDepth 20000 in
set_option maxHeartbeats 1000000 in
theorem wb_X12_bothOf_6 (G : zG) (n : Nat) (kH : Nat → Int32 → zH → Option (Int32 × zH)) (dh : Nat) (hdh : 39 ≤ dh) (hH : ∀ (q0 : Nat) (q1 : Int32) (h : zH), zMet G yX12_testOf cX12_testOf 4 (some .boolean) zvI dh [.ref (zbase G + q0), .int q1] h (kH q0 q1 h)) (k6 : Nat → Int32 → Int32 → zH → Option (Int32 × zH)) (hk6 : ∀ (l0 : Nat) (l1 : Int32) (l2 : Int32) (h : zH), zW G yX12_bothOf cX12_bothOf 4 (some .boolean) zvI (dh + 3) 6 [(0, .ref (zbase G + l0)), (1, .int l1), (2, .int l2)] [] h (k6 l0 l1 l2 h)) (l0 : Nat) (l1 : Int32) (l2 : Int32) (h : zH) : zW G yX12_bothOf cX12_bothOf 4 (some .boolean) zvI (dh + 3) 6 [(0, .ref (zbase G + l0)), (1, .int l1), (2, .int l2)] [] h (fb_X12_bothOf_6 n kH k6 l0 l1 l2 h) := by
  unfold fb_X12_bothOf_6
  refine zi_aload_n dX12_bothOf_6 rfl 0 rfl ?_
  refine zi_iconst (v := 5) dX12_bothOf_7 (by decide) ?_
  refine zi_callVI (As := [.int 5]) (rest := []) (ci := 12) dX12_bothOf_8 ml_X12_272 md_X12_passes0 mv_X12_passes0 rfl (by decide) rfl rfl (Nat.le_of_ble_eq_true rfl) (by omega) (k_X12_passes0 G n l0 5 h) (fun r1 h2 => ?_)
  refine zi_if_eq (tgt := 49) dX12_bothOf_11 (by decide) ?_ ?_
  · refine zi_iload_n dX12_bothOf_49 rfl 2 rfl ?_
    exact zi_retZ dX12_bothOf_50
  · refine zi_aload_n dX12_bothOf_14 rfl 0 rfl ?_
    refine zi_iload_n dX12_bothOf_15 rfl 1 rfl ?_
    refine zi_if_eq (tgt := 27) dX12_bothOf_16 (by decide) ?_ ?_
    · refine zi_sub [0, 1, 2] rfl ?_
      exact wb_X12_bothOf_27 G n kH dh hdh hH k6 hk6 l0 l1 l2 l0 h2
    · refine zi_iload_n dX12_bothOf_19 rfl 2 rfl ?_
      refine zi_if_eq (tgt := 27) dX12_bothOf_20 (by decide) ?_ ?_
      · refine zi_sub [0, 1, 2] rfl ?_
        exact wb_X12_bothOf_27 G n kH dh hdh hH k6 hk6 l0 l1 l2 l0 h2
      · refine zi_iconst (v := 1) dX12_bothOf_23 (by decide) ?_
        refine zi_goto (tgt := 28) dX12_bothOf_24 (by decide) ?_
        refine zi_sub [0, 1, 2] rfl ?_
        exact wb_X12_bothOf_28 G n kH dh hdh hH k6 hk6 l0 l1 l2 l0 1 h2
theorem wl_X12_bothOf_6 (G : zG) (n : Nat) (kH : Nat → Int32 → zH → Option (Int32 × zH)) (dh : Nat) (hdh : 39 ≤ dh) (hH : ∀ (q0 : Nat) (q1 : Int32) (h : zH), zMet G yX12_testOf cX12_testOf 4 (some .boolean) zvI dh [.ref (zbase G + q0), .int q1] h (kH q0 q1 h)) : ∀ (t : Nat) (l0 : Nat) (l1 : Int32) (l2 : Int32) (h : zH), zW G yX12_bothOf cX12_bothOf 4 (some .boolean) zvI (dh + 3) 6 [(0, .ref (zbase G + l0)), (1, .int l1), (2, .int l2)] [] h (zlp3 (fb_X12_bothOf_6 n kH ) t l0 l1 l2 h) := by
  intro t
  induction t with
  | zero => intros; exact zW_none
  | succ t ih => intro l0 l1 l2 h; rw [zlp3_s]; exact wb_X12_bothOf_6 G n kH dh hdh hH  _  ih l0 l1 l2 h
set_option maxRecDepth 20000 in
set_option maxHeartbeats 1000000 in
theorem k_X12_bothOf (G : zG) (n : Nat) (kH : Nat → Int32 → zH → Option (Int32 × zH)) (dh : Nat) (hdh : 39 ≤ dh) (hH : ∀ (q0 : Nat) (q1 : Int32) (h : zH), zMet G yX12_testOf cX12_testOf 4 (some .boolean) zvI dh [.ref (zbase G + q0), .int q1] h (kH q0 q1 h)) (a0 : Nat) (a1 : Int32) (h : zH) : zMet G yX12_bothOf cX12_bothOf 4 (some .boolean) zvI (dh + 3) [.ref (zbase G + a0), .int a1] h (f_X12_bothOf n kH a0 a1 h) := by
  refine zMet_of (l := [(0, .ref (zbase G + a0)), (1, .int a1)]) (by decide) (Nat.le_of_ble_eq_true rfl) rfl ?_
  unfold f_X12_bothOf
  refine zi_aload_n dX12_bothOf_0 rfl 0 rfl ?_
  refine zi_iload_n dX12_bothOf_1 rfl 1 rfl ?_
  refine zi_callVI (As := [.int a1]) (rest := []) (ci := 12) dX12_bothOf_2 ml_X12_293 md_X12_plainOf mv_X12_plainOf rfl (by decide) rfl rfl (Nat.le_of_ble_eq_true rfl) (by omega) (k_X12_plainOf G n kH dh hdh hH a0 a1 h) (fun r1 h2 => ?_)
  refine zi_istore_n (l' := [(2, .int r1), (0, .ref (zbase G + a0)), (1, .int a1)]) dX12_bothOf_5 rfl (by decide) rfl ?_
  refine zi_sub [1, 2, 0] rfl ?_
  exact wl_X12_bothOf_6 G n kH dh hdh hH n a0 a1 r1 h2
set_option maxRecDepth 20000 in
set_option maxHeartbeats 1000000 in
theorem wb_X12_testOf_45 (G : zG) (n : Nat) (kH : Nat → Int32 → zH → Option (Int32 × zH)) (dh : Nat) (hdh : 39 ≤ dh) (hH : ∀ (q0 : Nat) (q1 : Int32) (h : zH), zMet G yX12_testOf cX12_testOf 4 (some .boolean) zvI dh [.ref (zbase G + q0), .int q1] h (kH q0 q1 h)) (k6 : Nat → Int32 → Int32 → zH → Option (Int32 × zH)) (hk6 : ∀ (l0 : Nat) (l1 : Int32) (l2 : Int32) (h : zH), zW G yX12_testOf cX12_testOf 4 (some .boolean) zvI (dh + 4) 6 [(0, .ref (zbase G + l0)), (1, .int l1), (2, .int l2)] [] h (k6 l0 l1 l2 h)) (l0 : Nat) (l1 : Int32) (s0 : Int32) (h : zH) : zW G yX12_testOf cX12_testOf 4 (some .boolean) zvI (dh + 4) 45 [(0, .ref (zbase G + l0)), (1, .int l1)] [.int s0] h (fb_X12_testOf_45 n kH k6 l0 l1 s0 h) := by
  unfold fb_X12_testOf_45
  refine zi_istore_n (l' := [(2, .int s0), (0, .ref (zbase G + l0)), (1, .int l1)]) dX12_testOf_45 rfl (by decide) rfl ?_
  refine zi_goto (tgt := 6) dX12_testOf_46 (by decide) ?_
  refine zi_sub [1, 2, 0] rfl ?_
  exact hk6 l0 l1 s0 h
set_option maxRecDepth 20000 in
set_option maxHeartbeats 1000000 in
theorem wb_X12_testOf_40 (G : zG) (n : Nat) (kH : Nat → Int32 → zH → Option (Int32 × zH)) (dh : Nat) (hdh : 39 ≤ dh) (hH : ∀ (q0 : Nat) (q1 : Int32) (h : zH), zMet G yX12_testOf cX12_testOf 4 (some .boolean) zvI dh [.ref (zbase G + q0), .int q1] h (kH q0 q1 h)) (k6 : Nat → Int32 → Int32 → zH → Option (Int32 × zH)) (hk6 : ∀ (l0 : Nat) (l1 : Int32) (l2 : Int32) (h : zH), zW G yX12_testOf cX12_testOf 4 (some .boolean) zvI (dh + 4) 6 [(0, .ref (zbase G + l0)), (1, .int l1), (2, .int l2)] [] h (k6 l0 l1 l2 h)) (l0 : Nat) (l1 : Int32) (h : zH) : zW G yX12_testOf cX12_testOf 4 (some .boolean) zvI (dh + 4) 40 [(0, .ref (zbase G + l0)), (1, .int l1)] [] h (fb_X12_testOf_40 n kH k6 l0 l1 h) := by
  unfold fb_X12_testOf_40
  refine zi_iconst (v := 1) dX12_testOf_40 (by decide) ?_
  refine zi_goto (tgt := 45) dX12_testOf_41 (by decide) ?_
  refine zi_sub [0, 1] rfl ?_
  exact wb_X12_testOf_45 G n kH dh hdh hH k6 hk6 l0 l1 1 h
set_option maxRecDepth 20000 in
set_option maxHeartbeats 1000000 in
theorem wb_X12_testOf_28 (G : zG) (n : Nat) (kH : Nat → Int32 → zH → Option (Int32 × zH)) (dh : Nat) (hdh : 39 ≤ dh) (hH : ∀ (q0 : Nat) (q1 : Int32) (h : zH), zMet G yX12_testOf cX12_testOf 4 (some .boolean) zvI dh [.ref (zbase G + q0), .int q1] h (kH q0 q1 h)) (k6 : Nat → Int32 → Int32 → zH → Option (Int32 × zH)) (hk6 : ∀ (l0 : Nat) (l1 : Int32) (l2 : Int32) (h : zH), zW G yX12_testOf cX12_testOf 4 (some .boolean) zvI (dh + 4) 6 [(0, .ref (zbase G + l0)), (1, .int l1), (2, .int l2)] [] h (k6 l0 l1 l2 h)) (l0 : Nat) (l1 : Int32) (l2 : Int32) (s0 : Nat) (s1 : Int32) (h : zH) : zW G yX12_testOf cX12_testOf 4 (some .boolean) zvI (dh + 4) 28 [(0, .ref (zbase G + l0)), (1, .int l1), (2, .int l2)] [.int s1, .ref (zbase G + s0)] h (fb_X12_testOf_28 n kH k6 l0 l1 l2 s0 s1 h) := by
  unfold fb_X12_testOf_28
  refine zi_callVI (As := [.int s1]) (rest := []) (ci := 12) dX12_testOf_28 ml_X12_290 md_X12_bothOf mv_X12_bothOf rfl (by decide) rfl rfl (Nat.le_of_ble_eq_true rfl) (by omega) (k_X12_bothOf G n kH dh hdh hH s0 s1 h) (fun r1 h2 => ?_)
  refine zi_istore_n (l' := [(3, .int r1), (0, .ref (zbase G + l0)), (1, .int l1), (2, .int l2)]) dX12_testOf_31 rfl (by decide) rfl ?_
  refine zi_iload_n dX12_testOf_32 rfl 3 rfl ?_
  refine zi_if_ne (tgt := 40) dX12_testOf_33 (by decide) ?_ ?_
  · refine zi_sub [1, 2] rfl ?_
    exact wb_X12_testOf_40 G n kH dh hdh hH k6 hk6 l0 l1 h2
  · refine zi_iload_n dX12_testOf_36 rfl 0 rfl ?_
    refine zi_if_eq (tgt := 44) dX12_testOf_37 (by decide) ?_ ?_
    · refine zi_iconst (v := 0) dX12_testOf_44 (by decide) ?_
      refine zi_sub [1, 2] rfl ?_
      exact wb_X12_testOf_45 G n kH dh hdh hH k6 hk6 l0 l1 0 h2
    · refine zi_sub [1, 2] rfl ?_
      exact wb_X12_testOf_40 G n kH dh hdh hH k6 hk6 l0 l1 h2
set_option maxRecDepth 20000 in
set_option maxHeartbeats 1000000 in
theorem wb_X12_testOf_27 (G : zG) (n : Nat) (kH : Nat → Int32 → zH → Option (Int32 × zH)) (dh : Nat) (hdh : 39 ≤ dh) (hH : ∀ (q0 : Nat) (q1 : Int32) (h : zH), zMet G yX12_testOf cX12_testOf 4 (some .boolean) zvI dh [.ref (zbase G + q0), .int q1] h (kH q0 q1 h)) (k6 : Nat → Int32 → Int32 → zH → Option (Int32 × zH)) (hk6 : ∀ (l0 : Nat) (l1 : Int32) (l2 : Int32) (h : zH), zW G yX12_testOf cX12_testOf 4 (some .boolean) zvI (dh + 4) 6 [(0, .ref (zbase G + l0)), (1, .int l1), (2, .int l2)] [] h (k6 l0 l1 l2 h)) (l0 : Nat) (l1 : Int32) (l2 : Int32) (s0 : Nat) (h : zH) : zW G yX12_testOf cX12_testOf 4 (some .boolean) zvI (dh + 4) 27 [(0, .ref (zbase G + l0)), (1, .int l1), (2, .int l2)] [.ref (zbase G + s0)] h (fb_X12_testOf_27 n kH k6 l0 l1 l2 s0 h) := by
  unfold fb_X12_testOf_27
  refine zi_iconst (v := 0) dX12_testOf_27 (by decide) ?_
  refine zi_sub [0, 1, 2] rfl ?_
  exact wb_X12_testOf_28 G n kH dh hdh hH k6 hk6 l0 l1 l2 s0 0 h
set_option maxRecDepth 20000 in
set_option maxHeartbeats 1000000 in
theorem wb_X12_testOf_6 (G : zG) (n : Nat) (kH : Nat → Int32 → zH → Option (Int32 × zH)) (dh : Nat) (hdh : 39 ≤ dh) (hH : ∀ (q0 : Nat) (q1 : Int32) (h : zH), zMet G yX12_testOf cX12_testOf 4 (some .boolean) zvI dh [.ref (zbase G + q0), .int q1] h (kH q0 q1 h)) (k6 : Nat → Int32 → Int32 → zH → Option (Int32 × zH)) (hk6 : ∀ (l0 : Nat) (l1 : Int32) (l2 : Int32) (h : zH), zW G yX12_testOf cX12_testOf 4 (some .boolean) zvI (dh + 4) 6 [(0, .ref (zbase G + l0)), (1, .int l1), (2, .int l2)] [] h (k6 l0 l1 l2 h)) (l0 : Nat) (l1 : Int32) (l2 : Int32) (h : zH) : zW G yX12_testOf cX12_testOf 4 (some .boolean) zvI (dh + 4) 6 [(0, .ref (zbase G + l0)), (1, .int l1), (2, .int l2)] [] h (fb_X12_testOf_6 n kH k6 l0 l1 l2 h) := by
  unfold fb_X12_testOf_6
  refine zi_aload_n dX12_testOf_6 rfl 0 rfl ?_
  refine zi_iconst (v := 4) dX12_testOf_7 (by decide) ?_
  refine zi_callVI (As := [.int 4]) (rest := []) (ci := 12) dX12_testOf_8 ml_X12_272 md_X12_passes0 mv_X12_passes0 rfl (by decide) rfl rfl (Nat.le_of_ble_eq_true rfl) (by omega) (k_X12_passes0 G n l0 4 h) (fun r1 h2 => ?_)
  refine zi_if_eq (tgt := 49) dX12_testOf_11 (by decide) ?_ ?_
  · refine zi_iload_n dX12_testOf_49 rfl 2 rfl ?_
    exact zi_retZ dX12_testOf_50
  · refine zi_aload_n dX12_testOf_14 rfl 0 rfl ?_
    refine zi_iload_n dX12_testOf_15 rfl 1 rfl ?_
    refine zi_if_eq (tgt := 27) dX12_testOf_16 (by decide) ?_ ?_
    · refine zi_sub [0, 1, 2] rfl ?_
      exact wb_X12_testOf_27 G n kH dh hdh hH k6 hk6 l0 l1 l2 l0 h2
    · refine zi_iload_n dX12_testOf_19 rfl 2 rfl ?_
      refine zi_if_ne (tgt := 27) dX12_testOf_20 (by decide) ?_ ?_
      · refine zi_sub [0, 1, 2] rfl ?_
        exact wb_X12_testOf_27 G n kH dh hdh hH k6 hk6 l0 l1 l2 l0 h2
      · refine zi_iconst (v := 1) dX12_testOf_23 (by decide) ?_
        refine zi_goto (tgt := 28) dX12_testOf_24 (by decide) ?_
        refine zi_sub [0, 1, 2] rfl ?_
        exact wb_X12_testOf_28 G n kH dh hdh hH k6 hk6 l0 l1 l2 l0 1 h2
theorem wl_X12_testOf_6 (G : zG) (n : Nat) (kH : Nat → Int32 → zH → Option (Int32 × zH)) (dh : Nat) (hdh : 39 ≤ dh) (hH : ∀ (q0 : Nat) (q1 : Int32) (h : zH), zMet G yX12_testOf cX12_testOf 4 (some .boolean) zvI dh [.ref (zbase G + q0), .int q1] h (kH q0 q1 h)) : ∀ (t : Nat) (l0 : Nat) (l1 : Int32) (l2 : Int32) (h : zH), zW G yX12_testOf cX12_testOf 4 (some .boolean) zvI (dh + 4) 6 [(0, .ref (zbase G + l0)), (1, .int l1), (2, .int l2)] [] h (zlp3 (fb_X12_testOf_6 n kH ) t l0 l1 l2 h) := by
  intro t
  induction t with
  | zero => intros; exact zW_none
  | succ t ih => intro l0 l1 l2 h; rw [zlp3_s]; exact wb_X12_testOf_6 G n kH dh hdh hH  _  ih l0 l1 l2 h
set_option maxRecDepth 20000 in
set_option maxHeartbeats 1000000 in
theorem kB_X12_testOf (G : zG) (n : Nat) (kH : Nat → Int32 → zH → Option (Int32 × zH)) (dh : Nat) (hdh : 39 ≤ dh) (hH : ∀ (q0 : Nat) (q1 : Int32) (h : zH), zMet G yX12_testOf cX12_testOf 4 (some .boolean) zvI dh [.ref (zbase G + q0), .int q1] h (kH q0 q1 h)) (a0 : Nat) (a1 : Int32) (h : zH) : zMet G yX12_testOf cX12_testOf 4 (some .boolean) zvI (dh + 4) [.ref (zbase G + a0), .int a1] h (fB_X12_testOf n kH a0 a1 h) := by
  refine zMet_of (l := [(0, .ref (zbase G + a0)), (1, .int a1)]) (by decide) (Nat.le_of_ble_eq_true rfl) rfl ?_
  unfold fB_X12_testOf
  refine zi_aload_n dX12_testOf_0 rfl 0 rfl ?_
  refine zi_iload_n dX12_testOf_1 rfl 1 rfl ?_
  refine zi_callVI (As := [.int a1]) (rest := []) (ci := 12) dX12_testOf_2 ml_X12_290 md_X12_bothOf mv_X12_bothOf rfl (by decide) rfl rfl (Nat.le_of_ble_eq_true rfl) (by omega) (k_X12_bothOf G n kH dh hdh hH a0 a1 h) (fun r1 h2 => ?_)
  refine zi_istore_n (l' := [(2, .int r1), (0, .ref (zbase G + a0)), (1, .int a1)]) dX12_testOf_5 rfl (by decide) rfl ?_
  refine zi_sub [1, 2, 0] rfl ?_
  exact wl_X12_testOf_6 G n kH dh hdh hH n a0 a1 r1 h2
theorem k_X12_testOf (G : zG) (n : Nat) : ∀ (r : Nat) (a0 : Nat) (a1 : Int32) (h : zH), zMet G yX12_testOf cX12_testOf 4 (some .boolean) zvI (39 + 4 * r) [.ref (zbase G + a0), .int a1] h (f_X12_testOf n r a0 a1 h) := by
  intro r
  induction r with
  | zero => intro a0 a1 h r h1 hX; cases hX
  | succ r ih => intro a0 a1 h; exact kB_X12_testOf G n (f_X12_testOf n r) (39 + 4 * r) (Nat.le_add_right _ _) ih a0 a1 h
set_option maxRecDepth 20000 in
set_option maxHeartbeats 1000000 in
theorem wb_X12_tells_203 (G : zG) (n : Nat) (k64 : Nat → Int32 → Int64 → zH → Option (Int32 × zH)) (hk64 : ∀ (l0 : Nat) (l1 : Int32) (l3 : Int64) (h : zH), zW G yX12_tells cX12_tells 10 (some .int) zvI 88 64 [(0, .ref (zbase G + l0)), (1, .int l1), (3, .long l3)] [] h (k64 l0 l1 l3 h)) (l0 : Nat) (l1 : Int32) (l3 : Int64) (h : zH) : zW G yX12_tells cX12_tells 10 (some .int) zvI 88 203 [(0, .ref (zbase G + l0)), (1, .int l1), (3, .long l3)] [] h (fb_X12_tells_203 n k64 l0 l1 l3 h) := by
  unfold fb_X12_tells_203
  refine zi_aload_n dX12_tells_203 rfl 0 rfl ?_
  refine zi_dup dX12_tells_204 rfl ?_
  refine zi_getI dX12_tells_205 gf_X12_248 (fun v1 => ?_)
  refine zi_iconst (v := 1) dX12_tells_208 (by decide) ?_
  refine zi_iadd dX12_tells_209 ?_
  refine zi_putI dX12_tells_210 gf_X12_248 (fun h2 => ?_)
  refine zi_goto (tgt := 64) dX12_tells_213 (by decide) ?_
  refine zi_sub [0, 1, 2] rfl ?_
  exact hk64 l0 l1 l3 h2
set_option maxRecDepth 20000 in
set_option maxHeartbeats 1000000 in
theorem wb_X12_tells_202 (G : zG) (n : Nat) (k64 : Nat → Int32 → Int64 → zH → Option (Int32 × zH)) (hk64 : ∀ (l0 : Nat) (l1 : Int32) (l3 : Int64) (h : zH), zW G yX12_tells cX12_tells 10 (some .int) zvI 88 64 [(0, .ref (zbase G + l0)), (1, .int l1), (3, .long l3)] [] h (k64 l0 l1 l3 h)) (l0 : Nat) (l1 : Int32) (s0 : Int64) (h : zH) : zW G yX12_tells cX12_tells 10 (some .int) zvI 88 202 [(0, .ref (zbase G + l0)), (1, .int l1)] [.long s0] h (fb_X12_tells_202 n k64 l0 l1 s0 h) := by
  unfold fb_X12_tells_202
  refine zi_lstore_n (l' := [(3, .long s0), (0, .ref (zbase G + l0)), (1, .int l1)]) dX12_tells_202 rfl (by decide) rfl ?_
  refine zi_sub [1, 2, 0] rfl ?_
  exact wb_X12_tells_203 G n k64 hk64 l0 l1 s0 h
set_option maxRecDepth 20000 in
set_option maxHeartbeats 1000000 in
theorem wb_X12_tells_149 (G : zG) (n : Nat) (k64 : Nat → Int32 → Int64 → zH → Option (Int32 × zH)) (hk64 : ∀ (l0 : Nat) (l1 : Int32) (l3 : Int64) (h : zH), zW G yX12_tells cX12_tells 10 (some .int) zvI 88 64 [(0, .ref (zbase G + l0)), (1, .int l1), (3, .long l3)] [] h (k64 l0 l1 l3 h)) (l0 : Nat) (l1 : Int32) (l3 : Int64) (l5 : Int32) (l6 : Int64) (l8 : Int32) (s0 : Int32) (h : zH) : zW G yX12_tells cX12_tells 10 (some .int) zvI 88 149 [(0, .ref (zbase G + l0)), (1, .int l1), (3, .long l3), (5, .int l5), (6, .long l6), (8, .int l8)] [.int s0] h (fb_X12_tells_149 n k64 l0 l1 l3 l5 l6 l8 s0 h) := by
  unfold fb_X12_tells_149
  refine zi_istore (l' := [(9, .int s0), (0, .ref (zbase G + l0)), (1, .int l1), (3, .long l3), (5, .int l5), (6, .long l6), (8, .int l8)]) dX12_tells_149 (by decide) rfl ?_
  refine zi_iload dX12_tells_151 4 rfl ?_
  refine zi_iload_n dX12_tells_153 rfl 2 rfl ?_
  refine zi_icmp_ne (tgt := 203) dX12_tells_154 (by decide) ?_ ?_
  · refine zi_sub [1, 2, 3] rfl ?_
    exact wb_X12_tells_203 G n k64 hk64 l0 l1 l3 h
  · refine zi_iload dX12_tells_157 0 rfl ?_
    refine zi_if_eq (tgt := 203) dX12_tells_159 (by decide) ?_ ?_
    · refine zi_sub [1, 2, 3] rfl ?_
      exact wb_X12_tells_203 G n k64 hk64 l0 l1 l3 h
    · refine zi_aload_n dX12_tells_162 rfl 1 rfl ?_
      refine zi_getZ dX12_tells_163 gf_X12_258 (fun v1 => ?_)
      refine zi_if_ne (tgt := 203) dX12_tells_166 (by decide) ?_ ?_
      · refine zi_sub [1, 2, 3] rfl ?_
        exact wb_X12_tells_203 G n k64 hk64 l0 l1 l3 h
      · refine zi_iload dX12_tells_169 6 rfl ?_
        refine zi_if_ne (tgt := 203) dX12_tells_171 (by decide) ?_ ?_
        · refine zi_sub [1, 2, 3] rfl ?_
          exact wb_X12_tells_203 G n k64 hk64 l0 l1 l3 h
        · refine zi_lload dX12_tells_174 5 rfl ?_
          refine zi_lconst (v := 0) dX12_tells_176 (by decide) ?_
          refine zi_lcmp dX12_tells_177 ?_
          refine zi_if_ge (tgt := 185) dX12_tells_178 (by decide) ?_ ?_
          · refine zi_lload dX12_tells_185 5 rfl ?_
            refine zi_ldc2 dX12_tells_187 kl_X12_302 ?_
            refine zi_lcmp dX12_tells_190 ?_
            refine zi_if_le (tgt := 200) dX12_tells_191 (by decide) ?_ ?_
            · refine zi_lload dX12_tells_200 5 rfl ?_
              refine zi_sub [1, 2] rfl ?_
              exact wb_X12_tells_202 G n k64 hk64 l0 l1 l6 h
            · refine zi_ldc2 dX12_tells_194 kl_X12_302 ?_
              refine zi_goto (tgt := 202) dX12_tells_197 (by decide) ?_
              refine zi_sub [1, 2] rfl ?_
              exact wb_X12_tells_202 G n k64 hk64 l0 l1 99 h
          · refine zi_lconst (v := 0) dX12_tells_181 (by decide) ?_
            refine zi_goto (tgt := 202) dX12_tells_182 (by decide) ?_
            refine zi_sub [1, 2] rfl ?_
            exact wb_X12_tells_202 G n k64 hk64 l0 l1 0 h
set_option maxRecDepth 20000 in
set_option maxHeartbeats 1000000 in
theorem wb_X12_tells_144 (G : zG) (n : Nat) (k64 : Nat → Int32 → Int64 → zH → Option (Int32 × zH)) (hk64 : ∀ (l0 : Nat) (l1 : Int32) (l3 : Int64) (h : zH), zW G yX12_tells cX12_tells 10 (some .int) zvI 88 64 [(0, .ref (zbase G + l0)), (1, .int l1), (3, .long l3)] [] h (k64 l0 l1 l3 h)) (l0 : Nat) (l1 : Int32) (l3 : Int64) (l5 : Int32) (l6 : Int64) (l8 : Int32) (h : zH) : zW G yX12_tells cX12_tells 10 (some .int) zvI 88 144 [(0, .ref (zbase G + l0)), (1, .int l1), (3, .long l3), (5, .int l5), (6, .long l6), (8, .int l8)] [] h (fb_X12_tells_144 n k64 l0 l1 l3 l5 l6 l8 h) := by
  unfold fb_X12_tells_144
  refine zi_iconst (v := 1) dX12_tells_144 (by decide) ?_
  refine zi_goto (tgt := 149) dX12_tells_145 (by decide) ?_
  refine zi_sub [0, 1, 2, 3, 4, 5] rfl ?_
  exact wb_X12_tells_149 G n k64 hk64 l0 l1 l3 l5 l6 l8 1 h
set_option maxRecDepth 20000 in
set_option maxHeartbeats 1000000 in
theorem wb_X12_tells_115 (G : zG) (n : Nat) (k64 : Nat → Int32 → Int64 → zH → Option (Int32 × zH)) (hk64 : ∀ (l0 : Nat) (l1 : Int32) (l3 : Int64) (h : zH), zW G yX12_tells cX12_tells 10 (some .int) zvI 88 64 [(0, .ref (zbase G + l0)), (1, .int l1), (3, .long l3)] [] h (k64 l0 l1 l3 h)) (l0 : Nat) (l1 : Int32) (l3 : Int64) (l5 : Int32) (s0 : Int64) (h : zH) : zW G yX12_tells cX12_tells 10 (some .int) zvI 88 115 [(0, .ref (zbase G + l0)), (1, .int l1), (3, .long l3), (5, .int l5)] [.long s0] h (fb_X12_tells_115 n k64 l0 l1 l3 l5 s0 h) := by
  unfold fb_X12_tells_115
  refine zi_lstore (l' := [(6, .long s0), (0, .ref (zbase G + l0)), (1, .int l1), (3, .long l3), (5, .int l5)]) dX12_tells_115 (by decide) rfl ?_
  refine zi_aload_n dX12_tells_117 rfl 1 rfl ?_
  refine zi_getZ dX12_tells_118 gf_X12_258 (fun v1 => ?_)
  refine zi_istore (l' := [(8, .int v1), (6, .long s0), (0, .ref (zbase G + l0)), (1, .int l1), (3, .long l3), (5, .int l5)]) dX12_tells_121 (by decide) rfl ?_
  refine zi_aload_n dX12_tells_123 rfl 2 rfl ?_
  refine zi_iconst (v := 0) dX12_tells_124 (by decide) ?_
  refine zi_putZ dX12_tells_125 gf_X12_258 (fun h2 => ?_)
  refine zi_aload_n dX12_tells_128 rfl 2 rfl ?_
  refine zi_iconst (v := 3) dX12_tells_129 (by decide) ?_
  refine zi_callVI (As := [.int 3]) (rest := []) (ci := 12) dX12_tells_130 ml_X12_272 md_X12_passes0 mv_X12_passes0 rfl (by decide) rfl rfl (Nat.le_of_ble_eq_true rfl) (Nat.le_of_ble_eq_true rfl) (k_X12_passes0 G n l0 3 h2) (fun r3 h4 => ?_)
  refine zi_if_eq (tgt := 144) dX12_tells_133 (by decide) ?_ ?_
  · refine zi_sub [2, 3, 4, 5, 1, 0] rfl ?_
    exact wb_X12_tells_144 G n k64 hk64 l0 l1 l3 l5 s0 v1 h4
  · refine zi_aload_n dX12_tells_136 rfl 2 rfl ?_
    refine zi_iconst (v := 1) dX12_tells_137 (by decide) ?_
    refine zi_callVI (As := [.int 1]) (rest := []) (ci := 12) dX12_tells_138 ml_X12_299 md_X12_testOf mv_X12_testOf rfl (by decide) rfl rfl (Nat.le_of_ble_eq_true rfl) (Nat.le_of_ble_eq_true rfl) (k_X12_testOf G n 12 l0 1 h4) (fun r5 h6 => ?_)
    refine zi_if_eq (tgt := 148) dX12_tells_141 (by decide) ?_ ?_
    · refine zi_iconst (v := 0) dX12_tells_148 (by decide) ?_
      refine zi_sub [2, 3, 4, 5, 1, 0] rfl ?_
      exact wb_X12_tells_149 G n k64 hk64 l0 l1 l3 l5 s0 v1 0 h6
    · refine zi_sub [2, 3, 4, 5, 1, 0] rfl ?_
      exact wb_X12_tells_144 G n k64 hk64 l0 l1 l3 l5 s0 v1 h6
set_option maxRecDepth 20000 in
set_option maxHeartbeats 1000000 in
theorem wb_X12_tells_64 (G : zG) (n : Nat) (k64 : Nat → Int32 → Int64 → zH → Option (Int32 × zH)) (hk64 : ∀ (l0 : Nat) (l1 : Int32) (l3 : Int64) (h : zH), zW G yX12_tells cX12_tells 10 (some .int) zvI 88 64 [(0, .ref (zbase G + l0)), (1, .int l1), (3, .long l3)] [] h (k64 l0 l1 l3 h)) (l0 : Nat) (l1 : Int32) (l3 : Int64) (h : zH) : zW G yX12_tells cX12_tells 10 (some .int) zvI 88 64 [(0, .ref (zbase G + l0)), (1, .int l1), (3, .long l3)] [] h (fb_X12_tells_64 n k64 l0 l1 l3 h) := by
  unfold fb_X12_tells_64
  refine zi_aload_n dX12_tells_64 rfl 0 rfl ?_
  refine zi_getI dX12_tells_65 gf_X12_248 (fun v1 => ?_)
  refine zi_aload_n dX12_tells_68 rfl 0 rfl ?_
  refine zi_getI dX12_tells_69 gf_X12_245 (fun v2 => ?_)
  refine zi_icmp_ge (tgt := 216) dX12_tells_72 (by decide) ?_ ?_
  · refine zi_lload_n dX12_tells_216 rfl 2 rfl ?_
    refine zi_l2i dX12_tells_217 ?_
    exact zi_retI dX12_tells_218
  · refine zi_aload_n dX12_tells_75 rfl 0 rfl ?_
    refine zi_aload_n dX12_tells_76 rfl 0 rfl ?_
    refine zi_getI dX12_tells_77 gf_X12_248 (fun v3 => ?_)
    refine zi_callVI (As := [.int v3]) (rest := []) (ci := 12) dX12_tells_80 ml_X12_251 md_X12_codeAt mv_X12_codeAt rfl (by decide) rfl rfl (Nat.le_of_ble_eq_true rfl) (Nat.le_of_ble_eq_true rfl) (k_X12_codeAt G n l0 v3 h) (fun r4 h5 => ?_)
    refine zi_istore (l' := [(5, .int r4), (0, .ref (zbase G + l0)), (1, .int l1), (3, .long l3)]) dX12_tells_83 (by decide) rfl ?_
    refine zi_aload_n dX12_tells_85 rfl 1 rfl ?_
    refine zi_iconst (v := 0) dX12_tells_86 (by decide) ?_
    refine zi_putZ dX12_tells_87 gf_X12_258 (fun h6 => ?_)
    refine zi_aload_n dX12_tells_90 rfl 1 rfl ?_
    refine zi_dup dX12_tells_91 rfl ?_
    refine zi_getI dX12_tells_92 gf_X12_248 (fun v7 => ?_)
    refine zi_iconst (v := 1) dX12_tells_95 (by decide) ?_
    refine zi_iadd dX12_tells_96 ?_
    refine zi_putI dX12_tells_97 gf_X12_248 (fun h8 => ?_)
    refine zi_iload dX12_tells_100 0 rfl ?_
    refine zi_iconst (v := 2) dX12_tells_102 (by decide) ?_
    refine zi_icmp_ne (tgt := 110) dX12_tells_103 (by decide) ?_ ?_
    · refine zi_aload_n dX12_tells_110 rfl 1 rfl ?_
      refine zi_iconst (v := 1) dX12_tells_111 (by decide) ?_
      refine zi_callVL (As := [.int 1]) (rest := []) (ci := 12) dX12_tells_112 ml_X12_275 md_X12_sumOf mv_X12_sumOf rfl (by decide) rfl rfl (Nat.le_of_ble_eq_true rfl) (Nat.le_of_ble_eq_true rfl) (k_X12_sumOf G n 12 l0 1 h8) (fun r9 h10 => ?_)
      refine zi_sub [1, 2, 3, 0] rfl ?_
      exact wb_X12_tells_115 G n k64 hk64 l0 l1 l3 r4 r9 h10
    · refine zi_lconst (v := 1) dX12_tells_106 (by decide) ?_
      refine zi_goto (tgt := 115) dX12_tells_107 (by decide) ?_
      refine zi_sub [1, 2, 3, 0] rfl ?_
      exact wb_X12_tells_115 G n k64 hk64 l0 l1 l3 r4 1 h8
theorem wl_X12_tells_64 (G : zG) (n : Nat) : ∀ (t : Nat) (l0 : Nat) (l1 : Int32) (l3 : Int64) (h : zH), zW G yX12_tells cX12_tells 10 (some .int) zvI 88 64 [(0, .ref (zbase G + l0)), (1, .int l1), (3, .long l3)] [] h (zlp3 (fb_X12_tells_64 n ) t l0 l1 l3 h) := by
  intro t
  induction t with
  | zero => intros; exact zW_none
  | succ t ih => intro l0 l1 l3 h; rw [zlp3_s]; exact wb_X12_tells_64 G n  _  ih l0 l1 l3 h
set_option maxRecDepth 20000 in
set_option maxHeartbeats 1000000 in
theorem k_X12_tells (G : zG) (n : Nat) (a0 : Nat) (a1 : Int32) (a2 : Int32) (h : zH) : zMet G yX12_tells cX12_tells 10 (some .int) zvI 88 [.ref (zbase G + a0), .int a1, .int a2] h (f_X12_tells n a0 a1 a2 h) := by
  refine zMet_of (l := [(0, .ref (zbase G + a0)), (1, .int a1), (2, .int a2)]) (by decide) (Nat.le_of_ble_eq_true rfl) rfl ?_
  unfold f_X12_tells
  refine zi_aload_n dX12_tells_0 rfl 0 rfl ?_
  refine zi_getR dX12_tells_1 gf_X12_28 (fun v1 => ?_)
  refine zi_sipush (v := 207) dX12_tells_4 (by decide) ?_
  refine zi_iald dX12_tells_7 (fun v2 => ?_)
  refine zi_iconst (v := (-1)) dX12_tells_8 (by decide) ?_
  refine zi_icmp_ne (tgt := 14) dX12_tells_9 (by decide) ?_ ?_
  · refine zi_aload_n dX12_tells_14 rfl 0 rfl ?_
    refine zi_iconst (v := 0) dX12_tells_15 (by decide) ?_
    refine zi_putZ dX12_tells_16 gf_X12_278 (fun h3 => ?_)
    refine zi_iload_n dX12_tells_19 rfl 2 rfl ?_
    refine zi_i2l dX12_tells_20 ?_
    refine zi_let (sf := fun x4 => .long x4 :: []) (fun x4 => ?_)
    refine zi_lstore_n (l' := [(3, .long x4), (0, .ref (zbase G + a0)), (1, .int a1), (2, .int a2)]) dX12_tells_21 rfl (by decide) rfl ?_
    refine zi_aload_n dX12_tells_22 rfl 1 rfl ?_
    refine zi_sipush (v := 400) dX12_tells_23 (by decide) ?_
    refine zi_aload_n dX12_tells_26 rfl 1 rfl ?_
    refine zi_getR dX12_tells_27 gf_X12_28 (fun v5 => ?_)
    refine zi_sipush (v := 207) dX12_tells_30 (by decide) ?_
    refine zi_iald dX12_tells_33 (fun v6 => ?_)
    refine zi_imul dX12_tells_34 ?_
    refine zi_putI dX12_tells_35 gf_X12_248 (fun h7 => ?_)
    refine zi_aload_n dX12_tells_38 rfl 1 rfl ?_
    refine zi_aload_n dX12_tells_39 rfl 1 rfl ?_
    refine zi_getI dX12_tells_40 gf_X12_248 (fun v8 => ?_)
    refine zi_aload_n dX12_tells_43 rfl 1 rfl ?_
    refine zi_getR dX12_tells_44 gf_X12_28 (fun v9 => ?_)
    refine zi_sipush (v := 208) dX12_tells_47 (by decide) ?_
    refine zi_aload_n dX12_tells_50 rfl 1 rfl ?_
    refine zi_getR dX12_tells_51 gf_X12_28 (fun v10 => ?_)
    refine zi_sipush (v := 207) dX12_tells_54 (by decide) ?_
    refine zi_iald dX12_tells_57 (fun v11 => ?_)
    refine zi_iadd dX12_tells_58 ?_
    refine zi_iald dX12_tells_59 (fun v12 => ?_)
    refine zi_iadd dX12_tells_60 ?_
    refine zi_putI dX12_tells_61 gf_X12_245 (fun h13 => ?_)
    refine zi_sub [1, 2, 0] rfl ?_
    exact wl_X12_tells_64 G n n a0 a1 x4 h13
  · refine zi_iload_n dX12_tells_12 rfl 2 rfl ?_
    exact zi_retI dX12_tells_13
set_option maxRecDepth 20000 in
set_option maxHeartbeats 1000000 in
theorem k_X12_isBarred (G : zG) (n : Nat) (a0 : Nat) (a1 : Int32) (h : zH) : zMet G yX12_isBarred cX12_isBarred 2 (some .boolean) zvI 89 [.ref (zbase G + a0), .int a1] h (f_X12_isBarred n a0 a1 h) := by
  refine zMet_of (l := [(0, .ref (zbase G + a0)), (1, .int a1)]) (by decide) (Nat.le_of_ble_eq_true rfl) rfl ?_
  unfold f_X12_isBarred
  refine zi_aload_n dX12_isBarred_0 rfl 0 rfl ?_
  refine zi_iconst (v := (-1)) dX12_isBarred_1 (by decide) ?_
  refine zi_iconst (v := (-1)) dX12_isBarred_2 (by decide) ?_
  refine zi_iconst (v := (-1)) dX12_isBarred_3 (by decide) ?_
  refine zi_iconst (v := (-1)) dX12_isBarred_4 (by decide) ?_
  refine zi_iload_n dX12_isBarred_5 rfl 1 rfl ?_
  refine zi_callVU (As := [.int (-1), .int (-1), .int (-1), .int (-1), .int a1]) (rest := []) (ci := 12) dX12_isBarred_6 ml_X12_307 md_X12_setsAsked mv_X12_setsAsked rfl (by decide) rfl rfl (Nat.le_of_ble_eq_true rfl) (Nat.le_of_ble_eq_true rfl) (k_X12_setsAsked G n a0 (-1) (-1) (-1) (-1) a1 h) (fun _ h2 => ?_)
  refine zi_aload_n dX12_isBarred_9 rfl 0 rfl ?_
  refine zi_iconst (v := 2) dX12_isBarred_10 (by decide) ?_
  refine zi_iconst (v := 0) dX12_isBarred_11 (by decide) ?_
  refine zi_callVI (As := [.int 2, .int 0]) (rest := []) (ci := 12) dX12_isBarred_12 ml_X12_311 md_X12_tells mv_X12_tells rfl (by decide) rfl rfl (Nat.le_of_ble_eq_true rfl) (Nat.le_of_ble_eq_true rfl) (k_X12_tells G n a0 2 0 h2) (fun r3 h4 => ?_)
  refine zi_iconst (v := 1) dX12_isBarred_15 (by decide) ?_
  refine zi_icmp_ne (tgt := 23) dX12_isBarred_16 (by decide) ?_ ?_
  · refine zi_iconst (v := 0) dX12_isBarred_23 (by decide) ?_
    exact zi_ret0 dX12_isBarred_24
  · refine zi_iconst (v := 1) dX12_isBarred_19 (by decide) ?_
    refine zi_goto (tgt := 24) dX12_isBarred_20 (by decide) ?_
    exact zi_ret1 dX12_isBarred_24
