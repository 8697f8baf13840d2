set_option maxRecDepth 20000 in
set_option maxHeartbeats 1000000 in
theorem wb_X12_undo_62 (G : zG) (n : Nat) (l0 : Nat) (l1 : Int32) (h : zH) : zW G yX12_undo cX12_undo 3 (some .int) zvI 2 62 [(0, .ref (zbase G + l0)), (1, .int l1)] [] h (fb_X12_undo_62 n l0 l1 h) := by
  unfold fb_X12_undo_62
  refine zi_aload_n dX12_undo_62 rfl 0 rfl ?_
  refine zi_aload_n dX12_undo_63 rfl 0 rfl ?_
  refine zi_getR dX12_undo_64 gf_X12_66 (fun v1 => ?_)
  refine zi_iload_n dX12_undo_67 rfl 1 rfl ?_
  refine zi_sipush (v := 191) dX12_undo_68 (by decide) ?_
  refine zi_iadd dX12_undo_71 ?_
  refine zi_iald dX12_undo_72 (fun v2 => ?_)
  refine zi_callVI (As := [.int v2]) (rest := []) (ci := 12) dX12_undo_73 ml_X12_14 md_X12_good mv_X12_good rfl (by decide) rfl rfl (Nat.le_of_ble_eq_true rfl) (Nat.le_of_ble_eq_true rfl) (k_X12_good G n l0 v2 h) (fun r3 h4 => ?_)
  exact zi_retI dX12_undo_76
set_option maxRecDepth 20000 in
set_option maxHeartbeats 1000000 in
theorem wb_X12_undo_35 (G : zG) (n : Nat) (k35 : Nat → Int32 → Int32 → zH → Option (Int32 × zH)) (hk35 : ∀ (l0 : Nat) (l1 : Int32) (l2 : Int32) (h : zH), zW G yX12_undo cX12_undo 3 (some .int) zvI 2 35 [(0, .ref (zbase G + l0)), (1, .int l1), (2, .int l2)] [] h (k35 l0 l1 l2 h)) (l0 : Nat) (l1 : Int32) (l2 : Int32) (h : zH) : zW G yX12_undo cX12_undo 3 (some .int) zvI 2 35 [(0, .ref (zbase G + l0)), (1, .int l1), (2, .int l2)] [] h (fb_X12_undo_35 n k35 l0 l1 l2 h) := by
  unfold fb_X12_undo_35
  refine zi_iload_n dX12_undo_35 rfl 2 rfl ?_
  refine zi_sipush (v := 191) dX12_undo_36 (by decide) ?_
  refine zi_icmp_ge (tgt := 62) dX12_undo_39 (by decide) ?_ ?_
  · refine zi_sub [0, 1] rfl ?_
    exact wb_X12_undo_62 G n l0 l1 h
  · refine zi_aload_n dX12_undo_42 rfl 0 rfl ?_
    refine zi_getR dX12_undo_43 gf_X12_28 (fun v1 => ?_)
    refine zi_iload_n dX12_undo_46 rfl 2 rfl ?_
    refine zi_aload_n dX12_undo_47 rfl 0 rfl ?_
    refine zi_getR dX12_undo_48 gf_X12_66 (fun v2 => ?_)
    refine zi_iload_n dX12_undo_51 rfl 1 rfl ?_
    refine zi_iload_n dX12_undo_52 rfl 2 rfl ?_
    refine zi_iadd dX12_undo_53 ?_
    refine zi_iald dX12_undo_54 (fun v3 => ?_)
    refine zi_iast dX12_undo_55 (fun h4 => ?_)
    refine zi_iinc (j := 2) (v := l2 + 1) (l' := [(2, .int (l2 + 1)), (0, .ref (zbase G + l0)), (1, .int l1)]) dX12_undo_56 rfl rfl (by decide) rfl ?_
    refine zi_goto (tgt := 35) dX12_undo_59 (by decide) ?_
    refine zi_sub [1, 2, 0] rfl ?_
    exact hk35 l0 l1 (l2 + 1) h4
theorem wl_X12_undo_35 (G : zG) (n : Nat) : ∀ (t : Nat) (l0 : Nat) (l1 : Int32) (l2 : Int32) (h : zH), zW G yX12_undo cX12_undo 3 (some .int) zvI 2 35 [(0, .ref (zbase G + l0)), (1, .int l1), (2, .int l2)] [] h (zlp3 (fb_X12_undo_35 n ) t l0 l1 l2 h) := by
  intro t
  induction t with
  | zero => intros; exact zW_none
  | succ t ih => intro l0 l1 l2 h; rw [zlp3_s]; exact wb_X12_undo_35 G n  _  ih l0 l1 l2 h
set_option maxRecDepth 20000 in
set_option maxHeartbeats 1000000 in
theorem k_X12_undo (G : zG) (n : Nat) (a0 : Nat) (h : zH) : zMet G yX12_undo cX12_undo 3 (some .int) zvI 2 [.ref (zbase G + a0)] h (f_X12_undo n a0 h) := by
  refine zMet_of (l := [(0, .ref (zbase G + a0))]) (by decide) (Nat.le_of_ble_eq_true rfl) rfl ?_
  unfold f_X12_undo
  refine zi_aload_n dX12_undo_0 rfl 0 rfl ?_
  refine zi_getI dX12_undo_1 gf_X12_11 (fun v1 => ?_)
  refine zi_if_ne (tgt := 14) dX12_undo_4 (by decide) ?_ ?_
  · refine zi_aload_n dX12_undo_14 rfl 0 rfl ?_
    refine zi_dup dX12_undo_15 rfl ?_
    refine zi_getI dX12_undo_16 gf_X12_11 (fun v2 => ?_)
    refine zi_iconst (v := 1) dX12_undo_19 (by decide) ?_
    refine zi_isub dX12_undo_20 ?_
    refine zi_putI dX12_undo_21 gf_X12_11 (fun h3 => ?_)
    refine zi_sipush (v := 192) dX12_undo_24 (by decide) ?_
    refine zi_aload_n dX12_undo_27 rfl 0 rfl ?_
    refine zi_getI dX12_undo_28 gf_X12_11 (fun v4 => ?_)
    refine zi_imul dX12_undo_31 ?_
    refine zi_let (sf := fun x5 => .int x5 :: []) (fun x5 => ?_)
    refine zi_istore_n (l' := [(1, .int x5), (0, .ref (zbase G + a0))]) dX12_undo_32 rfl (by decide) rfl ?_
    refine zi_iconst (v := 0) dX12_undo_33 (by decide) ?_
    refine zi_istore_n (l' := [(2, .int 0), (1, .int x5), (0, .ref (zbase G + a0))]) dX12_undo_34 rfl (by decide) rfl ?_
    refine zi_sub [2, 1, 0] rfl ?_
    exact wl_X12_undo_35 G n n a0 x5 0 h3
  · refine zi_aload_n dX12_undo_7 rfl 0 rfl ?_
    refine zi_bipush (v := (-3)) dX12_undo_8 (by decide) ?_
    refine zi_callVI (As := [.int (-3)]) (rest := []) (ci := 12) dX12_undo_10 ml_X12_85 md_X12_refuses mv_X12_refuses rfl (by decide) rfl rfl (Nat.le_of_ble_eq_true rfl) (Nat.le_of_ble_eq_true rfl) (k_X12_refuses G n a0 (-3) h) (fun r6 h7 => ?_)
    exact zi_retI dX12_undo_13
set_option maxRecDepth 20000 in
set_option maxHeartbeats 1000000 in
theorem k_X12_goodOr (G : zG) (n : Nat) (a0 : Nat) (a1 : Int32) (h : zH) : zMet G yX12_goodOr cX12_goodOr 2 (some .int) zvI 2 [.ref (zbase G + a0), .int a1] h (f_X12_goodOr n a0 a1 h) := by
  refine zMet_of (l := [(0, .ref (zbase G + a0)), (1, .int a1)]) (by decide) (Nat.le_of_ble_eq_true rfl) rfl ?_
  unfold f_X12_goodOr
  refine zi_iload_n dX12_goodOr_0 rfl 1 rfl ?_
  refine zi_if_ge (tgt := 12) dX12_goodOr_1 (by decide) ?_ ?_
  · refine zi_aload_n dX12_goodOr_12 rfl 0 rfl ?_
    refine zi_iload_n dX12_goodOr_13 rfl 1 rfl ?_
    refine zi_callVI (As := [.int a1]) (rest := []) (ci := 12) dX12_goodOr_14 ml_X12_14 md_X12_good mv_X12_good rfl (by decide) rfl rfl (Nat.le_of_ble_eq_true rfl) (Nat.le_of_ble_eq_true rfl) (k_X12_good G n a0 a1 h) (fun r1 h2 => ?_)
    exact zi_retI dX12_goodOr_17
  · refine zi_aload_n dX12_goodOr_4 rfl 0 rfl ?_
    refine zi_iload_n dX12_goodOr_5 rfl 1 rfl ?_
    refine zi_callVI (As := [.int a1]) (rest := []) (ci := 12) dX12_goodOr_6 ml_X12_85 md_X12_refuses mv_X12_refuses rfl (by decide) rfl rfl (Nat.le_of_ble_eq_true rfl) (Nat.le_of_ble_eq_true rfl) (k_X12_refuses G n a0 a1 h) (fun r3 h4 => ?_)
    refine zi_goto (tgt := 17) dX12_goodOr_9 (by decide) ?_
    exact zi_retI dX12_goodOr_17
set_option maxRecDepth 20000 in
set_option maxHeartbeats 1000000 in
theorem k_X12_acts (G : zG) (n : Nat) (a0 : Nat) (a1 : Int32) (a2 : Int32) (a3 : Int32) (h : zH) : zMet G yX12_acts cX12_acts 4 (some .int) zvI 94 [.ref (zbase G + a0), .int a1, .int a2, .int a3] h (f_X12_acts n a0 a1 a2 a3 h) := by
  refine zMet_of (l := [(0, .ref (zbase G + a0)), (1, .int a1), (2, .int a2), (3, .int a3)]) (by decide) (Nat.le_of_ble_eq_true rfl) rfl ?_
  unfold f_X12_acts
  refine zi_iload_n dX12_acts_0 rfl 1 rfl ?_
  refine zi_tsw (tgt := 96) _ dX12_acts_1 rfl ?_ (by decide) ?_ ?_
  · intro j q hq
    match j, hq with
    | 0, hq => cases hq; exact ⟨rfl, _, rfl, rfl⟩
    | 1, hq => cases hq; exact ⟨rfl, _, rfl, rfl⟩
    | 2, hq => cases hq; exact ⟨rfl, _, rfl, rfl⟩
    | 3, hq => cases hq; exact ⟨rfl, _, rfl, rfl⟩
    | 4, hq => cases hq; exact ⟨rfl, _, rfl, rfl⟩
    | 5, hq => cases hq; exact ⟨rfl, _, rfl, rfl⟩
    | 6, hq => cases hq; exact ⟨rfl, _, rfl, rfl⟩
    | 7, hq => cases hq; exact ⟨rfl, _, rfl, rfl⟩
    | j + 8, hq => simp at hq
  · simp only [List.forall_mem_cons, List.not_mem_nil, false_implies, implies_true, and_true]
    refine ⟨?_, ?_, ?_, ?_, ?_, ?_, ?_, ?_⟩
    · refine zi_aload_n dX12_acts_48 rfl 0 rfl ?_
      refine zi_iload_n dX12_acts_49 rfl 2 rfl ?_
      refine zi_iload_n dX12_acts_50 rfl 3 rfl ?_
      refine zi_callVI (As := [.int a2, .int a3]) (rest := []) (ci := 12) dX12_acts_51 ml_X12_139 md_X12_puts mv_X12_puts rfl (by decide) rfl rfl (Nat.le_of_ble_eq_true rfl) (Nat.le_of_ble_eq_true rfl) (k_X12_puts G n a0 a2 a3 h) (fun r1 h2 => ?_)
      exact zi_retI dX12_acts_54
    · refine zi_aload_n dX12_acts_55 rfl 0 rfl ?_
      refine zi_iload_n dX12_acts_56 rfl 2 rfl ?_
      refine zi_callVI (As := [.int a2]) (rest := []) (ci := 12) dX12_acts_57 ml_X12_357 md_X12_drops mv_X12_drops rfl (by decide) rfl rfl (Nat.le_of_ble_eq_true rfl) (Nat.le_of_ble_eq_true rfl) (k_X12_drops G n a0 a2 h) (fun r3 h4 => ?_)
      exact zi_retI dX12_acts_60
    · refine zi_aload_n dX12_acts_61 rfl 0 rfl ?_
      refine zi_iload_n dX12_acts_62 rfl 2 rfl ?_
      refine zi_callVI (As := [.int a2]) (rest := []) (ci := 12) dX12_acts_63 ml_X12_360 md_X12_enters mv_X12_enters rfl (by decide) rfl rfl (Nat.le_of_ble_eq_true rfl) (Nat.le_of_ble_eq_true rfl) (k_X12_enters G n a0 a2 h) (fun r5 h6 => ?_)
      exact zi_retI dX12_acts_66
    · refine zi_aload_n dX12_acts_67 rfl 0 rfl ?_
      refine zi_iload_n dX12_acts_68 rfl 2 rfl ?_
      refine zi_callVI (As := [.int a2]) (rest := []) (ci := 12) dX12_acts_69 ml_X12_363 md_X12_steps mv_X12_steps rfl (by decide) rfl rfl (Nat.le_of_ble_eq_true rfl) (Nat.le_of_ble_eq_true rfl) (k_X12_steps G n a0 a2 h) (fun r7 h8 => ?_)
      exact zi_retI dX12_acts_72
    · refine zi_aload_n dX12_acts_73 rfl 0 rfl ?_
      refine zi_iload_n dX12_acts_74 rfl 2 rfl ?_
      refine zi_callVI (As := [.int a2]) (rest := []) (ci := 12) dX12_acts_75 ml_X12_366 md_X12_parks mv_X12_parks rfl (by decide) rfl rfl (Nat.le_of_ble_eq_true rfl) (Nat.le_of_ble_eq_true rfl) (k_X12_parks G n a0 a2 h) (fun r9 h10 => ?_)
      exact zi_retI dX12_acts_78
    · refine zi_aload_n dX12_acts_79 rfl 0 rfl ?_
      refine zi_iload_n dX12_acts_80 rfl 2 rfl ?_
      refine zi_callVI (As := [.int a2]) (rest := []) (ci := 12) dX12_acts_81 ml_X12_369 md_X12_leaves0 mv_X12_leaves0 rfl (by decide) rfl rfl (Nat.le_of_ble_eq_true rfl) (Nat.le_of_ble_eq_true rfl) (k_X12_leaves0 G n a0 a2 h) (fun r11 h12 => ?_)
      exact zi_retI dX12_acts_84
    · refine zi_aload_n dX12_acts_85 rfl 0 rfl ?_
      refine zi_iload_n dX12_acts_86 rfl 2 rfl ?_
      refine zi_callVI (As := [.int a2]) (rest := []) (ci := 12) dX12_acts_87 ml_X12_354 md_X12_ticks mv_X12_ticks rfl (by decide) rfl rfl (Nat.le_of_ble_eq_true rfl) (Nat.le_of_ble_eq_true rfl) (k_X12_ticks G n a0 a2 h) (fun r13 h14 => ?_)
      exact zi_retI dX12_acts_90
    · refine zi_aload_n dX12_acts_91 rfl 0 rfl ?_
      refine zi_callVI (As := []) (rest := []) (ci := 12) dX12_acts_92 ml_X12_372 md_X12_beginsOr mv_X12_beginsOr rfl (by decide) rfl rfl (Nat.le_of_ble_eq_true rfl) (Nat.le_of_ble_eq_true rfl) (k_X12_beginsOr G n a0 h) (fun r15 h16 => ?_)
      exact zi_retI dX12_acts_95
  · refine zi_aload_n dX12_acts_96 rfl 0 rfl ?_
    refine zi_callVI (As := []) (rest := []) (ci := 12) dX12_acts_97 ml_X12_375 md_X12_hurries mv_X12_hurries rfl (by decide) rfl rfl (Nat.le_of_ble_eq_true rfl) (Nat.le_of_ble_eq_true rfl) (k_X12_hurries G n a0 h) (fun r17 h18 => ?_)
    exact zi_retI dX12_acts_100
set_option maxRecDepth 20000 in
set_option maxHeartbeats 1000000 in
theorem k_X12_actsKept (G : zG) (n : Nat) (a0 : Nat) (a1 : Int32) (a2 : Int32) (a3 : Int32) (h : zH) : zMet G yX12_actsKept cX12_actsKept 4 (some .int) zvI 95 [.ref (zbase G + a0), .int a1, .int a2, .int a3] h (f_X12_actsKept n a0 a1 a2 a3 h) := by
  refine zMet_of (l := [(0, .ref (zbase G + a0)), (1, .int a1), (2, .int a2), (3, .int a3)]) (by decide) (Nat.le_of_ble_eq_true rfl) rfl ?_
  unfold f_X12_actsKept
  refine zi_aload_n dX12_actsKept_0 rfl 0 rfl ?_
  refine zi_iconst (v := 2) dX12_actsKept_1 (by decide) ?_
  refine zi_callVU (As := [.int 2]) (rest := []) (ci := 12) dX12_actsKept_2 ml_X12_378 md_X12_laysAside mv_X12_laysAside rfl (by decide) rfl rfl (Nat.le_of_ble_eq_true rfl) (Nat.le_of_ble_eq_true rfl) (k_X12_laysAside G n a0 2 h) (fun _ h2 => ?_)
  refine zi_aload_n dX12_actsKept_5 rfl 0 rfl ?_
  refine zi_iload_n dX12_actsKept_6 rfl 1 rfl ?_
  refine zi_aload_n dX12_actsKept_7 rfl 0 rfl ?_
  refine zi_iload_n dX12_actsKept_8 rfl 1 rfl ?_
  refine zi_iload_n dX12_actsKept_9 rfl 2 rfl ?_
  refine zi_iload_n dX12_actsKept_10 rfl 3 rfl ?_
  refine zi_callVI (As := [.int a1, .int a2, .int a3]) (rest := [.int a1, .ref (zbase G + a0)]) (ci := 12) dX12_actsKept_11 ml_X12_381 md_X12_acts mv_X12_acts rfl (by decide) rfl rfl (Nat.le_of_ble_eq_true rfl) (Nat.le_of_ble_eq_true rfl) (k_X12_acts G n a0 a1 a2 a3 h2) (fun r3 h4 => ?_)
  refine zi_callVI (As := [.int a1, .int r3]) (rest := []) (ci := 12) dX12_actsKept_14 ml_X12_385 md_X12_keptOr mv_X12_keptOr rfl (by decide) rfl rfl (Nat.le_of_ble_eq_true rfl) (Nat.le_of_ble_eq_true rfl) (k_X12_keptOr G n a0 a1 r3 h4) (fun r5 h6 => ?_)
  exact zi_retI dX12_actsKept_17
set_option maxRecDepth 20000 in
set_option maxHeartbeats 1000000 in
theorem k_X12_put (G : zG) (n : Nat) (a0 : Nat) (a1 : Int32) (a2 : Int32) (h : zH) : zMet G yX12_put cX12_put 3 (some .int) zvI 96 [.ref (zbase G + a0), .int a1, .int a2] h (f_X12_put n a0 a1 a2 h) := by
  refine zMet_of (l := [(0, .ref (zbase G + a0)), (1, .int a1), (2, .int a2)]) (by decide) (Nat.le_of_ble_eq_true rfl) rfl ?_
  unfold f_X12_put
  refine zi_aload_n dX12_put_0 rfl 0 rfl ?_
  refine zi_aload_n dX12_put_1 rfl 0 rfl ?_
  refine zi_iconst (v := 0) dX12_put_2 (by decide) ?_
  refine zi_iload_n dX12_put_3 rfl 1 rfl ?_
  refine zi_iload_n dX12_put_4 rfl 2 rfl ?_
  refine zi_callVI (As := [.int 0, .int a1, .int a2]) (rest := [.ref (zbase G + a0)]) (ci := 12) dX12_put_5 ml_X12_388 md_X12_actsKept mv_X12_actsKept rfl (by decide) rfl rfl (Nat.le_of_ble_eq_true rfl) (Nat.le_of_ble_eq_true rfl) (k_X12_actsKept G n a0 0 a1 a2 h) (fun r1 h2 => ?_)
  refine zi_callVI (As := [.int r1]) (rest := []) (ci := 12) dX12_put_8 ml_X12_391 md_X12_goodOr mv_X12_goodOr rfl (by decide) rfl rfl (Nat.le_of_ble_eq_true rfl) (Nat.le_of_ble_eq_true rfl) (k_X12_goodOr G n a0 r1 h2) (fun r3 h4 => ?_)
  exact zi_retI dX12_put_11
set_option maxRecDepth 20000 in
set_option maxHeartbeats 1000000 in
theorem k_X12_drop (G : zG) (n : Nat) (a0 : Nat) (a1 : Int32) (h : zH) : zMet G yX12_drop cX12_drop 2 (some .int) zvI 96 [.ref (zbase G + a0), .int a1] h (f_X12_drop n a0 a1 h) := by
  refine zMet_of (l := [(0, .ref (zbase G + a0)), (1, .int a1)]) (by decide) (Nat.le_of_ble_eq_true rfl) rfl ?_
  unfold f_X12_drop
  refine zi_aload_n dX12_drop_0 rfl 0 rfl ?_
  refine zi_aload_n dX12_drop_1 rfl 0 rfl ?_
  refine zi_iconst (v := 1) dX12_drop_2 (by decide) ?_
  refine zi_iload_n dX12_drop_3 rfl 1 rfl ?_
  refine zi_iconst (v := 0) dX12_drop_4 (by decide) ?_
  refine zi_callVI (As := [.int 1, .int a1, .int 0]) (rest := [.ref (zbase G + a0)]) (ci := 12) dX12_drop_5 ml_X12_388 md_X12_actsKept mv_X12_actsKept rfl (by decide) rfl rfl (Nat.le_of_ble_eq_true rfl) (Nat.le_of_ble_eq_true rfl) (k_X12_actsKept G n a0 1 a1 0 h) (fun r1 h2 => ?_)
  refine zi_callVI (As := [.int r1]) (rest := []) (ci := 12) dX12_drop_8 ml_X12_391 md_X12_goodOr mv_X12_goodOr rfl (by decide) rfl rfl (Nat.le_of_ble_eq_true rfl) (Nat.le_of_ble_eq_true rfl) (k_X12_goodOr G n a0 r1 h2) (fun r3 h4 => ?_)
  exact zi_retI dX12_drop_11
set_option maxRecDepth 20000 in
set_option maxHeartbeats 1000000 in
theorem k_X12_enter (G : zG) (n : Nat) (a0 : Nat) (a1 : Int32) (h : zH) : zMet G yX12_enter cX12_enter 2 (some .int) zvI 96 [.ref (zbase G + a0), .int a1] h (f_X12_enter n a0 a1 h) := by
  refine zMet_of (l := [(0, .ref (zbase G + a0)), (1, .int a1)]) (by decide) (Nat.le_of_ble_eq_true rfl) rfl ?_
  unfold f_X12_enter
  refine zi_aload_n dX12_enter_0 rfl 0 rfl ?_
  refine zi_aload_n dX12_enter_1 rfl 0 rfl ?_
  refine zi_iconst (v := 2) dX12_enter_2 (by decide) ?_
  refine zi_iload_n dX12_enter_3 rfl 1 rfl ?_
  refine zi_iconst (v := 0) dX12_enter_4 (by decide) ?_
  refine zi_callVI (As := [.int 2, .int a1, .int 0]) (rest := [.ref (zbase G + a0)]) (ci := 12) dX12_enter_5 ml_X12_388 md_X12_actsKept mv_X12_actsKept rfl (by decide) rfl rfl (Nat.le_of_ble_eq_true rfl) (Nat.le_of_ble_eq_true rfl) (k_X12_actsKept G n a0 2 a1 0 h) (fun r1 h2 => ?_)
  refine zi_callVI (As := [.int r1]) (rest := []) (ci := 12) dX12_enter_8 ml_X12_391 md_X12_goodOr mv_X12_goodOr rfl (by decide) rfl rfl (Nat.le_of_ble_eq_true rfl) (Nat.le_of_ble_eq_true rfl) (k_X12_goodOr G n a0 r1 h2) (fun r3 h4 => ?_)
  exact zi_retI dX12_enter_11
set_option maxRecDepth 20000 in
set_option maxHeartbeats 1000000 in
theorem k_X12_step (G : zG) (n : Nat) (a0 : Nat) (a1 : Int32) (h : zH) : zMet G yX12_step cX12_step 2 (some .int) zvI 96 [.ref (zbase G + a0), .int a1] h (f_X12_step n a0 a1 h) := by
  refine zMet_of (l := [(0, .ref (zbase G + a0)), (1, .int a1)]) (by decide) (Nat.le_of_ble_eq_true rfl) rfl ?_
  unfold f_X12_step
  refine zi_aload_n dX12_step_0 rfl 0 rfl ?_
  refine zi_aload_n dX12_step_1 rfl 0 rfl ?_
  refine zi_iconst (v := 3) dX12_step_2 (by decide) ?_
  refine zi_iload_n dX12_step_3 rfl 1 rfl ?_
  refine zi_iconst (v := 0) dX12_step_4 (by decide) ?_
  refine zi_callVI (As := [.int 3, .int a1, .int 0]) (rest := [.ref (zbase G + a0)]) (ci := 12) dX12_step_5 ml_X12_388 md_X12_actsKept mv_X12_actsKept rfl (by decide) rfl rfl (Nat.le_of_ble_eq_true rfl) (Nat.le_of_ble_eq_true rfl) (k_X12_actsKept G n a0 3 a1 0 h) (fun r1 h2 => ?_)
  refine zi_callVI (As := [.int r1]) (rest := []) (ci := 12) dX12_step_8 ml_X12_391 md_X12_goodOr mv_X12_goodOr rfl (by decide) rfl rfl (Nat.le_of_ble_eq_true rfl) (Nat.le_of_ble_eq_true rfl) (k_X12_goodOr G n a0 r1 h2) (fun r3 h4 => ?_)
  exact zi_retI dX12_step_11
set_option maxRecDepth 20000 in
set_option maxHeartbeats 1000000 in
theorem k_X12_park (G : zG) (n : Nat) (a0 : Nat) (a1 : Int32) (h : zH) : zMet G yX12_park cX12_park 2 (some .int) zvI 96 [.ref (zbase G + a0), .int a1] h (f_X12_park n a0 a1 h) := by
  refine zMet_of (l := [(0, .ref (zbase G + a0)), (1, .int a1)]) (by decide) (Nat.le_of_ble_eq_true rfl) rfl ?_
  unfold f_X12_park
  refine zi_aload_n dX12_park_0 rfl 0 rfl ?_
  refine zi_aload_n dX12_park_1 rfl 0 rfl ?_
  refine zi_iconst (v := 4) dX12_park_2 (by decide) ?_
  refine zi_iload_n dX12_park_3 rfl 1 rfl ?_
  refine zi_iconst (v := 0) dX12_park_4 (by decide) ?_
  refine zi_callVI (As := [.int 4, .int a1, .int 0]) (rest := [.ref (zbase G + a0)]) (ci := 12) dX12_park_5 ml_X12_388 md_X12_actsKept mv_X12_actsKept rfl (by decide) rfl rfl (Nat.le_of_ble_eq_true rfl) (Nat.le_of_ble_eq_true rfl) (k_X12_actsKept G n a0 4 a1 0 h) (fun r1 h2 => ?_)
  refine zi_callVI (As := [.int r1]) (rest := []) (ci := 12) dX12_park_8 ml_X12_391 md_X12_goodOr mv_X12_goodOr rfl (by decide) rfl rfl (Nat.le_of_ble_eq_true rfl) (Nat.le_of_ble_eq_true rfl) (k_X12_goodOr G n a0 r1 h2) (fun r3 h4 => ?_)
  exact zi_retI dX12_park_11
set_option maxRecDepth 20000 in
set_option maxHeartbeats 1000000 in
theorem k_X12_leave (G : zG) (n : Nat) (a0 : Nat) (a1 : Int32) (h : zH) : zMet G yX12_leave cX12_leave 2 (some .int) zvI 96 [.ref (zbase G + a0), .int a1] h (f_X12_leave n a0 a1 h) := by
  refine zMet_of (l := [(0, .ref (zbase G + a0)), (1, .int a1)]) (by decide) (Nat.le_of_ble_eq_true rfl) rfl ?_
  unfold f_X12_leave
  refine zi_aload_n dX12_leave_0 rfl 0 rfl ?_
  refine zi_aload_n dX12_leave_1 rfl 0 rfl ?_
  refine zi_iconst (v := 5) dX12_leave_2 (by decide) ?_
  refine zi_iload_n dX12_leave_3 rfl 1 rfl ?_
  refine zi_iconst (v := 0) dX12_leave_4 (by decide) ?_
  refine zi_callVI (As := [.int 5, .int a1, .int 0]) (rest := [.ref (zbase G + a0)]) (ci := 12) dX12_leave_5 ml_X12_388 md_X12_actsKept mv_X12_actsKept rfl (by decide) rfl rfl (Nat.le_of_ble_eq_true rfl) (Nat.le_of_ble_eq_true rfl) (k_X12_actsKept G n a0 5 a1 0 h) (fun r1 h2 => ?_)
  refine zi_callVI (As := [.int r1]) (rest := []) (ci := 12) dX12_leave_8 ml_X12_391 md_X12_goodOr mv_X12_goodOr rfl (by decide) rfl rfl (Nat.le_of_ble_eq_true rfl) (Nat.le_of_ble_eq_true rfl) (k_X12_goodOr G n a0 r1 h2) (fun r3 h4 => ?_)
  exact zi_retI dX12_leave_11
set_option maxRecDepth 20000 in
set_option maxHeartbeats 1000000 in
theorem k_X12_tick (G : zG) (n : Nat) (a0 : Nat) (a1 : Int32) (h : zH) : zMet G yX12_tick cX12_tick 2 (some .int) zvI 96 [.ref (zbase G + a0), .int a1] h (f_X12_tick n a0 a1 h) := by
  refine zMet_of (l := [(0, .ref (zbase G + a0)), (1, .int a1)]) (by decide) (Nat.le_of_ble_eq_true rfl) rfl ?_
  unfold f_X12_tick
  refine zi_aload_n dX12_tick_0 rfl 0 rfl ?_
  refine zi_aload_n dX12_tick_1 rfl 0 rfl ?_
  refine zi_bipush (v := 6) dX12_tick_2 (by decide) ?_
  refine zi_iload_n dX12_tick_4 rfl 1 rfl ?_
  refine zi_iconst (v := 0) dX12_tick_5 (by decide) ?_
  refine zi_callVI (As := [.int 6, .int a1, .int 0]) (rest := [.ref (zbase G + a0)]) (ci := 12) dX12_tick_6 ml_X12_388 md_X12_actsKept mv_X12_actsKept rfl (by decide) rfl rfl (Nat.le_of_ble_eq_true rfl) (Nat.le_of_ble_eq_true rfl) (k_X12_actsKept G n a0 6 a1 0 h) (fun r1 h2 => ?_)
  refine zi_callVI (As := [.int r1]) (rest := []) (ci := 12) dX12_tick_9 ml_X12_391 md_X12_goodOr mv_X12_goodOr rfl (by decide) rfl rfl (Nat.le_of_ble_eq_true rfl) (Nat.le_of_ble_eq_true rfl) (k_X12_goodOr G n a0 r1 h2) (fun r3 h4 => ?_)
  exact zi_retI dX12_tick_12
set_option maxRecDepth 20000 in
set_option maxHeartbeats 1000000 in
theorem k_X12_begin (G : zG) (n : Nat) (a0 : Nat) (h : zH) : zMet G yX12_begin cX12_begin 1 (some .int) zvI 96 [.ref (zbase G + a0)] h (f_X12_begin n a0 h) := by
  refine zMet_of (l := [(0, .ref (zbase G + a0))]) (by decide) (Nat.le_of_ble_eq_true rfl) rfl ?_
  unfold f_X12_begin
  refine zi_aload_n dX12_begin_0 rfl 0 rfl ?_
  refine zi_aload_n dX12_begin_1 rfl 0 rfl ?_
  refine zi_bipush (v := 7) dX12_begin_2 (by decide) ?_
  refine zi_iconst (v := 0) dX12_begin_4 (by decide) ?_
  refine zi_iconst (v := 0) dX12_begin_5 (by decide) ?_
  refine zi_callVI (As := [.int 7, .int 0, .int 0]) (rest := [.ref (zbase G + a0)]) (ci := 12) dX12_begin_6 ml_X12_388 md_X12_actsKept mv_X12_actsKept rfl (by decide) rfl rfl (Nat.le_of_ble_eq_true rfl) (Nat.le_of_ble_eq_true rfl) (k_X12_actsKept G n a0 7 0 0 h) (fun r1 h2 => ?_)
  refine zi_callVI (As := [.int r1]) (rest := []) (ci := 12) dX12_begin_9 ml_X12_391 md_X12_goodOr mv_X12_goodOr rfl (by decide) rfl rfl (Nat.le_of_ble_eq_true rfl) (Nat.le_of_ble_eq_true rfl) (k_X12_goodOr G n a0 r1 h2) (fun r3 h4 => ?_)
  exact zi_retI dX12_begin_12
set_option maxRecDepth 20000 in
set_option maxHeartbeats 1000000 in
theorem k_X12_hurry (G : zG) (n : Nat) (a0 : Nat) (h : zH) : zMet G yX12_hurry cX12_hurry 1 (some .int) zvI 96 [.ref (zbase G + a0)] h (f_X12_hurry n a0 h) := by
  refine zMet_of (l := [(0, .ref (zbase G + a0))]) (by decide) (Nat.le_of_ble_eq_true rfl) rfl ?_
  unfold f_X12_hurry
  refine zi_aload_n dX12_hurry_0 rfl 0 rfl ?_
  refine zi_aload_n dX12_hurry_1 rfl 0 rfl ?_
  refine zi_bipush (v := 8) dX12_hurry_2 (by decide) ?_
  refine zi_iconst (v := 0) dX12_hurry_4 (by decide) ?_
  refine zi_iconst (v := 0) dX12_hurry_5 (by decide) ?_
  refine zi_callVI (As := [.int 8, .int 0, .int 0]) (rest := [.ref (zbase G + a0)]) (ci := 12) dX12_hurry_6 ml_X12_388 md_X12_actsKept mv_X12_actsKept rfl (by decide) rfl rfl (Nat.le_of_ble_eq_true rfl) (Nat.le_of_ble_eq_true rfl) (k_X12_actsKept G n a0 8 0 0 h) (fun r1 h2 => ?_)
  refine zi_callVI (As := [.int r1]) (rest := []) (ci := 12) dX12_hurry_9 ml_X12_391 md_X12_goodOr mv_X12_goodOr rfl (by decide) rfl rfl (Nat.le_of_ble_eq_true rfl) (Nat.le_of_ble_eq_true rfl) (k_X12_goodOr G n a0 r1 h2) (fun r3 h4 => ?_)
  exact zi_retI dX12_hurry_12
set_option maxRecDepth 20000 in
set_option maxHeartbeats 1000000 in
theorem wb_X12_sees_22 (G : zG) (n : Nat) (k22 : Nat → Int32 → Int32 → Int32 → zH → Option (Int32 × zH)) (hk22 : ∀ (l0 : Nat) (l2 : Int32) (l3 : Int32) (l4 : Int32) (h : zH), zW G yX12_sees cX12_sees 5 (some .int) zvI 3 22 [(0, .ref (zbase G + l0)), (2, .int l2), (3, .int l3), (4, .int l4)] [] h (k22 l0 l2 l3 l4 h)) (l0 : Nat) (l2 : Int32) (l3 : Int32) (l4 : Int32) (h : zH) : zW G yX12_sees cX12_sees 5 (some .int) zvI 3 22 [(0, .ref (zbase G + l0)), (2, .int l2), (3, .int l3), (4, .int l4)] [] h (fb_X12_sees_22 n k22 l0 l2 l3 l4 h) := by
  unfold fb_X12_sees_22
  refine zi_iload dX12_sees_22 3 rfl ?_
  refine zi_iload_n dX12_sees_24 rfl 1 rfl ?_
  refine zi_icmp_ge (tgt := 49) dX12_sees_25 (by decide) ?_ ?_
  · refine zi_iload_n dX12_sees_49 rfl 2 rfl ?_
    exact zi_retI dX12_sees_50
  · refine zi_iload_n dX12_sees_28 rfl 2 rfl ?_
    refine zi_iconst (v := (-1)) dX12_sees_29 (by decide) ?_
    refine zi_icmp_eq (tgt := 49) dX12_sees_30 (by decide) ?_ ?_
    · refine zi_iload_n dX12_sees_49 rfl 2 rfl ?_
      exact zi_retI dX12_sees_50
    · refine zi_aload_n dX12_sees_33 rfl 0 rfl ?_
      refine zi_getR dX12_sees_34 gf_X12_28 (fun v1 => ?_)
      refine zi_bipush (v := 72) dX12_sees_37 (by decide) ?_
      refine zi_iload_n dX12_sees_39 rfl 2 rfl ?_
      refine zi_iadd dX12_sees_40 ?_
      refine zi_iald dX12_sees_41 (fun v2 => ?_)
      refine zi_istore_n (l' := [(3, .int v2), (0, .ref (zbase G + l0)), (2, .int l2), (4, .int l4)]) dX12_sees_42 rfl (by decide) rfl ?_
      refine zi_iinc (j := 3) (v := l4 + 1) (l' := [(4, .int (l4 + 1)), (3, .int v2), (0, .ref (zbase G + l0)), (2, .int l2)]) dX12_sees_43 rfl rfl (by decide) rfl ?_
      refine zi_goto (tgt := 22) dX12_sees_46 (by decide) ?_
      refine zi_sub [2, 3, 1, 0] rfl ?_
      exact hk22 l0 l2 v2 (l4 + 1) h
theorem wl_X12_sees_22 (G : zG) (n : Nat) : ∀ (t : Nat) (l0 : Nat) (l2 : Int32) (l3 : Int32) (l4 : Int32) (h : zH), zW G yX12_sees cX12_sees 5 (some .int) zvI 3 22 [(0, .ref (zbase G + l0)), (2, .int l2), (3, .int l3), (4, .int l4)] [] h (zlp4 (fb_X12_sees_22 n ) t l0 l2 l3 l4 h) := by
  intro t
  induction t with
  | zero => intros; exact zW_none
  | succ t ih => intro l0 l2 l3 l4 h; rw [zlp4_s]; exact wb_X12_sees_22 G n  _  ih l0 l2 l3 l4 h
set_option maxRecDepth 20000 in
set_option maxHeartbeats 1000000 in
theorem k_X12_sees (G : zG) (n : Nat) (a0 : Nat) (a1 : Int32) (a2 : Int32) (h : zH) : zMet G yX12_sees cX12_sees 5 (some .int) zvI 3 [.ref (zbase G + a0), .int a1, .int a2] h (f_X12_sees n a0 a1 a2 h) := by
  refine zMet_of (l := [(0, .ref (zbase G + a0)), (1, .int a1), (2, .int a2)]) (by decide) (Nat.le_of_ble_eq_true rfl) rfl ?_
  unfold f_X12_sees
  refine zi_iload_n dX12_sees_0 rfl 1 rfl ?_
  refine zi_callSI (As := [.int a1]) (rest := []) dX12_sees_1 ml_X12_106 md_X12_isProcessor ms_X12_isProcessor rfl rfl (Nat.le_of_ble_eq_true rfl) (Nat.le_of_ble_eq_true rfl) (k_X12_isProcessor G n a1 h) (fun r1 h2 => ?_)
  refine zi_if_eq (tgt := 11) dX12_sees_4 (by decide) ?_ ?_
  · refine zi_iconst (v := (-1)) dX12_sees_11 (by decide) ?_
    exact zi_retI dX12_sees_12
  · refine zi_iload_n dX12_sees_7 rfl 2 rfl ?_
    refine zi_if_ge (tgt := 13) dX12_sees_8 (by decide) ?_ ?_
    · refine zi_aload_n dX12_sees_13 rfl 0 rfl ?_
      refine zi_iload_n dX12_sees_14 rfl 1 rfl ?_
      refine zi_callVI (As := [.int a1]) (rest := []) (ci := 12) dX12_sees_15 ml_X12_109 md_X12_cellOf mv_X12_cellOf rfl (by decide) rfl rfl (Nat.le_of_ble_eq_true rfl) (Nat.le_of_ble_eq_true rfl) (k_X12_cellOf G n a0 a1 h2) (fun r3 h4 => ?_)
      refine zi_istore_n (l' := [(3, .int r3), (0, .ref (zbase G + a0)), (1, .int a1), (2, .int a2)]) dX12_sees_18 rfl (by decide) rfl ?_
      refine zi_iconst (v := 0) dX12_sees_19 (by decide) ?_
      refine zi_istore (l' := [(4, .int 0), (3, .int r3), (0, .ref (zbase G + a0)), (1, .int a1), (2, .int a2)]) dX12_sees_20 (by decide) rfl ?_
      refine zi_sub [2, 4, 1, 0] rfl ?_
      exact wl_X12_sees_22 G n n a0 a2 r3 0 h4
    · refine zi_iconst (v := (-1)) dX12_sees_11 (by decide) ?_
      exact zi_retI dX12_sees_12
set_option maxRecDepth 20000 in
set_option maxHeartbeats 1000000 in
theorem wb_X12_seesCell_29 (G : zG) (n : Nat) (l3 : Int32) (h : zH) : zW G yX12_seesCell cX12_seesCell 4 (some .boolean) zvI 3 29 [(3, .int l3)] [] h (fb_X12_seesCell_29 n l3 h) := by
  unfold fb_X12_seesCell_29
  refine zi_iload_n dX12_seesCell_29 rfl 0 rfl ?_
  refine zi_iconst (v := (-1)) dX12_seesCell_30 (by decide) ?_
  refine zi_icmp_eq (tgt := 38) dX12_seesCell_31 (by decide) ?_ ?_
  · refine zi_iconst (v := 0) dX12_seesCell_38 (by decide) ?_
    exact zi_ret0 dX12_seesCell_39
  · refine zi_iconst (v := 1) dX12_seesCell_34 (by decide) ?_
    refine zi_goto (tgt := 39) dX12_seesCell_35 (by decide) ?_
    exact zi_ret1 dX12_seesCell_39
set_option maxRecDepth 20000 in
set_option maxHeartbeats 1000000 in
theorem wb_X12_seesCell_6 (G : zG) (n : Nat) (k6 : Nat → Int32 → Int32 → zH → Option (Int32 × zH)) (hk6 : ∀ (l0 : Nat) (l2 : Int32) (l3 : Int32) (h : zH), zW G yX12_seesCell cX12_seesCell 4 (some .boolean) zvI 3 6 [(0, .ref (zbase G + l0)), (2, .int l2), (3, .int l3)] [] h (k6 l0 l2 l3 h)) (l0 : Nat) (l2 : Int32) (l3 : Int32) (h : zH) : zW G yX12_seesCell cX12_seesCell 4 (some .boolean) zvI 3 6 [(0, .ref (zbase G + l0)), (2, .int l2), (3, .int l3)] [] h (fb_X12_seesCell_6 n k6 l0 l2 l3 h) := by
  unfold fb_X12_seesCell_6
  refine zi_iload_n dX12_seesCell_6 rfl 2 rfl ?_
  refine zi_iconst (v := (-1)) dX12_seesCell_7 (by decide) ?_
  refine zi_icmp_eq (tgt := 29) dX12_seesCell_8 (by decide) ?_ ?_
  · refine zi_sub [2] rfl ?_
    exact wb_X12_seesCell_29 G n l3 h
  · refine zi_iload_n dX12_seesCell_11 rfl 2 rfl ?_
    refine zi_iload_n dX12_seesCell_12 rfl 1 rfl ?_
    refine zi_icmp_eq (tgt := 29) dX12_seesCell_13 (by decide) ?_ ?_
    · refine zi_sub [2] rfl ?_
      exact wb_X12_seesCell_29 G n l3 h
    · refine zi_aload_n dX12_seesCell_16 rfl 0 rfl ?_
      refine zi_getR dX12_seesCell_17 gf_X12_28 (fun v1 => ?_)
      refine zi_bipush (v := 72) dX12_seesCell_20 (by decide) ?_
      refine zi_iload_n dX12_seesCell_22 rfl 2 rfl ?_
      refine zi_iadd dX12_seesCell_23 ?_
      refine zi_iald dX12_seesCell_24 (fun v2 => ?_)
      refine zi_istore_n (l' := [(3, .int v2), (0, .ref (zbase G + l0)), (2, .int l2)]) dX12_seesCell_25 rfl (by decide) rfl ?_
      refine zi_goto (tgt := 6) dX12_seesCell_26 (by decide) ?_
      refine zi_sub [1, 2, 0] rfl ?_
      exact hk6 l0 l2 v2 h
theorem wl_X12_seesCell_6 (G : zG) (n : Nat) : ∀ (t : Nat) (l0 : Nat) (l2 : Int32) (l3 : Int32) (h : zH), zW G yX12_seesCell cX12_seesCell 4 (some .boolean) zvI 3 6 [(0, .ref (zbase G + l0)), (2, .int l2), (3, .int l3)] [] h (zlp3 (fb_X12_seesCell_6 n ) t l0 l2 l3 h) := by
  intro t
  induction t with
  | zero => intros; exact zW_none
  | succ t ih => intro l0 l2 l3 h; rw [zlp3_s]; exact wb_X12_seesCell_6 G n  _  ih l0 l2 l3 h
set_option maxRecDepth 20000 in
set_option maxHeartbeats 1000000 in
theorem k_X12_seesCell (G : zG) (n : Nat) (a0 : Nat) (a1 : Int32) (a2 : Int32) (h : zH) : zMet G yX12_seesCell cX12_seesCell 4 (some .boolean) zvI 3 [.ref (zbase G + a0), .int a1, .int a2] h (f_X12_seesCell n a0 a1 a2 h) := by
  refine zMet_of (l := [(0, .ref (zbase G + a0)), (1, .int a1), (2, .int a2)]) (by decide) (Nat.le_of_ble_eq_true rfl) rfl ?_
  unfold f_X12_seesCell
  refine zi_aload_n dX12_seesCell_0 rfl 0 rfl ?_
  refine zi_iload_n dX12_seesCell_1 rfl 1 rfl ?_
  refine zi_callVI (As := [.int a1]) (rest := []) (ci := 12) dX12_seesCell_2 ml_X12_109 md_X12_cellOf mv_X12_cellOf rfl (by decide) rfl rfl (Nat.le_of_ble_eq_true rfl) (Nat.le_of_ble_eq_true rfl) (k_X12_cellOf G n a0 a1 h) (fun r1 h2 => ?_)
  refine zi_istore_n (l' := [(3, .int r1), (0, .ref (zbase G + a0)), (1, .int a1), (2, .int a2)]) dX12_seesCell_5 rfl (by decide) rfl ?_
  refine zi_sub [1, 3, 0] rfl ?_
  exact wl_X12_seesCell_6 G n n a0 a2 r1 h2
set_option maxRecDepth 20000 in
set_option maxHeartbeats 1000000 in
theorem wb_X12_reach_36 (G : zG) (n : Nat) (k13 : Nat → Int32 → Int32 → Int32 → zH → Option (Int32 × zH)) (hk13 : ∀ (l0 : Nat) (l1 : Int32) (l2 : Int32) (l3 : Int32) (h : zH), zW G yX12_reach cX12_reach 4 (some .int) zvI 4 13 [(0, .ref (zbase G + l0)), (1, .int l1), (2, .int l2), (3, .int l3)] [] h (k13 l0 l1 l2 l3 h)) (l0 : Nat) (l1 : Int32) (l3 : Int32) (s0 : Int32) (s1 : Int32) (h : zH) : zW G yX12_reach cX12_reach 4 (some .int) zvI 4 36 [(0, .ref (zbase G + l0)), (1, .int l1), (3, .int l3)] [.int s1, .int s0] h (fb_X12_reach_36 n k13 l0 l1 l3 s0 s1 h) := by
  unfold fb_X12_reach_36
  refine zi_ior dX12_reach_36 ?_
  refine zi_let (sf := fun x1 => .int x1 :: []) (fun x1 => ?_)
  refine zi_istore_n (l' := [(2, .int x1), (0, .ref (zbase G + l0)), (1, .int l1), (3, .int l3)]) dX12_reach_37 rfl (by decide) rfl ?_
  refine zi_iinc (j := 3) (v := l3 + 1) (l' := [(3, .int (l3 + 1)), (2, .int x1), (0, .ref (zbase G + l0)), (1, .int l1)]) dX12_reach_38 rfl rfl (by decide) rfl ?_
  refine zi_goto (tgt := 13) dX12_reach_41 (by decide) ?_
  refine zi_sub [2, 3, 1, 0] rfl ?_
  exact hk13 l0 l1 x1 (l3 + 1) h
set_option maxRecDepth 20000 in
set_option maxHeartbeats 1000000 in
theorem wb_X12_reach_13 (G : zG) (n : Nat) (k13 : Nat → Int32 → Int32 → Int32 → zH → Option (Int32 × zH)) (hk13 : ∀ (l0 : Nat) (l1 : Int32) (l2 : Int32) (l3 : Int32) (h : zH), zW G yX12_reach cX12_reach 4 (some .int) zvI 4 13 [(0, .ref (zbase G + l0)), (1, .int l1), (2, .int l2), (3, .int l3)] [] h (k13 l0 l1 l2 l3 h)) (l0 : Nat) (l1 : Int32) (l2 : Int32) (l3 : Int32) (h : zH) : zW G yX12_reach cX12_reach 4 (some .int) zvI 4 13 [(0, .ref (zbase G + l0)), (1, .int l1), (2, .int l2), (3, .int l3)] [] h (fb_X12_reach_13 n k13 l0 l1 l2 l3 h) := by
  unfold fb_X12_reach_13
  refine zi_iload_n dX12_reach_13 rfl 3 rfl ?_
  refine zi_bipush (v := 8) dX12_reach_14 (by decide) ?_
  refine zi_icmp_ge (tgt := 44) dX12_reach_16 (by decide) ?_ ?_
  · refine zi_iload_n dX12_reach_44 rfl 2 rfl ?_
    exact zi_retI dX12_reach_45
  · refine zi_iload_n dX12_reach_19 rfl 2 rfl ?_
    refine zi_aload_n dX12_reach_20 rfl 0 rfl ?_
    refine zi_iload_n dX12_reach_21 rfl 3 rfl ?_
    refine zi_iload_n dX12_reach_22 rfl 1 rfl ?_
    refine zi_callVI (As := [.int l3, .int l1]) (rest := [.int l2]) (ci := 12) dX12_reach_23 ml_X12_394 md_X12_seesCell mv_X12_seesCell rfl (by decide) rfl rfl (Nat.le_of_ble_eq_true rfl) (Nat.le_of_ble_eq_true rfl) (k_X12_seesCell G n l0 l3 l1 h) (fun r1 h2 => ?_)
    refine zi_if_eq (tgt := 35) dX12_reach_26 (by decide) ?_ ?_
    · refine zi_iconst (v := 0) dX12_reach_35 (by decide) ?_
      refine zi_sub [0, 1, 3] rfl ?_
      exact wb_X12_reach_36 G n k13 hk13 l0 l1 l3 l2 0 h2
    · refine zi_iconst (v := 1) dX12_reach_29 (by decide) ?_
      refine zi_iload_n dX12_reach_30 rfl 3 rfl ?_
      refine zi_ishl dX12_reach_31 ?_
      refine zi_goto (tgt := 36) dX12_reach_32 (by decide) ?_
      refine zi_sub [0, 1, 3] rfl ?_
      exact wb_X12_reach_36 G n k13 hk13 l0 l1 l3 l2 ((1 : Int32) <<< (l3 &&& 31)) h2
theorem wl_X12_reach_13 (G : zG) (n : Nat) : ∀ (t : Nat) (l0 : Nat) (l1 : Int32) (l2 : Int32) (l3 : Int32) (h : zH), zW G yX12_reach cX12_reach 4 (some .int) zvI 4 13 [(0, .ref (zbase G + l0)), (1, .int l1), (2, .int l2), (3, .int l3)] [] h (zlp4 (fb_X12_reach_13 n ) t l0 l1 l2 l3 h) := by
  intro t
  induction t with
  | zero => intros; exact zW_none
  | succ t ih => intro l0 l1 l2 l3 h; rw [zlp4_s]; exact wb_X12_reach_13 G n  _  ih l0 l1 l2 l3 h
set_option maxRecDepth 20000 in
set_option maxHeartbeats 1000000 in
theorem k_X12_reach (G : zG) (n : Nat) (a0 : Nat) (a1 : Int32) (h : zH) : zMet G yX12_reach cX12_reach 4 (some .int) zvI 4 [.ref (zbase G + a0), .int a1] h (f_X12_reach n a0 a1 h) := by
  refine zMet_of (l := [(0, .ref (zbase G + a0)), (1, .int a1)]) (by decide) (Nat.le_of_ble_eq_true rfl) rfl ?_
  unfold f_X12_reach
  refine zi_iload_n dX12_reach_0 rfl 1 rfl ?_
  refine zi_callSI (As := [.int a1]) (rest := []) dX12_reach_1 ml_X12_115 md_X12_isCell ms_X12_isCell rfl rfl (Nat.le_of_ble_eq_true rfl) (Nat.le_of_ble_eq_true rfl) (k_X12_isCell G n a1 h) (fun r1 h2 => ?_)
  refine zi_if_ne (tgt := 9) dX12_reach_4 (by decide) ?_ ?_
  · refine zi_iconst (v := 0) dX12_reach_9 (by decide) ?_
    refine zi_istore_n (l' := [(2, .int 0), (0, .ref (zbase G + a0)), (1, .int a1)]) dX12_reach_10 rfl (by decide) rfl ?_
    refine zi_iconst (v := 0) dX12_reach_11 (by decide) ?_
    refine zi_istore_n (l' := [(3, .int 0), (2, .int 0), (0, .ref (zbase G + a0)), (1, .int a1)]) dX12_reach_12 rfl (by decide) rfl ?_
    refine zi_sub [2, 3, 1, 0] rfl ?_
    exact wl_X12_reach_13 G n n a0 a1 0 0 h2
  · refine zi_iconst (v := (-1)) dX12_reach_7 (by decide) ?_
    exact zi_retI dX12_reach_8
set_option maxRecDepth 20000 in
set_option maxHeartbeats 1000000 in
theorem wb_X12_holders_41 (G : zG) (n : Nat) (k4 : Nat → Int32 → Int32 → zH → Option (Int32 × zH)) (hk4 : ∀ (l0 : Nat) (l1 : Int32) (l2 : Int32) (h : zH), zW G yX12_holders cX12_holders 3 (some .int) zvI 3 4 [(0, .ref (zbase G + l0)), (1, .int l1), (2, .int l2)] [] h (k4 l0 l1 l2 h)) (l0 : Nat) (l2 : Int32) (s0 : Int32) (s1 : Int32) (h : zH) : zW G yX12_holders cX12_holders 3 (some .int) zvI 3 41 [(0, .ref (zbase G + l0)), (2, .int l2)] [.int s1, .int s0] h (fb_X12_holders_41 n k4 l0 l2 s0 s1 h) := by
  unfold fb_X12_holders_41
  refine zi_ior dX12_holders_41 ?_
  refine zi_let (sf := fun x1 => .int x1 :: []) (fun x1 => ?_)
  refine zi_istore_n (l' := [(1, .int x1), (0, .ref (zbase G + l0)), (2, .int l2)]) dX12_holders_42 rfl (by decide) rfl ?_
  refine zi_iinc (j := 2) (v := l2 + 1) (l' := [(2, .int (l2 + 1)), (1, .int x1), (0, .ref (zbase G + l0))]) dX12_holders_43 rfl rfl (by decide) rfl ?_
  refine zi_goto (tgt := 4) dX12_holders_46 (by decide) ?_
  refine zi_sub [2, 1, 0] rfl ?_
  exact hk4 l0 x1 (l2 + 1) h
set_option maxRecDepth 20000 in
set_option maxHeartbeats 1000000 in
theorem wb_X12_holders_34 (G : zG) (n : Nat) (k4 : Nat → Int32 → Int32 → zH → Option (Int32 × zH)) (hk4 : ∀ (l0 : Nat) (l1 : Int32) (l2 : Int32) (h : zH), zW G yX12_holders cX12_holders 3 (some .int) zvI 3 4 [(0, .ref (zbase G + l0)), (1, .int l1), (2, .int l2)] [] h (k4 l0 l1 l2 h)) (l0 : Nat) (l2 : Int32) (s0 : Int32) (h : zH) : zW G yX12_holders cX12_holders 3 (some .int) zvI 3 34 [(0, .ref (zbase G + l0)), (2, .int l2)] [.int s0] h (fb_X12_holders_34 n k4 l0 l2 s0 h) := by
  unfold fb_X12_holders_34
  refine zi_iconst (v := 1) dX12_holders_34 (by decide) ?_
  refine zi_iload_n dX12_holders_35 rfl 1 rfl ?_
  refine zi_ishl dX12_holders_36 ?_
  refine zi_goto (tgt := 41) dX12_holders_37 (by decide) ?_
  refine zi_sub [0, 1] rfl ?_
  exact wb_X12_holders_41 G n k4 hk4 l0 l2 s0 ((1 : Int32) <<< (l2 &&& 31)) h
set_option maxRecDepth 20000 in
set_option maxHeartbeats 1000000 in
theorem wb_X12_holders_4 (G : zG) (n : Nat) (k4 : Nat → Int32 → Int32 → zH → Option (Int32 × zH)) (hk4 : ∀ (l0 : Nat) (l1 : Int32) (l2 : Int32) (h : zH), zW G yX12_holders cX12_holders 3 (some .int) zvI 3 4 [(0, .ref (zbase G + l0)), (1, .int l1), (2, .int l2)] [] h (k4 l0 l1 l2 h)) (l0 : Nat) (l1 : Int32) (l2 : Int32) (h : zH) : zW G yX12_holders cX12_holders 3 (some .int) zvI 3 4 [(0, .ref (zbase G + l0)), (1, .int l1), (2, .int l2)] [] h (fb_X12_holders_4 n k4 l0 l1 l2 h) := by
  unfold fb_X12_holders_4
  refine zi_iload_n dX12_holders_4 rfl 2 rfl ?_
  refine zi_bipush (v := 8) dX12_holders_5 (by decide) ?_
  refine zi_icmp_ge (tgt := 49) dX12_holders_7 (by decide) ?_ ?_
  · refine zi_iload_n dX12_holders_49 rfl 1 rfl ?_
    exact zi_retI dX12_holders_50
  · refine zi_aload_n dX12_holders_10 rfl 0 rfl ?_
    refine zi_callVI (As := []) (rest := []) (ci := 12) dX12_holders_11 ml_X12_91 md_X12_runs0 mv_X12_runs0 rfl (by decide) rfl rfl (Nat.le_of_ble_eq_true rfl) (Nat.le_of_ble_eq_true rfl) (k_X12_runs0 G n l0 h) (fun r1 h2 => ?_)
    refine zi_if_eq (tgt := 49) dX12_holders_14 (by decide) ?_ ?_
    · refine zi_iload_n dX12_holders_49 rfl 1 rfl ?_
      exact zi_retI dX12_holders_50
    · refine zi_iload_n dX12_holders_17 rfl 1 rfl ?_
      refine zi_aload_n dX12_holders_18 rfl 0 rfl ?_
      refine zi_iload_n dX12_holders_19 rfl 2 rfl ?_
      refine zi_callVI (As := [.int l2]) (rest := [.int l1]) (ci := 12) dX12_holders_20 ml_X12_112 md_X12_hasReported mv_X12_hasReported rfl (by decide) rfl rfl (Nat.le_of_ble_eq_true rfl) (Nat.le_of_ble_eq_true rfl) (k_X12_hasReported G n l0 l2 h2) (fun r3 h4 => ?_)
      refine zi_if_eq (tgt := 34) dX12_holders_23 (by decide) ?_ ?_
      · refine zi_sub [0, 2] rfl ?_
        exact wb_X12_holders_34 G n k4 hk4 l0 l2 l1 h4
      · refine zi_aload_n dX12_holders_26 rfl 0 rfl ?_
        refine zi_iload_n dX12_holders_27 rfl 2 rfl ?_
        refine zi_callVI (As := [.int l2]) (rest := [.int l1]) (ci := 12) dX12_holders_28 ml_X12_330 md_X12_isHeld mv_X12_isHeld rfl (by decide) rfl rfl (Nat.le_of_ble_eq_true rfl) (Nat.le_of_ble_eq_true rfl) (k_X12_isHeld G n l0 l2 h4) (fun r5 h6 => ?_)
        refine zi_if_eq (tgt := 40) dX12_holders_31 (by decide) ?_ ?_
        · refine zi_iconst (v := 0) dX12_holders_40 (by decide) ?_
          refine zi_sub [0, 2] rfl ?_
          exact wb_X12_holders_41 G n k4 hk4 l0 l2 l1 0 h6
        · refine zi_sub [0, 2] rfl ?_
          exact wb_X12_holders_34 G n k4 hk4 l0 l2 l1 h6
theorem wl_X12_holders_4 (G : zG) (n : Nat) : ∀ (t : Nat) (l0 : Nat) (l1 : Int32) (l2 : Int32) (h : zH), zW G yX12_holders cX12_holders 3 (some .int) zvI 3 4 [(0, .ref (zbase G + l0)), (1, .int l1), (2, .int l2)] [] h (zlp3 (fb_X12_holders_4 n ) t l0 l1 l2 h) := by
  intro t
  induction t with
  | zero => intros; exact zW_none
  | succ t ih => intro l0 l1 l2 h; rw [zlp3_s]; exact wb_X12_holders_4 G n  _  ih l0 l1 l2 h
set_option maxRecDepth 20000 in
set_option maxHeartbeats 1000000 in
theorem k_X12_holders (G : zG) (n : Nat) (a0 : Nat) (h : zH) : zMet G yX12_holders cX12_holders 3 (some .int) zvI 3 [.ref (zbase G + a0)] h (f_X12_holders n a0 h) := by
  refine zMet_of (l := [(0, .ref (zbase G + a0))]) (by decide) (Nat.le_of_ble_eq_true rfl) rfl ?_
  unfold f_X12_holders
  refine zi_iconst (v := 0) dX12_holders_0 (by decide) ?_
  refine zi_istore_n (l' := [(1, .int 0), (0, .ref (zbase G + a0))]) dX12_holders_1 rfl (by decide) rfl ?_
  refine zi_iconst (v := 0) dX12_holders_2 (by decide) ?_
  refine zi_istore_n (l' := [(2, .int 0), (1, .int 0), (0, .ref (zbase G + a0))]) dX12_holders_3 rfl (by decide) rfl ?_
  refine zi_sub [2, 1, 0] rfl ?_
  exact wl_X12_holders_4 G n n a0 0 0 h
set_option maxRecDepth 20000 in
set_option maxHeartbeats 1000000 in
theorem wb_X12_behindNode_22 (G : zG) (n : Nat) (l0 : Nat) (l1 : Int32) (s0 : Int32) (h : zH) : zW G yX12_behindNode cX12_behindNode 4 (some .int) zvI 2 22 [(0, .ref (zbase G + l0)), (1, .int l1)] [.int s0] h (fb_X12_behindNode_22 n l0 l1 s0 h) := by
  unfold fb_X12_behindNode_22
  refine zi_istore_n (l' := [(2, .int s0), (0, .ref (zbase G + l0)), (1, .int l1)]) dX12_behindNode_22 rfl (by decide) rfl ?_
  refine zi_iload_n dX12_behindNode_23 rfl 2 rfl ?_
  refine zi_iconst (v := 4) dX12_behindNode_24 (by decide) ?_
  refine zi_icmp_ge (tgt := 34) dX12_behindNode_25 (by decide) ?_ ?_
  · refine zi_iconst (v := 2) dX12_behindNode_34 (by decide) ?_
    refine zi_iload_n dX12_behindNode_35 rfl 2 rfl ?_
    refine zi_iconst (v := 4) dX12_behindNode_36 (by decide) ?_
    refine zi_isub dX12_behindNode_37 ?_
    refine zi_imul dX12_behindNode_38 ?_
    refine zi_let (sf := fun x1 => .int x1 :: []) (fun x1 => ?_)
    refine zi_istore_n (l' := [(3, .int x1), (2, .int s0), (0, .ref (zbase G + l0)), (1, .int l1)]) dX12_behindNode_39 rfl (by decide) rfl ?_
    refine zi_aload_n dX12_behindNode_40 rfl 2 rfl ?_
    refine zi_getR dX12_behindNode_41 gf_X12_28 (fun v2 => ?_)
    refine zi_sipush (v := 131) dX12_behindNode_44 (by decide) ?_
    refine zi_iload_n dX12_behindNode_47 rfl 3 rfl ?_
    refine zi_iadd dX12_behindNode_48 ?_
    refine zi_iald dX12_behindNode_49 (fun v3 => ?_)
    refine zi_if_eq (tgt := 60) dX12_behindNode_50 (by decide) ?_ ?_
    · refine zi_bipush (v := 20) dX12_behindNode_60 (by decide) ?_
      refine zi_aload_n dX12_behindNode_62 rfl 2 rfl ?_
      refine zi_iload_n dX12_behindNode_63 rfl 0 rfl ?_
      refine zi_callVI (As := [.int x1]) (rest := [.int 20]) (ci := 12) dX12_behindNode_64 ml_X12_330 md_X12_isHeld mv_X12_isHeld rfl (by decide) rfl rfl (Nat.le_of_ble_eq_true rfl) (Nat.le_of_ble_eq_true rfl) (k_X12_isHeld G n l0 x1 h) (fun r4 h5 => ?_)
      refine zi_if_eq (tgt := 74) dX12_behindNode_67 (by decide) ?_ ?_
      · refine zi_iload_n dX12_behindNode_74 rfl 0 rfl ?_
        refine zi_iconst (v := 1) dX12_behindNode_75 (by decide) ?_
        refine zi_iadd dX12_behindNode_76 ?_
        refine zi_iadd dX12_behindNode_77 ?_
        exact zi_retI dX12_behindNode_78
      · refine zi_iload_n dX12_behindNode_70 rfl 0 rfl ?_
        refine zi_goto (tgt := 77) dX12_behindNode_71 (by decide) ?_
        refine zi_iadd dX12_behindNode_77 ?_
        exact zi_retI dX12_behindNode_78
    · refine zi_bipush (v := 10) dX12_behindNode_53 (by decide) ?_
      refine zi_iload_n dX12_behindNode_55 rfl 0 rfl ?_
      refine zi_iadd dX12_behindNode_56 ?_
      refine zi_iload_n dX12_behindNode_57 rfl 1 rfl ?_
      refine zi_iadd dX12_behindNode_58 ?_
      exact zi_retI dX12_behindNode_59
  · refine zi_iconst (v := 2) dX12_behindNode_28 (by decide) ?_
    refine zi_iload_n dX12_behindNode_29 rfl 2 rfl ?_
    refine zi_imul dX12_behindNode_30 ?_
    refine zi_iload_n dX12_behindNode_31 rfl 0 rfl ?_
    refine zi_iadd dX12_behindNode_32 ?_
    exact zi_retI dX12_behindNode_33
set_option maxRecDepth 20000 in
set_option maxHeartbeats 1000000 in
theorem k_X12_behindNode (G : zG) (n : Nat) (a0 : Nat) (a1 : Int32) (h : zH) : zMet G yX12_behindNode cX12_behindNode 4 (some .int) zvI 2 [.ref (zbase G + a0), .int a1] h (f_X12_behindNode n a0 a1 h) := by
  refine zMet_of (l := [(0, .ref (zbase G + a0)), (1, .int a1)]) (by decide) (Nat.le_of_ble_eq_true rfl) rfl ?_
  unfold f_X12_behindNode
  refine zi_aload_n dX12_behindNode_0 rfl 0 rfl ?_
  refine zi_getR dX12_behindNode_1 gf_X12_28 (fun v1 => ?_)
  refine zi_sipush (v := 131) dX12_behindNode_4 (by decide) ?_
  refine zi_iload_n dX12_behindNode_7 rfl 1 rfl ?_
  refine zi_iadd dX12_behindNode_8 ?_
  refine zi_iald dX12_behindNode_9 (fun v2 => ?_)
  refine zi_iconst (v := 0) dX12_behindNode_10 (by decide) ?_
  refine zi_callSI (As := [.int v2, .int 0]) (rest := []) dX12_behindNode_11 ml_X12_98 md_X12_isIn ms_X12_isIn rfl rfl (Nat.le_of_ble_eq_true rfl) (Nat.le_of_ble_eq_true rfl) (k_X12_isIn G n v2 0 h) (fun r3 h4 => ?_)
  refine zi_if_eq (tgt := 21) dX12_behindNode_14 (by decide) ?_ ?_
  · refine zi_iconst (v := 1) dX12_behindNode_21 (by decide) ?_
    refine zi_sub [0, 1] rfl ?_
    exact wb_X12_behindNode_22 G n a0 a1 1 h4
  · refine zi_iconst (v := 0) dX12_behindNode_17 (by decide) ?_
    refine zi_goto (tgt := 22) dX12_behindNode_18 (by decide) ?_
    refine zi_sub [0, 1] rfl ?_
    exact wb_X12_behindNode_22 G n a0 a1 0 h4
set_option maxRecDepth 20000 in
set_option maxHeartbeats 1000000 in
theorem wb_X12_why_17 (G : zG) (n : Nat) (k17 : Nat → Int32 → Int32 → Int32 → zH → Option (Int32 × zH)) (hk17 : ∀ (l0 : Nat) (l1 : Int32) (l2 : Int32) (l3 : Int32) (h : zH), zW G yX12_why cX12_why 4 (some .int) zvI 3 17 [(0, .ref (zbase G + l0)), (1, .int l1), (2, .int l2), (3, .int l3)] [] h (k17 l0 l1 l2 l3 h)) (l0 : Nat) (l1 : Int32) (l2 : Int32) (l3 : Int32) (h : zH) : zW G yX12_why cX12_why 4 (some .int) zvI 3 17 [(0, .ref (zbase G + l0)), (1, .int l1), (2, .int l2), (3, .int l3)] [] h (fb_X12_why_17 n k17 l0 l1 l2 l3 h) := by
  unfold fb_X12_why_17
  refine zi_iload_n dX12_why_17 rfl 3 rfl ?_
  refine zi_iload_n dX12_why_18 rfl 1 rfl ?_
  refine zi_icmp_ge (tgt := 42) dX12_why_19 (by decide) ?_ ?_
  · refine zi_iload_n dX12_why_42 rfl 2 rfl ?_
    exact zi_retI dX12_why_43
  · refine zi_iload_n dX12_why_22 rfl 2 rfl ?_
    refine zi_bipush (v := 10) dX12_why_23 (by decide) ?_
    refine zi_icmp_lt (tgt := 30) dX12_why_25 (by decide) ?_ ?_
    · refine zi_aload_n dX12_why_30 rfl 0 rfl ?_
      refine zi_iload_n dX12_why_31 rfl 2 rfl ?_
      refine zi_callVI (As := [.int l2]) (rest := []) (ci := 12) dX12_why_32 ml_X12_397 md_X12_behindNode mv_X12_behindNode rfl (by decide) rfl rfl (Nat.le_of_ble_eq_true rfl) (Nat.le_of_ble_eq_true rfl) (k_X12_behindNode G n l0 l2 h) (fun r1 h2 => ?_)
      refine zi_istore_n (l' := [(2, .int r1), (0, .ref (zbase G + l0)), (1, .int l1), (3, .int l3)]) dX12_why_35 rfl (by decide) rfl ?_
      refine zi_iinc (j := 3) (v := l3 + 1) (l' := [(3, .int (l3 + 1)), (2, .int r1), (0, .ref (zbase G + l0)), (1, .int l1)]) dX12_why_36 rfl rfl (by decide) rfl ?_
      refine zi_goto (tgt := 17) dX12_why_39 (by decide) ?_
      refine zi_sub [2, 3, 1, 0] rfl ?_
      exact hk17 l0 l1 r1 (l3 + 1) h2
    · refine zi_iconst (v := (-1)) dX12_why_28 (by decide) ?_
      exact zi_retI dX12_why_29
theorem wl_X12_why_17 (G : zG) (n : Nat) : ∀ (t : Nat) (l0 : Nat) (l1 : Int32) (l2 : Int32) (l3 : Int32) (h : zH), zW G yX12_why cX12_why 4 (some .int) zvI 3 17 [(0, .ref (zbase G + l0)), (1, .int l1), (2, .int l2), (3, .int l3)] [] h (zlp4 (fb_X12_why_17 n ) t l0 l1 l2 l3 h) := by
  intro t
  induction t with
  | zero => intros; exact zW_none
  | succ t ih => intro l0 l1 l2 l3 h; rw [zlp4_s]; exact wb_X12_why_17 G n  _  ih l0 l1 l2 l3 h
set_option maxRecDepth 20000 in
set_option maxHeartbeats 1000000 in
theorem k_X12_why (G : zG) (n : Nat) (a0 : Nat) (a1 : Int32) (h : zH) : zMet G yX12_why cX12_why 4 (some .int) zvI 3 [.ref (zbase G + a0), .int a1] h (f_X12_why n a0 a1 h) := by
  refine zMet_of (l := [(0, .ref (zbase G + a0)), (1, .int a1)]) (by decide) (Nat.le_of_ble_eq_true rfl) rfl ?_
  unfold f_X12_why
  refine zi_iload_n dX12_why_0 rfl 1 rfl ?_
  refine zi_if_lt (tgt := 11) dX12_why_1 (by decide) ?_ ?_
  · refine zi_iconst (v := (-1)) dX12_why_11 (by decide) ?_
    exact zi_retI dX12_why_12
  · refine zi_aload_n dX12_why_4 rfl 0 rfl ?_
    refine zi_callVI (As := []) (rest := []) (ci := 12) dX12_why_5 ml_X12_91 md_X12_runs0 mv_X12_runs0 rfl (by decide) rfl rfl (Nat.le_of_ble_eq_true rfl) (Nat.le_of_ble_eq_true rfl) (k_X12_runs0 G n a0 h) (fun r1 h2 => ?_)
    refine zi_if_ne (tgt := 13) dX12_why_8 (by decide) ?_ ?_
    · refine zi_iconst (v := 1) dX12_why_13 (by decide) ?_
      refine zi_istore_n (l' := [(2, .int 1), (0, .ref (zbase G + a0)), (1, .int a1)]) dX12_why_14 rfl (by decide) rfl ?_
      refine zi_iconst (v := 0) dX12_why_15 (by decide) ?_
      refine zi_istore_n (l' := [(3, .int 0), (2, .int 1), (0, .ref (zbase G + a0)), (1, .int a1)]) dX12_why_16 rfl (by decide) rfl ?_
      refine zi_sub [2, 3, 1, 0] rfl ?_
      exact wl_X12_why_17 G n n a0 a1 1 0 h2
    · refine zi_iconst (v := (-1)) dX12_why_11 (by decide) ?_
      exact zi_retI dX12_why_12
set_option maxRecDepth 20000 in
set_option maxHeartbeats 1000000 in
theorem wb_X12_least_73 (G : zG) (n : Nat) (k13 : Nat → Int32 → Int32 → zH → Option (Int32 × zH)) (hk13 : ∀ (l0 : Nat) (l1 : Int32) (l2 : Int32) (h : zH), zW G yX12_least cX12_least 3 (some .int) zvI 3 13 [(0, .ref (zbase G + l0)), (1, .int l1), (2, .int l2)] [] h (k13 l0 l1 l2 h)) (l0 : Nat) (l2 : Int32) (s0 : Int32) (s1 : Int32) (h : zH) : zW G yX12_least cX12_least 3 (some .int) zvI 3 73 [(0, .ref (zbase G + l0)), (2, .int l2)] [.int s1, .int s0] h (fb_X12_least_73 n k13 l0 l2 s0 s1 h) := by
  unfold fb_X12_least_73
  refine zi_iadd dX12_least_73 ?_
  refine zi_let (sf := fun x1 => .int x1 :: []) (fun x1 => ?_)
  refine zi_istore_n (l' := [(1, .int x1), (0, .ref (zbase G + l0)), (2, .int l2)]) dX12_least_74 rfl (by decide) rfl ?_
  refine zi_iinc (j := 2) (v := l2 + 1) (l' := [(2, .int (l2 + 1)), (1, .int x1), (0, .ref (zbase G + l0))]) dX12_least_75 rfl rfl (by decide) rfl ?_
  refine zi_goto (tgt := 13) dX12_least_78 (by decide) ?_
  refine zi_sub [2, 1, 0] rfl ?_
  exact hk13 l0 x1 (l2 + 1) h
set_option maxRecDepth 20000 in
set_option maxHeartbeats 1000000 in
theorem wb_X12_least_68 (G : zG) (n : Nat) (k13 : Nat → Int32 → Int32 → zH → Option (Int32 × zH)) (hk13 : ∀ (l0 : Nat) (l1 : Int32) (l2 : Int32) (h : zH), zW G yX12_least cX12_least 3 (some .int) zvI 3 13 [(0, .ref (zbase G + l0)), (1, .int l1), (2, .int l2)] [] h (k13 l0 l1 l2 h)) (l0 : Nat) (l2 : Int32) (s0 : Int32) (h : zH) : zW G yX12_least cX12_least 3 (some .int) zvI 3 68 [(0, .ref (zbase G + l0)), (2, .int l2)] [.int s0] h (fb_X12_least_68 n k13 l0 l2 s0 h) := by
  unfold fb_X12_least_68
  refine zi_iconst (v := 1) dX12_least_68 (by decide) ?_
  refine zi_goto (tgt := 73) dX12_least_69 (by decide) ?_
  refine zi_sub [0, 1] rfl ?_
  exact wb_X12_least_73 G n k13 hk13 l0 l2 s0 1 h
set_option maxRecDepth 20000 in
set_option maxHeartbeats 1000000 in
theorem wb_X12_least_72 (G : zG) (n : Nat) (k13 : Nat → Int32 → Int32 → zH → Option (Int32 × zH)) (hk13 : ∀ (l0 : Nat) (l1 : Int32) (l2 : Int32) (h : zH), zW G yX12_least cX12_least 3 (some .int) zvI 3 13 [(0, .ref (zbase G + l0)), (1, .int l1), (2, .int l2)] [] h (k13 l0 l1 l2 h)) (l0 : Nat) (l2 : Int32) (s0 : Int32) (h : zH) : zW G yX12_least cX12_least 3 (some .int) zvI 3 72 [(0, .ref (zbase G + l0)), (2, .int l2)] [.int s0] h (fb_X12_least_72 n k13 l0 l2 s0 h) := by
  unfold fb_X12_least_72
  refine zi_iconst (v := 0) dX12_least_72 (by decide) ?_
  refine zi_sub [0, 1] rfl ?_
  exact wb_X12_least_73 G n k13 hk13 l0 l2 s0 0 h
set_option maxRecDepth 20000 in
set_option maxHeartbeats 1000000 in
theorem wb_X12_least_33 (G : zG) (n : Nat) (k13 : Nat → Int32 → Int32 → zH → Option (Int32 × zH)) (hk13 : ∀ (l0 : Nat) (l1 : Int32) (l2 : Int32) (h : zH), zW G yX12_least cX12_least 3 (some .int) zvI 3 13 [(0, .ref (zbase G + l0)), (1, .int l1), (2, .int l2)] [] h (k13 l0 l1 l2 h)) (l0 : Nat) (l2 : Int32) (s0 : Int32) (s1 : Int32) (h : zH) : zW G yX12_least cX12_least 3 (some .int) zvI 3 33 [(0, .ref (zbase G + l0)), (2, .int l2)] [.int s1, .int s0] h (fb_X12_least_33 n k13 l0 l2 s0 s1 h) := by
  unfold fb_X12_least_33
  refine zi_iadd dX12_least_33 ?_
  refine zi_let (sf := fun x1 => .int x1 :: []) (fun x1 => ?_)
  refine zi_istore_n (l' := [(1, .int x1), (0, .ref (zbase G + l0)), (2, .int l2)]) dX12_least_34 rfl (by decide) rfl ?_
  refine zi_iload_n dX12_least_35 rfl 0 rfl ?_
  refine zi_aload_n dX12_least_36 rfl 1 rfl ?_
  refine zi_iload_n dX12_least_37 rfl 2 rfl ?_
  refine zi_callVI (As := [.int l2]) (rest := [.int x1]) (ci := 12) dX12_least_38 ml_X12_330 md_X12_isHeld mv_X12_isHeld rfl (by decide) rfl rfl (Nat.le_of_ble_eq_true rfl) (Nat.le_of_ble_eq_true rfl) (k_X12_isHeld G n l0 l2 h) (fun r2 h3 => ?_)
  refine zi_if_ne (tgt := 68) dX12_least_41 (by decide) ?_ ?_
  · refine zi_sub [1, 2] rfl ?_
    exact wb_X12_least_68 G n k13 hk13 l0 l2 x1 h3
  · refine zi_aload_n dX12_least_44 rfl 1 rfl ?_
    refine zi_iload_n dX12_least_45 rfl 2 rfl ?_
    refine zi_callVI (As := [.int l2]) (rest := [.int x1]) (ci := 12) dX12_least_46 ml_X12_102 md_X12_isOn mv_X12_isOn rfl (by decide) rfl rfl (Nat.le_of_ble_eq_true rfl) (Nat.le_of_ble_eq_true rfl) (k_X12_isOn G n l0 l2 h3) (fun r4 h5 => ?_)
    refine zi_if_eq (tgt := 72) dX12_least_49 (by decide) ?_ ?_
    · refine zi_sub [1, 2] rfl ?_
      exact wb_X12_least_72 G n k13 hk13 l0 l2 x1 h5
    · refine zi_aload_n dX12_least_52 rfl 1 rfl ?_
      refine zi_iload_n dX12_least_53 rfl 2 rfl ?_
      refine zi_callVI (As := [.int l2]) (rest := [.int x1]) (ci := 12) dX12_least_54 ml_X12_327 md_X12_isParked mv_X12_isParked rfl (by decide) rfl rfl (Nat.le_of_ble_eq_true rfl) (Nat.le_of_ble_eq_true rfl) (k_X12_isParked G n l0 l2 h5) (fun r6 h7 => ?_)
      refine zi_if_ne (tgt := 72) dX12_least_57 (by decide) ?_ ?_
      · refine zi_sub [1, 2] rfl ?_
        exact wb_X12_least_72 G n k13 hk13 l0 l2 x1 h7
      · refine zi_aload_n dX12_least_60 rfl 1 rfl ?_
        refine zi_iload_n dX12_least_61 rfl 2 rfl ?_
        refine zi_callVI (As := [.int l2]) (rest := [.int x1]) (ci := 12) dX12_least_62 ml_X12_112 md_X12_hasReported mv_X12_hasReported rfl (by decide) rfl rfl (Nat.le_of_ble_eq_true rfl) (Nat.le_of_ble_eq_true rfl) (k_X12_hasReported G n l0 l2 h7) (fun r8 h9 => ?_)
        refine zi_if_ne (tgt := 72) dX12_least_65 (by decide) ?_ ?_
        · refine zi_sub [1, 2] rfl ?_
          exact wb_X12_least_72 G n k13 hk13 l0 l2 x1 h9
        · refine zi_sub [1, 2] rfl ?_
          exact wb_X12_least_68 G n k13 hk13 l0 l2 x1 h9
set_option maxRecDepth 20000 in
set_option maxHeartbeats 1000000 in
theorem wb_X12_least_13 (G : zG) (n : Nat) (k13 : Nat → Int32 → Int32 → zH → Option (Int32 × zH)) (hk13 : ∀ (l0 : Nat) (l1 : Int32) (l2 : Int32) (h : zH), zW G yX12_least cX12_least 3 (some .int) zvI 3 13 [(0, .ref (zbase G + l0)), (1, .int l1), (2, .int l2)] [] h (k13 l0 l1 l2 h)) (l0 : Nat) (l1 : Int32) (l2 : Int32) (h : zH) : zW G yX12_least cX12_least 3 (some .int) zvI 3 13 [(0, .ref (zbase G + l0)), (1, .int l1), (2, .int l2)] [] h (fb_X12_least_13 n k13 l0 l1 l2 h) := by
  unfold fb_X12_least_13
  refine zi_iload_n dX12_least_13 rfl 2 rfl ?_
  refine zi_bipush (v := 8) dX12_least_14 (by decide) ?_
  refine zi_icmp_ge (tgt := 81) dX12_least_16 (by decide) ?_ ?_
  · refine zi_iload_n dX12_least_81 rfl 1 rfl ?_
    exact zi_retI dX12_least_82
  · refine zi_iload_n dX12_least_19 rfl 1 rfl ?_
    refine zi_aload_n dX12_least_20 rfl 0 rfl ?_
    refine zi_iload_n dX12_least_21 rfl 2 rfl ?_
    refine zi_callVI (As := [.int l2]) (rest := [.int l1]) (ci := 12) dX12_least_22 ml_X12_112 md_X12_hasReported mv_X12_hasReported rfl (by decide) rfl rfl (Nat.le_of_ble_eq_true rfl) (Nat.le_of_ble_eq_true rfl) (k_X12_hasReported G n l0 l2 h) (fun r1 h2 => ?_)
    refine zi_if_eq (tgt := 32) dX12_least_25 (by decide) ?_ ?_
    · refine zi_iconst (v := 1) dX12_least_32 (by decide) ?_
      refine zi_sub [0, 2] rfl ?_
      exact wb_X12_least_33 G n k13 hk13 l0 l2 l1 1 h2
    · refine zi_iconst (v := 0) dX12_least_28 (by decide) ?_
      refine zi_goto (tgt := 33) dX12_least_29 (by decide) ?_
      refine zi_sub [0, 2] rfl ?_
      exact wb_X12_least_33 G n k13 hk13 l0 l2 l1 0 h2
theorem wl_X12_least_13 (G : zG) (n : Nat) : ∀ (t : Nat) (l0 : Nat) (l1 : Int32) (l2 : Int32) (h : zH), zW G yX12_least cX12_least 3 (some .int) zvI 3 13 [(0, .ref (zbase G + l0)), (1, .int l1), (2, .int l2)] [] h (zlp3 (fb_X12_least_13 n ) t l0 l1 l2 h) := by
  intro t
  induction t with
  | zero => intros; exact zW_none
  | succ t ih => intro l0 l1 l2 h; rw [zlp3_s]; exact wb_X12_least_13 G n  _  ih l0 l1 l2 h
set_option maxRecDepth 20000 in
set_option maxHeartbeats 1000000 in
theorem k_X12_least (G : zG) (n : Nat) (a0 : Nat) (h : zH) : zMet G yX12_least cX12_least 3 (some .int) zvI 3 [.ref (zbase G + a0)] h (f_X12_least n a0 h) := by
  refine zMet_of (l := [(0, .ref (zbase G + a0))]) (by decide) (Nat.le_of_ble_eq_true rfl) rfl ?_
  unfold f_X12_least
  refine zi_aload_n dX12_least_0 rfl 0 rfl ?_
  refine zi_callVI (As := []) (rest := []) (ci := 12) dX12_least_1 ml_X12_91 md_X12_runs0 mv_X12_runs0 rfl (by decide) rfl rfl (Nat.le_of_ble_eq_true rfl) (Nat.le_of_ble_eq_true rfl) (k_X12_runs0 G n a0 h) (fun r1 h2 => ?_)
  refine zi_if_ne (tgt := 9) dX12_least_4 (by decide) ?_ ?_
  · refine zi_iconst (v := 0) dX12_least_9 (by decide) ?_
    refine zi_istore_n (l' := [(1, .int 0), (0, .ref (zbase G + a0))]) dX12_least_10 rfl (by decide) rfl ?_
    refine zi_iconst (v := 0) dX12_least_11 (by decide) ?_
    refine zi_istore_n (l' := [(2, .int 0), (1, .int 0), (0, .ref (zbase G + a0))]) dX12_least_12 rfl (by decide) rfl ?_
    refine zi_sub [2, 1, 0] rfl ?_
    exact wl_X12_least_13 G n n a0 0 0 h2
  · refine zi_iconst (v := (-1)) dX12_least_7 (by decide) ?_
    exact zi_retI dX12_least_8
set_option maxRecDepth 20000 in
set_option maxHeartbeats 1000000 in
theorem wb_X12_seen_19 (G : zG) (n : Nat) (l0 : Nat) (h : zH) : zW G yX12_seen cX12_seen 4 (some .int) zvI 2 19 [(0, .ref (zbase G + l0))] [] h (fb_X12_seen_19 n l0 h) := by
  unfold fb_X12_seen_19
  refine zi_aload_n dX12_seen_19 rfl 0 rfl ?_
  refine zi_iconst (v := (-1)) dX12_seen_20 (by decide) ?_
  refine zi_callVI (As := [.int (-1)]) (rest := []) (ci := 12) dX12_seen_21 ml_X12_85 md_X12_refuses mv_X12_refuses rfl (by decide) rfl rfl (Nat.le_of_ble_eq_true rfl) (Nat.le_of_ble_eq_true rfl) (k_X12_refuses G n l0 (-1) h) (fun r1 h2 => ?_)
  exact zi_retI dX12_seen_24
set_option maxRecDepth 20000 in
set_option maxHeartbeats 1000000 in
theorem k_X12_seen (G : zG) (n : Nat) (a0 : Nat) (a1 : Int32) (a2 : Int32) (h : zH) : zMet G yX12_seen cX12_seen 4 (some .int) zvI 2 [.ref (zbase G + a0), .int a1, .int a2] h (f_X12_seen n a0 a1 a2 h) := by
  refine zMet_of (l := [(0, .ref (zbase G + a0)), (1, .int a1), (2, .int a2)]) (by decide) (Nat.le_of_ble_eq_true rfl) rfl ?_
  unfold f_X12_seen
  refine zi_iload_n dX12_seen_0 rfl 1 rfl ?_
  refine zi_iconst (v := 0) dX12_seen_1 (by decide) ?_
  refine zi_iconst (v := 2) dX12_seen_2 (by decide) ?_
  refine zi_callSI (As := [.int a1, .int 0, .int 2]) (rest := []) dX12_seen_3 ml_X12_18 md_X12_lies ms_X12_lies rfl rfl (Nat.le_of_ble_eq_true rfl) (Nat.le_of_ble_eq_true rfl) (k_X12_lies G n a1 0 2 h) (fun r1 h2 => ?_)
  refine zi_if_eq (tgt := 19) dX12_seen_6 (by decide) ?_ ?_
  · refine zi_sub [0] rfl ?_
    exact wb_X12_seen_19 G n a0 h2
  · refine zi_iload_n dX12_seen_9 rfl 2 rfl ?_
    refine zi_iconst (v := 0) dX12_seen_10 (by decide) ?_
    refine zi_bipush (v := 100) dX12_seen_11 (by decide) ?_
    refine zi_callSI (As := [.int a2, .int 0, .int 100]) (rest := []) dX12_seen_13 ml_X12_18 md_X12_lies ms_X12_lies rfl rfl (Nat.le_of_ble_eq_true rfl) (Nat.le_of_ble_eq_true rfl) (k_X12_lies G n a2 0 100 h2) (fun r3 h4 => ?_)
    refine zi_if_ne (tgt := 25) dX12_seen_16 (by decide) ?_ ?_
    · refine zi_sipush (v := 191) dX12_seen_25 (by decide) ?_
      refine zi_iconst (v := 2) dX12_seen_28 (by decide) ?_
      refine zi_aload_n dX12_seen_29 rfl 0 rfl ?_
      refine zi_getR dX12_seen_30 gf_X12_28 (fun v5 => ?_)
      refine zi_sipush (v := 205) dX12_seen_33 (by decide) ?_
      refine zi_iald dX12_seen_36 (fun v6 => ?_)
      refine zi_imul dX12_seen_37 ?_
      refine zi_iadd dX12_seen_38 ?_
      refine zi_let (sf := fun x7 => .int x7 :: []) (fun x7 => ?_)
      refine zi_istore_n (l' := [(3, .int x7), (0, .ref (zbase G + a0)), (1, .int a1), (2, .int a2)]) dX12_seen_39 rfl (by decide) rfl ?_
      refine zi_aload_n dX12_seen_40 rfl 1 rfl ?_
      refine zi_getR dX12_seen_41 gf_X12_28 (fun v8 => ?_)
      refine zi_sipush (v := 205) dX12_seen_44 (by decide) ?_
      refine zi_iald dX12_seen_47 (fun v9 => ?_)
      refine zi_bipush (v := 6) dX12_seen_48 (by decide) ?_
      refine zi_icmp_ne (tgt := 60) dX12_seen_50 (by decide) ?_ ?_
      · refine zi_aload_n dX12_seen_60 rfl 1 rfl ?_
        refine zi_getR dX12_seen_61 gf_X12_28 (fun v10 => ?_)
        refine zi_iload_n dX12_seen_64 rfl 0 rfl ?_
        refine zi_iload_n dX12_seen_65 rfl 2 rfl ?_
        refine zi_iast dX12_seen_66 (fun h11 => ?_)
        refine zi_aload_n dX12_seen_67 rfl 1 rfl ?_
        refine zi_getR dX12_seen_68 gf_X12_28 (fun v12 => ?_)
        refine zi_iload_n dX12_seen_71 rfl 0 rfl ?_
        refine zi_iconst (v := 1) dX12_seen_72 (by decide) ?_
        refine zi_iadd dX12_seen_73 ?_
        refine zi_iload_n dX12_seen_74 rfl 3 rfl ?_
        refine zi_iast dX12_seen_75 (fun h13 => ?_)
        refine zi_aload_n dX12_seen_76 rfl 1 rfl ?_
        refine zi_getR dX12_seen_77 gf_X12_28 (fun v14 => ?_)
        refine zi_sipush (v := 205) dX12_seen_80 (by decide) ?_
        refine zi_dup2 dX12_seen_83 rfl rfl ?_
        refine zi_iald dX12_seen_84 (fun v15 => ?_)
        refine zi_iconst (v := 1) dX12_seen_85 (by decide) ?_
        refine zi_iadd dX12_seen_86 ?_
        refine zi_iast dX12_seen_87 (fun h16 => ?_)
        refine zi_aload_n dX12_seen_88 rfl 1 rfl ?_
        refine zi_aload_n dX12_seen_89 rfl 1 rfl ?_
        refine zi_getR dX12_seen_90 gf_X12_28 (fun v17 => ?_)
        refine zi_sipush (v := 205) dX12_seen_93 (by decide) ?_
        refine zi_iald dX12_seen_96 (fun v18 => ?_)
        refine zi_callVI (As := [.int v18]) (rest := []) (ci := 12) dX12_seen_97 ml_X12_14 md_X12_good mv_X12_good rfl (by decide) rfl rfl (Nat.le_of_ble_eq_true rfl) (Nat.le_of_ble_eq_true rfl) (k_X12_good G n a0 v18 h16) (fun r19 h20 => ?_)
        exact zi_retI dX12_seen_100
      · refine zi_aload_n dX12_seen_53 rfl 1 rfl ?_
        refine zi_bipush (v := (-5)) dX12_seen_54 (by decide) ?_
        refine zi_callVI (As := [.int (-5)]) (rest := []) (ci := 12) dX12_seen_56 ml_X12_85 md_X12_refuses mv_X12_refuses rfl (by decide) rfl rfl (Nat.le_of_ble_eq_true rfl) (Nat.le_of_ble_eq_true rfl) (k_X12_refuses G n a0 (-5) h4) (fun r21 h22 => ?_)
        exact zi_retI dX12_seen_59
    · refine zi_sub [0] rfl ?_
      exact wb_X12_seen_19 G n a0 h4
set_option maxRecDepth 20000 in
set_option maxHeartbeats 1000000 in
theorem k_X12_forget (G : zG) (n : Nat) (a0 : Nat) (h : zH) : zMet G yX12_forget cX12_forget 2 (some .int) zvI 1 [.ref (zbase G + a0)] h (f_X12_forget n a0 h) := by
  refine zMet_of (l := [(0, .ref (zbase G + a0))]) (by decide) (Nat.le_of_ble_eq_true rfl) rfl ?_
  unfold f_X12_forget
  refine zi_aload_n dX12_forget_0 rfl 0 rfl ?_
  refine zi_getR dX12_forget_1 gf_X12_28 (fun v1 => ?_)
  refine zi_sipush (v := 205) dX12_forget_4 (by decide) ?_
  refine zi_iald dX12_forget_7 (fun v2 => ?_)
  refine zi_istore_n (l' := [(1, .int v2), (0, .ref (zbase G + a0))]) dX12_forget_8 rfl (by decide) rfl ?_
  refine zi_aload_n dX12_forget_9 rfl 1 rfl ?_
  refine zi_getR dX12_forget_10 gf_X12_28 (fun v3 => ?_)
  refine zi_sipush (v := 205) dX12_forget_13 (by decide) ?_
  refine zi_iconst (v := 0) dX12_forget_16 (by decide) ?_
  refine zi_iast dX12_forget_17 (fun h4 => ?_)
  refine zi_iload_n dX12_forget_18 rfl 0 rfl ?_
  exact zi_retI dX12_forget_19
set_option maxRecDepth 20000 in
set_option maxHeartbeats 1000000 in
theorem k_X12_factOf (G : zG) (n : Nat) (a0 : Nat) (a1 : Int32) (a2 : Int32) (h : zH) : zMet G yX12_factOf cX12_factOf 3 (some .int) zvI 3 [.ref (zbase G + a0), .int a1, .int a2] h (f_X12_factOf n a0 a1 a2 h) := by
  refine zMet_of (l := [(0, .ref (zbase G + a0)), (1, .int a1), (2, .int a2)]) (by decide) (Nat.le_of_ble_eq_true rfl) rfl ?_
  unfold f_X12_factOf
  refine zi_iload_n dX12_factOf_0 rfl 2 rfl ?_
  refine zi_lsw (tgt := 48) _ dX12_factOf_1 (by decide) rfl (by decide) ?_ ?_
  · simp only [List.forall_mem_cons, List.not_mem_nil, false_implies, implies_true, and_true]
    refine ⟨?_, ?_⟩
    · refine zi_aload_n dX12_factOf_28 rfl 0 rfl ?_
      refine zi_getR dX12_factOf_29 gf_X12_28 (fun v1 => ?_)
      refine zi_bipush (v := 97) dX12_factOf_32 (by decide) ?_
      refine zi_iload_n dX12_factOf_34 rfl 1 rfl ?_
      refine zi_iadd dX12_factOf_35 ?_
      refine zi_iald dX12_factOf_36 (fun v2 => ?_)
      exact zi_retI dX12_factOf_37
    · refine zi_aload_n dX12_factOf_38 rfl 0 rfl ?_
      refine zi_getR dX12_factOf_39 gf_X12_28 (fun v3 => ?_)
      refine zi_bipush (v := 113) dX12_factOf_42 (by decide) ?_
      refine zi_iload_n dX12_factOf_44 rfl 1 rfl ?_
      refine zi_iadd dX12_factOf_45 ?_
      refine zi_iald dX12_factOf_46 (fun v4 => ?_)
      exact zi_retI dX12_factOf_47
  · refine zi_aload_n dX12_factOf_48 rfl 0 rfl ?_
    refine zi_iload_n dX12_factOf_49 rfl 1 rfl ?_
    refine zi_callVI (As := [.int a1]) (rest := []) (ci := 12) dX12_factOf_50 ml_X12_109 md_X12_cellOf mv_X12_cellOf rfl (by decide) rfl rfl (Nat.le_of_ble_eq_true rfl) (Nat.le_of_ble_eq_true rfl) (k_X12_cellOf G n a0 a1 h) (fun r5 h6 => ?_)
    refine zi_iconst (v := (-1)) dX12_factOf_53 (by decide) ?_
    refine zi_icmp_ne (tgt := 62) dX12_factOf_54 (by decide) ?_ ?_
    · refine zi_aload_n dX12_factOf_62 rfl 0 rfl ?_
      refine zi_getR dX12_factOf_63 gf_X12_28 (fun v7 => ?_)
      refine zi_bipush (v := 24) dX12_factOf_66 (by decide) ?_
      refine zi_aload_n dX12_factOf_68 rfl 0 rfl ?_
      refine zi_iload_n dX12_factOf_69 rfl 1 rfl ?_
      refine zi_callVI (As := [.int a1]) (rest := [.int 24, .ref (zbase G + v7)]) (ci := 12) dX12_factOf_70 ml_X12_109 md_X12_cellOf mv_X12_cellOf rfl (by decide) rfl rfl (Nat.le_of_ble_eq_true rfl) (Nat.le_of_ble_eq_true rfl) (k_X12_cellOf G n a0 a1 h6) (fun r8 h9 => ?_)
      refine zi_iadd dX12_factOf_73 ?_
      refine zi_iald dX12_factOf_74 (fun v10 => ?_)
      exact zi_retI dX12_factOf_75
    · refine zi_bipush (v := 100) dX12_factOf_57 (by decide) ?_
      refine zi_goto (tgt := 75) dX12_factOf_59 (by decide) ?_
      exact zi_retI dX12_factOf_75
set_option maxRecDepth 20000 in
set_option maxHeartbeats 1000000 in
theorem wb_X12_canBeNow_92 (G : zG) (n : Nat) (k4 : Nat → Int32 → Int32 → zH → Option (Int32 × zH)) (hk4 : ∀ (l0 : Nat) (l1 : Int32) (l2 : Int32) (h : zH), zW G yX12_canBeNow cX12_canBeNow 5 (some .int) zvI 4 4 [(0, .ref (zbase G + l0)), (1, .int l1), (2, .int l2)] [] h (k4 l0 l1 l2 h)) (l0 : Nat) (l2 : Int32) (s0 : Int32) (s1 : Int32) (h : zH) : zW G yX12_canBeNow cX12_canBeNow 5 (some .int) zvI 4 92 [(0, .ref (zbase G + l0)), (2, .int l2)] [.int s1, .int s0] h (fb_X12_canBeNow_92 n k4 l0 l2 s0 s1 h) := by
  unfold fb_X12_canBeNow_92
  refine zi_ior dX12_canBeNow_92 ?_
  refine zi_let (sf := fun x1 => .int x1 :: []) (fun x1 => ?_)
  refine zi_istore_n (l' := [(1, .int x1), (0, .ref (zbase G + l0)), (2, .int l2)]) dX12_canBeNow_93 rfl (by decide) rfl ?_
  refine zi_iinc (j := 2) (v := l2 + 1) (l' := [(2, .int (l2 + 1)), (1, .int x1), (0, .ref (zbase G + l0))]) dX12_canBeNow_94 rfl rfl (by decide) rfl ?_
  refine zi_goto (tgt := 4) dX12_canBeNow_97 (by decide) ?_
  refine zi_sub [2, 1, 0] rfl ?_
  exact hk4 l0 x1 (l2 + 1) h
set_option maxRecDepth 20000 in
set_option maxHeartbeats 1000000 in
theorem wb_X12_canBeNow_80 (G : zG) (n : Nat) (k4 : Nat → Int32 → Int32 → zH → Option (Int32 × zH)) (hk4 : ∀ (l0 : Nat) (l1 : Int32) (l2 : Int32) (h : zH), zW G yX12_canBeNow cX12_canBeNow 5 (some .int) zvI 4 4 [(0, .ref (zbase G + l0)), (1, .int l1), (2, .int l2)] [] h (k4 l0 l1 l2 h)) (l0 : Nat) (l1 : Int32) (l2 : Int32) (l3 : Int32) (h : zH) : zW G yX12_canBeNow cX12_canBeNow 5 (some .int) zvI 4 80 [(0, .ref (zbase G + l0)), (1, .int l1), (2, .int l2), (3, .int l3)] [] h (fb_X12_canBeNow_80 n k4 l0 l1 l2 l3 h) := by
  unfold fb_X12_canBeNow_80
  refine zi_iload_n dX12_canBeNow_80 rfl 1 rfl ?_
  refine zi_iload_n dX12_canBeNow_81 rfl 3 rfl ?_
  refine zi_if_eq (tgt := 91) dX12_canBeNow_82 (by decide) ?_ ?_
  · refine zi_iconst (v := 0) dX12_canBeNow_91 (by decide) ?_
    refine zi_sub [0, 2] rfl ?_
    exact wb_X12_canBeNow_92 G n k4 hk4 l0 l2 l1 0 h
  · refine zi_iconst (v := 1) dX12_canBeNow_85 (by decide) ?_
    refine zi_iload_n dX12_canBeNow_86 rfl 2 rfl ?_
    refine zi_ishl dX12_canBeNow_87 ?_
    refine zi_goto (tgt := 92) dX12_canBeNow_88 (by decide) ?_
    refine zi_sub [0, 2] rfl ?_
    exact wb_X12_canBeNow_92 G n k4 hk4 l0 l2 l1 ((1 : Int32) <<< (l2 &&& 31)) h
set_option maxRecDepth 20000 in
set_option maxHeartbeats 1000000 in
theorem wb_X12_canBeNow_73 (G : zG) (n : Nat) (k4 : Nat → Int32 → Int32 → zH → Option (Int32 × zH)) (k15 : Nat → Int32 → Int32 → Int32 → Int32 → zH → Option (Int32 × zH)) (hk4 : ∀ (l0 : Nat) (l1 : Int32) (l2 : Int32) (h : zH), zW G yX12_canBeNow cX12_canBeNow 5 (some .int) zvI 4 4 [(0, .ref (zbase G + l0)), (1, .int l1), (2, .int l2)] [] h (k4 l0 l1 l2 h)) (hk15 : ∀ (l0 : Nat) (l1 : Int32) (l2 : Int32) (l3 : Int32) (l4 : Int32) (h : zH), zW G yX12_canBeNow cX12_canBeNow 5 (some .int) zvI 4 15 [(0, .ref (zbase G + l0)), (1, .int l1), (2, .int l2), (3, .int l3), (4, .int l4)] [] h (k15 l0 l1 l2 l3 l4 h)) (l0 : Nat) (l1 : Int32) (l2 : Int32) (l4 : Int32) (s0 : Int32) (h : zH) : zW G yX12_canBeNow cX12_canBeNow 5 (some .int) zvI 4 73 [(0, .ref (zbase G + l0)), (1, .int l1), (2, .int l2), (4, .int l4)] [.int s0] h (fb_X12_canBeNow_73 n k4 k15 l0 l1 l2 l4 s0 h) := by
  unfold fb_X12_canBeNow_73
  refine zi_istore_n (l' := [(3, .int s0), (0, .ref (zbase G + l0)), (1, .int l1), (2, .int l2), (4, .int l4)]) dX12_canBeNow_73 rfl (by decide) rfl ?_
  refine zi_iinc (j := 4) (v := l4 + 1) (l' := [(4, .int (l4 + 1)), (3, .int s0), (0, .ref (zbase G + l0)), (1, .int l1), (2, .int l2)]) dX12_canBeNow_74 rfl rfl (by decide) rfl ?_
  refine zi_goto (tgt := 15) dX12_canBeNow_77 (by decide) ?_
  refine zi_sub [2, 3, 4, 1, 0] rfl ?_
  exact hk15 l0 l1 l2 s0 (l4 + 1) h
set_option maxRecDepth 20000 in
set_option maxHeartbeats 1000000 in
theorem wb_X12_canBeNow_72 (G : zG) (n : Nat) (k4 : Nat → Int32 → Int32 → zH → Option (Int32 × zH)) (k15 : Nat → Int32 → Int32 → Int32 → Int32 → zH → Option (Int32 × zH)) (hk4 : ∀ (l0 : Nat) (l1 : Int32) (l2 : Int32) (h : zH), zW G yX12_canBeNow cX12_canBeNow 5 (some .int) zvI 4 4 [(0, .ref (zbase G + l0)), (1, .int l1), (2, .int l2)] [] h (k4 l0 l1 l2 h)) (hk15 : ∀ (l0 : Nat) (l1 : Int32) (l2 : Int32) (l3 : Int32) (l4 : Int32) (h : zH), zW G yX12_canBeNow cX12_canBeNow 5 (some .int) zvI 4 15 [(0, .ref (zbase G + l0)), (1, .int l1), (2, .int l2), (3, .int l3), (4, .int l4)] [] h (k15 l0 l1 l2 l3 l4 h)) (l0 : Nat) (l1 : Int32) (l2 : Int32) (l4 : Int32) (h : zH) : zW G yX12_canBeNow cX12_canBeNow 5 (some .int) zvI 4 72 [(0, .ref (zbase G + l0)), (1, .int l1), (2, .int l2), (4, .int l4)] [] h (fb_X12_canBeNow_72 n k4 k15 l0 l1 l2 l4 h) := by
  unfold fb_X12_canBeNow_72
  refine zi_iconst (v := 0) dX12_canBeNow_72 (by decide) ?_
  refine zi_sub [0, 1, 2, 3] rfl ?_
  exact wb_X12_canBeNow_73 G n k4 k15 hk4 hk15 l0 l1 l2 l4 0 h
set_option maxRecDepth 20000 in
set_option maxHeartbeats 1000000 in
theorem wb_X12_canBeNow_15 (G : zG) (n : Nat) (k4 : Nat → Int32 → Int32 → zH → Option (Int32 × zH)) (k15 : Nat → Int32 → Int32 → Int32 → Int32 → zH → Option (Int32 × zH)) (hk4 : ∀ (l0 : Nat) (l1 : Int32) (l2 : Int32) (h : zH), zW G yX12_canBeNow cX12_canBeNow 5 (some .int) zvI 4 4 [(0, .ref (zbase G + l0)), (1, .int l1), (2, .int l2)] [] h (k4 l0 l1 l2 h)) (hk15 : ∀ (l0 : Nat) (l1 : Int32) (l2 : Int32) (l3 : Int32) (l4 : Int32) (h : zH), zW G yX12_canBeNow cX12_canBeNow 5 (some .int) zvI 4 15 [(0, .ref (zbase G + l0)), (1, .int l1), (2, .int l2), (3, .int l3), (4, .int l4)] [] h (k15 l0 l1 l2 l3 l4 h)) (l0 : Nat) (l1 : Int32) (l2 : Int32) (l3 : Int32) (l4 : Int32) (h : zH) : zW G yX12_canBeNow cX12_canBeNow 5 (some .int) zvI 4 15 [(0, .ref (zbase G + l0)), (1, .int l1), (2, .int l2), (3, .int l3), (4, .int l4)] [] h (fb_X12_canBeNow_15 n k4 k15 l0 l1 l2 l3 l4 h) := by
  unfold fb_X12_canBeNow_15
  refine zi_iload dX12_canBeNow_15 4 rfl ?_
  refine zi_aload_n dX12_canBeNow_17 rfl 0 rfl ?_
  refine zi_getR dX12_canBeNow_18 gf_X12_28 (fun v1 => ?_)
  refine zi_sipush (v := 205) dX12_canBeNow_21 (by decide) ?_
  refine zi_iald dX12_canBeNow_24 (fun v2 => ?_)
  refine zi_icmp_ge (tgt := 80) dX12_canBeNow_25 (by decide) ?_ ?_
  · refine zi_sub [0, 1, 2, 3] rfl ?_
    exact wb_X12_canBeNow_80 G n k4 hk4 l0 l1 l2 l3 h
  · refine zi_iload_n dX12_canBeNow_28 rfl 3 rfl ?_
    refine zi_if_eq (tgt := 72) dX12_canBeNow_29 (by decide) ?_ ?_
    · refine zi_sub [0, 1, 2, 4] rfl ?_
      exact wb_X12_canBeNow_72 G n k4 k15 hk4 hk15 l0 l1 l2 l4 h
    · refine zi_aload_n dX12_canBeNow_32 rfl 0 rfl ?_
      refine zi_iload_n dX12_canBeNow_33 rfl 2 rfl ?_
      refine zi_aload_n dX12_canBeNow_34 rfl 0 rfl ?_
      refine zi_getR dX12_canBeNow_35 gf_X12_28 (fun v3 => ?_)
      refine zi_sipush (v := 191) dX12_canBeNow_38 (by decide) ?_
      refine zi_iconst (v := 2) dX12_canBeNow_41 (by decide) ?_
      refine zi_iload dX12_canBeNow_42 4 rfl ?_
      refine zi_imul dX12_canBeNow_44 ?_
      refine zi_iadd dX12_canBeNow_45 ?_
      refine zi_iald dX12_canBeNow_46 (fun v4 => ?_)
      refine zi_callVI (As := [.int l2, .int v4]) (rest := []) (ci := 12) dX12_canBeNow_47 ml_X12_400 md_X12_factOf mv_X12_factOf rfl (by decide) rfl rfl (Nat.le_of_ble_eq_true rfl) (Nat.le_of_ble_eq_true rfl) (k_X12_factOf G n l0 l2 v4 h) (fun r5 h6 => ?_)
      refine zi_aload_n dX12_canBeNow_50 rfl 0 rfl ?_
      refine zi_getR dX12_canBeNow_51 gf_X12_28 (fun v7 => ?_)
      refine zi_sipush (v := 191) dX12_canBeNow_54 (by decide) ?_
      refine zi_iconst (v := 2) dX12_canBeNow_57 (by decide) ?_
      refine zi_iload dX12_canBeNow_58 4 rfl ?_
      refine zi_imul dX12_canBeNow_60 ?_
      refine zi_iadd dX12_canBeNow_61 ?_
      refine zi_iconst (v := 1) dX12_canBeNow_62 (by decide) ?_
      refine zi_iadd dX12_canBeNow_63 ?_
      refine zi_iald dX12_canBeNow_64 (fun v8 => ?_)
      refine zi_icmp_ne (tgt := 72) dX12_canBeNow_65 (by decide) ?_ ?_
      · refine zi_sub [0, 1, 2, 4] rfl ?_
        exact wb_X12_canBeNow_72 G n k4 k15 hk4 hk15 l0 l1 l2 l4 h6
      · refine zi_iconst (v := 1) dX12_canBeNow_68 (by decide) ?_
        refine zi_goto (tgt := 73) dX12_canBeNow_69 (by decide) ?_
        refine zi_sub [0, 1, 2, 4] rfl ?_
        exact wb_X12_canBeNow_73 G n k4 k15 hk4 hk15 l0 l1 l2 l4 1 h6
theorem wl_X12_canBeNow_15 (G : zG) (n : Nat) (k4 : Nat → Int32 → Int32 → zH → Option (Int32 × zH)) (hk4 : ∀ (l0 : Nat) (l1 : Int32) (l2 : Int32) (h : zH), zW G yX12_canBeNow cX12_canBeNow 5 (some .int) zvI 4 4 [(0, .ref (zbase G + l0)), (1, .int l1), (2, .int l2)] [] h (k4 l0 l1 l2 h)) : ∀ (t : Nat) (l0 : Nat) (l1 : Int32) (l2 : Int32) (l3 : Int32) (l4 : Int32) (h : zH), zW G yX12_canBeNow cX12_canBeNow 5 (some .int) zvI 4 15 [(0, .ref (zbase G + l0)), (1, .int l1), (2, .int l2), (3, .int l3), (4, .int l4)] [] h (zlp5 (fb_X12_canBeNow_15 n k4 ) t l0 l1 l2 l3 l4 h) := by
  intro t
  induction t with
  | zero => intros; exact zW_none
  | succ t ih => intro l0 l1 l2 l3 l4 h; rw [zlp5_s]; exact wb_X12_canBeNow_15 G n k4  _ hk4  ih l0 l1 l2 l3 l4 h
set_option maxRecDepth 20000 in
set_option maxHeartbeats 1000000 in
theorem wb_X12_canBeNow_4 (G : zG) (n : Nat) (k4 : Nat → Int32 → Int32 → zH → Option (Int32 × zH)) (hk4 : ∀ (l0 : Nat) (l1 : Int32) (l2 : Int32) (h : zH), zW G yX12_canBeNow cX12_canBeNow 5 (some .int) zvI 4 4 [(0, .ref (zbase G + l0)), (1, .int l1), (2, .int l2)] [] h (k4 l0 l1 l2 h)) (l0 : Nat) (l1 : Int32) (l2 : Int32) (h : zH) : zW G yX12_canBeNow cX12_canBeNow 5 (some .int) zvI 4 4 [(0, .ref (zbase G + l0)), (1, .int l1), (2, .int l2)] [] h (fb_X12_canBeNow_4 n k4 l0 l1 l2 h) := by
  unfold fb_X12_canBeNow_4
  refine zi_iload_n dX12_canBeNow_4 rfl 2 rfl ?_
  refine zi_bipush (v := 8) dX12_canBeNow_5 (by decide) ?_
  refine zi_icmp_ge (tgt := 100) dX12_canBeNow_7 (by decide) ?_ ?_
  · refine zi_iload_n dX12_canBeNow_100 rfl 1 rfl ?_
    exact zi_retI dX12_canBeNow_101
  · refine zi_iconst (v := 1) dX12_canBeNow_10 (by decide) ?_
    refine zi_istore_n (l' := [(3, .int 1), (0, .ref (zbase G + l0)), (1, .int l1), (2, .int l2)]) dX12_canBeNow_11 rfl (by decide) rfl ?_
    refine zi_iconst (v := 0) dX12_canBeNow_12 (by decide) ?_
    refine zi_istore (l' := [(4, .int 0), (3, .int 1), (0, .ref (zbase G + l0)), (1, .int l1), (2, .int l2)]) dX12_canBeNow_13 (by decide) rfl ?_
    refine zi_sub [2, 3, 4, 1, 0] rfl ?_
    exact wl_X12_canBeNow_15 G n k4 hk4 n l0 l1 l2 1 0 h
theorem wl_X12_canBeNow_4 (G : zG) (n : Nat) : ∀ (t : Nat) (l0 : Nat) (l1 : Int32) (l2 : Int32) (h : zH), zW G yX12_canBeNow cX12_canBeNow 5 (some .int) zvI 4 4 [(0, .ref (zbase G + l0)), (1, .int l1), (2, .int l2)] [] h (zlp3 (fb_X12_canBeNow_4 n ) t l0 l1 l2 h) := by
  intro t
  induction t with
  | zero => intros; exact zW_none
  | succ t ih => intro l0 l1 l2 h; rw [zlp3_s]; exact wb_X12_canBeNow_4 G n  _  ih l0 l1 l2 h
set_option maxRecDepth 20000 in
set_option maxHeartbeats 1000000 in
theorem k_X12_canBeNow (G : zG) (n : Nat) (a0 : Nat) (h : zH) : zMet G yX12_canBeNow cX12_canBeNow 5 (some .int) zvI 4 [.ref (zbase G + a0)] h (f_X12_canBeNow n a0 h) := by
  refine zMet_of (l := [(0, .ref (zbase G + a0))]) (by decide) (Nat.le_of_ble_eq_true rfl) rfl ?_
  unfold f_X12_canBeNow
  refine zi_iconst (v := 0) dX12_canBeNow_0 (by decide) ?_
  refine zi_istore_n (l' := [(1, .int 0), (0, .ref (zbase G + a0))]) dX12_canBeNow_1 rfl (by decide) rfl ?_
  refine zi_iconst (v := 0) dX12_canBeNow_2 (by decide) ?_
  refine zi_istore_n (l' := [(2, .int 0), (1, .int 0), (0, .ref (zbase G + a0))]) dX12_canBeNow_3 rfl (by decide) rfl ?_
  refine zi_sub [2, 1, 0] rfl ?_
  exact wl_X12_canBeNow_4 G n n a0 0 0 h
set_option maxRecDepth 20000 in
set_option maxHeartbeats 1000000 in
theorem k_X12_canBe (G : zG) (n : Nat) (a0 : Nat) (h : zH) : zMet G yX12_canBe cX12_canBe 1 (some .int) zvI 5 [.ref (zbase G + a0)] h (f_X12_canBe n a0 h) := by
  refine zMet_of (l := [(0, .ref (zbase G + a0))]) (by decide) (Nat.le_of_ble_eq_true rfl) rfl ?_
  unfold f_X12_canBe
  refine zi_aload_n dX12_canBe_0 rfl 0 rfl ?_
  refine zi_callVI (As := []) (rest := []) (ci := 12) dX12_canBe_1 ml_X12_403 md_X12_canBeNow mv_X12_canBeNow rfl (by decide) rfl rfl (Nat.le_of_ble_eq_true rfl) (Nat.le_of_ble_eq_true rfl) (k_X12_canBeNow G n a0 h) (fun r1 h2 => ?_)
  exact zi_retI dX12_canBe_4
set_option maxRecDepth 20000 in
set_option maxHeartbeats 1000000 in
theorem wb_X12_mostAlike_76 (G : zG) (n : Nat) (k5 : Nat → Int32 → Int32 → Int32 → Int32 → zH → Option (Int32 × zH)) (hk5 : ∀ (l0 : Nat) (l1 : Int32) (l2 : Int32) (l3 : Int32) (l4 : Int32) (h : zH), zW G yX12_mostAlike cX12_mostAlike 7 (some .int) zvI 4 5 [(0, .ref (zbase G + l0)), (1, .int l1), (2, .int l2), (3, .int l3), (4, .int l4)] [] h (k5 l0 l1 l2 l3 l4 h)) (l0 : Nat) (l1 : Int32) (l2 : Int32) (l3 : Int32) (l4 : Int32) (l5 : Int32) (h : zH) : zW G yX12_mostAlike cX12_mostAlike 7 (some .int) zvI 4 76 [(0, .ref (zbase G + l0)), (1, .int l1), (2, .int l2), (3, .int l3), (4, .int l4), (5, .int l5)] [] h (fb_X12_mostAlike_76 n k5 l0 l1 l2 l3 l4 l5 h) := by
  unfold fb_X12_mostAlike_76
  refine zi_iload_n dX12_mostAlike_76 rfl 3 rfl ?_
  refine zi_iload dX12_mostAlike_77 5 rfl ?_
  refine zi_callSI (As := [.int l3, .int l5]) (rest := []) dX12_mostAlike_79 ml_X12_406 md_X12_greater ms_X12_greater rfl rfl (Nat.le_of_ble_eq_true rfl) (Nat.le_of_ble_eq_true rfl) (k_X12_greater G n l3 l5 h) (fun r1 h2 => ?_)
  refine zi_istore_n (l' := [(3, .int r1), (0, .ref (zbase G + l0)), (1, .int l1), (2, .int l2), (4, .int l4), (5, .int l5)]) dX12_mostAlike_82 rfl (by decide) rfl ?_
  refine zi_iinc (j := 4) (v := l4 + 1) (l' := [(4, .int (l4 + 1)), (3, .int r1), (0, .ref (zbase G + l0)), (1, .int l1), (2, .int l2), (5, .int l5)]) dX12_mostAlike_83 rfl rfl (by decide) rfl ?_
  refine zi_goto (tgt := 5) dX12_mostAlike_86 (by decide) ?_
  refine zi_sub [2, 3, 4, 1, 0] rfl ?_
  exact hk5 l0 l1 l2 r1 (l4 + 1) h2
set_option maxRecDepth 20000 in
set_option maxHeartbeats 1000000 in
theorem wb_X12_mostAlike_67 (G : zG) (n : Nat) (k5 : Nat → Int32 → Int32 → Int32 → Int32 → zH → Option (Int32 × zH)) (k18 : Nat → Int32 → Int32 → Int32 → Int32 → Int32 → Int32 → zH → Option (Int32 × zH)) (hk5 : ∀ (l0 : Nat) (l1 : Int32) (l2 : Int32) (l3 : Int32) (l4 : Int32) (h : zH), zW G yX12_mostAlike cX12_mostAlike 7 (some .int) zvI 4 5 [(0, .ref (zbase G + l0)), (1, .int l1), (2, .int l2), (3, .int l3), (4, .int l4)] [] h (k5 l0 l1 l2 l3 l4 h)) (hk18 : ∀ (l0 : Nat) (l1 : Int32) (l2 : Int32) (l3 : Int32) (l4 : Int32) (l5 : Int32) (l6 : Int32) (h : zH), zW G yX12_mostAlike cX12_mostAlike 7 (some .int) zvI 4 18 [(0, .ref (zbase G + l0)), (1, .int l1), (2, .int l2), (3, .int l3), (4, .int l4), (5, .int l5), (6, .int l6)] [] h (k18 l0 l1 l2 l3 l4 l5 l6 h)) (l0 : Nat) (l1 : Int32) (l2 : Int32) (l3 : Int32) (l4 : Int32) (l6 : Int32) (s0 : Int32) (s1 : Int32) (h : zH) : zW G yX12_mostAlike cX12_mostAlike 7 (some .int) zvI 4 67 [(0, .ref (zbase G + l0)), (1, .int l1), (2, .int l2), (3, .int l3), (4, .int l4), (6, .int l6)] [.int s1, .int s0] h (fb_X12_mostAlike_67 n k5 k18 l0 l1 l2 l3 l4 l6 s0 s1 h) := by
  unfold fb_X12_mostAlike_67
  refine zi_iadd dX12_mostAlike_67 ?_
  refine zi_let (sf := fun x1 => .int x1 :: []) (fun x1 => ?_)
  refine zi_istore (l' := [(5, .int x1), (0, .ref (zbase G + l0)), (1, .int l1), (2, .int l2), (3, .int l3), (4, .int l4), (6, .int l6)]) dX12_mostAlike_68 (by decide) rfl ?_
  refine zi_iinc (j := 6) (v := l6 + 1) (l' := [(6, .int (l6 + 1)), (5, .int x1), (0, .ref (zbase G + l0)), (1, .int l1), (2, .int l2), (3, .int l3), (4, .int l4)]) dX12_mostAlike_70 rfl rfl (by decide) rfl ?_
  refine zi_goto (tgt := 18) dX12_mostAlike_73 (by decide) ?_
  refine zi_sub [2, 3, 4, 5, 6, 1, 0] rfl ?_
  exact hk18 l0 l1 l2 l3 l4 x1 (l6 + 1) h
set_option maxRecDepth 20000 in
set_option maxHeartbeats 1000000 in
theorem wb_X12_mostAlike_66 (G : zG) (n : Nat) (k5 : Nat → Int32 → Int32 → Int32 → Int32 → zH → Option (Int32 × zH)) (k18 : Nat → Int32 → Int32 → Int32 → Int32 → Int32 → Int32 → zH → Option (Int32 × zH)) (hk5 : ∀ (l0 : Nat) (l1 : Int32) (l2 : Int32) (l3 : Int32) (l4 : Int32) (h : zH), zW G yX12_mostAlike cX12_mostAlike 7 (some .int) zvI 4 5 [(0, .ref (zbase G + l0)), (1, .int l1), (2, .int l2), (3, .int l3), (4, .int l4)] [] h (k5 l0 l1 l2 l3 l4 h)) (hk18 : ∀ (l0 : Nat) (l1 : Int32) (l2 : Int32) (l3 : Int32) (l4 : Int32) (l5 : Int32) (l6 : Int32) (h : zH), zW G yX12_mostAlike cX12_mostAlike 7 (some .int) zvI 4 18 [(0, .ref (zbase G + l0)), (1, .int l1), (2, .int l2), (3, .int l3), (4, .int l4), (5, .int l5), (6, .int l6)] [] h (k18 l0 l1 l2 l3 l4 l5 l6 h)) (l0 : Nat) (l1 : Int32) (l2 : Int32) (l3 : Int32) (l4 : Int32) (l6 : Int32) (s0 : Int32) (h : zH) : zW G yX12_mostAlike cX12_mostAlike 7 (some .int) zvI 4 66 [(0, .ref (zbase G + l0)), (1, .int l1), (2, .int l2), (3, .int l3), (4, .int l4), (6, .int l6)] [.int s0] h (fb_X12_mostAlike_66 n k5 k18 l0 l1 l2 l3 l4 l6 s0 h) := by
  unfold fb_X12_mostAlike_66
  refine zi_iconst (v := 0) dX12_mostAlike_66 (by decide) ?_
  refine zi_sub [0, 1, 2, 3, 4, 5] rfl ?_
  exact wb_X12_mostAlike_67 G n k5 k18 hk5 hk18 l0 l1 l2 l3 l4 l6 s0 0 h
set_option maxRecDepth 20000 in
set_option maxHeartbeats 1000000 in
theorem wb_X12_mostAlike_18 (G : zG) (n : Nat) (k5 : Nat → Int32 → Int32 → Int32 → Int32 → zH → Option (Int32 × zH)) (k18 : Nat → Int32 → Int32 → Int32 → Int32 → Int32 → Int32 → zH → Option (Int32 × zH)) (hk5 : ∀ (l0 : Nat) (l1 : Int32) (l2 : Int32) (l3 : Int32) (l4 : Int32) (h : zH), zW G yX12_mostAlike cX12_mostAlike 7 (some .int) zvI 4 5 [(0, .ref (zbase G + l0)), (1, .int l1), (2, .int l2), (3, .int l3), (4, .int l4)] [] h (k5 l0 l1 l2 l3 l4 h)) (hk18 : ∀ (l0 : Nat) (l1 : Int32) (l2 : Int32) (l3 : Int32) (l4 : Int32) (l5 : Int32) (l6 : Int32) (h : zH), zW G yX12_mostAlike cX12_mostAlike 7 (some .int) zvI 4 18 [(0, .ref (zbase G + l0)), (1, .int l1), (2, .int l2), (3, .int l3), (4, .int l4), (5, .int l5), (6, .int l6)] [] h (k18 l0 l1 l2 l3 l4 l5 l6 h)) (l0 : Nat) (l1 : Int32) (l2 : Int32) (l3 : Int32) (l4 : Int32) (l5 : Int32) (l6 : Int32) (h : zH) : zW G yX12_mostAlike cX12_mostAlike 7 (some .int) zvI 4 18 [(0, .ref (zbase G + l0)), (1, .int l1), (2, .int l2), (3, .int l3), (4, .int l4), (5, .int l5), (6, .int l6)] [] h (fb_X12_mostAlike_18 n k5 k18 l0 l1 l2 l3 l4 l5 l6 h) := by
  unfold fb_X12_mostAlike_18
  refine zi_iload dX12_mostAlike_18 6 rfl ?_
  refine zi_bipush (v := 8) dX12_mostAlike_20 (by decide) ?_
  refine zi_icmp_ge (tgt := 76) dX12_mostAlike_22 (by decide) ?_ ?_
  · refine zi_sub [0, 1, 2, 3, 4, 5] rfl ?_
    exact wb_X12_mostAlike_76 G n k5 hk5 l0 l1 l2 l3 l4 l5 h
  · refine zi_iload dX12_mostAlike_25 5 rfl ?_
    refine zi_iload_n dX12_mostAlike_27 rfl 1 rfl ?_
    refine zi_iload dX12_mostAlike_28 4 rfl ?_
    refine zi_callSI (As := [.int l1, .int l4]) (rest := [.int l5]) dX12_mostAlike_30 ml_X12_98 md_X12_isIn ms_X12_isIn rfl rfl (Nat.le_of_ble_eq_true rfl) (Nat.le_of_ble_eq_true rfl) (k_X12_isIn G n l1 l4 h) (fun r1 h2 => ?_)
    refine zi_if_eq (tgt := 66) dX12_mostAlike_33 (by decide) ?_ ?_
    · refine zi_sub [0, 1, 2, 3, 4, 6] rfl ?_
      exact wb_X12_mostAlike_66 G n k5 k18 hk5 hk18 l0 l1 l2 l3 l4 l6 l5 h2
    · refine zi_iload_n dX12_mostAlike_36 rfl 1 rfl ?_
      refine zi_iload dX12_mostAlike_37 6 rfl ?_
      refine zi_callSI (As := [.int l1, .int l6]) (rest := [.int l5]) dX12_mostAlike_39 ml_X12_98 md_X12_isIn ms_X12_isIn rfl rfl (Nat.le_of_ble_eq_true rfl) (Nat.le_of_ble_eq_true rfl) (k_X12_isIn G n l1 l6 h2) (fun r3 h4 => ?_)
      refine zi_if_eq (tgt := 66) dX12_mostAlike_42 (by decide) ?_ ?_
      · refine zi_sub [0, 1, 2, 3, 4, 6] rfl ?_
        exact wb_X12_mostAlike_66 G n k5 k18 hk5 hk18 l0 l1 l2 l3 l4 l6 l5 h4
      · refine zi_aload_n dX12_mostAlike_45 rfl 0 rfl ?_
        refine zi_iload dX12_mostAlike_46 4 rfl ?_
        refine zi_iload_n dX12_mostAlike_48 rfl 2 rfl ?_
        refine zi_callVI (As := [.int l4, .int l2]) (rest := [.int l5]) (ci := 12) dX12_mostAlike_49 ml_X12_400 md_X12_factOf mv_X12_factOf rfl (by decide) rfl rfl (Nat.le_of_ble_eq_true rfl) (Nat.le_of_ble_eq_true rfl) (k_X12_factOf G n l0 l4 l2 h4) (fun r5 h6 => ?_)
        refine zi_aload_n dX12_mostAlike_52 rfl 0 rfl ?_
        refine zi_iload dX12_mostAlike_53 6 rfl ?_
        refine zi_iload_n dX12_mostAlike_55 rfl 2 rfl ?_
        refine zi_callVI (As := [.int l6, .int l2]) (rest := [.int r5, .int l5]) (ci := 12) dX12_mostAlike_56 ml_X12_400 md_X12_factOf mv_X12_factOf rfl (by decide) rfl rfl (Nat.le_of_ble_eq_true rfl) (Nat.le_of_ble_eq_true rfl) (k_X12_factOf G n l0 l6 l2 h6) (fun r7 h8 => ?_)
        refine zi_icmp_ne (tgt := 66) dX12_mostAlike_59 (by decide) ?_ ?_
        · refine zi_sub [0, 1, 2, 3, 4, 6] rfl ?_
          exact wb_X12_mostAlike_66 G n k5 k18 hk5 hk18 l0 l1 l2 l3 l4 l6 l5 h8
        · refine zi_iconst (v := 1) dX12_mostAlike_62 (by decide) ?_
          refine zi_goto (tgt := 67) dX12_mostAlike_63 (by decide) ?_
          refine zi_sub [0, 1, 2, 3, 4, 6] rfl ?_
          exact wb_X12_mostAlike_67 G n k5 k18 hk5 hk18 l0 l1 l2 l3 l4 l6 l5 1 h8
theorem wl_X12_mostAlike_18 (G : zG) (n : Nat) (k5 : Nat → Int32 → Int32 → Int32 → Int32 → zH → Option (Int32 × zH)) (hk5 : ∀ (l0 : Nat) (l1 : Int32) (l2 : Int32) (l3 : Int32) (l4 : Int32) (h : zH), zW G yX12_mostAlike cX12_mostAlike 7 (some .int) zvI 4 5 [(0, .ref (zbase G + l0)), (1, .int l1), (2, .int l2), (3, .int l3), (4, .int l4)] [] h (k5 l0 l1 l2 l3 l4 h)) : ∀ (t : Nat) (l0 : Nat) (l1 : Int32) (l2 : Int32) (l3 : Int32) (l4 : Int32) (l5 : Int32) (l6 : Int32) (h : zH), zW G yX12_mostAlike cX12_mostAlike 7 (some .int) zvI 4 18 [(0, .ref (zbase G + l0)), (1, .int l1), (2, .int l2), (3, .int l3), (4, .int l4), (5, .int l5), (6, .int l6)] [] h (zlp7 (fb_X12_mostAlike_18 n k5 ) t l0 l1 l2 l3 l4 l5 l6 h) := by
  intro t
  induction t with
  | zero => intros; exact zW_none
  | succ t ih => intro l0 l1 l2 l3 l4 l5 l6 h; rw [zlp7_s]; exact wb_X12_mostAlike_18 G n k5  _ hk5  ih l0 l1 l2 l3 l4 l5 l6 h
set_option maxRecDepth 20000 in
set_option maxHeartbeats 1000000 in
theorem wb_X12_mostAlike_5 (G : zG) (n : Nat) (k5 : Nat → Int32 → Int32 → Int32 → Int32 → zH → Option (Int32 × zH)) (hk5 : ∀ (l0 : Nat) (l1 : Int32) (l2 : Int32) (l3 : Int32) (l4 : Int32) (h : zH), zW G yX12_mostAlike cX12_mostAlike 7 (some .int) zvI 4 5 [(0, .ref (zbase G + l0)), (1, .int l1), (2, .int l2), (3, .int l3), (4, .int l4)] [] h (k5 l0 l1 l2 l3 l4 h)) (l0 : Nat) (l1 : Int32) (l2 : Int32) (l3 : Int32) (l4 : Int32) (h : zH) : zW G yX12_mostAlike cX12_mostAlike 7 (some .int) zvI 4 5 [(0, .ref (zbase G + l0)), (1, .int l1), (2, .int l2), (3, .int l3), (4, .int l4)] [] h (fb_X12_mostAlike_5 n k5 l0 l1 l2 l3 l4 h) := by
  unfold fb_X12_mostAlike_5
  refine zi_iload dX12_mostAlike_5 4 rfl ?_
  refine zi_bipush (v := 8) dX12_mostAlike_7 (by decide) ?_
  refine zi_icmp_ge (tgt := 89) dX12_mostAlike_9 (by decide) ?_ ?_
  · refine zi_iload_n dX12_mostAlike_89 rfl 3 rfl ?_
    exact zi_retI dX12_mostAlike_90
  · refine zi_iconst (v := 0) dX12_mostAlike_12 (by decide) ?_
    refine zi_istore (l' := [(5, .int 0), (0, .ref (zbase G + l0)), (1, .int l1), (2, .int l2), (3, .int l3), (4, .int l4)]) dX12_mostAlike_13 (by decide) rfl ?_
    refine zi_iconst (v := 0) dX12_mostAlike_15 (by decide) ?_
    refine zi_istore (l' := [(6, .int 0), (5, .int 0), (0, .ref (zbase G + l0)), (1, .int l1), (2, .int l2), (3, .int l3), (4, .int l4)]) dX12_mostAlike_16 (by decide) rfl ?_
    refine zi_sub [2, 3, 4, 5, 6, 1, 0] rfl ?_
    exact wl_X12_mostAlike_18 G n k5 hk5 n l0 l1 l2 l3 l4 0 0 h
theorem wl_X12_mostAlike_5 (G : zG) (n : Nat) : ∀ (t : Nat) (l0 : Nat) (l1 : Int32) (l2 : Int32) (l3 : Int32) (l4 : Int32) (h : zH), zW G yX12_mostAlike cX12_mostAlike 7 (some .int) zvI 4 5 [(0, .ref (zbase G + l0)), (1, .int l1), (2, .int l2), (3, .int l3), (4, .int l4)] [] h (zlp5 (fb_X12_mostAlike_5 n ) t l0 l1 l2 l3 l4 h) := by
  intro t
  induction t with
  | zero => intros; exact zW_none
  | succ t ih => intro l0 l1 l2 l3 l4 h; rw [zlp5_s]; exact wb_X12_mostAlike_5 G n  _  ih l0 l1 l2 l3 l4 h
set_option maxRecDepth 20000 in
set_option maxHeartbeats 1000000 in
theorem k_X12_mostAlike (G : zG) (n : Nat) (a0 : Nat) (a1 : Int32) (a2 : Int32) (h : zH) : zMet G yX12_mostAlike cX12_mostAlike 7 (some .int) zvI 4 [.ref (zbase G + a0), .int a1, .int a2] h (f_X12_mostAlike n a0 a1 a2 h) := by
  refine zMet_of (l := [(0, .ref (zbase G + a0)), (1, .int a1), (2, .int a2)]) (by decide) (Nat.le_of_ble_eq_true rfl) rfl ?_
  unfold f_X12_mostAlike
  refine zi_iconst (v := 0) dX12_mostAlike_0 (by decide) ?_
  refine zi_istore_n (l' := [(3, .int 0), (0, .ref (zbase G + a0)), (1, .int a1), (2, .int a2)]) dX12_mostAlike_1 rfl (by decide) rfl ?_
  refine zi_iconst (v := 0) dX12_mostAlike_2 (by decide) ?_
  refine zi_istore (l' := [(4, .int 0), (3, .int 0), (0, .ref (zbase G + a0)), (1, .int a1), (2, .int a2)]) dX12_mostAlike_3 (by decide) rfl ?_
  refine zi_sub [2, 3, 4, 1, 0] rfl ?_
  exact wl_X12_mostAlike_5 G n n a0 a1 a2 0 0 h
set_option maxRecDepth 20000 in
set_option maxHeartbeats 1000000 in
theorem wb_X12_ask_67 (G : zG) (n : Nat) (l1 : Int32) (l3 : Int32) (l4 : Int32) (h : zH) : zW G yX12_ask cX12_ask 7 (some .int) zvI 5 67 [(1, .int l1), (3, .int l3), (4, .int l4)] [] h (fb_X12_ask_67 n l1 l3 l4 h) := by
  unfold fb_X12_ask_67
  refine zi_iload_n dX12_ask_67 rfl 1 rfl ?_
  refine zi_iconst (v := (-1)) dX12_ask_68 (by decide) ?_
  refine zi_icmp_eq (tgt := 76) dX12_ask_69 (by decide) ?_ ?_
  · refine zi_iload_n dX12_ask_76 rfl 1 rfl ?_
    refine zi_goto (tgt := 82) dX12_ask_77 (by decide) ?_
    exact zi_retI dX12_ask_82
  · refine zi_iload_n dX12_ask_72 rfl 0 rfl ?_
    refine zi_if_ne (tgt := 80) dX12_ask_73 (by decide) ?_ ?_
    · refine zi_iload dX12_ask_80 2 rfl ?_
      exact zi_retI dX12_ask_82
    · refine zi_iload_n dX12_ask_76 rfl 1 rfl ?_
      refine zi_goto (tgt := 82) dX12_ask_77 (by decide) ?_
      exact zi_retI dX12_ask_82
set_option maxRecDepth 20000 in
set_option maxHeartbeats 1000000 in
theorem wb_X12_ask_61 (G : zG) (n : Nat) (k25 : Nat → Int32 → Int32 → Int32 → Int32 → Int32 → zH → Option (Int32 × zH)) (hk25 : ∀ (l0 : Nat) (l1 : Int32) (l2 : Int32) (l3 : Int32) (l4 : Int32) (l5 : Int32) (h : zH), zW G yX12_ask cX12_ask 7 (some .int) zvI 5 25 [(0, .ref (zbase G + l0)), (1, .int l1), (2, .int l2), (3, .int l3), (4, .int l4), (5, .int l5)] [] h (k25 l0 l1 l2 l3 l4 l5 h)) (l0 : Nat) (l1 : Int32) (l2 : Int32) (l3 : Int32) (l4 : Int32) (l5 : Int32) (h : zH) : zW G yX12_ask cX12_ask 7 (some .int) zvI 5 61 [(0, .ref (zbase G + l0)), (1, .int l1), (2, .int l2), (3, .int l3), (4, .int l4), (5, .int l5)] [] h (fb_X12_ask_61 n k25 l0 l1 l2 l3 l4 l5 h) := by
  unfold fb_X12_ask_61
  refine zi_iinc (j := 5) (v := l5 + 1) (l' := [(5, .int (l5 + 1)), (0, .ref (zbase G + l0)), (1, .int l1), (2, .int l2), (3, .int l3), (4, .int l4)]) dX12_ask_61 rfl rfl (by decide) rfl ?_
  refine zi_goto (tgt := 25) dX12_ask_64 (by decide) ?_
  refine zi_sub [1, 2, 3, 4, 5, 0] rfl ?_
  exact hk25 l0 l1 l2 l3 l4 (l5 + 1) h
set_option maxRecDepth 20000 in
set_option maxHeartbeats 1000000 in
theorem wb_X12_ask_25 (G : zG) (n : Nat) (k25 : Nat → Int32 → Int32 → Int32 → Int32 → Int32 → zH → Option (Int32 × zH)) (hk25 : ∀ (l0 : Nat) (l1 : Int32) (l2 : Int32) (l3 : Int32) (l4 : Int32) (l5 : Int32) (h : zH), zW G yX12_ask cX12_ask 7 (some .int) zvI 5 25 [(0, .ref (zbase G + l0)), (1, .int l1), (2, .int l2), (3, .int l3), (4, .int l4), (5, .int l5)] [] h (k25 l0 l1 l2 l3 l4 l5 h)) (l0 : Nat) (l1 : Int32) (l2 : Int32) (l3 : Int32) (l4 : Int32) (l5 : Int32) (h : zH) : zW G yX12_ask cX12_ask 7 (some .int) zvI 5 25 [(0, .ref (zbase G + l0)), (1, .int l1), (2, .int l2), (3, .int l3), (4, .int l4), (5, .int l5)] [] h (fb_X12_ask_25 n k25 l0 l1 l2 l3 l4 l5 h) := by
  unfold fb_X12_ask_25
  refine zi_iload dX12_ask_25 5 rfl ?_
  refine zi_iconst (v := 3) dX12_ask_27 (by decide) ?_
  refine zi_icmp_ge (tgt := 67) dX12_ask_28 (by decide) ?_ ?_
  · refine zi_sub [1, 3, 4] rfl ?_
    exact wb_X12_ask_67 G n l1 l3 l4 h
  · refine zi_iload_n dX12_ask_31 rfl 2 rfl ?_
    refine zi_if_eq (tgt := 67) dX12_ask_32 (by decide) ?_ ?_
    · refine zi_sub [1, 3, 4] rfl ?_
      exact wb_X12_ask_67 G n l1 l3 l4 h
    · refine zi_aload_n dX12_ask_35 rfl 0 rfl ?_
      refine zi_iload_n dX12_ask_36 rfl 2 rfl ?_
      refine zi_iload dX12_ask_37 5 rfl ?_
      refine zi_callVI (As := [.int l2, .int l5]) (rest := []) (ci := 12) dX12_ask_39 ml_X12_409 md_X12_mostAlike mv_X12_mostAlike rfl (by decide) rfl rfl (Nat.le_of_ble_eq_true rfl) (Nat.le_of_ble_eq_true rfl) (k_X12_mostAlike G n l0 l2 l5 h) (fun r1 h2 => ?_)
      refine zi_istore (l' := [(6, .int r1), (0, .ref (zbase G + l0)), (1, .int l1), (2, .int l2), (3, .int l3), (4, .int l4), (5, .int l5)]) dX12_ask_42 (by decide) rfl ?_
      refine zi_iload dX12_ask_44 0 rfl ?_
      refine zi_iload dX12_ask_46 5 rfl ?_
      refine zi_icmp_lt (tgt := 54) dX12_ask_48 (by decide) ?_ ?_
      · refine zi_iload dX12_ask_54 0 rfl ?_
        refine zi_istore (l' := [(4, .int r1), (6, .int r1), (0, .ref (zbase G + l0)), (1, .int l1), (2, .int l2), (3, .int l3), (5, .int l5)]) dX12_ask_56 (by decide) rfl ?_
        refine zi_iload dX12_ask_58 6 rfl ?_
        refine zi_istore_n (l' := [(3, .int l5), (4, .int r1), (6, .int r1), (0, .ref (zbase G + l0)), (1, .int l1), (2, .int l2), (5, .int l5)]) dX12_ask_60 rfl (by decide) rfl ?_
        refine zi_sub [3, 4, 5, 0, 1, 6] rfl ?_
        exact wb_X12_ask_61 G n k25 hk25 l0 l1 l2 l5 r1 l5 h2
      · refine zi_goto (tgt := 61) dX12_ask_51 (by decide) ?_
        refine zi_sub [1, 2, 3, 4, 5, 6] rfl ?_
        exact wb_X12_ask_61 G n k25 hk25 l0 l1 l2 l3 l4 l5 h2
theorem wl_X12_ask_25 (G : zG) (n : Nat) : ∀ (t : Nat) (l0 : Nat) (l1 : Int32) (l2 : Int32) (l3 : Int32) (l4 : Int32) (l5 : Int32) (h : zH), zW G yX12_ask cX12_ask 7 (some .int) zvI 5 25 [(0, .ref (zbase G + l0)), (1, .int l1), (2, .int l2), (3, .int l3), (4, .int l4), (5, .int l5)] [] h (zlp6 (fb_X12_ask_25 n ) t l0 l1 l2 l3 l4 l5 h) := by
  intro t
  induction t with
  | zero => intros; exact zW_none
  | succ t ih => intro l0 l1 l2 l3 l4 l5 h; rw [zlp6_s]; exact wb_X12_ask_25 G n  _  ih l0 l1 l2 l3 l4 l5 h
set_option maxRecDepth 20000 in
set_option maxHeartbeats 1000000 in
theorem k_X12_ask (G : zG) (n : Nat) (a0 : Nat) (a1 : Int32) (h : zH) : zMet G yX12_ask cX12_ask 7 (some .int) zvI 5 [.ref (zbase G + a0), .int a1] h (f_X12_ask n a0 a1 h) := by
  refine zMet_of (l := [(0, .ref (zbase G + a0)), (1, .int a1)]) (by decide) (Nat.le_of_ble_eq_true rfl) rfl ?_
  unfold f_X12_ask
  refine zi_iload_n dX12_ask_0 rfl 1 rfl ?_
  refine zi_iconst (v := 0) dX12_ask_1 (by decide) ?_
  refine zi_iconst (v := 1) dX12_ask_2 (by decide) ?_
  refine zi_callSI (As := [.int a1, .int 0, .int 1]) (rest := []) dX12_ask_3 ml_X12_18 md_X12_lies ms_X12_lies rfl rfl (Nat.le_of_ble_eq_true rfl) (Nat.le_of_ble_eq_true rfl) (k_X12_lies G n a1 0 1 h) (fun r1 h2 => ?_)
  refine zi_if_ne (tgt := 11) dX12_ask_6 (by decide) ?_ ?_
  · refine zi_aload_n dX12_ask_11 rfl 0 rfl ?_
    refine zi_callVI (As := []) (rest := []) (ci := 12) dX12_ask_12 ml_X12_403 md_X12_canBeNow mv_X12_canBeNow rfl (by decide) rfl rfl (Nat.le_of_ble_eq_true rfl) (Nat.le_of_ble_eq_true rfl) (k_X12_canBeNow G n a0 h2) (fun r3 h4 => ?_)
    refine zi_istore_n (l' := [(2, .int r3), (0, .ref (zbase G + a0)), (1, .int a1)]) dX12_ask_15 rfl (by decide) rfl ?_
    refine zi_iconst (v := (-1)) dX12_ask_16 (by decide) ?_
    refine zi_istore_n (l' := [(3, .int (-1)), (2, .int r3), (0, .ref (zbase G + a0)), (1, .int a1)]) dX12_ask_17 rfl (by decide) rfl ?_
    refine zi_ldc dX12_ask_18 kc_X12_155 ?_
    refine zi_istore (l' := [(4, .int 1000000), (3, .int (-1)), (2, .int r3), (0, .ref (zbase G + a0)), (1, .int a1)]) dX12_ask_20 (by decide) rfl ?_
    refine zi_iconst (v := 0) dX12_ask_22 (by decide) ?_
    refine zi_istore (l' := [(5, .int 0), (4, .int 1000000), (3, .int (-1)), (2, .int r3), (0, .ref (zbase G + a0)), (1, .int a1)]) dX12_ask_23 (by decide) rfl ?_
    refine zi_sub [4, 5, 3, 2, 1, 0] rfl ?_
    exact wl_X12_ask_25 G n n a0 a1 r3 (-1) 1000000 0 h4
  · refine zi_iconst (v := (-1)) dX12_ask_9 (by decide) ?_
    exact zi_retI dX12_ask_10
set_option maxRecDepth 20000 in
set_option maxHeartbeats 1000000 in
theorem wb_X12_few_153 (G : zG) (n : Nat) (k153 : Nat → Int32 → Int64 → Int32 → zH → Option (Int64 × zH)) (hk153 : ∀ (l0 : Nat) (l1 : Int32) (l3 : Int64) (l5 : Int32) (h : zH), zW G yX12_few cX12_few 6 (some .long) zvL 2 153 [(0, .ref (zbase G + l0)), (1, .int l1), (3, .long l3), (5, .int l5)] [] h (k153 l0 l1 l3 l5 h)) (l0 : Nat) (l1 : Int32) (l3 : Int64) (l5 : Int32) (h : zH) : zW G yX12_few cX12_few 6 (some .long) zvL 2 153 [(0, .ref (zbase G + l0)), (1, .int l1), (3, .long l3), (5, .int l5)] [] h (fb_X12_few_153 n k153 l0 l1 l3 l5 h) := by
  unfold fb_X12_few_153
  refine zi_iload dX12_few_153 3 rfl ?_
  refine zi_iload_n dX12_few_155 rfl 1 rfl ?_
  refine zi_icmp_ge (tgt := 175) dX12_few_156 (by decide) ?_ ?_
  · refine zi_lload_n dX12_few_175 rfl 2 rfl ?_
    exact zi_retL dX12_few_176
  · refine zi_lload_n dX12_few_159 rfl 2 rfl ?_
    refine zi_aload_n dX12_few_160 rfl 0 rfl ?_
    refine zi_getR dX12_few_161 gf_X12_72 (fun v1 => ?_)
    refine zi_iload dX12_few_164 3 rfl ?_
    refine zi_lald dX12_few_166 (fun v2 => ?_)
    refine zi_ladd dX12_few_167 ?_
    refine zi_let (sf := fun x3 => .long x3 :: []) (fun x3 => ?_)
    refine zi_lstore_n (l' := [(3, .long x3), (0, .ref (zbase G + l0)), (1, .int l1), (5, .int l5)]) dX12_few_168 rfl (by decide) rfl ?_
    refine zi_iinc (j := 3) (v := l5 + 1) (l' := [(5, .int (l5 + 1)), (3, .long x3), (0, .ref (zbase G + l0)), (1, .int l1)]) dX12_few_169 rfl rfl (by decide) rfl ?_
    refine zi_goto (tgt := 153) dX12_few_172 (by decide) ?_
    refine zi_sub [2, 3, 1, 0] rfl ?_
    exact hk153 l0 l1 x3 (l5 + 1) h
theorem wl_X12_few_153 (G : zG) (n : Nat) : ∀ (t : Nat) (l0 : Nat) (l1 : Int32) (l3 : Int64) (l5 : Int32) (h : zH), zW G yX12_few cX12_few 6 (some .long) zvL 2 153 [(0, .ref (zbase G + l0)), (1, .int l1), (3, .long l3), (5, .int l5)] [] h (zlp4 (fb_X12_few_153 n ) t l0 l1 l3 l5 h) := by
  intro t
  induction t with
  | zero => intros; exact zW_none
  | succ t ih => intro l0 l1 l3 l5 h; rw [zlp4_s]; exact wb_X12_few_153 G n  _  ih l0 l1 l3 l5 h
set_option maxRecDepth 20000 in
set_option maxHeartbeats 1000000 in
theorem wb_X12_few_148 (G : zG) (n : Nat) (l0 : Nat) (l1 : Int32) (h : zH) : zW G yX12_few cX12_few 6 (some .long) zvL 2 148 [(0, .ref (zbase G + l0)), (1, .int l1)] [] h (fb_X12_few_148 n l0 l1 h) := by
  unfold fb_X12_few_148
  refine zi_lconst (v := 0) dX12_few_148 (by decide) ?_
  refine zi_lstore_n (l' := [(3, .long 0), (0, .ref (zbase G + l0)), (1, .int l1)]) dX12_few_149 rfl (by decide) rfl ?_
  refine zi_iconst (v := 0) dX12_few_150 (by decide) ?_
  refine zi_istore (l' := [(5, .int 0), (3, .long 0), (0, .ref (zbase G + l0)), (1, .int l1)]) dX12_few_151 (by decide) rfl ?_
  refine zi_sub [2, 3, 1, 0] rfl ?_
  exact wl_X12_few_153 G n n l0 l1 0 0 h
set_option maxRecDepth 20000 in
set_option maxHeartbeats 1000000 in
theorem wb_X12_few_142 (G : zG) (n : Nat) (k57 : Nat → Int32 → Int32 → Int32 → zH → Option (Int64 × zH)) (hk57 : ∀ (l0 : Nat) (l1 : Int32) (l2 : Int32) (l3 : Int32) (h : zH), zW G yX12_few cX12_few 6 (some .long) zvL 2 57 [(0, .ref (zbase G + l0)), (1, .int l1), (2, .int l2), (3, .int l3)] [] h (k57 l0 l1 l2 l3 h)) (l0 : Nat) (l1 : Int32) (l2 : Int32) (l3 : Int32) (h : zH) : zW G yX12_few cX12_few 6 (some .long) zvL 2 142 [(0, .ref (zbase G + l0)), (1, .int l1), (2, .int l2), (3, .int l3)] [] h (fb_X12_few_142 n k57 l0 l1 l2 l3 h) := by
  unfold fb_X12_few_142
  refine zi_iinc (j := 3) (v := l3 + 1) (l' := [(3, .int (l3 + 1)), (0, .ref (zbase G + l0)), (1, .int l1), (2, .int l2)]) dX12_few_142 rfl rfl (by decide) rfl ?_
  refine zi_goto (tgt := 57) dX12_few_145 (by decide) ?_
  refine zi_sub [1, 2, 3, 0] rfl ?_
  exact hk57 l0 l1 l2 (l3 + 1) h
set_option maxRecDepth 20000 in
set_option maxHeartbeats 1000000 in
theorem wb_X12_few_67 (G : zG) (n : Nat) (k57 : Nat → Int32 → Int32 → Int32 → zH → Option (Int64 × zH)) (k67 : Nat → Int32 → Int32 → Int32 → Int32 → zH → Option (Int64 × zH)) (hk57 : ∀ (l0 : Nat) (l1 : Int32) (l2 : Int32) (l3 : Int32) (h : zH), zW G yX12_few cX12_few 6 (some .long) zvL 2 57 [(0, .ref (zbase G + l0)), (1, .int l1), (2, .int l2), (3, .int l3)] [] h (k57 l0 l1 l2 l3 h)) (hk67 : ∀ (l0 : Nat) (l1 : Int32) (l2 : Int32) (l3 : Int32) (l4 : Int32) (h : zH), zW G yX12_few cX12_few 6 (some .long) zvL 2 67 [(0, .ref (zbase G + l0)), (1, .int l1), (2, .int l2), (3, .int l3), (4, .int l4)] [] h (k67 l0 l1 l2 l3 l4 h)) (l0 : Nat) (l1 : Int32) (l2 : Int32) (l3 : Int32) (l4 : Int32) (h : zH) : zW G yX12_few cX12_few 6 (some .long) zvL 2 67 [(0, .ref (zbase G + l0)), (1, .int l1), (2, .int l2), (3, .int l3), (4, .int l4)] [] h (fb_X12_few_67 n k57 k67 l0 l1 l2 l3 l4 h) := by
  unfold fb_X12_few_67
  refine zi_iload dX12_few_67 4 rfl ?_
  refine zi_if_lt (tgt := 142) dX12_few_69 (by decide) ?_ ?_
  · refine zi_sub [0, 1, 2, 3] rfl ?_
    exact wb_X12_few_142 G n k57 hk57 l0 l1 l2 l3 h
  · refine zi_aload_n dX12_few_72 rfl 0 rfl ?_
    refine zi_getR dX12_few_73 gf_X12_72 (fun v1 => ?_)
    refine zi_iload dX12_few_76 4 rfl ?_
    refine zi_iconst (v := 1) dX12_few_78 (by decide) ?_
    refine zi_iadd dX12_few_79 ?_
    refine zi_dup2 dX12_few_80 rfl rfl ?_
    refine zi_lald dX12_few_81 (fun v2 => ?_)
    refine zi_aload_n dX12_few_82 rfl 0 rfl ?_
    refine zi_getR dX12_few_83 gf_X12_72 (fun v3 => ?_)
    refine zi_iload dX12_few_86 4 rfl ?_
    refine zi_lald dX12_few_88 (fun v4 => ?_)
    refine zi_aload_n dX12_few_89 rfl 0 rfl ?_
    refine zi_getR dX12_few_90 gf_X12_28 (fun v5 => ?_)
    refine zi_sipush (v := 203) dX12_few_93 (by decide) ?_
    refine zi_iald dX12_few_96 (fun v6 => ?_)
    refine zi_i2l dX12_few_97 ?_
    refine zi_lmul dX12_few_98 ?_
    refine zi_ldc2 dX12_few_99 kl_X12_416 ?_
    refine zi_ldiv dX12_few_102 (by decide) ?_
    refine zi_ladd dX12_few_103 ?_
    refine zi_last dX12_few_104 (fun h7 => ?_)
    refine zi_aload_n dX12_few_105 rfl 0 rfl ?_
    refine zi_getR dX12_few_106 gf_X12_72 (fun v8 => ?_)
    refine zi_iload dX12_few_109 4 rfl ?_
    refine zi_aload_n dX12_few_111 rfl 0 rfl ?_
    refine zi_getR dX12_few_112 gf_X12_72 (fun v9 => ?_)
    refine zi_iload dX12_few_115 4 rfl ?_
    refine zi_lald dX12_few_117 (fun v10 => ?_)
    refine zi_bipush (v := 10) dX12_few_118 (by decide) ?_
    refine zi_aload_n dX12_few_120 rfl 0 rfl ?_
    refine zi_getR dX12_few_121 gf_X12_28 (fun v11 => ?_)
    refine zi_sipush (v := 203) dX12_few_124 (by decide) ?_
    refine zi_iald dX12_few_127 (fun v12 => ?_)
    refine zi_isub dX12_few_128 ?_
    refine zi_i2l dX12_few_129 ?_
    refine zi_lmul dX12_few_130 ?_
    refine zi_ldc2 dX12_few_131 kl_X12_416 ?_
    refine zi_ldiv dX12_few_134 (by decide) ?_
    refine zi_last dX12_few_135 (fun h13 => ?_)
    refine zi_iinc (j := 4) (v := l4 + (-1)) (l' := [(4, .int (l4 + (-1))), (0, .ref (zbase G + l0)), (1, .int l1), (2, .int l2), (3, .int l3)]) dX12_few_136 rfl rfl (by decide) rfl ?_
    refine zi_goto (tgt := 67) dX12_few_139 (by decide) ?_
    refine zi_sub [1, 2, 3, 4, 0] rfl ?_
    exact hk67 l0 l1 l2 l3 (l4 + (-1)) h13
theorem wl_X12_few_67 (G : zG) (n : Nat) (k57 : Nat → Int32 → Int32 → Int32 → zH → Option (Int64 × zH)) (hk57 : ∀ (l0 : Nat) (l1 : Int32) (l2 : Int32) (l3 : Int32) (h : zH), zW G yX12_few cX12_few 6 (some .long) zvL 2 57 [(0, .ref (zbase G + l0)), (1, .int l1), (2, .int l2), (3, .int l3)] [] h (k57 l0 l1 l2 l3 h)) : ∀ (t : Nat) (l0 : Nat) (l1 : Int32) (l2 : Int32) (l3 : Int32) (l4 : Int32) (h : zH), zW G yX12_few cX12_few 6 (some .long) zvL 2 67 [(0, .ref (zbase G + l0)), (1, .int l1), (2, .int l2), (3, .int l3), (4, .int l4)] [] h (zlp5 (fb_X12_few_67 n k57 ) t l0 l1 l2 l3 l4 h) := by
  intro t
  induction t with
  | zero => intros; exact zW_none
  | succ t ih => intro l0 l1 l2 l3 l4 h; rw [zlp5_s]; exact wb_X12_few_67 G n k57  _ hk57  ih l0 l1 l2 l3 l4 h
set_option maxRecDepth 20000 in
set_option maxHeartbeats 1000000 in
theorem wb_X12_few_57 (G : zG) (n : Nat) (k57 : Nat → Int32 → Int32 → Int32 → zH → Option (Int64 × zH)) (hk57 : ∀ (l0 : Nat) (l1 : Int32) (l2 : Int32) (l3 : Int32) (h : zH), zW G yX12_few cX12_few 6 (some .long) zvL 2 57 [(0, .ref (zbase G + l0)), (1, .int l1), (2, .int l2), (3, .int l3)] [] h (k57 l0 l1 l2 l3 h)) (l0 : Nat) (l1 : Int32) (l2 : Int32) (l3 : Int32) (h : zH) : zW G yX12_few cX12_few 6 (some .long) zvL 2 57 [(0, .ref (zbase G + l0)), (1, .int l1), (2, .int l2), (3, .int l3)] [] h (fb_X12_few_57 n k57 l0 l1 l2 l3 h) := by
  unfold fb_X12_few_57
  refine zi_iload_n dX12_few_57 rfl 3 rfl ?_
  refine zi_iload_n dX12_few_58 rfl 2 rfl ?_
  refine zi_icmp_ge (tgt := 148) dX12_few_59 (by decide) ?_ ?_
  · refine zi_sub [0, 1] rfl ?_
    exact wb_X12_few_148 G n l0 l1 h
  · refine zi_iload_n dX12_few_62 rfl 1 rfl ?_
    refine zi_iconst (v := 1) dX12_few_63 (by decide) ?_
    refine zi_isub dX12_few_64 ?_
    refine zi_let (sf := fun x1 => .int x1 :: []) (fun x1 => ?_)
    refine zi_istore (l' := [(4, .int x1), (0, .ref (zbase G + l0)), (1, .int l1), (2, .int l2), (3, .int l3)]) dX12_few_65 (by decide) rfl ?_
    refine zi_sub [1, 2, 3, 4, 0] rfl ?_
    exact wl_X12_few_67 G n k57 hk57 n l0 l1 l2 l3 x1 h
theorem wl_X12_few_57 (G : zG) (n : Nat) : ∀ (t : Nat) (l0 : Nat) (l1 : Int32) (l2 : Int32) (l3 : Int32) (h : zH), zW G yX12_few cX12_few 6 (some .long) zvL 2 57 [(0, .ref (zbase G + l0)), (1, .int l1), (2, .int l2), (3, .int l3)] [] h (zlp4 (fb_X12_few_57 n ) t l0 l1 l2 l3 h) := by
  intro t
  induction t with
  | zero => intros; exact zW_none
  | succ t ih => intro l0 l1 l2 l3 h; rw [zlp4_s]; exact wb_X12_few_57 G n  _  ih l0 l1 l2 l3 h
set_option maxRecDepth 20000 in
set_option maxHeartbeats 1000000 in
theorem wb_X12_few_55 (G : zG) (n : Nat) (l0 : Nat) (l1 : Int32) (l2 : Int32) (h : zH) : zW G yX12_few cX12_few 6 (some .long) zvL 2 55 [(0, .ref (zbase G + l0)), (1, .int l1), (2, .int l2)] [] h (fb_X12_few_55 n l0 l1 l2 h) := by
  unfold fb_X12_few_55
  refine zi_iconst (v := 0) dX12_few_55 (by decide) ?_
  refine zi_istore_n (l' := [(3, .int 0), (0, .ref (zbase G + l0)), (1, .int l1), (2, .int l2)]) dX12_few_56 rfl (by decide) rfl ?_
  refine zi_sub [1, 2, 3, 0] rfl ?_
  exact wl_X12_few_57 G n n l0 l1 l2 0 h
set_option maxRecDepth 20000 in
set_option maxHeartbeats 1000000 in
theorem wb_X12_few_48 (G : zG) (n : Nat) (k26 : Nat → Int32 → Int32 → Int32 → zH → Option (Int64 × zH)) (hk26 : ∀ (l0 : Nat) (l1 : Int32) (l2 : Int32) (l3 : Int32) (h : zH), zW G yX12_few cX12_few 6 (some .long) zvL 2 26 [(0, .ref (zbase G + l0)), (1, .int l1), (2, .int l2), (3, .int l3)] [] h (k26 l0 l1 l2 l3 h)) (l0 : Nat) (l1 : Int32) (l2 : Int32) (l3 : Int32) (s0 : Nat) (s1 : Int32) (s2 : Int64) (h : zH) : zW G yX12_few cX12_few 6 (some .long) zvL 2 48 [(0, .ref (zbase G + l0)), (1, .int l1), (2, .int l2), (3, .int l3)] [.long s2, .int s1, .ref (zbase G + s0)] h (fb_X12_few_48 n k26 l0 l1 l2 l3 s0 s1 s2 h) := by
  unfold fb_X12_few_48
  refine zi_last dX12_few_48 (fun h1 => ?_)
  refine zi_iinc (j := 3) (v := l3 + 1) (l' := [(3, .int (l3 + 1)), (0, .ref (zbase G + l0)), (1, .int l1), (2, .int l2)]) dX12_few_49 rfl rfl (by decide) rfl ?_
  refine zi_goto (tgt := 26) dX12_few_52 (by decide) ?_
  refine zi_sub [1, 2, 3, 0] rfl ?_
  exact hk26 l0 l1 l2 (l3 + 1) h1
set_option maxRecDepth 20000 in
set_option maxHeartbeats 1000000 in
theorem wb_X12_few_26 (G : zG) (n : Nat) (k26 : Nat → Int32 → Int32 → Int32 → zH → Option (Int64 × zH)) (hk26 : ∀ (l0 : Nat) (l1 : Int32) (l2 : Int32) (l3 : Int32) (h : zH), zW G yX12_few cX12_few 6 (some .long) zvL 2 26 [(0, .ref (zbase G + l0)), (1, .int l1), (2, .int l2), (3, .int l3)] [] h (k26 l0 l1 l2 l3 h)) (l0 : Nat) (l1 : Int32) (l2 : Int32) (l3 : Int32) (h : zH) : zW G yX12_few cX12_few 6 (some .long) zvL 2 26 [(0, .ref (zbase G + l0)), (1, .int l1), (2, .int l2), (3, .int l3)] [] h (fb_X12_few_26 n k26 l0 l1 l2 l3 h) := by
  unfold fb_X12_few_26
  refine zi_iload_n dX12_few_26 rfl 3 rfl ?_
  refine zi_bipush (v := 20) dX12_few_27 (by decide) ?_
  refine zi_icmp_gt (tgt := 55) dX12_few_29 (by decide) ?_ ?_
  · refine zi_sub [0, 1, 2] rfl ?_
    exact wb_X12_few_55 G n l0 l1 l2 h
  · refine zi_aload_n dX12_few_32 rfl 0 rfl ?_
    refine zi_getR dX12_few_33 gf_X12_72 (fun v1 => ?_)
    refine zi_iload_n dX12_few_36 rfl 3 rfl ?_
    refine zi_iload_n dX12_few_37 rfl 3 rfl ?_
    refine zi_if_ne (tgt := 47) dX12_few_38 (by decide) ?_ ?_
    · refine zi_lconst (v := 0) dX12_few_47 (by decide) ?_
      refine zi_sub [0, 1, 2, 3] rfl ?_
      exact wb_X12_few_48 G n k26 hk26 l0 l1 l2 l3 v1 l3 0 h
    · refine zi_ldc2 dX12_few_41 kl_X12_414 ?_
      refine zi_goto (tgt := 48) dX12_few_44 (by decide) ?_
      refine zi_sub [0, 1, 2, 3] rfl ?_
      exact wb_X12_few_48 G n k26 hk26 l0 l1 l2 l3 v1 l3 1000000000000 h
theorem wl_X12_few_26 (G : zG) (n : Nat) : ∀ (t : Nat) (l0 : Nat) (l1 : Int32) (l2 : Int32) (l3 : Int32) (h : zH), zW G yX12_few cX12_few 6 (some .long) zvL 2 26 [(0, .ref (zbase G + l0)), (1, .int l1), (2, .int l2), (3, .int l3)] [] h (zlp4 (fb_X12_few_26 n ) t l0 l1 l2 l3 h) := by
  intro t
  induction t with
  | zero => intros; exact zW_none
  | succ t ih => intro l0 l1 l2 l3 h; rw [zlp4_s]; exact wb_X12_few_26 G n  _  ih l0 l1 l2 l3 h
set_option maxRecDepth 20000 in
set_option maxHeartbeats 1000000 in
theorem k_X12_few (G : zG) (n : Nat) (a0 : Nat) (a1 : Int32) (a2 : Int32) (h : zH) : zMet G yX12_few cX12_few 6 (some .long) zvL 2 [.ref (zbase G + a0), .int a1, .int a2] h (f_X12_few n a0 a1 a2 h) := by
  refine zMet_of (l := [(0, .ref (zbase G + a0)), (1, .int a1), (2, .int a2)]) (by decide) (Nat.le_of_ble_eq_true rfl) rfl ?_
  unfold f_X12_few
  refine zi_iload_n dX12_few_0 rfl 1 rfl ?_
  refine zi_iconst (v := 1) dX12_few_1 (by decide) ?_
  refine zi_bipush (v := 20) dX12_few_2 (by decide) ?_
  refine zi_callSI (As := [.int a1, .int 1, .int 20]) (rest := []) dX12_few_4 ml_X12_18 md_X12_lies ms_X12_lies rfl rfl (Nat.le_of_ble_eq_true rfl) (Nat.le_of_ble_eq_true rfl) (k_X12_lies G n a1 1 20 h) (fun r1 h2 => ?_)
  refine zi_if_eq (tgt := 20) dX12_few_7 (by decide) ?_ ?_
  · refine zi_ldc2 dX12_few_20 kl_X12_412 ?_
    exact zi_retL dX12_few_23
  · refine zi_iload_n dX12_few_10 rfl 2 rfl ?_
    refine zi_iconst (v := 0) dX12_few_11 (by decide) ?_
    refine zi_bipush (v := 99) dX12_few_12 (by decide) ?_
    refine zi_callSI (As := [.int a2, .int 0, .int 99]) (rest := []) dX12_few_14 ml_X12_18 md_X12_lies ms_X12_lies rfl rfl (Nat.le_of_ble_eq_true rfl) (Nat.le_of_ble_eq_true rfl) (k_X12_lies G n a2 0 99 h2) (fun r3 h4 => ?_)
    refine zi_if_ne (tgt := 24) dX12_few_17 (by decide) ?_ ?_
    · refine zi_iconst (v := 0) dX12_few_24 (by decide) ?_
      refine zi_istore_n (l' := [(3, .int 0), (0, .ref (zbase G + a0)), (1, .int a1), (2, .int a2)]) dX12_few_25 rfl (by decide) rfl ?_
      refine zi_sub [1, 2, 3, 0] rfl ?_
      exact wl_X12_few_26 G n n a0 a1 a2 0 h4
    · refine zi_ldc2 dX12_few_20 kl_X12_412 ?_
      exact zi_retL dX12_few_23
set_option maxRecDepth 20000 in
set_option maxHeartbeats 1000000 in
theorem k_X12_compare (G : zG) (n : Nat) (a0 : Nat) (a1 : Int32) (a2 : Int32) (a3 : Int32) (h : zH) : zMet G yX12_compare cX12_compare 6 (some .int) zvI 90 [.ref (zbase G + a0), .int a1, .int a2, .int a3] h (f_X12_compare n a0 a1 a2 a3 h) := by
  refine zMet_of (l := [(0, .ref (zbase G + a0)), (1, .int a1), (2, .int a2), (3, .int a3)]) (by decide) (Nat.le_of_ble_eq_true rfl) rfl ?_
  unfold f_X12_compare
  refine zi_aload_n dX12_compare_0 rfl 0 rfl ?_
  refine zi_iload_n dX12_compare_1 rfl 1 rfl ?_
  refine zi_callVI (As := [.int a1]) (rest := []) (ci := 12) dX12_compare_2 ml_X12_242 md_X12_isLaw mv_X12_isLaw rfl (by decide) rfl rfl (Nat.le_of_ble_eq_true rfl) (Nat.le_of_ble_eq_true rfl) (k_X12_isLaw G n a0 a1 h) (fun r1 h2 => ?_)
  refine zi_if_eq (tgt := 27) dX12_compare_5 (by decide) ?_ ?_
  · refine zi_iconst (v := (-1)) dX12_compare_27 (by decide) ?_
    exact zi_retI dX12_compare_28
  · refine zi_iload_n dX12_compare_8 rfl 2 rfl ?_
    refine zi_iconst (v := 1) dX12_compare_9 (by decide) ?_
    refine zi_bipush (v := 7) dX12_compare_10 (by decide) ?_
    refine zi_callSI (As := [.int a2, .int 1, .int 7]) (rest := []) dX12_compare_12 ml_X12_18 md_X12_lies ms_X12_lies rfl rfl (Nat.le_of_ble_eq_true rfl) (Nat.le_of_ble_eq_true rfl) (k_X12_lies G n a2 1 7 h2) (fun r3 h4 => ?_)
    refine zi_if_eq (tgt := 27) dX12_compare_15 (by decide) ?_ ?_
    · refine zi_iconst (v := (-1)) dX12_compare_27 (by decide) ?_
      exact zi_retI dX12_compare_28
    · refine zi_iload_n dX12_compare_18 rfl 3 rfl ?_
      refine zi_iconst (v := 0) dX12_compare_19 (by decide) ?_
      refine zi_iconst (v := 1) dX12_compare_20 (by decide) ?_
      refine zi_callSI (As := [.int a3, .int 0, .int 1]) (rest := []) dX12_compare_21 ml_X12_18 md_X12_lies ms_X12_lies rfl rfl (Nat.le_of_ble_eq_true rfl) (Nat.le_of_ble_eq_true rfl) (k_X12_lies G n a3 0 1 h4) (fun r5 h6 => ?_)
      refine zi_if_ne (tgt := 29) dX12_compare_24 (by decide) ?_ ?_
      · refine zi_aload_n dX12_compare_29 rfl 0 rfl ?_
        refine zi_getR dX12_compare_30 gf_X12_28 (fun v7 => ?_)
        refine zi_sipush (v := 207) dX12_compare_33 (by decide) ?_
        refine zi_iald dX12_compare_36 (fun v8 => ?_)
        refine zi_istore (l' := [(4, .int v8), (0, .ref (zbase G + a0)), (1, .int a1), (2, .int a2), (3, .int a3)]) dX12_compare_37 (by decide) rfl ?_
        refine zi_aload_n dX12_compare_39 rfl 1 rfl ?_
        refine zi_getR dX12_compare_40 gf_X12_28 (fun v9 => ?_)
        refine zi_sipush (v := 207) dX12_compare_43 (by decide) ?_
        refine zi_iload_n dX12_compare_46 rfl 2 rfl ?_
        refine zi_iast dX12_compare_47 (fun h10 => ?_)
        refine zi_aload_n dX12_compare_48 rfl 1 rfl ?_
        refine zi_iload_n dX12_compare_49 rfl 3 rfl ?_
        refine zi_iload_n dX12_compare_50 rfl 4 rfl ?_
        refine zi_callVI (As := [.int a2, .int a3]) (rest := []) (ci := 12) dX12_compare_51 ml_X12_339 md_X12_costsAt mv_X12_costsAt rfl (by decide) rfl rfl (Nat.le_of_ble_eq_true rfl) (Nat.le_of_ble_eq_true rfl) (k_X12_costsAt G n a0 a2 a3 h10) (fun r11 h12 => ?_)
        refine zi_istore (l' := [(5, .int r11), (4, .int v8), (0, .ref (zbase G + a0)), (1, .int a1), (2, .int a2), (3, .int a3)]) dX12_compare_54 (by decide) rfl ?_
        refine zi_aload_n dX12_compare_56 rfl 2 rfl ?_
        refine zi_getR dX12_compare_57 gf_X12_28 (fun v13 => ?_)
        refine zi_sipush (v := 207) dX12_compare_60 (by decide) ?_
        refine zi_iload dX12_compare_63 1 rfl ?_
        refine zi_iast dX12_compare_65 (fun h14 => ?_)
        refine zi_iload dX12_compare_66 0 rfl ?_
        exact zi_retI dX12_compare_68
      · refine zi_iconst (v := (-1)) dX12_compare_27 (by decide) ?_
        exact zi_retI dX12_compare_28
set_option maxRecDepth 20000 in
set_option maxHeartbeats 1000000 in
theorem k_X12_stopped (G : zG) (n : Nat) (a0 : Nat) (h : zH) : zMet G yX12_stopped cX12_stopped 1 (some .int) zvI 1 [.ref (zbase G + a0)] h (f_X12_stopped n a0 h) := by
  refine zMet_of (l := [(0, .ref (zbase G + a0))]) (by decide) (Nat.le_of_ble_eq_true rfl) rfl ?_
  unfold f_X12_stopped
  refine zi_aload_n dX12_stopped_0 rfl 0 rfl ?_
  refine zi_getI dX12_stopped_1 gf_X12_76 (fun v1 => ?_)
  exact zi_retI dX12_stopped_4
