/-! String constants: length, charAt; the length of a row of longs -/
theorem zs_ok : ∀ i, i < 29 → (zsby.getD i []).length = zsln.getD i 0 ∧ ∀ b ∈ zsby.getD i [], ((b &&& 255).toUInt32 % 65536).toInt32 = b ∧ narrow .char (.int b) = .int b := by decide +kernel
theorem zs_shr : ∀ i, i < 29 → Int32.ofNat (zsln.getD i 0) >>> ((0 : Int32) &&& 31) = Int32.ofNat (zsln.getD i 0) := by decide +kernel
theorem zs_pos : ∀ i, i < 29 → zsln.getD i 0 < 100 := by decide +kernel
theorem md_J0_coder_7d493 : zMd yJ0_coder_7d493 cJ0_coder_7d493 1 (some .byte) 0 := ⟨zT_mem 707 (by decide +kernel) (by decide +kernel), zT_mem 130 (by decide +kernel) (by decide +kernel), ⟨(by decide +kernel), (by decide +kernel)⟩, (by decide +kernel), by decide⟩
theorem mv_J0_coder_7d493 : zMv yJ0_coder_7d493 := ⟨zT_mem 705 (by decide +kernel) (by decide +kernel), zT_mem 706 (by decide +kernel) (by decide +kernel)⟩
theorem md_J0_isLatin1_aae02 : zMd yJ0_isLatin1_aae02 cJ0_isLatin1_aae02 1 (some .boolean) 0 := ⟨zT_mem 717 (by decide +kernel) (by decide +kernel), zT_mem 130 (by decide +kernel) (by decide +kernel), ⟨(by decide +kernel), (by decide +kernel)⟩, (by decide +kernel), by decide⟩
theorem mv_J0_isLatin1_aae02 : zMv yJ0_isLatin1_aae02 := ⟨zT_mem 715 (by decide +kernel) (by decide +kernel), zT_mem 716 (by decide +kernel) (by decide +kernel)⟩
theorem md_J1_charAt_3b067 : zMd yJ1_charAt_3b067 cJ1_charAt_3b067 2 (some .char) 2 := ⟨zT_mem 720 (by decide +kernel) (by decide +kernel), zT_mem 131 (by decide +kernel) (by decide +kernel), ⟨(by decide +kernel), (by decide +kernel)⟩, (by decide +kernel), by decide⟩
theorem ms_J1_charAt_3b067 : Cond.static yJ1_charAt_3b067 ∈ zT := zT_mem 719 (by decide +kernel) (by decide +kernel)
theorem md_J0_checkIndex_df160 : zMd yJ0_checkIndex_df160 cJ0_checkIndex_df160 2 none 2 := ⟨zT_mem 723 (by decide +kernel) (by decide +kernel), zT_mem 130 (by decide +kernel) (by decide +kernel), ⟨(by decide +kernel), (by decide +kernel)⟩, (by decide +kernel), by decide⟩
theorem ms_J0_checkIndex_df160 : Cond.static yJ0_checkIndex_df160 ∈ zT := zT_mem 722 (by decide +kernel) (by decide +kernel)
theorem md_J3_checkIndex_8e157 : zMd yJ3_checkIndex_8e157 cJ3_checkIndex_8e157 3 (some .int) 3 := ⟨zT_mem 728 (by decide +kernel) (by decide +kernel), zT_mem 132 (by decide +kernel) (by decide +kernel), ⟨(by decide +kernel), (by decide +kernel)⟩, (by decide +kernel), by decide⟩
theorem ms_J3_checkIndex_8e157 : Cond.static yJ3_checkIndex_8e157 ∈ zT := zT_mem 727 (by decide +kernel) (by decide +kernel)
theorem dJ0_length_8abf5_0 : decode cJ0_length_8abf5 0 = .ok (.aload_n 0, 1) := by decide +kernel
theorem dJ0_length_8abf5_1 : decode cJ0_length_8abf5 1 = .ok (.getfield 9, 3) := by decide +kernel
theorem dJ0_length_8abf5_4 : decode cJ0_length_8abf5 4 = .ok (.arraylength, 1) := by decide +kernel
theorem dJ0_length_8abf5_5 : decode cJ0_length_8abf5 5 = .ok (.aload_n 0, 1) := by decide +kernel
theorem dJ0_length_8abf5_6 : decode cJ0_length_8abf5 6 = .ok (.invokevirtual 335, 3) := by decide +kernel
theorem dJ0_length_8abf5_9 : decode cJ0_length_8abf5 9 = .ok (.ishr, 1) := by decide +kernel
theorem dJ0_length_8abf5_10 : decode cJ0_length_8abf5 10 = .ok (.ireturn, 1) := by decide +kernel
theorem dJ0_charAt_5068e_0 : decode cJ0_charAt_5068e 0 = .ok (.aload_n 0, 1) := by decide +kernel
theorem dJ0_charAt_5068e_1 : decode cJ0_charAt_5068e 1 = .ok (.invokevirtual 492, 3) := by decide +kernel
theorem dJ0_charAt_5068e_4 : decode cJ0_charAt_5068e 4 = .ok (.ifCond .eq 12, 3) := by decide +kernel
theorem dJ0_charAt_5068e_7 : decode cJ0_charAt_5068e 7 = .ok (.aload_n 0, 1) := by decide +kernel
theorem dJ0_charAt_5068e_8 : decode cJ0_charAt_5068e 8 = .ok (.getfield 9, 3) := by decide +kernel
theorem dJ0_charAt_5068e_11 : decode cJ0_charAt_5068e 11 = .ok (.iload_n 1, 1) := by decide +kernel
theorem dJ0_charAt_5068e_12 : decode cJ0_charAt_5068e 12 = .ok (.invokestatic 495, 3) := by decide +kernel
theorem dJ0_charAt_5068e_15 : decode cJ0_charAt_5068e 15 = .ok (.ireturn, 1) := by decide +kernel
theorem dJ0_charAt_5068e_16 : decode cJ0_charAt_5068e 16 = .ok (.aload_n 0, 1) := by decide +kernel
theorem dJ0_charAt_5068e_17 : decode cJ0_charAt_5068e 17 = .ok (.getfield 9, 3) := by decide +kernel
theorem dJ0_charAt_5068e_20 : decode cJ0_charAt_5068e 20 = .ok (.iload_n 1, 1) := by decide +kernel
theorem dJ0_charAt_5068e_21 : decode cJ0_charAt_5068e 21 = .ok (.invokestatic 498, 3) := by decide +kernel
theorem dJ0_charAt_5068e_24 : decode cJ0_charAt_5068e 24 = .ok (.ireturn, 1) := by decide +kernel
theorem dJ0_coder_7d493_0 : decode cJ0_coder_7d493 0 = .ok (.getstatic 38, 3) := by decide +kernel
theorem dJ0_coder_7d493_3 : decode cJ0_coder_7d493 3 = .ok (.ifCond .eq 10, 3) := by decide +kernel
theorem dJ0_coder_7d493_6 : decode cJ0_coder_7d493 6 = .ok (.aload_n 0, 1) := by decide +kernel
theorem dJ0_coder_7d493_7 : decode cJ0_coder_7d493 7 = .ok (.getfield 15, 3) := by decide +kernel
theorem dJ0_coder_7d493_10 : decode cJ0_coder_7d493 10 = .ok (.goto 4, 3) := by decide +kernel
theorem dJ0_coder_7d493_13 : decode cJ0_coder_7d493 13 = .ok (.iconst 1, 1) := by decide +kernel
theorem dJ0_coder_7d493_14 : decode cJ0_coder_7d493 14 = .ok (.ireturn, 1) := by decide +kernel
theorem dJ0_isLatin1_aae02_0 : decode cJ0_isLatin1_aae02 0 = .ok (.getstatic 38, 3) := by decide +kernel
theorem dJ0_isLatin1_aae02_3 : decode cJ0_isLatin1_aae02 3 = .ok (.ifCond .eq 14, 3) := by decide +kernel
theorem dJ0_isLatin1_aae02_6 : decode cJ0_isLatin1_aae02 6 = .ok (.aload_n 0, 1) := by decide +kernel
theorem dJ0_isLatin1_aae02_7 : decode cJ0_isLatin1_aae02 7 = .ok (.getfield 15, 3) := by decide +kernel
theorem dJ0_isLatin1_aae02_10 : decode cJ0_isLatin1_aae02 10 = .ok (.ifCond .ne 7, 3) := by decide +kernel
theorem dJ0_isLatin1_aae02_13 : decode cJ0_isLatin1_aae02 13 = .ok (.iconst 1, 1) := by decide +kernel
theorem dJ0_isLatin1_aae02_14 : decode cJ0_isLatin1_aae02 14 = .ok (.goto 4, 3) := by decide +kernel
theorem dJ0_isLatin1_aae02_17 : decode cJ0_isLatin1_aae02 17 = .ok (.iconst 0, 1) := by decide +kernel
theorem dJ0_isLatin1_aae02_18 : decode cJ0_isLatin1_aae02 18 = .ok (.ireturn, 1) := by decide +kernel
theorem dJ0_checkIndex_df160_0 : decode cJ0_checkIndex_df160 0 = .ok (.iload_n 0, 1) := by decide +kernel
theorem dJ0_checkIndex_df160_1 : decode cJ0_checkIndex_df160 1 = .ok (.iload_n 1, 1) := by decide +kernel
theorem dJ0_checkIndex_df160_2 : decode cJ0_checkIndex_df160 2 = .ok (.getstatic 1053, 3) := by decide +kernel
theorem dJ0_checkIndex_df160_5 : decode cJ0_checkIndex_df160 5 = .ok (.invokestatic 1059, 3) := by decide +kernel
theorem dJ0_checkIndex_df160_8 : decode cJ0_checkIndex_df160 8 = .ok (.pop, 1) := by decide +kernel
theorem dJ0_checkIndex_df160_9 : decode cJ0_checkIndex_df160 9 = .ok (.return_, 1) := by decide +kernel
theorem dJ1_charAt_3b067_0 : decode cJ1_charAt_3b067 0 = .ok (.iload_n 1, 1) := by decide +kernel
theorem dJ1_charAt_3b067_1 : decode cJ1_charAt_3b067 1 = .ok (.aload_n 0, 1) := by decide +kernel
theorem dJ1_charAt_3b067_2 : decode cJ1_charAt_3b067 2 = .ok (.arraylength, 1) := by decide +kernel
theorem dJ1_charAt_3b067_3 : decode cJ1_charAt_3b067 3 = .ok (.invokestatic 9, 3) := by decide +kernel
theorem dJ1_charAt_3b067_6 : decode cJ1_charAt_3b067 6 = .ok (.aload_n 0, 1) := by decide +kernel
theorem dJ1_charAt_3b067_7 : decode cJ1_charAt_3b067 7 = .ok (.iload_n 1, 1) := by decide +kernel
theorem dJ1_charAt_3b067_8 : decode cJ1_charAt_3b067 8 = .ok (.baload, 1) := by decide +kernel
theorem dJ1_charAt_3b067_9 : decode cJ1_charAt_3b067 9 = .ok (.sipush 255, 3) := by decide +kernel
theorem dJ1_charAt_3b067_12 : decode cJ1_charAt_3b067 12 = .ok (.iand, 1) := by decide +kernel
theorem dJ1_charAt_3b067_13 : decode cJ1_charAt_3b067 13 = .ok (.i2c, 1) := by decide +kernel
theorem dJ1_charAt_3b067_14 : decode cJ1_charAt_3b067 14 = .ok (.ireturn, 1) := by decide +kernel
theorem dJ3_checkIndex_8e157_0 : decode cJ3_checkIndex_8e157 0 = .ok (.iload_n 0, 1) := by decide +kernel
theorem dJ3_checkIndex_8e157_1 : decode cJ3_checkIndex_8e157 1 = .ok (.ifCond .lt 8, 3) := by decide +kernel
theorem dJ3_checkIndex_8e157_4 : decode cJ3_checkIndex_8e157 4 = .ok (.iload_n 0, 1) := by decide +kernel
theorem dJ3_checkIndex_8e157_5 : decode cJ3_checkIndex_8e157 5 = .ok (.iload_n 1, 1) := by decide +kernel
theorem dJ3_checkIndex_8e157_6 : decode cJ3_checkIndex_8e157 6 = .ok (.if_icmp .lt 10, 3) := by decide +kernel
theorem dJ3_checkIndex_8e157_9 : decode cJ3_checkIndex_8e157 9 = .ok (.aload_n 2, 1) := by decide +kernel
theorem dJ3_checkIndex_8e157_10 : decode cJ3_checkIndex_8e157 10 = .ok (.iload_n 0, 1) := by decide +kernel
theorem dJ3_checkIndex_8e157_11 : decode cJ3_checkIndex_8e157 11 = .ok (.iload_n 1, 1) := by decide +kernel
theorem dJ3_checkIndex_8e157_12 : decode cJ3_checkIndex_8e157 12 = .ok (.invokestatic 95, 3) := by decide +kernel
theorem dJ3_checkIndex_8e157_15 : decode cJ3_checkIndex_8e157 15 = .ok (.athrow, 1) := by decide +kernel
theorem dJ3_checkIndex_8e157_16 : decode cJ3_checkIndex_8e157 16 = .ok (.iload_n 0, 1) := by decide +kernel
theorem dJ3_checkIndex_8e157_17 : decode cJ3_checkIndex_8e157 17 = .ok (.ireturn, 1) := by decide +kernel
theorem sl_9 : Cond.fieldLink "java/lang/String" 9 "java/lang/String" "value" "[B" ∈ zT := zT_mem 1925 (by decide +kernel) (by decide +kernel)
theorem sl_15 : Cond.fieldLink "java/lang/String" 15 "java/lang/String" "coder" "B" ∈ zT := zT_mem 1926 (by decide +kernel) (by decide +kernel)
theorem sl_38 : Cond.fieldLink "java/lang/String" 38 "java/lang/String" "COMPACT_STRINGS" "Z" ∈ zT := zT_mem 708 (by decide +kernel) (by decide +kernel)
theorem sl_1053 : Cond.fieldLink "java/lang/String" 1053 "jdk/internal/util/Preconditions" "SIOOBE_FORMATTER" "Ljava/util/function/BiFunction;" ∈ zT := zT_mem 724 (by decide +kernel) (by decide +kernel)
theorem ml_J0_335 : Cond.methodLink RJ0 335 yJ0_coder_7d493 ∈ zT := zT_mem 704 (by decide +kernel) (by decide +kernel)
theorem ml_J0_492 : Cond.methodLink RJ0 492 yJ0_isLatin1_aae02 ∈ zT := zT_mem 714 (by decide +kernel) (by decide +kernel)
theorem ml_J0_495 : Cond.methodLink RJ0 495 yJ1_charAt_3b067 ∈ zT := zT_mem 718 (by decide +kernel) (by decide +kernel)
theorem ml_J0_1059 : Cond.methodLink RJ0 1059 yJ3_checkIndex_8e157 ∈ zT := zT_mem 726 (by decide +kernel) (by decide +kernel)
theorem ml_J1_9 : Cond.methodLink RJ1 9 yJ0_checkIndex_df160 ∈ zT := zT_mem 721 (by decide +kernel) (by decide +kernel)
section
variable {G : zG} {y : MethodName} {cc : ByteArray} {nL : Nat} {rt : Option FieldType} {α : Type} {ev : α → Option Value} {d pc : Nat} {l : List (Nat × Value)} {st : List Value} {h : zH} {X : Option (α × zH)}
theorem zi_alenJ {a : Nat} {K : Int32 → Option (α × zH)} (hd : decode cc pc = .ok (.arraylength, 1)) (kk : ∀ v : Int32, zW G y cc nL rt ev d (pc + 1) l (.int v :: st) h (K v)) : zW G y cc nL rt ev d pc l (.ref (zbase G + a) :: st) h (zln' h 22 a K) :=
  zread (st' := fun v => .int v :: st) (fun _ _ _ _ _ _ _ _ _ _ _ _ _ _ _ hC hH _ hl hs kk => by
    have hP := hH.one (a := a) (by rw [hs]; decide)
    rw [zce_lng hs] at hP
    exact va_alen hC.1 hC.2.1 hC.2.2.2.2.2.2.2.2.2.1.1 hP 0 1 rfl rfl rfl hd (kk hl)) kk
theorem zi_i2c {x : Int32} (hd : decode cc pc = .ok (.i2c, 1)) (k : zW G y cc nL rt ev d (pc + 1) l (.int ((x.toUInt32 % 65536).toInt32) :: st) h X) : zW G y cc nL rt ev d pc l (.int x :: st) h X := zlift (fun _ _ _ _ _ _ _ _ _ _ _ _ _ _ ls hC _ _ hl k => lv_i2c hC.1 hC.2.1 hd rfl (k ls hl)) k
theorem zi_ldcS {idx i : Nat} (hd : decode cc pc = .ok (.ldc idx, 2)) (hi : i < 29) (hk : zsk.getD i 0 = idx) (hy : y.cls = "GraceTree$Tokens") (k : zW G y cc nL rt ev d (pc + 2) l (.ref (G.2.2.2.2.1 i) :: st) h X) : zW G y cc nL rt ev d pc l st h X :=
  zlift (fun _ _ _ _ _ _ _ _ _ _ _ _ _ _ ls hC _ _ hl k => va_ldcS (own := "GraceTree$Tokens") (tx := zstx.getD i "") hC.1 hC.2.1 (by rw [← hy]; exact hC.2.2.2.2.2.1) (by rw [← hk]; exact hC.2.2.2.2.2.2.2.2.2.2.2.1 i hi) hd (k ls hl)) k
theorem zi_getsC (hd : decode cc pc = .ok (.getstatic 38, 3)) (hy : y.cls = "java/lang/String") (k : zW G y cc nL rt ev d (pc + 3) l (.int 1 :: st) h X) : zW G y cc nL rt ev d pc l st h X :=
  zlift (fun _ _ _ _ _ _ _ _ _ _ _ _ _ _ ls hC _ hS hl k => va_gets (own := "java/lang/String") hC.1 hC.2.1 hC.2.2.2.2.2.2.2.2.2.2.2.2.2.1 hS (by rw [← hy]; exact hC.2.2.2.2.2.1) (hC.2.2.2.2.1 _ (List.mem_cons_of_mem _ sl_38)) (fun _ q => q) hd (k ls hl)) k
theorem zi_getsQ (hd : decode cc pc = .ok (.getstatic 1053, 3)) (hy : y.cls = "java/lang/String") (k1 : zW G y cc nL rt ev d (pc + 3) l (.null :: st) h X) (k2 : ∀ t, zW G y cc nL rt ev d (pc + 3) l (.ref t :: st) h X) : zW G y cc nL rt ev d pc l st h X := by
  intro r h' hX
  obtain ⟨b1, b2, kk1⟩ := k1 r h' hX
  refine ⟨b1, b2, fun p e R s m args below meth c H locs cells slots mc ms ls hC hH hS hl hc hs h1 h2 => ?_⟩
  rcases hC.2.2.2.2.2.2.2.2.2.2.2.2.2.2.1 with hZ | ⟨t, hZ⟩
  · exact va_gets (own := "java/lang/String") hC.1 hC.2.1 hZ hS (by rw [← hy]; exact hC.2.2.2.2.2.1) (hC.2.2.2.2.1 _ (List.mem_cons_of_mem _ sl_1053)) (fun _ q => q) hd (kk1 p e R s m args below meth c H locs cells slots mc ms ls hC hH hS hl hc hs h1 h2)
  · obtain ⟨-, -, kk2⟩ := k2 t r h' hX
    exact va_gets (own := "java/lang/String") hC.1 hC.2.1 hZ hS (by rw [← hy]; exact hC.2.2.2.2.2.1) (hC.2.2.2.2.1 _ (List.mem_cons_of_mem _ sl_1053)) (fun _ q => q) hd (kk2 p e R s m args below meth c H locs cells slots mc ms ls hC hH hS hl hc hs h1 h2)
theorem zi_getSV {i : Nat} (hi : i < 29) (hd : decode cc pc = .ok (.getfield 9, 3)) (hy : y.cls = "java/lang/String") (k : zW G y cc nL rt ev d (pc + 3) l (.ref (G.2.2.2.2.2.1 i) :: st) h X) : zW G y cc nL rt ev d pc l (.ref (G.2.2.2.2.1 i) :: st) h X :=
  zlift (fun _ _ _ _ _ _ _ _ _ _ _ _ _ _ ls hC _ hS hl k => vk_getf (own := "java/lang/String") hC.1 hC.2.1 (hC.2.2.2.2.2.2.2.2.2.2.2.2.1 i hi).2.2.1 hS (by rw [← hy]; exact hC.2.2.2.2.2.1) (hC.2.2.2.2.1 _ (List.mem_cons_of_mem _ sl_9)) (fun _ q => q) hd (k ls hl)) k
theorem zi_getSC {i : Nat} (hi : i < 29) (hd : decode cc pc = .ok (.getfield 15, 3)) (hy : y.cls = "java/lang/String") (k : zW G y cc nL rt ev d (pc + 3) l (.int 0 :: st) h X) : zW G y cc nL rt ev d pc l (.ref (G.2.2.2.2.1 i) :: st) h X :=
  zlift (fun _ _ _ _ _ _ _ _ _ _ _ _ _ _ ls hC _ hS hl k => vk_getf (own := "java/lang/String") hC.1 hC.2.1 (hC.2.2.2.2.2.2.2.2.2.2.2.2.1 i hi).2.1 hS (by rw [← hy]; exact hC.2.2.2.2.2.1) (hC.2.2.2.2.1 _ (List.mem_cons_of_mem _ sl_15)) (fun _ q => q) hd (k ls hl)) k
theorem zi_lenS {i : Nat} (hi : i < 29) (hd : decode cc pc = .ok (.arraylength, 1)) (k : zW G y cc nL rt ev d (pc + 1) l (.int (Int32.ofNat (zsln.getD i 0)) :: st) h X) : zW G y cc nL rt ev d pc l (.ref (G.2.2.2.2.2.1 i) :: st) h X :=
  zlift (fun _ _ _ _ _ _ _ _ _ _ _ _ _ _ ls hC _ hS hl k => va_tlen hC.1 hC.2.1 (hC.2.2.2.2.2.2.2.2.2.2.2.2.1 i hi).2.2.2 hS rfl hd (k ls hl)) k
theorem zi_baldS {i : Nat} {x : Int32} (hi : i < 29) (hin : ¬ (x < 0 ∨ zsln.getD i 0 ≤ x.toNatClampNeg)) (hd : decode cc pc = .ok (.baload, 1)) (k : zW G y cc nL rt ev d (pc + 1) l (.int ((zsby.getD i []).getD x.toNatClampNeg 0) :: st) h X) : zW G y cc nL rt ev d pc l (.int x :: .ref (G.2.2.2.2.2.1 i) :: st) h X :=
  zlift (fun _ _ _ _ _ _ _ _ _ _ _ _ _ _ ls hC _ hS hl k => va_tb hC.1 hC.2.1 (hC.2.2.2.2.2.2.2.2.2.2.2.2.1 i hi).2.2.2 hS hin rfl hd (k ls hl)) k
/-- a call on a String constant -/
theorem zi_callT {y' : MethodName} {cc' : ByteArray} {nL' : Nat} {rt' : Option FieldType} {β : Type} {ev' : β → Option Value} {d' idx n i : Nat} {As stk rest : List Value} {Y : Option (β × zH)} {K : β → zH → Option (α × zH)} (hi : i < 29) (hd : decode cc pc = .ok (.invokevirtual idx, 3)) (hw : Cond.methodLink y.cls idx y' ∈ zT) (hm : zMd y' cc' nL' rt' n) (hv : zMv y') (hci : y'.cls = "java/lang/String") (hn : As.length = n) (hst : stk = As.reverse ++ .ref (G.2.2.2.2.1 i) :: rest) (hrest : (rest.map fun v => v.category).sum ≤ 8) (hdd : d' + 1 ≤ d) (hM : zMet G y' cc' nL' rt' ev' d' (.ref (G.2.2.2.2.1 i) :: As) h Y)
    (kk : ∀ r h1, zW G y cc nL rt ev d (pc + 3) l ((ev' r).toList ++ rest) h1 (K r h1)) : zW G y cc nL rt ev d pc l stk h (zb Y K) := by
  refine zcall hM (fun p e R s m args below meth c0 H locs cells slots mc ms ls Qc hC hH hS hl hMet g1 g2 => ?_) kk
  refine va_runV (Ts := zWs y cc nL rt) (own := y.cls) (C := y'.cls) ⟨hC.1, hC.2.1, hC.2.2.2.1, hC.2.2.2.2.2.1, hC.2.2.2.2.1⟩ hMet (cwV n hC.2.2.2.2.1 (zGoodV hw hm hv) rfl rfl rfl ⟨rfl, hm.2.2.1.1, hm.2.2.1.2, hm.2.2.2.1⟩ (zroom hdd hm.2.2.2.2 hC.2.2.2.2.2.2.2.2.1)) ⟨zPc_blind, ?_, zPc_at hC hH hS⟩ rfl hn hl.1 hst (by show 2 * 0 + _ ≤ 8; omega) hd ⟨g1, g2⟩
  rw [hci]
  obtain ⟨cell, h1, h2, h3, -⟩ := (hC.2.2.2.2.2.2.2.2.2.2.2.2.1 i hi).1.kept hS.2.1
  exact ⟨cell, h1, h2, h3⟩
theorem zi_callStr {y' : MethodName} {cc' : ByteArray} {nL' : Nat} {rt' : Option FieldType} {d' idx n i : Nat} {As stk rest : List Value} {Y : Option (Int32 × zH)} {K : Int32 → zH → Option (α × zH)} (hd : decode cc pc = .ok (.invokevirtual idx, 3)) (hw : Cond.methodLink y.cls idx y' ∈ zT) (hm : zMd y' cc' nL' rt' n) (hv : zMv y') (hci : y'.cls = "java/lang/String") (hn : As.length = n) (hst : stk = As.reverse ++ .ref (G.2.2.2.2.1 i) :: rest) (hrest : (rest.map fun v => v.category).sum ≤ 8) (hdd : d' + 1 ≤ d) (hM : (Y ≠ none → i < 29) ∧ zMet G y' cc' nL' rt' zvI d' (.ref (G.2.2.2.2.1 i) :: As) h Y)
    (kk : ∀ r h1, zW G y cc nL rt ev d (pc + 3) l (.int r :: rest) h1 (K r h1)) : zW G y cc nL rt ev d pc l stk h (zb Y K) := by
  by_cases hi : i < 29
  · exact zi_callT hi hd hw hm hv hci hn hst hrest hdd hM.2 kk
  · have : Y = none := Classical.byContradiction (fun q => hi (hM.1 q))
    rw [this]
    exact zW_none
end
section
variable {G : zG} {y : MethodName} {cc : ByteArray} {nL : Nat} {d pc : Nat} {l : List (Nat × Value)} {h : zH}
theorem zi_retB0 (hd : decode cc pc = .ok (.ireturn, 1)) : zW G y cc nL (some .byte) zvI d pc l [.int 0] h (some (0, h)) := zend rfl (fun _ _ _ _ _ _ _ _ _ _ _ _ _ _ hC hf hq => W.zret hC.1 hC.2.1 hC.2.2.1 rfl hq hf hd hC.2.2.2.2.2.2.1)
theorem zi_retC {v : Int32} (hv : narrow .char (.int v) = .int v) (hd : decode cc pc = .ok (.ireturn, 1)) : zW G y cc nL (some .char) zvI d pc l [.int v] h (some (v, h)) := zend rfl (fun _ _ _ _ _ _ _ _ _ _ _ _ _ _ hC hf hq => W.zret hC.1 hC.2.1 hC.2.2.1 hv hq hf hd hC.2.2.2.2.2.2.1)
end
theorem ks_coder (G : zG) (i : Nat) (hi : i < 29) (h : zH) : zMet G yJ0_coder_7d493 cJ0_coder_7d493 1 (some .byte) zvI 1 [.ref (G.2.2.2.2.1 i)] h (some (0, h)) := by
  refine zMet_of (l := [(0, .ref (G.2.2.2.2.1 i))]) (by decide) (Nat.le_of_ble_eq_true rfl) rfl ?_
  refine zi_getsC dJ0_coder_7d493_0 rfl ?_
  show zW _ _ _ _ _ _ _ _ _ _ _ (if (1 : Int32) = 0 then none else some (0, h))
  refine zi_if_eq (tgt := 13) dJ0_coder_7d493_3 (by decide) zW_none ?_
  refine zi_aload_n dJ0_coder_7d493_6 rfl 0 rfl ?_
  refine zi_getSC hi dJ0_coder_7d493_7 rfl ?_
  refine zi_goto (tgt := 14) dJ0_coder_7d493_10 (by decide) ?_
  exact zi_retB0 dJ0_coder_7d493_14
theorem ks_isLatin1 (G : zG) (i : Nat) (hi : i < 29) (h : zH) : zMet G yJ0_isLatin1_aae02 cJ0_isLatin1_aae02 1 (some .boolean) zvI 1 [.ref (G.2.2.2.2.1 i)] h (some (1, h)) := by
  refine zMet_of (l := [(0, .ref (G.2.2.2.2.1 i))]) (by decide) (Nat.le_of_ble_eq_true rfl) rfl ?_
  refine zi_getsC dJ0_isLatin1_aae02_0 rfl ?_
  show zW _ _ _ _ _ _ _ _ _ _ _ (if (1 : Int32) = 0 then none else if (0 : Int32) = 0 then some (1, h) else none)
  refine zi_if_eq (tgt := 17) dJ0_isLatin1_aae02_3 (by decide) zW_none ?_
  refine zi_aload_n dJ0_isLatin1_aae02_6 rfl 0 rfl ?_
  refine zi_getSC hi dJ0_isLatin1_aae02_7 rfl ?_
  refine zi_if_ne (tgt := 17) dJ0_isLatin1_aae02_10 (by decide) zW_none ?_
  refine zi_iconst (v := 1) dJ0_isLatin1_aae02_13 (by decide) ?_
  refine zi_goto (tgt := 18) dJ0_isLatin1_aae02_14 (by decide) ?_
  exact zi_ret1 dJ0_isLatin1_aae02_18
theorem zStrLen_met (G : zG) (i : Nat) (h : zH) : (zStrLen i h ≠ none → i < 29) ∧ zMet G yJ0_length_8abf5 cJ0_length_8abf5 1 (some .int) zvI 6 [.ref (G.2.2.2.2.1 i)] h (zStrLen i h) := by
  unfold zStrLen
  by_cases hi : i < 29
  · rw [if_pos hi]
    refine ⟨fun _ => hi, ?_⟩
    refine zMet_of (l := [(0, .ref (G.2.2.2.2.1 i))]) (by decide) (Nat.le_of_ble_eq_true rfl) rfl ?_
    refine zi_aload_n dJ0_length_8abf5_0 rfl 0 rfl ?_
    refine zi_getSV hi dJ0_length_8abf5_1 rfl ?_
    refine zi_lenS hi dJ0_length_8abf5_4 ?_
    refine zi_aload_n dJ0_length_8abf5_5 rfl 0 rfl ?_
    show zW _ _ _ _ _ _ _ _ _ _ _ (zb (some ((0 : Int32), h)) (fun r h1 => if r = 0 then some (Int32.ofNat (zsln.getD i 0), h1) else none))
    refine zi_callT (K := fun r h1 => if r = 0 then some (Int32.ofNat (zsln.getD i 0), h1) else none) (As := []) (rest := [.int (Int32.ofNat (zsln.getD i 0))]) hi dJ0_length_8abf5_6 ml_J0_335 md_J0_coder_7d493 mv_J0_coder_7d493 rfl rfl rfl (Nat.le_of_ble_eq_true rfl) (d' := 1) (Nat.le_of_ble_eq_true rfl) (ks_coder G i hi h) (fun r h1 => ?_)
    by_cases hr : r = 0
    · rw [if_pos hr, hr]
      refine zi_ishr dJ0_length_8abf5_9 ?_
      rw [zs_shr i hi]
      exact zi_retI dJ0_length_8abf5_10
    · rw [if_neg hr]
      exact zW_none
  · rw [if_neg hi]
    exact ⟨fun q => absurd rfl q, fun r h1 hX => by cases hX⟩
theorem ks_pre_n (G : zG) (k n : Int32) (h : zH) (hk : ¬ k < 0) (hn : k < n) : zMet G yJ3_checkIndex_8e157 cJ3_checkIndex_8e157 3 (some .int) zvI 1 [.int k, .int n, .null] h (some (k, h)) := by
  refine zMet_of (l := [(0, .int k), (1, .int n), (2, .null)]) (by decide) (Nat.le_of_ble_eq_true rfl) rfl ?_
  refine zi_iload_n dJ3_checkIndex_8e157_0 rfl 0 rfl ?_
  have e : (some (k, h) : Option (Int32 × zH)) = if k < 0 then none else if k < n then some (k, h) else none := by rw [if_neg hk, if_pos hn]
  rw [e]
  refine zi_if_lt (tgt := 9) dJ3_checkIndex_8e157_1 (by decide) zW_none ?_
  refine zi_iload_n dJ3_checkIndex_8e157_4 rfl 0 rfl ?_
  refine zi_iload_n dJ3_checkIndex_8e157_5 rfl 1 rfl ?_
  refine zi_icmp_lt (tgt := 16) dJ3_checkIndex_8e157_6 (by decide) ?_ zW_none
  refine zi_iload_n dJ3_checkIndex_8e157_16 rfl 0 rfl ?_
  exact zi_retI dJ3_checkIndex_8e157_17
theorem ks_pre_r (G : zG) (k n : Int32) (t : Nat) (h : zH) (hk : ¬ k < 0) (hn : k < n) : zMet G yJ3_checkIndex_8e157 cJ3_checkIndex_8e157 3 (some .int) zvI 1 [.int k, .int n, .ref t] h (some (k, h)) := by
  refine zMet_of (l := [(0, .int k), (1, .int n), (2, .ref t)]) (by decide) (Nat.le_of_ble_eq_true rfl) rfl ?_
  refine zi_iload_n dJ3_checkIndex_8e157_0 rfl 0 rfl ?_
  have e : (some (k, h) : Option (Int32 × zH)) = if k < 0 then none else if k < n then some (k, h) else none := by rw [if_neg hk, if_pos hn]
  rw [e]
  refine zi_if_lt (tgt := 9) dJ3_checkIndex_8e157_1 (by decide) zW_none ?_
  refine zi_iload_n dJ3_checkIndex_8e157_4 rfl 0 rfl ?_
  refine zi_iload_n dJ3_checkIndex_8e157_5 rfl 1 rfl ?_
  refine zi_icmp_lt (tgt := 16) dJ3_checkIndex_8e157_6 (by decide) ?_ zW_none
  refine zi_iload_n dJ3_checkIndex_8e157_16 rfl 0 rfl ?_
  exact zi_retI dJ3_checkIndex_8e157_17
theorem ks_check (G : zG) (k n : Int32) (h : zH) (hk : ¬ k < 0) (hn : k < n) : zMet G yJ0_checkIndex_df160 cJ0_checkIndex_df160 2 none zvU 2 [.int k, .int n] h (some ((), h)) := by
  refine zMet_of (l := [(0, .int k), (1, .int n)]) (by decide) (Nat.le_of_ble_eq_true rfl) rfl ?_
  refine zi_iload_n dJ0_checkIndex_df160_0 rfl 0 rfl ?_
  refine zi_iload_n dJ0_checkIndex_df160_1 rfl 1 rfl ?_
  refine zi_getsQ dJ0_checkIndex_df160_2 rfl ?_ (fun t => ?_)
  · show zW _ _ _ _ _ _ _ _ _ _ _ (zb (some (k, h)) (fun _ h1 => some ((), h1)))
    refine zi_callSI (As := [.int k, .int n, .null]) (rest := []) dJ0_checkIndex_df160_5 ml_J0_1059 md_J3_checkIndex_8e157 ms_J3_checkIndex_8e157 rfl rfl (Nat.le_of_ble_eq_true rfl) (d' := 1) (Nat.le_of_ble_eq_true rfl) (ks_pre_n G k n h hk hn) (fun r h1 => ?_)
    refine zi_pop dJ0_checkIndex_df160_8 rfl ?_
    exact zi_retV dJ0_checkIndex_df160_9
  · show zW _ _ _ _ _ _ _ _ _ _ _ (zb (some (k, h)) (fun _ h1 => some ((), h1)))
    refine zi_callSI (As := [.int k, .int n, .ref t]) (rest := []) dJ0_checkIndex_df160_5 ml_J0_1059 md_J3_checkIndex_8e157 ms_J3_checkIndex_8e157 rfl rfl (Nat.le_of_ble_eq_true rfl) (d' := 1) (Nat.le_of_ble_eq_true rfl) (ks_pre_r G k n t h hk hn) (fun r h1 => ?_)
    refine zi_pop dJ0_checkIndex_df160_8 rfl ?_
    exact zi_retV dJ0_checkIndex_df160_9
theorem zs_lt {i : Nat} (hi : i < 29) {k : Int32} (hk : ¬ (k < 0 ∨ zsln.getD i 0 ≤ k.toNatClampNeg)) : k < Int32.ofNat (zsln.getD i 0) := by
  have h0 : ¬ k < 0 := fun q => hk (Or.inl q)
  have h1 : k.toNatClampNeg < zsln.getD i 0 := Nat.not_le.mp (fun q => hk (Or.inr q))
  obtain ⟨j, hj, rfl⟩ := nI_of h0
  rw [nI_clamp hj] at h1
  exact nI_lt h1 (by have := zs_pos i hi; omega)
theorem zs_elem {i : Nat} (hi : i < 29) {k : Int32} (hk : ¬ (k < 0 ∨ zsln.getD i 0 ≤ k.toNatClampNeg)) : (zsby.getD i []).getD k.toNatClampNeg 0 ∈ zsby.getD i [] := by
  have h1 : k.toNatClampNeg < (zsby.getD i []).length := by rw [(zs_ok i hi).1]; exact Nat.not_le.mp (fun q => hk (Or.inr q))
  generalize zsby.getD i [] = L at h1 ⊢
  rw [List.getD_eq_getElem?_getD, List.getElem?_eq_getElem h1]
  exact List.getElem_mem h1
theorem ks_lat (G : zG) (i : Nat) (hi : i < 29) (k : Int32) (hk : ¬ (k < 0 ∨ zsln.getD i 0 ≤ k.toNatClampNeg)) (h : zH) : zMet G yJ1_charAt_3b067 cJ1_charAt_3b067 2 (some .char) zvI 3 [.ref (G.2.2.2.2.2.1 i), .int k] h (some ((zsby.getD i []).getD k.toNatClampNeg 0, h)) := by
  refine zMet_of (l := [(0, .ref (G.2.2.2.2.2.1 i)), (1, .int k)]) (by decide) (Nat.le_of_ble_eq_true rfl) rfl ?_
  refine zi_iload_n dJ1_charAt_3b067_0 rfl 1 rfl ?_
  refine zi_aload_n dJ1_charAt_3b067_1 rfl 0 rfl ?_
  refine zi_lenS hi dJ1_charAt_3b067_2 ?_
  show zW _ _ _ _ _ _ _ _ _ _ _ (zb (some ((), h)) (fun _ h1 => some ((zsby.getD i []).getD k.toNatClampNeg 0, h1)))
  refine zi_callSU (As := [.int k, .int (Int32.ofNat (zsln.getD i 0))]) (rest := []) dJ1_charAt_3b067_3 ml_J1_9 md_J0_checkIndex_df160 ms_J0_checkIndex_df160 rfl rfl (Nat.le_of_ble_eq_true rfl) (d' := 2) (Nat.le_of_ble_eq_true rfl) (ks_check G k _ h (fun q => hk (Or.inl q)) (zs_lt hi hk)) (fun r h1 => ?_)
  refine zi_aload_n dJ1_charAt_3b067_6 rfl 0 rfl ?_
  refine zi_iload_n dJ1_charAt_3b067_7 rfl 1 rfl ?_
  refine zi_baldS hi hk dJ1_charAt_3b067_8 ?_
  refine zi_sipush (v := 255) dJ1_charAt_3b067_9 (by decide) ?_
  refine zi_iand dJ1_charAt_3b067_12 ?_
  refine zi_i2c dJ1_charAt_3b067_13 ?_
  obtain ⟨e1, e2⟩ := (zs_ok i hi).2 _ (zs_elem hi hk)
  rw [e1]
  exact zi_retC e2 dJ1_charAt_3b067_14
theorem zStrAt_met (G : zG) (i : Nat) (k : Int32) (h : zH) : (zStrAt i k h ≠ none → i < 29) ∧ zMet G yJ0_charAt_5068e cJ0_charAt_5068e 2 (some .char) zvI 6 [.ref (G.2.2.2.2.1 i), .int k] h (zStrAt i k h) := by
  unfold zStrAt
  by_cases hc : i < 29 ∧ ¬ (k < 0 ∨ zsln.getD i 0 ≤ k.toNatClampNeg)
  · rw [if_pos hc]
    obtain ⟨hi, hk⟩ := hc
    refine ⟨fun _ => hi, ?_⟩
    refine zMet_of (l := [(0, .ref (G.2.2.2.2.1 i)), (1, .int k)]) (by decide) (Nat.le_of_ble_eq_true rfl) rfl ?_
    refine zi_aload_n dJ0_charAt_5068e_0 rfl 0 rfl ?_
    show zW _ _ _ _ _ _ _ _ _ _ _ (zb (some ((1 : Int32), h)) (fun r h1 => if r = 0 then none else some ((zsby.getD i []).getD k.toNatClampNeg 0, h1)))
    refine zi_callT (K := fun r h1 => if r = 0 then none else some ((zsby.getD i []).getD k.toNatClampNeg 0, h1)) (As := []) (rest := []) hi dJ0_charAt_5068e_1 ml_J0_492 md_J0_isLatin1_aae02 mv_J0_isLatin1_aae02 rfl rfl rfl (Nat.le_of_ble_eq_true rfl) (d' := 1) (Nat.le_of_ble_eq_true rfl) (ks_isLatin1 G i hi h) (fun r h1 => ?_)
    refine zi_if_eq (tgt := 16) dJ0_charAt_5068e_4 (by decide) zW_none ?_
    refine zi_aload_n dJ0_charAt_5068e_7 rfl 0 rfl ?_
    refine zi_getSV hi dJ0_charAt_5068e_8 rfl ?_
    refine zi_iload_n dJ0_charAt_5068e_11 rfl 1 rfl ?_
    have hm := ks_lat G i hi k hk h1
    obtain ⟨-, e2⟩ := (zs_ok i hi).2 _ (zs_elem hi hk)
    generalize (zsby.getD i []).getD k.toNatClampNeg 0 = b at hm e2 ⊢
    have e : (some (b, h1) : Option (Int32 × zH)) = zb (some (b, h1)) (fun r h2 => if r = b then some (r, h2) else none) := by rw [zb_some, if_pos rfl]
    rw [e]
    refine zi_callSI (K := fun r h2 => if r = b then some (r, h2) else none) (As := [.ref (G.2.2.2.2.2.1 i), .int k]) (rest := []) dJ0_charAt_5068e_12 ml_J0_495 md_J1_charAt_3b067 ms_J1_charAt_3b067 rfl rfl (Nat.le_of_ble_eq_true rfl) (d' := 3) (Nat.le_of_ble_eq_true rfl) hm (fun r h2 => ?_)
    by_cases hr : r = b
    · rw [if_pos hr, hr]
      exact zi_retC e2 dJ0_charAt_5068e_15
    · rw [if_neg hr]
      exact zW_none
  · rw [if_neg hc]
    exact ⟨fun q => absurd rfl q, fun r h1 hX => by cases hX⟩
