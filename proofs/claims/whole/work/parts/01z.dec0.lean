theorem dX0_init_0 : decode cX0_init 0 = .ok (.aload_n 0, 1) := by decide +kernel
theorem dX0_init_1 : decode cX0_init 1 = .ok (.invokespecial 3, 3) := by decide +kernel
theorem dX0_init_4 : decode cX0_init 4 = .ok (.aload_n 0, 1) := by decide +kernel
theorem dX0_init_5 : decode cX0_init 5 = .ok (.bipush 24, 2) := by decide +kernel
theorem dX0_init_7 : decode cX0_init 7 = .ok (.newarray .int, 2) := by decide +kernel
theorem dX0_init_9 : decode cX0_init 9 = .ok (.putfield 9, 3) := by decide +kernel
theorem dX0_init_12 : decode cX0_init 12 = .ok (.aload_n 0, 1) := by decide +kernel
theorem dX0_init_13 : decode cX0_init 13 = .ok (.bipush 24, 2) := by decide +kernel
theorem dX0_init_15 : decode cX0_init 15 = .ok (.newarray .int, 2) := by decide +kernel
theorem dX0_init_17 : decode cX0_init 17 = .ok (.putfield 15, 3) := by decide +kernel
theorem dX0_init_20 : decode cX0_init 20 = .ok (.aload_n 0, 1) := by decide +kernel
theorem dX0_init_21 : decode cX0_init 21 = .ok (.bipush 24, 2) := by decide +kernel
theorem dX0_init_23 : decode cX0_init 23 = .ok (.newarray .int, 2) := by decide +kernel
theorem dX0_init_25 : decode cX0_init 25 = .ok (.putfield 18, 3) := by decide +kernel
theorem dX0_init_28 : decode cX0_init 28 = .ok (.aload_n 0, 1) := by decide +kernel
theorem dX0_init_29 : decode cX0_init 29 = .ok (.bipush 24, 2) := by decide +kernel
theorem dX0_init_31 : decode cX0_init 31 = .ok (.newarray .int, 2) := by decide +kernel
theorem dX0_init_33 : decode cX0_init 33 = .ok (.putfield 21, 3) := by decide +kernel
theorem dX0_init_36 : decode cX0_init 36 = .ok (.aload_n 0, 1) := by decide +kernel
theorem dX0_init_37 : decode cX0_init 37 = .ok (.bipush 24, 2) := by decide +kernel
theorem dX0_init_39 : decode cX0_init 39 = .ok (.newarray .int, 2) := by decide +kernel
theorem dX0_init_41 : decode cX0_init 41 = .ok (.putfield 24, 3) := by decide +kernel
theorem dX0_init_44 : decode cX0_init 44 = .ok (.aload_n 0, 1) := by decide +kernel
theorem dX0_init_45 : decode cX0_init 45 = .ok (.bipush 24, 2) := by decide +kernel
theorem dX0_init_47 : decode cX0_init 47 = .ok (.newarray .int, 2) := by decide +kernel
theorem dX0_init_49 : decode cX0_init 49 = .ok (.putfield 27, 3) := by decide +kernel
theorem dX0_init_52 : decode cX0_init 52 = .ok (.aload_n 0, 1) := by decide +kernel
theorem dX0_init_53 : decode cX0_init 53 = .ok (.iconst (-1), 1) := by decide +kernel
theorem dX0_init_54 : decode cX0_init 54 = .ok (.putfield 30, 3) := by decide +kernel
theorem dX0_init_57 : decode cX0_init 57 = .ok (.aload_n 0, 1) := by decide +kernel
theorem dX0_init_58 : decode cX0_init 58 = .ok (.iconst 0, 1) := by decide +kernel
theorem dX0_init_59 : decode cX0_init 59 = .ok (.putfield 34, 3) := by decide +kernel
theorem dX0_init_62 : decode cX0_init 62 = .ok (.aload_n 0, 1) := by decide +kernel
theorem dX0_init_63 : decode cX0_init 63 = .ok (.iconst 0, 1) := by decide +kernel
theorem dX0_init_64 : decode cX0_init 64 = .ok (.putfield 37, 3) := by decide +kernel
theorem dX0_init_67 : decode cX0_init 67 = .ok (.return_, 1) := by decide +kernel
theorem dX10_init_0 : decode cX10_init 0 = .ok (.aload_n 0, 1) := by decide +kernel
theorem dX10_init_1 : decode cX10_init 1 = .ok (.invokespecial 3, 3) := by decide +kernel
theorem dX10_init_4 : decode cX10_init 4 = .ok (.aload_n 0, 1) := by decide +kernel
theorem dX10_init_5 : decode cX10_init 5 = .ok (.new 9, 3) := by decide +kernel
theorem dX10_init_8 : decode cX10_init 8 = .ok (.dup, 1) := by decide +kernel
theorem dX10_init_9 : decode cX10_init 9 = .ok (.invokespecial 11, 3) := by decide +kernel
theorem dX10_init_12 : decode cX10_init 12 = .ok (.putfield 12, 3) := by decide +kernel
theorem dX10_init_15 : decode cX10_init 15 = .ok (.aload_n 0, 1) := by decide +kernel
theorem dX10_init_16 : decode cX10_init 16 = .ok (.bipush 8, 2) := by decide +kernel
theorem dX10_init_18 : decode cX10_init 18 = .ok (.newarray .int, 2) := by decide +kernel
theorem dX10_init_20 : decode cX10_init 20 = .ok (.putfield 18, 3) := by decide +kernel
theorem dX10_init_23 : decode cX10_init 23 = .ok (.aload_n 0, 1) := by decide +kernel
theorem dX10_init_24 : decode cX10_init 24 = .ok (.bipush 8, 2) := by decide +kernel
theorem dX10_init_26 : decode cX10_init 26 = .ok (.newarray .int, 2) := by decide +kernel
theorem dX10_init_28 : decode cX10_init 28 = .ok (.putfield 22, 3) := by decide +kernel
theorem dX10_init_31 : decode cX10_init 31 = .ok (.aload_n 0, 1) := by decide +kernel
theorem dX10_init_32 : decode cX10_init 32 = .ok (.iconst 0, 1) := by decide +kernel
theorem dX10_init_33 : decode cX10_init 33 = .ok (.putfield 25, 3) := by decide +kernel
theorem dX10_init_36 : decode cX10_init 36 = .ok (.aload_n 0, 1) := by decide +kernel
theorem dX10_init_37 : decode cX10_init 37 = .ok (.iconst 0, 1) := by decide +kernel
theorem dX10_init_38 : decode cX10_init 38 = .ok (.putfield 29, 3) := by decide +kernel
theorem dX10_init_41 : decode cX10_init 41 = .ok (.aload_n 0, 1) := by decide +kernel
theorem dX10_init_42 : decode cX10_init 42 = .ok (.iconst 0, 1) := by decide +kernel
theorem dX10_init_43 : decode cX10_init 43 = .ok (.putfield 32, 3) := by decide +kernel
theorem dX10_init_46 : decode cX10_init 46 = .ok (.aload_n 0, 1) := by decide +kernel
theorem dX10_init_47 : decode cX10_init 47 = .ok (.iconst 0, 1) := by decide +kernel
theorem dX10_init_48 : decode cX10_init 48 = .ok (.putfield 35, 3) := by decide +kernel
theorem dX10_init_51 : decode cX10_init 51 = .ok (.aload_n 0, 1) := by decide +kernel
theorem dX10_init_52 : decode cX10_init 52 = .ok (.iconst 0, 1) := by decide +kernel
theorem dX10_init_53 : decode cX10_init 53 = .ok (.putfield 39, 3) := by decide +kernel
theorem dX10_init_56 : decode cX10_init 56 = .ok (.aload_n 0, 1) := by decide +kernel
theorem dX10_init_57 : decode cX10_init 57 = .ok (.iconst 0, 1) := by decide +kernel
theorem dX10_init_58 : decode cX10_init 58 = .ok (.putfield 42, 3) := by decide +kernel
theorem dX10_init_61 : decode cX10_init 61 = .ok (.aload_n 0, 1) := by decide +kernel
theorem dX10_init_62 : decode cX10_init 62 = .ok (.iconst 0, 1) := by decide +kernel
theorem dX10_init_63 : decode cX10_init 63 = .ok (.putfield 45, 3) := by decide +kernel
theorem dX10_init_66 : decode cX10_init 66 = .ok (.return_, 1) := by decide +kernel
theorem dX4_init_0 : decode cX4_init 0 = .ok (.aload_n 0, 1) := by decide +kernel
theorem dX4_init_1 : decode cX4_init 1 = .ok (.invokespecial 3, 3) := by decide +kernel
theorem dX4_init_4 : decode cX4_init 4 = .ok (.aload_n 0, 1) := by decide +kernel
theorem dX4_init_5 : decode cX4_init 5 = .ok (.bipush 113, 2) := by decide +kernel
theorem dX4_init_7 : decode cX4_init 7 = .ok (.newarray .int, 2) := by decide +kernel
theorem dX4_init_9 : decode cX4_init 9 = .ok (.putfield 11, 3) := by decide +kernel
theorem dX4_init_12 : decode cX4_init 12 = .ok (.aload_n 0, 1) := by decide +kernel
theorem dX4_init_13 : decode cX4_init 13 = .ok (.bipush 64, 2) := by decide +kernel
theorem dX4_init_15 : decode cX4_init 15 = .ok (.newarray .long, 2) := by decide +kernel
theorem dX4_init_17 : decode cX4_init 17 = .ok (.putfield 17, 3) := by decide +kernel
theorem dX4_init_20 : decode cX4_init 20 = .ok (.aload_n 0, 1) := by decide +kernel
theorem dX4_init_21 : decode cX4_init 21 = .ok (.lconst 0, 1) := by decide +kernel
theorem dX4_init_22 : decode cX4_init 22 = .ok (.putfield 21, 3) := by decide +kernel
theorem dX4_init_25 : decode cX4_init 25 = .ok (.return_, 1) := by decide +kernel
theorem dX6_init_0 : decode cX6_init 0 = .ok (.aload_n 0, 1) := by decide +kernel
theorem dX6_init_1 : decode cX6_init 1 = .ok (.invokespecial 3, 3) := by decide +kernel
theorem dX6_init_4 : decode cX6_init 4 = .ok (.aload_n 0, 1) := by decide +kernel
theorem dX6_init_5 : decode cX6_init 5 = .ok (.bipush 6, 2) := by decide +kernel
theorem dX6_init_7 : decode cX6_init 7 = .ok (.anewarray 9, 3) := by decide +kernel
theorem dX6_init_10 : decode cX6_init 10 = .ok (.putfield 11, 3) := by decide +kernel
theorem dX6_init_13 : decode cX6_init 13 = .ok (.aload_n 0, 1) := by decide +kernel
theorem dX6_init_14 : decode cX6_init 14 = .ok (.iconst 0, 1) := by decide +kernel
theorem dX6_init_15 : decode cX6_init 15 = .ok (.putfield 17, 3) := by decide +kernel
theorem dX6_init_18 : decode cX6_init 18 = .ok (.aload_n 0, 1) := by decide +kernel
theorem dX6_init_19 : decode cX6_init 19 = .ok (.iconst (-1), 1) := by decide +kernel
theorem dX6_init_20 : decode cX6_init 20 = .ok (.putfield 21, 3) := by decide +kernel
theorem dX6_init_23 : decode cX6_init 23 = .ok (.aload_n 0, 1) := by decide +kernel
theorem dX6_init_24 : decode cX6_init 24 = .ok (.iconst 1, 1) := by decide +kernel
theorem dX6_init_25 : decode cX6_init 25 = .ok (.putfield 24, 3) := by decide +kernel
theorem dX6_init_28 : decode cX6_init 28 = .ok (.aload_n 0, 1) := by decide +kernel
theorem dX6_init_29 : decode cX6_init 29 = .ok (.iconst 0, 1) := by decide +kernel
theorem dX6_init_30 : decode cX6_init 30 = .ok (.putfield 27, 3) := by decide +kernel
theorem dX6_init_33 : decode cX6_init 33 = .ok (.aload_n 0, 1) := by decide +kernel
theorem dX6_init_34 : decode cX6_init 34 = .ok (.aload_n 1, 1) := by decide +kernel
theorem dX6_init_35 : decode cX6_init 35 = .ok (.putfield 30, 3) := by decide +kernel
theorem dX6_init_38 : decode cX6_init 38 = .ok (.return_, 1) := by decide +kernel
theorem dX1_init_0 : decode cX1_init 0 = .ok (.aload_n 0, 1) := by decide +kernel
theorem dX1_init_1 : decode cX1_init 1 = .ok (.invokespecial 3, 3) := by decide +kernel
theorem dX1_init_4 : decode cX1_init 4 = .ok (.aload_n 0, 1) := by decide +kernel
theorem dX1_init_5 : decode cX1_init 5 = .ok (.bipush 6, 2) := by decide +kernel
theorem dX1_init_7 : decode cX1_init 7 = .ok (.newarray .int, 2) := by decide +kernel
theorem dX1_init_9 : decode cX1_init 9 = .ok (.putfield 9, 3) := by decide +kernel
theorem dX1_init_12 : decode cX1_init 12 = .ok (.aload_n 0, 1) := by decide +kernel
theorem dX1_init_13 : decode cX1_init 13 = .ok (.bipush 6, 2) := by decide +kernel
theorem dX1_init_15 : decode cX1_init 15 = .ok (.newarray .int, 2) := by decide +kernel
theorem dX1_init_17 : decode cX1_init 17 = .ok (.putfield 15, 3) := by decide +kernel
theorem dX1_init_20 : decode cX1_init 20 = .ok (.aload_n 0, 1) := by decide +kernel
theorem dX1_init_21 : decode cX1_init 21 = .ok (.iconst 0, 1) := by decide +kernel
theorem dX1_init_22 : decode cX1_init 22 = .ok (.putfield 18, 3) := by decide +kernel
theorem dX1_init_25 : decode cX1_init 25 = .ok (.return_, 1) := by decide +kernel
theorem dX2_init_0 : decode cX2_init 0 = .ok (.aload_n 0, 1) := by decide +kernel
theorem dX2_init_1 : decode cX2_init 1 = .ok (.invokespecial 3, 3) := by decide +kernel
theorem dX2_init_4 : decode cX2_init 4 = .ok (.aload_n 0, 1) := by decide +kernel
theorem dX2_init_5 : decode cX2_init 5 = .ok (.bipush 17, 2) := by decide +kernel
theorem dX2_init_7 : decode cX2_init 7 = .ok (.anewarray 11, 3) := by decide +kernel
theorem dX2_init_10 : decode cX2_init 10 = .ok (.putfield 13, 3) := by decide +kernel
theorem dX2_init_13 : decode cX2_init 13 = .ok (.aload_n 0, 1) := by decide +kernel
theorem dX2_init_14 : decode cX2_init 14 = .ok (.bipush 17, 2) := by decide +kernel
theorem dX2_init_16 : decode cX2_init 16 = .ok (.newarray .int, 2) := by decide +kernel
theorem dX2_init_18 : decode cX2_init 18 = .ok (.putfield 17, 3) := by decide +kernel
theorem dX2_init_21 : decode cX2_init 21 = .ok (.aload_n 0, 1) := by decide +kernel
theorem dX2_init_22 : decode cX2_init 22 = .ok (.iconst 0, 1) := by decide +kernel
theorem dX2_init_23 : decode cX2_init 23 = .ok (.putfield 21, 3) := by decide +kernel
theorem dX2_init_26 : decode cX2_init 26 = .ok (.aload_n 0, 1) := by decide +kernel
theorem dX2_init_27 : decode cX2_init 27 = .ok (.iconst 0, 1) := by decide +kernel
theorem dX2_init_28 : decode cX2_init 28 = .ok (.putfield 25, 3) := by decide +kernel
theorem dX2_init_31 : decode cX2_init 31 = .ok (.iconst 0, 1) := by decide +kernel
theorem dX2_init_32 : decode cX2_init 32 = .ok (.istore_n 1, 1) := by decide +kernel
theorem dX2_init_33 : decode cX2_init 33 = .ok (.iload_n 1, 1) := by decide +kernel
theorem dX2_init_34 : decode cX2_init 34 = .ok (.bipush 17, 2) := by decide +kernel
theorem dX2_init_36 : decode cX2_init 36 = .ok (.if_icmp .ge 22, 3) := by decide +kernel
theorem dX2_init_39 : decode cX2_init 39 = .ok (.aload_n 0, 1) := by decide +kernel
theorem dX2_init_40 : decode cX2_init 40 = .ok (.getfield 13, 3) := by decide +kernel
theorem dX2_init_43 : decode cX2_init 43 = .ok (.iload_n 1, 1) := by decide +kernel
theorem dX2_init_44 : decode cX2_init 44 = .ok (.new 11, 3) := by decide +kernel
theorem dX2_init_47 : decode cX2_init 47 = .ok (.dup, 1) := by decide +kernel
theorem dX2_init_48 : decode cX2_init 48 = .ok (.invokespecial 28, 3) := by decide +kernel
theorem dX2_init_51 : decode cX2_init 51 = .ok (.aastore, 1) := by decide +kernel
theorem dX2_init_52 : decode cX2_init 52 = .ok (.iinc 1 1, 3) := by decide +kernel
theorem dX2_init_55 : decode cX2_init 55 = .ok (.goto (-22), 3) := by decide +kernel
theorem dX2_init_58 : decode cX2_init 58 = .ok (.return_, 1) := by decide +kernel
theorem dX3_init_0 : decode cX3_init 0 = .ok (.aload_n 0, 1) := by decide +kernel
theorem dX3_init_1 : decode cX3_init 1 = .ok (.invokespecial 1, 3) := by decide +kernel
theorem dX3_init_4 : decode cX3_init 4 = .ok (.aload_n 0, 1) := by decide +kernel
theorem dX3_init_5 : decode cX3_init 5 = .ok (.new 7, 3) := by decide +kernel
theorem dX3_init_8 : decode cX3_init 8 = .ok (.dup, 1) := by decide +kernel
theorem dX3_init_9 : decode cX3_init 9 = .ok (.invokespecial 9, 3) := by decide +kernel
theorem dX3_init_12 : decode cX3_init 12 = .ok (.putfield 10, 3) := by decide +kernel
theorem dX3_init_15 : decode cX3_init 15 = .ok (.aload_n 0, 1) := by decide +kernel
theorem dX3_init_16 : decode cX3_init 16 = .ok (.new 16, 3) := by decide +kernel
theorem dX3_init_19 : decode cX3_init 19 = .ok (.dup, 1) := by decide +kernel
theorem dX3_init_20 : decode cX3_init 20 = .ok (.invokespecial 18, 3) := by decide +kernel
theorem dX3_init_23 : decode cX3_init 23 = .ok (.putfield 19, 3) := by decide +kernel
theorem dX3_init_26 : decode cX3_init 26 = .ok (.aload_n 0, 1) := by decide +kernel
theorem dX3_init_27 : decode cX3_init 27 = .ok (.iconst 0, 1) := by decide +kernel
theorem dX3_init_28 : decode cX3_init 28 = .ok (.putfield 23, 3) := by decide +kernel
theorem dX3_init_31 : decode cX3_init 31 = .ok (.aload_n 0, 1) := by decide +kernel
theorem dX3_init_32 : decode cX3_init 32 = .ok (.new 27, 3) := by decide +kernel
theorem dX3_init_35 : decode cX3_init 35 = .ok (.dup, 1) := by decide +kernel
theorem dX3_init_36 : decode cX3_init 36 = .ok (.aload_n 1, 1) := by decide +kernel
theorem dX3_init_37 : decode cX3_init 37 = .ok (.invokespecial 29, 3) := by decide +kernel
theorem dX3_init_40 : decode cX3_init 40 = .ok (.putfield 32, 3) := by decide +kernel
theorem dX3_init_43 : decode cX3_init 43 = .ok (.return_, 1) := by decide +kernel
theorem dX7_init_0 : decode cX7_init 0 = .ok (.aload_n 0, 1) := by decide +kernel
theorem dX7_init_1 : decode cX7_init 1 = .ok (.invokespecial 3, 3) := by decide +kernel
theorem dX7_init_4 : decode cX7_init 4 = .ok (.aload_n 0, 1) := by decide +kernel
theorem dX7_init_5 : decode cX7_init 5 = .ok (.sipush 400, 3) := by decide +kernel
theorem dX7_init_8 : decode cX7_init 8 = .ok (.newarray .int, 2) := by decide +kernel
theorem dX7_init_10 : decode cX7_init 10 = .ok (.putfield 9, 3) := by decide +kernel
theorem dX7_init_13 : decode cX7_init 13 = .ok (.aload_n 0, 1) := by decide +kernel
theorem dX7_init_14 : decode cX7_init 14 = .ok (.iconst 0, 1) := by decide +kernel
theorem dX7_init_15 : decode cX7_init 15 = .ok (.putfield 15, 3) := by decide +kernel
theorem dX7_init_18 : decode cX7_init 18 = .ok (.return_, 1) := by decide +kernel
theorem dJ9_max_7cf53_0 : decode cJ9_max_7cf53 0 = .ok (.iload_n 0, 1) := by decide +kernel
theorem dJ9_max_7cf53_1 : decode cJ9_max_7cf53 1 = .ok (.iload_n 1, 1) := by decide +kernel
theorem dJ9_max_7cf53_2 : decode cJ9_max_7cf53 2 = .ok (.if_icmp .lt 7, 3) := by decide +kernel
theorem dJ9_max_7cf53_5 : decode cJ9_max_7cf53 5 = .ok (.iload_n 0, 1) := by decide +kernel
theorem dJ9_max_7cf53_6 : decode cJ9_max_7cf53 6 = .ok (.goto 4, 3) := by decide +kernel
theorem dJ9_max_7cf53_9 : decode cJ9_max_7cf53 9 = .ok (.iload_n 1, 1) := by decide +kernel
theorem dJ9_max_7cf53_10 : decode cJ9_max_7cf53 10 = .ok (.ireturn, 1) := by decide +kernel
theorem dX8_init_0 : decode cX8_init 0 = .ok (.aload_n 0, 1) := by decide +kernel
theorem dX8_init_1 : decode cX8_init 1 = .ok (.invokespecial 3, 3) := by decide +kernel
theorem dX8_init_4 : decode cX8_init 4 = .ok (.aload_n 0, 1) := by decide +kernel
theorem dX8_init_5 : decode cX8_init 5 = .ok (.iconst 0, 1) := by decide +kernel
theorem dX8_init_6 : decode cX8_init 6 = .ok (.putfield 9, 3) := by decide +kernel
theorem dX8_init_9 : decode cX8_init 9 = .ok (.aload_n 0, 1) := by decide +kernel
theorem dX8_init_10 : decode cX8_init 10 = .ok (.iconst 0, 1) := by decide +kernel
theorem dX8_init_11 : decode cX8_init 11 = .ok (.putfield 15, 3) := by decide +kernel
theorem dX8_init_14 : decode cX8_init 14 = .ok (.aload_n 0, 1) := by decide +kernel
theorem dX8_init_15 : decode cX8_init 15 = .ok (.iload_n 1, 1) := by decide +kernel
theorem dX8_init_16 : decode cX8_init 16 = .ok (.iconst 0, 1) := by decide +kernel
theorem dX8_init_17 : decode cX8_init 17 = .ok (.invokestatic 18, 3) := by decide +kernel
theorem dX8_init_20 : decode cX8_init 20 = .ok (.newarray .int, 2) := by decide +kernel
theorem dX8_init_22 : decode cX8_init 22 = .ok (.putfield 24, 3) := by decide +kernel
theorem dX8_init_25 : decode cX8_init 25 = .ok (.aload_n 0, 1) := by decide +kernel
theorem dX8_init_26 : decode cX8_init 26 = .ok (.iload_n 1, 1) := by decide +kernel
theorem dX8_init_27 : decode cX8_init 27 = .ok (.iconst 0, 1) := by decide +kernel
theorem dX8_init_28 : decode cX8_init 28 = .ok (.invokestatic 18, 3) := by decide +kernel
theorem dX8_init_31 : decode cX8_init 31 = .ok (.newarray .int, 2) := by decide +kernel
theorem dX8_init_33 : decode cX8_init 33 = .ok (.putfield 28, 3) := by decide +kernel
theorem dX8_init_36 : decode cX8_init 36 = .ok (.aload_n 0, 1) := by decide +kernel
theorem dX8_init_37 : decode cX8_init 37 = .ok (.iconst 5, 1) := by decide +kernel
theorem dX8_init_38 : decode cX8_init 38 = .ok (.iload_n 2, 1) := by decide +kernel
theorem dX8_init_39 : decode cX8_init 39 = .ok (.iconst 0, 1) := by decide +kernel
theorem dX8_init_40 : decode cX8_init 40 = .ok (.invokestatic 18, 3) := by decide +kernel
theorem dX8_init_43 : decode cX8_init 43 = .ok (.imul, 1) := by decide +kernel
theorem dX8_init_44 : decode cX8_init 44 = .ok (.newarray .int, 2) := by decide +kernel
theorem dX8_init_46 : decode cX8_init 46 = .ok (.putfield 31, 3) := by decide +kernel
theorem dX8_init_49 : decode cX8_init 49 = .ok (.return_, 1) := by decide +kernel
theorem dX9_init_0 : decode cX9_init 0 = .ok (.aload_n 0, 1) := by decide +kernel
theorem dX9_init_1 : decode cX9_init 1 = .ok (.invokespecial 3, 3) := by decide +kernel
theorem dX9_init_4 : decode cX9_init 4 = .ok (.aload_n 0, 1) := by decide +kernel
theorem dX9_init_5 : decode cX9_init 5 = .ok (.sipush 401, 3) := by decide +kernel
theorem dX9_init_8 : decode cX9_init 8 = .ok (.newarray .int, 2) := by decide +kernel
theorem dX9_init_10 : decode cX9_init 10 = .ok (.putfield 11, 3) := by decide +kernel
theorem dX9_init_13 : decode cX9_init 13 = .ok (.aload_n 0, 1) := by decide +kernel
theorem dX9_init_14 : decode cX9_init 14 = .ok (.sipush 401, 3) := by decide +kernel
theorem dX9_init_17 : decode cX9_init 17 = .ok (.newarray .int, 2) := by decide +kernel
theorem dX9_init_19 : decode cX9_init 19 = .ok (.putfield 15, 3) := by decide +kernel
theorem dX9_init_22 : decode cX9_init 22 = .ok (.aload_n 0, 1) := by decide +kernel
theorem dX9_init_23 : decode cX9_init 23 = .ok (.sipush 401, 3) := by decide +kernel
theorem dX9_init_26 : decode cX9_init 26 = .ok (.newarray .int, 2) := by decide +kernel
theorem dX9_init_28 : decode cX9_init 28 = .ok (.putfield 18, 3) := by decide +kernel
theorem dX9_init_31 : decode cX9_init 31 = .ok (.aload_n 0, 1) := by decide +kernel
theorem dX9_init_32 : decode cX9_init 32 = .ok (.iconst 0, 1) := by decide +kernel
theorem dX9_init_33 : decode cX9_init 33 = .ok (.putfield 21, 3) := by decide +kernel
theorem dX9_init_36 : decode cX9_init 36 = .ok (.return_, 1) := by decide +kernel
theorem dX5_init_0 : decode cX5_init 0 = .ok (.aload_n 0, 1) := by decide +kernel
theorem dX5_init_1 : decode cX5_init 1 = .ok (.invokespecial 5, 3) := by decide +kernel
theorem dX5_init_4 : decode cX5_init 4 = .ok (.aload_n 0, 1) := by decide +kernel
theorem dX5_init_5 : decode cX5_init 5 = .ok (.new 11, 3) := by decide +kernel
theorem dX5_init_8 : decode cX5_init 8 = .ok (.dup, 1) := by decide +kernel
theorem dX5_init_9 : decode cX5_init 9 = .ok (.sipush 400, 3) := by decide +kernel
theorem dX5_init_12 : decode cX5_init 12 = .ok (.bipush 12, 2) := by decide +kernel
theorem dX5_init_14 : decode cX5_init 14 = .ok (.invokespecial 13, 3) := by decide +kernel
theorem dX5_init_17 : decode cX5_init 17 = .ok (.putfield 16, 3) := by decide +kernel
theorem dX5_init_20 : decode cX5_init 20 = .ok (.aload_n 0, 1) := by decide +kernel
theorem dX5_init_21 : decode cX5_init 21 = .ok (.new 20, 3) := by decide +kernel
theorem dX5_init_24 : decode cX5_init 24 = .ok (.dup, 1) := by decide +kernel
theorem dX5_init_25 : decode cX5_init 25 = .ok (.invokespecial 22, 3) := by decide +kernel
theorem dX5_init_28 : decode cX5_init 28 = .ok (.putfield 23, 3) := by decide +kernel
theorem dX5_init_31 : decode cX5_init 31 = .ok (.aload_n 0, 1) := by decide +kernel
theorem dX5_init_32 : decode cX5_init 32 = .ok (.iconst 0, 1) := by decide +kernel
theorem dX5_init_33 : decode cX5_init 33 = .ok (.putfield 27, 3) := by decide +kernel
theorem dX5_init_36 : decode cX5_init 36 = .ok (.aload_n 0, 1) := by decide +kernel
theorem dX5_init_37 : decode cX5_init 37 = .ok (.iconst 0, 1) := by decide +kernel
theorem dX5_init_38 : decode cX5_init 38 = .ok (.putfield 31, 3) := by decide +kernel
theorem dX5_init_41 : decode cX5_init 41 = .ok (.aload_n 0, 1) := by decide +kernel
theorem dX5_init_42 : decode cX5_init 42 = .ok (.iconst (-1), 1) := by decide +kernel
theorem dX5_init_43 : decode cX5_init 43 = .ok (.putfield 34, 3) := by decide +kernel
theorem dX5_init_46 : decode cX5_init 46 = .ok (.return_, 1) := by decide +kernel
theorem dJ7_fill_53178_0 : decode cJ7_fill_53178 0 = .ok (.iconst 0, 1) := by decide +kernel
theorem dJ7_fill_53178_1 : decode cJ7_fill_53178 1 = .ok (.istore_n 2, 1) := by decide +kernel
theorem dJ7_fill_53178_2 : decode cJ7_fill_53178 2 = .ok (.aload_n 0, 1) := by decide +kernel
theorem dJ7_fill_53178_3 : decode cJ7_fill_53178 3 = .ok (.arraylength, 1) := by decide +kernel
theorem dJ7_fill_53178_4 : decode cJ7_fill_53178 4 = .ok (.istore_n 3, 1) := by decide +kernel
theorem dJ7_fill_53178_5 : decode cJ7_fill_53178 5 = .ok (.iload_n 2, 1) := by decide +kernel
theorem dJ7_fill_53178_6 : decode cJ7_fill_53178 6 = .ok (.iload_n 3, 1) := by decide +kernel
theorem dJ7_fill_53178_7 : decode cJ7_fill_53178 7 = .ok (.if_icmp .ge 13, 3) := by decide +kernel
theorem dJ7_fill_53178_10 : decode cJ7_fill_53178 10 = .ok (.aload_n 0, 1) := by decide +kernel
theorem dJ7_fill_53178_11 : decode cJ7_fill_53178 11 = .ok (.iload_n 2, 1) := by decide +kernel
theorem dJ7_fill_53178_12 : decode cJ7_fill_53178 12 = .ok (.iload_n 1, 1) := by decide +kernel
theorem dJ7_fill_53178_13 : decode cJ7_fill_53178 13 = .ok (.iastore, 1) := by decide +kernel
theorem dJ7_fill_53178_14 : decode cJ7_fill_53178 14 = .ok (.iinc 2 1, 3) := by decide +kernel
theorem dJ7_fill_53178_17 : decode cJ7_fill_53178 17 = .ok (.goto (-12), 3) := by decide +kernel
theorem dJ7_fill_53178_20 : decode cJ7_fill_53178 20 = .ok (.return_, 1) := by decide +kernel
theorem dX11_init_0 : decode cX11_init 0 = .ok (.aload_n 0, 1) := by decide +kernel
theorem dX11_init_1 : decode cX11_init 1 = .ok (.invokespecial 1, 3) := by decide +kernel
theorem dX11_init_4 : decode cX11_init 4 = .ok (.aload_n 0, 1) := by decide +kernel
theorem dX11_init_5 : decode cX11_init 5 = .ok (.new 7, 3) := by decide +kernel
theorem dX11_init_8 : decode cX11_init 8 = .ok (.dup, 1) := by decide +kernel
theorem dX11_init_9 : decode cX11_init 9 = .ok (.invokespecial 9, 3) := by decide +kernel
theorem dX11_init_12 : decode cX11_init 12 = .ok (.putfield 10, 3) := by decide +kernel
theorem dX11_init_15 : decode cX11_init 15 = .ok (.aload_n 0, 1) := by decide +kernel
theorem dX11_init_16 : decode cX11_init 16 = .ok (.new 7, 3) := by decide +kernel
theorem dX11_init_19 : decode cX11_init 19 = .ok (.dup, 1) := by decide +kernel
theorem dX11_init_20 : decode cX11_init 20 = .ok (.invokespecial 9, 3) := by decide +kernel
theorem dX11_init_23 : decode cX11_init 23 = .ok (.putfield 16, 3) := by decide +kernel
theorem dX11_init_26 : decode cX11_init 26 = .ok (.aload_n 0, 1) := by decide +kernel
theorem dX11_init_27 : decode cX11_init 27 = .ok (.new 19, 3) := by decide +kernel
theorem dX11_init_30 : decode cX11_init 30 = .ok (.dup, 1) := by decide +kernel
theorem dX11_init_31 : decode cX11_init 31 = .ok (.invokespecial 21, 3) := by decide +kernel
theorem dX11_init_34 : decode cX11_init 34 = .ok (.putfield 22, 3) := by decide +kernel
theorem dX11_init_37 : decode cX11_init 37 = .ok (.aload_n 0, 1) := by decide +kernel
theorem dX11_init_38 : decode cX11_init 38 = .ok (.new 26, 3) := by decide +kernel
theorem dX11_init_41 : decode cX11_init 41 = .ok (.dup, 1) := by decide +kernel
theorem dX11_init_42 : decode cX11_init 42 = .ok (.aload_n 0, 1) := by decide +kernel
theorem dX11_init_43 : decode cX11_init 43 = .ok (.getfield 22, 3) := by decide +kernel
theorem dX11_init_46 : decode cX11_init 46 = .ok (.invokespecial 28, 3) := by decide +kernel
theorem dX11_init_49 : decode cX11_init 49 = .ok (.putfield 31, 3) := by decide +kernel
theorem dX11_init_52 : decode cX11_init 52 = .ok (.aload_n 0, 1) := by decide +kernel
theorem dX11_init_53 : decode cX11_init 53 = .ok (.new 35, 3) := by decide +kernel
theorem dX11_init_56 : decode cX11_init 56 = .ok (.dup, 1) := by decide +kernel
theorem dX11_init_57 : decode cX11_init 57 = .ok (.invokespecial 37, 3) := by decide +kernel
theorem dX11_init_60 : decode cX11_init 60 = .ok (.putfield 38, 3) := by decide +kernel
theorem dX11_init_63 : decode cX11_init 63 = .ok (.aload_n 0, 1) := by decide +kernel
theorem dX11_init_64 : decode cX11_init 64 = .ok (.new 42, 3) := by decide +kernel
theorem dX11_init_67 : decode cX11_init 67 = .ok (.dup, 1) := by decide +kernel
theorem dX11_init_68 : decode cX11_init 68 = .ok (.invokespecial 44, 3) := by decide +kernel
theorem dX11_init_71 : decode cX11_init 71 = .ok (.putfield 45, 3) := by decide +kernel
theorem dX11_init_74 : decode cX11_init 74 = .ok (.aload_n 0, 1) := by decide +kernel
theorem dX11_init_75 : decode cX11_init 75 = .ok (.new 42, 3) := by decide +kernel
theorem dX11_init_78 : decode cX11_init 78 = .ok (.dup, 1) := by decide +kernel
theorem dX11_init_79 : decode cX11_init 79 = .ok (.invokespecial 44, 3) := by decide +kernel
theorem dX11_init_82 : decode cX11_init 82 = .ok (.putfield 49, 3) := by decide +kernel
theorem dX11_init_85 : decode cX11_init 85 = .ok (.aload_n 0, 1) := by decide +kernel
theorem dX11_init_86 : decode cX11_init 86 = .ok (.new 52, 3) := by decide +kernel
theorem dX11_init_89 : decode cX11_init 89 = .ok (.dup, 1) := by decide +kernel
theorem dX11_init_90 : decode cX11_init 90 = .ok (.aload_n 0, 1) := by decide +kernel
theorem dX11_init_91 : decode cX11_init 91 = .ok (.getfield 22, 3) := by decide +kernel
theorem dX11_init_94 : decode cX11_init 94 = .ok (.invokespecial 54, 3) := by decide +kernel
theorem dX11_init_97 : decode cX11_init 97 = .ok (.putfield 55, 3) := by decide +kernel
theorem dX11_init_100 : decode cX11_init 100 = .ok (.aload_n 0, 1) := by decide +kernel
theorem dX11_init_101 : decode cX11_init 101 = .ok (.new 52, 3) := by decide +kernel
theorem dX11_init_104 : decode cX11_init 104 = .ok (.dup, 1) := by decide +kernel
theorem dX11_init_105 : decode cX11_init 105 = .ok (.aload_n 0, 1) := by decide +kernel
theorem dX11_init_106 : decode cX11_init 106 = .ok (.getfield 22, 3) := by decide +kernel
theorem dX11_init_109 : decode cX11_init 109 = .ok (.invokespecial 54, 3) := by decide +kernel
theorem dX11_init_112 : decode cX11_init 112 = .ok (.putfield 59, 3) := by decide +kernel
theorem dX11_init_115 : decode cX11_init 115 = .ok (.aload_n 0, 1) := by decide +kernel
theorem dX11_init_116 : decode cX11_init 116 = .ok (.new 62, 3) := by decide +kernel
theorem dX11_init_119 : decode cX11_init 119 = .ok (.dup, 1) := by decide +kernel
theorem dX11_init_120 : decode cX11_init 120 = .ok (.invokespecial 64, 3) := by decide +kernel
theorem dX11_init_123 : decode cX11_init 123 = .ok (.putfield 65, 3) := by decide +kernel
theorem dX11_init_126 : decode cX11_init 126 = .ok (.aload_n 0, 1) := by decide +kernel
theorem dX11_init_127 : decode cX11_init 127 = .ok (.new 69, 3) := by decide +kernel
theorem dX11_init_130 : decode cX11_init 130 = .ok (.dup, 1) := by decide +kernel
theorem dX11_init_131 : decode cX11_init 131 = .ok (.invokespecial 71, 3) := by decide +kernel
theorem dX11_init_134 : decode cX11_init 134 = .ok (.putfield 72, 3) := by decide +kernel
theorem dX11_init_137 : decode cX11_init 137 = .ok (.aload_n 0, 1) := by decide +kernel
theorem dX11_init_138 : decode cX11_init 138 = .ok (.iconst 5, 1) := by decide +kernel
theorem dX11_init_139 : decode cX11_init 139 = .ok (.newarray .int, 2) := by decide +kernel
theorem dX11_init_141 : decode cX11_init 141 = .ok (.putfield 76, 3) := by decide +kernel
theorem dX11_init_144 : decode cX11_init 144 = .ok (.aload_n 0, 1) := by decide +kernel
theorem dX11_init_145 : decode cX11_init 145 = .ok (.bipush 24, 2) := by decide +kernel
theorem dX11_init_147 : decode cX11_init 147 = .ok (.newarray .int, 2) := by decide +kernel
theorem dX11_init_149 : decode cX11_init 149 = .ok (.putfield 80, 3) := by decide +kernel
theorem dX11_init_152 : decode cX11_init 152 = .ok (.aload_n 0, 1) := by decide +kernel
theorem dX11_init_153 : decode cX11_init 153 = .ok (.bipush 20, 2) := by decide +kernel
theorem dX11_init_155 : decode cX11_init 155 = .ok (.newarray .long, 2) := by decide +kernel
theorem dX11_init_157 : decode cX11_init 157 = .ok (.putfield 83, 3) := by decide +kernel
theorem dX11_init_160 : decode cX11_init 160 = .ok (.aload_n 0, 1) := by decide +kernel
theorem dX11_init_161 : decode cX11_init 161 = .ok (.iconst 0, 1) := by decide +kernel
theorem dX11_init_162 : decode cX11_init 162 = .ok (.putfield 87, 3) := by decide +kernel
theorem dX11_init_165 : decode cX11_init 165 = .ok (.aload_n 0, 1) := by decide +kernel
theorem dX11_init_166 : decode cX11_init 166 = .ok (.iconst (-1), 1) := by decide +kernel
theorem dX11_init_167 : decode cX11_init 167 = .ok (.putfield 91, 3) := by decide +kernel
theorem dX11_init_170 : decode cX11_init 170 = .ok (.aload_n 0, 1) := by decide +kernel
theorem dX11_init_171 : decode cX11_init 171 = .ok (.iconst (-1), 1) := by decide +kernel
theorem dX11_init_172 : decode cX11_init 172 = .ok (.putfield 94, 3) := by decide +kernel
theorem dX11_init_175 : decode cX11_init 175 = .ok (.aload_n 0, 1) := by decide +kernel
theorem dX11_init_176 : decode cX11_init 176 = .ok (.iconst 0, 1) := by decide +kernel
theorem dX11_init_177 : decode cX11_init 177 = .ok (.putfield 97, 3) := by decide +kernel
theorem dX11_init_180 : decode cX11_init 180 = .ok (.aload_n 0, 1) := by decide +kernel
theorem dX11_init_181 : decode cX11_init 181 = .ok (.iconst (-1), 1) := by decide +kernel
theorem dX11_init_182 : decode cX11_init 182 = .ok (.putfield 100, 3) := by decide +kernel
theorem dX11_init_185 : decode cX11_init 185 = .ok (.aload_n 0, 1) := by decide +kernel
theorem dX11_init_186 : decode cX11_init 186 = .ok (.iconst 0, 1) := by decide +kernel
theorem dX11_init_187 : decode cX11_init 187 = .ok (.putfield 103, 3) := by decide +kernel
theorem dX11_init_190 : decode cX11_init 190 = .ok (.aload_n 0, 1) := by decide +kernel
theorem dX11_init_191 : decode cX11_init 191 = .ok (.getfield 80, 3) := by decide +kernel
theorem dX11_init_194 : decode cX11_init 194 = .ok (.iconst (-1), 1) := by decide +kernel
theorem dX11_init_195 : decode cX11_init 195 = .ok (.invokestatic 106, 3) := by decide +kernel
theorem dX11_init_198 : decode cX11_init 198 = .ok (.return_, 1) := by decide +kernel
theorem dX11_isProcessor_0 : decode cX11_isProcessor 0 = .ok (.iload_n 0, 1) := by decide +kernel
theorem dX11_isProcessor_1 : decode cX11_isProcessor 1 = .ok (.ifCond .lt 13, 3) := by decide +kernel
theorem dX11_isProcessor_4 : decode cX11_isProcessor 4 = .ok (.iload_n 0, 1) := by decide +kernel
theorem dX11_isProcessor_5 : decode cX11_isProcessor 5 = .ok (.bipush 8, 2) := by decide +kernel
theorem dX11_isProcessor_7 : decode cX11_isProcessor 7 = .ok (.if_icmp .ge 7, 3) := by decide +kernel
theorem dX11_isProcessor_10 : decode cX11_isProcessor 10 = .ok (.iconst 1, 1) := by decide +kernel
theorem dX11_isProcessor_11 : decode cX11_isProcessor 11 = .ok (.goto 4, 3) := by decide +kernel
theorem dX11_isProcessor_14 : decode cX11_isProcessor 14 = .ok (.iconst 0, 1) := by decide +kernel
theorem dX11_isProcessor_15 : decode cX11_isProcessor 15 = .ok (.ireturn, 1) := by decide +kernel
theorem dX10_unreported_0 : decode cX10_unreported 0 = .ok (.aload_n 0, 1) := by decide +kernel
theorem dX10_unreported_1 : decode cX10_unreported 1 = .ok (.getfield 35, 3) := by decide +kernel
theorem dX10_unreported_4 : decode cX10_unreported 4 = .ok (.ifCond .ne 5, 3) := by decide +kernel
theorem dX10_unreported_7 : decode cX10_unreported 7 = .ok (.iconst 0, 1) := by decide +kernel
theorem dX10_unreported_8 : decode cX10_unreported 8 = .ok (.ireturn, 1) := by decide +kernel
theorem dX10_unreported_9 : decode cX10_unreported 9 = .ok (.aload_n 0, 1) := by decide +kernel
theorem dX10_unreported_10 : decode cX10_unreported 10 = .ok (.getfield 22, 3) := by decide +kernel
theorem dX10_unreported_13 : decode cX10_unreported 13 = .ok (.iconst 4, 1) := by decide +kernel
theorem dX10_unreported_14 : decode cX10_unreported 14 = .ok (.iaload, 1) := by decide +kernel
theorem dX10_unreported_15 : decode cX10_unreported 15 = .ok (.aload_n 0, 1) := by decide +kernel
theorem dX10_unreported_16 : decode cX10_unreported 16 = .ok (.getfield 22, 3) := by decide +kernel
theorem dX10_unreported_19 : decode cX10_unreported 19 = .ok (.iconst 5, 1) := by decide +kernel
theorem dX10_unreported_20 : decode cX10_unreported 20 = .ok (.iaload, 1) := by decide +kernel
theorem dX10_unreported_21 : decode cX10_unreported 21 = .ok (.iconst 2, 1) := by decide +kernel
theorem dX10_unreported_22 : decode cX10_unreported 22 = .ok (.ishl, 1) := by decide +kernel
theorem dX10_unreported_23 : decode cX10_unreported 23 = .ok (.ior, 1) := by decide +kernel
theorem dX10_unreported_24 : decode cX10_unreported 24 = .ok (.aload_n 0, 1) := by decide +kernel
theorem dX10_unreported_25 : decode cX10_unreported 25 = .ok (.getfield 22, 3) := by decide +kernel
theorem dX10_unreported_28 : decode cX10_unreported 28 = .ok (.bipush 6, 2) := by decide +kernel
theorem dX10_unreported_30 : decode cX10_unreported 30 = .ok (.iaload, 1) := by decide +kernel
theorem dX10_unreported_31 : decode cX10_unreported 31 = .ok (.iconst 4, 1) := by decide +kernel
theorem dX10_unreported_32 : decode cX10_unreported 32 = .ok (.ishl, 1) := by decide +kernel
theorem dX10_unreported_33 : decode cX10_unreported 33 = .ok (.ior, 1) := by decide +kernel
theorem dX10_unreported_34 : decode cX10_unreported 34 = .ok (.aload_n 0, 1) := by decide +kernel
theorem dX10_unreported_35 : decode cX10_unreported 35 = .ok (.getfield 22, 3) := by decide +kernel
theorem dX10_unreported_38 : decode cX10_unreported 38 = .ok (.bipush 7, 2) := by decide +kernel
theorem dX10_unreported_40 : decode cX10_unreported 40 = .ok (.iaload, 1) := by decide +kernel
theorem dX10_unreported_41 : decode cX10_unreported 41 = .ok (.bipush 6, 2) := by decide +kernel
theorem dX10_unreported_43 : decode cX10_unreported 43 = .ok (.ishl, 1) := by decide +kernel
theorem dX10_unreported_44 : decode cX10_unreported 44 = .ok (.ior, 1) := by decide +kernel
theorem dX10_unreported_45 : decode cX10_unreported 45 = .ok (.ireturn, 1) := by decide +kernel
theorem dX11_bitOf_0 : decode cX11_bitOf 0 = .ok (.iload_n 0, 1) := by decide +kernel
theorem dX11_bitOf_1 : decode cX11_bitOf 1 = .ok (.iload_n 1, 1) := by decide +kernel
theorem dX11_bitOf_2 : decode cX11_bitOf 2 = .ok (.iand, 1) := by decide +kernel
theorem dX11_bitOf_3 : decode cX11_bitOf 3 = .ok (.ifCond .eq 7, 3) := by decide +kernel
theorem dX11_bitOf_6 : decode cX11_bitOf 6 = .ok (.iconst 1, 1) := by decide +kernel
theorem dX11_bitOf_7 : decode cX11_bitOf 7 = .ok (.goto 4, 3) := by decide +kernel
theorem dX11_bitOf_10 : decode cX11_bitOf 10 = .ok (.iconst 0, 1) := by decide +kernel
theorem dX11_bitOf_11 : decode cX11_bitOf 11 = .ok (.ireturn, 1) := by decide +kernel
theorem dX10_cellOf_0 : decode cX10_cellOf 0 = .ok (.iload_n 1, 1) := by decide +kernel
theorem dX10_cellOf_1 : decode cX10_cellOf 1 = .ok (.invokestatic 86, 3) := by decide +kernel
theorem dX10_cellOf_4 : decode cX10_cellOf 4 = .ok (.ifCond .eq 18, 3) := by decide +kernel
theorem dX10_cellOf_7 : decode cX10_cellOf 7 = .ok (.aload_n 0, 1) := by decide +kernel
theorem dX10_cellOf_8 : decode cX10_cellOf 8 = .ok (.getfield 25, 3) := by decide +kernel
theorem dX10_cellOf_11 : decode cX10_cellOf 11 = .ok (.iconst 1, 1) := by decide +kernel
theorem dX10_cellOf_12 : decode cX10_cellOf 12 = .ok (.iload_n 1, 1) := by decide +kernel
theorem dX10_cellOf_13 : decode cX10_cellOf 13 = .ok (.ishl, 1) := by decide +kernel
theorem dX10_cellOf_14 : decode cX10_cellOf 14 = .ok (.iand, 1) := by decide +kernel
theorem dX10_cellOf_15 : decode cX10_cellOf 15 = .ok (.ifCond .eq 7, 3) := by decide +kernel
theorem dX10_cellOf_18 : decode cX10_cellOf 18 = .ok (.iconst 1, 1) := by decide +kernel
theorem dX10_cellOf_19 : decode cX10_cellOf 19 = .ok (.goto 4, 3) := by decide +kernel
theorem dX10_cellOf_22 : decode cX10_cellOf 22 = .ok (.iconst 0, 1) := by decide +kernel
theorem dX10_cellOf_23 : decode cX10_cellOf 23 = .ok (.istore_n 2, 1) := by decide +kernel
theorem dX10_cellOf_24 : decode cX10_cellOf 24 = .ok (.iload_n 2, 1) := by decide +kernel
theorem dX10_cellOf_25 : decode cX10_cellOf 25 = .ok (.ifCond .eq 12, 3) := by decide +kernel
theorem dX10_cellOf_28 : decode cX10_cellOf 28 = .ok (.aload_n 0, 1) := by decide +kernel
theorem dX10_cellOf_29 : decode cX10_cellOf 29 = .ok (.getfield 18, 3) := by decide +kernel
theorem dX10_cellOf_32 : decode cX10_cellOf 32 = .ok (.iload_n 1, 1) := by decide +kernel
theorem dX10_cellOf_33 : decode cX10_cellOf 33 = .ok (.iaload, 1) := by decide +kernel
theorem dX10_cellOf_34 : decode cX10_cellOf 34 = .ok (.goto 4, 3) := by decide +kernel
theorem dX10_cellOf_37 : decode cX10_cellOf 37 = .ok (.iconst (-1), 1) := by decide +kernel
theorem dX10_cellOf_38 : decode cX10_cellOf 38 = .ok (.ireturn, 1) := by decide +kernel
theorem dX11_of_0 : decode cX11_of 0 = .ok (.iload_n 1, 1) := by decide +kernel
theorem dX11_of_1 : decode cX11_of 1 = .ok (.invokestatic 112, 3) := by decide +kernel
theorem dX11_of_4 : decode cX11_of 4 = .ok (.ifCond .ne 5, 3) := by decide +kernel
theorem dX11_of_7 : decode cX11_of 7 = .ok (.iconst (-1), 1) := by decide +kernel
theorem dX11_of_8 : decode cX11_of 8 = .ok (.ireturn, 1) := by decide +kernel
theorem dX11_of_9 : decode cX11_of 9 = .ok (.iconst 1, 1) := by decide +kernel
theorem dX11_of_10 : decode cX11_of 10 = .ok (.iload_n 1, 1) := by decide +kernel
theorem dX11_of_11 : decode cX11_of 11 = .ok (.ishl, 1) := by decide +kernel
theorem dX11_of_12 : decode cX11_of 12 = .ok (.istore_n 3, 1) := by decide +kernel
theorem dX11_of_13 : decode cX11_of 13 = .ok (.iload_n 2, 1) := by decide +kernel
theorem dX11_of_14 : decode cX11_of 14 = .ok (.tableswitch 93 0 4 #[34, 46, 55, 67, 79], 34) := by decide +kernel
theorem dX11_of_48 : decode cX11_of 48 = .ok (.aload_n 0, 1) := by decide +kernel
theorem dX11_of_49 : decode cX11_of 49 = .ok (.getfield 10, 3) := by decide +kernel
theorem dX11_of_52 : decode cX11_of 52 = .ok (.getfield 116, 3) := by decide +kernel
theorem dX11_of_55 : decode cX11_of 55 = .ok (.iload_n 3, 1) := by decide +kernel
theorem dX11_of_56 : decode cX11_of 56 = .ok (.invokestatic 119, 3) := by decide +kernel
theorem dX11_of_59 : decode cX11_of 59 = .ok (.ireturn, 1) := by decide +kernel
theorem dX11_of_60 : decode cX11_of 60 = .ok (.aload_n 0, 1) := by decide +kernel
theorem dX11_of_61 : decode cX11_of 61 = .ok (.getfield 10, 3) := by decide +kernel
theorem dX11_of_64 : decode cX11_of 64 = .ok (.iload_n 1, 1) := by decide +kernel
theorem dX11_of_65 : decode cX11_of 65 = .ok (.invokevirtual 123, 3) := by decide +kernel
theorem dX11_of_68 : decode cX11_of 68 = .ok (.ireturn, 1) := by decide +kernel
theorem dX11_of_69 : decode cX11_of 69 = .ok (.aload_n 0, 1) := by decide +kernel
theorem dX11_of_70 : decode cX11_of 70 = .ok (.getfield 10, 3) := by decide +kernel
theorem dX11_of_73 : decode cX11_of 73 = .ok (.getfield 127, 3) := by decide +kernel
theorem dX11_of_76 : decode cX11_of 76 = .ok (.iload_n 3, 1) := by decide +kernel
theorem dX11_of_77 : decode cX11_of 77 = .ok (.invokestatic 119, 3) := by decide +kernel
theorem dX11_of_80 : decode cX11_of 80 = .ok (.ireturn, 1) := by decide +kernel
theorem dX11_of_81 : decode cX11_of 81 = .ok (.aload_n 0, 1) := by decide +kernel
theorem dX11_of_82 : decode cX11_of 82 = .ok (.getfield 10, 3) := by decide +kernel
theorem dX11_of_85 : decode cX11_of 85 = .ok (.getfield 130, 3) := by decide +kernel
theorem dX11_of_88 : decode cX11_of 88 = .ok (.iload_n 3, 1) := by decide +kernel
theorem dX11_of_89 : decode cX11_of 89 = .ok (.invokestatic 119, 3) := by decide +kernel
theorem dX11_of_92 : decode cX11_of 92 = .ok (.ireturn, 1) := by decide +kernel
theorem dX11_of_93 : decode cX11_of 93 = .ok (.iconst 1, 1) := by decide +kernel
theorem dX11_of_94 : decode cX11_of 94 = .ok (.aload_n 0, 1) := by decide +kernel
theorem dX11_of_95 : decode cX11_of 95 = .ok (.getfield 10, 3) := by decide +kernel
theorem dX11_of_98 : decode cX11_of 98 = .ok (.invokevirtual 133, 3) := by decide +kernel
theorem dX11_of_101 : decode cX11_of 101 = .ok (.iload_n 3, 1) := by decide +kernel
theorem dX11_of_102 : decode cX11_of 102 = .ok (.invokestatic 119, 3) := by decide +kernel
theorem dX11_of_105 : decode cX11_of 105 = .ok (.isub, 1) := by decide +kernel
theorem dX11_of_106 : decode cX11_of 106 = .ok (.ireturn, 1) := by decide +kernel
theorem dX11_of_107 : decode cX11_of 107 = .ok (.iconst (-1), 1) := by decide +kernel
theorem dX11_of_108 : decode cX11_of 108 = .ok (.ireturn, 1) := by decide +kernel
theorem dX11_isCell_0 : decode cX11_isCell 0 = .ok (.iload_n 0, 1) := by decide +kernel
theorem dX11_isCell_1 : decode cX11_isCell 1 = .ok (.ifCond .lt 13, 3) := by decide +kernel
theorem dX11_isCell_4 : decode cX11_isCell 4 = .ok (.iload_n 0, 1) := by decide +kernel
theorem dX11_isCell_5 : decode cX11_isCell 5 = .ok (.bipush 24, 2) := by decide +kernel
theorem dX11_isCell_7 : decode cX11_isCell 7 = .ok (.if_icmp .ge 7, 3) := by decide +kernel
theorem dX11_isCell_10 : decode cX11_isCell 10 = .ok (.iconst 1, 1) := by decide +kernel
theorem dX11_isCell_11 : decode cX11_isCell 11 = .ok (.goto 4, 3) := by decide +kernel
theorem dX11_isCell_14 : decode cX11_isCell 14 = .ok (.iconst 0, 1) := by decide +kernel
theorem dX11_isCell_15 : decode cX11_isCell 15 = .ok (.ireturn, 1) := by decide +kernel
theorem dX11_cell_0 : decode cX11_cell 0 = .ok (.iload_n 1, 1) := by decide +kernel
theorem dX11_cell_1 : decode cX11_cell 1 = .ok (.invokestatic 137, 3) := by decide +kernel
theorem dX11_cell_4 : decode cX11_cell 4 = .ok (.ifCond .ne 5, 3) := by decide +kernel
theorem dX11_cell_7 : decode cX11_cell 7 = .ok (.iconst (-1), 1) := by decide +kernel
theorem dX11_cell_8 : decode cX11_cell 8 = .ok (.ireturn, 1) := by decide +kernel
theorem dX11_cell_9 : decode cX11_cell 9 = .ok (.aload_n 0, 1) := by decide +kernel
theorem dX11_cell_10 : decode cX11_cell 10 = .ok (.getfield 10, 3) := by decide +kernel
theorem dX11_cell_13 : decode cX11_cell 13 = .ok (.getfield 140, 3) := by decide +kernel
theorem dX11_cell_16 : decode cX11_cell 16 = .ok (.astore_n 3, 1) := by decide +kernel
theorem dX11_cell_17 : decode cX11_cell 17 = .ok (.iload_n 2, 1) := by decide +kernel
theorem dX11_cell_18 : decode cX11_cell 18 = .ok (.ifCond .ne 10, 3) := by decide +kernel
theorem dX11_cell_21 : decode cX11_cell 21 = .ok (.aload_n 3, 1) := by decide +kernel
theorem dX11_cell_22 : decode cX11_cell 22 = .ok (.getfield 144, 3) := by decide +kernel
theorem dX11_cell_25 : decode cX11_cell 25 = .ok (.iload_n 1, 1) := by decide +kernel
theorem dX11_cell_26 : decode cX11_cell 26 = .ok (.iaload, 1) := by decide +kernel
theorem dX11_cell_27 : decode cX11_cell 27 = .ok (.ireturn, 1) := by decide +kernel
theorem dX11_cell_28 : decode cX11_cell 28 = .ok (.aload_n 3, 1) := by decide +kernel
theorem dX11_cell_29 : decode cX11_cell 29 = .ok (.getfield 144, 3) := by decide +kernel
theorem dX11_cell_32 : decode cX11_cell 32 = .ok (.iload_n 1, 1) := by decide +kernel
theorem dX11_cell_33 : decode cX11_cell 33 = .ok (.iaload, 1) := by decide +kernel
theorem dX11_cell_34 : decode cX11_cell 34 = .ok (.ifCond .ne 5, 3) := by decide +kernel
theorem dX11_cell_37 : decode cX11_cell 37 = .ok (.iconst (-1), 1) := by decide +kernel
theorem dX11_cell_38 : decode cX11_cell 38 = .ok (.ireturn, 1) := by decide +kernel
theorem dX11_cell_39 : decode cX11_cell 39 = .ok (.iload_n 2, 1) := by decide +kernel
theorem dX11_cell_40 : decode cX11_cell 40 = .ok (.tableswitch 49 1 3 #[28, 35, 42], 28) := by decide +kernel
theorem dX11_cell_68 : decode cX11_cell 68 = .ok (.aload_n 3, 1) := by decide +kernel
theorem dX11_cell_69 : decode cX11_cell 69 = .ok (.getfield 149, 3) := by decide +kernel
theorem dX11_cell_72 : decode cX11_cell 72 = .ok (.iload_n 1, 1) := by decide +kernel
theorem dX11_cell_73 : decode cX11_cell 73 = .ok (.iaload, 1) := by decide +kernel
theorem dX11_cell_74 : decode cX11_cell 74 = .ok (.ireturn, 1) := by decide +kernel
theorem dX11_cell_75 : decode cX11_cell 75 = .ok (.aload_n 3, 1) := by decide +kernel
theorem dX11_cell_76 : decode cX11_cell 76 = .ok (.getfield 152, 3) := by decide +kernel
theorem dX11_cell_79 : decode cX11_cell 79 = .ok (.iload_n 1, 1) := by decide +kernel
theorem dX11_cell_80 : decode cX11_cell 80 = .ok (.iaload, 1) := by decide +kernel
theorem dX11_cell_81 : decode cX11_cell 81 = .ok (.ireturn, 1) := by decide +kernel
theorem dX11_cell_82 : decode cX11_cell 82 = .ok (.aload_n 3, 1) := by decide +kernel
theorem dX11_cell_83 : decode cX11_cell 83 = .ok (.getfield 155, 3) := by decide +kernel
theorem dX11_cell_86 : decode cX11_cell 86 = .ok (.iload_n 1, 1) := by decide +kernel
theorem dX11_cell_87 : decode cX11_cell 87 = .ok (.iaload, 1) := by decide +kernel
theorem dX11_cell_88 : decode cX11_cell 88 = .ok (.ireturn, 1) := by decide +kernel
theorem dX11_cell_89 : decode cX11_cell 89 = .ok (.iconst (-1), 1) := by decide +kernel
theorem dX11_cell_90 : decode cX11_cell 90 = .ok (.ireturn, 1) := by decide +kernel
theorem dX0_along_0 : decode cX0_along 0 = .ok (.iload_n 1, 1) := by decide +kernel
theorem dX0_along_1 : decode cX0_along 1 = .ok (.istore_n 3, 1) := by decide +kernel
theorem dX0_along_2 : decode cX0_along 2 = .ok (.iconst 0, 1) := by decide +kernel
theorem dX0_along_3 : decode cX0_along 3 = .ok (.istore 4, 2) := by decide +kernel
theorem dX0_along_5 : decode cX0_along 5 = .ok (.iload 4, 2) := by decide +kernel
theorem dX0_along_7 : decode cX0_along 7 = .ok (.iload_n 2, 1) := by decide +kernel
theorem dX0_along_8 : decode cX0_along 8 = .ok (.if_icmp .ge 30, 3) := by decide +kernel
theorem dX0_along_11 : decode cX0_along 11 = .ok (.iload 4, 2) := by decide +kernel
theorem dX0_along_13 : decode cX0_along 13 = .ok (.bipush 24, 2) := by decide +kernel
theorem dX0_along_15 : decode cX0_along 15 = .ok (.if_icmp .ge 23, 3) := by decide +kernel
theorem dX0_along_18 : decode cX0_along 18 = .ok (.iload_n 3, 1) := by decide +kernel
theorem dX0_along_19 : decode cX0_along 19 = .ok (.invokestatic 46, 3) := by decide +kernel
theorem dX0_along_22 : decode cX0_along 22 = .ok (.ifCond .eq 16, 3) := by decide +kernel
theorem dX0_along_25 : decode cX0_along 25 = .ok (.aload_n 0, 1) := by decide +kernel
theorem dX0_along_26 : decode cX0_along 26 = .ok (.getfield 21, 3) := by decide +kernel
theorem dX0_along_29 : decode cX0_along 29 = .ok (.iload_n 3, 1) := by decide +kernel
theorem dX0_along_30 : decode cX0_along 30 = .ok (.iaload, 1) := by decide +kernel
theorem dX0_along_31 : decode cX0_along 31 = .ok (.istore_n 3, 1) := by decide +kernel
theorem dX0_along_32 : decode cX0_along 32 = .ok (.iinc 4 1, 3) := by decide +kernel
theorem dX0_along_35 : decode cX0_along 35 = .ok (.goto (-30), 3) := by decide +kernel
theorem dX0_along_38 : decode cX0_along 38 = .ok (.iload_n 2, 1) := by decide +kernel
theorem dX0_along_39 : decode cX0_along 39 = .ok (.ifCond .lt 20, 3) := by decide +kernel
theorem dX0_along_42 : decode cX0_along 42 = .ok (.iload_n 2, 1) := by decide +kernel
theorem dX0_along_43 : decode cX0_along 43 = .ok (.bipush 24, 2) := by decide +kernel
theorem dX0_along_45 : decode cX0_along 45 = .ok (.if_icmp .ge 14, 3) := by decide +kernel
theorem dX0_along_48 : decode cX0_along 48 = .ok (.iload_n 3, 1) := by decide +kernel
theorem dX0_along_49 : decode cX0_along 49 = .ok (.invokestatic 46, 3) := by decide +kernel
theorem dX0_along_52 : decode cX0_along 52 = .ok (.ifCond .eq 7, 3) := by decide +kernel
theorem dX0_along_55 : decode cX0_along 55 = .ok (.iload_n 3, 1) := by decide +kernel
theorem dX0_along_56 : decode cX0_along 56 = .ok (.goto 4, 3) := by decide +kernel
theorem dX0_along_59 : decode cX0_along 59 = .ok (.iconst (-1), 1) := by decide +kernel
theorem dX0_along_60 : decode cX0_along 60 = .ok (.ireturn, 1) := by decide +kernel
theorem dX11_list_0 : decode cX11_list 0 = .ok (.aload_n 0, 1) := by decide +kernel
theorem dX11_list_1 : decode cX11_list 1 = .ok (.getfield 10, 3) := by decide +kernel
theorem dX11_list_4 : decode cX11_list 4 = .ok (.getfield 140, 3) := by decide +kernel
theorem dX11_list_7 : decode cX11_list 7 = .ok (.aload_n 0, 1) := by decide +kernel
theorem dX11_list_8 : decode cX11_list 8 = .ok (.getfield 10, 3) := by decide +kernel
theorem dX11_list_11 : decode cX11_list 11 = .ok (.getfield 140, 3) := by decide +kernel
theorem dX11_list_14 : decode cX11_list 14 = .ok (.getfield 158, 3) := by decide +kernel
theorem dX11_list_17 : decode cX11_list 17 = .ok (.iload_n 1, 1) := by decide +kernel
theorem dX11_list_18 : decode cX11_list 18 = .ok (.invokevirtual 161, 3) := by decide +kernel
theorem dX11_list_21 : decode cX11_list 21 = .ok (.ireturn, 1) := by decide +kernel
theorem dX0_lastBelow_0 : decode cX0_lastBelow 0 = .ok (.iconst (-1), 1) := by decide +kernel
theorem dX0_lastBelow_1 : decode cX0_lastBelow 1 = .ok (.istore_n 2, 1) := by decide +kernel
theorem dX0_lastBelow_2 : decode cX0_lastBelow 2 = .ok (.aload_n 0, 1) := by decide +kernel
theorem dX0_lastBelow_3 : decode cX0_lastBelow 3 = .ok (.getfield 30, 3) := by decide +kernel
theorem dX0_lastBelow_6 : decode cX0_lastBelow 6 = .ok (.istore_n 3, 1) := by decide +kernel
theorem dX0_lastBelow_7 : decode cX0_lastBelow 7 = .ok (.iconst 0, 1) := by decide +kernel
theorem dX0_lastBelow_8 : decode cX0_lastBelow 8 = .ok (.istore 4, 2) := by decide +kernel
theorem dX0_lastBelow_10 : decode cX0_lastBelow 10 = .ok (.iload 4, 2) := by decide +kernel
theorem dX0_lastBelow_12 : decode cX0_lastBelow 12 = .ok (.bipush 24, 2) := by decide +kernel
theorem dX0_lastBelow_14 : decode cX0_lastBelow 14 = .ok (.if_icmp .ge 35, 3) := by decide +kernel
theorem dX0_lastBelow_17 : decode cX0_lastBelow 17 = .ok (.iload_n 3, 1) := by decide +kernel
theorem dX0_lastBelow_18 : decode cX0_lastBelow 18 = .ok (.invokestatic 46, 3) := by decide +kernel
theorem dX0_lastBelow_21 : decode cX0_lastBelow 21 = .ok (.ifCond .eq 28, 3) := by decide +kernel
theorem dX0_lastBelow_24 : decode cX0_lastBelow 24 = .ok (.aload_n 0, 1) := by decide +kernel
theorem dX0_lastBelow_25 : decode cX0_lastBelow 25 = .ok (.getfield 15, 3) := by decide +kernel
theorem dX0_lastBelow_28 : decode cX0_lastBelow 28 = .ok (.iload_n 3, 1) := by decide +kernel
theorem dX0_lastBelow_29 : decode cX0_lastBelow 29 = .ok (.iaload, 1) := by decide +kernel
theorem dX0_lastBelow_30 : decode cX0_lastBelow 30 = .ok (.iload_n 1, 1) := by decide +kernel
theorem dX0_lastBelow_31 : decode cX0_lastBelow 31 = .ok (.if_icmp .ge 18, 3) := by decide +kernel
theorem dX0_lastBelow_34 : decode cX0_lastBelow 34 = .ok (.iload_n 3, 1) := by decide +kernel
theorem dX0_lastBelow_35 : decode cX0_lastBelow 35 = .ok (.istore_n 2, 1) := by decide +kernel
theorem dX0_lastBelow_36 : decode cX0_lastBelow 36 = .ok (.aload_n 0, 1) := by decide +kernel
theorem dX0_lastBelow_37 : decode cX0_lastBelow 37 = .ok (.getfield 21, 3) := by decide +kernel
theorem dX0_lastBelow_40 : decode cX0_lastBelow 40 = .ok (.iload_n 3, 1) := by decide +kernel
theorem dX0_lastBelow_41 : decode cX0_lastBelow 41 = .ok (.iaload, 1) := by decide +kernel
theorem dX0_lastBelow_42 : decode cX0_lastBelow 42 = .ok (.istore_n 3, 1) := by decide +kernel
theorem dX0_lastBelow_43 : decode cX0_lastBelow 43 = .ok (.iinc 4 1, 3) := by decide +kernel
theorem dX0_lastBelow_46 : decode cX0_lastBelow 46 = .ok (.goto (-36), 3) := by decide +kernel
theorem dX0_lastBelow_49 : decode cX0_lastBelow 49 = .ok (.iload_n 2, 1) := by decide +kernel
theorem dX0_lastBelow_50 : decode cX0_lastBelow 50 = .ok (.ireturn, 1) := by decide +kernel
theorem dX0_follower_0 : decode cX0_follower 0 = .ok (.iload_n 1, 1) := by decide +kernel
theorem dX0_follower_1 : decode cX0_follower 1 = .ok (.invokestatic 46, 3) := by decide +kernel
theorem dX0_follower_4 : decode cX0_follower 4 = .ok (.ifCond .eq 12, 3) := by decide +kernel
theorem dX0_follower_7 : decode cX0_follower 7 = .ok (.aload_n 0, 1) := by decide +kernel
theorem dX0_follower_8 : decode cX0_follower 8 = .ok (.getfield 21, 3) := by decide +kernel
theorem dX0_follower_11 : decode cX0_follower 11 = .ok (.iload_n 1, 1) := by decide +kernel
theorem dX0_follower_12 : decode cX0_follower 12 = .ok (.iaload, 1) := by decide +kernel
theorem dX0_follower_13 : decode cX0_follower 13 = .ok (.goto 7, 3) := by decide +kernel
theorem dX0_follower_16 : decode cX0_follower 16 = .ok (.aload_n 0, 1) := by decide +kernel
theorem dX0_follower_17 : decode cX0_follower 17 = .ok (.getfield 30, 3) := by decide +kernel
theorem dX0_follower_20 : decode cX0_follower 20 = .ok (.ireturn, 1) := by decide +kernel
theorem dX0_holding_0 : decode cX0_holding 0 = .ok (.aload_n 0, 1) := by decide +kernel
theorem dX0_holding_1 : decode cX0_holding 1 = .ok (.aload_n 0, 1) := by decide +kernel
theorem dX0_holding_2 : decode cX0_holding 2 = .ok (.iload_n 1, 1) := by decide +kernel
theorem dX0_holding_3 : decode cX0_holding 3 = .ok (.invokevirtual 50, 3) := by decide +kernel
theorem dX0_holding_6 : decode cX0_holding 6 = .ok (.invokevirtual 54, 3) := by decide +kernel
theorem dX0_holding_9 : decode cX0_holding 9 = .ok (.istore_n 2, 1) := by decide +kernel
theorem dX0_holding_10 : decode cX0_holding 10 = .ok (.iload_n 2, 1) := by decide +kernel
theorem dX0_holding_11 : decode cX0_holding 11 = .ok (.invokestatic 46, 3) := by decide +kernel
theorem dX0_holding_14 : decode cX0_holding 14 = .ok (.ifCond .eq 17, 3) := by decide +kernel
theorem dX0_holding_17 : decode cX0_holding 17 = .ok (.aload_n 0, 1) := by decide +kernel
theorem dX0_holding_18 : decode cX0_holding 18 = .ok (.getfield 15, 3) := by decide +kernel
theorem dX0_holding_21 : decode cX0_holding 21 = .ok (.iload_n 2, 1) := by decide +kernel
theorem dX0_holding_22 : decode cX0_holding 22 = .ok (.iaload, 1) := by decide +kernel
theorem dX0_holding_23 : decode cX0_holding 23 = .ok (.iload_n 1, 1) := by decide +kernel
theorem dX0_holding_24 : decode cX0_holding 24 = .ok (.if_icmp .ne 7, 3) := by decide +kernel
theorem dX0_holding_27 : decode cX0_holding 27 = .ok (.iload_n 2, 1) := by decide +kernel
theorem dX0_holding_28 : decode cX0_holding 28 = .ok (.goto 4, 3) := by decide +kernel
theorem dX0_holding_31 : decode cX0_holding 31 = .ok (.iconst (-1), 1) := by decide +kernel
theorem dX0_holding_32 : decode cX0_holding 32 = .ok (.ireturn, 1) := by decide +kernel
theorem dX11_find_0 : decode cX11_find 0 = .ok (.aload_n 0, 1) := by decide +kernel
theorem dX11_find_1 : decode cX11_find 1 = .ok (.getfield 10, 3) := by decide +kernel
theorem dX11_find_4 : decode cX11_find 4 = .ok (.getfield 140, 3) := by decide +kernel
theorem dX11_find_7 : decode cX11_find 7 = .ok (.iload_n 1, 1) := by decide +kernel
theorem dX11_find_8 : decode cX11_find 8 = .ok (.invokevirtual 164, 3) := by decide +kernel
theorem dX11_find_11 : decode cX11_find 11 = .ok (.istore_n 2, 1) := by decide +kernel
theorem dX11_find_12 : decode cX11_find 12 = .ok (.iload_n 2, 1) := by decide +kernel
theorem dX11_find_13 : decode cX11_find 13 = .ok (.invokestatic 137, 3) := by decide +kernel
theorem dX11_find_16 : decode cX11_find 16 = .ok (.ifCond .eq 18, 3) := by decide +kernel
theorem dX11_find_19 : decode cX11_find 19 = .ok (.aload_n 0, 1) := by decide +kernel
theorem dX11_find_20 : decode cX11_find 20 = .ok (.getfield 10, 3) := by decide +kernel
theorem dX11_find_23 : decode cX11_find 23 = .ok (.getfield 140, 3) := by decide +kernel
theorem dX11_find_26 : decode cX11_find 26 = .ok (.getfield 152, 3) := by decide +kernel
theorem dX11_find_29 : decode cX11_find 29 = .ok (.iload_n 2, 1) := by decide +kernel
theorem dX11_find_30 : decode cX11_find 30 = .ok (.iaload, 1) := by decide +kernel
theorem dX11_find_31 : decode cX11_find 31 = .ok (.goto 4, 3) := by decide +kernel
theorem dX11_find_34 : decode cX11_find 34 = .ok (.iconst (-1), 1) := by decide +kernel
theorem dX11_find_35 : decode cX11_find 35 = .ok (.ireturn, 1) := by decide +kernel
theorem dX11_isNode_0 : decode cX11_isNode 0 = .ok (.iload_n 0, 1) := by decide +kernel
theorem dX11_isNode_1 : decode cX11_isNode 1 = .ok (.iconst 1, 1) := by decide +kernel
theorem dX11_isNode_2 : decode cX11_isNode 2 = .ok (.if_icmp .lt 13, 3) := by decide +kernel
theorem dX11_isNode_5 : decode cX11_isNode 5 = .ok (.iload_n 0, 1) := by decide +kernel
theorem dX11_isNode_6 : decode cX11_isNode 6 = .ok (.bipush 8, 2) := by decide +kernel
theorem dX11_isNode_8 : decode cX11_isNode 8 = .ok (.if_icmp .ge 7, 3) := by decide +kernel
theorem dX11_isNode_11 : decode cX11_isNode 11 = .ok (.iconst 1, 1) := by decide +kernel
theorem dX11_isNode_12 : decode cX11_isNode 12 = .ok (.goto 4, 3) := by decide +kernel
theorem dX11_isNode_15 : decode cX11_isNode 15 = .ok (.iconst 0, 1) := by decide +kernel
theorem dX11_isNode_16 : decode cX11_isNode 16 = .ok (.ireturn, 1) := by decide +kernel
theorem dX11_node_0 : decode cX11_node 0 = .ok (.iload_n 1, 1) := by decide +kernel
theorem dX11_node_1 : decode cX11_node 1 = .ok (.invokestatic 167, 3) := by decide +kernel
theorem dX11_node_4 : decode cX11_node 4 = .ok (.ifCond .ne 5, 3) := by decide +kernel
theorem dX11_node_7 : decode cX11_node 7 = .ok (.iconst (-1), 1) := by decide +kernel
theorem dX11_node_8 : decode cX11_node 8 = .ok (.ireturn, 1) := by decide +kernel
theorem dX11_node_9 : decode cX11_node 9 = .ok (.aload_n 0, 1) := by decide +kernel
theorem dX11_node_10 : decode cX11_node 10 = .ok (.getfield 10, 3) := by decide +kernel
theorem dX11_node_13 : decode cX11_node 13 = .ok (.getfield 170, 3) := by decide +kernel
theorem dX11_node_16 : decode cX11_node 16 = .ok (.ifCond .eq 15, 3) := by decide +kernel
theorem dX11_node_19 : decode cX11_node 19 = .ok (.aload_n 0, 1) := by decide +kernel
theorem dX11_node_20 : decode cX11_node 20 = .ok (.getfield 10, 3) := by decide +kernel
theorem dX11_node_23 : decode cX11_node 23 = .ok (.getfield 174, 3) := by decide +kernel
theorem dX11_node_26 : decode cX11_node 26 = .ok (.iload_n 1, 1) := by decide +kernel
theorem dX11_node_27 : decode cX11_node 27 = .ok (.iaload, 1) := by decide +kernel
theorem dX11_node_28 : decode cX11_node 28 = .ok (.goto 4, 3) := by decide +kernel
theorem dX11_node_31 : decode cX11_node 31 = .ok (.iconst 0, 1) := by decide +kernel
theorem dX11_node_32 : decode cX11_node 32 = .ok (.ireturn, 1) := by decide +kernel
theorem dX11_old_0 : decode cX11_old 0 = .ok (.aload_n 0, 1) := by decide +kernel
theorem dX11_old_1 : decode cX11_old 1 = .ok (.getfield 10, 3) := by decide +kernel
theorem dX11_old_4 : decode cX11_old 4 = .ok (.getfield 140, 3) := by decide +kernel
theorem dX11_old_7 : decode cX11_old 7 = .ok (.astore_n 3, 1) := by decide +kernel
theorem dX11_old_8 : decode cX11_old 8 = .ok (.iload_n 1, 1) := by decide +kernel
theorem dX11_old_9 : decode cX11_old 9 = .ok (.ifCond .ne 28, 3) := by decide +kernel
theorem dX11_old_12 : decode cX11_old 12 = .ok (.iload_n 2, 1) := by decide +kernel
theorem dX11_old_13 : decode cX11_old 13 = .ok (.ifCond .lt 24, 3) := by decide +kernel
theorem dX11_old_16 : decode cX11_old 16 = .ok (.iload_n 2, 1) := by decide +kernel
theorem dX11_old_17 : decode cX11_old 17 = .ok (.aload_n 3, 1) := by decide +kernel
theorem dX11_old_18 : decode cX11_old 18 = .ok (.getfield 177, 3) := by decide +kernel
theorem dX11_old_21 : decode cX11_old 21 = .ok (.if_icmp .ge 16, 3) := by decide +kernel
theorem dX11_old_24 : decode cX11_old 24 = .ok (.iload_n 2, 1) := by decide +kernel
theorem dX11_old_25 : decode cX11_old 25 = .ok (.bipush 24, 2) := by decide +kernel
theorem dX11_old_27 : decode cX11_old 27 = .ok (.if_icmp .ge 10, 3) := by decide +kernel
theorem dX11_old_30 : decode cX11_old 30 = .ok (.aload_n 3, 1) := by decide +kernel
theorem dX11_old_31 : decode cX11_old 31 = .ok (.getfield 180, 3) := by decide +kernel
theorem dX11_old_34 : decode cX11_old 34 = .ok (.iload_n 2, 1) := by decide +kernel
theorem dX11_old_35 : decode cX11_old 35 = .ok (.iaload, 1) := by decide +kernel
theorem dX11_old_36 : decode cX11_old 36 = .ok (.ireturn, 1) := by decide +kernel
theorem dX11_old_37 : decode cX11_old 37 = .ok (.iload_n 1, 1) := by decide +kernel
theorem dX11_old_38 : decode cX11_old 38 = .ok (.iconst 1, 1) := by decide +kernel
theorem dX11_old_39 : decode cX11_old 39 = .ok (.if_icmp .ne 28, 3) := by decide +kernel
theorem dX11_old_42 : decode cX11_old 42 = .ok (.iload_n 2, 1) := by decide +kernel
theorem dX11_old_43 : decode cX11_old 43 = .ok (.ifCond .lt 24, 3) := by decide +kernel
theorem dX11_old_46 : decode cX11_old 46 = .ok (.iload_n 2, 1) := by decide +kernel
theorem dX11_old_47 : decode cX11_old 47 = .ok (.aload_n 3, 1) := by decide +kernel
theorem dX11_old_48 : decode cX11_old 48 = .ok (.getfield 183, 3) := by decide +kernel
theorem dX11_old_51 : decode cX11_old 51 = .ok (.if_icmp .ge 16, 3) := by decide +kernel
theorem dX11_old_54 : decode cX11_old 54 = .ok (.iload_n 2, 1) := by decide +kernel
theorem dX11_old_55 : decode cX11_old 55 = .ok (.bipush 24, 2) := by decide +kernel
theorem dX11_old_57 : decode cX11_old 57 = .ok (.if_icmp .ge 10, 3) := by decide +kernel
theorem dX11_old_60 : decode cX11_old 60 = .ok (.aload_n 3, 1) := by decide +kernel
theorem dX11_old_61 : decode cX11_old 61 = .ok (.getfield 186, 3) := by decide +kernel
theorem dX11_old_64 : decode cX11_old 64 = .ok (.iload_n 2, 1) := by decide +kernel
theorem dX11_old_65 : decode cX11_old 65 = .ok (.iaload, 1) := by decide +kernel
theorem dX11_old_66 : decode cX11_old 66 = .ok (.ireturn, 1) := by decide +kernel
theorem dX11_old_67 : decode cX11_old 67 = .ok (.iconst (-1), 1) := by decide +kernel
theorem dX11_old_68 : decode cX11_old 68 = .ok (.ireturn, 1) := by decide +kernel
theorem dX11_mostOfTerm_0 : decode cX11_mostOfTerm 0 = .ok (.iload_n 0, 1) := by decide +kernel
theorem dX11_mostOfTerm_1 : decode cX11_mostOfTerm 1 = .ok (.tableswitch 37 0 2 #[27, 31, 34], 27) := by decide +kernel
theorem dX11_mostOfTerm_28 : decode cX11_mostOfTerm 28 = .ok (.sipush 999, 3) := by decide +kernel
theorem dX11_mostOfTerm_31 : decode cX11_mostOfTerm 31 = .ok (.ireturn, 1) := by decide +kernel
theorem dX11_mostOfTerm_32 : decode cX11_mostOfTerm 32 = .ok (.bipush 10, 2) := by decide +kernel
theorem dX11_mostOfTerm_34 : decode cX11_mostOfTerm 34 = .ok (.ireturn, 1) := by decide +kernel
theorem dX11_mostOfTerm_35 : decode cX11_mostOfTerm 35 = .ok (.bipush 9, 2) := by decide +kernel
theorem dX11_mostOfTerm_37 : decode cX11_mostOfTerm 37 = .ok (.ireturn, 1) := by decide +kernel
theorem dX11_mostOfTerm_38 : decode cX11_mostOfTerm 38 = .ok (.iconst (-1), 1) := by decide +kernel
theorem dX11_mostOfTerm_39 : decode cX11_mostOfTerm 39 = .ok (.ireturn, 1) := by decide +kernel
theorem dX11_termNow_0 : decode cX11_termNow 0 = .ok (.iload_n 1, 1) := by decide +kernel
theorem dX11_termNow_1 : decode cX11_termNow 1 = .ok (.tableswitch 51 0 2 #[27, 35, 43], 27) := by decide +kernel
theorem dX11_termNow_28 : decode cX11_termNow 28 = .ok (.aload_n 0, 1) := by decide +kernel
theorem dX11_termNow_29 : decode cX11_termNow 29 = .ok (.getfield 10, 3) := by decide +kernel
theorem dX11_termNow_32 : decode cX11_termNow 32 = .ok (.getfield 198, 3) := by decide +kernel
theorem dX11_termNow_35 : decode cX11_termNow 35 = .ok (.ireturn, 1) := by decide +kernel
theorem dX11_termNow_36 : decode cX11_termNow 36 = .ok (.aload_n 0, 1) := by decide +kernel
theorem dX11_termNow_37 : decode cX11_termNow 37 = .ok (.getfield 31, 3) := by decide +kernel
theorem dX11_termNow_40 : decode cX11_termNow 40 = .ok (.getfield 201, 3) := by decide +kernel
theorem dX11_termNow_43 : decode cX11_termNow 43 = .ok (.ireturn, 1) := by decide +kernel
theorem dX11_termNow_44 : decode cX11_termNow 44 = .ok (.aload_n 0, 1) := by decide +kernel
theorem dX11_termNow_45 : decode cX11_termNow 45 = .ok (.getfield 31, 3) := by decide +kernel
theorem dX11_termNow_48 : decode cX11_termNow 48 = .ok (.getfield 204, 3) := by decide +kernel
theorem dX11_termNow_51 : decode cX11_termNow 51 = .ok (.ireturn, 1) := by decide +kernel
theorem dX11_termNow_52 : decode cX11_termNow 52 = .ok (.iconst (-1), 1) := by decide +kernel
theorem dX11_termNow_53 : decode cX11_termNow 53 = .ok (.ireturn, 1) := by decide +kernel
theorem dX2_clear_0 : decode cX2_clear 0 = .ok (.aload_n 0, 1) := by decide +kernel
theorem dX2_clear_1 : decode cX2_clear 1 = .ok (.iconst 0, 1) := by decide +kernel
theorem dX2_clear_2 : decode cX2_clear 2 = .ok (.putfield 25, 3) := by decide +kernel
theorem dX2_clear_5 : decode cX2_clear 5 = .ok (.return_, 1) := by decide +kernel
theorem dJ9_min_7cf53_0 : decode cJ9_min_7cf53 0 = .ok (.iload_n 0, 1) := by decide +kernel
theorem dJ9_min_7cf53_1 : decode cJ9_min_7cf53 1 = .ok (.iload_n 1, 1) := by decide +kernel
theorem dJ9_min_7cf53_2 : decode cJ9_min_7cf53 2 = .ok (.if_icmp .gt 7, 3) := by decide +kernel
theorem dJ9_min_7cf53_5 : decode cJ9_min_7cf53 5 = .ok (.iload_n 0, 1) := by decide +kernel
theorem dJ9_min_7cf53_6 : decode cJ9_min_7cf53 6 = .ok (.goto 4, 3) := by decide +kernel
theorem dJ9_min_7cf53_9 : decode cJ9_min_7cf53 9 = .ok (.iload_n 1, 1) := by decide +kernel
theorem dJ9_min_7cf53_10 : decode cJ9_min_7cf53 10 = .ok (.ireturn, 1) := by decide +kernel
theorem dX11_told_0 : decode cX11_told 0 = .ok (.aload_n 0, 1) := by decide +kernel
theorem dX11_told_1 : decode cX11_told 1 = .ok (.iload_n 1, 1) := by decide +kernel
theorem dX11_told_2 : decode cX11_told 2 = .ok (.iconst 0, 1) := by decide +kernel
theorem dX11_told_3 : decode cX11_told 3 = .ok (.invokestatic 387, 3) := by decide +kernel
theorem dX11_told_6 : decode cX11_told 6 = .ok (.putfield 103, 3) := by decide +kernel
theorem dX11_told_9 : decode cX11_told 9 = .ok (.iload_n 1, 1) := by decide +kernel
theorem dX11_told_10 : decode cX11_told 10 = .ok (.bipush (-3), 2) := by decide +kernel
theorem dX11_told_12 : decode cX11_told 12 = .ok (.if_icmp .lt 9, 3) := by decide +kernel
theorem dX11_told_15 : decode cX11_told 15 = .ok (.iconst (-1), 1) := by decide +kernel
theorem dX11_told_16 : decode cX11_told 16 = .ok (.iload_n 1, 1) := by decide +kernel
theorem dX11_told_17 : decode cX11_told 17 = .ok (.isub, 1) := by decide +kernel
theorem dX11_told_18 : decode cX11_told 18 = .ok (.goto 7, 3) := by decide +kernel
theorem dX11_told_21 : decode cX11_told 21 = .ok (.bipush (-2), 2) := by decide +kernel
theorem dX11_told_23 : decode cX11_told 23 = .ok (.iload_n 1, 1) := by decide +kernel
theorem dX11_told_24 : decode cX11_told 24 = .ok (.isub, 1) := by decide +kernel
theorem dX11_told_25 : decode cX11_told 25 = .ok (.istore_n 2, 1) := by decide +kernel
theorem dX11_told_26 : decode cX11_told 26 = .ok (.iload_n 1, 1) := by decide +kernel
theorem dX11_told_27 : decode cX11_told 27 = .ok (.ifCond .ge 26, 3) := by decide +kernel
theorem dX11_told_30 : decode cX11_told 30 = .ok (.iload_n 2, 1) := by decide +kernel
theorem dX11_told_31 : decode cX11_told 31 = .ok (.ifCond .lt 22, 3) := by decide +kernel
theorem dX11_told_34 : decode cX11_told 34 = .ok (.iload_n 2, 1) := by decide +kernel
theorem dX11_told_35 : decode cX11_told 35 = .ok (.aload_n 0, 1) := by decide +kernel
theorem dX11_told_36 : decode cX11_told 36 = .ok (.getfield 76, 3) := by decide +kernel
theorem dX11_told_39 : decode cX11_told 39 = .ok (.arraylength, 1) := by decide +kernel
theorem dX11_told_40 : decode cX11_told 40 = .ok (.if_icmp .ge 13, 3) := by decide +kernel
theorem dX11_told_43 : decode cX11_told 43 = .ok (.aload_n 0, 1) := by decide +kernel
theorem dX11_told_44 : decode cX11_told 44 = .ok (.getfield 76, 3) := by decide +kernel
theorem dX11_told_47 : decode cX11_told 47 = .ok (.iload_n 2, 1) := by decide +kernel
theorem dX11_told_48 : decode cX11_told 48 = .ok (.dup2, 1) := by decide +kernel
theorem dX11_told_49 : decode cX11_told 49 = .ok (.iaload, 1) := by decide +kernel
theorem dX11_told_50 : decode cX11_told 50 = .ok (.iconst 1, 1) := by decide +kernel
theorem dX11_told_51 : decode cX11_told 51 = .ok (.iadd, 1) := by decide +kernel
theorem dX11_told_52 : decode cX11_told 52 = .ok (.iastore, 1) := by decide +kernel
theorem dX11_told_53 : decode cX11_told 53 = .ok (.iload_n 1, 1) := by decide +kernel
theorem dX11_told_54 : decode cX11_told 54 = .ok (.ireturn, 1) := by decide +kernel
theorem dX11_terms_0 : decode cX11_terms 0 = .ok (.iload_n 1, 1) := by decide +kernel
theorem dX11_terms_1 : decode cX11_terms 1 = .ok (.invokestatic 189, 3) := by decide +kernel
theorem dX11_terms_4 : decode cX11_terms 4 = .ok (.istore_n 3, 1) := by decide +kernel
theorem dX11_terms_5 : decode cX11_terms 5 = .ok (.iload_n 2, 1) := by decide +kernel
theorem dX11_terms_6 : decode cX11_terms 6 = .ok (.ifCond .lt 8, 3) := by decide +kernel
theorem dX11_terms_9 : decode cX11_terms 9 = .ok (.iload_n 2, 1) := by decide +kernel
theorem dX11_terms_10 : decode cX11_terms 10 = .ok (.iload_n 3, 1) := by decide +kernel
theorem dX11_terms_11 : decode cX11_terms 11 = .ok (.if_icmp .le 9, 3) := by decide +kernel
theorem dX11_terms_14 : decode cX11_terms 14 = .ok (.aload_n 0, 1) := by decide +kernel
theorem dX11_terms_15 : decode cX11_terms 15 = .ok (.iconst (-1), 1) := by decide +kernel
theorem dX11_terms_16 : decode cX11_terms 16 = .ok (.invokevirtual 192, 3) := by decide +kernel
theorem dX11_terms_19 : decode cX11_terms 19 = .ok (.ireturn, 1) := by decide +kernel
theorem dX11_terms_20 : decode cX11_terms 20 = .ok (.aload_n 0, 1) := by decide +kernel
theorem dX11_terms_21 : decode cX11_terms 21 = .ok (.iload_n 1, 1) := by decide +kernel
theorem dX11_terms_22 : decode cX11_terms 22 = .ok (.invokevirtual 195, 3) := by decide +kernel
theorem dX11_terms_25 : decode cX11_terms 25 = .ok (.istore 4, 2) := by decide +kernel
theorem dX11_terms_27 : decode cX11_terms 27 = .ok (.iload_n 1, 1) := by decide +kernel
theorem dX11_terms_28 : decode cX11_terms 28 = .ok (.ifCond .ne 14, 3) := by decide +kernel
theorem dX11_terms_31 : decode cX11_terms 31 = .ok (.aload_n 0, 1) := by decide +kernel
theorem dX11_terms_32 : decode cX11_terms 32 = .ok (.getfield 10, 3) := by decide +kernel
theorem dX11_terms_35 : decode cX11_terms 35 = .ok (.iload_n 2, 1) := by decide +kernel
theorem dX11_terms_36 : decode cX11_terms 36 = .ok (.putfield 198, 3) := by decide +kernel
theorem dX11_terms_39 : decode cX11_terms 39 = .ok (.goto 27, 3) := by decide +kernel
theorem dX11_terms_42 : decode cX11_terms 42 = .ok (.iload_n 1, 1) := by decide +kernel
theorem dX11_terms_43 : decode cX11_terms 43 = .ok (.iconst 1, 1) := by decide +kernel
theorem dX11_terms_44 : decode cX11_terms 44 = .ok (.if_icmp .ne 14, 3) := by decide +kernel
theorem dX11_terms_47 : decode cX11_terms 47 = .ok (.aload_n 0, 1) := by decide +kernel
theorem dX11_terms_48 : decode cX11_terms 48 = .ok (.getfield 31, 3) := by decide +kernel
theorem dX11_terms_51 : decode cX11_terms 51 = .ok (.iload_n 2, 1) := by decide +kernel
theorem dX11_terms_52 : decode cX11_terms 52 = .ok (.putfield 201, 3) := by decide +kernel
theorem dX11_terms_55 : decode cX11_terms 55 = .ok (.goto 11, 3) := by decide +kernel
theorem dX11_terms_58 : decode cX11_terms 58 = .ok (.aload_n 0, 1) := by decide +kernel
theorem dX11_terms_59 : decode cX11_terms 59 = .ok (.getfield 31, 3) := by decide +kernel
theorem dX11_terms_62 : decode cX11_terms 62 = .ok (.iload_n 2, 1) := by decide +kernel
theorem dX11_terms_63 : decode cX11_terms 63 = .ok (.putfield 204, 3) := by decide +kernel
theorem dX11_terms_66 : decode cX11_terms 66 = .ok (.aload_n 0, 1) := by decide +kernel
theorem dX11_terms_67 : decode cX11_terms 67 = .ok (.getfield 45, 3) := by decide +kernel
theorem dX11_terms_70 : decode cX11_terms 70 = .ok (.invokevirtual 207, 3) := by decide +kernel
theorem dX11_terms_73 : decode cX11_terms 73 = .ok (.aload_n 0, 1) := by decide +kernel
theorem dX11_terms_74 : decode cX11_terms 74 = .ok (.iload 4, 2) := by decide +kernel
theorem dX11_terms_76 : decode cX11_terms 76 = .ok (.invokevirtual 192, 3) := by decide +kernel
theorem dX11_terms_79 : decode cX11_terms 79 = .ok (.ireturn, 1) := by decide +kernel
theorem dX7_addFour_0 : decode cX7_addFour 0 = .ok (.bipush 24, 2) := by decide +kernel
theorem dX7_addFour_2 : decode cX7_addFour 2 = .ok (.istore_n 2, 1) := by decide +kernel
theorem dX7_addFour_3 : decode cX7_addFour 3 = .ok (.iload_n 2, 1) := by decide +kernel
theorem dX7_addFour_4 : decode cX7_addFour 4 = .ok (.ifCond .lt 45, 3) := by decide +kernel
theorem dX7_addFour_7 : decode cX7_addFour 7 = .ok (.aload_n 0, 1) := by decide +kernel
theorem dX7_addFour_8 : decode cX7_addFour 8 = .ok (.getfield 15, 3) := by decide +kernel
theorem dX7_addFour_11 : decode cX7_addFour 11 = .ok (.sipush 400, 3) := by decide +kernel
theorem dX7_addFour_14 : decode cX7_addFour 14 = .ok (.if_icmp .ge 35, 3) := by decide +kernel
theorem dX7_addFour_17 : decode cX7_addFour 17 = .ok (.aload_n 0, 1) := by decide +kernel
theorem dX7_addFour_18 : decode cX7_addFour 18 = .ok (.getfield 9, 3) := by decide +kernel
theorem dX7_addFour_21 : decode cX7_addFour 21 = .ok (.aload_n 0, 1) := by decide +kernel
theorem dX7_addFour_22 : decode cX7_addFour 22 = .ok (.getfield 15, 3) := by decide +kernel
theorem dX7_addFour_25 : decode cX7_addFour 25 = .ok (.iload_n 1, 1) := by decide +kernel
theorem dX7_addFour_26 : decode cX7_addFour 26 = .ok (.iload_n 2, 1) := by decide +kernel
theorem dX7_addFour_27 : decode cX7_addFour 27 = .ok (.iushr, 1) := by decide +kernel
theorem dX7_addFour_28 : decode cX7_addFour 28 = .ok (.sipush 255, 3) := by decide +kernel
theorem dX7_addFour_31 : decode cX7_addFour 31 = .ok (.iand, 1) := by decide +kernel
theorem dX7_addFour_32 : decode cX7_addFour 32 = .ok (.iastore, 1) := by decide +kernel
theorem dX7_addFour_33 : decode cX7_addFour 33 = .ok (.aload_n 0, 1) := by decide +kernel
theorem dX7_addFour_34 : decode cX7_addFour 34 = .ok (.dup, 1) := by decide +kernel
theorem dX7_addFour_35 : decode cX7_addFour 35 = .ok (.getfield 15, 3) := by decide +kernel
theorem dX7_addFour_38 : decode cX7_addFour 38 = .ok (.iconst 1, 1) := by decide +kernel
theorem dX7_addFour_39 : decode cX7_addFour 39 = .ok (.iadd, 1) := by decide +kernel
theorem dX7_addFour_40 : decode cX7_addFour 40 = .ok (.putfield 15, 3) := by decide +kernel
theorem dX7_addFour_43 : decode cX7_addFour 43 = .ok (.iinc 2 (-8), 3) := by decide +kernel
theorem dX7_addFour_46 : decode cX7_addFour 46 = .ok (.goto (-43), 3) := by decide +kernel
theorem dX7_addFour_49 : decode cX7_addFour 49 = .ok (.return_, 1) := by decide +kernel
theorem dX11_feed_0 : decode cX11_feed 0 = .ok (.aload_n 0, 1) := by decide +kernel
theorem dX11_feed_1 : decode cX11_feed 1 = .ok (.getfield 65, 3) := by decide +kernel
theorem dX11_feed_4 : decode cX11_feed 4 = .ok (.getfield 210, 3) := by decide +kernel
theorem dX11_feed_7 : decode cX11_feed 7 = .ok (.bipush 20, 2) := by decide +kernel
theorem dX11_feed_9 : decode cX11_feed 9 = .ok (.iadd, 1) := by decide +kernel
theorem dX11_feed_10 : decode cX11_feed 10 = .ok (.sipush 400, 3) := by decide +kernel
theorem dX11_feed_13 : decode cX11_feed 13 = .ok (.if_icmp .le 5, 3) := by decide +kernel
theorem dX11_feed_16 : decode cX11_feed 16 = .ok (.iconst (-1), 1) := by decide +kernel
theorem dX11_feed_17 : decode cX11_feed 17 = .ok (.ireturn, 1) := by decide +kernel
theorem dX11_feed_18 : decode cX11_feed 18 = .ok (.aload_n 0, 1) := by decide +kernel
theorem dX11_feed_19 : decode cX11_feed 19 = .ok (.getfield 65, 3) := by decide +kernel
theorem dX11_feed_22 : decode cX11_feed 22 = .ok (.iload_n 1, 1) := by decide +kernel
theorem dX11_feed_23 : decode cX11_feed 23 = .ok (.invokevirtual 213, 3) := by decide +kernel
theorem dX11_feed_26 : decode cX11_feed 26 = .ok (.aload_n 0, 1) := by decide +kernel
theorem dX11_feed_27 : decode cX11_feed 27 = .ok (.getfield 65, 3) := by decide +kernel
theorem dX11_feed_30 : decode cX11_feed 30 = .ok (.iload_n 2, 1) := by decide +kernel
theorem dX11_feed_31 : decode cX11_feed 31 = .ok (.invokevirtual 213, 3) := by decide +kernel
theorem dX11_feed_34 : decode cX11_feed 34 = .ok (.aload_n 0, 1) := by decide +kernel
theorem dX11_feed_35 : decode cX11_feed 35 = .ok (.getfield 65, 3) := by decide +kernel
theorem dX11_feed_38 : decode cX11_feed 38 = .ok (.iload_n 3, 1) := by decide +kernel
theorem dX11_feed_39 : decode cX11_feed 39 = .ok (.invokevirtual 213, 3) := by decide +kernel
theorem dX11_feed_42 : decode cX11_feed 42 = .ok (.aload_n 0, 1) := by decide +kernel
theorem dX11_feed_43 : decode cX11_feed 43 = .ok (.getfield 65, 3) := by decide +kernel
theorem dX11_feed_46 : decode cX11_feed 46 = .ok (.iload 4, 2) := by decide +kernel
theorem dX11_feed_48 : decode cX11_feed 48 = .ok (.invokevirtual 213, 3) := by decide +kernel
theorem dX11_feed_51 : decode cX11_feed 51 = .ok (.aload_n 0, 1) := by decide +kernel
theorem dX11_feed_52 : decode cX11_feed 52 = .ok (.getfield 65, 3) := by decide +kernel
theorem dX11_feed_55 : decode cX11_feed 55 = .ok (.iload 5, 2) := by decide +kernel
theorem dX11_feed_57 : decode cX11_feed 57 = .ok (.invokevirtual 213, 3) := by decide +kernel
theorem dX11_feed_60 : decode cX11_feed 60 = .ok (.aload_n 0, 1) := by decide +kernel
theorem dX11_feed_61 : decode cX11_feed 61 = .ok (.getfield 65, 3) := by decide +kernel
theorem dX11_feed_64 : decode cX11_feed 64 = .ok (.getfield 210, 3) := by decide +kernel
theorem dX11_feed_67 : decode cX11_feed 67 = .ok (.ireturn, 1) := by decide +kernel
theorem dX11_end_0 : decode cX11_end 0 = .ok (.iload_n 1, 1) := by decide +kernel
theorem dX11_end_1 : decode cX11_end 1 = .ok (.ifCond .lt 14, 3) := by decide +kernel
theorem dX11_end_4 : decode cX11_end 4 = .ok (.iload_n 1, 1) := by decide +kernel
theorem dX11_end_5 : decode cX11_end 5 = .ok (.aload_n 0, 1) := by decide +kernel
theorem dX11_end_6 : decode cX11_end 6 = .ok (.getfield 65, 3) := by decide +kernel
theorem dX11_end_9 : decode cX11_end 9 = .ok (.getfield 210, 3) := by decide +kernel
theorem dX11_end_12 : decode cX11_end 12 = .ok (.if_icmp .le 5, 3) := by decide +kernel
theorem dX11_end_15 : decode cX11_end 15 = .ok (.iconst (-1), 1) := by decide +kernel
theorem dX11_end_16 : decode cX11_end 16 = .ok (.ireturn, 1) := by decide +kernel
theorem dX11_end_17 : decode cX11_end 17 = .ok (.aload_n 0, 1) := by decide +kernel
theorem dX11_end_18 : decode cX11_end 18 = .ok (.getfield 65, 3) := by decide +kernel
theorem dX11_end_21 : decode cX11_end 21 = .ok (.iload_n 1, 1) := by decide +kernel
theorem dX11_end_22 : decode cX11_end 22 = .ok (.putfield 210, 3) := by decide +kernel
theorem dX11_end_25 : decode cX11_end 25 = .ok (.iload_n 1, 1) := by decide +kernel
theorem dX11_end_26 : decode cX11_end 26 = .ok (.ireturn, 1) := by decide +kernel
theorem dX6_lawAt_0 : decode cX6_lawAt 0 = .ok (.iload_n 1, 1) := by decide +kernel
theorem dX6_lawAt_1 : decode cX6_lawAt 1 = .ok (.ifCond .lt 26, 3) := by decide +kernel
theorem dX6_lawAt_4 : decode cX6_lawAt 4 = .ok (.iload_n 1, 1) := by decide +kernel
theorem dX6_lawAt_5 : decode cX6_lawAt 5 = .ok (.aload_n 0, 1) := by decide +kernel
theorem dX6_lawAt_6 : decode cX6_lawAt 6 = .ok (.getfield 17, 3) := by decide +kernel
theorem dX6_lawAt_9 : decode cX6_lawAt 9 = .ok (.if_icmp .ge 18, 3) := by decide +kernel
theorem dX6_lawAt_12 : decode cX6_lawAt 12 = .ok (.iload_n 1, 1) := by decide +kernel
theorem dX6_lawAt_13 : decode cX6_lawAt 13 = .ok (.bipush 6, 2) := by decide +kernel
theorem dX6_lawAt_15 : decode cX6_lawAt 15 = .ok (.if_icmp .ge 12, 3) := by decide +kernel
theorem dX6_lawAt_18 : decode cX6_lawAt 18 = .ok (.aload_n 0, 1) := by decide +kernel
theorem dX6_lawAt_19 : decode cX6_lawAt 19 = .ok (.getfield 11, 3) := by decide +kernel
theorem dX6_lawAt_22 : decode cX6_lawAt 22 = .ok (.iload_n 1, 1) := by decide +kernel
theorem dX6_lawAt_23 : decode cX6_lawAt 23 = .ok (.aaload, 1) := by decide +kernel
theorem dX6_lawAt_24 : decode cX6_lawAt 24 = .ok (.goto 4, 3) := by decide +kernel
theorem dX6_lawAt_27 : decode cX6_lawAt 27 = .ok (.aconst_null, 1) := by decide +kernel
theorem dX6_lawAt_28 : decode cX6_lawAt 28 = .ok (.areturn, 1) := by decide +kernel
theorem dX6_tellWhere_0 : decode cX6_tellWhere 0 = .ok (.aload_n 0, 1) := by decide +kernel
theorem dX6_tellWhere_1 : decode cX6_tellWhere 1 = .ok (.getfield 30, 3) := by decide +kernel
theorem dX6_tellWhere_4 : decode cX6_tellWhere 4 = .ok (.getfield 90, 3) := by decide +kernel
theorem dX6_tellWhere_7 : decode cX6_tellWhere 7 = .ok (.iconst 0, 1) := by decide +kernel
theorem dX6_tellWhere_8 : decode cX6_tellWhere 8 = .ok (.iload_n 1, 1) := by decide +kernel
theorem dX6_tellWhere_9 : decode cX6_tellWhere 9 = .ok (.iastore, 1) := by decide +kernel
theorem dX6_tellWhere_10 : decode cX6_tellWhere 10 = .ok (.aload_n 0, 1) := by decide +kernel
theorem dX6_tellWhere_11 : decode cX6_tellWhere 11 = .ok (.getfield 30, 3) := by decide +kernel
theorem dX6_tellWhere_14 : decode cX6_tellWhere 14 = .ok (.getfield 90, 3) := by decide +kernel
theorem dX6_tellWhere_17 : decode cX6_tellWhere 17 = .ok (.iconst 1, 1) := by decide +kernel
theorem dX6_tellWhere_18 : decode cX6_tellWhere 18 = .ok (.iload_n 2, 1) := by decide +kernel
theorem dX6_tellWhere_19 : decode cX6_tellWhere 19 = .ok (.iastore, 1) := by decide +kernel
theorem dX6_tellWhere_20 : decode cX6_tellWhere 20 = .ok (.aload_n 0, 1) := by decide +kernel
theorem dX6_tellWhere_21 : decode cX6_tellWhere 21 = .ok (.getfield 30, 3) := by decide +kernel
theorem dX6_tellWhere_24 : decode cX6_tellWhere 24 = .ok (.getfield 90, 3) := by decide +kernel
theorem dX6_tellWhere_27 : decode cX6_tellWhere 27 = .ok (.iconst 2, 1) := by decide +kernel
theorem dX6_tellWhere_28 : decode cX6_tellWhere 28 = .ok (.iload_n 3, 1) := by decide +kernel
theorem dX6_tellWhere_29 : decode cX6_tellWhere 29 = .ok (.iastore, 1) := by decide +kernel
theorem dX6_tellWhere_30 : decode cX6_tellWhere 30 = .ok (.aload_n 0, 1) := by decide +kernel
theorem dX6_tellWhere_31 : decode cX6_tellWhere 31 = .ok (.getfield 30, 3) := by decide +kernel
theorem dX6_tellWhere_34 : decode cX6_tellWhere 34 = .ok (.getfield 90, 3) := by decide +kernel
theorem dX6_tellWhere_37 : decode cX6_tellWhere 37 = .ok (.iconst 3, 1) := by decide +kernel
theorem dX6_tellWhere_38 : decode cX6_tellWhere 38 = .ok (.iload 4, 2) := by decide +kernel
theorem dX6_tellWhere_40 : decode cX6_tellWhere 40 = .ok (.iastore, 1) := by decide +kernel
theorem dX6_tellWhere_41 : decode cX6_tellWhere 41 = .ok (.return_, 1) := by decide +kernel
theorem dX6_tellWhat_0 : decode cX6_tellWhat 0 = .ok (.aload_n 0, 1) := by decide +kernel
theorem dX6_tellWhat_1 : decode cX6_tellWhat 1 = .ok (.getfield 30, 3) := by decide +kernel
theorem dX6_tellWhat_4 : decode cX6_tellWhat 4 = .ok (.getfield 90, 3) := by decide +kernel
theorem dX6_tellWhat_7 : decode cX6_tellWhat 7 = .ok (.iconst 4, 1) := by decide +kernel
theorem dX6_tellWhat_8 : decode cX6_tellWhat 8 = .ok (.iload_n 1, 1) := by decide +kernel
theorem dX6_tellWhat_9 : decode cX6_tellWhat 9 = .ok (.iastore, 1) := by decide +kernel
theorem dX6_tellWhat_10 : decode cX6_tellWhat 10 = .ok (.aload_n 0, 1) := by decide +kernel
theorem dX6_tellWhat_11 : decode cX6_tellWhat 11 = .ok (.getfield 30, 3) := by decide +kernel
theorem dX6_tellWhat_14 : decode cX6_tellWhat 14 = .ok (.getfield 90, 3) := by decide +kernel
theorem dX6_tellWhat_17 : decode cX6_tellWhat 17 = .ok (.iconst 5, 1) := by decide +kernel
theorem dX6_tellWhat_18 : decode cX6_tellWhat 18 = .ok (.iload_n 2, 1) := by decide +kernel
theorem dX6_tellWhat_19 : decode cX6_tellWhat 19 = .ok (.iastore, 1) := by decide +kernel
theorem dX6_tellWhat_20 : decode cX6_tellWhat 20 = .ok (.aload_n 0, 1) := by decide +kernel
theorem dX6_tellWhat_21 : decode cX6_tellWhat 21 = .ok (.getfield 30, 3) := by decide +kernel
theorem dX6_tellWhat_24 : decode cX6_tellWhat 24 = .ok (.getfield 90, 3) := by decide +kernel
theorem dX6_tellWhat_27 : decode cX6_tellWhat 27 = .ok (.bipush 6, 2) := by decide +kernel
theorem dX6_tellWhat_29 : decode cX6_tellWhat 29 = .ok (.aload_n 0, 1) := by decide +kernel
theorem dX6_tellWhat_30 : decode cX6_tellWhat 30 = .ok (.getfield 27, 3) := by decide +kernel
theorem dX6_tellWhat_33 : decode cX6_tellWhat 33 = .ok (.iastore, 1) := by decide +kernel
theorem dX6_tellWhat_34 : decode cX6_tellWhat 34 = .ok (.return_, 1) := by decide +kernel
theorem dX8_entry_0 : decode cX8_entry 0 = .ok (.iconst 5, 1) := by decide +kernel
theorem dX8_entry_1 : decode cX8_entry 1 = .ok (.iload_n 1, 1) := by decide +kernel
theorem dX8_entry_2 : decode cX8_entry 2 = .ok (.imul, 1) := by decide +kernel
theorem dX8_entry_3 : decode cX8_entry 3 = .ok (.iload_n 2, 1) := by decide +kernel
theorem dX8_entry_4 : decode cX8_entry 4 = .ok (.iadd, 1) := by decide +kernel
theorem dX8_entry_5 : decode cX8_entry 5 = .ok (.istore_n 3, 1) := by decide +kernel
theorem dX8_entry_6 : decode cX8_entry 6 = .ok (.iload_n 3, 1) := by decide +kernel
theorem dX8_entry_7 : decode cX8_entry 7 = .ok (.ifCond .lt 21, 3) := by decide +kernel
theorem dX8_entry_10 : decode cX8_entry 10 = .ok (.iload_n 3, 1) := by decide +kernel
theorem dX8_entry_11 : decode cX8_entry 11 = .ok (.aload_n 0, 1) := by decide +kernel
theorem dX8_entry_12 : decode cX8_entry 12 = .ok (.getfield 31, 3) := by decide +kernel
theorem dX8_entry_15 : decode cX8_entry 15 = .ok (.arraylength, 1) := by decide +kernel
theorem dX8_entry_16 : decode cX8_entry 16 = .ok (.if_icmp .ge 12, 3) := by decide +kernel
theorem dX8_entry_19 : decode cX8_entry 19 = .ok (.aload_n 0, 1) := by decide +kernel
theorem dX8_entry_20 : decode cX8_entry 20 = .ok (.getfield 31, 3) := by decide +kernel
theorem dX8_entry_23 : decode cX8_entry 23 = .ok (.iload_n 3, 1) := by decide +kernel
theorem dX8_entry_24 : decode cX8_entry 24 = .ok (.iaload, 1) := by decide +kernel
theorem dX8_entry_25 : decode cX8_entry 25 = .ok (.goto 4, 3) := by decide +kernel
theorem dX8_entry_28 : decode cX8_entry 28 = .ok (.iconst (-1), 1) := by decide +kernel
theorem dX8_entry_29 : decode cX8_entry 29 = .ok (.ireturn, 1) := by decide +kernel
theorem dX4_isBroken_0 : decode cX4_isBroken 0 = .ok (.iload_n 1, 1) := by decide +kernel
theorem dX4_isBroken_1 : decode cX4_isBroken 1 = .ok (.bipush 47, 2) := by decide +kernel
theorem dX4_isBroken_3 : decode cX4_isBroken 3 = .ok (.if_icmp .eq 9, 3) := by decide +kernel
theorem dX4_isBroken_6 : decode cX4_isBroken 6 = .ok (.iload_n 1, 1) := by decide +kernel
theorem dX4_isBroken_7 : decode cX4_isBroken 7 = .ok (.bipush 37, 2) := by decide +kernel
theorem dX4_isBroken_9 : decode cX4_isBroken 9 = .ok (.if_icmp .ne 12, 3) := by decide +kernel
theorem dX4_isBroken_12 : decode cX4_isBroken 12 = .ok (.lload 4, 2) := by decide +kernel
theorem dX4_isBroken_14 : decode cX4_isBroken 14 = .ok (.lconst 0, 1) := by decide +kernel
theorem dX4_isBroken_15 : decode cX4_isBroken 15 = .ok (.lcmp, 1) := by decide +kernel
theorem dX4_isBroken_16 : decode cX4_isBroken 16 = .ok (.ifCond .ne 5, 3) := by decide +kernel
theorem dX4_isBroken_19 : decode cX4_isBroken 19 = .ok (.iconst 1, 1) := by decide +kernel
theorem dX4_isBroken_20 : decode cX4_isBroken 20 = .ok (.ireturn, 1) := by decide +kernel
theorem dX4_isBroken_21 : decode cX4_isBroken 21 = .ok (.iload_n 1, 1) := by decide +kernel
theorem dX4_isBroken_22 : decode cX4_isBroken 22 = .ok (.tableswitch 252 37 62 #[173, 252, 252, 252, 252, 140, 118, 252, 129, 252, 151, 252, 252, 252, 252, 252, 252, 252, 252, 252, 252, 252, 252, 195, 233, 214], 118) := by decide +kernel
theorem dX4_isBroken_140 : decode cX4_isBroken 140 = .ok (.aload_n 0, 1) := by decide +kernel
theorem dX4_isBroken_141 : decode cX4_isBroken 141 = .ok (.lload_n 2, 1) := by decide +kernel
theorem dX4_isBroken_142 : decode cX4_isBroken 142 = .ok (.lload 4, 2) := by decide +kernel
theorem dX4_isBroken_144 : decode cX4_isBroken 144 = .ok (.ladd, 1) := by decide +kernel
theorem dX4_isBroken_145 : decode cX4_isBroken 145 = .ok (.putfield 21, 3) := by decide +kernel
theorem dX4_isBroken_148 : decode cX4_isBroken 148 = .ok (.goto 128, 3) := by decide +kernel
theorem dX4_isBroken_151 : decode cX4_isBroken 151 = .ok (.aload_n 0, 1) := by decide +kernel
theorem dX4_isBroken_152 : decode cX4_isBroken 152 = .ok (.lload_n 2, 1) := by decide +kernel
theorem dX4_isBroken_153 : decode cX4_isBroken 153 = .ok (.lload 4, 2) := by decide +kernel
theorem dX4_isBroken_155 : decode cX4_isBroken 155 = .ok (.lsub, 1) := by decide +kernel
theorem dX4_isBroken_156 : decode cX4_isBroken 156 = .ok (.putfield 21, 3) := by decide +kernel
theorem dX4_isBroken_159 : decode cX4_isBroken 159 = .ok (.goto 117, 3) := by decide +kernel
theorem dX4_isBroken_162 : decode cX4_isBroken 162 = .ok (.aload_n 0, 1) := by decide +kernel
theorem dX4_isBroken_163 : decode cX4_isBroken 163 = .ok (.lload_n 2, 1) := by decide +kernel
theorem dX4_isBroken_164 : decode cX4_isBroken 164 = .ok (.lload 4, 2) := by decide +kernel
theorem dX4_isBroken_166 : decode cX4_isBroken 166 = .ok (.lmul, 1) := by decide +kernel
theorem dX4_isBroken_167 : decode cX4_isBroken 167 = .ok (.putfield 21, 3) := by decide +kernel
theorem dX4_isBroken_170 : decode cX4_isBroken 170 = .ok (.goto 106, 3) := by decide +kernel
theorem dX4_isBroken_173 : decode cX4_isBroken 173 = .ok (.aload_n 0, 1) := by decide +kernel
theorem dX4_isBroken_174 : decode cX4_isBroken 174 = .ok (.lload 4, 2) := by decide +kernel
theorem dX4_isBroken_176 : decode cX4_isBroken 176 = .ok (.lconst 0, 1) := by decide +kernel
theorem dX4_isBroken_177 : decode cX4_isBroken 177 = .ok (.lcmp, 1) := by decide +kernel
theorem dX4_isBroken_178 : decode cX4_isBroken 178 = .ok (.ifCond .ne 7, 3) := by decide +kernel
theorem dX4_isBroken_181 : decode cX4_isBroken 181 = .ok (.lconst 0, 1) := by decide +kernel
theorem dX4_isBroken_182 : decode cX4_isBroken 182 = .ok (.goto 7, 3) := by decide +kernel
theorem dX4_isBroken_185 : decode cX4_isBroken 185 = .ok (.lload_n 2, 1) := by decide +kernel
theorem dX4_isBroken_186 : decode cX4_isBroken 186 = .ok (.lload 4, 2) := by decide +kernel
theorem dX4_isBroken_188 : decode cX4_isBroken 188 = .ok (.ldiv, 1) := by decide +kernel
theorem dX4_isBroken_189 : decode cX4_isBroken 189 = .ok (.putfield 21, 3) := by decide +kernel
theorem dX4_isBroken_192 : decode cX4_isBroken 192 = .ok (.goto 84, 3) := by decide +kernel
theorem dX4_isBroken_195 : decode cX4_isBroken 195 = .ok (.aload_n 0, 1) := by decide +kernel
theorem dX4_isBroken_196 : decode cX4_isBroken 196 = .ok (.lload 4, 2) := by decide +kernel
theorem dX4_isBroken_198 : decode cX4_isBroken 198 = .ok (.lconst 0, 1) := by decide +kernel
theorem dX4_isBroken_199 : decode cX4_isBroken 199 = .ok (.lcmp, 1) := by decide +kernel
theorem dX4_isBroken_200 : decode cX4_isBroken 200 = .ok (.ifCond .ne 7, 3) := by decide +kernel
theorem dX4_isBroken_203 : decode cX4_isBroken 203 = .ok (.lconst 0, 1) := by decide +kernel
theorem dX4_isBroken_204 : decode cX4_isBroken 204 = .ok (.goto 7, 3) := by decide +kernel
theorem dX4_isBroken_207 : decode cX4_isBroken 207 = .ok (.lload_n 2, 1) := by decide +kernel
theorem dX4_isBroken_208 : decode cX4_isBroken 208 = .ok (.lload 4, 2) := by decide +kernel
theorem dX4_isBroken_210 : decode cX4_isBroken 210 = .ok (.lrem, 1) := by decide +kernel
theorem dX4_isBroken_211 : decode cX4_isBroken 211 = .ok (.putfield 21, 3) := by decide +kernel
theorem dX4_isBroken_214 : decode cX4_isBroken 214 = .ok (.goto 62, 3) := by decide +kernel
theorem dX4_isBroken_217 : decode cX4_isBroken 217 = .ok (.aload_n 0, 1) := by decide +kernel
theorem dX4_isBroken_218 : decode cX4_isBroken 218 = .ok (.lload_n 2, 1) := by decide +kernel
theorem dX4_isBroken_219 : decode cX4_isBroken 219 = .ok (.lload 4, 2) := by decide +kernel
theorem dX4_isBroken_221 : decode cX4_isBroken 221 = .ok (.lcmp, 1) := by decide +kernel
theorem dX4_isBroken_222 : decode cX4_isBroken 222 = .ok (.ifCond .ge 7, 3) := by decide +kernel
theorem dX4_isBroken_225 : decode cX4_isBroken 225 = .ok (.lconst 1, 1) := by decide +kernel
theorem dX4_isBroken_226 : decode cX4_isBroken 226 = .ok (.goto 4, 3) := by decide +kernel
theorem dX4_isBroken_229 : decode cX4_isBroken 229 = .ok (.lconst 0, 1) := by decide +kernel
theorem dX4_isBroken_230 : decode cX4_isBroken 230 = .ok (.putfield 21, 3) := by decide +kernel
theorem dX4_isBroken_233 : decode cX4_isBroken 233 = .ok (.goto 43, 3) := by decide +kernel
theorem dX4_isBroken_236 : decode cX4_isBroken 236 = .ok (.aload_n 0, 1) := by decide +kernel
theorem dX4_isBroken_237 : decode cX4_isBroken 237 = .ok (.lload_n 2, 1) := by decide +kernel
theorem dX4_isBroken_238 : decode cX4_isBroken 238 = .ok (.lload 4, 2) := by decide +kernel
theorem dX4_isBroken_240 : decode cX4_isBroken 240 = .ok (.lcmp, 1) := by decide +kernel
theorem dX4_isBroken_241 : decode cX4_isBroken 241 = .ok (.ifCond .le 7, 3) := by decide +kernel
theorem dX4_isBroken_244 : decode cX4_isBroken 244 = .ok (.lconst 1, 1) := by decide +kernel
theorem dX4_isBroken_245 : decode cX4_isBroken 245 = .ok (.goto 4, 3) := by decide +kernel
theorem dX4_isBroken_248 : decode cX4_isBroken 248 = .ok (.lconst 0, 1) := by decide +kernel
theorem dX4_isBroken_249 : decode cX4_isBroken 249 = .ok (.putfield 21, 3) := by decide +kernel
theorem dX4_isBroken_252 : decode cX4_isBroken 252 = .ok (.goto 24, 3) := by decide +kernel
theorem dX4_isBroken_255 : decode cX4_isBroken 255 = .ok (.aload_n 0, 1) := by decide +kernel
theorem dX4_isBroken_256 : decode cX4_isBroken 256 = .ok (.lload_n 2, 1) := by decide +kernel
theorem dX4_isBroken_257 : decode cX4_isBroken 257 = .ok (.lload 4, 2) := by decide +kernel
theorem dX4_isBroken_259 : decode cX4_isBroken 259 = .ok (.lcmp, 1) := by decide +kernel
theorem dX4_isBroken_260 : decode cX4_isBroken 260 = .ok (.ifCond .ne 7, 3) := by decide +kernel
theorem dX4_isBroken_263 : decode cX4_isBroken 263 = .ok (.lconst 1, 1) := by decide +kernel
theorem dX4_isBroken_264 : decode cX4_isBroken 264 = .ok (.goto 4, 3) := by decide +kernel
theorem dX4_isBroken_267 : decode cX4_isBroken 267 = .ok (.lconst 0, 1) := by decide +kernel
theorem dX4_isBroken_268 : decode cX4_isBroken 268 = .ok (.putfield 21, 3) := by decide +kernel
theorem dX4_isBroken_271 : decode cX4_isBroken 271 = .ok (.goto 5, 3) := by decide +kernel
theorem dX4_isBroken_274 : decode cX4_isBroken 274 = .ok (.iconst 1, 1) := by decide +kernel
theorem dX4_isBroken_275 : decode cX4_isBroken 275 = .ok (.ireturn, 1) := by decide +kernel
theorem dX4_isBroken_276 : decode cX4_isBroken 276 = .ok (.aload_n 0, 1) := by decide +kernel
theorem dX4_isBroken_277 : decode cX4_isBroken 277 = .ok (.getfield 21, 3) := by decide +kernel
theorem dX4_isBroken_280 : decode cX4_isBroken 280 = .ok (.ldc2_w 41, 3) := by decide +kernel
theorem dX4_isBroken_283 : decode cX4_isBroken 283 = .ok (.lcmp, 1) := by decide +kernel
theorem dX4_isBroken_284 : decode cX4_isBroken 284 = .ok (.ifCond .gt 14, 3) := by decide +kernel
theorem dX4_isBroken_287 : decode cX4_isBroken 287 = .ok (.aload_n 0, 1) := by decide +kernel
theorem dX4_isBroken_288 : decode cX4_isBroken 288 = .ok (.getfield 21, 3) := by decide +kernel
theorem dX4_isBroken_291 : decode cX4_isBroken 291 = .ok (.ldc2_w 43, 3) := by decide +kernel
theorem dX4_isBroken_294 : decode cX4_isBroken 294 = .ok (.lcmp, 1) := by decide +kernel
theorem dX4_isBroken_295 : decode cX4_isBroken 295 = .ok (.ifCond .ge 7, 3) := by decide +kernel
theorem dX4_isBroken_298 : decode cX4_isBroken 298 = .ok (.iconst 1, 1) := by decide +kernel
theorem dX4_isBroken_299 : decode cX4_isBroken 299 = .ok (.goto 4, 3) := by decide +kernel
theorem dX4_isBroken_302 : decode cX4_isBroken 302 = .ok (.iconst 0, 1) := by decide +kernel
theorem dX4_isBroken_303 : decode cX4_isBroken 303 = .ok (.ireturn, 1) := by decide +kernel
theorem dX4_runs_0 : decode cX4_runs 0 = .ok (.aload_n 0, 1) := by decide +kernel
theorem dX4_runs_1 : decode cX4_runs 1 = .ok (.lconst 1, 1) := by decide +kernel
theorem dX4_runs_2 : decode cX4_runs 2 = .ok (.putfield 21, 3) := by decide +kernel
theorem dX4_runs_5 : decode cX4_runs 5 = .ok (.iload_n 2, 1) := by decide +kernel
theorem dX4_runs_6 : decode cX4_runs 6 = .ok (.iconst (-1), 1) := by decide +kernel
theorem dX4_runs_7 : decode cX4_runs 7 = .ok (.if_icmp .ne 5, 3) := by decide +kernel
theorem dX4_runs_10 : decode cX4_runs 10 = .ok (.iconst 1, 1) := by decide +kernel
theorem dX4_runs_11 : decode cX4_runs 11 = .ok (.ireturn, 1) := by decide +kernel
theorem dX4_runs_12 : decode cX4_runs 12 = .ok (.iconst 0, 1) := by decide +kernel
theorem dX4_runs_13 : decode cX4_runs 13 = .ok (.istore_n 3, 1) := by decide +kernel
theorem dX4_runs_14 : decode cX4_runs 14 = .ok (.iload_n 2, 1) := by decide +kernel
theorem dX4_runs_15 : decode cX4_runs 15 = .ok (.istore 4, 2) := by decide +kernel
theorem dX4_runs_17 : decode cX4_runs 17 = .ok (.iconst 0, 1) := by decide +kernel
theorem dX4_runs_18 : decode cX4_runs 18 = .ok (.istore 5, 2) := by decide +kernel
theorem dX4_runs_20 : decode cX4_runs 20 = .ok (.iload 5, 2) := by decide +kernel
theorem dX4_runs_22 : decode cX4_runs 22 = .ok (.aload_n 1, 1) := by decide +kernel
theorem dX4_runs_23 : decode cX4_runs 23 = .ok (.getfield 25, 3) := by decide +kernel
theorem dX4_runs_26 : decode cX4_runs 26 = .ok (.if_icmp .ge 309, 3) := by decide +kernel
theorem dX4_runs_29 : decode cX4_runs 29 = .ok (.iload 4, 2) := by decide +kernel
theorem dX4_runs_31 : decode cX4_runs 31 = .ok (.ifCond .lt 12, 3) := by decide +kernel
theorem dX4_runs_34 : decode cX4_runs 34 = .ok (.iload 4, 2) := by decide +kernel
theorem dX4_runs_36 : decode cX4_runs 36 = .ok (.aload_n 1, 1) := by decide +kernel
theorem dX4_runs_37 : decode cX4_runs 37 = .ok (.getfield 25, 3) := by decide +kernel
theorem dX4_runs_40 : decode cX4_runs 40 = .ok (.if_icmp .lt 5, 3) := by decide +kernel
theorem dX4_runs_43 : decode cX4_runs 43 = .ok (.iconst 0, 1) := by decide +kernel
theorem dX4_runs_44 : decode cX4_runs 44 = .ok (.ireturn, 1) := by decide +kernel
theorem dX4_runs_45 : decode cX4_runs 45 = .ok (.aload_n 1, 1) := by decide +kernel
theorem dX4_runs_46 : decode cX4_runs 46 = .ok (.getfield 31, 3) := by decide +kernel
theorem dX4_runs_49 : decode cX4_runs 49 = .ok (.iload 4, 2) := by decide +kernel
theorem dX4_runs_51 : decode cX4_runs 51 = .ok (.iaload, 1) := by decide +kernel
theorem dX4_runs_52 : decode cX4_runs 52 = .ok (.istore 6, 2) := by decide +kernel
theorem dX4_runs_54 : decode cX4_runs 54 = .ok (.aload_n 1, 1) := by decide +kernel
theorem dX4_runs_55 : decode cX4_runs 55 = .ok (.getfield 34, 3) := by decide +kernel
theorem dX4_runs_58 : decode cX4_runs 58 = .ok (.iload 4, 2) := by decide +kernel
theorem dX4_runs_60 : decode cX4_runs 60 = .ok (.iaload, 1) := by decide +kernel
theorem dX4_runs_61 : decode cX4_runs 61 = .ok (.istore 7, 2) := by decide +kernel
theorem dX4_runs_63 : decode cX4_runs 63 = .ok (.iinc 4 1, 3) := by decide +kernel
theorem dX4_runs_66 : decode cX4_runs 66 = .ok (.iload 6, 2) := by decide +kernel
theorem dX4_runs_68 : decode cX4_runs 68 = .ok (.ifCond .eq 9, 3) := by decide +kernel
theorem dX4_runs_71 : decode cX4_runs 71 = .ok (.iload 6, 2) := by decide +kernel
theorem dX4_runs_73 : decode cX4_runs 73 = .ok (.iconst 1, 1) := by decide +kernel
theorem dX4_runs_74 : decode cX4_runs 74 = .ok (.if_icmp .ne 67, 3) := by decide +kernel
theorem dX4_runs_77 : decode cX4_runs 77 = .ok (.iload_n 3, 1) := by decide +kernel
theorem dX4_runs_78 : decode cX4_runs 78 = .ok (.ifCond .lt 30, 3) := by decide +kernel
theorem dX4_runs_81 : decode cX4_runs 81 = .ok (.iload_n 3, 1) := by decide +kernel
theorem dX4_runs_82 : decode cX4_runs 82 = .ok (.bipush 64, 2) := by decide +kernel
theorem dX4_runs_84 : decode cX4_runs 84 = .ok (.if_icmp .ge 24, 3) := by decide +kernel
theorem dX4_runs_87 : decode cX4_runs 87 = .ok (.iload 7, 2) := by decide +kernel
theorem dX4_runs_89 : decode cX4_runs 89 = .ok (.ifCond .lt 19, 3) := by decide +kernel
theorem dX4_runs_92 : decode cX4_runs 92 = .ok (.iload 6, 2) := by decide +kernel
theorem dX4_runs_94 : decode cX4_runs 94 = .ok (.iconst 1, 1) := by decide +kernel
theorem dX4_runs_95 : decode cX4_runs 95 = .ok (.if_icmp .ne 15, 3) := by decide +kernel
theorem dX4_runs_98 : decode cX4_runs 98 = .ok (.iload 7, 2) := by decide +kernel
theorem dX4_runs_100 : decode cX4_runs 100 = .ok (.aload_n 0, 1) := by decide +kernel
theorem dX4_runs_101 : decode cX4_runs 101 = .ok (.getfield 11, 3) := by decide +kernel
theorem dX4_runs_104 : decode cX4_runs 104 = .ok (.arraylength, 1) := by decide +kernel
theorem dX4_runs_105 : decode cX4_runs 105 = .ok (.if_icmp .lt 5, 3) := by decide +kernel
theorem dX4_runs_108 : decode cX4_runs 108 = .ok (.iconst 0, 1) := by decide +kernel
theorem dX4_runs_109 : decode cX4_runs 109 = .ok (.ireturn, 1) := by decide +kernel
theorem dX4_runs_110 : decode cX4_runs 110 = .ok (.aload_n 0, 1) := by decide +kernel
theorem dX4_runs_111 : decode cX4_runs 111 = .ok (.getfield 17, 3) := by decide +kernel
theorem dX4_runs_114 : decode cX4_runs 114 = .ok (.iload_n 3, 1) := by decide +kernel
theorem dX4_runs_115 : decode cX4_runs 115 = .ok (.iload 6, 2) := by decide +kernel
theorem dX4_runs_117 : decode cX4_runs 117 = .ok (.ifCond .ne 9, 3) := by decide +kernel
theorem dX4_runs_120 : decode cX4_runs 120 = .ok (.iload 7, 2) := by decide +kernel
theorem dX4_runs_122 : decode cX4_runs 122 = .ok (.i2l, 1) := by decide +kernel
theorem dX4_runs_123 : decode cX4_runs 123 = .ok (.goto 11, 3) := by decide +kernel
theorem dX4_runs_126 : decode cX4_runs 126 = .ok (.aload_n 0, 1) := by decide +kernel
theorem dX4_runs_127 : decode cX4_runs 127 = .ok (.getfield 11, 3) := by decide +kernel
theorem dX4_runs_130 : decode cX4_runs 130 = .ok (.iload 7, 2) := by decide +kernel
theorem dX4_runs_132 : decode cX4_runs 132 = .ok (.iaload, 1) := by decide +kernel
theorem dX4_runs_133 : decode cX4_runs 133 = .ok (.i2l, 1) := by decide +kernel
theorem dX4_runs_134 : decode cX4_runs 134 = .ok (.lastore, 1) := by decide +kernel
theorem dX4_runs_135 : decode cX4_runs 135 = .ok (.iinc 3 1, 3) := by decide +kernel
theorem dX4_runs_138 : decode cX4_runs 138 = .ok (.goto 191, 3) := by decide +kernel
theorem dX4_runs_141 : decode cX4_runs 141 = .ok (.iload_n 3, 1) := by decide +kernel
theorem dX4_runs_142 : decode cX4_runs 142 = .ok (.iconst 1, 1) := by decide +kernel
theorem dX4_runs_143 : decode cX4_runs 143 = .ok (.if_icmp .lt 9, 3) := by decide +kernel
theorem dX4_runs_146 : decode cX4_runs 146 = .ok (.iload_n 3, 1) := by decide +kernel
theorem dX4_runs_147 : decode cX4_runs 147 = .ok (.bipush 64, 2) := by decide +kernel
theorem dX4_runs_149 : decode cX4_runs 149 = .ok (.if_icmp .le 5, 3) := by decide +kernel
theorem dX4_runs_152 : decode cX4_runs 152 = .ok (.iconst 0, 1) := by decide +kernel
theorem dX4_runs_153 : decode cX4_runs 153 = .ok (.ireturn, 1) := by decide +kernel
theorem dX4_runs_154 : decode cX4_runs 154 = .ok (.iload 6, 2) := by decide +kernel
theorem dX4_runs_156 : decode cX4_runs 156 = .ok (.iconst 5, 1) := by decide +kernel
theorem dX4_runs_157 : decode cX4_runs 157 = .ok (.if_icmp .ne 17, 3) := by decide +kernel
theorem dX4_runs_160 : decode cX4_runs 160 = .ok (.aload_n 0, 1) := by decide +kernel
theorem dX4_runs_161 : decode cX4_runs 161 = .ok (.aload_n 0, 1) := by decide +kernel
theorem dX4_runs_162 : decode cX4_runs 162 = .ok (.getfield 17, 3) := by decide +kernel
theorem dX4_runs_165 : decode cX4_runs 165 = .ok (.iload_n 3, 1) := by decide +kernel
theorem dX4_runs_166 : decode cX4_runs 166 = .ok (.iconst 1, 1) := by decide +kernel
theorem dX4_runs_167 : decode cX4_runs 167 = .ok (.isub, 1) := by decide +kernel
theorem dX4_runs_168 : decode cX4_runs 168 = .ok (.laload, 1) := by decide +kernel
theorem dX4_runs_169 : decode cX4_runs 169 = .ok (.putfield 21, 3) := by decide +kernel
theorem dX4_runs_172 : decode cX4_runs 172 = .ok (.iconst 1, 1) := by decide +kernel
theorem dX4_runs_173 : decode cX4_runs 173 = .ok (.ireturn, 1) := by decide +kernel
theorem dX4_runs_174 : decode cX4_runs 174 = .ok (.iload 6, 2) := by decide +kernel
theorem dX4_runs_176 : decode cX4_runs 176 = .ok (.iconst 2, 1) := by decide +kernel
theorem dX4_runs_177 : decode cX4_runs 177 = .ok (.if_icmp .ne 24, 3) := by decide +kernel
theorem dX4_runs_180 : decode cX4_runs 180 = .ok (.aload_n 0, 1) := by decide +kernel
theorem dX4_runs_181 : decode cX4_runs 181 = .ok (.getfield 17, 3) := by decide +kernel
theorem dX4_runs_184 : decode cX4_runs 184 = .ok (.iload_n 3, 1) := by decide +kernel
theorem dX4_runs_185 : decode cX4_runs 185 = .ok (.iconst 1, 1) := by decide +kernel
theorem dX4_runs_186 : decode cX4_runs 186 = .ok (.isub, 1) := by decide +kernel
theorem dX4_runs_187 : decode cX4_runs 187 = .ok (.lconst 1, 1) := by decide +kernel
theorem dX4_runs_188 : decode cX4_runs 188 = .ok (.aload_n 0, 1) := by decide +kernel
theorem dX4_runs_189 : decode cX4_runs 189 = .ok (.getfield 17, 3) := by decide +kernel
theorem dX4_runs_192 : decode cX4_runs 192 = .ok (.iload_n 3, 1) := by decide +kernel
theorem dX4_runs_193 : decode cX4_runs 193 = .ok (.iconst 1, 1) := by decide +kernel
theorem dX4_runs_194 : decode cX4_runs 194 = .ok (.isub, 1) := by decide +kernel
theorem dX4_runs_195 : decode cX4_runs 195 = .ok (.laload, 1) := by decide +kernel
theorem dX4_runs_196 : decode cX4_runs 196 = .ok (.lsub, 1) := by decide +kernel
theorem dX4_runs_197 : decode cX4_runs 197 = .ok (.lastore, 1) := by decide +kernel
theorem dX4_runs_198 : decode cX4_runs 198 = .ok (.goto 131, 3) := by decide +kernel
theorem dX4_runs_201 : decode cX4_runs 201 = .ok (.iload 6, 2) := by decide +kernel
theorem dX4_runs_203 : decode cX4_runs 203 = .ok (.iconst 3, 1) := by decide +kernel
theorem dX4_runs_204 : decode cX4_runs 204 = .ok (.if_icmp .eq 9, 3) := by decide +kernel
theorem dX4_runs_207 : decode cX4_runs 207 = .ok (.iload 6, 2) := by decide +kernel
theorem dX4_runs_209 : decode cX4_runs 209 = .ok (.iconst 4, 1) := by decide +kernel
theorem dX4_runs_210 : decode cX4_runs 210 = .ok (.if_icmp .ne 72, 3) := by decide +kernel
theorem dX4_runs_213 : decode cX4_runs 213 = .ok (.aload_n 0, 1) := by decide +kernel
theorem dX4_runs_214 : decode cX4_runs 214 = .ok (.getfield 17, 3) := by decide +kernel
theorem dX4_runs_217 : decode cX4_runs 217 = .ok (.iload_n 3, 1) := by decide +kernel
theorem dX4_runs_218 : decode cX4_runs 218 = .ok (.iconst 1, 1) := by decide +kernel
theorem dX4_runs_219 : decode cX4_runs 219 = .ok (.isub, 1) := by decide +kernel
theorem dX4_runs_220 : decode cX4_runs 220 = .ok (.laload, 1) := by decide +kernel
theorem dX4_runs_221 : decode cX4_runs 221 = .ok (.lconst 0, 1) := by decide +kernel
theorem dX4_runs_222 : decode cX4_runs 222 = .ok (.lcmp, 1) := by decide +kernel
theorem dX4_runs_223 : decode cX4_runs 223 = .ok (.ifCond .eq 7, 3) := by decide +kernel
theorem dX4_runs_226 : decode cX4_runs 226 = .ok (.iconst 1, 1) := by decide +kernel
theorem dX4_runs_227 : decode cX4_runs 227 = .ok (.goto 4, 3) := by decide +kernel
theorem dX4_runs_230 : decode cX4_runs 230 = .ok (.iconst 0, 1) := by decide +kernel
theorem dX4_runs_231 : decode cX4_runs 231 = .ok (.iload 6, 2) := by decide +kernel
theorem dX4_runs_233 : decode cX4_runs 233 = .ok (.iconst 3, 1) := by decide +kernel
theorem dX4_runs_234 : decode cX4_runs 234 = .ok (.if_icmp .ne 7, 3) := by decide +kernel
theorem dX4_runs_237 : decode cX4_runs 237 = .ok (.iconst 1, 1) := by decide +kernel
theorem dX4_runs_238 : decode cX4_runs 238 = .ok (.goto 4, 3) := by decide +kernel
theorem dX4_runs_241 : decode cX4_runs 241 = .ok (.iconst 0, 1) := by decide +kernel
theorem dX4_runs_242 : decode cX4_runs 242 = .ok (.if_icmp .ne 7, 3) := by decide +kernel
theorem dX4_runs_245 : decode cX4_runs 245 = .ok (.iconst 1, 1) := by decide +kernel
theorem dX4_runs_246 : decode cX4_runs 246 = .ok (.goto 4, 3) := by decide +kernel
theorem dX4_runs_249 : decode cX4_runs 249 = .ok (.iconst 0, 1) := by decide +kernel
theorem dX4_runs_250 : decode cX4_runs 250 = .ok (.istore 8, 2) := by decide +kernel
theorem dX4_runs_252 : decode cX4_runs 252 = .ok (.iload 8, 2) := by decide +kernel
theorem dX4_runs_254 : decode cX4_runs 254 = .ok (.ifCond .eq 8, 3) := by decide +kernel
theorem dX4_runs_257 : decode cX4_runs 257 = .ok (.iload 7, 2) := by decide +kernel
theorem dX4_runs_259 : decode cX4_runs 259 = .ok (.goto 5, 3) := by decide +kernel
theorem dX4_runs_262 : decode cX4_runs 262 = .ok (.iload 4, 2) := by decide +kernel
theorem dX4_runs_264 : decode cX4_runs 264 = .ok (.istore 4, 2) := by decide +kernel
theorem dX4_runs_266 : decode cX4_runs 266 = .ok (.iload 8, 2) := by decide +kernel
theorem dX4_runs_268 : decode cX4_runs 268 = .ok (.ifCond .eq 7, 3) := by decide +kernel
theorem dX4_runs_271 : decode cX4_runs 271 = .ok (.iload_n 3, 1) := by decide +kernel
theorem dX4_runs_272 : decode cX4_runs 272 = .ok (.goto 6, 3) := by decide +kernel
theorem dX4_runs_275 : decode cX4_runs 275 = .ok (.iload_n 3, 1) := by decide +kernel
theorem dX4_runs_276 : decode cX4_runs 276 = .ok (.iconst 1, 1) := by decide +kernel
theorem dX4_runs_277 : decode cX4_runs 277 = .ok (.isub, 1) := by decide +kernel
theorem dX4_runs_278 : decode cX4_runs 278 = .ok (.istore_n 3, 1) := by decide +kernel
theorem dX4_runs_279 : decode cX4_runs 279 = .ok (.goto 50, 3) := by decide +kernel
theorem dX4_runs_282 : decode cX4_runs 282 = .ok (.iload_n 3, 1) := by decide +kernel
theorem dX4_runs_283 : decode cX4_runs 283 = .ok (.iconst 2, 1) := by decide +kernel
theorem dX4_runs_284 : decode cX4_runs 284 = .ok (.if_icmp .lt 28, 3) := by decide +kernel
theorem dX4_runs_287 : decode cX4_runs 287 = .ok (.aload_n 0, 1) := by decide +kernel
theorem dX4_runs_288 : decode cX4_runs 288 = .ok (.iload 6, 2) := by decide +kernel
theorem dX4_runs_290 : decode cX4_runs 290 = .ok (.aload_n 0, 1) := by decide +kernel
theorem dX4_runs_291 : decode cX4_runs 291 = .ok (.getfield 17, 3) := by decide +kernel
theorem dX4_runs_294 : decode cX4_runs 294 = .ok (.iload_n 3, 1) := by decide +kernel
theorem dX4_runs_295 : decode cX4_runs 295 = .ok (.iconst 2, 1) := by decide +kernel
theorem dX4_runs_296 : decode cX4_runs 296 = .ok (.isub, 1) := by decide +kernel
theorem dX4_runs_297 : decode cX4_runs 297 = .ok (.laload, 1) := by decide +kernel
theorem dX4_runs_298 : decode cX4_runs 298 = .ok (.aload_n 0, 1) := by decide +kernel
theorem dX4_runs_299 : decode cX4_runs 299 = .ok (.getfield 17, 3) := by decide +kernel
theorem dX4_runs_302 : decode cX4_runs 302 = .ok (.iload_n 3, 1) := by decide +kernel
theorem dX4_runs_303 : decode cX4_runs 303 = .ok (.iconst 1, 1) := by decide +kernel
theorem dX4_runs_304 : decode cX4_runs 304 = .ok (.isub, 1) := by decide +kernel
theorem dX4_runs_305 : decode cX4_runs 305 = .ok (.laload, 1) := by decide +kernel
theorem dX4_runs_306 : decode cX4_runs 306 = .ok (.invokevirtual 37, 3) := by decide +kernel
theorem dX4_runs_309 : decode cX4_runs 309 = .ok (.ifCond .eq 5, 3) := by decide +kernel
theorem dX4_runs_312 : decode cX4_runs 312 = .ok (.iconst 0, 1) := by decide +kernel
theorem dX4_runs_313 : decode cX4_runs 313 = .ok (.ireturn, 1) := by decide +kernel
theorem dX4_runs_314 : decode cX4_runs 314 = .ok (.iinc 3 (-1), 3) := by decide +kernel
theorem dX4_runs_317 : decode cX4_runs 317 = .ok (.aload_n 0, 1) := by decide +kernel
theorem dX4_runs_318 : decode cX4_runs 318 = .ok (.getfield 17, 3) := by decide +kernel
theorem dX4_runs_321 : decode cX4_runs 321 = .ok (.iload_n 3, 1) := by decide +kernel
theorem dX4_runs_322 : decode cX4_runs 322 = .ok (.iconst 1, 1) := by decide +kernel
theorem dX4_runs_323 : decode cX4_runs 323 = .ok (.isub, 1) := by decide +kernel
theorem dX4_runs_324 : decode cX4_runs 324 = .ok (.aload_n 0, 1) := by decide +kernel
theorem dX4_runs_325 : decode cX4_runs 325 = .ok (.getfield 21, 3) := by decide +kernel
theorem dX4_runs_328 : decode cX4_runs 328 = .ok (.lastore, 1) := by decide +kernel
theorem dX4_runs_329 : decode cX4_runs 329 = .ok (.iinc 5 1, 3) := by decide +kernel
theorem dX4_runs_332 : decode cX4_runs 332 = .ok (.goto (-312), 3) := by decide +kernel
theorem dX4_runs_335 : decode cX4_runs 335 = .ok (.iconst 0, 1) := by decide +kernel
theorem dX4_runs_336 : decode cX4_runs 336 = .ok (.ireturn, 1) := by decide +kernel
theorem dX6_bars_0 : decode cX6_bars 0 = .ok (.aload_n 0, 1) := by decide +kernel
theorem dX6_bars_1 : decode cX6_bars 1 = .ok (.aload_n 0, 1) := by decide +kernel
theorem dX6_bars_2 : decode cX6_bars 2 = .ok (.getfield 21, 3) := by decide +kernel
theorem dX6_bars_5 : decode cX6_bars 5 = .ok (.invokevirtual 84, 3) := by decide +kernel
theorem dX6_bars_8 : decode cX6_bars 8 = .ok (.astore_n 3, 1) := by decide +kernel
theorem dX6_bars_9 : decode cX6_bars 9 = .ok (.aload_n 3, 1) := by decide +kernel
theorem dX6_bars_10 : decode cX6_bars 10 = .ok (.ifnonnull 5, 3) := by decide +kernel
theorem dX6_bars_13 : decode cX6_bars 13 = .ok (.iconst 0, 1) := by decide +kernel
theorem dX6_bars_14 : decode cX6_bars 14 = .ok (.ireturn, 1) := by decide +kernel
theorem dX6_bars_15 : decode cX6_bars 15 = .ok (.aload_n 0, 1) := by decide +kernel
theorem dX6_bars_16 : decode cX6_bars 16 = .ok (.iconst (-1), 1) := by decide +kernel
theorem dX6_bars_17 : decode cX6_bars 17 = .ok (.iconst (-1), 1) := by decide +kernel
theorem dX6_bars_18 : decode cX6_bars 18 = .ok (.iconst (-1), 1) := by decide +kernel
theorem dX6_bars_19 : decode cX6_bars 19 = .ok (.iconst (-1), 1) := by decide +kernel
theorem dX6_bars_20 : decode cX6_bars 20 = .ok (.invokevirtual 45, 3) := by decide +kernel
theorem dX6_bars_23 : decode cX6_bars 23 = .ok (.aload_n 0, 1) := by decide +kernel
theorem dX6_bars_24 : decode cX6_bars 24 = .ok (.iload_n 1, 1) := by decide +kernel
theorem dX6_bars_25 : decode cX6_bars 25 = .ok (.iload_n 2, 1) := by decide +kernel
theorem dX6_bars_26 : decode cX6_bars 26 = .ok (.invokevirtual 52, 3) := by decide +kernel
theorem dX6_bars_29 : decode cX6_bars 29 = .ok (.iconst 0, 1) := by decide +kernel
theorem dX6_bars_30 : decode cX6_bars 30 = .ok (.istore 4, 2) := by decide +kernel
theorem dX6_bars_32 : decode cX6_bars 32 = .ok (.iload 4, 2) := by decide +kernel
theorem dX6_bars_34 : decode cX6_bars 34 = .ok (.aload_n 3, 1) := by decide +kernel
theorem dX6_bars_35 : decode cX6_bars 35 = .ok (.getfield 56, 3) := by decide +kernel
theorem dX6_bars_38 : decode cX6_bars 38 = .ok (.if_icmp .ge 52, 3) := by decide +kernel
theorem dX6_bars_41 : decode cX6_bars 41 = .ok (.aload_n 3, 1) := by decide +kernel
theorem dX6_bars_42 : decode cX6_bars 42 = .ok (.iload 4, 2) := by decide +kernel
theorem dX6_bars_44 : decode cX6_bars 44 = .ok (.iconst 0, 1) := by decide +kernel
theorem dX6_bars_45 : decode cX6_bars 45 = .ok (.invokevirtual 59, 3) := by decide +kernel
theorem dX6_bars_48 : decode cX6_bars 48 = .ok (.iconst 1, 1) := by decide +kernel
theorem dX6_bars_49 : decode cX6_bars 49 = .ok (.if_icmp .ne 35, 3) := by decide +kernel
theorem dX6_bars_52 : decode cX6_bars 52 = .ok (.aload_n 0, 1) := by decide +kernel
theorem dX6_bars_53 : decode cX6_bars 53 = .ok (.getfield 30, 3) := by decide +kernel
theorem dX6_bars_56 : decode cX6_bars 56 = .ok (.aload_n 3, 1) := by decide +kernel
theorem dX6_bars_57 : decode cX6_bars 57 = .ok (.aload_n 3, 1) := by decide +kernel
theorem dX6_bars_58 : decode cX6_bars 58 = .ok (.iload 4, 2) := by decide +kernel
theorem dX6_bars_60 : decode cX6_bars 60 = .ok (.iconst 4, 1) := by decide +kernel
theorem dX6_bars_61 : decode cX6_bars 61 = .ok (.invokevirtual 59, 3) := by decide +kernel
theorem dX6_bars_64 : decode cX6_bars 64 = .ok (.invokevirtual 63, 3) := by decide +kernel
theorem dX6_bars_67 : decode cX6_bars 67 = .ok (.ifCond .eq 17, 3) := by decide +kernel
theorem dX6_bars_70 : decode cX6_bars 70 = .ok (.aload_n 0, 1) := by decide +kernel
theorem dX6_bars_71 : decode cX6_bars 71 = .ok (.getfield 30, 3) := by decide +kernel
theorem dX6_bars_74 : decode cX6_bars 74 = .ok (.getfield 69, 3) := by decide +kernel
theorem dX6_bars_77 : decode cX6_bars 77 = .ok (.lconst 0, 1) := by decide +kernel
theorem dX6_bars_78 : decode cX6_bars 78 = .ok (.lcmp, 1) := by decide +kernel
theorem dX6_bars_79 : decode cX6_bars 79 = .ok (.ifCond .eq 5, 3) := by decide +kernel
theorem dX6_bars_82 : decode cX6_bars 82 = .ok (.iconst 1, 1) := by decide +kernel
theorem dX6_bars_83 : decode cX6_bars 83 = .ok (.ireturn, 1) := by decide +kernel
theorem dX6_bars_84 : decode cX6_bars 84 = .ok (.iinc 4 1, 3) := by decide +kernel
theorem dX6_bars_87 : decode cX6_bars 87 = .ok (.goto (-55), 3) := by decide +kernel
theorem dX6_bars_90 : decode cX6_bars 90 = .ok (.iconst 0, 1) := by decide +kernel
theorem dX6_bars_91 : decode cX6_bars 91 = .ok (.ireturn, 1) := by decide +kernel
theorem dX0_lowestFree_0 : decode cX0_lowestFree 0 = .ok (.iconst 0, 1) := by decide +kernel
theorem dX0_lowestFree_1 : decode cX0_lowestFree 1 = .ok (.istore_n 1, 1) := by decide +kernel
theorem dX0_lowestFree_2 : decode cX0_lowestFree 2 = .ok (.iload_n 1, 1) := by decide +kernel
theorem dX0_lowestFree_3 : decode cX0_lowestFree 3 = .ok (.bipush 24, 2) := by decide +kernel
theorem dX0_lowestFree_5 : decode cX0_lowestFree 5 = .ok (.if_icmp .ge 20, 3) := by decide +kernel
theorem dX0_lowestFree_8 : decode cX0_lowestFree 8 = .ok (.aload_n 0, 1) := by decide +kernel
theorem dX0_lowestFree_9 : decode cX0_lowestFree 9 = .ok (.getfield 9, 3) := by decide +kernel
theorem dX0_lowestFree_12 : decode cX0_lowestFree 12 = .ok (.iload_n 1, 1) := by decide +kernel
theorem dX0_lowestFree_13 : decode cX0_lowestFree 13 = .ok (.iaload, 1) := by decide +kernel
theorem dX0_lowestFree_14 : decode cX0_lowestFree 14 = .ok (.ifCond .ne 5, 3) := by decide +kernel
theorem dX0_lowestFree_17 : decode cX0_lowestFree 17 = .ok (.iload_n 1, 1) := by decide +kernel
theorem dX0_lowestFree_18 : decode cX0_lowestFree 18 = .ok (.ireturn, 1) := by decide +kernel
theorem dX0_lowestFree_19 : decode cX0_lowestFree 19 = .ok (.iinc 1 1, 3) := by decide +kernel
theorem dX0_lowestFree_22 : decode cX0_lowestFree 22 = .ok (.goto (-20), 3) := by decide +kernel
theorem dX0_lowestFree_25 : decode cX0_lowestFree 25 = .ok (.iconst (-1), 1) := by decide +kernel
theorem dX0_lowestFree_26 : decode cX0_lowestFree 26 = .ok (.ireturn, 1) := by decide +kernel
theorem dX0_leadTo_0 : decode cX0_leadTo 0 = .ok (.iload_n 1, 1) := by decide +kernel
theorem dX0_leadTo_1 : decode cX0_leadTo 1 = .ok (.invokestatic 46, 3) := by decide +kernel
theorem dX0_leadTo_4 : decode cX0_leadTo 4 = .ok (.ifCond .eq 13, 3) := by decide +kernel
theorem dX0_leadTo_7 : decode cX0_leadTo 7 = .ok (.aload_n 0, 1) := by decide +kernel
theorem dX0_leadTo_8 : decode cX0_leadTo 8 = .ok (.getfield 21, 3) := by decide +kernel
theorem dX0_leadTo_11 : decode cX0_leadTo 11 = .ok (.iload_n 1, 1) := by decide +kernel
theorem dX0_leadTo_12 : decode cX0_leadTo 12 = .ok (.iload_n 2, 1) := by decide +kernel
theorem dX0_leadTo_13 : decode cX0_leadTo 13 = .ok (.iastore, 1) := by decide +kernel
theorem dX0_leadTo_14 : decode cX0_leadTo 14 = .ok (.goto 8, 3) := by decide +kernel
theorem dX0_leadTo_17 : decode cX0_leadTo 17 = .ok (.aload_n 0, 1) := by decide +kernel
theorem dX0_leadTo_18 : decode cX0_leadTo 18 = .ok (.iload_n 2, 1) := by decide +kernel
theorem dX0_leadTo_19 : decode cX0_leadTo 19 = .ok (.putfield 30, 3) := by decide +kernel
theorem dX0_leadTo_22 : decode cX0_leadTo 22 = .ok (.return_, 1) := by decide +kernel
theorem dX0_retire_0 : decode cX0_retire 0 = .ok (.aload_n 0, 1) := by decide +kernel
theorem dX0_retire_1 : decode cX0_retire 1 = .ok (.getfield 34, 3) := by decide +kernel
theorem dX0_retire_4 : decode cX0_retire 4 = .ok (.bipush 24, 2) := by decide +kernel
theorem dX0_retire_6 : decode cX0_retire 6 = .ok (.if_icmp .ge 30, 3) := by decide +kernel
theorem dX0_retire_9 : decode cX0_retire 9 = .ok (.aload_n 0, 1) := by decide +kernel
theorem dX0_retire_10 : decode cX0_retire 10 = .ok (.getfield 9, 3) := by decide +kernel
theorem dX0_retire_13 : decode cX0_retire 13 = .ok (.iload_n 1, 1) := by decide +kernel
theorem dX0_retire_14 : decode cX0_retire 14 = .ok (.iconst 2, 1) := by decide +kernel
theorem dX0_retire_15 : decode cX0_retire 15 = .ok (.iastore, 1) := by decide +kernel
theorem dX0_retire_16 : decode cX0_retire 16 = .ok (.aload_n 0, 1) := by decide +kernel
theorem dX0_retire_17 : decode cX0_retire 17 = .ok (.getfield 24, 3) := by decide +kernel
theorem dX0_retire_20 : decode cX0_retire 20 = .ok (.aload_n 0, 1) := by decide +kernel
theorem dX0_retire_21 : decode cX0_retire 21 = .ok (.getfield 34, 3) := by decide +kernel
theorem dX0_retire_24 : decode cX0_retire 24 = .ok (.iload_n 1, 1) := by decide +kernel
theorem dX0_retire_25 : decode cX0_retire 25 = .ok (.iastore, 1) := by decide +kernel
theorem dX0_retire_26 : decode cX0_retire 26 = .ok (.aload_n 0, 1) := by decide +kernel
theorem dX0_retire_27 : decode cX0_retire 27 = .ok (.dup, 1) := by decide +kernel
theorem dX0_retire_28 : decode cX0_retire 28 = .ok (.getfield 34, 3) := by decide +kernel
theorem dX0_retire_31 : decode cX0_retire 31 = .ok (.iconst 1, 1) := by decide +kernel
theorem dX0_retire_32 : decode cX0_retire 32 = .ok (.iadd, 1) := by decide +kernel
theorem dX0_retire_33 : decode cX0_retire 33 = .ok (.putfield 34, 3) := by decide +kernel
theorem dX0_retire_36 : decode cX0_retire 36 = .ok (.return_, 1) := by decide +kernel
theorem dX0_insert_0 : decode cX0_insert 0 = .ok (.aload_n 0, 1) := by decide +kernel
theorem dX0_insert_1 : decode cX0_insert 1 = .ok (.invokevirtual 57, 3) := by decide +kernel
theorem dX0_insert_4 : decode cX0_insert 4 = .ok (.istore_n 3, 1) := by decide +kernel
theorem dX0_insert_5 : decode cX0_insert 5 = .ok (.iload_n 3, 1) := by decide +kernel
theorem dX0_insert_6 : decode cX0_insert 6 = .ok (.invokestatic 46, 3) := by decide +kernel
theorem dX0_insert_9 : decode cX0_insert 9 = .ok (.ifCond .ne 6, 3) := by decide +kernel
theorem dX0_insert_12 : decode cX0_insert 12 = .ok (.bipush (-5), 2) := by decide +kernel
theorem dX0_insert_14 : decode cX0_insert 14 = .ok (.ireturn, 1) := by decide +kernel
theorem dX0_insert_15 : decode cX0_insert 15 = .ok (.aload_n 0, 1) := by decide +kernel
theorem dX0_insert_16 : decode cX0_insert 16 = .ok (.iload_n 1, 1) := by decide +kernel
theorem dX0_insert_17 : decode cX0_insert 17 = .ok (.invokevirtual 50, 3) := by decide +kernel
theorem dX0_insert_20 : decode cX0_insert 20 = .ok (.istore 4, 2) := by decide +kernel
theorem dX0_insert_22 : decode cX0_insert 22 = .ok (.aload_n 0, 1) := by decide +kernel
theorem dX0_insert_23 : decode cX0_insert 23 = .ok (.iload 4, 2) := by decide +kernel
theorem dX0_insert_25 : decode cX0_insert 25 = .ok (.invokevirtual 54, 3) := by decide +kernel
theorem dX0_insert_28 : decode cX0_insert 28 = .ok (.istore 5, 2) := by decide +kernel
theorem dX0_insert_30 : decode cX0_insert 30 = .ok (.iload 5, 2) := by decide +kernel
theorem dX0_insert_32 : decode cX0_insert 32 = .ok (.invokestatic 46, 3) := by decide +kernel
theorem dX0_insert_35 : decode cX0_insert 35 = .ok (.ifCond .eq 18, 3) := by decide +kernel
theorem dX0_insert_38 : decode cX0_insert 38 = .ok (.aload_n 0, 1) := by decide +kernel
theorem dX0_insert_39 : decode cX0_insert 39 = .ok (.getfield 15, 3) := by decide +kernel
theorem dX0_insert_42 : decode cX0_insert 42 = .ok (.iload 5, 2) := by decide +kernel
theorem dX0_insert_44 : decode cX0_insert 44 = .ok (.iaload, 1) := by decide +kernel
theorem dX0_insert_45 : decode cX0_insert 45 = .ok (.iload_n 1, 1) := by decide +kernel
theorem dX0_insert_46 : decode cX0_insert 46 = .ok (.if_icmp .ne 7, 3) := by decide +kernel
theorem dX0_insert_49 : decode cX0_insert 49 = .ok (.iconst 1, 1) := by decide +kernel
theorem dX0_insert_50 : decode cX0_insert 50 = .ok (.goto 4, 3) := by decide +kernel
theorem dX0_insert_53 : decode cX0_insert 53 = .ok (.iconst 0, 1) := by decide +kernel
theorem dX0_insert_54 : decode cX0_insert 54 = .ok (.istore 6, 2) := by decide +kernel
theorem dX0_insert_56 : decode cX0_insert 56 = .ok (.aload_n 0, 1) := by decide +kernel
theorem dX0_insert_57 : decode cX0_insert 57 = .ok (.getfield 9, 3) := by decide +kernel
theorem dX0_insert_60 : decode cX0_insert 60 = .ok (.iload_n 3, 1) := by decide +kernel
theorem dX0_insert_61 : decode cX0_insert 61 = .ok (.iconst 1, 1) := by decide +kernel
theorem dX0_insert_62 : decode cX0_insert 62 = .ok (.iastore, 1) := by decide +kernel
theorem dX0_insert_63 : decode cX0_insert 63 = .ok (.aload_n 0, 1) := by decide +kernel
theorem dX0_insert_64 : decode cX0_insert 64 = .ok (.getfield 15, 3) := by decide +kernel
theorem dX0_insert_67 : decode cX0_insert 67 = .ok (.iload_n 3, 1) := by decide +kernel
theorem dX0_insert_68 : decode cX0_insert 68 = .ok (.iload_n 1, 1) := by decide +kernel
theorem dX0_insert_69 : decode cX0_insert 69 = .ok (.iastore, 1) := by decide +kernel
theorem dX0_insert_70 : decode cX0_insert 70 = .ok (.aload_n 0, 1) := by decide +kernel
theorem dX0_insert_71 : decode cX0_insert 71 = .ok (.getfield 18, 3) := by decide +kernel
theorem dX0_insert_74 : decode cX0_insert 74 = .ok (.iload_n 3, 1) := by decide +kernel
theorem dX0_insert_75 : decode cX0_insert 75 = .ok (.iload_n 2, 1) := by decide +kernel
theorem dX0_insert_76 : decode cX0_insert 76 = .ok (.iastore, 1) := by decide +kernel
theorem dX0_insert_77 : decode cX0_insert 77 = .ok (.aload_n 0, 1) := by decide +kernel
theorem dX0_insert_78 : decode cX0_insert 78 = .ok (.getfield 21, 3) := by decide +kernel
theorem dX0_insert_81 : decode cX0_insert 81 = .ok (.iload_n 3, 1) := by decide +kernel
theorem dX0_insert_82 : decode cX0_insert 82 = .ok (.iload 6, 2) := by decide +kernel
theorem dX0_insert_84 : decode cX0_insert 84 = .ok (.ifCond .eq 13, 3) := by decide +kernel
theorem dX0_insert_87 : decode cX0_insert 87 = .ok (.aload_n 0, 1) := by decide +kernel
theorem dX0_insert_88 : decode cX0_insert 88 = .ok (.getfield 21, 3) := by decide +kernel
theorem dX0_insert_91 : decode cX0_insert 91 = .ok (.iload 5, 2) := by decide +kernel
theorem dX0_insert_93 : decode cX0_insert 93 = .ok (.iaload, 1) := by decide +kernel
theorem dX0_insert_94 : decode cX0_insert 94 = .ok (.goto 5, 3) := by decide +kernel
theorem dX0_insert_97 : decode cX0_insert 97 = .ok (.iload 5, 2) := by decide +kernel
theorem dX0_insert_99 : decode cX0_insert 99 = .ok (.iastore, 1) := by decide +kernel
theorem dX0_insert_100 : decode cX0_insert 100 = .ok (.aload_n 0, 1) := by decide +kernel
theorem dX0_insert_101 : decode cX0_insert 101 = .ok (.iload 4, 2) := by decide +kernel
theorem dX0_insert_103 : decode cX0_insert 103 = .ok (.iload_n 3, 1) := by decide +kernel
theorem dX0_insert_104 : decode cX0_insert 104 = .ok (.invokevirtual 61, 3) := by decide +kernel
theorem dX0_insert_107 : decode cX0_insert 107 = .ok (.iload 6, 2) := by decide +kernel
theorem dX0_insert_109 : decode cX0_insert 109 = .ok (.ifCond .eq 9, 3) := by decide +kernel
theorem dX0_insert_112 : decode cX0_insert 112 = .ok (.aload_n 0, 1) := by decide +kernel
theorem dX0_insert_113 : decode cX0_insert 113 = .ok (.iload 5, 2) := by decide +kernel
theorem dX0_insert_115 : decode cX0_insert 115 = .ok (.invokevirtual 65, 3) := by decide +kernel
theorem dX0_insert_118 : decode cX0_insert 118 = .ok (.iload_n 3, 1) := by decide +kernel
theorem dX0_insert_119 : decode cX0_insert 119 = .ok (.ireturn, 1) := by decide +kernel
theorem dX10_putKey_0 : decode cX10_putKey 0 = .ok (.iload_n 1, 1) := by decide +kernel
theorem dX10_putKey_1 : decode cX10_putKey 1 = .ok (.ifCond .lt 20, 3) := by decide +kernel
theorem dX10_putKey_4 : decode cX10_putKey 4 = .ok (.iload_n 1, 1) := by decide +kernel
theorem dX10_putKey_5 : decode cX10_putKey 5 = .ok (.bipush 100, 2) := by decide +kernel
theorem dX10_putKey_7 : decode cX10_putKey 7 = .ok (.if_icmp .ge 14, 3) := by decide +kernel
theorem dX10_putKey_10 : decode cX10_putKey 10 = .ok (.iload_n 2, 1) := by decide +kernel
theorem dX10_putKey_11 : decode cX10_putKey 11 = .ok (.ifCond .lt 10, 3) := by decide +kernel
theorem dX10_putKey_14 : decode cX10_putKey 14 = .ok (.iload_n 2, 1) := by decide +kernel
theorem dX10_putKey_15 : decode cX10_putKey 15 = .ok (.sipush 1000, 3) := by decide +kernel
theorem dX10_putKey_18 : decode cX10_putKey 18 = .ok (.if_icmp .lt 5, 3) := by decide +kernel
theorem dX10_putKey_21 : decode cX10_putKey 21 = .ok (.iconst (-1), 1) := by decide +kernel
theorem dX10_putKey_22 : decode cX10_putKey 22 = .ok (.ireturn, 1) := by decide +kernel
theorem dX10_putKey_23 : decode cX10_putKey 23 = .ok (.aload_n 3, 1) := by decide +kernel
theorem dX10_putKey_24 : decode cX10_putKey 24 = .ok (.iload_n 1, 1) := by decide +kernel
theorem dX10_putKey_25 : decode cX10_putKey 25 = .ok (.aload_n 0, 1) := by decide +kernel
theorem dX10_putKey_26 : decode cX10_putKey 26 = .ok (.getfield 45, 3) := by decide +kernel
theorem dX10_putKey_29 : decode cX10_putKey 29 = .ok (.invokevirtual 93, 3) := by decide +kernel
theorem dX10_putKey_32 : decode cX10_putKey 32 = .ok (.ifCond .eq 8, 3) := by decide +kernel
theorem dX10_putKey_35 : decode cX10_putKey 35 = .ok (.bipush (-3), 2) := by decide +kernel
theorem dX10_putKey_37 : decode cX10_putKey 37 = .ok (.goto 12, 3) := by decide +kernel
theorem dX10_putKey_40 : decode cX10_putKey 40 = .ok (.aload_n 0, 1) := by decide +kernel
theorem dX10_putKey_41 : decode cX10_putKey 41 = .ok (.getfield 12, 3) := by decide +kernel
theorem dX10_putKey_44 : decode cX10_putKey 44 = .ok (.iload_n 1, 1) := by decide +kernel
theorem dX10_putKey_45 : decode cX10_putKey 45 = .ok (.iload_n 2, 1) := by decide +kernel
theorem dX10_putKey_46 : decode cX10_putKey 46 = .ok (.invokevirtual 99, 3) := by decide +kernel
theorem dX10_putKey_49 : decode cX10_putKey 49 = .ok (.ireturn, 1) := by decide +kernel
theorem dX11_row_0 : decode cX11_row 0 = .ok (.aload_n 0, 1) := by decide +kernel
theorem dX11_row_1 : decode cX11_row 1 = .ok (.getfield 65, 3) := by decide +kernel
theorem dX11_row_4 : decode cX11_row 4 = .ok (.getfield 210, 3) := by decide +kernel
theorem dX11_row_7 : decode cX11_row 7 = .ok (.ifCond .ne 10, 3) := by decide +kernel
theorem dX11_row_10 : decode cX11_row 10 = .ok (.aload_n 0, 1) := by decide +kernel
theorem dX11_row_11 : decode cX11_row 11 = .ok (.bipush (-6), 2) := by decide +kernel
theorem dX11_row_13 : decode cX11_row 13 = .ok (.invokevirtual 192, 3) := by decide +kernel
theorem dX11_row_16 : decode cX11_row 16 = .ok (.ireturn, 1) := by decide +kernel
theorem dX11_row_17 : decode cX11_row 17 = .ok (.iconst 0, 1) := by decide +kernel
theorem dX11_row_18 : decode cX11_row 18 = .ok (.istore_n 1, 1) := by decide +kernel
theorem dX11_row_19 : decode cX11_row 19 = .ok (.aload_n 0, 1) := by decide +kernel
theorem dX11_row_20 : decode cX11_row 20 = .ok (.getfield 65, 3) := by decide +kernel
theorem dX11_row_23 : decode cX11_row 23 = .ok (.getfield 210, 3) := by decide +kernel
theorem dX11_row_26 : decode cX11_row 26 = .ok (.iconst 2, 1) := by decide +kernel
theorem dX11_row_27 : decode cX11_row 27 = .ok (.irem, 1) := by decide +kernel
theorem dX11_row_28 : decode cX11_row 28 = .ok (.istore_n 2, 1) := by decide +kernel
theorem dX11_row_29 : decode cX11_row 29 = .ok (.iconst 0, 1) := by decide +kernel
theorem dX11_row_30 : decode cX11_row 30 = .ok (.istore_n 3, 1) := by decide +kernel
theorem dX11_row_31 : decode cX11_row 31 = .ok (.iload_n 3, 1) := by decide +kernel
theorem dX11_row_32 : decode cX11_row 32 = .ok (.iconst 1, 1) := by decide +kernel
theorem dX11_row_33 : decode cX11_row 33 = .ok (.iadd, 1) := by decide +kernel
theorem dX11_row_34 : decode cX11_row 34 = .ok (.aload_n 0, 1) := by decide +kernel
theorem dX11_row_35 : decode cX11_row 35 = .ok (.getfield 65, 3) := by decide +kernel
theorem dX11_row_38 : decode cX11_row 38 = .ok (.getfield 210, 3) := by decide +kernel
theorem dX11_row_41 : decode cX11_row 41 = .ok (.if_icmp .ge 61, 3) := by decide +kernel
theorem dX11_row_44 : decode cX11_row 44 = .ok (.iload_n 3, 1) := by decide +kernel
theorem dX11_row_45 : decode cX11_row 45 = .ok (.iconst 1, 1) := by decide +kernel
theorem dX11_row_46 : decode cX11_row 46 = .ok (.iadd, 1) := by decide +kernel
theorem dX11_row_47 : decode cX11_row 47 = .ok (.sipush 400, 3) := by decide +kernel
theorem dX11_row_50 : decode cX11_row 50 = .ok (.if_icmp .ge 52, 3) := by decide +kernel
theorem dX11_row_53 : decode cX11_row 53 = .ok (.aload_n 0, 1) := by decide +kernel
theorem dX11_row_54 : decode cX11_row 54 = .ok (.getfield 10, 3) := by decide +kernel
theorem dX11_row_57 : decode cX11_row 57 = .ok (.aload_n 0, 1) := by decide +kernel
theorem dX11_row_58 : decode cX11_row 58 = .ok (.getfield 65, 3) := by decide +kernel
theorem dX11_row_61 : decode cX11_row 61 = .ok (.getfield 217, 3) := by decide +kernel
theorem dX11_row_64 : decode cX11_row 64 = .ok (.iload_n 3, 1) := by decide +kernel
theorem dX11_row_65 : decode cX11_row 65 = .ok (.iaload, 1) := by decide +kernel
theorem dX11_row_66 : decode cX11_row 66 = .ok (.aload_n 0, 1) := by decide +kernel
theorem dX11_row_67 : decode cX11_row 67 = .ok (.getfield 65, 3) := by decide +kernel
theorem dX11_row_70 : decode cX11_row 70 = .ok (.getfield 217, 3) := by decide +kernel
theorem dX11_row_73 : decode cX11_row 73 = .ok (.iload_n 3, 1) := by decide +kernel
theorem dX11_row_74 : decode cX11_row 74 = .ok (.iconst 1, 1) := by decide +kernel
theorem dX11_row_75 : decode cX11_row 75 = .ok (.iadd, 1) := by decide +kernel
theorem dX11_row_76 : decode cX11_row 76 = .ok (.iaload, 1) := by decide +kernel
theorem dX11_row_77 : decode cX11_row 77 = .ok (.aload_n 0, 1) := by decide +kernel
theorem dX11_row_78 : decode cX11_row 78 = .ok (.getfield 31, 3) := by decide +kernel
theorem dX11_row_81 : decode cX11_row 81 = .ok (.invokevirtual 220, 3) := by decide +kernel
theorem dX11_row_84 : decode cX11_row 84 = .ok (.ifCond .lt 9, 3) := by decide +kernel
theorem dX11_row_87 : decode cX11_row 87 = .ok (.iinc 1 1, 3) := by decide +kernel
theorem dX11_row_90 : decode cX11_row 90 = .ok (.goto 6, 3) := by decide +kernel
theorem dX11_row_93 : decode cX11_row 93 = .ok (.iinc 2 1, 3) := by decide +kernel
theorem dX11_row_96 : decode cX11_row 96 = .ok (.iinc 3 2, 3) := by decide +kernel
theorem dX11_row_99 : decode cX11_row 99 = .ok (.goto (-68), 3) := by decide +kernel
theorem dX11_row_102 : decode cX11_row 102 = .ok (.aload_n 0, 1) := by decide +kernel
theorem dX11_row_103 : decode cX11_row 103 = .ok (.getfield 65, 3) := by decide +kernel
theorem dX11_row_106 : decode cX11_row 106 = .ok (.iconst 0, 1) := by decide +kernel
theorem dX11_row_107 : decode cX11_row 107 = .ok (.putfield 210, 3) := by decide +kernel
theorem dX11_row_110 : decode cX11_row 110 = .ok (.aload_n 0, 1) := by decide +kernel
theorem dX11_row_111 : decode cX11_row 111 = .ok (.iload_n 2, 1) := by decide +kernel
theorem dX11_row_112 : decode cX11_row 112 = .ok (.putfield 87, 3) := by decide +kernel
theorem dX11_row_115 : decode cX11_row 115 = .ok (.aload_n 0, 1) := by decide +kernel
theorem dX11_row_116 : decode cX11_row 116 = .ok (.getfield 45, 3) := by decide +kernel
theorem dX11_row_119 : decode cX11_row 119 = .ok (.invokevirtual 207, 3) := by decide +kernel
theorem dX11_row_122 : decode cX11_row 122 = .ok (.aload_n 0, 1) := by decide +kernel
theorem dX11_row_123 : decode cX11_row 123 = .ok (.iload_n 1, 1) := by decide +kernel
theorem dX11_row_124 : decode cX11_row 124 = .ok (.invokevirtual 192, 3) := by decide +kernel
theorem dX11_row_127 : decode cX11_row 127 = .ok (.ireturn, 1) := by decide +kernel
theorem dX11_tears_0 : decode cX11_tears 0 = .ok (.aload_n 0, 1) := by decide +kernel
theorem dX11_tears_1 : decode cX11_tears 1 = .ok (.getfield 87, 3) := by decide +kernel
theorem dX11_tears_4 : decode cX11_tears 4 = .ok (.ireturn, 1) := by decide +kernel
theorem dX9_byteAt_0 : decode cX9_byteAt 0 = .ok (.iload_n 1, 1) := by decide +kernel
theorem dX9_byteAt_1 : decode cX9_byteAt 1 = .ok (.ifCond .lt 19, 3) := by decide +kernel
theorem dX9_byteAt_4 : decode cX9_byteAt 4 = .ok (.iload_n 1, 1) := by decide +kernel
theorem dX9_byteAt_5 : decode cX9_byteAt 5 = .ok (.sipush 400, 3) := by decide +kernel
theorem dX9_byteAt_8 : decode cX9_byteAt 8 = .ok (.if_icmp .ge 12, 3) := by decide +kernel
theorem dX9_byteAt_11 : decode cX9_byteAt 11 = .ok (.aload_n 0, 1) := by decide +kernel
theorem dX9_byteAt_12 : decode cX9_byteAt 12 = .ok (.getfield 138, 3) := by decide +kernel
theorem dX9_byteAt_15 : decode cX9_byteAt 15 = .ok (.iload_n 1, 1) := by decide +kernel
theorem dX9_byteAt_16 : decode cX9_byteAt 16 = .ok (.iaload, 1) := by decide +kernel
theorem dX9_byteAt_17 : decode cX9_byteAt 17 = .ok (.goto 4, 3) := by decide +kernel
theorem dX9_byteAt_20 : decode cX9_byteAt 20 = .ok (.iconst 0, 1) := by decide +kernel
theorem dX9_byteAt_21 : decode cX9_byteAt 21 = .ok (.ireturn, 1) := by decide +kernel
theorem dX9_isLetter_0 : decode cX9_isLetter 0 = .ok (.iload_n 0, 1) := by decide +kernel
theorem dX9_isLetter_1 : decode cX9_isLetter 1 = .ok (.bipush 97, 2) := by decide +kernel
theorem dX9_isLetter_3 : decode cX9_isLetter 3 = .ok (.if_icmp .lt 13, 3) := by decide +kernel
theorem dX9_isLetter_6 : decode cX9_isLetter 6 = .ok (.iload_n 0, 1) := by decide +kernel
theorem dX9_isLetter_7 : decode cX9_isLetter 7 = .ok (.bipush 122, 2) := by decide +kernel
theorem dX9_isLetter_9 : decode cX9_isLetter 9 = .ok (.if_icmp .gt 7, 3) := by decide +kernel
theorem dX9_isLetter_12 : decode cX9_isLetter 12 = .ok (.iconst 1, 1) := by decide +kernel
theorem dX9_isLetter_13 : decode cX9_isLetter 13 = .ok (.goto 4, 3) := by decide +kernel
theorem dX9_isLetter_16 : decode cX9_isLetter 16 = .ok (.iconst 0, 1) := by decide +kernel
theorem dX9_isLetter_17 : decode cX9_isLetter 17 = .ok (.ireturn, 1) := by decide +kernel
theorem dX9_same_0 : decode cX9_same 0 = .ok (.iload_n 2, 1) := by decide +kernel
theorem dX9_same_1 : decode cX9_same 1 = .ok (.iload_n 1, 1) := by decide +kernel
theorem dX9_same_2 : decode cX9_same 2 = .ok (.isub, 1) := by decide +kernel
theorem dX9_same_3 : decode cX9_same 3 = .ok (.aload_n 3, 1) := by decide +kernel
theorem dX9_same_4 : decode cX9_same 4 = .ok (.invokevirtual 129, 3) := by decide +kernel
theorem dX9_same_7 : decode cX9_same 7 = .ok (.if_icmp .eq 5, 3) := by decide +kernel
theorem dX9_same_10 : decode cX9_same 10 = .ok (.iconst 0, 1) := by decide +kernel
theorem dX9_same_11 : decode cX9_same 11 = .ok (.ireturn, 1) := by decide +kernel
theorem dX9_same_12 : decode cX9_same 12 = .ok (.iconst 0, 1) := by decide +kernel
theorem dX9_same_13 : decode cX9_same 13 = .ok (.istore 4, 2) := by decide +kernel
theorem dX9_same_15 : decode cX9_same 15 = .ok (.iload 4, 2) := by decide +kernel
theorem dX9_same_17 : decode cX9_same 17 = .ok (.aload_n 3, 1) := by decide +kernel
theorem dX9_same_18 : decode cX9_same 18 = .ok (.invokevirtual 129, 3) := by decide +kernel
theorem dX9_same_21 : decode cX9_same 21 = .ok (.if_icmp .ge 28, 3) := by decide +kernel
theorem dX9_same_24 : decode cX9_same 24 = .ok (.aload_n 0, 1) := by decide +kernel
theorem dX9_same_25 : decode cX9_same 25 = .ok (.iload_n 1, 1) := by decide +kernel
theorem dX9_same_26 : decode cX9_same 26 = .ok (.iload 4, 2) := by decide +kernel
theorem dX9_same_28 : decode cX9_same 28 = .ok (.iadd, 1) := by decide +kernel
theorem dX9_same_29 : decode cX9_same 29 = .ok (.invokestatic 30, 3) := by decide +kernel
theorem dX9_same_32 : decode cX9_same 32 = .ok (.aload_n 3, 1) := by decide +kernel
theorem dX9_same_33 : decode cX9_same 33 = .ok (.iload 4, 2) := by decide +kernel
theorem dX9_same_35 : decode cX9_same 35 = .ok (.invokevirtual 134, 3) := by decide +kernel
theorem dX9_same_38 : decode cX9_same 38 = .ok (.if_icmp .eq 5, 3) := by decide +kernel
theorem dX9_same_41 : decode cX9_same 41 = .ok (.iconst 0, 1) := by decide +kernel
theorem dX9_same_42 : decode cX9_same 42 = .ok (.ireturn, 1) := by decide +kernel
theorem dX9_same_43 : decode cX9_same 43 = .ok (.iinc 4 1, 3) := by decide +kernel
theorem dX9_same_46 : decode cX9_same 46 = .ok (.goto (-31), 3) := by decide +kernel
theorem dX9_same_49 : decode cX9_same 49 = .ok (.iconst 1, 1) := by decide +kernel
theorem dX9_same_50 : decode cX9_same 50 = .ok (.ireturn, 1) := by decide +kernel
theorem dX9_lawWord_0 : decode cX9_lawWord 0 = .ok (.aload_n 0, 1) := by decide +kernel
theorem dX9_lawWord_1 : decode cX9_lawWord 1 = .ok (.iload_n 1, 1) := by decide +kernel
theorem dX9_lawWord_2 : decode cX9_lawWord 2 = .ok (.iload_n 2, 1) := by decide +kernel
theorem dX9_lawWord_3 : decode cX9_lawWord 3 = .ok (.ldc 77, 2) := by decide +kernel
theorem dX9_lawWord_5 : decode cX9_lawWord 5 = .ok (.invokestatic 57, 3) := by decide +kernel
theorem dX9_lawWord_8 : decode cX9_lawWord 8 = .ok (.ifCond .eq 7, 3) := by decide +kernel
theorem dX9_lawWord_11 : decode cX9_lawWord 11 = .ok (.sipush 262, 3) := by decide +kernel
theorem dX9_lawWord_14 : decode cX9_lawWord 14 = .ok (.ireturn, 1) := by decide +kernel
theorem dX9_lawWord_15 : decode cX9_lawWord 15 = .ok (.aload_n 0, 1) := by decide +kernel
theorem dX9_lawWord_16 : decode cX9_lawWord 16 = .ok (.iload_n 1, 1) := by decide +kernel
theorem dX9_lawWord_17 : decode cX9_lawWord 17 = .ok (.iload_n 2, 1) := by decide +kernel
theorem dX9_lawWord_18 : decode cX9_lawWord 18 = .ok (.ldc 79, 2) := by decide +kernel
theorem dX9_lawWord_20 : decode cX9_lawWord 20 = .ok (.invokestatic 57, 3) := by decide +kernel
theorem dX9_lawWord_23 : decode cX9_lawWord 23 = .ok (.ifCond .eq 7, 3) := by decide +kernel
theorem dX9_lawWord_26 : decode cX9_lawWord 26 = .ok (.sipush 263, 3) := by decide +kernel
theorem dX9_lawWord_29 : decode cX9_lawWord 29 = .ok (.ireturn, 1) := by decide +kernel
theorem dX9_lawWord_30 : decode cX9_lawWord 30 = .ok (.aload_n 0, 1) := by decide +kernel
theorem dX9_lawWord_31 : decode cX9_lawWord 31 = .ok (.iload_n 1, 1) := by decide +kernel
theorem dX9_lawWord_32 : decode cX9_lawWord 32 = .ok (.iload_n 2, 1) := by decide +kernel
theorem dX9_lawWord_33 : decode cX9_lawWord 33 = .ok (.ldc 81, 2) := by decide +kernel
theorem dX9_lawWord_35 : decode cX9_lawWord 35 = .ok (.invokestatic 57, 3) := by decide +kernel
theorem dX9_lawWord_38 : decode cX9_lawWord 38 = .ok (.ifCond .eq 7, 3) := by decide +kernel
theorem dX9_lawWord_41 : decode cX9_lawWord 41 = .ok (.sipush 400, 3) := by decide +kernel
theorem dX9_lawWord_44 : decode cX9_lawWord 44 = .ok (.ireturn, 1) := by decide +kernel
theorem dX9_lawWord_45 : decode cX9_lawWord 45 = .ok (.aload_n 0, 1) := by decide +kernel
theorem dX9_lawWord_46 : decode cX9_lawWord 46 = .ok (.iload_n 1, 1) := by decide +kernel
theorem dX9_lawWord_47 : decode cX9_lawWord 47 = .ok (.iload_n 2, 1) := by decide +kernel
theorem dX9_lawWord_48 : decode cX9_lawWord 48 = .ok (.ldc 85, 2) := by decide +kernel
theorem dX9_lawWord_50 : decode cX9_lawWord 50 = .ok (.invokestatic 57, 3) := by decide +kernel
theorem dX9_lawWord_53 : decode cX9_lawWord 53 = .ok (.ifCond .eq 7, 3) := by decide +kernel
theorem dX9_lawWord_56 : decode cX9_lawWord 56 = .ok (.sipush 401, 3) := by decide +kernel
theorem dX9_lawWord_59 : decode cX9_lawWord 59 = .ok (.ireturn, 1) := by decide +kernel
theorem dX9_lawWord_60 : decode cX9_lawWord 60 = .ok (.aload_n 0, 1) := by decide +kernel
theorem dX9_lawWord_61 : decode cX9_lawWord 61 = .ok (.iload_n 1, 1) := by decide +kernel
theorem dX9_lawWord_62 : decode cX9_lawWord 62 = .ok (.iload_n 2, 1) := by decide +kernel
theorem dX9_lawWord_63 : decode cX9_lawWord 63 = .ok (.ldc 87, 2) := by decide +kernel
theorem dX9_lawWord_65 : decode cX9_lawWord 65 = .ok (.invokestatic 57, 3) := by decide +kernel
theorem dX9_lawWord_68 : decode cX9_lawWord 68 = .ok (.ifCond .eq 7, 3) := by decide +kernel
theorem dX9_lawWord_71 : decode cX9_lawWord 71 = .ok (.sipush 402, 3) := by decide +kernel
theorem dX9_lawWord_74 : decode cX9_lawWord 74 = .ok (.ireturn, 1) := by decide +kernel
theorem dX9_lawWord_75 : decode cX9_lawWord 75 = .ok (.aload_n 0, 1) := by decide +kernel
theorem dX9_lawWord_76 : decode cX9_lawWord 76 = .ok (.iload_n 1, 1) := by decide +kernel
theorem dX9_lawWord_77 : decode cX9_lawWord 77 = .ok (.iload_n 2, 1) := by decide +kernel
theorem dX9_lawWord_78 : decode cX9_lawWord 78 = .ok (.ldc 89, 2) := by decide +kernel
theorem dX9_lawWord_80 : decode cX9_lawWord 80 = .ok (.invokestatic 57, 3) := by decide +kernel
theorem dX9_lawWord_83 : decode cX9_lawWord 83 = .ok (.ifCond .eq 7, 3) := by decide +kernel
theorem dX9_lawWord_86 : decode cX9_lawWord 86 = .ok (.sipush 403, 3) := by decide +kernel
theorem dX9_lawWord_89 : decode cX9_lawWord 89 = .ok (.ireturn, 1) := by decide +kernel
theorem dX9_lawWord_90 : decode cX9_lawWord 90 = .ok (.aload_n 0, 1) := by decide +kernel
theorem dX9_lawWord_91 : decode cX9_lawWord 91 = .ok (.iload_n 1, 1) := by decide +kernel
theorem dX9_lawWord_92 : decode cX9_lawWord 92 = .ok (.iload_n 2, 1) := by decide +kernel
theorem dX9_lawWord_93 : decode cX9_lawWord 93 = .ok (.ldc 91, 2) := by decide +kernel
theorem dX9_lawWord_95 : decode cX9_lawWord 95 = .ok (.invokestatic 57, 3) := by decide +kernel
theorem dX9_lawWord_98 : decode cX9_lawWord 98 = .ok (.ifCond .eq 7, 3) := by decide +kernel
theorem dX9_lawWord_101 : decode cX9_lawWord 101 = .ok (.sipush 404, 3) := by decide +kernel
theorem dX9_lawWord_104 : decode cX9_lawWord 104 = .ok (.ireturn, 1) := by decide +kernel
theorem dX9_lawWord_105 : decode cX9_lawWord 105 = .ok (.aload_n 0, 1) := by decide +kernel
theorem dX9_lawWord_106 : decode cX9_lawWord 106 = .ok (.iload_n 1, 1) := by decide +kernel
theorem dX9_lawWord_107 : decode cX9_lawWord 107 = .ok (.iload_n 2, 1) := by decide +kernel
theorem dX9_lawWord_108 : decode cX9_lawWord 108 = .ok (.ldc 93, 2) := by decide +kernel
theorem dX9_lawWord_110 : decode cX9_lawWord 110 = .ok (.invokestatic 57, 3) := by decide +kernel
theorem dX9_lawWord_113 : decode cX9_lawWord 113 = .ok (.ifCond .eq 7, 3) := by decide +kernel
theorem dX9_lawWord_116 : decode cX9_lawWord 116 = .ok (.sipush 405, 3) := by decide +kernel
theorem dX9_lawWord_119 : decode cX9_lawWord 119 = .ok (.ireturn, 1) := by decide +kernel
theorem dX9_lawWord_120 : decode cX9_lawWord 120 = .ok (.aload_n 0, 1) := by decide +kernel
theorem dX9_lawWord_121 : decode cX9_lawWord 121 = .ok (.iload_n 1, 1) := by decide +kernel
theorem dX9_lawWord_122 : decode cX9_lawWord 122 = .ok (.iload_n 2, 1) := by decide +kernel
theorem dX9_lawWord_123 : decode cX9_lawWord 123 = .ok (.ldc 95, 2) := by decide +kernel
theorem dX9_lawWord_125 : decode cX9_lawWord 125 = .ok (.invokestatic 57, 3) := by decide +kernel
theorem dX9_lawWord_128 : decode cX9_lawWord 128 = .ok (.ifCond .eq 9, 3) := by decide +kernel
theorem dX9_lawWord_131 : decode cX9_lawWord 131 = .ok (.sipush 406, 3) := by decide +kernel
theorem dX9_lawWord_134 : decode cX9_lawWord 134 = .ok (.goto 4, 3) := by decide +kernel
theorem dX9_lawWord_137 : decode cX9_lawWord 137 = .ok (.iconst 2, 1) := by decide +kernel
theorem dX9_lawWord_138 : decode cX9_lawWord 138 = .ok (.ireturn, 1) := by decide +kernel
theorem dX9_actWord_0 : decode cX9_actWord 0 = .ok (.aload_n 0, 1) := by decide +kernel
theorem dX9_actWord_1 : decode cX9_actWord 1 = .ok (.iload_n 1, 1) := by decide +kernel
theorem dX9_actWord_2 : decode cX9_actWord 2 = .ok (.iload_n 2, 1) := by decide +kernel
theorem dX9_actWord_3 : decode cX9_actWord 3 = .ok (.ldc 97, 2) := by decide +kernel
theorem dX9_actWord_5 : decode cX9_actWord 5 = .ok (.invokestatic 57, 3) := by decide +kernel
theorem dX9_actWord_8 : decode cX9_actWord 8 = .ok (.ifCond .eq 7, 3) := by decide +kernel
theorem dX9_actWord_11 : decode cX9_actWord 11 = .ok (.sipush 300, 3) := by decide +kernel
theorem dX9_actWord_14 : decode cX9_actWord 14 = .ok (.ireturn, 1) := by decide +kernel
theorem dX9_actWord_15 : decode cX9_actWord 15 = .ok (.aload_n 0, 1) := by decide +kernel
theorem dX9_actWord_16 : decode cX9_actWord 16 = .ok (.iload_n 1, 1) := by decide +kernel
theorem dX9_actWord_17 : decode cX9_actWord 17 = .ok (.iload_n 2, 1) := by decide +kernel
theorem dX9_actWord_18 : decode cX9_actWord 18 = .ok (.ldc 99, 2) := by decide +kernel
theorem dX9_actWord_20 : decode cX9_actWord 20 = .ok (.invokestatic 57, 3) := by decide +kernel
theorem dX9_actWord_23 : decode cX9_actWord 23 = .ok (.ifCond .eq 7, 3) := by decide +kernel
theorem dX9_actWord_26 : decode cX9_actWord 26 = .ok (.sipush 301, 3) := by decide +kernel
theorem dX9_actWord_29 : decode cX9_actWord 29 = .ok (.ireturn, 1) := by decide +kernel
theorem dX9_actWord_30 : decode cX9_actWord 30 = .ok (.aload_n 0, 1) := by decide +kernel
theorem dX9_actWord_31 : decode cX9_actWord 31 = .ok (.iload_n 1, 1) := by decide +kernel
theorem dX9_actWord_32 : decode cX9_actWord 32 = .ok (.iload_n 2, 1) := by decide +kernel
theorem dX9_actWord_33 : decode cX9_actWord 33 = .ok (.ldc 101, 2) := by decide +kernel
theorem dX9_actWord_35 : decode cX9_actWord 35 = .ok (.invokestatic 57, 3) := by decide +kernel
theorem dX9_actWord_38 : decode cX9_actWord 38 = .ok (.ifCond .eq 7, 3) := by decide +kernel
theorem dX9_actWord_41 : decode cX9_actWord 41 = .ok (.sipush 302, 3) := by decide +kernel
theorem dX9_actWord_44 : decode cX9_actWord 44 = .ok (.ireturn, 1) := by decide +kernel
theorem dX9_actWord_45 : decode cX9_actWord 45 = .ok (.aload_n 0, 1) := by decide +kernel
theorem dX9_actWord_46 : decode cX9_actWord 46 = .ok (.iload_n 1, 1) := by decide +kernel
theorem dX9_actWord_47 : decode cX9_actWord 47 = .ok (.iload_n 2, 1) := by decide +kernel
theorem dX9_actWord_48 : decode cX9_actWord 48 = .ok (.ldc 103, 2) := by decide +kernel
theorem dX9_actWord_50 : decode cX9_actWord 50 = .ok (.invokestatic 57, 3) := by decide +kernel
theorem dX9_actWord_53 : decode cX9_actWord 53 = .ok (.ifCond .eq 7, 3) := by decide +kernel
theorem dX9_actWord_56 : decode cX9_actWord 56 = .ok (.sipush 303, 3) := by decide +kernel
theorem dX9_actWord_59 : decode cX9_actWord 59 = .ok (.ireturn, 1) := by decide +kernel
theorem dX9_actWord_60 : decode cX9_actWord 60 = .ok (.aload_n 0, 1) := by decide +kernel
theorem dX9_actWord_61 : decode cX9_actWord 61 = .ok (.iload_n 1, 1) := by decide +kernel
theorem dX9_actWord_62 : decode cX9_actWord 62 = .ok (.iload_n 2, 1) := by decide +kernel
theorem dX9_actWord_63 : decode cX9_actWord 63 = .ok (.ldc 105, 2) := by decide +kernel
theorem dX9_actWord_65 : decode cX9_actWord 65 = .ok (.invokestatic 57, 3) := by decide +kernel
theorem dX9_actWord_68 : decode cX9_actWord 68 = .ok (.ifCond .eq 7, 3) := by decide +kernel
theorem dX9_actWord_71 : decode cX9_actWord 71 = .ok (.sipush 304, 3) := by decide +kernel
theorem dX9_actWord_74 : decode cX9_actWord 74 = .ok (.ireturn, 1) := by decide +kernel
theorem dX9_actWord_75 : decode cX9_actWord 75 = .ok (.aload_n 0, 1) := by decide +kernel
theorem dX9_actWord_76 : decode cX9_actWord 76 = .ok (.iload_n 1, 1) := by decide +kernel
theorem dX9_actWord_77 : decode cX9_actWord 77 = .ok (.iload_n 2, 1) := by decide +kernel
theorem dX9_actWord_78 : decode cX9_actWord 78 = .ok (.ldc 107, 2) := by decide +kernel
theorem dX9_actWord_80 : decode cX9_actWord 80 = .ok (.invokestatic 57, 3) := by decide +kernel
theorem dX9_actWord_83 : decode cX9_actWord 83 = .ok (.ifCond .eq 7, 3) := by decide +kernel
theorem dX9_actWord_86 : decode cX9_actWord 86 = .ok (.sipush 305, 3) := by decide +kernel
theorem dX9_actWord_89 : decode cX9_actWord 89 = .ok (.ireturn, 1) := by decide +kernel
theorem dX9_actWord_90 : decode cX9_actWord 90 = .ok (.aload_n 0, 1) := by decide +kernel
theorem dX9_actWord_91 : decode cX9_actWord 91 = .ok (.iload_n 1, 1) := by decide +kernel
theorem dX9_actWord_92 : decode cX9_actWord 92 = .ok (.iload_n 2, 1) := by decide +kernel
theorem dX9_actWord_93 : decode cX9_actWord 93 = .ok (.ldc 109, 2) := by decide +kernel
theorem dX9_actWord_95 : decode cX9_actWord 95 = .ok (.invokestatic 57, 3) := by decide +kernel
theorem dX9_actWord_98 : decode cX9_actWord 98 = .ok (.ifCond .eq 7, 3) := by decide +kernel
theorem dX9_actWord_101 : decode cX9_actWord 101 = .ok (.sipush 306, 3) := by decide +kernel
theorem dX9_actWord_104 : decode cX9_actWord 104 = .ok (.ireturn, 1) := by decide +kernel
theorem dX9_actWord_105 : decode cX9_actWord 105 = .ok (.aload_n 0, 1) := by decide +kernel
theorem dX9_actWord_106 : decode cX9_actWord 106 = .ok (.iload_n 1, 1) := by decide +kernel
theorem dX9_actWord_107 : decode cX9_actWord 107 = .ok (.iload_n 2, 1) := by decide +kernel
theorem dX9_actWord_108 : decode cX9_actWord 108 = .ok (.ldc 111, 2) := by decide +kernel
theorem dX9_actWord_110 : decode cX9_actWord 110 = .ok (.invokestatic 57, 3) := by decide +kernel
theorem dX9_actWord_113 : decode cX9_actWord 113 = .ok (.ifCond .eq 9, 3) := by decide +kernel
theorem dX9_actWord_116 : decode cX9_actWord 116 = .ok (.sipush 307, 3) := by decide +kernel
theorem dX9_actWord_119 : decode cX9_actWord 119 = .ok (.goto 4, 3) := by decide +kernel
theorem dX9_actWord_122 : decode cX9_actWord 122 = .ok (.iconst 2, 1) := by decide +kernel
theorem dX9_actWord_123 : decode cX9_actWord 123 = .ok (.ireturn, 1) := by decide +kernel
theorem dX9_orderWord_0 : decode cX9_orderWord 0 = .ok (.aload_n 0, 1) := by decide +kernel
theorem dX9_orderWord_1 : decode cX9_orderWord 1 = .ok (.iload_n 1, 1) := by decide +kernel
theorem dX9_orderWord_2 : decode cX9_orderWord 2 = .ok (.iload_n 2, 1) := by decide +kernel
theorem dX9_orderWord_3 : decode cX9_orderWord 3 = .ok (.ldc 113, 2) := by decide +kernel
theorem dX9_orderWord_5 : decode cX9_orderWord 5 = .ok (.invokestatic 57, 3) := by decide +kernel
theorem dX9_orderWord_8 : decode cX9_orderWord 8 = .ok (.ifCond .eq 7, 3) := by decide +kernel
theorem dX9_orderWord_11 : decode cX9_orderWord 11 = .ok (.sipush 260, 3) := by decide +kernel
theorem dX9_orderWord_14 : decode cX9_orderWord 14 = .ok (.ireturn, 1) := by decide +kernel
theorem dX9_orderWord_15 : decode cX9_orderWord 15 = .ok (.aload_n 0, 1) := by decide +kernel
theorem dX9_orderWord_16 : decode cX9_orderWord 16 = .ok (.iload_n 1, 1) := by decide +kernel
theorem dX9_orderWord_17 : decode cX9_orderWord 17 = .ok (.iload_n 2, 1) := by decide +kernel
theorem dX9_orderWord_18 : decode cX9_orderWord 18 = .ok (.ldc 115, 2) := by decide +kernel
theorem dX9_orderWord_20 : decode cX9_orderWord 20 = .ok (.invokestatic 57, 3) := by decide +kernel
theorem dX9_orderWord_23 : decode cX9_orderWord 23 = .ok (.ifCond .eq 7, 3) := by decide +kernel
theorem dX9_orderWord_26 : decode cX9_orderWord 26 = .ok (.sipush 261, 3) := by decide +kernel
theorem dX9_orderWord_29 : decode cX9_orderWord 29 = .ok (.ireturn, 1) := by decide +kernel
theorem dX9_orderWord_30 : decode cX9_orderWord 30 = .ok (.aload_n 0, 1) := by decide +kernel
theorem dX9_orderWord_31 : decode cX9_orderWord 31 = .ok (.iload_n 1, 1) := by decide +kernel
theorem dX9_orderWord_32 : decode cX9_orderWord 32 = .ok (.iload_n 2, 1) := by decide +kernel
theorem dX9_orderWord_33 : decode cX9_orderWord 33 = .ok (.ldc 117, 2) := by decide +kernel
theorem dX9_orderWord_35 : decode cX9_orderWord 35 = .ok (.invokestatic 57, 3) := by decide +kernel
theorem dX9_orderWord_38 : decode cX9_orderWord 38 = .ok (.ifCond .eq 7, 3) := by decide +kernel
theorem dX9_orderWord_41 : decode cX9_orderWord 41 = .ok (.sipush 264, 3) := by decide +kernel
theorem dX9_orderWord_44 : decode cX9_orderWord 44 = .ok (.ireturn, 1) := by decide +kernel
theorem dX9_orderWord_45 : decode cX9_orderWord 45 = .ok (.aload_n 0, 1) := by decide +kernel
theorem dX9_orderWord_46 : decode cX9_orderWord 46 = .ok (.iload_n 1, 1) := by decide +kernel
theorem dX9_orderWord_47 : decode cX9_orderWord 47 = .ok (.iload_n 2, 1) := by decide +kernel
theorem dX9_orderWord_48 : decode cX9_orderWord 48 = .ok (.ldc 119, 2) := by decide +kernel
theorem dX9_orderWord_50 : decode cX9_orderWord 50 = .ok (.invokestatic 57, 3) := by decide +kernel
theorem dX9_orderWord_53 : decode cX9_orderWord 53 = .ok (.ifCond .eq 7, 3) := by decide +kernel
theorem dX9_orderWord_56 : decode cX9_orderWord 56 = .ok (.sipush 265, 3) := by decide +kernel
theorem dX9_orderWord_59 : decode cX9_orderWord 59 = .ok (.ireturn, 1) := by decide +kernel
theorem dX9_orderWord_60 : decode cX9_orderWord 60 = .ok (.aload_n 0, 1) := by decide +kernel
theorem dX9_orderWord_61 : decode cX9_orderWord 61 = .ok (.iload_n 1, 1) := by decide +kernel
theorem dX9_orderWord_62 : decode cX9_orderWord 62 = .ok (.iload_n 2, 1) := by decide +kernel
theorem dX9_orderWord_63 : decode cX9_orderWord 63 = .ok (.ldc 93, 2) := by decide +kernel
theorem dX9_orderWord_65 : decode cX9_orderWord 65 = .ok (.invokestatic 57, 3) := by decide +kernel
theorem dX9_orderWord_68 : decode cX9_orderWord 68 = .ok (.ifCond .eq 7, 3) := by decide +kernel
theorem dX9_orderWord_71 : decode cX9_orderWord 71 = .ok (.sipush 400, 3) := by decide +kernel
theorem dX9_orderWord_74 : decode cX9_orderWord 74 = .ok (.ireturn, 1) := by decide +kernel
theorem dX9_orderWord_75 : decode cX9_orderWord 75 = .ok (.aload_n 0, 1) := by decide +kernel
theorem dX9_orderWord_76 : decode cX9_orderWord 76 = .ok (.iload_n 1, 1) := by decide +kernel
theorem dX9_orderWord_77 : decode cX9_orderWord 77 = .ok (.iload_n 2, 1) := by decide +kernel
theorem dX9_orderWord_78 : decode cX9_orderWord 78 = .ok (.ldc 121, 2) := by decide +kernel
theorem dX9_orderWord_80 : decode cX9_orderWord 80 = .ok (.invokestatic 57, 3) := by decide +kernel
theorem dX9_orderWord_83 : decode cX9_orderWord 83 = .ok (.ifCond .eq 7, 3) := by decide +kernel
theorem dX9_orderWord_86 : decode cX9_orderWord 86 = .ok (.sipush 401, 3) := by decide +kernel
theorem dX9_orderWord_89 : decode cX9_orderWord 89 = .ok (.ireturn, 1) := by decide +kernel
theorem dX9_orderWord_90 : decode cX9_orderWord 90 = .ok (.aload_n 0, 1) := by decide +kernel
theorem dX9_orderWord_91 : decode cX9_orderWord 91 = .ok (.iload_n 1, 1) := by decide +kernel
theorem dX9_orderWord_92 : decode cX9_orderWord 92 = .ok (.iload_n 2, 1) := by decide +kernel
theorem dX9_orderWord_93 : decode cX9_orderWord 93 = .ok (.ldc 123, 2) := by decide +kernel
theorem dX9_orderWord_95 : decode cX9_orderWord 95 = .ok (.invokestatic 57, 3) := by decide +kernel
theorem dX9_orderWord_98 : decode cX9_orderWord 98 = .ok (.ifCond .eq 7, 3) := by decide +kernel
theorem dX9_orderWord_101 : decode cX9_orderWord 101 = .ok (.sipush 402, 3) := by decide +kernel
theorem dX9_orderWord_104 : decode cX9_orderWord 104 = .ok (.ireturn, 1) := by decide +kernel
theorem dX9_orderWord_105 : decode cX9_orderWord 105 = .ok (.aload_n 0, 1) := by decide +kernel
theorem dX9_orderWord_106 : decode cX9_orderWord 106 = .ok (.iload_n 1, 1) := by decide +kernel
theorem dX9_orderWord_107 : decode cX9_orderWord 107 = .ok (.iload_n 2, 1) := by decide +kernel
theorem dX9_orderWord_108 : decode cX9_orderWord 108 = .ok (.ldc 125, 2) := by decide +kernel
theorem dX9_orderWord_110 : decode cX9_orderWord 110 = .ok (.invokestatic 57, 3) := by decide +kernel
theorem dX9_orderWord_113 : decode cX9_orderWord 113 = .ok (.ifCond .eq 7, 3) := by decide +kernel
theorem dX9_orderWord_116 : decode cX9_orderWord 116 = .ok (.sipush 403, 3) := by decide +kernel
theorem dX9_orderWord_119 : decode cX9_orderWord 119 = .ok (.ireturn, 1) := by decide +kernel
theorem dX9_orderWord_120 : decode cX9_orderWord 120 = .ok (.aload_n 0, 1) := by decide +kernel
theorem dX9_orderWord_121 : decode cX9_orderWord 121 = .ok (.iload_n 1, 1) := by decide +kernel
theorem dX9_orderWord_122 : decode cX9_orderWord 122 = .ok (.iload_n 2, 1) := by decide +kernel
theorem dX9_orderWord_123 : decode cX9_orderWord 123 = .ok (.ldc 127, 2) := by decide +kernel
theorem dX9_orderWord_125 : decode cX9_orderWord 125 = .ok (.invokestatic 57, 3) := by decide +kernel
theorem dX9_orderWord_128 : decode cX9_orderWord 128 = .ok (.ifCond .eq 9, 3) := by decide +kernel
theorem dX9_orderWord_131 : decode cX9_orderWord 131 = .ok (.sipush 404, 3) := by decide +kernel
theorem dX9_orderWord_134 : decode cX9_orderWord 134 = .ok (.goto 4, 3) := by decide +kernel
theorem dX9_orderWord_137 : decode cX9_orderWord 137 = .ok (.iconst 2, 1) := by decide +kernel
theorem dX9_orderWord_138 : decode cX9_orderWord 138 = .ok (.ireturn, 1) := by decide +kernel
theorem dX9_wordFrom_0 : decode cX9_wordFrom 0 = .ok (.aload_n 0, 1) := by decide +kernel
theorem dX9_wordFrom_1 : decode cX9_wordFrom 1 = .ok (.iload_n 1, 1) := by decide +kernel
theorem dX9_wordFrom_2 : decode cX9_wordFrom 2 = .ok (.iload_n 2, 1) := by decide +kernel
theorem dX9_wordFrom_3 : decode cX9_wordFrom 3 = .ok (.ldc 55, 2) := by decide +kernel
theorem dX9_wordFrom_5 : decode cX9_wordFrom 5 = .ok (.invokestatic 57, 3) := by decide +kernel
theorem dX9_wordFrom_8 : decode cX9_wordFrom 8 = .ok (.ifCond .eq 7, 3) := by decide +kernel
theorem dX9_wordFrom_11 : decode cX9_wordFrom 11 = .ok (.sipush 256, 3) := by decide +kernel
theorem dX9_wordFrom_14 : decode cX9_wordFrom 14 = .ok (.ireturn, 1) := by decide +kernel
theorem dX9_wordFrom_15 : decode cX9_wordFrom 15 = .ok (.aload_n 0, 1) := by decide +kernel
theorem dX9_wordFrom_16 : decode cX9_wordFrom 16 = .ok (.iload_n 1, 1) := by decide +kernel
theorem dX9_wordFrom_17 : decode cX9_wordFrom 17 = .ok (.iload_n 2, 1) := by decide +kernel
theorem dX9_wordFrom_18 : decode cX9_wordFrom 18 = .ok (.ldc 61, 2) := by decide +kernel
theorem dX9_wordFrom_20 : decode cX9_wordFrom 20 = .ok (.invokestatic 57, 3) := by decide +kernel
theorem dX9_wordFrom_23 : decode cX9_wordFrom 23 = .ok (.ifCond .eq 7, 3) := by decide +kernel
theorem dX9_wordFrom_26 : decode cX9_wordFrom 26 = .ok (.sipush 257, 3) := by decide +kernel
theorem dX9_wordFrom_29 : decode cX9_wordFrom 29 = .ok (.ireturn, 1) := by decide +kernel
theorem dX9_wordFrom_30 : decode cX9_wordFrom 30 = .ok (.aload_n 0, 1) := by decide +kernel
theorem dX9_wordFrom_31 : decode cX9_wordFrom 31 = .ok (.iload_n 1, 1) := by decide +kernel
theorem dX9_wordFrom_32 : decode cX9_wordFrom 32 = .ok (.iload_n 2, 1) := by decide +kernel
theorem dX9_wordFrom_33 : decode cX9_wordFrom 33 = .ok (.ldc 63, 2) := by decide +kernel
theorem dX9_wordFrom_35 : decode cX9_wordFrom 35 = .ok (.invokestatic 57, 3) := by decide +kernel
theorem dX9_wordFrom_38 : decode cX9_wordFrom 38 = .ok (.ifCond .eq 7, 3) := by decide +kernel
theorem dX9_wordFrom_41 : decode cX9_wordFrom 41 = .ok (.sipush 258, 3) := by decide +kernel
theorem dX9_wordFrom_44 : decode cX9_wordFrom 44 = .ok (.ireturn, 1) := by decide +kernel
theorem dX9_wordFrom_45 : decode cX9_wordFrom 45 = .ok (.aload_n 0, 1) := by decide +kernel
theorem dX9_wordFrom_46 : decode cX9_wordFrom 46 = .ok (.iload_n 1, 1) := by decide +kernel
theorem dX9_wordFrom_47 : decode cX9_wordFrom 47 = .ok (.iload_n 2, 1) := by decide +kernel
theorem dX9_wordFrom_48 : decode cX9_wordFrom 48 = .ok (.ldc 65, 2) := by decide +kernel
theorem dX9_wordFrom_50 : decode cX9_wordFrom 50 = .ok (.invokestatic 57, 3) := by decide +kernel
theorem dX9_wordFrom_53 : decode cX9_wordFrom 53 = .ok (.ifCond .eq 7, 3) := by decide +kernel
theorem dX9_wordFrom_56 : decode cX9_wordFrom 56 = .ok (.sipush 259, 3) := by decide +kernel
theorem dX9_wordFrom_59 : decode cX9_wordFrom 59 = .ok (.ireturn, 1) := by decide +kernel
theorem dX9_wordFrom_60 : decode cX9_wordFrom 60 = .ok (.iload_n 3, 1) := by decide +kernel
theorem dX9_wordFrom_61 : decode cX9_wordFrom 61 = .ok (.ifCond .ne 10, 3) := by decide +kernel
theorem dX9_wordFrom_64 : decode cX9_wordFrom 64 = .ok (.aload_n 0, 1) := by decide +kernel
theorem dX9_wordFrom_65 : decode cX9_wordFrom 65 = .ok (.iload_n 1, 1) := by decide +kernel
theorem dX9_wordFrom_66 : decode cX9_wordFrom 66 = .ok (.iload_n 2, 1) := by decide +kernel
theorem dX9_wordFrom_67 : decode cX9_wordFrom 67 = .ok (.invokestatic 67, 3) := by decide +kernel
theorem dX9_wordFrom_70 : decode cX9_wordFrom 70 = .ok (.ireturn, 1) := by decide +kernel
theorem dX9_wordFrom_71 : decode cX9_wordFrom 71 = .ok (.aload_n 0, 1) := by decide +kernel
theorem dX9_wordFrom_72 : decode cX9_wordFrom 72 = .ok (.iload_n 1, 1) := by decide +kernel
theorem dX9_wordFrom_73 : decode cX9_wordFrom 73 = .ok (.iload_n 2, 1) := by decide +kernel
theorem dX9_wordFrom_74 : decode cX9_wordFrom 74 = .ok (.invokestatic 71, 3) := by decide +kernel
theorem dX9_wordFrom_77 : decode cX9_wordFrom 77 = .ok (.istore 4, 2) := by decide +kernel
theorem dX9_wordFrom_79 : decode cX9_wordFrom 79 = .ok (.iload 4, 2) := by decide +kernel
theorem dX9_wordFrom_81 : decode cX9_wordFrom 81 = .ok (.iconst 2, 1) := by decide +kernel
theorem dX9_wordFrom_82 : decode cX9_wordFrom 82 = .ok (.if_icmp .eq 8, 3) := by decide +kernel
theorem dX9_wordFrom_85 : decode cX9_wordFrom 85 = .ok (.iload 4, 2) := by decide +kernel
theorem dX9_wordFrom_87 : decode cX9_wordFrom 87 = .ok (.goto 9, 3) := by decide +kernel
theorem dX9_wordFrom_90 : decode cX9_wordFrom 90 = .ok (.aload_n 0, 1) := by decide +kernel
theorem dX9_wordFrom_91 : decode cX9_wordFrom 91 = .ok (.iload_n 1, 1) := by decide +kernel
theorem dX9_wordFrom_92 : decode cX9_wordFrom 92 = .ok (.iload_n 2, 1) := by decide +kernel
theorem dX9_wordFrom_93 : decode cX9_wordFrom 93 = .ok (.invokestatic 74, 3) := by decide +kernel
theorem dX9_wordFrom_96 : decode cX9_wordFrom 96 = .ok (.ireturn, 1) := by decide +kernel
theorem dX9_add_0 : decode cX9_add 0 = .ok (.aload_n 0, 1) := by decide +kernel
theorem dX9_add_1 : decode cX9_add 1 = .ok (.getfield 21, 3) := by decide +kernel
theorem dX9_add_4 : decode cX9_add 4 = .ok (.sipush 401, 3) := by decide +kernel
theorem dX9_add_7 : decode cX9_add 7 = .ok (.if_icmp .ge 43, 3) := by decide +kernel
theorem dX9_add_10 : decode cX9_add 10 = .ok (.aload_n 0, 1) := by decide +kernel
theorem dX9_add_11 : decode cX9_add 11 = .ok (.getfield 11, 3) := by decide +kernel
theorem dX9_add_14 : decode cX9_add 14 = .ok (.aload_n 0, 1) := by decide +kernel
theorem dX9_add_15 : decode cX9_add 15 = .ok (.getfield 21, 3) := by decide +kernel
theorem dX9_add_18 : decode cX9_add 18 = .ok (.iload_n 1, 1) := by decide +kernel
theorem dX9_add_19 : decode cX9_add 19 = .ok (.iastore, 1) := by decide +kernel
theorem dX9_add_20 : decode cX9_add 20 = .ok (.aload_n 0, 1) := by decide +kernel
theorem dX9_add_21 : decode cX9_add 21 = .ok (.getfield 15, 3) := by decide +kernel
theorem dX9_add_24 : decode cX9_add 24 = .ok (.aload_n 0, 1) := by decide +kernel
theorem dX9_add_25 : decode cX9_add 25 = .ok (.getfield 21, 3) := by decide +kernel
theorem dX9_add_28 : decode cX9_add 28 = .ok (.iload_n 2, 1) := by decide +kernel
theorem dX9_add_29 : decode cX9_add 29 = .ok (.iastore, 1) := by decide +kernel
theorem dX9_add_30 : decode cX9_add 30 = .ok (.aload_n 0, 1) := by decide +kernel
theorem dX9_add_31 : decode cX9_add 31 = .ok (.getfield 18, 3) := by decide +kernel
theorem dX9_add_34 : decode cX9_add 34 = .ok (.aload_n 0, 1) := by decide +kernel
theorem dX9_add_35 : decode cX9_add 35 = .ok (.getfield 21, 3) := by decide +kernel
theorem dX9_add_38 : decode cX9_add 38 = .ok (.iload_n 3, 1) := by decide +kernel
theorem dX9_add_39 : decode cX9_add 39 = .ok (.iastore, 1) := by decide +kernel
theorem dX9_add_40 : decode cX9_add 40 = .ok (.aload_n 0, 1) := by decide +kernel
theorem dX9_add_41 : decode cX9_add 41 = .ok (.dup, 1) := by decide +kernel
theorem dX9_add_42 : decode cX9_add 42 = .ok (.getfield 21, 3) := by decide +kernel
theorem dX9_add_45 : decode cX9_add 45 = .ok (.iconst 1, 1) := by decide +kernel
theorem dX9_add_46 : decode cX9_add 46 = .ok (.iadd, 1) := by decide +kernel
theorem dX9_add_47 : decode cX9_add 47 = .ok (.putfield 21, 3) := by decide +kernel
theorem dX9_add_50 : decode cX9_add 50 = .ok (.return_, 1) := by decide +kernel
theorem dX9_isDigit_0 : decode cX9_isDigit 0 = .ok (.iload_n 0, 1) := by decide +kernel
theorem dX9_isDigit_1 : decode cX9_isDigit 1 = .ok (.bipush 48, 2) := by decide +kernel
theorem dX9_isDigit_3 : decode cX9_isDigit 3 = .ok (.if_icmp .lt 13, 3) := by decide +kernel
theorem dX9_isDigit_6 : decode cX9_isDigit 6 = .ok (.iload_n 0, 1) := by decide +kernel
theorem dX9_isDigit_7 : decode cX9_isDigit 7 = .ok (.bipush 57, 2) := by decide +kernel
theorem dX9_isDigit_9 : decode cX9_isDigit 9 = .ok (.if_icmp .gt 7, 3) := by decide +kernel
theorem dX9_isDigit_12 : decode cX9_isDigit 12 = .ok (.iconst 1, 1) := by decide +kernel
theorem dX9_isDigit_13 : decode cX9_isDigit 13 = .ok (.goto 4, 3) := by decide +kernel
theorem dX9_isDigit_16 : decode cX9_isDigit 16 = .ok (.iconst 0, 1) := by decide +kernel
theorem dX9_isDigit_17 : decode cX9_isDigit 17 = .ok (.ireturn, 1) := by decide +kernel
theorem dX9_split_0 : decode cX9_split 0 = .ok (.aload_n 0, 1) := by decide +kernel
theorem dX9_split_1 : decode cX9_split 1 = .ok (.iconst 0, 1) := by decide +kernel
theorem dX9_split_2 : decode cX9_split 2 = .ok (.putfield 21, 3) := by decide +kernel
theorem dX9_split_5 : decode cX9_split 5 = .ok (.iconst 0, 1) := by decide +kernel
theorem dX9_split_6 : decode cX9_split 6 = .ok (.istore_n 3, 1) := by decide +kernel
theorem dX9_split_7 : decode cX9_split 7 = .ok (.iconst 0, 1) := by decide +kernel
theorem dX9_split_8 : decode cX9_split 8 = .ok (.istore 4, 2) := by decide +kernel
theorem dX9_split_10 : decode cX9_split 10 = .ok (.iload 4, 2) := by decide +kernel
theorem dX9_split_12 : decode cX9_split 12 = .ok (.sipush 400, 3) := by decide +kernel
theorem dX9_split_15 : decode cX9_split 15 = .ok (.if_icmp .ge 178, 3) := by decide +kernel
theorem dX9_split_18 : decode cX9_split 18 = .ok (.iload_n 3, 1) := by decide +kernel
theorem dX9_split_19 : decode cX9_split 19 = .ok (.aload_n 1, 1) := by decide +kernel
theorem dX9_split_20 : decode cX9_split 20 = .ok (.getfield 25, 3) := by decide +kernel
theorem dX9_split_23 : decode cX9_split 23 = .ok (.if_icmp .ge 170, 3) := by decide +kernel
theorem dX9_split_26 : decode cX9_split 26 = .ok (.aload_n 1, 1) := by decide +kernel
theorem dX9_split_27 : decode cX9_split 27 = .ok (.iload_n 3, 1) := by decide +kernel
theorem dX9_split_28 : decode cX9_split 28 = .ok (.invokestatic 30, 3) := by decide +kernel
theorem dX9_split_31 : decode cX9_split 31 = .ok (.istore 5, 2) := by decide +kernel
theorem dX9_split_33 : decode cX9_split 33 = .ok (.iload_n 3, 1) := by decide +kernel
theorem dX9_split_34 : decode cX9_split 34 = .ok (.istore 6, 2) := by decide +kernel
theorem dX9_split_36 : decode cX9_split 36 = .ok (.iload 5, 2) := by decide +kernel
theorem dX9_split_38 : decode cX9_split 38 = .ok (.invokestatic 34, 3) := by decide +kernel
theorem dX9_split_41 : decode cX9_split 41 = .ok (.ifCond .eq 46, 3) := by decide +kernel
theorem dX9_split_44 : decode cX9_split 44 = .ok (.iload_n 3, 1) := by decide +kernel
theorem dX9_split_45 : decode cX9_split 45 = .ok (.aload_n 1, 1) := by decide +kernel
theorem dX9_split_46 : decode cX9_split 46 = .ok (.getfield 25, 3) := by decide +kernel
theorem dX9_split_49 : decode cX9_split 49 = .ok (.if_icmp .ge 20, 3) := by decide +kernel
theorem dX9_split_52 : decode cX9_split 52 = .ok (.aload_n 1, 1) := by decide +kernel
theorem dX9_split_53 : decode cX9_split 53 = .ok (.iload_n 3, 1) := by decide +kernel
theorem dX9_split_54 : decode cX9_split 54 = .ok (.invokestatic 30, 3) := by decide +kernel
theorem dX9_split_57 : decode cX9_split 57 = .ok (.invokestatic 34, 3) := by decide +kernel
theorem dX9_split_60 : decode cX9_split 60 = .ok (.ifCond .eq 9, 3) := by decide +kernel
theorem dX9_split_63 : decode cX9_split 63 = .ok (.iinc 3 1, 3) := by decide +kernel
theorem dX9_split_66 : decode cX9_split 66 = .ok (.goto (-22), 3) := by decide +kernel
theorem dX9_split_69 : decode cX9_split 69 = .ok (.aload_n 0, 1) := by decide +kernel
theorem dX9_split_70 : decode cX9_split 70 = .ok (.aload_n 1, 1) := by decide +kernel
theorem dX9_split_71 : decode cX9_split 71 = .ok (.iload 6, 2) := by decide +kernel
theorem dX9_split_73 : decode cX9_split 73 = .ok (.iload_n 3, 1) := by decide +kernel
theorem dX9_split_74 : decode cX9_split 74 = .ok (.iload_n 2, 1) := by decide +kernel
theorem dX9_split_75 : decode cX9_split 75 = .ok (.invokestatic 38, 3) := by decide +kernel
theorem dX9_split_78 : decode cX9_split 78 = .ok (.iload 6, 2) := by decide +kernel
theorem dX9_split_80 : decode cX9_split 80 = .ok (.iconst 0, 1) := by decide +kernel
theorem dX9_split_81 : decode cX9_split 81 = .ok (.invokevirtual 42, 3) := by decide +kernel
theorem dX9_split_84 : decode cX9_split 84 = .ok (.goto 103, 3) := by decide +kernel
theorem dX9_split_87 : decode cX9_split 87 = .ok (.iload 5, 2) := by decide +kernel
theorem dX9_split_89 : decode cX9_split 89 = .ok (.invokestatic 46, 3) := by decide +kernel
theorem dX9_split_92 : decode cX9_split 92 = .ok (.ifCond .eq 65, 3) := by decide +kernel
theorem dX9_split_95 : decode cX9_split 95 = .ok (.iconst 0, 1) := by decide +kernel
theorem dX9_split_96 : decode cX9_split 96 = .ok (.istore 7, 2) := by decide +kernel
theorem dX9_split_98 : decode cX9_split 98 = .ok (.iload_n 3, 1) := by decide +kernel
theorem dX9_split_99 : decode cX9_split 99 = .ok (.aload_n 1, 1) := by decide +kernel
theorem dX9_split_100 : decode cX9_split 100 = .ok (.getfield 25, 3) := by decide +kernel
theorem dX9_split_103 : decode cX9_split 103 = .ok (.if_icmp .ge 42, 3) := by decide +kernel
theorem dX9_split_106 : decode cX9_split 106 = .ok (.aload_n 1, 1) := by decide +kernel
theorem dX9_split_107 : decode cX9_split 107 = .ok (.iload_n 3, 1) := by decide +kernel
theorem dX9_split_108 : decode cX9_split 108 = .ok (.invokestatic 30, 3) := by decide +kernel
theorem dX9_split_111 : decode cX9_split 111 = .ok (.invokestatic 46, 3) := by decide +kernel
theorem dX9_split_114 : decode cX9_split 114 = .ok (.ifCond .eq 31, 3) := by decide +kernel
theorem dX9_split_117 : decode cX9_split 117 = .ok (.sipush 10000, 3) := by decide +kernel
theorem dX9_split_120 : decode cX9_split 120 = .ok (.bipush 10, 2) := by decide +kernel
theorem dX9_split_122 : decode cX9_split 122 = .ok (.iload 7, 2) := by decide +kernel
theorem dX9_split_124 : decode cX9_split 124 = .ok (.imul, 1) := by decide +kernel
theorem dX9_split_125 : decode cX9_split 125 = .ok (.aload_n 1, 1) := by decide +kernel
theorem dX9_split_126 : decode cX9_split 126 = .ok (.iload_n 3, 1) := by decide +kernel
theorem dX9_split_127 : decode cX9_split 127 = .ok (.invokestatic 30, 3) := by decide +kernel
theorem dX9_split_130 : decode cX9_split 130 = .ok (.iadd, 1) := by decide +kernel
theorem dX9_split_131 : decode cX9_split 131 = .ok (.bipush 48, 2) := by decide +kernel
theorem dX9_split_133 : decode cX9_split 133 = .ok (.isub, 1) := by decide +kernel
theorem dX9_split_134 : decode cX9_split 134 = .ok (.invokestatic 49, 3) := by decide +kernel
theorem dX9_split_137 : decode cX9_split 137 = .ok (.istore 7, 2) := by decide +kernel
theorem dX9_split_139 : decode cX9_split 139 = .ok (.iinc 3 1, 3) := by decide +kernel
theorem dX9_split_142 : decode cX9_split 142 = .ok (.goto (-44), 3) := by decide +kernel
theorem dX9_split_145 : decode cX9_split 145 = .ok (.aload_n 0, 1) := by decide +kernel
theorem dX9_split_146 : decode cX9_split 146 = .ok (.iconst 1, 1) := by decide +kernel
theorem dX9_split_147 : decode cX9_split 147 = .ok (.iload 6, 2) := by decide +kernel
theorem dX9_split_149 : decode cX9_split 149 = .ok (.iload 7, 2) := by decide +kernel
theorem dX9_split_151 : decode cX9_split 151 = .ok (.invokevirtual 42, 3) := by decide +kernel
theorem dX9_split_154 : decode cX9_split 154 = .ok (.goto 33, 3) := by decide +kernel
theorem dX9_split_157 : decode cX9_split 157 = .ok (.iinc 3 1, 3) := by decide +kernel
theorem dX9_split_160 : decode cX9_split 160 = .ok (.iload 5, 2) := by decide +kernel
theorem dX9_split_162 : decode cX9_split 162 = .ok (.bipush 32, 2) := by decide +kernel
theorem dX9_split_164 : decode cX9_split 164 = .ok (.if_icmp .eq 23, 3) := by decide +kernel
theorem dX9_split_167 : decode cX9_split 167 = .ok (.aload_n 0, 1) := by decide +kernel
