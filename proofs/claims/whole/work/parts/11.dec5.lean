theorem dX12_obeys_31 : decode cX12_obeys 31 = .ok (.invokestatic 441, 3) := by decide +kernel
theorem dX12_obeys_34 : decode cX12_obeys 34 = .ok (.aload_n 0, 1) := by decide +kernel
theorem dX12_obeys_35 : decode cX12_obeys 35 = .ok (.getfield 79, 3) := by decide +kernel
theorem dX12_obeys_38 : decode cX12_obeys 38 = .ok (.iconst 1, 1) := by decide +kernel
theorem dX12_obeys_39 : decode cX12_obeys 39 = .ok (.laload, 1) := by decide +kernel
theorem dX12_obeys_40 : decode cX12_obeys 40 = .ok (.invokestatic 441, 3) := by decide +kernel
theorem dX12_obeys_43 : decode cX12_obeys 43 = .ok (.invokevirtual 388, 3) := by decide +kernel
theorem dX12_obeys_46 : decode cX12_obeys 46 = .ok (.istore_n 2, 1) := by decide +kernel
theorem dX12_obeys_47 : decode cX12_obeys 47 = .ok (.aload_n 0, 1) := by decide +kernel
theorem dX12_obeys_48 : decode cX12_obeys 48 = .ok (.iload_n 2, 1) := by decide +kernel
theorem dX12_obeys_49 : decode cX12_obeys 49 = .ok (.ifCond .ge 10, 3) := by decide +kernel
theorem dX12_obeys_52 : decode cX12_obeys 52 = .ok (.aload_n 0, 1) := by decide +kernel
theorem dX12_obeys_53 : decode cX12_obeys 53 = .ok (.getfield 287, 3) := by decide +kernel
theorem dX12_obeys_56 : decode cX12_obeys 56 = .ok (.goto 4, 3) := by decide +kernel
theorem dX12_obeys_59 : decode cX12_obeys 59 = .ok (.iload_n 2, 1) := by decide +kernel
theorem dX12_obeys_60 : decode cX12_obeys 60 = .ok (.putfield 287, 3) := by decide +kernel
theorem dX12_obeys_63 : decode cX12_obeys 63 = .ok (.iload_n 2, 1) := by decide +kernel
theorem dX12_obeys_64 : decode cX12_obeys 64 = .ok (.ireturn, 1) := by decide +kernel
theorem dX12_runs_0 : decode cX12_runs 0 = .ok (.aload_n 0, 1) := by decide +kernel
theorem dX12_runs_1 : decode cX12_runs 1 = .ok (.iload_n 1, 1) := by decide +kernel
theorem dX12_runs_2 : decode cX12_runs 2 = .ok (.iconst 0, 1) := by decide +kernel
theorem dX12_runs_3 : decode cX12_runs 3 = .ok (.invokevirtual 445, 3) := by decide +kernel
theorem dX12_runs_6 : decode cX12_runs 6 = .ok (.aload_n 0, 1) := by decide +kernel
theorem dX12_runs_7 : decode cX12_runs 7 = .ok (.getfield 433, 3) := by decide +kernel
theorem dX12_runs_10 : decode cX12_runs 10 = .ok (.istore_n 2, 1) := by decide +kernel
theorem dX12_runs_11 : decode cX12_runs 11 = .ok (.aload_n 0, 1) := by decide +kernel
theorem dX12_runs_12 : decode cX12_runs 12 = .ok (.getfield 248, 3) := by decide +kernel
theorem dX12_runs_15 : decode cX12_runs 15 = .ok (.istore_n 3, 1) := by decide +kernel
theorem dX12_runs_16 : decode cX12_runs 16 = .ok (.iconst 0, 1) := by decide +kernel
theorem dX12_runs_17 : decode cX12_runs 17 = .ok (.istore 4, 2) := by decide +kernel
theorem dX12_runs_19 : decode cX12_runs 19 = .ok (.iload 4, 2) := by decide +kernel
theorem dX12_runs_21 : decode cX12_runs 21 = .ok (.iload_n 2, 1) := by decide +kernel
theorem dX12_runs_22 : decode cX12_runs 22 = .ok (.if_icmp .ge 51, 3) := by decide +kernel
theorem dX12_runs_25 : decode cX12_runs 25 = .ok (.aload_n 0, 1) := by decide +kernel
theorem dX12_runs_26 : decode cX12_runs 26 = .ok (.iload_n 1, 1) := by decide +kernel
theorem dX12_runs_27 : decode cX12_runs 27 = .ok (.iconst 1, 1) := by decide +kernel
theorem dX12_runs_28 : decode cX12_runs 28 = .ok (.invokevirtual 445, 3) := by decide +kernel
theorem dX12_runs_31 : decode cX12_runs 31 = .ok (.aload_n 0, 1) := by decide +kernel
theorem dX12_runs_32 : decode cX12_runs 32 = .ok (.getfield 436, 3) := by decide +kernel
theorem dX12_runs_35 : decode cX12_runs 35 = .ok (.ifCond .ne 6, 3) := by decide +kernel
theorem dX12_runs_38 : decode cX12_runs 38 = .ok (.goto 29, 3) := by decide +kernel
theorem dX12_runs_41 : decode cX12_runs 41 = .ok (.aload_n 0, 1) := by decide +kernel
theorem dX12_runs_42 : decode cX12_runs 42 = .ok (.getfield 430, 3) := by decide +kernel
theorem dX12_runs_45 : decode cX12_runs 45 = .ok (.ifCond .eq 10, 3) := by decide +kernel
theorem dX12_runs_48 : decode cX12_runs 48 = .ok (.aload_n 0, 1) := by decide +kernel
theorem dX12_runs_49 : decode cX12_runs 49 = .ok (.invokevirtual 449, 3) := by decide +kernel
theorem dX12_runs_52 : decode cX12_runs 52 = .ok (.ifCond .ge 5, 3) := by decide +kernel
theorem dX12_runs_55 : decode cX12_runs 55 = .ok (.iconst 0, 1) := by decide +kernel
theorem dX12_runs_56 : decode cX12_runs 56 = .ok (.ireturn, 1) := by decide +kernel
theorem dX12_runs_57 : decode cX12_runs 57 = .ok (.aload_n 0, 1) := by decide +kernel
theorem dX12_runs_58 : decode cX12_runs 58 = .ok (.dup, 1) := by decide +kernel
theorem dX12_runs_59 : decode cX12_runs 59 = .ok (.getfield 284, 3) := by decide +kernel
theorem dX12_runs_62 : decode cX12_runs 62 = .ok (.iconst 1, 1) := by decide +kernel
theorem dX12_runs_63 : decode cX12_runs 63 = .ok (.iadd, 1) := by decide +kernel
theorem dX12_runs_64 : decode cX12_runs 64 = .ok (.putfield 284, 3) := by decide +kernel
theorem dX12_runs_67 : decode cX12_runs 67 = .ok (.iinc 4 1, 3) := by decide +kernel
theorem dX12_runs_70 : decode cX12_runs 70 = .ok (.goto (-51), 3) := by decide +kernel
theorem dX12_runs_73 : decode cX12_runs 73 = .ok (.aload_n 0, 1) := by decide +kernel
theorem dX12_runs_74 : decode cX12_runs 74 = .ok (.iload_n 3, 1) := by decide +kernel
theorem dX12_runs_75 : decode cX12_runs 75 = .ok (.putfield 418, 3) := by decide +kernel
theorem dX12_runs_78 : decode cX12_runs 78 = .ok (.iconst 1, 1) := by decide +kernel
theorem dX12_runs_79 : decode cX12_runs 79 = .ok (.ireturn, 1) := by decide +kernel
theorem dX12_orders_0 : decode cX12_orders 0 = .ok (.aload_n 0, 1) := by decide +kernel
theorem dX12_orders_1 : decode cX12_orders 1 = .ok (.iconst (-1), 1) := by decide +kernel
theorem dX12_orders_2 : decode cX12_orders 2 = .ok (.putfield 76, 3) := by decide +kernel
theorem dX12_orders_5 : decode cX12_orders 5 = .ok (.aload_n 0, 1) := by decide +kernel
theorem dX12_orders_6 : decode cX12_orders 6 = .ok (.iconst 1, 1) := by decide +kernel
theorem dX12_orders_7 : decode cX12_orders 7 = .ok (.invokevirtual 235, 3) := by decide +kernel
theorem dX12_orders_10 : decode cX12_orders 10 = .ok (.ifCond .ne 10, 3) := by decide +kernel
theorem dX12_orders_13 : decode cX12_orders 13 = .ok (.aload_n 0, 1) := by decide +kernel
theorem dX12_orders_14 : decode cX12_orders 14 = .ok (.bipush (-6), 2) := by decide +kernel
theorem dX12_orders_16 : decode cX12_orders 16 = .ok (.invokevirtual 85, 3) := by decide +kernel
theorem dX12_orders_19 : decode cX12_orders 19 = .ok (.ireturn, 1) := by decide +kernel
theorem dX12_orders_20 : decode cX12_orders 20 = .ok (.aload_n 0, 1) := by decide +kernel
theorem dX12_orders_21 : decode cX12_orders 21 = .ok (.iconst 1, 1) := by decide +kernel
theorem dX12_orders_22 : decode cX12_orders 22 = .ok (.invokevirtual 378, 3) := by decide +kernel
theorem dX12_orders_25 : decode cX12_orders 25 = .ok (.iconst 0, 1) := by decide +kernel
theorem dX12_orders_26 : decode cX12_orders 26 = .ok (.istore_n 1, 1) := by decide +kernel
theorem dX12_orders_27 : decode cX12_orders 27 = .ok (.iload_n 1, 1) := by decide +kernel
theorem dX12_orders_28 : decode cX12_orders 28 = .ok (.sipush 3072, 3) := by decide +kernel
theorem dX12_orders_31 : decode cX12_orders 31 = .ok (.if_icmp .ge 21, 3) := by decide +kernel
theorem dX12_orders_34 : decode cX12_orders 34 = .ok (.aload_n 0, 1) := by decide +kernel
theorem dX12_orders_35 : decode cX12_orders 35 = .ok (.getfield 69, 3) := by decide +kernel
theorem dX12_orders_38 : decode cX12_orders 38 = .ok (.iload_n 1, 1) := by decide +kernel
theorem dX12_orders_39 : decode cX12_orders 39 = .ok (.aload_n 0, 1) := by decide +kernel
theorem dX12_orders_40 : decode cX12_orders 40 = .ok (.getfield 66, 3) := by decide +kernel
theorem dX12_orders_43 : decode cX12_orders 43 = .ok (.iload_n 1, 1) := by decide +kernel
theorem dX12_orders_44 : decode cX12_orders 44 = .ok (.iaload, 1) := by decide +kernel
theorem dX12_orders_45 : decode cX12_orders 45 = .ok (.iastore, 1) := by decide +kernel
theorem dX12_orders_46 : decode cX12_orders 46 = .ok (.iinc 1 1, 3) := by decide +kernel
theorem dX12_orders_49 : decode cX12_orders 49 = .ok (.goto (-22), 3) := by decide +kernel
theorem dX12_orders_52 : decode cX12_orders 52 = .ok (.aload_n 0, 1) := by decide +kernel
theorem dX12_orders_53 : decode cX12_orders 53 = .ok (.getfield 11, 3) := by decide +kernel
theorem dX12_orders_56 : decode cX12_orders 56 = .ok (.istore_n 1, 1) := by decide +kernel
theorem dX12_orders_57 : decode cX12_orders 57 = .ok (.aload_n 0, 1) := by decide +kernel
theorem dX12_orders_58 : decode cX12_orders 58 = .ok (.bipush 6, 2) := by decide +kernel
theorem dX12_orders_60 : decode cX12_orders 60 = .ok (.invokevirtual 239, 3) := by decide +kernel
theorem dX12_orders_63 : decode cX12_orders 63 = .ok (.aload_n 0, 1) := by decide +kernel
theorem dX12_orders_64 : decode cX12_orders 64 = .ok (.iconst 0, 1) := by decide +kernel
theorem dX12_orders_65 : decode cX12_orders 65 = .ok (.putfield 284, 3) := by decide +kernel
theorem dX12_orders_68 : decode cX12_orders 68 = .ok (.aload_n 0, 1) := by decide +kernel
theorem dX12_orders_69 : decode cX12_orders 69 = .ok (.iconst (-1), 1) := by decide +kernel
theorem dX12_orders_70 : decode cX12_orders 70 = .ok (.putfield 287, 3) := by decide +kernel
theorem dX12_orders_73 : decode cX12_orders 73 = .ok (.aload_n 0, 1) := by decide +kernel
theorem dX12_orders_74 : decode cX12_orders 74 = .ok (.sipush 2400, 3) := by decide +kernel
theorem dX12_orders_77 : decode cX12_orders 77 = .ok (.putfield 418, 3) := by decide +kernel
theorem dX12_orders_80 : decode cX12_orders 80 = .ok (.aload_n 0, 1) := by decide +kernel
theorem dX12_orders_81 : decode cX12_orders 81 = .ok (.getfield 418, 3) := by decide +kernel
theorem dX12_orders_84 : decode cX12_orders 84 = .ok (.aload_n 0, 1) := by decide +kernel
theorem dX12_orders_85 : decode cX12_orders 85 = .ok (.getfield 28, 3) := by decide +kernel
theorem dX12_orders_88 : decode cX12_orders 88 = .ok (.sipush 214, 3) := by decide +kernel
theorem dX12_orders_91 : decode cX12_orders 91 = .ok (.iaload, 1) := by decide +kernel
theorem dX12_orders_92 : decode cX12_orders 92 = .ok (.iadd, 1) := by decide +kernel
theorem dX12_orders_93 : decode cX12_orders 93 = .ok (.istore_n 2, 1) := by decide +kernel
theorem dX12_orders_94 : decode cX12_orders 94 = .ok (.iconst 0, 1) := by decide +kernel
theorem dX12_orders_95 : decode cX12_orders 95 = .ok (.istore_n 3, 1) := by decide +kernel
theorem dX12_orders_96 : decode cX12_orders 96 = .ok (.aload_n 0, 1) := by decide +kernel
theorem dX12_orders_97 : decode cX12_orders 97 = .ok (.getfield 418, 3) := by decide +kernel
theorem dX12_orders_100 : decode cX12_orders 100 = .ok (.iload_n 2, 1) := by decide +kernel
theorem dX12_orders_101 : decode cX12_orders 101 = .ok (.if_icmp .ge 73, 3) := by decide +kernel
theorem dX12_orders_104 : decode cX12_orders 104 = .ok (.aload_n 0, 1) := by decide +kernel
theorem dX12_orders_105 : decode cX12_orders 105 = .ok (.iload_n 2, 1) := by decide +kernel
theorem dX12_orders_106 : decode cX12_orders 106 = .ok (.invokevirtual 421, 3) := by decide +kernel
theorem dX12_orders_109 : decode cX12_orders 109 = .ok (.ifCond .eq 6, 3) := by decide +kernel
theorem dX12_orders_112 : decode cX12_orders 112 = .ok (.goto 56, 3) := by decide +kernel
theorem dX12_orders_115 : decode cX12_orders 115 = .ok (.aload_n 0, 1) := by decide +kernel
theorem dX12_orders_116 : decode cX12_orders 116 = .ok (.iconst 1, 1) := by decide +kernel
theorem dX12_orders_117 : decode cX12_orders 117 = .ok (.invokevirtual 424, 3) := by decide +kernel
theorem dX12_orders_120 : decode cX12_orders 120 = .ok (.iconst 0, 1) := by decide +kernel
theorem dX12_orders_121 : decode cX12_orders 121 = .ok (.istore 4, 2) := by decide +kernel
theorem dX12_orders_123 : decode cX12_orders 123 = .ok (.iload 4, 2) := by decide +kernel
theorem dX12_orders_125 : decode cX12_orders 125 = .ok (.sipush 3072, 3) := by decide +kernel
theorem dX12_orders_128 : decode cX12_orders 128 = .ok (.if_icmp .ge 23, 3) := by decide +kernel
theorem dX12_orders_131 : decode cX12_orders 131 = .ok (.aload_n 0, 1) := by decide +kernel
theorem dX12_orders_132 : decode cX12_orders 132 = .ok (.getfield 66, 3) := by decide +kernel
theorem dX12_orders_135 : decode cX12_orders 135 = .ok (.iload 4, 2) := by decide +kernel
theorem dX12_orders_137 : decode cX12_orders 137 = .ok (.aload_n 0, 1) := by decide +kernel
theorem dX12_orders_138 : decode cX12_orders 138 = .ok (.getfield 69, 3) := by decide +kernel
theorem dX12_orders_141 : decode cX12_orders 141 = .ok (.iload 4, 2) := by decide +kernel
theorem dX12_orders_143 : decode cX12_orders 143 = .ok (.iaload, 1) := by decide +kernel
theorem dX12_orders_144 : decode cX12_orders 144 = .ok (.iastore, 1) := by decide +kernel
theorem dX12_orders_145 : decode cX12_orders 145 = .ok (.iinc 4 1, 3) := by decide +kernel
theorem dX12_orders_148 : decode cX12_orders 148 = .ok (.goto (-25), 3) := by decide +kernel
theorem dX12_orders_151 : decode cX12_orders 151 = .ok (.aload_n 0, 1) := by decide +kernel
theorem dX12_orders_152 : decode cX12_orders 152 = .ok (.iload_n 1, 1) := by decide +kernel
theorem dX12_orders_153 : decode cX12_orders 153 = .ok (.putfield 11, 3) := by decide +kernel
theorem dX12_orders_156 : decode cX12_orders 156 = .ok (.aload_n 0, 1) := by decide +kernel
theorem dX12_orders_157 : decode cX12_orders 157 = .ok (.iload_n 3, 1) := by decide +kernel
theorem dX12_orders_158 : decode cX12_orders 158 = .ok (.putfield 76, 3) := by decide +kernel
theorem dX12_orders_161 : decode cX12_orders 161 = .ok (.aload_n 0, 1) := by decide +kernel
theorem dX12_orders_162 : decode cX12_orders 162 = .ok (.bipush (-3), 2) := by decide +kernel
theorem dX12_orders_164 : decode cX12_orders 164 = .ok (.invokevirtual 85, 3) := by decide +kernel
theorem dX12_orders_167 : decode cX12_orders 167 = .ok (.ireturn, 1) := by decide +kernel
theorem dX12_orders_168 : decode cX12_orders 168 = .ok (.iinc 3 1, 3) := by decide +kernel
theorem dX12_orders_171 : decode cX12_orders 171 = .ok (.goto (-75), 3) := by decide +kernel
theorem dX12_orders_174 : decode cX12_orders 174 = .ok (.aload_n 0, 1) := by decide +kernel
theorem dX12_orders_175 : decode cX12_orders 175 = .ok (.aload_n 0, 1) := by decide +kernel
theorem dX12_orders_176 : decode cX12_orders 176 = .ok (.getfield 284, 3) := by decide +kernel
theorem dX12_orders_179 : decode cX12_orders 179 = .ok (.invokevirtual 14, 3) := by decide +kernel
theorem dX12_orders_182 : decode cX12_orders 182 = .ok (.ireturn, 1) := by decide +kernel
theorem dX12_draws_0 : decode cX12_draws 0 = .ok (.aload_n 0, 1) := by decide +kernel
theorem dX12_draws_1 : decode cX12_draws 1 = .ok (.ldc2_w 452, 3) := by decide +kernel
theorem dX12_draws_4 : decode cX12_draws 4 = .ok (.aload_n 0, 1) := by decide +kernel
theorem dX12_draws_5 : decode cX12_draws 5 = .ok (.getfield 454, 3) := by decide +kernel
theorem dX12_draws_8 : decode cX12_draws 8 = .ok (.i2l, 1) := by decide +kernel
theorem dX12_draws_9 : decode cX12_draws 9 = .ok (.lmul, 1) := by decide +kernel
theorem dX12_draws_10 : decode cX12_draws 10 = .ok (.ldc2_w 457, 3) := by decide +kernel
theorem dX12_draws_13 : decode cX12_draws 13 = .ok (.ladd, 1) := by decide +kernel
theorem dX12_draws_14 : decode cX12_draws 14 = .ok (.ldc2_w 459, 3) := by decide +kernel
theorem dX12_draws_17 : decode cX12_draws 17 = .ok (.lrem, 1) := by decide +kernel
theorem dX12_draws_18 : decode cX12_draws 18 = .ok (.l2i, 1) := by decide +kernel
theorem dX12_draws_19 : decode cX12_draws 19 = .ok (.putfield 454, 3) := by decide +kernel
theorem dX12_draws_22 : decode cX12_draws 22 = .ok (.aload_n 0, 1) := by decide +kernel
theorem dX12_draws_23 : decode cX12_draws 23 = .ok (.getfield 454, 3) := by decide +kernel
theorem dX12_draws_26 : decode cX12_draws 26 = .ok (.iload_n 1, 1) := by decide +kernel
theorem dX12_draws_27 : decode cX12_draws 27 = .ok (.irem, 1) := by decide +kernel
theorem dX12_draws_28 : decode cX12_draws 28 = .ok (.ireturn, 1) := by decide +kernel
theorem dX12_drawnAct_0 : decode cX12_drawnAct 0 = .ok (.aload_n 0, 1) := by decide +kernel
theorem dX12_drawnAct_1 : decode cX12_drawnAct 1 = .ok (.bipush 8, 2) := by decide +kernel
theorem dX12_drawnAct_3 : decode cX12_drawnAct 3 = .ok (.invokevirtual 461, 3) := by decide +kernel
theorem dX12_drawnAct_6 : decode cX12_drawnAct 6 = .ok (.istore_n 1, 1) := by decide +kernel
theorem dX12_drawnAct_7 : decode cX12_drawnAct 7 = .ok (.aload_n 0, 1) := by decide +kernel
theorem dX12_drawnAct_8 : decode cX12_drawnAct 8 = .ok (.bipush 6, 2) := by decide +kernel
theorem dX12_drawnAct_10 : decode cX12_drawnAct 10 = .ok (.invokevirtual 461, 3) := by decide +kernel
theorem dX12_drawnAct_13 : decode cX12_drawnAct 13 = .ok (.istore_n 2, 1) := by decide +kernel
theorem dX12_drawnAct_14 : decode cX12_drawnAct 14 = .ok (.aload_n 0, 1) := by decide +kernel
theorem dX12_drawnAct_15 : decode cX12_drawnAct 15 = .ok (.bipush 9, 2) := by decide +kernel
theorem dX12_drawnAct_17 : decode cX12_drawnAct 17 = .ok (.invokevirtual 461, 3) := by decide +kernel
theorem dX12_drawnAct_20 : decode cX12_drawnAct 20 = .ok (.istore_n 3, 1) := by decide +kernel
theorem dX12_drawnAct_21 : decode cX12_drawnAct 21 = .ok (.iload_n 3, 1) := by decide +kernel
theorem dX12_drawnAct_22 : decode cX12_drawnAct 22 = .ok (.lookupswitch 48 #[(0, 26), (1, 37)], 26) := by decide +kernel
theorem dX12_drawnAct_48 : decode cX12_drawnAct 48 = .ok (.aload_n 0, 1) := by decide +kernel
theorem dX12_drawnAct_49 : decode cX12_drawnAct 49 = .ok (.iconst 0, 1) := by decide +kernel
theorem dX12_drawnAct_50 : decode cX12_drawnAct 50 = .ok (.iload_n 2, 1) := by decide +kernel
theorem dX12_drawnAct_51 : decode cX12_drawnAct 51 = .ok (.iload_n 1, 1) := by decide +kernel
theorem dX12_drawnAct_52 : decode cX12_drawnAct 52 = .ok (.invokevirtual 381, 3) := by decide +kernel
theorem dX12_drawnAct_55 : decode cX12_drawnAct 55 = .ok (.pop, 1) := by decide +kernel
theorem dX12_drawnAct_56 : decode cX12_drawnAct 56 = .ok (.goto 22, 3) := by decide +kernel
theorem dX12_drawnAct_59 : decode cX12_drawnAct 59 = .ok (.aload_n 0, 1) := by decide +kernel
theorem dX12_drawnAct_60 : decode cX12_drawnAct 60 = .ok (.iconst 1, 1) := by decide +kernel
theorem dX12_drawnAct_61 : decode cX12_drawnAct 61 = .ok (.iload_n 2, 1) := by decide +kernel
theorem dX12_drawnAct_62 : decode cX12_drawnAct 62 = .ok (.iconst 0, 1) := by decide +kernel
theorem dX12_drawnAct_63 : decode cX12_drawnAct 63 = .ok (.invokevirtual 381, 3) := by decide +kernel
theorem dX12_drawnAct_66 : decode cX12_drawnAct 66 = .ok (.pop, 1) := by decide +kernel
theorem dX12_drawnAct_67 : decode cX12_drawnAct 67 = .ok (.goto 11, 3) := by decide +kernel
theorem dX12_drawnAct_70 : decode cX12_drawnAct 70 = .ok (.aload_n 0, 1) := by decide +kernel
theorem dX12_drawnAct_71 : decode cX12_drawnAct 71 = .ok (.iload_n 3, 1) := by decide +kernel
theorem dX12_drawnAct_72 : decode cX12_drawnAct 72 = .ok (.iload_n 1, 1) := by decide +kernel
theorem dX12_drawnAct_73 : decode cX12_drawnAct 73 = .ok (.iconst 0, 1) := by decide +kernel
theorem dX12_drawnAct_74 : decode cX12_drawnAct 74 = .ok (.invokevirtual 381, 3) := by decide +kernel
theorem dX12_drawnAct_77 : decode cX12_drawnAct 77 = .ok (.pop, 1) := by decide +kernel
theorem dX12_drawnAct_78 : decode cX12_drawnAct 78 = .ok (.return_, 1) := by decide +kernel
theorem dX12_endedMany_0 : decode cX12_endedMany 0 = .ok (.aload_n 0, 1) := by decide +kernel
theorem dX12_endedMany_1 : decode cX12_endedMany 1 = .ok (.getfield 28, 3) := by decide +kernel
theorem dX12_endedMany_4 : decode cX12_endedMany 4 = .ok (.sipush 130, 3) := by decide +kernel
theorem dX12_endedMany_7 : decode cX12_endedMany 7 = .ok (.iaload, 1) := by decide +kernel
theorem dX12_endedMany_8 : decode cX12_endedMany 8 = .ok (.aload_n 0, 1) := by decide +kernel
theorem dX12_endedMany_9 : decode cX12_endedMany 9 = .ok (.getfield 28, 3) := by decide +kernel
theorem dX12_endedMany_12 : decode cX12_endedMany 12 = .ok (.sipush 129, 3) := by decide +kernel
theorem dX12_endedMany_15 : decode cX12_endedMany 15 = .ok (.iaload, 1) := by decide +kernel
theorem dX12_endedMany_16 : decode cX12_endedMany 16 = .ok (.isub, 1) := by decide +kernel
theorem dX12_endedMany_17 : decode cX12_endedMany 17 = .ok (.ireturn, 1) := by decide +kernel
theorem dX12_days_0 : decode cX12_days 0 = .ok (.iload_n 1, 1) := by decide +kernel
theorem dX12_days_1 : decode cX12_days 1 = .ok (.iconst 0, 1) := by decide +kernel
theorem dX12_days_2 : decode cX12_days 2 = .ok (.ldc 155, 2) := by decide +kernel
theorem dX12_days_4 : decode cX12_days 4 = .ok (.invokestatic 18, 3) := by decide +kernel
theorem dX12_days_7 : decode cX12_days 7 = .ok (.ifCond .eq 13, 3) := by decide +kernel
theorem dX12_days_10 : decode cX12_days 10 = .ok (.iload_n 2, 1) := by decide +kernel
theorem dX12_days_11 : decode cX12_days 11 = .ok (.iconst 1, 1) := by decide +kernel
theorem dX12_days_12 : decode cX12_days 12 = .ok (.bipush 60, 2) := by decide +kernel
theorem dX12_days_14 : decode cX12_days 14 = .ok (.invokestatic 18, 3) := by decide +kernel
theorem dX12_days_17 : decode cX12_days 17 = .ok (.ifCond .ne 9, 3) := by decide +kernel
theorem dX12_days_20 : decode cX12_days 20 = .ok (.aload_n 0, 1) := by decide +kernel
theorem dX12_days_21 : decode cX12_days 21 = .ok (.iconst (-1), 1) := by decide +kernel
theorem dX12_days_22 : decode cX12_days 22 = .ok (.invokevirtual 85, 3) := by decide +kernel
theorem dX12_days_25 : decode cX12_days 25 = .ok (.ireturn, 1) := by decide +kernel
theorem dX12_days_26 : decode cX12_days 26 = .ok (.aload_n 0, 1) := by decide +kernel
theorem dX12_days_27 : decode cX12_days 27 = .ok (.iload_n 1, 1) := by decide +kernel
theorem dX12_days_28 : decode cX12_days 28 = .ok (.putfield 454, 3) := by decide +kernel
theorem dX12_days_31 : decode cX12_days 31 = .ok (.aload_n 0, 1) := by decide +kernel
theorem dX12_days_32 : decode cX12_days 32 = .ok (.iconst 1, 1) := by decide +kernel
theorem dX12_days_33 : decode cX12_days 33 = .ok (.putfield 464, 3) := by decide +kernel
theorem dX12_days_36 : decode cX12_days 36 = .ok (.aload_n 0, 1) := by decide +kernel
theorem dX12_days_37 : decode cX12_days 37 = .ok (.iconst 0, 1) := by decide +kernel
theorem dX12_days_38 : decode cX12_days 38 = .ok (.invokevirtual 378, 3) := by decide +kernel
theorem dX12_days_41 : decode cX12_days 41 = .ok (.aload_n 0, 1) := by decide +kernel
theorem dX12_days_42 : decode cX12_days 42 = .ok (.invokevirtual 467, 3) := by decide +kernel
theorem dX12_days_45 : decode cX12_days 45 = .ok (.istore_n 3, 1) := by decide +kernel
theorem dX12_days_46 : decode cX12_days 46 = .ok (.iconst 0, 1) := by decide +kernel
theorem dX12_days_47 : decode cX12_days 47 = .ok (.istore 4, 2) := by decide +kernel
theorem dX12_days_49 : decode cX12_days 49 = .ok (.iload 4, 2) := by decide +kernel
theorem dX12_days_51 : decode cX12_days 51 = .ok (.iload_n 2, 1) := by decide +kernel
theorem dX12_days_52 : decode cX12_days 52 = .ok (.if_icmp .ge 13, 3) := by decide +kernel
theorem dX12_days_55 : decode cX12_days 55 = .ok (.aload_n 0, 1) := by decide +kernel
theorem dX12_days_56 : decode cX12_days 56 = .ok (.invokevirtual 470, 3) := by decide +kernel
theorem dX12_days_59 : decode cX12_days 59 = .ok (.iinc 4 1, 3) := by decide +kernel
theorem dX12_days_62 : decode cX12_days 62 = .ok (.goto (-13), 3) := by decide +kernel
theorem dX12_days_65 : decode cX12_days 65 = .ok (.aload_n 0, 1) := by decide +kernel
theorem dX12_days_66 : decode cX12_days 66 = .ok (.invokevirtual 467, 3) := by decide +kernel
theorem dX12_days_69 : decode cX12_days 69 = .ok (.iload_n 3, 1) := by decide +kernel
theorem dX12_days_70 : decode cX12_days 70 = .ok (.isub, 1) := by decide +kernel
theorem dX12_days_71 : decode cX12_days 71 = .ok (.istore 4, 2) := by decide +kernel
theorem dX12_days_73 : decode cX12_days 73 = .ok (.iconst 0, 1) := by decide +kernel
theorem dX12_days_74 : decode cX12_days 74 = .ok (.istore 5, 2) := by decide +kernel
theorem dX12_days_76 : decode cX12_days 76 = .ok (.iload 5, 2) := by decide +kernel
theorem dX12_days_78 : decode cX12_days 78 = .ok (.bipush 24, 2) := by decide +kernel
theorem dX12_days_80 : decode cX12_days 80 = .ok (.if_icmp .ge 25, 3) := by decide +kernel
theorem dX12_days_83 : decode cX12_days 83 = .ok (.aload_n 0, 1) := by decide +kernel
theorem dX12_days_84 : decode cX12_days 84 = .ok (.getfield 82, 3) := by decide +kernel
theorem dX12_days_87 : decode cX12_days 87 = .ok (.iload 5, 2) := by decide +kernel
theorem dX12_days_89 : decode cX12_days 89 = .ok (.aload_n 0, 1) := by decide +kernel
theorem dX12_days_90 : decode cX12_days 90 = .ok (.getfield 28, 3) := by decide +kernel
theorem dX12_days_93 : decode cX12_days 93 = .ok (.iconst 0, 1) := by decide +kernel
theorem dX12_days_94 : decode cX12_days 94 = .ok (.iload 5, 2) := by decide +kernel
theorem dX12_days_96 : decode cX12_days 96 = .ok (.iadd, 1) := by decide +kernel
theorem dX12_days_97 : decode cX12_days 97 = .ok (.iaload, 1) := by decide +kernel
theorem dX12_days_98 : decode cX12_days 98 = .ok (.iastore, 1) := by decide +kernel
theorem dX12_days_99 : decode cX12_days 99 = .ok (.iinc 5 1, 3) := by decide +kernel
theorem dX12_days_102 : decode cX12_days 102 = .ok (.goto (-26), 3) := by decide +kernel
theorem dX12_days_105 : decode cX12_days 105 = .ok (.aload_n 0, 1) := by decide +kernel
theorem dX12_days_106 : decode cX12_days 106 = .ok (.iconst 0, 1) := by decide +kernel
theorem dX12_days_107 : decode cX12_days 107 = .ok (.invokevirtual 424, 3) := by decide +kernel
theorem dX12_days_110 : decode cX12_days 110 = .ok (.aload_n 0, 1) := by decide +kernel
theorem dX12_days_111 : decode cX12_days 111 = .ok (.iload 4, 2) := by decide +kernel
theorem dX12_days_113 : decode cX12_days 113 = .ok (.invokevirtual 14, 3) := by decide +kernel
theorem dX12_days_116 : decode cX12_days 116 = .ok (.ireturn, 1) := by decide +kernel
theorem dX12_drawn_0 : decode cX12_drawn 0 = .ok (.aload_n 0, 1) := by decide +kernel
theorem dX12_drawn_1 : decode cX12_drawn 1 = .ok (.getfield 464, 3) := by decide +kernel
theorem dX12_drawn_4 : decode cX12_drawn 4 = .ok (.ifCond .eq 19, 3) := by decide +kernel
theorem dX12_drawn_7 : decode cX12_drawn 7 = .ok (.iload_n 1, 1) := by decide +kernel
theorem dX12_drawn_8 : decode cX12_drawn 8 = .ok (.invokestatic 115, 3) := by decide +kernel
theorem dX12_drawn_11 : decode cX12_drawn 11 = .ok (.ifCond .eq 12, 3) := by decide +kernel
theorem dX12_drawn_14 : decode cX12_drawn 14 = .ok (.aload_n 0, 1) := by decide +kernel
theorem dX12_drawn_15 : decode cX12_drawn 15 = .ok (.getfield 82, 3) := by decide +kernel
theorem dX12_drawn_18 : decode cX12_drawn 18 = .ok (.iload_n 1, 1) := by decide +kernel
theorem dX12_drawn_19 : decode cX12_drawn 19 = .ok (.iaload, 1) := by decide +kernel
theorem dX12_drawn_20 : decode cX12_drawn 20 = .ok (.goto 4, 3) := by decide +kernel
theorem dX12_drawn_23 : decode cX12_drawn 23 = .ok (.iconst (-1), 1) := by decide +kernel
theorem dX12_drawn_24 : decode cX12_drawn 24 = .ok (.ireturn, 1) := by decide +kernel
theorem dX12_count_0 : decode cX12_count 0 = .ok (.iload_n 1, 1) := by decide +kernel
theorem dX12_count_1 : decode cX12_count 1 = .ok (.tableswitch 216 0 18 #[91, 96, 105, 114, 123, 132, 141, 150, 159, 164, 169, 169, 169, 179, 186, 194, 203, 203, 203], 91) := by decide +kernel
theorem dX12_count_92 : decode cX12_count 92 = .ok (.aload_n 0, 1) := by decide +kernel
theorem dX12_count_93 : decode cX12_count 93 = .ok (.invokevirtual 473, 3) := by decide +kernel
theorem dX12_count_96 : decode cX12_count 96 = .ok (.ireturn, 1) := by decide +kernel
theorem dX12_count_97 : decode cX12_count 97 = .ok (.aload_n 0, 1) := by decide +kernel
theorem dX12_count_98 : decode cX12_count 98 = .ok (.getfield 28, 3) := by decide +kernel
theorem dX12_count_101 : decode cX12_count 101 = .ok (.sipush 139, 3) := by decide +kernel
theorem dX12_count_104 : decode cX12_count 104 = .ok (.iaload, 1) := by decide +kernel
theorem dX12_count_105 : decode cX12_count 105 = .ok (.ireturn, 1) := by decide +kernel
theorem dX12_count_106 : decode cX12_count 106 = .ok (.aload_n 0, 1) := by decide +kernel
theorem dX12_count_107 : decode cX12_count 107 = .ok (.getfield 28, 3) := by decide +kernel
theorem dX12_count_110 : decode cX12_count 110 = .ok (.sipush 164, 3) := by decide +kernel
theorem dX12_count_113 : decode cX12_count 113 = .ok (.iaload, 1) := by decide +kernel
theorem dX12_count_114 : decode cX12_count 114 = .ok (.ireturn, 1) := by decide +kernel
theorem dX12_count_115 : decode cX12_count 115 = .ok (.aload_n 0, 1) := by decide +kernel
theorem dX12_count_116 : decode cX12_count 116 = .ok (.getfield 28, 3) := by decide +kernel
theorem dX12_count_119 : decode cX12_count 119 = .ok (.sipush 130, 3) := by decide +kernel
theorem dX12_count_122 : decode cX12_count 122 = .ok (.iaload, 1) := by decide +kernel
theorem dX12_count_123 : decode cX12_count 123 = .ok (.ireturn, 1) := by decide +kernel
theorem dX12_count_124 : decode cX12_count 124 = .ok (.aload_n 0, 1) := by decide +kernel
theorem dX12_count_125 : decode cX12_count 125 = .ok (.getfield 28, 3) := by decide +kernel
theorem dX12_count_128 : decode cX12_count 128 = .ok (.sipush 129, 3) := by decide +kernel
theorem dX12_count_131 : decode cX12_count 131 = .ok (.iaload, 1) := by decide +kernel
theorem dX12_count_132 : decode cX12_count 132 = .ok (.ireturn, 1) := by decide +kernel
theorem dX12_count_133 : decode cX12_count 133 = .ok (.aload_n 0, 1) := by decide +kernel
theorem dX12_count_134 : decode cX12_count 134 = .ok (.getfield 28, 3) := by decide +kernel
theorem dX12_count_137 : decode cX12_count 137 = .ok (.sipush 189, 3) := by decide +kernel
theorem dX12_count_140 : decode cX12_count 140 = .ok (.iaload, 1) := by decide +kernel
theorem dX12_count_141 : decode cX12_count 141 = .ok (.ireturn, 1) := by decide +kernel
theorem dX12_count_142 : decode cX12_count 142 = .ok (.aload_n 0, 1) := by decide +kernel
theorem dX12_count_143 : decode cX12_count 143 = .ok (.getfield 28, 3) := by decide +kernel
theorem dX12_count_146 : decode cX12_count 146 = .ok (.sipush 205, 3) := by decide +kernel
theorem dX12_count_149 : decode cX12_count 149 = .ok (.iaload, 1) := by decide +kernel
theorem dX12_count_150 : decode cX12_count 150 = .ok (.ireturn, 1) := by decide +kernel
theorem dX12_count_151 : decode cX12_count 151 = .ok (.aload_n 0, 1) := by decide +kernel
theorem dX12_count_152 : decode cX12_count 152 = .ok (.getfield 28, 3) := by decide +kernel
theorem dX12_count_155 : decode cX12_count 155 = .ok (.sipush 206, 3) := by decide +kernel
theorem dX12_count_158 : decode cX12_count 158 = .ok (.iaload, 1) := by decide +kernel
theorem dX12_count_159 : decode cX12_count 159 = .ok (.ireturn, 1) := by decide +kernel
theorem dX12_count_160 : decode cX12_count 160 = .ok (.aload_n 0, 1) := by decide +kernel
theorem dX12_count_161 : decode cX12_count 161 = .ok (.getfield 11, 3) := by decide +kernel
theorem dX12_count_164 : decode cX12_count 164 = .ok (.ireturn, 1) := by decide +kernel
theorem dX12_count_165 : decode cX12_count 165 = .ok (.aload_n 0, 1) := by decide +kernel
theorem dX12_count_166 : decode cX12_count 166 = .ok (.getfield 133, 3) := by decide +kernel
theorem dX12_count_169 : decode cX12_count 169 = .ok (.ireturn, 1) := by decide +kernel
theorem dX12_count_170 : decode cX12_count 170 = .ok (.aload_n 0, 1) := by decide +kernel
theorem dX12_count_171 : decode cX12_count 171 = .ok (.getfield 7, 3) := by decide +kernel
theorem dX12_count_174 : decode cX12_count 174 = .ok (.iload_n 1, 1) := by decide +kernel
theorem dX12_count_175 : decode cX12_count 175 = .ok (.bipush 9, 2) := by decide +kernel
theorem dX12_count_177 : decode cX12_count 177 = .ok (.isub, 1) := by decide +kernel
theorem dX12_count_178 : decode cX12_count 178 = .ok (.iaload, 1) := by decide +kernel
theorem dX12_count_179 : decode cX12_count 179 = .ok (.ireturn, 1) := by decide +kernel
theorem dX12_count_180 : decode cX12_count 180 = .ok (.aload_n 0, 1) := by decide +kernel
theorem dX12_count_181 : decode cX12_count 181 = .ok (.getfield 7, 3) := by decide +kernel
theorem dX12_count_184 : decode cX12_count 184 = .ok (.iconst 5, 1) := by decide +kernel
theorem dX12_count_185 : decode cX12_count 185 = .ok (.iaload, 1) := by decide +kernel
theorem dX12_count_186 : decode cX12_count 186 = .ok (.ireturn, 1) := by decide +kernel
theorem dX12_count_187 : decode cX12_count 187 = .ok (.aload_n 0, 1) := by decide +kernel
theorem dX12_count_188 : decode cX12_count 188 = .ok (.getfield 7, 3) := by decide +kernel
theorem dX12_count_191 : decode cX12_count 191 = .ok (.bipush 6, 2) := by decide +kernel
theorem dX12_count_193 : decode cX12_count 193 = .ok (.iaload, 1) := by decide +kernel
theorem dX12_count_194 : decode cX12_count 194 = .ok (.ireturn, 1) := by decide +kernel
theorem dX12_count_195 : decode cX12_count 195 = .ok (.aload_n 0, 1) := by decide +kernel
theorem dX12_count_196 : decode cX12_count 196 = .ok (.getfield 28, 3) := by decide +kernel
theorem dX12_count_199 : decode cX12_count 199 = .ok (.sipush 207, 3) := by decide +kernel
theorem dX12_count_202 : decode cX12_count 202 = .ok (.iaload, 1) := by decide +kernel
theorem dX12_count_203 : decode cX12_count 203 = .ok (.ireturn, 1) := by decide +kernel
theorem dX12_count_204 : decode cX12_count 204 = .ok (.aload_n 0, 1) := by decide +kernel
theorem dX12_count_205 : decode cX12_count 205 = .ok (.getfield 28, 3) := by decide +kernel
theorem dX12_count_208 : decode cX12_count 208 = .ok (.iload_n 1, 1) := by decide +kernel
theorem dX12_count_209 : decode cX12_count 209 = .ok (.bipush 16, 2) := by decide +kernel
theorem dX12_count_211 : decode cX12_count 211 = .ok (.isub, 1) := by decide +kernel
theorem dX12_count_212 : decode cX12_count 212 = .ok (.invokestatic 130, 3) := by decide +kernel
theorem dX12_count_215 : decode cX12_count 215 = .ok (.iaload, 1) := by decide +kernel
theorem dX12_count_216 : decode cX12_count 216 = .ok (.ireturn, 1) := by decide +kernel
theorem dX12_count_217 : decode cX12_count 217 = .ok (.iconst (-1), 1) := by decide +kernel
theorem dX12_count_218 : decode cX12_count 218 = .ok (.ireturn, 1) := by decide +kernel
theorem dX12_status_0 : decode cX12_status 0 = .ok (.aload_n 0, 1) := by decide +kernel
theorem dX12_status_1 : decode cX12_status 1 = .ok (.getfield 3, 3) := by decide +kernel
theorem dX12_status_4 : decode cX12_status 4 = .ok (.ireturn, 1) := by decide +kernel
