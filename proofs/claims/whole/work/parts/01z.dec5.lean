theorem dX12_obeys_10 : decode cX12_obeys 10 = .ok (.goto 12, 3) := by decide +kernel
theorem dX12_obeys_13 : decode cX12_obeys 13 = .ok (.aload_n 0, 1) := by decide +kernel
theorem dX12_obeys_14 : decode cX12_obeys 14 = .ok (.getfield 427, 3) := by decide +kernel
theorem dX12_obeys_17 : decode cX12_obeys 17 = .ok (.bipush 22, 2) := by decide +kernel
theorem dX12_obeys_19 : decode cX12_obeys 19 = .ok (.isub, 1) := by decide +kernel
theorem dX12_obeys_20 : decode cX12_obeys 20 = .ok (.iconst 1, 1) := by decide +kernel
theorem dX12_obeys_21 : decode cX12_obeys 21 = .ok (.iadd, 1) := by decide +kernel
theorem dX12_obeys_22 : decode cX12_obeys 22 = .ok (.istore_n 1, 1) := by decide +kernel
theorem dX12_obeys_23 : decode cX12_obeys 23 = .ok (.aload_n 0, 1) := by decide +kernel
theorem dX12_obeys_24 : decode cX12_obeys 24 = .ok (.iload_n 1, 1) := by decide +kernel
theorem dX12_obeys_25 : decode cX12_obeys 25 = .ok (.aload_n 0, 1) := by decide +kernel
theorem dX12_obeys_26 : decode cX12_obeys 26 = .ok (.getfield 79, 3) := by decide +kernel
theorem dX12_obeys_29 : decode cX12_obeys 29 = .ok (.iconst 0, 1) := by decide +kernel
theorem dX12_obeys_30 : decode cX12_obeys 30 = .ok (.laload, 1) := by decide +kernel
theorem dX12_obeys_31 : decode cX12_obeys 31 = .ok (.invokestatic 441, 3) := by decide +kernel
theorem dX12_obeys_34 : decode cX12_obeys 34 = .ok (.aload_n 0, 1) := by decide +kernel
theorem dX12_obeys_35 : decode cX12_obeys 35 = .ok (.getfield 79, 3) := by decide +kernel
theorem dX12_obeys_38 : decode cX12_obeys 38 = .ok (.iconst 1, 1) := by decide +kernel
theorem dX12_obeys_39 : decode cX12_obeys 39 = .ok (.laload, 1) := by decide +kernel
theorem dX12_obeys_40 : decode cX12_obeys 40 = .ok (.invokestatic 441, 3) := by decide +kernel
theorem dX12_obeys_43 : decode cX12_obeys 43 = .ok (.invokevirtual 388, 3) := by decide +kernel
theorem dX12_obeys_46 : decode cX12_obeys 46 = .ok (.istore_n 2, 1) := by decide +kernel
theorem dX12_obeys_47 : decode cX12_obeys 47 = .ok (.aload_n 0, 1) := by decide +kernel
theorem dX12_obeys_48 : decode cX12_obeys 48 = .ok (.iload_n 2, 1) := by decide +kernel
theorem dX12_obeys_49 : decode cX12_obeys 49 = .ok (.ifCond .ge 10, 3) := by decide +kernel
theorem dX12_obeys_52 : decode cX12_obeys 52 = .ok (.aload_n 0, 1) := by decide +kernel
theorem dX12_obeys_53 : decode cX12_obeys 53 = .ok (.getfield 287, 3) := by decide +kernel
theorem dX12_obeys_56 : decode cX12_obeys 56 = .ok (.goto 4, 3) := by decide +kernel
theorem dX12_obeys_59 : decode cX12_obeys 59 = .ok (.iload_n 2, 1) := by decide +kernel
theorem dX12_obeys_60 : decode cX12_obeys 60 = .ok (.putfield 287, 3) := by decide +kernel
theorem dX12_obeys_63 : decode cX12_obeys 63 = .ok (.iload_n 2, 1) := by decide +kernel
theorem dX12_obeys_64 : decode cX12_obeys 64 = .ok (.ireturn, 1) := by decide +kernel
theorem dX12_runs_0 : decode cX12_runs 0 = .ok (.aload_n 0, 1) := by decide +kernel
theorem dX12_runs_1 : decode cX12_runs 1 = .ok (.iload_n 1, 1) := by decide +kernel
theorem dX12_runs_2 : decode cX12_runs 2 = .ok (.iconst 0, 1) := by decide +kernel
theorem dX12_runs_3 : decode cX12_runs 3 = .ok (.invokevirtual 445, 3) := by decide +kernel
theorem dX12_runs_6 : decode cX12_runs 6 = .ok (.aload_n 0, 1) := by decide +kernel
theorem dX12_runs_7 : decode cX12_runs 7 = .ok (.getfield 433, 3) := by decide +kernel
theorem dX12_runs_10 : decode cX12_runs 10 = .ok (.istore_n 2, 1) := by decide +kernel
theorem dX12_runs_11 : decode cX12_runs 11 = .ok (.aload_n 0, 1) := by decide +kernel
theorem dX12_runs_12 : decode cX12_runs 12 = .ok (.getfield 248, 3) := by decide +kernel
theorem dX12_runs_15 : decode cX12_runs 15 = .ok (.istore_n 3, 1) := by decide +kernel
theorem dX12_runs_16 : decode cX12_runs 16 = .ok (.iconst 0, 1) := by decide +kernel
theorem dX12_runs_17 : decode cX12_runs 17 = .ok (.istore 4, 2) := by decide +kernel
theorem dX12_runs_19 : decode cX12_runs 19 = .ok (.iload 4, 2) := by decide +kernel
theorem dX12_runs_21 : decode cX12_runs 21 = .ok (.iload_n 2, 1) := by decide +kernel
theorem dX12_runs_22 : decode cX12_runs 22 = .ok (.if_icmp .ge 51, 3) := by decide +kernel
theorem dX12_runs_25 : decode cX12_runs 25 = .ok (.aload_n 0, 1) := by decide +kernel
theorem dX12_runs_26 : decode cX12_runs 26 = .ok (.iload_n 1, 1) := by decide +kernel
theorem dX12_runs_27 : decode cX12_runs 27 = .ok (.iconst 1, 1) := by decide +kernel
theorem dX12_runs_28 : decode cX12_runs 28 = .ok (.invokevirtual 445, 3) := by decide +kernel
theorem dX12_runs_31 : decode cX12_runs 31 = .ok (.aload_n 0, 1) := by decide +kernel
theorem dX12_runs_32 : decode cX12_runs 32 = .ok (.getfield 436, 3) := by decide +kernel
theorem dX12_runs_35 : decode cX12_runs 35 = .ok (.ifCond .ne 6, 3) := by decide +kernel
theorem dX12_runs_38 : decode cX12_runs 38 = .ok (.goto 29, 3) := by decide +kernel
theorem dX12_runs_41 : decode cX12_runs 41 = .ok (.aload_n 0, 1) := by decide +kernel
theorem dX12_runs_42 : decode cX12_runs 42 = .ok (.getfield 430, 3) := by decide +kernel
theorem dX12_runs_45 : decode cX12_runs 45 = .ok (.ifCond .eq 10, 3) := by decide +kernel
theorem dX12_runs_48 : decode cX12_runs 48 = .ok (.aload_n 0, 1) := by decide +kernel
theorem dX12_runs_49 : decode cX12_runs 49 = .ok (.invokevirtual 449, 3) := by decide +kernel
theorem dX12_runs_52 : decode cX12_runs 52 = .ok (.ifCond .ge 5, 3) := by decide +kernel
theorem dX12_runs_55 : decode cX12_runs 55 = .ok (.iconst 0, 1) := by decide +kernel
theorem dX12_runs_56 : decode cX12_runs 56 = .ok (.ireturn, 1) := by decide +kernel
theorem dX12_runs_57 : decode cX12_runs 57 = .ok (.aload_n 0, 1) := by decide +kernel
theorem dX12_runs_58 : decode cX12_runs 58 = .ok (.dup, 1) := by decide +kernel
theorem dX12_runs_59 : decode cX12_runs 59 = .ok (.getfield 284, 3) := by decide +kernel
theorem dX12_runs_62 : decode cX12_runs 62 = .ok (.iconst 1, 1) := by decide +kernel
theorem dX12_runs_63 : decode cX12_runs 63 = .ok (.iadd, 1) := by decide +kernel
theorem dX12_runs_64 : decode cX12_runs 64 = .ok (.putfield 284, 3) := by decide +kernel
theorem dX12_runs_67 : decode cX12_runs 67 = .ok (.iinc 4 1, 3) := by decide +kernel
theorem dX12_runs_70 : decode cX12_runs 70 = .ok (.goto (-51), 3) := by decide +kernel
theorem dX12_runs_73 : decode cX12_runs 73 = .ok (.aload_n 0, 1) := by decide +kernel
theorem dX12_runs_74 : decode cX12_runs 74 = .ok (.iload_n 3, 1) := by decide +kernel
theorem dX12_runs_75 : decode cX12_runs 75 = .ok (.putfield 418, 3) := by decide +kernel
theorem dX12_runs_78 : decode cX12_runs 78 = .ok (.iconst 1, 1) := by decide +kernel
theorem dX12_runs_79 : decode cX12_runs 79 = .ok (.ireturn, 1) := by decide +kernel
theorem dX12_orders_0 : decode cX12_orders 0 = .ok (.aload_n 0, 1) := by decide +kernel
theorem dX12_orders_1 : decode cX12_orders 1 = .ok (.iconst (-1), 1) := by decide +kernel
theorem dX12_orders_2 : decode cX12_orders 2 = .ok (.putfield 76, 3) := by decide +kernel
theorem dX12_orders_5 : decode cX12_orders 5 = .ok (.aload_n 0, 1) := by decide +kernel
theorem dX12_orders_6 : decode cX12_orders 6 = .ok (.iconst 1, 1) := by decide +kernel
theorem dX12_orders_7 : decode cX12_orders 7 = .ok (.invokevirtual 235, 3) := by decide +kernel
theorem dX12_orders_10 : decode cX12_orders 10 = .ok (.ifCond .ne 10, 3) := by decide +kernel
theorem dX12_orders_13 : decode cX12_orders 13 = .ok (.aload_n 0, 1) := by decide +kernel
theorem dX12_orders_14 : decode cX12_orders 14 = .ok (.bipush (-6), 2) := by decide +kernel
theorem dX12_orders_16 : decode cX12_orders 16 = .ok (.invokevirtual 85, 3) := by decide +kernel
theorem dX12_orders_19 : decode cX12_orders 19 = .ok (.ireturn, 1) := by decide +kernel
theorem dX12_orders_20 : decode cX12_orders 20 = .ok (.aload_n 0, 1) := by decide +kernel
theorem dX12_orders_21 : decode cX12_orders 21 = .ok (.iconst 1, 1) := by decide +kernel
theorem dX12_orders_22 : decode cX12_orders 22 = .ok (.invokevirtual 378, 3) := by decide +kernel
theorem dX12_orders_25 : decode cX12_orders 25 = .ok (.iconst 0, 1) := by decide +kernel
theorem dX12_orders_26 : decode cX12_orders 26 = .ok (.istore_n 1, 1) := by decide +kernel
theorem dX12_orders_27 : decode cX12_orders 27 = .ok (.iload_n 1, 1) := by decide +kernel
theorem dX12_orders_28 : decode cX12_orders 28 = .ok (.sipush 3072, 3) := by decide +kernel
theorem dX12_orders_31 : decode cX12_orders 31 = .ok (.if_icmp .ge 21, 3) := by decide +kernel
theorem dX12_orders_34 : decode cX12_orders 34 = .ok (.aload_n 0, 1) := by decide +kernel
theorem dX12_orders_35 : decode cX12_orders 35 = .ok (.getfield 69, 3) := by decide +kernel
theorem dX12_orders_38 : decode cX12_orders 38 = .ok (.iload_n 1, 1) := by decide +kernel
theorem dX12_orders_39 : decode cX12_orders 39 = .ok (.aload_n 0, 1) := by decide +kernel
theorem dX12_orders_40 : decode cX12_orders 40 = .ok (.getfield 66, 3) := by decide +kernel
theorem dX12_orders_43 : decode cX12_orders 43 = .ok (.iload_n 1, 1) := by decide +kernel
theorem dX12_orders_44 : decode cX12_orders 44 = .ok (.iaload, 1) := by decide +kernel
theorem dX12_orders_45 : decode cX12_orders 45 = .ok (.iastore, 1) := by decide +kernel
theorem dX12_orders_46 : decode cX12_orders 46 = .ok (.iinc 1 1, 3) := by decide +kernel
theorem dX12_orders_49 : decode cX12_orders 49 = .ok (.goto (-22), 3) := by decide +kernel
theorem dX12_orders_52 : decode cX12_orders 52 = .ok (.aload_n 0, 1) := by decide +kernel
theorem dX12_orders_53 : decode cX12_orders 53 = .ok (.getfield 11, 3) := by decide +kernel
theorem dX12_orders_56 : decode cX12_orders 56 = .ok (.istore_n 1, 1) := by decide +kernel
theorem dX12_orders_57 : decode cX12_orders 57 = .ok (.aload_n 0, 1) := by decide +kernel
theorem dX12_orders_58 : decode cX12_orders 58 = .ok (.bipush 6, 2) := by decide +kernel
theorem dX12_orders_60 : decode cX12_orders 60 = .ok (.invokevirtual 239, 3) := by decide +kernel
theorem dX12_orders_63 : decode cX12_orders 63 = .ok (.aload_n 0, 1) := by decide +kernel
theorem dX12_orders_64 : decode cX12_orders 64 = .ok (.iconst 0, 1) := by decide +kernel
theorem dX12_orders_65 : decode cX12_orders 65 = .ok (.putfield 284, 3) := by decide +kernel
theorem dX12_orders_68 : decode cX12_orders 68 = .ok (.aload_n 0, 1) := by decide +kernel
theorem dX12_orders_69 : decode cX12_orders 69 = .ok (.iconst (-1), 1) := by decide +kernel
theorem dX12_orders_70 : decode cX12_orders 70 = .ok (.putfield 287, 3) := by decide +kernel
theorem dX12_orders_73 : decode cX12_orders 73 = .ok (.aload_n 0, 1) := by decide +kernel
theorem dX12_orders_74 : decode cX12_orders 74 = .ok (.sipush 2400, 3) := by decide +kernel
theorem dX12_orders_77 : decode cX12_orders 77 = .ok (.putfield 418, 3) := by decide +kernel
theorem dX12_orders_80 : decode cX12_orders 80 = .ok (.aload_n 0, 1) := by decide +kernel
theorem dX12_orders_81 : decode cX12_orders 81 = .ok (.getfield 418, 3) := by decide +kernel
theorem dX12_orders_84 : decode cX12_orders 84 = .ok (.aload_n 0, 1) := by decide +kernel
theorem dX12_orders_85 : decode cX12_orders 85 = .ok (.getfield 28, 3) := by decide +kernel
theorem dX12_orders_88 : decode cX12_orders 88 = .ok (.sipush 214, 3) := by decide +kernel
theorem dX12_orders_91 : decode cX12_orders 91 = .ok (.iaload, 1) := by decide +kernel
theorem dX12_orders_92 : decode cX12_orders 92 = .ok (.iadd, 1) := by decide +kernel
theorem dX12_orders_93 : decode cX12_orders 93 = .ok (.istore_n 2, 1) := by decide +kernel
theorem dX12_orders_94 : decode cX12_orders 94 = .ok (.iconst 0, 1) := by decide +kernel
theorem dX12_orders_95 : decode cX12_orders 95 = .ok (.istore_n 3, 1) := by decide +kernel
theorem dX12_orders_96 : decode cX12_orders 96 = .ok (.aload_n 0, 1) := by decide +kernel
theorem dX12_orders_97 : decode cX12_orders 97 = .ok (.getfield 418, 3) := by decide +kernel
theorem dX12_orders_100 : decode cX12_orders 100 = .ok (.iload_n 2, 1) := by decide +kernel
theorem dX12_orders_101 : decode cX12_orders 101 = .ok (.if_icmp .ge 73, 3) := by decide +kernel
theorem dX12_orders_104 : decode cX12_orders 104 = .ok (.aload_n 0, 1) := by decide +kernel
theorem dX12_orders_105 : decode cX12_orders 105 = .ok (.iload_n 2, 1) := by decide +kernel
theorem dX12_orders_106 : decode cX12_orders 106 = .ok (.invokevirtual 421, 3) := by decide +kernel
theorem dX12_orders_109 : decode cX12_orders 109 = .ok (.ifCond .eq 6, 3) := by decide +kernel
theorem dX12_orders_112 : decode cX12_orders 112 = .ok (.goto 56, 3) := by decide +kernel
theorem dX12_orders_115 : decode cX12_orders 115 = .ok (.aload_n 0, 1) := by decide +kernel
theorem dX12_orders_116 : decode cX12_orders 116 = .ok (.iconst 1, 1) := by decide +kernel
theorem dX12_orders_117 : decode cX12_orders 117 = .ok (.invokevirtual 424, 3) := by decide +kernel
theorem dX12_orders_120 : decode cX12_orders 120 = .ok (.iconst 0, 1) := by decide +kernel
theorem dX12_orders_121 : decode cX12_orders 121 = .ok (.istore 4, 2) := by decide +kernel
theorem dX12_orders_123 : decode cX12_orders 123 = .ok (.iload 4, 2) := by decide +kernel
theorem dX12_orders_125 : decode cX12_orders 125 = .ok (.sipush 3072, 3) := by decide +kernel
theorem dX12_orders_128 : decode cX12_orders 128 = .ok (.if_icmp .ge 23, 3) := by decide +kernel
theorem dX12_orders_131 : decode cX12_orders 131 = .ok (.aload_n 0, 1) := by decide +kernel
theorem dX12_orders_132 : decode cX12_orders 132 = .ok (.getfield 66, 3) := by decide +kernel
theorem dX12_orders_135 : decode cX12_orders 135 = .ok (.iload 4, 2) := by decide +kernel
theorem dX12_orders_137 : decode cX12_orders 137 = .ok (.aload_n 0, 1) := by decide +kernel
theorem dX12_orders_138 : decode cX12_orders 138 = .ok (.getfield 69, 3) := by decide +kernel
theorem dX12_orders_141 : decode cX12_orders 141 = .ok (.iload 4, 2) := by decide +kernel
theorem dX12_orders_143 : decode cX12_orders 143 = .ok (.iaload, 1) := by decide +kernel
theorem dX12_orders_144 : decode cX12_orders 144 = .ok (.iastore, 1) := by decide +kernel
theorem dX12_orders_145 : decode cX12_orders 145 = .ok (.iinc 4 1, 3) := by decide +kernel
theorem dX12_orders_148 : decode cX12_orders 148 = .ok (.goto (-25), 3) := by decide +kernel
theorem dX12_orders_151 : decode cX12_orders 151 = .ok (.aload_n 0, 1) := by decide +kernel
theorem dX12_orders_152 : decode cX12_orders 152 = .ok (.iload_n 1, 1) := by decide +kernel
theorem dX12_orders_153 : decode cX12_orders 153 = .ok (.putfield 11, 3) := by decide +kernel
theorem dX12_orders_156 : decode cX12_orders 156 = .ok (.aload_n 0, 1) := by decide +kernel
theorem dX12_orders_157 : decode cX12_orders 157 = .ok (.iload_n 3, 1) := by decide +kernel
theorem dX12_orders_158 : decode cX12_orders 158 = .ok (.putfield 76, 3) := by decide +kernel
theorem dX12_orders_161 : decode cX12_orders 161 = .ok (.aload_n 0, 1) := by decide +kernel
theorem dX12_orders_162 : decode cX12_orders 162 = .ok (.bipush (-3), 2) := by decide +kernel
theorem dX12_orders_164 : decode cX12_orders 164 = .ok (.invokevirtual 85, 3) := by decide +kernel
theorem dX12_orders_167 : decode cX12_orders 167 = .ok (.ireturn, 1) := by decide +kernel
theorem dX12_orders_168 : decode cX12_orders 168 = .ok (.iinc 3 1, 3) := by decide +kernel
theorem dX12_orders_171 : decode cX12_orders 171 = .ok (.goto (-75), 3) := by decide +kernel
theorem dX12_orders_174 : decode cX12_orders 174 = .ok (.aload_n 0, 1) := by decide +kernel
theorem dX12_orders_175 : decode cX12_orders 175 = .ok (.aload_n 0, 1) := by decide +kernel
theorem dX12_orders_176 : decode cX12_orders 176 = .ok (.getfield 284, 3) := by decide +kernel
theorem dX12_orders_179 : decode cX12_orders 179 = .ok (.invokevirtual 14, 3) := by decide +kernel
theorem dX12_orders_182 : decode cX12_orders 182 = .ok (.ireturn, 1) := by decide +kernel
theorem dX12_draws_0 : decode cX12_draws 0 = .ok (.aload_n 0, 1) := by decide +kernel
theorem dX12_draws_1 : decode cX12_draws 1 = .ok (.ldc2_w 452, 3) := by decide +kernel
theorem dX12_draws_4 : decode cX12_draws 4 = .ok (.aload_n 0, 1) := by decide +kernel
theorem dX12_draws_5 : decode cX12_draws 5 = .ok (.getfield 454, 3) := by decide +kernel
theorem dX12_draws_8 : decode cX12_draws 8 = .ok (.i2l, 1) := by decide +kernel
theorem dX12_draws_9 : decode cX12_draws 9 = .ok (.lmul, 1) := by decide +kernel
theorem dX12_draws_10 : decode cX12_draws 10 = .ok (.ldc2_w 457, 3) := by decide +kernel
theorem dX12_draws_13 : decode cX12_draws 13 = .ok (.ladd, 1) := by decide +kernel
theorem dX12_draws_14 : decode cX12_draws 14 = .ok (.ldc2_w 459, 3) := by decide +kernel
theorem dX12_draws_17 : decode cX12_draws 17 = .ok (.lrem, 1) := by decide +kernel
theorem dX12_draws_18 : decode cX12_draws 18 = .ok (.l2i, 1) := by decide +kernel
theorem dX12_draws_19 : decode cX12_draws 19 = .ok (.putfield 454, 3) := by decide +kernel
theorem dX12_draws_22 : decode cX12_draws 22 = .ok (.aload_n 0, 1) := by decide +kernel
theorem dX12_draws_23 : decode cX12_draws 23 = .ok (.getfield 454, 3) := by decide +kernel
theorem dX12_draws_26 : decode cX12_draws 26 = .ok (.iload_n 1, 1) := by decide +kernel
theorem dX12_draws_27 : decode cX12_draws 27 = .ok (.irem, 1) := by decide +kernel
theorem dX12_draws_28 : decode cX12_draws 28 = .ok (.ireturn, 1) := by decide +kernel
theorem dX12_drawnAct_0 : decode cX12_drawnAct 0 = .ok (.aload_n 0, 1) := by decide +kernel
theorem dX12_drawnAct_1 : decode cX12_drawnAct 1 = .ok (.bipush 8, 2) := by decide +kernel
theorem dX12_drawnAct_3 : decode cX12_drawnAct 3 = .ok (.invokevirtual 461, 3) := by decide +kernel
theorem dX12_drawnAct_6 : decode cX12_drawnAct 6 = .ok (.istore_n 1, 1) := by decide +kernel
theorem dX12_drawnAct_7 : decode cX12_drawnAct 7 = .ok (.aload_n 0, 1) := by decide +kernel
theorem dX12_drawnAct_8 : decode cX12_drawnAct 8 = .ok (.bipush 6, 2) := by decide +kernel
theorem dX12_drawnAct_10 : decode cX12_drawnAct 10 = .ok (.invokevirtual 461, 3) := by decide +kernel
theorem dX12_drawnAct_13 : decode cX12_drawnAct 13 = .ok (.istore_n 2, 1) := by decide +kernel
theorem dX12_drawnAct_14 : decode cX12_drawnAct 14 = .ok (.aload_n 0, 1) := by decide +kernel
theorem dX12_drawnAct_15 : decode cX12_drawnAct 15 = .ok (.bipush 9, 2) := by decide +kernel
theorem dX12_drawnAct_17 : decode cX12_drawnAct 17 = .ok (.invokevirtual 461, 3) := by decide +kernel
theorem dX12_drawnAct_20 : decode cX12_drawnAct 20 = .ok (.istore_n 3, 1) := by decide +kernel
theorem dX12_drawnAct_21 : decode cX12_drawnAct 21 = .ok (.iload_n 3, 1) := by decide +kernel
theorem dX12_drawnAct_22 : decode cX12_drawnAct 22 = .ok (.lookupswitch 48 #[(0, 26), (1, 37)], 26) := by decide +kernel
theorem dX12_drawnAct_48 : decode cX12_drawnAct 48 = .ok (.aload_n 0, 1) := by decide +kernel
theorem dX12_drawnAct_49 : decode cX12_drawnAct 49 = .ok (.iconst 0, 1) := by decide +kernel
theorem dX12_drawnAct_50 : decode cX12_drawnAct 50 = .ok (.iload_n 2, 1) := by decide +kernel
theorem dX12_drawnAct_51 : decode cX12_drawnAct 51 = .ok (.iload_n 1, 1) := by decide +kernel
theorem dX12_drawnAct_52 : decode cX12_drawnAct 52 = .ok (.invokevirtual 381, 3) := by decide +kernel
theorem dX12_drawnAct_55 : decode cX12_drawnAct 55 = .ok (.pop, 1) := by decide +kernel
theorem dX12_drawnAct_56 : decode cX12_drawnAct 56 = .ok (.goto 22, 3) := by decide +kernel
theorem dX12_drawnAct_59 : decode cX12_drawnAct 59 = .ok (.aload_n 0, 1) := by decide +kernel
theorem dX12_drawnAct_60 : decode cX12_drawnAct 60 = .ok (.iconst 1, 1) := by decide +kernel
theorem dX12_drawnAct_61 : decode cX12_drawnAct 61 = .ok (.iload_n 2, 1) := by decide +kernel
theorem dX12_drawnAct_62 : decode cX12_drawnAct 62 = .ok (.iconst 0, 1) := by decide +kernel
theorem dX12_drawnAct_63 : decode cX12_drawnAct 63 = .ok (.invokevirtual 381, 3) := by decide +kernel
theorem dX12_drawnAct_66 : decode cX12_drawnAct 66 = .ok (.pop, 1) := by decide +kernel
theorem dX12_drawnAct_67 : decode cX12_drawnAct 67 = .ok (.goto 11, 3) := by decide +kernel
theorem dX12_drawnAct_70 : decode cX12_drawnAct 70 = .ok (.aload_n 0, 1) := by decide +kernel
theorem dX12_drawnAct_71 : decode cX12_drawnAct 71 = .ok (.iload_n 3, 1) := by decide +kernel
theorem dX12_drawnAct_72 : decode cX12_drawnAct 72 = .ok (.iload_n 1, 1) := by decide +kernel
theorem dX12_drawnAct_73 : decode cX12_drawnAct 73 = .ok (.iconst 0, 1) := by decide +kernel
theorem dX12_drawnAct_74 : decode cX12_drawnAct 74 = .ok (.invokevirtual 381, 3) := by decide +kernel
theorem dX12_drawnAct_77 : decode cX12_drawnAct 77 = .ok (.pop, 1) := by decide +kernel
theorem dX12_drawnAct_78 : decode cX12_drawnAct 78 = .ok (.return_, 1) := by decide +kernel
theorem dX12_endedMany_0 : decode cX12_endedMany 0 = .ok (.aload_n 0, 1) := by decide +kernel
theorem dX12_endedMany_1 : decode cX12_endedMany 1 = .ok (.getfield 28, 3) := by decide +kernel
theorem dX12_endedMany_4 : decode cX12_endedMany 4 = .ok (.sipush 130, 3) := by decide +kernel
theorem dX12_endedMany_7 : decode cX12_endedMany 7 = .ok (.iaload, 1) := by decide +kernel
theorem dX12_endedMany_8 : decode cX12_endedMany 8 = .ok (.aload_n 0, 1) := by decide +kernel
theorem dX12_endedMany_9 : decode cX12_endedMany 9 = .ok (.getfield 28, 3) := by decide +kernel
theorem dX12_endedMany_12 : decode cX12_endedMany 12 = .ok (.sipush 129, 3) := by decide +kernel
theorem dX12_endedMany_15 : decode cX12_endedMany 15 = .ok (.iaload, 1) := by decide +kernel
theorem dX12_endedMany_16 : decode cX12_endedMany 16 = .ok (.isub, 1) := by decide +kernel
theorem dX12_endedMany_17 : decode cX12_endedMany 17 = .ok (.ireturn, 1) := by decide +kernel
theorem dX12_days_0 : decode cX12_days 0 = .ok (.iload_n 1, 1) := by decide +kernel
theorem dX12_days_1 : decode cX12_days 1 = .ok (.iconst 0, 1) := by decide +kernel
theorem dX12_days_2 : decode cX12_days 2 = .ok (.ldc 155, 2) := by decide +kernel
theorem dX12_days_4 : decode cX12_days 4 = .ok (.invokestatic 18, 3) := by decide +kernel
theorem dX12_days_7 : decode cX12_days 7 = .ok (.ifCond .eq 13, 3) := by decide +kernel
theorem dX12_days_10 : decode cX12_days 10 = .ok (.iload_n 2, 1) := by decide +kernel
theorem dX12_days_11 : decode cX12_days 11 = .ok (.iconst 1, 1) := by decide +kernel
theorem dX12_days_12 : decode cX12_days 12 = .ok (.bipush 60, 2) := by decide +kernel
theorem dX12_days_14 : decode cX12_days 14 = .ok (.invokestatic 18, 3) := by decide +kernel
theorem dX12_days_17 : decode cX12_days 17 = .ok (.ifCond .ne 9, 3) := by decide +kernel
theorem dX12_days_20 : decode cX12_days 20 = .ok (.aload_n 0, 1) := by decide +kernel
theorem dX12_days_21 : decode cX12_days 21 = .ok (.iconst (-1), 1) := by decide +kernel
theorem dX12_days_22 : decode cX12_days 22 = .ok (.invokevirtual 85, 3) := by decide +kernel
theorem dX12_days_25 : decode cX12_days 25 = .ok (.ireturn, 1) := by decide +kernel
theorem dX12_days_26 : decode cX12_days 26 = .ok (.aload_n 0, 1) := by decide +kernel
theorem dX12_days_27 : decode cX12_days 27 = .ok (.iload_n 1, 1) := by decide +kernel
theorem dX12_days_28 : decode cX12_days 28 = .ok (.putfield 454, 3) := by decide +kernel
theorem dX12_days_31 : decode cX12_days 31 = .ok (.aload_n 0, 1) := by decide +kernel
theorem dX12_days_32 : decode cX12_days 32 = .ok (.iconst 1, 1) := by decide +kernel
theorem dX12_days_33 : decode cX12_days 33 = .ok (.putfield 464, 3) := by decide +kernel
theorem dX12_days_36 : decode cX12_days 36 = .ok (.aload_n 0, 1) := by decide +kernel
theorem dX12_days_37 : decode cX12_days 37 = .ok (.iconst 0, 1) := by decide +kernel
theorem dX12_days_38 : decode cX12_days 38 = .ok (.invokevirtual 378, 3) := by decide +kernel
theorem dX12_days_41 : decode cX12_days 41 = .ok (.aload_n 0, 1) := by decide +kernel
theorem dX12_days_42 : decode cX12_days 42 = .ok (.invokevirtual 467, 3) := by decide +kernel
theorem dX12_days_45 : decode cX12_days 45 = .ok (.istore_n 3, 1) := by decide +kernel
theorem dX12_days_46 : decode cX12_days 46 = .ok (.iconst 0, 1) := by decide +kernel
theorem dX12_days_47 : decode cX12_days 47 = .ok (.istore 4, 2) := by decide +kernel
theorem dX12_days_49 : decode cX12_days 49 = .ok (.iload 4, 2) := by decide +kernel
theorem dX12_days_51 : decode cX12_days 51 = .ok (.iload_n 2, 1) := by decide +kernel
theorem dX12_days_52 : decode cX12_days 52 = .ok (.if_icmp .ge 13, 3) := by decide +kernel
theorem dX12_days_55 : decode cX12_days 55 = .ok (.aload_n 0, 1) := by decide +kernel
theorem dX12_days_56 : decode cX12_days 56 = .ok (.invokevirtual 470, 3) := by decide +kernel
theorem dX12_days_59 : decode cX12_days 59 = .ok (.iinc 4 1, 3) := by decide +kernel
theorem dX12_days_62 : decode cX12_days 62 = .ok (.goto (-13), 3) := by decide +kernel
theorem dX12_days_65 : decode cX12_days 65 = .ok (.aload_n 0, 1) := by decide +kernel
theorem dX12_days_66 : decode cX12_days 66 = .ok (.invokevirtual 467, 3) := by decide +kernel
theorem dX12_days_69 : decode cX12_days 69 = .ok (.iload_n 3, 1) := by decide +kernel
theorem dX12_days_70 : decode cX12_days 70 = .ok (.isub, 1) := by decide +kernel
theorem dX12_days_71 : decode cX12_days 71 = .ok (.istore 4, 2) := by decide +kernel
theorem dX12_days_73 : decode cX12_days 73 = .ok (.iconst 0, 1) := by decide +kernel
theorem dX12_days_74 : decode cX12_days 74 = .ok (.istore 5, 2) := by decide +kernel
theorem dX12_days_76 : decode cX12_days 76 = .ok (.iload 5, 2) := by decide +kernel
theorem dX12_days_78 : decode cX12_days 78 = .ok (.bipush 24, 2) := by decide +kernel
theorem dX12_days_80 : decode cX12_days 80 = .ok (.if_icmp .ge 25, 3) := by decide +kernel
theorem dX12_days_83 : decode cX12_days 83 = .ok (.aload_n 0, 1) := by decide +kernel
theorem dX12_days_84 : decode cX12_days 84 = .ok (.getfield 82, 3) := by decide +kernel
theorem dX12_days_87 : decode cX12_days 87 = .ok (.iload 5, 2) := by decide +kernel
theorem dX12_days_89 : decode cX12_days 89 = .ok (.aload_n 0, 1) := by decide +kernel
theorem dX12_days_90 : decode cX12_days 90 = .ok (.getfield 28, 3) := by decide +kernel
theorem dX12_days_93 : decode cX12_days 93 = .ok (.iconst 0, 1) := by decide +kernel
theorem dX12_days_94 : decode cX12_days 94 = .ok (.iload 5, 2) := by decide +kernel
theorem dX12_days_96 : decode cX12_days 96 = .ok (.iadd, 1) := by decide +kernel
theorem dX12_days_97 : decode cX12_days 97 = .ok (.iaload, 1) := by decide +kernel
theorem dX12_days_98 : decode cX12_days 98 = .ok (.iastore, 1) := by decide +kernel
theorem dX12_days_99 : decode cX12_days 99 = .ok (.iinc 5 1, 3) := by decide +kernel
theorem dX12_days_102 : decode cX12_days 102 = .ok (.goto (-26), 3) := by decide +kernel
theorem dX12_days_105 : decode cX12_days 105 = .ok (.aload_n 0, 1) := by decide +kernel
theorem dX12_days_106 : decode cX12_days 106 = .ok (.iconst 0, 1) := by decide +kernel
theorem dX12_days_107 : decode cX12_days 107 = .ok (.invokevirtual 424, 3) := by decide +kernel
theorem dX12_days_110 : decode cX12_days 110 = .ok (.aload_n 0, 1) := by decide +kernel
theorem dX12_days_111 : decode cX12_days 111 = .ok (.iload 4, 2) := by decide +kernel
theorem dX12_days_113 : decode cX12_days 113 = .ok (.invokevirtual 14, 3) := by decide +kernel
theorem dX12_days_116 : decode cX12_days 116 = .ok (.ireturn, 1) := by decide +kernel
theorem dX12_drawn_0 : decode cX12_drawn 0 = .ok (.aload_n 0, 1) := by decide +kernel
theorem dX12_drawn_1 : decode cX12_drawn 1 = .ok (.getfield 464, 3) := by decide +kernel
theorem dX12_drawn_4 : decode cX12_drawn 4 = .ok (.ifCond .eq 19, 3) := by decide +kernel
theorem dX12_drawn_7 : decode cX12_drawn 7 = .ok (.iload_n 1, 1) := by decide +kernel
theorem dX12_drawn_8 : decode cX12_drawn 8 = .ok (.invokestatic 115, 3) := by decide +kernel
theorem dX12_drawn_11 : decode cX12_drawn 11 = .ok (.ifCond .eq 12, 3) := by decide +kernel
theorem dX12_drawn_14 : decode cX12_drawn 14 = .ok (.aload_n 0, 1) := by decide +kernel
theorem dX12_drawn_15 : decode cX12_drawn 15 = .ok (.getfield 82, 3) := by decide +kernel
theorem dX12_drawn_18 : decode cX12_drawn 18 = .ok (.iload_n 1, 1) := by decide +kernel
theorem dX12_drawn_19 : decode cX12_drawn 19 = .ok (.iaload, 1) := by decide +kernel
theorem dX12_drawn_20 : decode cX12_drawn 20 = .ok (.goto 4, 3) := by decide +kernel
theorem dX12_drawn_23 : decode cX12_drawn 23 = .ok (.iconst (-1), 1) := by decide +kernel
theorem dX12_drawn_24 : decode cX12_drawn 24 = .ok (.ireturn, 1) := by decide +kernel
theorem dX12_count_0 : decode cX12_count 0 = .ok (.iload_n 1, 1) := by decide +kernel
theorem dX12_count_1 : decode cX12_count 1 = .ok (.tableswitch 216 0 18 #[91, 96, 105, 114, 123, 132, 141, 150, 159, 164, 169, 169, 169, 179, 186, 194, 203, 203, 203], 91) := by decide +kernel
theorem dX12_count_92 : decode cX12_count 92 = .ok (.aload_n 0, 1) := by decide +kernel
theorem dX12_count_93 : decode cX12_count 93 = .ok (.invokevirtual 473, 3) := by decide +kernel
theorem dX12_count_96 : decode cX12_count 96 = .ok (.ireturn, 1) := by decide +kernel
theorem dX12_count_97 : decode cX12_count 97 = .ok (.aload_n 0, 1) := by decide +kernel
theorem dX12_count_98 : decode cX12_count 98 = .ok (.getfield 28, 3) := by decide +kernel
theorem dX12_count_101 : decode cX12_count 101 = .ok (.sipush 139, 3) := by decide +kernel
theorem dX12_count_104 : decode cX12_count 104 = .ok (.iaload, 1) := by decide +kernel
theorem dX12_count_105 : decode cX12_count 105 = .ok (.ireturn, 1) := by decide +kernel
theorem dX12_count_106 : decode cX12_count 106 = .ok (.aload_n 0, 1) := by decide +kernel
theorem dX12_count_107 : decode cX12_count 107 = .ok (.getfield 28, 3) := by decide +kernel
theorem dX12_count_110 : decode cX12_count 110 = .ok (.sipush 164, 3) := by decide +kernel
theorem dX12_count_113 : decode cX12_count 113 = .ok (.iaload, 1) := by decide +kernel
theorem dX12_count_114 : decode cX12_count 114 = .ok (.ireturn, 1) := by decide +kernel
theorem dX12_count_115 : decode cX12_count 115 = .ok (.aload_n 0, 1) := by decide +kernel
theorem dX12_count_116 : decode cX12_count 116 = .ok (.getfield 28, 3) := by decide +kernel
theorem dX12_count_119 : decode cX12_count 119 = .ok (.sipush 130, 3) := by decide +kernel
theorem dX12_count_122 : decode cX12_count 122 = .ok (.iaload, 1) := by decide +kernel
theorem dX12_count_123 : decode cX12_count 123 = .ok (.ireturn, 1) := by decide +kernel
theorem dX12_count_124 : decode cX12_count 124 = .ok (.aload_n 0, 1) := by decide +kernel
theorem dX12_count_125 : decode cX12_count 125 = .ok (.getfield 28, 3) := by decide +kernel
theorem dX12_count_128 : decode cX12_count 128 = .ok (.sipush 129, 3) := by decide +kernel
theorem dX12_count_131 : decode cX12_count 131 = .ok (.iaload, 1) := by decide +kernel
theorem dX12_count_132 : decode cX12_count 132 = .ok (.ireturn, 1) := by decide +kernel
theorem dX12_count_133 : decode cX12_count 133 = .ok (.aload_n 0, 1) := by decide +kernel
theorem dX12_count_134 : decode cX12_count 134 = .ok (.getfield 28, 3) := by decide +kernel
theorem dX12_count_137 : decode cX12_count 137 = .ok (.sipush 189, 3) := by decide +kernel
theorem dX12_count_140 : decode cX12_count 140 = .ok (.iaload, 1) := by decide +kernel
theorem dX12_count_141 : decode cX12_count 141 = .ok (.ireturn, 1) := by decide +kernel
theorem dX12_count_142 : decode cX12_count 142 = .ok (.aload_n 0, 1) := by decide +kernel
theorem dX12_count_143 : decode cX12_count 143 = .ok (.getfield 28, 3) := by decide +kernel
theorem dX12_count_146 : decode cX12_count 146 = .ok (.sipush 205, 3) := by decide +kernel
theorem dX12_count_149 : decode cX12_count 149 = .ok (.iaload, 1) := by decide +kernel
theorem dX12_count_150 : decode cX12_count 150 = .ok (.ireturn, 1) := by decide +kernel
theorem dX12_count_151 : decode cX12_count 151 = .ok (.aload_n 0, 1) := by decide +kernel
theorem dX12_count_152 : decode cX12_count 152 = .ok (.getfield 28, 3) := by decide +kernel
theorem dX12_count_155 : decode cX12_count 155 = .ok (.sipush 206, 3) := by decide +kernel
theorem dX12_count_158 : decode cX12_count 158 = .ok (.iaload, 1) := by decide +kernel
theorem dX12_count_159 : decode cX12_count 159 = .ok (.ireturn, 1) := by decide +kernel
theorem dX12_count_160 : decode cX12_count 160 = .ok (.aload_n 0, 1) := by decide +kernel
theorem dX12_count_161 : decode cX12_count 161 = .ok (.getfield 11, 3) := by decide +kernel
theorem dX12_count_164 : decode cX12_count 164 = .ok (.ireturn, 1) := by decide +kernel
theorem dX12_count_165 : decode cX12_count 165 = .ok (.aload_n 0, 1) := by decide +kernel
theorem dX12_count_166 : decode cX12_count 166 = .ok (.getfield 133, 3) := by decide +kernel
theorem dX12_count_169 : decode cX12_count 169 = .ok (.ireturn, 1) := by decide +kernel
theorem dX12_count_170 : decode cX12_count 170 = .ok (.aload_n 0, 1) := by decide +kernel
theorem dX12_count_171 : decode cX12_count 171 = .ok (.getfield 7, 3) := by decide +kernel
theorem dX12_count_174 : decode cX12_count 174 = .ok (.iload_n 1, 1) := by decide +kernel
theorem dX12_count_175 : decode cX12_count 175 = .ok (.bipush 9, 2) := by decide +kernel
theorem dX12_count_177 : decode cX12_count 177 = .ok (.isub, 1) := by decide +kernel
theorem dX12_count_178 : decode cX12_count 178 = .ok (.iaload, 1) := by decide +kernel
theorem dX12_count_179 : decode cX12_count 179 = .ok (.ireturn, 1) := by decide +kernel
theorem dX12_count_180 : decode cX12_count 180 = .ok (.aload_n 0, 1) := by decide +kernel
theorem dX12_count_181 : decode cX12_count 181 = .ok (.getfield 7, 3) := by decide +kernel
theorem dX12_count_184 : decode cX12_count 184 = .ok (.iconst 5, 1) := by decide +kernel
theorem dX12_count_185 : decode cX12_count 185 = .ok (.iaload, 1) := by decide +kernel
theorem dX12_count_186 : decode cX12_count 186 = .ok (.ireturn, 1) := by decide +kernel
theorem dX12_count_187 : decode cX12_count 187 = .ok (.aload_n 0, 1) := by decide +kernel
theorem dX12_count_188 : decode cX12_count 188 = .ok (.getfield 7, 3) := by decide +kernel
theorem dX12_count_191 : decode cX12_count 191 = .ok (.bipush 6, 2) := by decide +kernel
theorem dX12_count_193 : decode cX12_count 193 = .ok (.iaload, 1) := by decide +kernel
theorem dX12_count_194 : decode cX12_count 194 = .ok (.ireturn, 1) := by decide +kernel
theorem dX12_count_195 : decode cX12_count 195 = .ok (.aload_n 0, 1) := by decide +kernel
theorem dX12_count_196 : decode cX12_count 196 = .ok (.getfield 28, 3) := by decide +kernel
theorem dX12_count_199 : decode cX12_count 199 = .ok (.sipush 207, 3) := by decide +kernel
theorem dX12_count_202 : decode cX12_count 202 = .ok (.iaload, 1) := by decide +kernel
theorem dX12_count_203 : decode cX12_count 203 = .ok (.ireturn, 1) := by decide +kernel
theorem dX12_count_204 : decode cX12_count 204 = .ok (.aload_n 0, 1) := by decide +kernel
theorem dX12_count_205 : decode cX12_count 205 = .ok (.getfield 28, 3) := by decide +kernel
theorem dX12_count_208 : decode cX12_count 208 = .ok (.iload_n 1, 1) := by decide +kernel
theorem dX12_count_209 : decode cX12_count 209 = .ok (.bipush 16, 2) := by decide +kernel
theorem dX12_count_211 : decode cX12_count 211 = .ok (.isub, 1) := by decide +kernel
theorem dX12_count_212 : decode cX12_count 212 = .ok (.invokestatic 130, 3) := by decide +kernel
theorem dX12_count_215 : decode cX12_count 215 = .ok (.iaload, 1) := by decide +kernel
theorem dX12_count_216 : decode cX12_count 216 = .ok (.ireturn, 1) := by decide +kernel
theorem dX12_count_217 : decode cX12_count 217 = .ok (.iconst (-1), 1) := by decide +kernel
theorem dX12_count_218 : decode cX12_count 218 = .ok (.ireturn, 1) := by decide +kernel
theorem dX12_status_0 : decode cX12_status 0 = .ok (.aload_n 0, 1) := by decide +kernel
theorem dX12_status_1 : decode cX12_status 1 = .ok (.getfield 3, 3) := by decide +kernel
theorem dX12_status_4 : decode cX12_status 4 = .ok (.ireturn, 1) := by decide +kernel
theorem dL_law_0 : decode cL_law 0 = .ok (.new 7, 3) := by decide +kernel
theorem dL_law_3 : decode cL_law 3 = .ok (.dup, 1) := by decide +kernel
theorem dL_law_4 : decode cL_law 4 = .ok (.invokespecial 9, 3) := by decide +kernel
theorem dL_law_7 : decode cL_law 7 = .ok (.astore_n 1, 1) := by decide +kernel
theorem dL_law_8 : decode cL_law 8 = .ok (.new 10, 3) := by decide +kernel
theorem dL_law_11 : decode cL_law 11 = .ok (.dup, 1) := by decide +kernel
theorem dL_law_12 : decode cL_law 12 = .ok (.invokespecial 12, 3) := by decide +kernel
theorem dL_law_15 : decode cL_law 15 = .ok (.astore_n 2, 1) := by decide +kernel
theorem dL_law_16 : decode cL_law 16 = .ok (.iconst 0, 1) := by decide +kernel
theorem dL_law_17 : decode cL_law 17 = .ok (.istore_n 3, 1) := by decide +kernel
theorem dL_law_18 : decode cL_law 18 = .ok (.iload_n 3, 1) := by decide +kernel
theorem dL_law_19 : decode cL_law 19 = .ok (.aload_n 0, 1) := by decide +kernel
theorem dL_law_20 : decode cL_law 20 = .ok (.arraylength, 1) := by decide +kernel
theorem dL_law_21 : decode cL_law 21 = .ok (.bipush 6, 2) := by decide +kernel
theorem dL_law_23 : decode cL_law 23 = .ok (.isub, 1) := by decide +kernel
theorem dL_law_24 : decode cL_law 24 = .ok (.if_icmp .gt 1202, 3) := by decide +kernel
theorem dL_law_27 : decode cL_law 27 = .ok (.aload_n 0, 1) := by decide +kernel
theorem dL_law_28 : decode cL_law 28 = .ok (.iload_n 3, 1) := by decide +kernel
theorem dL_law_29 : decode cL_law 29 = .ok (.iaload, 1) := by decide +kernel
theorem dL_law_30 : decode cL_law 30 = .ok (.bipush 63, 2) := by decide +kernel
theorem dL_law_32 : decode cL_law 32 = .ok (.iand, 1) := by decide +kernel
theorem dL_law_33 : decode cL_law 33 = .ok (.tableswitch 1187 0 42 #[187, 220, 253, 276, 299, 322, 355, 388, 451, 474, 487, 500, 513, 526, 539, 552, 575, 608, 631, 654, 677, 700, 723, 746, 759, 772, 785, 818, 841, 854, 877, 890, 923, 936, 949, 972, 1006, 1049, 1082, 1105, 1128, 1151, 1174], 187) := by decide +kernel
theorem dL_law_220 : decode cL_law 220 = .ok (.aload_n 1, 1) := by decide +kernel
theorem dL_law_221 : decode cL_law 221 = .ok (.aload_n 0, 1) := by decide +kernel
theorem dL_law_222 : decode cL_law 222 = .ok (.iload_n 3, 1) := by decide +kernel
theorem dL_law_223 : decode cL_law 223 = .ok (.iconst 1, 1) := by decide +kernel
theorem dL_law_224 : decode cL_law 224 = .ok (.iadd, 1) := by decide +kernel
theorem dL_law_225 : decode cL_law 225 = .ok (.iaload, 1) := by decide +kernel
theorem dL_law_226 : decode cL_law 226 = .ok (.aload_n 0, 1) := by decide +kernel
theorem dL_law_227 : decode cL_law 227 = .ok (.iload_n 3, 1) := by decide +kernel
theorem dL_law_228 : decode cL_law 228 = .ok (.iconst 2, 1) := by decide +kernel
theorem dL_law_229 : decode cL_law 229 = .ok (.iadd, 1) := by decide +kernel
theorem dL_law_230 : decode cL_law 230 = .ok (.iaload, 1) := by decide +kernel
theorem dL_law_231 : decode cL_law 231 = .ok (.invokevirtual 13, 3) := by decide +kernel
theorem dL_law_234 : decode cL_law 234 = .ok (.aload_n 2, 1) := by decide +kernel
theorem dL_law_235 : decode cL_law 235 = .ok (.aload_n 0, 1) := by decide +kernel
theorem dL_law_236 : decode cL_law 236 = .ok (.iload_n 3, 1) := by decide +kernel
theorem dL_law_237 : decode cL_law 237 = .ok (.iconst 1, 1) := by decide +kernel
theorem dL_law_238 : decode cL_law 238 = .ok (.iadd, 1) := by decide +kernel
theorem dL_law_239 : decode cL_law 239 = .ok (.iaload, 1) := by decide +kernel
theorem dL_law_240 : decode cL_law 240 = .ok (.aload_n 0, 1) := by decide +kernel
theorem dL_law_241 : decode cL_law 241 = .ok (.iload_n 3, 1) := by decide +kernel
theorem dL_law_242 : decode cL_law 242 = .ok (.iconst 2, 1) := by decide +kernel
theorem dL_law_243 : decode cL_law 243 = .ok (.iadd, 1) := by decide +kernel
theorem dL_law_244 : decode cL_law 244 = .ok (.iaload, 1) := by decide +kernel
theorem dL_law_245 : decode cL_law 245 = .ok (.invokevirtual 17, 3) := by decide +kernel
theorem dL_law_248 : decode cL_law 248 = .ok (.if_icmp .eq 972, 3) := by decide +kernel
theorem dL_law_251 : decode cL_law 251 = .ok (.iconst 0, 1) := by decide +kernel
theorem dL_law_252 : decode cL_law 252 = .ok (.ireturn, 1) := by decide +kernel
theorem dL_law_253 : decode cL_law 253 = .ok (.aload_n 1, 1) := by decide +kernel
theorem dL_law_254 : decode cL_law 254 = .ok (.aload_n 0, 1) := by decide +kernel
theorem dL_law_255 : decode cL_law 255 = .ok (.iload_n 3, 1) := by decide +kernel
theorem dL_law_256 : decode cL_law 256 = .ok (.iconst 1, 1) := by decide +kernel
theorem dL_law_257 : decode cL_law 257 = .ok (.iadd, 1) := by decide +kernel
theorem dL_law_258 : decode cL_law 258 = .ok (.iaload, 1) := by decide +kernel
theorem dL_law_259 : decode cL_law 259 = .ok (.aload_n 0, 1) := by decide +kernel
theorem dL_law_260 : decode cL_law 260 = .ok (.iload_n 3, 1) := by decide +kernel
theorem dL_law_261 : decode cL_law 261 = .ok (.iconst 2, 1) := by decide +kernel
theorem dL_law_262 : decode cL_law 262 = .ok (.iadd, 1) := by decide +kernel
theorem dL_law_263 : decode cL_law 263 = .ok (.iaload, 1) := by decide +kernel
theorem dL_law_264 : decode cL_law 264 = .ok (.invokevirtual 18, 3) := by decide +kernel
theorem dL_law_267 : decode cL_law 267 = .ok (.aload_n 2, 1) := by decide +kernel
theorem dL_law_268 : decode cL_law 268 = .ok (.aload_n 0, 1) := by decide +kernel
theorem dL_law_269 : decode cL_law 269 = .ok (.iload_n 3, 1) := by decide +kernel
theorem dL_law_270 : decode cL_law 270 = .ok (.iconst 1, 1) := by decide +kernel
theorem dL_law_271 : decode cL_law 271 = .ok (.iadd, 1) := by decide +kernel
theorem dL_law_272 : decode cL_law 272 = .ok (.iaload, 1) := by decide +kernel
theorem dL_law_273 : decode cL_law 273 = .ok (.aload_n 0, 1) := by decide +kernel
theorem dL_law_274 : decode cL_law 274 = .ok (.iload_n 3, 1) := by decide +kernel
theorem dL_law_275 : decode cL_law 275 = .ok (.iconst 2, 1) := by decide +kernel
theorem dL_law_276 : decode cL_law 276 = .ok (.iadd, 1) := by decide +kernel
theorem dL_law_277 : decode cL_law 277 = .ok (.iaload, 1) := by decide +kernel
theorem dL_law_278 : decode cL_law 278 = .ok (.invokevirtual 21, 3) := by decide +kernel
theorem dL_law_281 : decode cL_law 281 = .ok (.if_icmp .eq 939, 3) := by decide +kernel
theorem dL_law_284 : decode cL_law 284 = .ok (.iconst 0, 1) := by decide +kernel
theorem dL_law_285 : decode cL_law 285 = .ok (.ireturn, 1) := by decide +kernel
theorem dL_law_286 : decode cL_law 286 = .ok (.aload_n 1, 1) := by decide +kernel
theorem dL_law_287 : decode cL_law 287 = .ok (.aload_n 0, 1) := by decide +kernel
theorem dL_law_288 : decode cL_law 288 = .ok (.iload_n 3, 1) := by decide +kernel
theorem dL_law_289 : decode cL_law 289 = .ok (.iconst 1, 1) := by decide +kernel
theorem dL_law_290 : decode cL_law 290 = .ok (.iadd, 1) := by decide +kernel
theorem dL_law_291 : decode cL_law 291 = .ok (.iaload, 1) := by decide +kernel
theorem dL_law_292 : decode cL_law 292 = .ok (.invokevirtual 22, 3) := by decide +kernel
theorem dL_law_295 : decode cL_law 295 = .ok (.aload_n 2, 1) := by decide +kernel
theorem dL_law_296 : decode cL_law 296 = .ok (.aload_n 0, 1) := by decide +kernel
theorem dL_law_297 : decode cL_law 297 = .ok (.iload_n 3, 1) := by decide +kernel
theorem dL_law_298 : decode cL_law 298 = .ok (.iconst 1, 1) := by decide +kernel
theorem dL_law_299 : decode cL_law 299 = .ok (.iadd, 1) := by decide +kernel
theorem dL_law_300 : decode cL_law 300 = .ok (.iaload, 1) := by decide +kernel
theorem dL_law_301 : decode cL_law 301 = .ok (.invokevirtual 26, 3) := by decide +kernel
theorem dL_law_304 : decode cL_law 304 = .ok (.if_icmp .eq 916, 3) := by decide +kernel
theorem dL_law_307 : decode cL_law 307 = .ok (.iconst 0, 1) := by decide +kernel
theorem dL_law_308 : decode cL_law 308 = .ok (.ireturn, 1) := by decide +kernel
theorem dL_law_309 : decode cL_law 309 = .ok (.aload_n 1, 1) := by decide +kernel
theorem dL_law_310 : decode cL_law 310 = .ok (.aload_n 0, 1) := by decide +kernel
theorem dL_law_311 : decode cL_law 311 = .ok (.iload_n 3, 1) := by decide +kernel
theorem dL_law_312 : decode cL_law 312 = .ok (.iconst 1, 1) := by decide +kernel
theorem dL_law_313 : decode cL_law 313 = .ok (.iadd, 1) := by decide +kernel
theorem dL_law_314 : decode cL_law 314 = .ok (.iaload, 1) := by decide +kernel
theorem dL_law_315 : decode cL_law 315 = .ok (.invokevirtual 27, 3) := by decide +kernel
theorem dL_law_318 : decode cL_law 318 = .ok (.aload_n 2, 1) := by decide +kernel
theorem dL_law_319 : decode cL_law 319 = .ok (.aload_n 0, 1) := by decide +kernel
theorem dL_law_320 : decode cL_law 320 = .ok (.iload_n 3, 1) := by decide +kernel
theorem dL_law_321 : decode cL_law 321 = .ok (.iconst 1, 1) := by decide +kernel
theorem dL_law_322 : decode cL_law 322 = .ok (.iadd, 1) := by decide +kernel
theorem dL_law_323 : decode cL_law 323 = .ok (.iaload, 1) := by decide +kernel
theorem dL_law_324 : decode cL_law 324 = .ok (.invokevirtual 30, 3) := by decide +kernel
theorem dL_law_327 : decode cL_law 327 = .ok (.if_icmp .eq 893, 3) := by decide +kernel
theorem dL_law_330 : decode cL_law 330 = .ok (.iconst 0, 1) := by decide +kernel
theorem dL_law_331 : decode cL_law 331 = .ok (.ireturn, 1) := by decide +kernel
theorem dL_law_332 : decode cL_law 332 = .ok (.aload_n 1, 1) := by decide +kernel
theorem dL_law_333 : decode cL_law 333 = .ok (.aload_n 0, 1) := by decide +kernel
theorem dL_law_334 : decode cL_law 334 = .ok (.iload_n 3, 1) := by decide +kernel
theorem dL_law_335 : decode cL_law 335 = .ok (.iconst 1, 1) := by decide +kernel
theorem dL_law_336 : decode cL_law 336 = .ok (.iadd, 1) := by decide +kernel
theorem dL_law_337 : decode cL_law 337 = .ok (.iaload, 1) := by decide +kernel
theorem dL_law_338 : decode cL_law 338 = .ok (.invokevirtual 31, 3) := by decide +kernel
theorem dL_law_341 : decode cL_law 341 = .ok (.aload_n 2, 1) := by decide +kernel
theorem dL_law_342 : decode cL_law 342 = .ok (.aload_n 0, 1) := by decide +kernel
theorem dL_law_343 : decode cL_law 343 = .ok (.iload_n 3, 1) := by decide +kernel
theorem dL_law_344 : decode cL_law 344 = .ok (.iconst 1, 1) := by decide +kernel
theorem dL_law_345 : decode cL_law 345 = .ok (.iadd, 1) := by decide +kernel
theorem dL_law_346 : decode cL_law 346 = .ok (.iaload, 1) := by decide +kernel
theorem dL_law_347 : decode cL_law 347 = .ok (.invokevirtual 34, 3) := by decide +kernel
theorem dL_law_350 : decode cL_law 350 = .ok (.if_icmp .eq 870, 3) := by decide +kernel
theorem dL_law_353 : decode cL_law 353 = .ok (.iconst 0, 1) := by decide +kernel
theorem dL_law_354 : decode cL_law 354 = .ok (.ireturn, 1) := by decide +kernel
theorem dL_law_355 : decode cL_law 355 = .ok (.aload_n 1, 1) := by decide +kernel
theorem dL_law_356 : decode cL_law 356 = .ok (.aload_n 0, 1) := by decide +kernel
theorem dL_law_357 : decode cL_law 357 = .ok (.iload_n 3, 1) := by decide +kernel
theorem dL_law_358 : decode cL_law 358 = .ok (.iconst 1, 1) := by decide +kernel
theorem dL_law_359 : decode cL_law 359 = .ok (.iadd, 1) := by decide +kernel
theorem dL_law_360 : decode cL_law 360 = .ok (.iaload, 1) := by decide +kernel
theorem dL_law_361 : decode cL_law 361 = .ok (.aload_n 0, 1) := by decide +kernel
theorem dL_law_362 : decode cL_law 362 = .ok (.iload_n 3, 1) := by decide +kernel
theorem dL_law_363 : decode cL_law 363 = .ok (.iconst 2, 1) := by decide +kernel
theorem dL_law_364 : decode cL_law 364 = .ok (.iadd, 1) := by decide +kernel
theorem dL_law_365 : decode cL_law 365 = .ok (.iaload, 1) := by decide +kernel
theorem dL_law_366 : decode cL_law 366 = .ok (.invokevirtual 35, 3) := by decide +kernel
theorem dL_law_369 : decode cL_law 369 = .ok (.aload_n 2, 1) := by decide +kernel
theorem dL_law_370 : decode cL_law 370 = .ok (.aload_n 0, 1) := by decide +kernel
theorem dL_law_371 : decode cL_law 371 = .ok (.iload_n 3, 1) := by decide +kernel
theorem dL_law_372 : decode cL_law 372 = .ok (.iconst 1, 1) := by decide +kernel
theorem dL_law_373 : decode cL_law 373 = .ok (.iadd, 1) := by decide +kernel
theorem dL_law_374 : decode cL_law 374 = .ok (.iaload, 1) := by decide +kernel
theorem dL_law_375 : decode cL_law 375 = .ok (.aload_n 0, 1) := by decide +kernel
theorem dL_law_376 : decode cL_law 376 = .ok (.iload_n 3, 1) := by decide +kernel
theorem dL_law_377 : decode cL_law 377 = .ok (.iconst 2, 1) := by decide +kernel
theorem dL_law_378 : decode cL_law 378 = .ok (.iadd, 1) := by decide +kernel
theorem dL_law_379 : decode cL_law 379 = .ok (.iaload, 1) := by decide +kernel
theorem dL_law_380 : decode cL_law 380 = .ok (.invokevirtual 38, 3) := by decide +kernel
theorem dL_law_383 : decode cL_law 383 = .ok (.if_icmp .eq 837, 3) := by decide +kernel
theorem dL_law_386 : decode cL_law 386 = .ok (.iconst 0, 1) := by decide +kernel
theorem dL_law_387 : decode cL_law 387 = .ok (.ireturn, 1) := by decide +kernel
theorem dL_law_388 : decode cL_law 388 = .ok (.aload_n 1, 1) := by decide +kernel
theorem dL_law_389 : decode cL_law 389 = .ok (.aload_n 0, 1) := by decide +kernel
theorem dL_law_390 : decode cL_law 390 = .ok (.iload_n 3, 1) := by decide +kernel
theorem dL_law_391 : decode cL_law 391 = .ok (.iconst 1, 1) := by decide +kernel
theorem dL_law_392 : decode cL_law 392 = .ok (.iadd, 1) := by decide +kernel
theorem dL_law_393 : decode cL_law 393 = .ok (.iaload, 1) := by decide +kernel
theorem dL_law_394 : decode cL_law 394 = .ok (.aload_n 0, 1) := by decide +kernel
theorem dL_law_395 : decode cL_law 395 = .ok (.iload_n 3, 1) := by decide +kernel
theorem dL_law_396 : decode cL_law 396 = .ok (.iconst 2, 1) := by decide +kernel
theorem dL_law_397 : decode cL_law 397 = .ok (.iadd, 1) := by decide +kernel
theorem dL_law_398 : decode cL_law 398 = .ok (.iaload, 1) := by decide +kernel
theorem dL_law_399 : decode cL_law 399 = .ok (.invokevirtual 39, 3) := by decide +kernel
theorem dL_law_402 : decode cL_law 402 = .ok (.aload_n 2, 1) := by decide +kernel
theorem dL_law_403 : decode cL_law 403 = .ok (.aload_n 0, 1) := by decide +kernel
theorem dL_law_404 : decode cL_law 404 = .ok (.iload_n 3, 1) := by decide +kernel
theorem dL_law_405 : decode cL_law 405 = .ok (.iconst 1, 1) := by decide +kernel
theorem dL_law_406 : decode cL_law 406 = .ok (.iadd, 1) := by decide +kernel
theorem dL_law_407 : decode cL_law 407 = .ok (.iaload, 1) := by decide +kernel
theorem dL_law_408 : decode cL_law 408 = .ok (.aload_n 0, 1) := by decide +kernel
theorem dL_law_409 : decode cL_law 409 = .ok (.iload_n 3, 1) := by decide +kernel
theorem dL_law_410 : decode cL_law 410 = .ok (.iconst 2, 1) := by decide +kernel
theorem dL_law_411 : decode cL_law 411 = .ok (.iadd, 1) := by decide +kernel
theorem dL_law_412 : decode cL_law 412 = .ok (.iaload, 1) := by decide +kernel
theorem dL_law_413 : decode cL_law 413 = .ok (.invokevirtual 42, 3) := by decide +kernel
theorem dL_law_416 : decode cL_law 416 = .ok (.if_icmp .eq 804, 3) := by decide +kernel
theorem dL_law_419 : decode cL_law 419 = .ok (.iconst 0, 1) := by decide +kernel
theorem dL_law_420 : decode cL_law 420 = .ok (.ireturn, 1) := by decide +kernel
theorem dL_law_421 : decode cL_law 421 = .ok (.aload_n 1, 1) := by decide +kernel
theorem dL_law_422 : decode cL_law 422 = .ok (.aload_n 0, 1) := by decide +kernel
theorem dL_law_423 : decode cL_law 423 = .ok (.iload_n 3, 1) := by decide +kernel
theorem dL_law_424 : decode cL_law 424 = .ok (.iconst 1, 1) := by decide +kernel
theorem dL_law_425 : decode cL_law 425 = .ok (.iadd, 1) := by decide +kernel
theorem dL_law_426 : decode cL_law 426 = .ok (.iaload, 1) := by decide +kernel
theorem dL_law_427 : decode cL_law 427 = .ok (.aload_n 0, 1) := by decide +kernel
theorem dL_law_428 : decode cL_law 428 = .ok (.iload_n 3, 1) := by decide +kernel
theorem dL_law_429 : decode cL_law 429 = .ok (.iconst 2, 1) := by decide +kernel
theorem dL_law_430 : decode cL_law 430 = .ok (.iadd, 1) := by decide +kernel
theorem dL_law_431 : decode cL_law 431 = .ok (.iaload, 1) := by decide +kernel
theorem dL_law_432 : decode cL_law 432 = .ok (.aload_n 0, 1) := by decide +kernel
theorem dL_law_433 : decode cL_law 433 = .ok (.iload_n 3, 1) := by decide +kernel
theorem dL_law_434 : decode cL_law 434 = .ok (.iconst 3, 1) := by decide +kernel
theorem dL_law_435 : decode cL_law 435 = .ok (.iadd, 1) := by decide +kernel
theorem dL_law_436 : decode cL_law 436 = .ok (.iaload, 1) := by decide +kernel
theorem dL_law_437 : decode cL_law 437 = .ok (.aload_n 0, 1) := by decide +kernel
theorem dL_law_438 : decode cL_law 438 = .ok (.iload_n 3, 1) := by decide +kernel
theorem dL_law_439 : decode cL_law 439 = .ok (.iconst 4, 1) := by decide +kernel
theorem dL_law_440 : decode cL_law 440 = .ok (.iadd, 1) := by decide +kernel
theorem dL_law_441 : decode cL_law 441 = .ok (.iaload, 1) := by decide +kernel
theorem dL_law_442 : decode cL_law 442 = .ok (.aload_n 0, 1) := by decide +kernel
theorem dL_law_443 : decode cL_law 443 = .ok (.iload_n 3, 1) := by decide +kernel
theorem dL_law_444 : decode cL_law 444 = .ok (.iconst 5, 1) := by decide +kernel
theorem dL_law_445 : decode cL_law 445 = .ok (.iadd, 1) := by decide +kernel
theorem dL_law_446 : decode cL_law 446 = .ok (.iaload, 1) := by decide +kernel
theorem dL_law_447 : decode cL_law 447 = .ok (.invokevirtual 43, 3) := by decide +kernel
theorem dL_law_450 : decode cL_law 450 = .ok (.aload_n 2, 1) := by decide +kernel
theorem dL_law_451 : decode cL_law 451 = .ok (.aload_n 0, 1) := by decide +kernel
theorem dL_law_452 : decode cL_law 452 = .ok (.iload_n 3, 1) := by decide +kernel
theorem dL_law_453 : decode cL_law 453 = .ok (.iconst 1, 1) := by decide +kernel
theorem dL_law_454 : decode cL_law 454 = .ok (.iadd, 1) := by decide +kernel
theorem dL_law_455 : decode cL_law 455 = .ok (.iaload, 1) := by decide +kernel
theorem dL_law_456 : decode cL_law 456 = .ok (.aload_n 0, 1) := by decide +kernel
theorem dL_law_457 : decode cL_law 457 = .ok (.iload_n 3, 1) := by decide +kernel
theorem dL_law_458 : decode cL_law 458 = .ok (.iconst 2, 1) := by decide +kernel
theorem dL_law_459 : decode cL_law 459 = .ok (.iadd, 1) := by decide +kernel
theorem dL_law_460 : decode cL_law 460 = .ok (.iaload, 1) := by decide +kernel
theorem dL_law_461 : decode cL_law 461 = .ok (.aload_n 0, 1) := by decide +kernel
theorem dL_law_462 : decode cL_law 462 = .ok (.iload_n 3, 1) := by decide +kernel
theorem dL_law_463 : decode cL_law 463 = .ok (.iconst 3, 1) := by decide +kernel
theorem dL_law_464 : decode cL_law 464 = .ok (.iadd, 1) := by decide +kernel
theorem dL_law_465 : decode cL_law 465 = .ok (.iaload, 1) := by decide +kernel
theorem dL_law_466 : decode cL_law 466 = .ok (.aload_n 0, 1) := by decide +kernel
theorem dL_law_467 : decode cL_law 467 = .ok (.iload_n 3, 1) := by decide +kernel
theorem dL_law_468 : decode cL_law 468 = .ok (.iconst 4, 1) := by decide +kernel
theorem dL_law_469 : decode cL_law 469 = .ok (.iadd, 1) := by decide +kernel
theorem dL_law_470 : decode cL_law 470 = .ok (.iaload, 1) := by decide +kernel
theorem dL_law_471 : decode cL_law 471 = .ok (.aload_n 0, 1) := by decide +kernel
theorem dL_law_472 : decode cL_law 472 = .ok (.iload_n 3, 1) := by decide +kernel
theorem dL_law_473 : decode cL_law 473 = .ok (.iconst 5, 1) := by decide +kernel
theorem dL_law_474 : decode cL_law 474 = .ok (.iadd, 1) := by decide +kernel
theorem dL_law_475 : decode cL_law 475 = .ok (.iaload, 1) := by decide +kernel
theorem dL_law_476 : decode cL_law 476 = .ok (.invokevirtual 47, 3) := by decide +kernel
theorem dL_law_479 : decode cL_law 479 = .ok (.if_icmp .eq 741, 3) := by decide +kernel
theorem dL_law_482 : decode cL_law 482 = .ok (.iconst 0, 1) := by decide +kernel
theorem dL_law_483 : decode cL_law 483 = .ok (.ireturn, 1) := by decide +kernel
theorem dL_law_484 : decode cL_law 484 = .ok (.aload_n 1, 1) := by decide +kernel
theorem dL_law_485 : decode cL_law 485 = .ok (.aload_n 0, 1) := by decide +kernel
theorem dL_law_486 : decode cL_law 486 = .ok (.iload_n 3, 1) := by decide +kernel
theorem dL_law_487 : decode cL_law 487 = .ok (.iconst 1, 1) := by decide +kernel
theorem dL_law_488 : decode cL_law 488 = .ok (.iadd, 1) := by decide +kernel
theorem dL_law_489 : decode cL_law 489 = .ok (.iaload, 1) := by decide +kernel
theorem dL_law_490 : decode cL_law 490 = .ok (.invokevirtual 48, 3) := by decide +kernel
theorem dL_law_493 : decode cL_law 493 = .ok (.aload_n 2, 1) := by decide +kernel
theorem dL_law_494 : decode cL_law 494 = .ok (.aload_n 0, 1) := by decide +kernel
theorem dL_law_495 : decode cL_law 495 = .ok (.iload_n 3, 1) := by decide +kernel
theorem dL_law_496 : decode cL_law 496 = .ok (.iconst 1, 1) := by decide +kernel
theorem dL_law_497 : decode cL_law 497 = .ok (.iadd, 1) := by decide +kernel
theorem dL_law_498 : decode cL_law 498 = .ok (.iaload, 1) := by decide +kernel
theorem dL_law_499 : decode cL_law 499 = .ok (.invokevirtual 51, 3) := by decide +kernel
theorem dL_law_502 : decode cL_law 502 = .ok (.if_icmp .eq 718, 3) := by decide +kernel
theorem dL_law_505 : decode cL_law 505 = .ok (.iconst 0, 1) := by decide +kernel
theorem dL_law_506 : decode cL_law 506 = .ok (.ireturn, 1) := by decide +kernel
theorem dL_law_507 : decode cL_law 507 = .ok (.aload_n 1, 1) := by decide +kernel
theorem dL_law_508 : decode cL_law 508 = .ok (.invokevirtual 52, 3) := by decide +kernel
theorem dL_law_511 : decode cL_law 511 = .ok (.aload_n 2, 1) := by decide +kernel
theorem dL_law_512 : decode cL_law 512 = .ok (.invokevirtual 56, 3) := by decide +kernel
theorem dL_law_515 : decode cL_law 515 = .ok (.if_icmp .eq 705, 3) := by decide +kernel
theorem dL_law_518 : decode cL_law 518 = .ok (.iconst 0, 1) := by decide +kernel
theorem dL_law_519 : decode cL_law 519 = .ok (.ireturn, 1) := by decide +kernel
theorem dL_law_520 : decode cL_law 520 = .ok (.aload_n 1, 1) := by decide +kernel
theorem dL_law_521 : decode cL_law 521 = .ok (.invokevirtual 57, 3) := by decide +kernel
theorem dL_law_524 : decode cL_law 524 = .ok (.aload_n 2, 1) := by decide +kernel
theorem dL_law_525 : decode cL_law 525 = .ok (.invokevirtual 60, 3) := by decide +kernel
theorem dL_law_528 : decode cL_law 528 = .ok (.if_icmp .eq 692, 3) := by decide +kernel
theorem dL_law_531 : decode cL_law 531 = .ok (.iconst 0, 1) := by decide +kernel
theorem dL_law_532 : decode cL_law 532 = .ok (.ireturn, 1) := by decide +kernel
theorem dL_law_533 : decode cL_law 533 = .ok (.aload_n 1, 1) := by decide +kernel
theorem dL_law_534 : decode cL_law 534 = .ok (.invokevirtual 61, 3) := by decide +kernel
theorem dL_law_537 : decode cL_law 537 = .ok (.aload_n 2, 1) := by decide +kernel
theorem dL_law_538 : decode cL_law 538 = .ok (.invokevirtual 64, 3) := by decide +kernel
theorem dL_law_541 : decode cL_law 541 = .ok (.if_icmp .eq 679, 3) := by decide +kernel
theorem dL_law_544 : decode cL_law 544 = .ok (.iconst 0, 1) := by decide +kernel
theorem dL_law_545 : decode cL_law 545 = .ok (.ireturn, 1) := by decide +kernel
theorem dL_law_546 : decode cL_law 546 = .ok (.aload_n 1, 1) := by decide +kernel
theorem dL_law_547 : decode cL_law 547 = .ok (.invokevirtual 65, 3) := by decide +kernel
theorem dL_law_550 : decode cL_law 550 = .ok (.aload_n 2, 1) := by decide +kernel
theorem dL_law_551 : decode cL_law 551 = .ok (.invokevirtual 68, 3) := by decide +kernel
theorem dL_law_554 : decode cL_law 554 = .ok (.if_icmp .eq 666, 3) := by decide +kernel
theorem dL_law_557 : decode cL_law 557 = .ok (.iconst 0, 1) := by decide +kernel
theorem dL_law_558 : decode cL_law 558 = .ok (.ireturn, 1) := by decide +kernel
theorem dL_law_559 : decode cL_law 559 = .ok (.aload_n 1, 1) := by decide +kernel
theorem dL_law_560 : decode cL_law 560 = .ok (.invokevirtual 69, 3) := by decide +kernel
theorem dL_law_563 : decode cL_law 563 = .ok (.aload_n 2, 1) := by decide +kernel
theorem dL_law_564 : decode cL_law 564 = .ok (.invokevirtual 72, 3) := by decide +kernel
theorem dL_law_567 : decode cL_law 567 = .ok (.if_icmp .eq 653, 3) := by decide +kernel
theorem dL_law_570 : decode cL_law 570 = .ok (.iconst 0, 1) := by decide +kernel
theorem dL_law_571 : decode cL_law 571 = .ok (.ireturn, 1) := by decide +kernel
theorem dL_law_572 : decode cL_law 572 = .ok (.aload_n 1, 1) := by decide +kernel
theorem dL_law_573 : decode cL_law 573 = .ok (.invokevirtual 73, 3) := by decide +kernel
theorem dL_law_576 : decode cL_law 576 = .ok (.aload_n 2, 1) := by decide +kernel
theorem dL_law_577 : decode cL_law 577 = .ok (.invokevirtual 76, 3) := by decide +kernel
theorem dL_law_580 : decode cL_law 580 = .ok (.if_icmp .eq 640, 3) := by decide +kernel
theorem dL_law_583 : decode cL_law 583 = .ok (.iconst 0, 1) := by decide +kernel
theorem dL_law_584 : decode cL_law 584 = .ok (.ireturn, 1) := by decide +kernel
theorem dL_law_585 : decode cL_law 585 = .ok (.aload_n 1, 1) := by decide +kernel
theorem dL_law_586 : decode cL_law 586 = .ok (.aload_n 0, 1) := by decide +kernel
theorem dL_law_587 : decode cL_law 587 = .ok (.iload_n 3, 1) := by decide +kernel
theorem dL_law_588 : decode cL_law 588 = .ok (.iconst 1, 1) := by decide +kernel
theorem dL_law_589 : decode cL_law 589 = .ok (.iadd, 1) := by decide +kernel
theorem dL_law_590 : decode cL_law 590 = .ok (.iaload, 1) := by decide +kernel
theorem dL_law_591 : decode cL_law 591 = .ok (.invokevirtual 77, 3) := by decide +kernel
theorem dL_law_594 : decode cL_law 594 = .ok (.aload_n 2, 1) := by decide +kernel
theorem dL_law_595 : decode cL_law 595 = .ok (.aload_n 0, 1) := by decide +kernel
theorem dL_law_596 : decode cL_law 596 = .ok (.iload_n 3, 1) := by decide +kernel
theorem dL_law_597 : decode cL_law 597 = .ok (.iconst 1, 1) := by decide +kernel
theorem dL_law_598 : decode cL_law 598 = .ok (.iadd, 1) := by decide +kernel
theorem dL_law_599 : decode cL_law 599 = .ok (.iaload, 1) := by decide +kernel
theorem dL_law_600 : decode cL_law 600 = .ok (.invokevirtual 80, 3) := by decide +kernel
theorem dL_law_603 : decode cL_law 603 = .ok (.if_icmp .eq 617, 3) := by decide +kernel
theorem dL_law_606 : decode cL_law 606 = .ok (.iconst 0, 1) := by decide +kernel
theorem dL_law_607 : decode cL_law 607 = .ok (.ireturn, 1) := by decide +kernel
theorem dL_law_608 : decode cL_law 608 = .ok (.aload_n 1, 1) := by decide +kernel
theorem dL_law_609 : decode cL_law 609 = .ok (.aload_n 0, 1) := by decide +kernel
theorem dL_law_610 : decode cL_law 610 = .ok (.iload_n 3, 1) := by decide +kernel
theorem dL_law_611 : decode cL_law 611 = .ok (.iconst 1, 1) := by decide +kernel
theorem dL_law_612 : decode cL_law 612 = .ok (.iadd, 1) := by decide +kernel
theorem dL_law_613 : decode cL_law 613 = .ok (.iaload, 1) := by decide +kernel
theorem dL_law_614 : decode cL_law 614 = .ok (.aload_n 0, 1) := by decide +kernel
theorem dL_law_615 : decode cL_law 615 = .ok (.iload_n 3, 1) := by decide +kernel
theorem dL_law_616 : decode cL_law 616 = .ok (.iconst 2, 1) := by decide +kernel
theorem dL_law_617 : decode cL_law 617 = .ok (.iadd, 1) := by decide +kernel
theorem dL_law_618 : decode cL_law 618 = .ok (.iaload, 1) := by decide +kernel
theorem dL_law_619 : decode cL_law 619 = .ok (.invokevirtual 81, 3) := by decide +kernel
theorem dL_law_622 : decode cL_law 622 = .ok (.aload_n 2, 1) := by decide +kernel
theorem dL_law_623 : decode cL_law 623 = .ok (.aload_n 0, 1) := by decide +kernel
theorem dL_law_624 : decode cL_law 624 = .ok (.iload_n 3, 1) := by decide +kernel
theorem dL_law_625 : decode cL_law 625 = .ok (.iconst 1, 1) := by decide +kernel
theorem dL_law_626 : decode cL_law 626 = .ok (.iadd, 1) := by decide +kernel
theorem dL_law_627 : decode cL_law 627 = .ok (.iaload, 1) := by decide +kernel
theorem dL_law_628 : decode cL_law 628 = .ok (.aload_n 0, 1) := by decide +kernel
theorem dL_law_629 : decode cL_law 629 = .ok (.iload_n 3, 1) := by decide +kernel
theorem dL_law_630 : decode cL_law 630 = .ok (.iconst 2, 1) := by decide +kernel
theorem dL_law_631 : decode cL_law 631 = .ok (.iadd, 1) := by decide +kernel
theorem dL_law_632 : decode cL_law 632 = .ok (.iaload, 1) := by decide +kernel
theorem dL_law_633 : decode cL_law 633 = .ok (.invokevirtual 84, 3) := by decide +kernel
theorem dL_law_636 : decode cL_law 636 = .ok (.if_icmp .eq 584, 3) := by decide +kernel
theorem dL_law_639 : decode cL_law 639 = .ok (.iconst 0, 1) := by decide +kernel
theorem dL_law_640 : decode cL_law 640 = .ok (.ireturn, 1) := by decide +kernel
theorem dL_law_641 : decode cL_law 641 = .ok (.aload_n 1, 1) := by decide +kernel
theorem dL_law_642 : decode cL_law 642 = .ok (.aload_n 0, 1) := by decide +kernel
theorem dL_law_643 : decode cL_law 643 = .ok (.iload_n 3, 1) := by decide +kernel
theorem dL_law_644 : decode cL_law 644 = .ok (.iconst 1, 1) := by decide +kernel
theorem dL_law_645 : decode cL_law 645 = .ok (.iadd, 1) := by decide +kernel
theorem dL_law_646 : decode cL_law 646 = .ok (.iaload, 1) := by decide +kernel
theorem dL_law_647 : decode cL_law 647 = .ok (.invokevirtual 85, 3) := by decide +kernel
theorem dL_law_650 : decode cL_law 650 = .ok (.aload_n 2, 1) := by decide +kernel
theorem dL_law_651 : decode cL_law 651 = .ok (.aload_n 0, 1) := by decide +kernel
theorem dL_law_652 : decode cL_law 652 = .ok (.iload_n 3, 1) := by decide +kernel
theorem dL_law_653 : decode cL_law 653 = .ok (.iconst 1, 1) := by decide +kernel
theorem dL_law_654 : decode cL_law 654 = .ok (.iadd, 1) := by decide +kernel
theorem dL_law_655 : decode cL_law 655 = .ok (.iaload, 1) := by decide +kernel
theorem dL_law_656 : decode cL_law 656 = .ok (.invokevirtual 88, 3) := by decide +kernel
theorem dL_law_659 : decode cL_law 659 = .ok (.if_icmp .eq 561, 3) := by decide +kernel
theorem dL_law_662 : decode cL_law 662 = .ok (.iconst 0, 1) := by decide +kernel
theorem dL_law_663 : decode cL_law 663 = .ok (.ireturn, 1) := by decide +kernel
theorem dL_law_664 : decode cL_law 664 = .ok (.aload_n 1, 1) := by decide +kernel
theorem dL_law_665 : decode cL_law 665 = .ok (.aload_n 0, 1) := by decide +kernel
theorem dL_law_666 : decode cL_law 666 = .ok (.iload_n 3, 1) := by decide +kernel
theorem dL_law_667 : decode cL_law 667 = .ok (.iconst 1, 1) := by decide +kernel
theorem dL_law_668 : decode cL_law 668 = .ok (.iadd, 1) := by decide +kernel
theorem dL_law_669 : decode cL_law 669 = .ok (.iaload, 1) := by decide +kernel
theorem dL_law_670 : decode cL_law 670 = .ok (.invokevirtual 89, 3) := by decide +kernel
theorem dL_law_673 : decode cL_law 673 = .ok (.aload_n 2, 1) := by decide +kernel
theorem dL_law_674 : decode cL_law 674 = .ok (.aload_n 0, 1) := by decide +kernel
theorem dL_law_675 : decode cL_law 675 = .ok (.iload_n 3, 1) := by decide +kernel
theorem dL_law_676 : decode cL_law 676 = .ok (.iconst 1, 1) := by decide +kernel
theorem dL_law_677 : decode cL_law 677 = .ok (.iadd, 1) := by decide +kernel
theorem dL_law_678 : decode cL_law 678 = .ok (.iaload, 1) := by decide +kernel
theorem dL_law_679 : decode cL_law 679 = .ok (.invokevirtual 92, 3) := by decide +kernel
theorem dL_law_682 : decode cL_law 682 = .ok (.if_icmp .eq 538, 3) := by decide +kernel
theorem dL_law_685 : decode cL_law 685 = .ok (.iconst 0, 1) := by decide +kernel
theorem dL_law_686 : decode cL_law 686 = .ok (.ireturn, 1) := by decide +kernel
theorem dL_law_687 : decode cL_law 687 = .ok (.aload_n 1, 1) := by decide +kernel
theorem dL_law_688 : decode cL_law 688 = .ok (.aload_n 0, 1) := by decide +kernel
theorem dL_law_689 : decode cL_law 689 = .ok (.iload_n 3, 1) := by decide +kernel
theorem dL_law_690 : decode cL_law 690 = .ok (.iconst 1, 1) := by decide +kernel
theorem dL_law_691 : decode cL_law 691 = .ok (.iadd, 1) := by decide +kernel
theorem dL_law_692 : decode cL_law 692 = .ok (.iaload, 1) := by decide +kernel
theorem dL_law_693 : decode cL_law 693 = .ok (.invokevirtual 93, 3) := by decide +kernel
theorem dL_law_696 : decode cL_law 696 = .ok (.aload_n 2, 1) := by decide +kernel
theorem dL_law_697 : decode cL_law 697 = .ok (.aload_n 0, 1) := by decide +kernel
theorem dL_law_698 : decode cL_law 698 = .ok (.iload_n 3, 1) := by decide +kernel
theorem dL_law_699 : decode cL_law 699 = .ok (.iconst 1, 1) := by decide +kernel
theorem dL_law_700 : decode cL_law 700 = .ok (.iadd, 1) := by decide +kernel
theorem dL_law_701 : decode cL_law 701 = .ok (.iaload, 1) := by decide +kernel
theorem dL_law_702 : decode cL_law 702 = .ok (.invokevirtual 96, 3) := by decide +kernel
theorem dL_law_705 : decode cL_law 705 = .ok (.if_icmp .eq 515, 3) := by decide +kernel
theorem dL_law_708 : decode cL_law 708 = .ok (.iconst 0, 1) := by decide +kernel
theorem dL_law_709 : decode cL_law 709 = .ok (.ireturn, 1) := by decide +kernel
theorem dL_law_710 : decode cL_law 710 = .ok (.aload_n 1, 1) := by decide +kernel
theorem dL_law_711 : decode cL_law 711 = .ok (.aload_n 0, 1) := by decide +kernel
theorem dL_law_712 : decode cL_law 712 = .ok (.iload_n 3, 1) := by decide +kernel
theorem dL_law_713 : decode cL_law 713 = .ok (.iconst 1, 1) := by decide +kernel
theorem dL_law_714 : decode cL_law 714 = .ok (.iadd, 1) := by decide +kernel
theorem dL_law_715 : decode cL_law 715 = .ok (.iaload, 1) := by decide +kernel
theorem dL_law_716 : decode cL_law 716 = .ok (.invokevirtual 97, 3) := by decide +kernel
theorem dL_law_719 : decode cL_law 719 = .ok (.aload_n 2, 1) := by decide +kernel
theorem dL_law_720 : decode cL_law 720 = .ok (.aload_n 0, 1) := by decide +kernel
theorem dL_law_721 : decode cL_law 721 = .ok (.iload_n 3, 1) := by decide +kernel
theorem dL_law_722 : decode cL_law 722 = .ok (.iconst 1, 1) := by decide +kernel
theorem dL_law_723 : decode cL_law 723 = .ok (.iadd, 1) := by decide +kernel
theorem dL_law_724 : decode cL_law 724 = .ok (.iaload, 1) := by decide +kernel
theorem dL_law_725 : decode cL_law 725 = .ok (.invokevirtual 100, 3) := by decide +kernel
theorem dL_law_728 : decode cL_law 728 = .ok (.if_icmp .eq 492, 3) := by decide +kernel
theorem dL_law_731 : decode cL_law 731 = .ok (.iconst 0, 1) := by decide +kernel
theorem dL_law_732 : decode cL_law 732 = .ok (.ireturn, 1) := by decide +kernel
theorem dL_law_733 : decode cL_law 733 = .ok (.aload_n 1, 1) := by decide +kernel
theorem dL_law_734 : decode cL_law 734 = .ok (.aload_n 0, 1) := by decide +kernel
theorem dL_law_735 : decode cL_law 735 = .ok (.iload_n 3, 1) := by decide +kernel
theorem dL_law_736 : decode cL_law 736 = .ok (.iconst 1, 1) := by decide +kernel
theorem dL_law_737 : decode cL_law 737 = .ok (.iadd, 1) := by decide +kernel
theorem dL_law_738 : decode cL_law 738 = .ok (.iaload, 1) := by decide +kernel
theorem dL_law_739 : decode cL_law 739 = .ok (.invokevirtual 101, 3) := by decide +kernel
theorem dL_law_742 : decode cL_law 742 = .ok (.aload_n 2, 1) := by decide +kernel
theorem dL_law_743 : decode cL_law 743 = .ok (.aload_n 0, 1) := by decide +kernel
theorem dL_law_744 : decode cL_law 744 = .ok (.iload_n 3, 1) := by decide +kernel
theorem dL_law_745 : decode cL_law 745 = .ok (.iconst 1, 1) := by decide +kernel
theorem dL_law_746 : decode cL_law 746 = .ok (.iadd, 1) := by decide +kernel
theorem dL_law_747 : decode cL_law 747 = .ok (.iaload, 1) := by decide +kernel
theorem dL_law_748 : decode cL_law 748 = .ok (.invokevirtual 104, 3) := by decide +kernel
theorem dL_law_751 : decode cL_law 751 = .ok (.if_icmp .eq 469, 3) := by decide +kernel
theorem dL_law_754 : decode cL_law 754 = .ok (.iconst 0, 1) := by decide +kernel
theorem dL_law_755 : decode cL_law 755 = .ok (.ireturn, 1) := by decide +kernel
theorem dL_law_756 : decode cL_law 756 = .ok (.aload_n 1, 1) := by decide +kernel
theorem dL_law_757 : decode cL_law 757 = .ok (.aload_n 0, 1) := by decide +kernel
theorem dL_law_758 : decode cL_law 758 = .ok (.iload_n 3, 1) := by decide +kernel
theorem dL_law_759 : decode cL_law 759 = .ok (.iconst 1, 1) := by decide +kernel
theorem dL_law_760 : decode cL_law 760 = .ok (.iadd, 1) := by decide +kernel
theorem dL_law_761 : decode cL_law 761 = .ok (.iaload, 1) := by decide +kernel
theorem dL_law_762 : decode cL_law 762 = .ok (.invokevirtual 105, 3) := by decide +kernel
theorem dL_law_765 : decode cL_law 765 = .ok (.aload_n 2, 1) := by decide +kernel
theorem dL_law_766 : decode cL_law 766 = .ok (.aload_n 0, 1) := by decide +kernel
theorem dL_law_767 : decode cL_law 767 = .ok (.iload_n 3, 1) := by decide +kernel
theorem dL_law_768 : decode cL_law 768 = .ok (.iconst 1, 1) := by decide +kernel
theorem dL_law_769 : decode cL_law 769 = .ok (.iadd, 1) := by decide +kernel
theorem dL_law_770 : decode cL_law 770 = .ok (.iaload, 1) := by decide +kernel
theorem dL_law_771 : decode cL_law 771 = .ok (.invokevirtual 108, 3) := by decide +kernel
theorem dL_law_774 : decode cL_law 774 = .ok (.if_icmp .eq 446, 3) := by decide +kernel
theorem dL_law_777 : decode cL_law 777 = .ok (.iconst 0, 1) := by decide +kernel
theorem dL_law_778 : decode cL_law 778 = .ok (.ireturn, 1) := by decide +kernel
theorem dL_law_779 : decode cL_law 779 = .ok (.aload_n 1, 1) := by decide +kernel
theorem dL_law_780 : decode cL_law 780 = .ok (.invokevirtual 109, 3) := by decide +kernel
theorem dL_law_783 : decode cL_law 783 = .ok (.aload_n 2, 1) := by decide +kernel
theorem dL_law_784 : decode cL_law 784 = .ok (.invokevirtual 112, 3) := by decide +kernel
theorem dL_law_787 : decode cL_law 787 = .ok (.if_icmp .eq 433, 3) := by decide +kernel
theorem dL_law_790 : decode cL_law 790 = .ok (.iconst 0, 1) := by decide +kernel
theorem dL_law_791 : decode cL_law 791 = .ok (.ireturn, 1) := by decide +kernel
theorem dL_law_792 : decode cL_law 792 = .ok (.aload_n 1, 1) := by decide +kernel
theorem dL_law_793 : decode cL_law 793 = .ok (.invokevirtual 113, 3) := by decide +kernel
theorem dL_law_796 : decode cL_law 796 = .ok (.aload_n 2, 1) := by decide +kernel
theorem dL_law_797 : decode cL_law 797 = .ok (.invokevirtual 116, 3) := by decide +kernel
theorem dL_law_800 : decode cL_law 800 = .ok (.if_icmp .eq 420, 3) := by decide +kernel
theorem dL_law_803 : decode cL_law 803 = .ok (.iconst 0, 1) := by decide +kernel
theorem dL_law_804 : decode cL_law 804 = .ok (.ireturn, 1) := by decide +kernel
theorem dL_law_805 : decode cL_law 805 = .ok (.aload_n 1, 1) := by decide +kernel
theorem dL_law_806 : decode cL_law 806 = .ok (.invokevirtual 117, 3) := by decide +kernel
theorem dL_law_809 : decode cL_law 809 = .ok (.aload_n 2, 1) := by decide +kernel
theorem dL_law_810 : decode cL_law 810 = .ok (.invokevirtual 120, 3) := by decide +kernel
theorem dL_law_813 : decode cL_law 813 = .ok (.if_icmp .eq 407, 3) := by decide +kernel
theorem dL_law_816 : decode cL_law 816 = .ok (.iconst 0, 1) := by decide +kernel
theorem dL_law_817 : decode cL_law 817 = .ok (.ireturn, 1) := by decide +kernel
theorem dL_law_818 : decode cL_law 818 = .ok (.aload_n 1, 1) := by decide +kernel
theorem dL_law_819 : decode cL_law 819 = .ok (.aload_n 0, 1) := by decide +kernel
theorem dL_law_820 : decode cL_law 820 = .ok (.iload_n 3, 1) := by decide +kernel
theorem dL_law_821 : decode cL_law 821 = .ok (.iconst 1, 1) := by decide +kernel
theorem dL_law_822 : decode cL_law 822 = .ok (.iadd, 1) := by decide +kernel
theorem dL_law_823 : decode cL_law 823 = .ok (.iaload, 1) := by decide +kernel
theorem dL_law_824 : decode cL_law 824 = .ok (.aload_n 0, 1) := by decide +kernel
theorem dL_law_825 : decode cL_law 825 = .ok (.iload_n 3, 1) := by decide +kernel
theorem dL_law_826 : decode cL_law 826 = .ok (.iconst 2, 1) := by decide +kernel
theorem dL_law_827 : decode cL_law 827 = .ok (.iadd, 1) := by decide +kernel
theorem dL_law_828 : decode cL_law 828 = .ok (.iaload, 1) := by decide +kernel
theorem dL_law_829 : decode cL_law 829 = .ok (.invokevirtual 121, 3) := by decide +kernel
theorem dL_law_832 : decode cL_law 832 = .ok (.aload_n 2, 1) := by decide +kernel
theorem dL_law_833 : decode cL_law 833 = .ok (.aload_n 0, 1) := by decide +kernel
theorem dL_law_834 : decode cL_law 834 = .ok (.iload_n 3, 1) := by decide +kernel
theorem dL_law_835 : decode cL_law 835 = .ok (.iconst 1, 1) := by decide +kernel
theorem dL_law_836 : decode cL_law 836 = .ok (.iadd, 1) := by decide +kernel
theorem dL_law_837 : decode cL_law 837 = .ok (.iaload, 1) := by decide +kernel
theorem dL_law_838 : decode cL_law 838 = .ok (.aload_n 0, 1) := by decide +kernel
theorem dL_law_839 : decode cL_law 839 = .ok (.iload_n 3, 1) := by decide +kernel
theorem dL_law_840 : decode cL_law 840 = .ok (.iconst 2, 1) := by decide +kernel
theorem dL_law_841 : decode cL_law 841 = .ok (.iadd, 1) := by decide +kernel
theorem dL_law_842 : decode cL_law 842 = .ok (.iaload, 1) := by decide +kernel
theorem dL_law_843 : decode cL_law 843 = .ok (.invokevirtual 124, 3) := by decide +kernel
theorem dL_law_846 : decode cL_law 846 = .ok (.if_icmp .eq 374, 3) := by decide +kernel
theorem dL_law_849 : decode cL_law 849 = .ok (.iconst 0, 1) := by decide +kernel
theorem dL_law_850 : decode cL_law 850 = .ok (.ireturn, 1) := by decide +kernel
theorem dL_law_851 : decode cL_law 851 = .ok (.aload_n 1, 1) := by decide +kernel
theorem dL_law_852 : decode cL_law 852 = .ok (.aload_n 0, 1) := by decide +kernel
theorem dL_law_853 : decode cL_law 853 = .ok (.iload_n 3, 1) := by decide +kernel
theorem dL_law_854 : decode cL_law 854 = .ok (.iconst 1, 1) := by decide +kernel
theorem dL_law_855 : decode cL_law 855 = .ok (.iadd, 1) := by decide +kernel
theorem dL_law_856 : decode cL_law 856 = .ok (.iaload, 1) := by decide +kernel
theorem dL_law_857 : decode cL_law 857 = .ok (.invokevirtual 125, 3) := by decide +kernel
theorem dL_law_860 : decode cL_law 860 = .ok (.aload_n 2, 1) := by decide +kernel
theorem dL_law_861 : decode cL_law 861 = .ok (.aload_n 0, 1) := by decide +kernel
theorem dL_law_862 : decode cL_law 862 = .ok (.iload_n 3, 1) := by decide +kernel
theorem dL_law_863 : decode cL_law 863 = .ok (.iconst 1, 1) := by decide +kernel
theorem dL_law_864 : decode cL_law 864 = .ok (.iadd, 1) := by decide +kernel
theorem dL_law_865 : decode cL_law 865 = .ok (.iaload, 1) := by decide +kernel
theorem dL_law_866 : decode cL_law 866 = .ok (.invokevirtual 128, 3) := by decide +kernel
theorem dL_law_869 : decode cL_law 869 = .ok (.if_icmp .eq 351, 3) := by decide +kernel
theorem dL_law_872 : decode cL_law 872 = .ok (.iconst 0, 1) := by decide +kernel
theorem dL_law_873 : decode cL_law 873 = .ok (.ireturn, 1) := by decide +kernel
theorem dL_law_874 : decode cL_law 874 = .ok (.aload_n 1, 1) := by decide +kernel
theorem dL_law_875 : decode cL_law 875 = .ok (.invokevirtual 129, 3) := by decide +kernel
theorem dL_law_878 : decode cL_law 878 = .ok (.aload_n 2, 1) := by decide +kernel
theorem dL_law_879 : decode cL_law 879 = .ok (.invokevirtual 132, 3) := by decide +kernel
theorem dL_law_882 : decode cL_law 882 = .ok (.if_icmp .eq 338, 3) := by decide +kernel
theorem dL_law_885 : decode cL_law 885 = .ok (.iconst 0, 1) := by decide +kernel
theorem dL_law_886 : decode cL_law 886 = .ok (.ireturn, 1) := by decide +kernel
theorem dL_law_887 : decode cL_law 887 = .ok (.aload_n 1, 1) := by decide +kernel
theorem dL_law_888 : decode cL_law 888 = .ok (.aload_n 0, 1) := by decide +kernel
theorem dL_law_889 : decode cL_law 889 = .ok (.iload_n 3, 1) := by decide +kernel
theorem dL_law_890 : decode cL_law 890 = .ok (.iconst 1, 1) := by decide +kernel
theorem dL_law_891 : decode cL_law 891 = .ok (.iadd, 1) := by decide +kernel
theorem dL_law_892 : decode cL_law 892 = .ok (.iaload, 1) := by decide +kernel
theorem dL_law_893 : decode cL_law 893 = .ok (.invokevirtual 133, 3) := by decide +kernel
theorem dL_law_896 : decode cL_law 896 = .ok (.aload_n 2, 1) := by decide +kernel
theorem dL_law_897 : decode cL_law 897 = .ok (.aload_n 0, 1) := by decide +kernel
theorem dL_law_898 : decode cL_law 898 = .ok (.iload_n 3, 1) := by decide +kernel
theorem dL_law_899 : decode cL_law 899 = .ok (.iconst 1, 1) := by decide +kernel
theorem dL_law_900 : decode cL_law 900 = .ok (.iadd, 1) := by decide +kernel
theorem dL_law_901 : decode cL_law 901 = .ok (.iaload, 1) := by decide +kernel
theorem dL_law_902 : decode cL_law 902 = .ok (.invokevirtual 136, 3) := by decide +kernel
theorem dL_law_905 : decode cL_law 905 = .ok (.if_icmp .eq 315, 3) := by decide +kernel
theorem dL_law_908 : decode cL_law 908 = .ok (.iconst 0, 1) := by decide +kernel
theorem dL_law_909 : decode cL_law 909 = .ok (.ireturn, 1) := by decide +kernel
theorem dL_law_910 : decode cL_law 910 = .ok (.aload_n 1, 1) := by decide +kernel
theorem dL_law_911 : decode cL_law 911 = .ok (.invokevirtual 137, 3) := by decide +kernel
theorem dL_law_914 : decode cL_law 914 = .ok (.aload_n 2, 1) := by decide +kernel
theorem dL_law_915 : decode cL_law 915 = .ok (.invokevirtual 140, 3) := by decide +kernel
theorem dL_law_918 : decode cL_law 918 = .ok (.if_icmp .eq 302, 3) := by decide +kernel
theorem dL_law_921 : decode cL_law 921 = .ok (.iconst 0, 1) := by decide +kernel
theorem dL_law_922 : decode cL_law 922 = .ok (.ireturn, 1) := by decide +kernel
theorem dL_law_923 : decode cL_law 923 = .ok (.aload_n 1, 1) := by decide +kernel
theorem dL_law_924 : decode cL_law 924 = .ok (.aload_n 0, 1) := by decide +kernel
theorem dL_law_925 : decode cL_law 925 = .ok (.iload_n 3, 1) := by decide +kernel
theorem dL_law_926 : decode cL_law 926 = .ok (.iconst 1, 1) := by decide +kernel
theorem dL_law_927 : decode cL_law 927 = .ok (.iadd, 1) := by decide +kernel
theorem dL_law_928 : decode cL_law 928 = .ok (.iaload, 1) := by decide +kernel
theorem dL_law_929 : decode cL_law 929 = .ok (.aload_n 0, 1) := by decide +kernel
theorem dL_law_930 : decode cL_law 930 = .ok (.iload_n 3, 1) := by decide +kernel
theorem dL_law_931 : decode cL_law 931 = .ok (.iconst 2, 1) := by decide +kernel
theorem dL_law_932 : decode cL_law 932 = .ok (.iadd, 1) := by decide +kernel
theorem dL_law_933 : decode cL_law 933 = .ok (.iaload, 1) := by decide +kernel
theorem dL_law_934 : decode cL_law 934 = .ok (.invokevirtual 141, 3) := by decide +kernel
theorem dL_law_937 : decode cL_law 937 = .ok (.aload_n 2, 1) := by decide +kernel
theorem dL_law_938 : decode cL_law 938 = .ok (.aload_n 0, 1) := by decide +kernel
theorem dL_law_939 : decode cL_law 939 = .ok (.iload_n 3, 1) := by decide +kernel
theorem dL_law_940 : decode cL_law 940 = .ok (.iconst 1, 1) := by decide +kernel
theorem dL_law_941 : decode cL_law 941 = .ok (.iadd, 1) := by decide +kernel
theorem dL_law_942 : decode cL_law 942 = .ok (.iaload, 1) := by decide +kernel
theorem dL_law_943 : decode cL_law 943 = .ok (.aload_n 0, 1) := by decide +kernel
theorem dL_law_944 : decode cL_law 944 = .ok (.iload_n 3, 1) := by decide +kernel
theorem dL_law_945 : decode cL_law 945 = .ok (.iconst 2, 1) := by decide +kernel
theorem dL_law_946 : decode cL_law 946 = .ok (.iadd, 1) := by decide +kernel
theorem dL_law_947 : decode cL_law 947 = .ok (.iaload, 1) := by decide +kernel
theorem dL_law_948 : decode cL_law 948 = .ok (.invokevirtual 144, 3) := by decide +kernel
theorem dL_law_951 : decode cL_law 951 = .ok (.if_icmp .eq 269, 3) := by decide +kernel
theorem dL_law_954 : decode cL_law 954 = .ok (.iconst 0, 1) := by decide +kernel
theorem dL_law_955 : decode cL_law 955 = .ok (.ireturn, 1) := by decide +kernel
theorem dL_law_956 : decode cL_law 956 = .ok (.aload_n 1, 1) := by decide +kernel
theorem dL_law_957 : decode cL_law 957 = .ok (.invokevirtual 145, 3) := by decide +kernel
theorem dL_law_960 : decode cL_law 960 = .ok (.aload_n 2, 1) := by decide +kernel
theorem dL_law_961 : decode cL_law 961 = .ok (.invokevirtual 148, 3) := by decide +kernel
theorem dL_law_964 : decode cL_law 964 = .ok (.if_icmp .eq 256, 3) := by decide +kernel
theorem dL_law_967 : decode cL_law 967 = .ok (.iconst 0, 1) := by decide +kernel
theorem dL_law_968 : decode cL_law 968 = .ok (.ireturn, 1) := by decide +kernel
theorem dL_law_969 : decode cL_law 969 = .ok (.aload_n 1, 1) := by decide +kernel
theorem dL_law_970 : decode cL_law 970 = .ok (.invokevirtual 149, 3) := by decide +kernel
theorem dL_law_973 : decode cL_law 973 = .ok (.aload_n 2, 1) := by decide +kernel
theorem dL_law_974 : decode cL_law 974 = .ok (.invokevirtual 152, 3) := by decide +kernel
theorem dL_law_977 : decode cL_law 977 = .ok (.if_icmp .eq 243, 3) := by decide +kernel
theorem dL_law_980 : decode cL_law 980 = .ok (.iconst 0, 1) := by decide +kernel
theorem dL_law_981 : decode cL_law 981 = .ok (.ireturn, 1) := by decide +kernel
theorem dL_law_982 : decode cL_law 982 = .ok (.aload_n 1, 1) := by decide +kernel
theorem dL_law_983 : decode cL_law 983 = .ok (.aload_n 0, 1) := by decide +kernel
theorem dL_law_984 : decode cL_law 984 = .ok (.iload_n 3, 1) := by decide +kernel
theorem dL_law_985 : decode cL_law 985 = .ok (.iconst 1, 1) := by decide +kernel
theorem dL_law_986 : decode cL_law 986 = .ok (.iadd, 1) := by decide +kernel
theorem dL_law_987 : decode cL_law 987 = .ok (.iaload, 1) := by decide +kernel
theorem dL_law_988 : decode cL_law 988 = .ok (.invokevirtual 153, 3) := by decide +kernel
theorem dL_law_991 : decode cL_law 991 = .ok (.aload_n 2, 1) := by decide +kernel
theorem dL_law_992 : decode cL_law 992 = .ok (.aload_n 0, 1) := by decide +kernel
theorem dL_law_993 : decode cL_law 993 = .ok (.iload_n 3, 1) := by decide +kernel
theorem dL_law_994 : decode cL_law 994 = .ok (.iconst 1, 1) := by decide +kernel
theorem dL_law_995 : decode cL_law 995 = .ok (.iadd, 1) := by decide +kernel
theorem dL_law_996 : decode cL_law 996 = .ok (.iaload, 1) := by decide +kernel
theorem dL_law_997 : decode cL_law 997 = .ok (.invokevirtual 156, 3) := by decide +kernel
theorem dL_law_1000 : decode cL_law 1000 = .ok (.if_icmp .eq 220, 3) := by decide +kernel
theorem dL_law_1003 : decode cL_law 1003 = .ok (.iconst 0, 1) := by decide +kernel
theorem dL_law_1004 : decode cL_law 1004 = .ok (.ireturn, 1) := by decide +kernel
theorem dL_law_1005 : decode cL_law 1005 = .ok (.aload_n 1, 1) := by decide +kernel
theorem dL_law_1006 : decode cL_law 1006 = .ok (.aload_n 0, 1) := by decide +kernel
theorem dL_law_1007 : decode cL_law 1007 = .ok (.iload_n 3, 1) := by decide +kernel
theorem dL_law_1008 : decode cL_law 1008 = .ok (.iconst 1, 1) := by decide +kernel
theorem dL_law_1009 : decode cL_law 1009 = .ok (.iadd, 1) := by decide +kernel
theorem dL_law_1010 : decode cL_law 1010 = .ok (.iaload, 1) := by decide +kernel
theorem dL_law_1011 : decode cL_law 1011 = .ok (.aload_n 0, 1) := by decide +kernel
theorem dL_law_1012 : decode cL_law 1012 = .ok (.iload_n 3, 1) := by decide +kernel
theorem dL_law_1013 : decode cL_law 1013 = .ok (.iconst 2, 1) := by decide +kernel
theorem dL_law_1014 : decode cL_law 1014 = .ok (.iadd, 1) := by decide +kernel
theorem dL_law_1015 : decode cL_law 1015 = .ok (.iaload, 1) := by decide +kernel
theorem dL_law_1016 : decode cL_law 1016 = .ok (.invokevirtual 157, 3) := by decide +kernel
theorem dL_law_1019 : decode cL_law 1019 = .ok (.aload_n 2, 1) := by decide +kernel
theorem dL_law_1020 : decode cL_law 1020 = .ok (.aload_n 0, 1) := by decide +kernel
theorem dL_law_1021 : decode cL_law 1021 = .ok (.iload_n 3, 1) := by decide +kernel
theorem dL_law_1022 : decode cL_law 1022 = .ok (.iconst 1, 1) := by decide +kernel
theorem dL_law_1023 : decode cL_law 1023 = .ok (.iadd, 1) := by decide +kernel
theorem dL_law_1024 : decode cL_law 1024 = .ok (.iaload, 1) := by decide +kernel
theorem dL_law_1025 : decode cL_law 1025 = .ok (.aload_n 0, 1) := by decide +kernel
theorem dL_law_1026 : decode cL_law 1026 = .ok (.iload_n 3, 1) := by decide +kernel
theorem dL_law_1027 : decode cL_law 1027 = .ok (.iconst 2, 1) := by decide +kernel
theorem dL_law_1028 : decode cL_law 1028 = .ok (.iadd, 1) := by decide +kernel
theorem dL_law_1029 : decode cL_law 1029 = .ok (.iaload, 1) := by decide +kernel
theorem dL_law_1030 : decode cL_law 1030 = .ok (.invokevirtual 161, 3) := by decide +kernel
theorem dL_law_1033 : decode cL_law 1033 = .ok (.lcmp, 1) := by decide +kernel
theorem dL_law_1034 : decode cL_law 1034 = .ok (.ifCond .eq 186, 3) := by decide +kernel
theorem dL_law_1037 : decode cL_law 1037 = .ok (.iconst 0, 1) := by decide +kernel
theorem dL_law_1038 : decode cL_law 1038 = .ok (.ireturn, 1) := by decide +kernel
theorem dL_law_1039 : decode cL_law 1039 = .ok (.aload_n 1, 1) := by decide +kernel
theorem dL_law_1040 : decode cL_law 1040 = .ok (.aload_n 0, 1) := by decide +kernel
theorem dL_law_1041 : decode cL_law 1041 = .ok (.iload_n 3, 1) := by decide +kernel
theorem dL_law_1042 : decode cL_law 1042 = .ok (.iconst 1, 1) := by decide +kernel
theorem dL_law_1043 : decode cL_law 1043 = .ok (.iadd, 1) := by decide +kernel
theorem dL_law_1044 : decode cL_law 1044 = .ok (.iaload, 1) := by decide +kernel
theorem dL_law_1045 : decode cL_law 1045 = .ok (.aload_n 0, 1) := by decide +kernel
theorem dL_law_1046 : decode cL_law 1046 = .ok (.iload_n 3, 1) := by decide +kernel
theorem dL_law_1047 : decode cL_law 1047 = .ok (.iconst 2, 1) := by decide +kernel
theorem dL_law_1048 : decode cL_law 1048 = .ok (.iadd, 1) := by decide +kernel
theorem dL_law_1049 : decode cL_law 1049 = .ok (.iaload, 1) := by decide +kernel
theorem dL_law_1050 : decode cL_law 1050 = .ok (.aload_n 0, 1) := by decide +kernel
theorem dL_law_1051 : decode cL_law 1051 = .ok (.iload_n 3, 1) := by decide +kernel
theorem dL_law_1052 : decode cL_law 1052 = .ok (.iconst 3, 1) := by decide +kernel
theorem dL_law_1053 : decode cL_law 1053 = .ok (.iadd, 1) := by decide +kernel
theorem dL_law_1054 : decode cL_law 1054 = .ok (.iaload, 1) := by decide +kernel
theorem dL_law_1055 : decode cL_law 1055 = .ok (.invokevirtual 162, 3) := by decide +kernel
theorem dL_law_1058 : decode cL_law 1058 = .ok (.aload_n 2, 1) := by decide +kernel
theorem dL_law_1059 : decode cL_law 1059 = .ok (.aload_n 0, 1) := by decide +kernel
theorem dL_law_1060 : decode cL_law 1060 = .ok (.iload_n 3, 1) := by decide +kernel
theorem dL_law_1061 : decode cL_law 1061 = .ok (.iconst 1, 1) := by decide +kernel
theorem dL_law_1062 : decode cL_law 1062 = .ok (.iadd, 1) := by decide +kernel
theorem dL_law_1063 : decode cL_law 1063 = .ok (.iaload, 1) := by decide +kernel
theorem dL_law_1064 : decode cL_law 1064 = .ok (.aload_n 0, 1) := by decide +kernel
theorem dL_law_1065 : decode cL_law 1065 = .ok (.iload_n 3, 1) := by decide +kernel
theorem dL_law_1066 : decode cL_law 1066 = .ok (.iconst 2, 1) := by decide +kernel
theorem dL_law_1067 : decode cL_law 1067 = .ok (.iadd, 1) := by decide +kernel
theorem dL_law_1068 : decode cL_law 1068 = .ok (.iaload, 1) := by decide +kernel
theorem dL_law_1069 : decode cL_law 1069 = .ok (.aload_n 0, 1) := by decide +kernel
theorem dL_law_1070 : decode cL_law 1070 = .ok (.iload_n 3, 1) := by decide +kernel
theorem dL_law_1071 : decode cL_law 1071 = .ok (.iconst 3, 1) := by decide +kernel
theorem dL_law_1072 : decode cL_law 1072 = .ok (.iadd, 1) := by decide +kernel
theorem dL_law_1073 : decode cL_law 1073 = .ok (.iaload, 1) := by decide +kernel
theorem dL_law_1074 : decode cL_law 1074 = .ok (.invokevirtual 166, 3) := by decide +kernel
theorem dL_law_1077 : decode cL_law 1077 = .ok (.if_icmp .eq 143, 3) := by decide +kernel
theorem dL_law_1080 : decode cL_law 1080 = .ok (.iconst 0, 1) := by decide +kernel
theorem dL_law_1081 : decode cL_law 1081 = .ok (.ireturn, 1) := by decide +kernel
theorem dL_law_1082 : decode cL_law 1082 = .ok (.aload_n 1, 1) := by decide +kernel
theorem dL_law_1083 : decode cL_law 1083 = .ok (.aload_n 0, 1) := by decide +kernel
theorem dL_law_1084 : decode cL_law 1084 = .ok (.iload_n 3, 1) := by decide +kernel
theorem dL_law_1085 : decode cL_law 1085 = .ok (.iconst 1, 1) := by decide +kernel
theorem dL_law_1086 : decode cL_law 1086 = .ok (.iadd, 1) := by decide +kernel
theorem dL_law_1087 : decode cL_law 1087 = .ok (.iaload, 1) := by decide +kernel
theorem dL_law_1088 : decode cL_law 1088 = .ok (.aload_n 0, 1) := by decide +kernel
theorem dL_law_1089 : decode cL_law 1089 = .ok (.iload_n 3, 1) := by decide +kernel
theorem dL_law_1090 : decode cL_law 1090 = .ok (.iconst 2, 1) := by decide +kernel
theorem dL_law_1091 : decode cL_law 1091 = .ok (.iadd, 1) := by decide +kernel
theorem dL_law_1092 : decode cL_law 1092 = .ok (.iaload, 1) := by decide +kernel
theorem dL_law_1093 : decode cL_law 1093 = .ok (.invokevirtual 167, 3) := by decide +kernel
theorem dL_law_1096 : decode cL_law 1096 = .ok (.aload_n 2, 1) := by decide +kernel
theorem dL_law_1097 : decode cL_law 1097 = .ok (.aload_n 0, 1) := by decide +kernel
theorem dL_law_1098 : decode cL_law 1098 = .ok (.iload_n 3, 1) := by decide +kernel
theorem dL_law_1099 : decode cL_law 1099 = .ok (.iconst 1, 1) := by decide +kernel
theorem dL_law_1100 : decode cL_law 1100 = .ok (.iadd, 1) := by decide +kernel
theorem dL_law_1101 : decode cL_law 1101 = .ok (.iaload, 1) := by decide +kernel
theorem dL_law_1102 : decode cL_law 1102 = .ok (.aload_n 0, 1) := by decide +kernel
theorem dL_law_1103 : decode cL_law 1103 = .ok (.iload_n 3, 1) := by decide +kernel
theorem dL_law_1104 : decode cL_law 1104 = .ok (.iconst 2, 1) := by decide +kernel
theorem dL_law_1105 : decode cL_law 1105 = .ok (.iadd, 1) := by decide +kernel
theorem dL_law_1106 : decode cL_law 1106 = .ok (.iaload, 1) := by decide +kernel
theorem dL_law_1107 : decode cL_law 1107 = .ok (.invokevirtual 170, 3) := by decide +kernel
theorem dL_law_1110 : decode cL_law 1110 = .ok (.if_icmp .eq 110, 3) := by decide +kernel
theorem dL_law_1113 : decode cL_law 1113 = .ok (.iconst 0, 1) := by decide +kernel
theorem dL_law_1114 : decode cL_law 1114 = .ok (.ireturn, 1) := by decide +kernel
theorem dL_law_1115 : decode cL_law 1115 = .ok (.aload_n 1, 1) := by decide +kernel
theorem dL_law_1116 : decode cL_law 1116 = .ok (.aload_n 0, 1) := by decide +kernel
theorem dL_law_1117 : decode cL_law 1117 = .ok (.iload_n 3, 1) := by decide +kernel
theorem dL_law_1118 : decode cL_law 1118 = .ok (.iconst 1, 1) := by decide +kernel
theorem dL_law_1119 : decode cL_law 1119 = .ok (.iadd, 1) := by decide +kernel
theorem dL_law_1120 : decode cL_law 1120 = .ok (.iaload, 1) := by decide +kernel
theorem dL_law_1121 : decode cL_law 1121 = .ok (.invokevirtual 171, 3) := by decide +kernel
theorem dL_law_1124 : decode cL_law 1124 = .ok (.aload_n 2, 1) := by decide +kernel
theorem dL_law_1125 : decode cL_law 1125 = .ok (.aload_n 0, 1) := by decide +kernel
theorem dL_law_1126 : decode cL_law 1126 = .ok (.iload_n 3, 1) := by decide +kernel
theorem dL_law_1127 : decode cL_law 1127 = .ok (.iconst 1, 1) := by decide +kernel
theorem dL_law_1128 : decode cL_law 1128 = .ok (.iadd, 1) := by decide +kernel
theorem dL_law_1129 : decode cL_law 1129 = .ok (.iaload, 1) := by decide +kernel
theorem dL_law_1130 : decode cL_law 1130 = .ok (.invokevirtual 174, 3) := by decide +kernel
theorem dL_law_1133 : decode cL_law 1133 = .ok (.if_icmp .eq 87, 3) := by decide +kernel
theorem dL_law_1136 : decode cL_law 1136 = .ok (.iconst 0, 1) := by decide +kernel
theorem dL_law_1137 : decode cL_law 1137 = .ok (.ireturn, 1) := by decide +kernel
theorem dL_law_1138 : decode cL_law 1138 = .ok (.aload_n 1, 1) := by decide +kernel
theorem dL_law_1139 : decode cL_law 1139 = .ok (.aload_n 0, 1) := by decide +kernel
theorem dL_law_1140 : decode cL_law 1140 = .ok (.iload_n 3, 1) := by decide +kernel
theorem dL_law_1141 : decode cL_law 1141 = .ok (.iconst 1, 1) := by decide +kernel
theorem dL_law_1142 : decode cL_law 1142 = .ok (.iadd, 1) := by decide +kernel
theorem dL_law_1143 : decode cL_law 1143 = .ok (.iaload, 1) := by decide +kernel
theorem dL_law_1144 : decode cL_law 1144 = .ok (.invokevirtual 175, 3) := by decide +kernel
theorem dL_law_1147 : decode cL_law 1147 = .ok (.aload_n 2, 1) := by decide +kernel
theorem dL_law_1148 : decode cL_law 1148 = .ok (.aload_n 0, 1) := by decide +kernel
theorem dL_law_1149 : decode cL_law 1149 = .ok (.iload_n 3, 1) := by decide +kernel
theorem dL_law_1150 : decode cL_law 1150 = .ok (.iconst 1, 1) := by decide +kernel
theorem dL_law_1151 : decode cL_law 1151 = .ok (.iadd, 1) := by decide +kernel
theorem dL_law_1152 : decode cL_law 1152 = .ok (.iaload, 1) := by decide +kernel
theorem dL_law_1153 : decode cL_law 1153 = .ok (.invokevirtual 178, 3) := by decide +kernel
theorem dL_law_1156 : decode cL_law 1156 = .ok (.if_icmp .eq 64, 3) := by decide +kernel
theorem dL_law_1159 : decode cL_law 1159 = .ok (.iconst 0, 1) := by decide +kernel
theorem dL_law_1160 : decode cL_law 1160 = .ok (.ireturn, 1) := by decide +kernel
theorem dL_law_1161 : decode cL_law 1161 = .ok (.aload_n 1, 1) := by decide +kernel
theorem dL_law_1162 : decode cL_law 1162 = .ok (.aload_n 0, 1) := by decide +kernel
theorem dL_law_1163 : decode cL_law 1163 = .ok (.iload_n 3, 1) := by decide +kernel
theorem dL_law_1164 : decode cL_law 1164 = .ok (.iconst 1, 1) := by decide +kernel
theorem dL_law_1165 : decode cL_law 1165 = .ok (.iadd, 1) := by decide +kernel
theorem dL_law_1166 : decode cL_law 1166 = .ok (.iaload, 1) := by decide +kernel
theorem dL_law_1167 : decode cL_law 1167 = .ok (.invokevirtual 179, 3) := by decide +kernel
theorem dL_law_1170 : decode cL_law 1170 = .ok (.aload_n 2, 1) := by decide +kernel
theorem dL_law_1171 : decode cL_law 1171 = .ok (.aload_n 0, 1) := by decide +kernel
theorem dL_law_1172 : decode cL_law 1172 = .ok (.iload_n 3, 1) := by decide +kernel
theorem dL_law_1173 : decode cL_law 1173 = .ok (.iconst 1, 1) := by decide +kernel
theorem dL_law_1174 : decode cL_law 1174 = .ok (.iadd, 1) := by decide +kernel
theorem dL_law_1175 : decode cL_law 1175 = .ok (.iaload, 1) := by decide +kernel
theorem dL_law_1176 : decode cL_law 1176 = .ok (.invokevirtual 182, 3) := by decide +kernel
theorem dL_law_1179 : decode cL_law 1179 = .ok (.if_icmp .eq 41, 3) := by decide +kernel
theorem dL_law_1182 : decode cL_law 1182 = .ok (.iconst 0, 1) := by decide +kernel
theorem dL_law_1183 : decode cL_law 1183 = .ok (.ireturn, 1) := by decide +kernel
theorem dL_law_1184 : decode cL_law 1184 = .ok (.aload_n 1, 1) := by decide +kernel
theorem dL_law_1185 : decode cL_law 1185 = .ok (.aload_n 0, 1) := by decide +kernel
theorem dL_law_1186 : decode cL_law 1186 = .ok (.iload_n 3, 1) := by decide +kernel
theorem dL_law_1187 : decode cL_law 1187 = .ok (.iconst 1, 1) := by decide +kernel
theorem dL_law_1188 : decode cL_law 1188 = .ok (.iadd, 1) := by decide +kernel
theorem dL_law_1189 : decode cL_law 1189 = .ok (.iaload, 1) := by decide +kernel
theorem dL_law_1190 : decode cL_law 1190 = .ok (.invokevirtual 183, 3) := by decide +kernel
theorem dL_law_1193 : decode cL_law 1193 = .ok (.aload_n 2, 1) := by decide +kernel
theorem dL_law_1194 : decode cL_law 1194 = .ok (.aload_n 0, 1) := by decide +kernel
theorem dL_law_1195 : decode cL_law 1195 = .ok (.iload_n 3, 1) := by decide +kernel
theorem dL_law_1196 : decode cL_law 1196 = .ok (.iconst 1, 1) := by decide +kernel
theorem dL_law_1197 : decode cL_law 1197 = .ok (.iadd, 1) := by decide +kernel
theorem dL_law_1198 : decode cL_law 1198 = .ok (.iaload, 1) := by decide +kernel
theorem dL_law_1199 : decode cL_law 1199 = .ok (.invokevirtual 186, 3) := by decide +kernel
theorem dL_law_1202 : decode cL_law 1202 = .ok (.if_icmp .eq 18, 3) := by decide +kernel
theorem dL_law_1205 : decode cL_law 1205 = .ok (.iconst 0, 1) := by decide +kernel
theorem dL_law_1206 : decode cL_law 1206 = .ok (.ireturn, 1) := by decide +kernel
theorem dL_law_1207 : decode cL_law 1207 = .ok (.aload_n 1, 1) := by decide +kernel
theorem dL_law_1208 : decode cL_law 1208 = .ok (.invokevirtual 187, 3) := by decide +kernel
theorem dL_law_1211 : decode cL_law 1211 = .ok (.aload_n 2, 1) := by decide +kernel
theorem dL_law_1212 : decode cL_law 1212 = .ok (.invokevirtual 190, 3) := by decide +kernel
theorem dL_law_1215 : decode cL_law 1215 = .ok (.if_icmp .eq 5, 3) := by decide +kernel
theorem dL_law_1218 : decode cL_law 1218 = .ok (.iconst 0, 1) := by decide +kernel
theorem dL_law_1219 : decode cL_law 1219 = .ok (.ireturn, 1) := by decide +kernel
theorem dL_law_1220 : decode cL_law 1220 = .ok (.iinc 3 6, 3) := by decide +kernel
theorem dL_law_1223 : decode cL_law 1223 = .ok (.goto (-1205), 3) := by decide +kernel
theorem dL_law_1226 : decode cL_law 1226 = .ok (.iconst 1, 1) := by decide +kernel
theorem dL_law_1227 : decode cL_law 1227 = .ok (.ireturn, 1) := by decide +kernel
