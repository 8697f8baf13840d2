theorem dX12_readPlain_7 : decode cX12_readPlain 7 = .ok (.bipush 6, 2) := by decide +kernel
theorem dX12_readPlain_9 : decode cX12_readPlain 9 = .ok (.invokevirtual 165, 3) := by decide +kernel
theorem dX12_readPlain_12 : decode cX12_readPlain 12 = .ok (.istore_n 2, 1) := by decide +kernel
theorem dX12_readPlain_13 : decode cX12_readPlain 13 = .ok (.goto (-11), 3) := by decide +kernel
theorem dX12_readPlain_16 : decode cX12_readPlain 16 = .ok (.aload_n 0, 1) := by decide +kernel
theorem dX12_readPlain_17 : decode cX12_readPlain 17 = .ok (.invokevirtual 159, 3) := by decide +kernel
theorem dX12_readPlain_20 : decode cX12_readPlain 20 = .ok (.ifCond .ne 4, 3) := by decide +kernel
theorem dX12_readPlain_23 : decode cX12_readPlain 23 = .ok (.return_, 1) := by decide +kernel
theorem dX12_readPlain_24 : decode cX12_readPlain 24 = .ok (.aload_n 0, 1) := by decide +kernel
theorem dX12_readPlain_25 : decode cX12_readPlain 25 = .ok (.getfield 54, 3) := by decide +kernel
theorem dX12_readPlain_28 : decode cX12_readPlain 28 = .ok (.aload_n 0, 1) := by decide +kernel
theorem dX12_readPlain_29 : decode cX12_readPlain 29 = .ok (.getfield 162, 3) := by decide +kernel
theorem dX12_readPlain_32 : decode cX12_readPlain 32 = .ok (.iaload, 1) := by decide +kernel
theorem dX12_readPlain_33 : decode cX12_readPlain 33 = .ok (.istore_n 3, 1) := by decide +kernel
theorem dX12_readPlain_34 : decode cX12_readPlain 34 = .ok (.iload_n 3, 1) := by decide +kernel
theorem dX12_readPlain_35 : decode cX12_readPlain 35 = .ok (.bipush 40, 2) := by decide +kernel
theorem dX12_readPlain_37 : decode cX12_readPlain 37 = .ok (.invokestatic 207, 3) := by decide +kernel
theorem dX12_readPlain_40 : decode cX12_readPlain 40 = .ok (.if_icmp .ne 50, 3) := by decide +kernel
theorem dX12_readPlain_43 : decode cX12_readPlain 43 = .ok (.iload_n 1, 1) := by decide +kernel
theorem dX12_readPlain_44 : decode cX12_readPlain 44 = .ok (.bipush 8, 2) := by decide +kernel
theorem dX12_readPlain_46 : decode cX12_readPlain 46 = .ok (.if_icmp .ne 7, 3) := by decide +kernel
theorem dX12_readPlain_49 : decode cX12_readPlain 49 = .ok (.aload_n 0, 1) := by decide +kernel
theorem dX12_readPlain_50 : decode cX12_readPlain 50 = .ok (.invokevirtual 168, 3) := by decide +kernel
theorem dX12_readPlain_53 : decode cX12_readPlain 53 = .ok (.aload_n 0, 1) := by decide +kernel
theorem dX12_readPlain_54 : decode cX12_readPlain 54 = .ok (.invokevirtual 159, 3) := by decide +kernel
theorem dX12_readPlain_57 : decode cX12_readPlain 57 = .ok (.ifCond .ne 4, 3) := by decide +kernel
theorem dX12_readPlain_60 : decode cX12_readPlain 60 = .ok (.return_, 1) := by decide +kernel
theorem dX12_readPlain_61 : decode cX12_readPlain 61 = .ok (.aload_n 0, 1) := by decide +kernel
theorem dX12_readPlain_62 : decode cX12_readPlain 62 = .ok (.dup, 1) := by decide +kernel
theorem dX12_readPlain_63 : decode cX12_readPlain 63 = .ok (.getfield 162, 3) := by decide +kernel
theorem dX12_readPlain_66 : decode cX12_readPlain 66 = .ok (.iconst 1, 1) := by decide +kernel
theorem dX12_readPlain_67 : decode cX12_readPlain 67 = .ok (.iadd, 1) := by decide +kernel
theorem dX12_readPlain_68 : decode cX12_readPlain 68 = .ok (.putfield 162, 3) := by decide +kernel
theorem dX12_readPlain_71 : decode cX12_readPlain 71 = .ok (.aload_n 0, 1) := by decide +kernel
theorem dX12_readPlain_72 : decode cX12_readPlain 72 = .ok (.iload_n 1, 1) := by decide +kernel
theorem dX12_readPlain_73 : decode cX12_readPlain 73 = .ok (.iconst 1, 1) := by decide +kernel
theorem dX12_readPlain_74 : decode cX12_readPlain 74 = .ok (.iadd, 1) := by decide +kernel
theorem dX12_readPlain_75 : decode cX12_readPlain 75 = .ok (.invokevirtual 181, 3) := by decide +kernel
theorem dX12_readPlain_78 : decode cX12_readPlain 78 = .ok (.aload_n 0, 1) := by decide +kernel
theorem dX12_readPlain_79 : decode cX12_readPlain 79 = .ok (.bipush 41, 2) := by decide +kernel
theorem dX12_readPlain_81 : decode cX12_readPlain 81 = .ok (.invokestatic 207, 3) := by decide +kernel
theorem dX12_readPlain_84 : decode cX12_readPlain 84 = .ok (.invokevirtual 178, 3) := by decide +kernel
theorem dX12_readPlain_87 : decode cX12_readPlain 87 = .ok (.goto 46, 3) := by decide +kernel
theorem dX12_readPlain_90 : decode cX12_readPlain 90 = .ok (.aload_n 0, 1) := by decide +kernel
theorem dX12_readPlain_91 : decode cX12_readPlain 91 = .ok (.iload_n 1, 1) := by decide +kernel
theorem dX12_readPlain_92 : decode cX12_readPlain 92 = .ok (.invokevirtual 174, 3) := by decide +kernel
theorem dX12_readPlain_95 : decode cX12_readPlain 95 = .ok (.aload_n 0, 1) := by decide +kernel
theorem dX12_readPlain_96 : decode cX12_readPlain 96 = .ok (.bipush 60, 2) := by decide +kernel
theorem dX12_readPlain_98 : decode cX12_readPlain 98 = .ok (.invokestatic 207, 3) := by decide +kernel
theorem dX12_readPlain_101 : decode cX12_readPlain 101 = .ok (.invokevirtual 165, 3) := by decide +kernel
theorem dX12_readPlain_104 : decode cX12_readPlain 104 = .ok (.ifCond .ne 24, 3) := by decide +kernel
theorem dX12_readPlain_107 : decode cX12_readPlain 107 = .ok (.aload_n 0, 1) := by decide +kernel
theorem dX12_readPlain_108 : decode cX12_readPlain 108 = .ok (.bipush 62, 2) := by decide +kernel
theorem dX12_readPlain_110 : decode cX12_readPlain 110 = .ok (.invokestatic 207, 3) := by decide +kernel
theorem dX12_readPlain_113 : decode cX12_readPlain 113 = .ok (.invokevirtual 165, 3) := by decide +kernel
theorem dX12_readPlain_116 : decode cX12_readPlain 116 = .ok (.ifCond .ne 12, 3) := by decide +kernel
theorem dX12_readPlain_119 : decode cX12_readPlain 119 = .ok (.aload_n 0, 1) := by decide +kernel
theorem dX12_readPlain_120 : decode cX12_readPlain 120 = .ok (.bipush 61, 2) := by decide +kernel
theorem dX12_readPlain_122 : decode cX12_readPlain 122 = .ok (.invokestatic 207, 3) := by decide +kernel
theorem dX12_readPlain_125 : decode cX12_readPlain 125 = .ok (.invokevirtual 178, 3) := by decide +kernel
theorem dX12_readPlain_128 : decode cX12_readPlain 128 = .ok (.aload_n 0, 1) := by decide +kernel
theorem dX12_readPlain_129 : decode cX12_readPlain 129 = .ok (.iload_n 1, 1) := by decide +kernel
theorem dX12_readPlain_130 : decode cX12_readPlain 130 = .ok (.invokevirtual 174, 3) := by decide +kernel
theorem dX12_readPlain_133 : decode cX12_readPlain 133 = .ok (.return_, 1) := by decide +kernel
theorem dX12_readBoth_0 : decode cX12_readBoth 0 = .ok (.aload_n 0, 1) := by decide +kernel
theorem dX12_readBoth_1 : decode cX12_readBoth 1 = .ok (.iload_n 1, 1) := by decide +kernel
theorem dX12_readBoth_2 : decode cX12_readBoth 2 = .ok (.invokevirtual 204, 3) := by decide +kernel
theorem dX12_readBoth_5 : decode cX12_readBoth 5 = .ok (.aload_n 0, 1) := by decide +kernel
theorem dX12_readBoth_6 : decode cX12_readBoth 6 = .ok (.iconst 5, 1) := by decide +kernel
theorem dX12_readBoth_7 : decode cX12_readBoth 7 = .ok (.invokevirtual 165, 3) := by decide +kernel
theorem dX12_readBoth_10 : decode cX12_readBoth 10 = .ok (.ifCond .eq 11, 3) := by decide +kernel
theorem dX12_readBoth_13 : decode cX12_readBoth 13 = .ok (.aload_n 0, 1) := by decide +kernel
theorem dX12_readBoth_14 : decode cX12_readBoth 14 = .ok (.iload_n 1, 1) := by decide +kernel
theorem dX12_readBoth_15 : decode cX12_readBoth 15 = .ok (.invokevirtual 204, 3) := by decide +kernel
theorem dX12_readBoth_18 : decode cX12_readBoth 18 = .ok (.goto (-13), 3) := by decide +kernel
theorem dX12_readBoth_21 : decode cX12_readBoth 21 = .ok (.return_, 1) := by decide +kernel
theorem dX12_readTest_0 : decode cX12_readTest 0 = .ok (.aload_n 0, 1) := by decide +kernel
theorem dX12_readTest_1 : decode cX12_readTest 1 = .ok (.iload_n 1, 1) := by decide +kernel
theorem dX12_readTest_2 : decode cX12_readTest 2 = .ok (.invokevirtual 201, 3) := by decide +kernel
theorem dX12_readTest_5 : decode cX12_readTest 5 = .ok (.aload_n 0, 1) := by decide +kernel
theorem dX12_readTest_6 : decode cX12_readTest 6 = .ok (.iconst 4, 1) := by decide +kernel
theorem dX12_readTest_7 : decode cX12_readTest 7 = .ok (.invokevirtual 165, 3) := by decide +kernel
theorem dX12_readTest_10 : decode cX12_readTest 10 = .ok (.ifCond .eq 11, 3) := by decide +kernel
theorem dX12_readTest_13 : decode cX12_readTest 13 = .ok (.aload_n 0, 1) := by decide +kernel
theorem dX12_readTest_14 : decode cX12_readTest 14 = .ok (.iload_n 1, 1) := by decide +kernel
theorem dX12_readTest_15 : decode cX12_readTest 15 = .ok (.invokevirtual 201, 3) := by decide +kernel
theorem dX12_readTest_18 : decode cX12_readTest 18 = .ok (.goto (-13), 3) := by decide +kernel
theorem dX12_readTest_21 : decode cX12_readTest 21 = .ok (.return_, 1) := by decide +kernel
theorem dX12_readClause_0 : decode cX12_readClause 0 = .ok (.aload_n 0, 1) := by decide +kernel
theorem dX12_readClause_1 : decode cX12_readClause 1 = .ok (.iconst 1, 1) := by decide +kernel
theorem dX12_readClause_2 : decode cX12_readClause 2 = .ok (.invokevirtual 165, 3) := by decide +kernel
theorem dX12_readClause_5 : decode cX12_readClause 5 = .ok (.ifCond .eq 11, 3) := by decide +kernel
theorem dX12_readClause_8 : decode cX12_readClause 8 = .ok (.aload_n 0, 1) := by decide +kernel
theorem dX12_readClause_9 : decode cX12_readClause 9 = .ok (.iconst 0, 1) := by decide +kernel
theorem dX12_readClause_10 : decode cX12_readClause 10 = .ok (.invokevirtual 174, 3) := by decide +kernel
theorem dX12_readClause_13 : decode cX12_readClause 13 = .ok (.goto 8, 3) := by decide +kernel
theorem dX12_readClause_16 : decode cX12_readClause 16 = .ok (.aload_n 0, 1) := by decide +kernel
theorem dX12_readClause_17 : decode cX12_readClause 17 = .ok (.iconst 2, 1) := by decide +kernel
theorem dX12_readClause_18 : decode cX12_readClause 18 = .ok (.invokevirtual 178, 3) := by decide +kernel
theorem dX12_readClause_21 : decode cX12_readClause 21 = .ok (.aload_n 0, 1) := by decide +kernel
theorem dX12_readClause_22 : decode cX12_readClause 22 = .ok (.iconst 3, 1) := by decide +kernel
theorem dX12_readClause_23 : decode cX12_readClause 23 = .ok (.invokevirtual 165, 3) := by decide +kernel
theorem dX12_readClause_26 : decode cX12_readClause 26 = .ok (.ifCond .eq 8, 3) := by decide +kernel
theorem dX12_readClause_29 : decode cX12_readClause 29 = .ok (.aload_n 0, 1) := by decide +kernel
theorem dX12_readClause_30 : decode cX12_readClause 30 = .ok (.iconst 0, 1) := by decide +kernel
theorem dX12_readClause_31 : decode cX12_readClause 31 = .ok (.invokevirtual 181, 3) := by decide +kernel
theorem dX12_readClause_34 : decode cX12_readClause 34 = .ok (.return_, 1) := by decide +kernel
theorem dX12_takesOneOf_0 : decode cX12_takesOneOf 0 = .ok (.aload_n 0, 1) := by decide +kernel
theorem dX12_takesOneOf_1 : decode cX12_takesOneOf 1 = .ok (.invokevirtual 159, 3) := by decide +kernel
theorem dX12_takesOneOf_4 : decode cX12_takesOneOf 4 = .ok (.ifCond .eq 24, 3) := by decide +kernel
theorem dX12_takesOneOf_7 : decode cX12_takesOneOf 7 = .ok (.aload_n 0, 1) := by decide +kernel
theorem dX12_takesOneOf_8 : decode cX12_takesOneOf 8 = .ok (.getfield 54, 3) := by decide +kernel
theorem dX12_takesOneOf_11 : decode cX12_takesOneOf 11 = .ok (.aload_n 0, 1) := by decide +kernel
theorem dX12_takesOneOf_12 : decode cX12_takesOneOf 12 = .ok (.getfield 162, 3) := by decide +kernel
theorem dX12_takesOneOf_15 : decode cX12_takesOneOf 15 = .ok (.iaload, 1) := by decide +kernel
theorem dX12_takesOneOf_16 : decode cX12_takesOneOf 16 = .ok (.iload_n 1, 1) := by decide +kernel
theorem dX12_takesOneOf_17 : decode cX12_takesOneOf 17 = .ok (.iload_n 2, 1) := by decide +kernel
theorem dX12_takesOneOf_18 : decode cX12_takesOneOf 18 = .ok (.invokestatic 18, 3) := by decide +kernel
theorem dX12_takesOneOf_21 : decode cX12_takesOneOf 21 = .ok (.ifCond .eq 7, 3) := by decide +kernel
theorem dX12_takesOneOf_24 : decode cX12_takesOneOf 24 = .ok (.iconst 1, 1) := by decide +kernel
theorem dX12_takesOneOf_25 : decode cX12_takesOneOf 25 = .ok (.goto 4, 3) := by decide +kernel
theorem dX12_takesOneOf_28 : decode cX12_takesOneOf 28 = .ok (.iconst 0, 1) := by decide +kernel
theorem dX12_takesOneOf_29 : decode cX12_takesOneOf 29 = .ok (.istore_n 3, 1) := by decide +kernel
theorem dX12_takesOneOf_30 : decode cX12_takesOneOf 30 = .ok (.iload_n 3, 1) := by decide +kernel
theorem dX12_takesOneOf_31 : decode cX12_takesOneOf 31 = .ok (.ifCond .eq 13, 3) := by decide +kernel
theorem dX12_takesOneOf_34 : decode cX12_takesOneOf 34 = .ok (.aload_n 0, 1) := by decide +kernel
theorem dX12_takesOneOf_35 : decode cX12_takesOneOf 35 = .ok (.dup, 1) := by decide +kernel
theorem dX12_takesOneOf_36 : decode cX12_takesOneOf 36 = .ok (.getfield 162, 3) := by decide +kernel
theorem dX12_takesOneOf_39 : decode cX12_takesOneOf 39 = .ok (.iconst 1, 1) := by decide +kernel
theorem dX12_takesOneOf_40 : decode cX12_takesOneOf 40 = .ok (.iadd, 1) := by decide +kernel
theorem dX12_takesOneOf_41 : decode cX12_takesOneOf 41 = .ok (.putfield 162, 3) := by decide +kernel
theorem dX12_takesOneOf_44 : decode cX12_takesOneOf 44 = .ok (.iload_n 3, 1) := by decide +kernel
theorem dX12_takesOneOf_45 : decode cX12_takesOneOf 45 = .ok (.ireturn, 1) := by decide +kernel
theorem dX12_readOrder_0 : decode cX12_readOrder 0 = .ok (.aload_n 0, 1) := by decide +kernel
theorem dX12_readOrder_1 : decode cX12_readOrder 1 = .ok (.bipush 20, 2) := by decide +kernel
theorem dX12_readOrder_3 : decode cX12_readOrder 3 = .ok (.invokevirtual 165, 3) := by decide +kernel
theorem dX12_readOrder_6 : decode cX12_readOrder 6 = .ok (.ifCond .eq 22, 3) := by decide +kernel
theorem dX12_readOrder_9 : decode cX12_readOrder 9 = .ok (.aload_n 0, 1) := by decide +kernel
theorem dX12_readOrder_10 : decode cX12_readOrder 10 = .ok (.iconst 0, 1) := by decide +kernel
theorem dX12_readOrder_11 : decode cX12_readOrder 11 = .ok (.invokevirtual 174, 3) := by decide +kernel
theorem dX12_readOrder_14 : decode cX12_readOrder 14 = .ok (.aload_n 0, 1) := by decide +kernel
theorem dX12_readOrder_15 : decode cX12_readOrder 15 = .ok (.bipush 21, 2) := by decide +kernel
theorem dX12_readOrder_17 : decode cX12_readOrder 17 = .ok (.invokevirtual 178, 3) := by decide +kernel
theorem dX12_readOrder_20 : decode cX12_readOrder 20 = .ok (.aload_n 0, 1) := by decide +kernel
theorem dX12_readOrder_21 : decode cX12_readOrder 21 = .ok (.iconst 0, 1) := by decide +kernel
theorem dX12_readOrder_22 : decode cX12_readOrder 22 = .ok (.invokevirtual 174, 3) := by decide +kernel
theorem dX12_readOrder_25 : decode cX12_readOrder 25 = .ok (.goto 28, 3) := by decide +kernel
theorem dX12_readOrder_28 : decode cX12_readOrder 28 = .ok (.aload_n 0, 1) := by decide +kernel
theorem dX12_readOrder_29 : decode cX12_readOrder 29 = .ok (.bipush 22, 2) := by decide +kernel
theorem dX12_readOrder_31 : decode cX12_readOrder 31 = .ok (.bipush 27, 2) := by decide +kernel
theorem dX12_readOrder_33 : decode cX12_readOrder 33 = .ok (.invokevirtual 184, 3) := by decide +kernel
theorem dX12_readOrder_36 : decode cX12_readOrder 36 = .ok (.ifCond .eq 11, 3) := by decide +kernel
theorem dX12_readOrder_39 : decode cX12_readOrder 39 = .ok (.aload_n 0, 1) := by decide +kernel
theorem dX12_readOrder_40 : decode cX12_readOrder 40 = .ok (.iconst 0, 1) := by decide +kernel
theorem dX12_readOrder_41 : decode cX12_readOrder 41 = .ok (.invokevirtual 174, 3) := by decide +kernel
theorem dX12_readOrder_44 : decode cX12_readOrder 44 = .ok (.goto 9, 3) := by decide +kernel
theorem dX12_readOrder_47 : decode cX12_readOrder 47 = .ok (.aload_n 0, 1) := by decide +kernel
theorem dX12_readOrder_48 : decode cX12_readOrder 48 = .ok (.bipush 28, 2) := by decide +kernel
theorem dX12_readOrder_50 : decode cX12_readOrder 50 = .ok (.invokevirtual 178, 3) := by decide +kernel
theorem dX12_readOrder_53 : decode cX12_readOrder 53 = .ok (.aload_n 0, 1) := by decide +kernel
theorem dX12_readOrder_54 : decode cX12_readOrder 54 = .ok (.bipush 29, 2) := by decide +kernel
theorem dX12_readOrder_56 : decode cX12_readOrder 56 = .ok (.invokevirtual 165, 3) := by decide +kernel
theorem dX12_readOrder_59 : decode cX12_readOrder 59 = .ok (.ifCond .eq 10, 3) := by decide +kernel
theorem dX12_readOrder_62 : decode cX12_readOrder 62 = .ok (.aload_n 0, 1) := by decide +kernel
theorem dX12_readOrder_63 : decode cX12_readOrder 63 = .ok (.iconst 1, 1) := by decide +kernel
theorem dX12_readOrder_64 : decode cX12_readOrder 64 = .ok (.bipush 20, 2) := by decide +kernel
theorem dX12_readOrder_66 : decode cX12_readOrder 66 = .ok (.invokevirtual 187, 3) := by decide +kernel
theorem dX12_readOrder_69 : decode cX12_readOrder 69 = .ok (.aload_n 0, 1) := by decide +kernel
theorem dX12_readOrder_70 : decode cX12_readOrder 70 = .ok (.iconst 3, 1) := by decide +kernel
theorem dX12_readOrder_71 : decode cX12_readOrder 71 = .ok (.invokevirtual 165, 3) := by decide +kernel
theorem dX12_readOrder_74 : decode cX12_readOrder 74 = .ok (.ifCond .eq 8, 3) := by decide +kernel
theorem dX12_readOrder_77 : decode cX12_readOrder 77 = .ok (.aload_n 0, 1) := by decide +kernel
theorem dX12_readOrder_78 : decode cX12_readOrder 78 = .ok (.iconst 0, 1) := by decide +kernel
theorem dX12_readOrder_79 : decode cX12_readOrder 79 = .ok (.invokevirtual 181, 3) := by decide +kernel
theorem dX12_readOrder_82 : decode cX12_readOrder 82 = .ok (.return_, 1) := by decide +kernel
theorem dX12_readOne_0 : decode cX12_readOne 0 = .ok (.aload_n 0, 1) := by decide +kernel
theorem dX12_readOne_1 : decode cX12_readOne 1 = .ok (.getfield 191, 3) := by decide +kernel
theorem dX12_readOne_4 : decode cX12_readOne 4 = .ok (.ifCond .eq 10, 3) := by decide +kernel
theorem dX12_readOne_7 : decode cX12_readOne 7 = .ok (.aload_n 0, 1) := by decide +kernel
theorem dX12_readOne_8 : decode cX12_readOne 8 = .ok (.invokevirtual 195, 3) := by decide +kernel
theorem dX12_readOne_11 : decode cX12_readOne 11 = .ok (.goto 7, 3) := by decide +kernel
theorem dX12_readOne_14 : decode cX12_readOne 14 = .ok (.aload_n 0, 1) := by decide +kernel
theorem dX12_readOne_15 : decode cX12_readOne 15 = .ok (.invokevirtual 198, 3) := by decide +kernel
theorem dX12_readOne_18 : decode cX12_readOne 18 = .ok (.return_, 1) := by decide +kernel
theorem dX12_reads_0 : decode cX12_reads 0 = .ok (.aload_n 0, 1) := by decide +kernel
theorem dX12_reads_1 : decode cX12_reads 1 = .ok (.aload_n 0, 1) := by decide +kernel
theorem dX12_reads_2 : decode cX12_reads 2 = .ok (.getfield 133, 3) := by decide +kernel
theorem dX12_reads_5 : decode cX12_reads 5 = .ok (.invokevirtual 226, 3) := by decide +kernel
theorem dX12_reads_8 : decode cX12_reads 8 = .ok (.aload_n 0, 1) := by decide +kernel
theorem dX12_reads_9 : decode cX12_reads 9 = .ok (.iconst 0, 1) := by decide +kernel
theorem dX12_reads_10 : decode cX12_reads 10 = .ok (.putfield 133, 3) := by decide +kernel
theorem dX12_reads_13 : decode cX12_reads 13 = .ok (.aload_n 0, 1) := by decide +kernel
theorem dX12_reads_14 : decode cX12_reads 14 = .ok (.iconst 0, 1) := by decide +kernel
theorem dX12_reads_15 : decode cX12_reads 15 = .ok (.putfield 162, 3) := by decide +kernel
theorem dX12_reads_18 : decode cX12_reads 18 = .ok (.aload_n 0, 1) := by decide +kernel
theorem dX12_reads_19 : decode cX12_reads 19 = .ok (.iconst 0, 1) := by decide +kernel
theorem dX12_reads_20 : decode cX12_reads 20 = .ok (.putfield 171, 3) := by decide +kernel
theorem dX12_reads_23 : decode cX12_reads 23 = .ok (.aload_n 0, 1) := by decide +kernel
theorem dX12_reads_24 : decode cX12_reads 24 = .ok (.iconst (-1), 1) := by decide +kernel
theorem dX12_reads_25 : decode cX12_reads 25 = .ok (.putfield 156, 3) := by decide +kernel
theorem dX12_reads_28 : decode cX12_reads 28 = .ok (.aload_n 0, 1) := by decide +kernel
theorem dX12_reads_29 : decode cX12_reads 29 = .ok (.invokevirtual 229, 3) := by decide +kernel
theorem dX12_reads_32 : decode cX12_reads 32 = .ok (.iconst 1, 1) := by decide +kernel
theorem dX12_reads_33 : decode cX12_reads 33 = .ok (.istore_n 1, 1) := by decide +kernel
theorem dX12_reads_34 : decode cX12_reads 34 = .ok (.aload_n 0, 1) := by decide +kernel
theorem dX12_reads_35 : decode cX12_reads 35 = .ok (.bipush 59, 2) := by decide +kernel
theorem dX12_reads_37 : decode cX12_reads 37 = .ok (.invokestatic 207, 3) := by decide +kernel
theorem dX12_reads_40 : decode cX12_reads 40 = .ok (.invokevirtual 165, 3) := by decide +kernel
theorem dX12_reads_43 : decode cX12_reads 43 = .ok (.ifCond .eq 30, 3) := by decide +kernel
theorem dX12_reads_46 : decode cX12_reads 46 = .ok (.iload_n 1, 1) := by decide +kernel
theorem dX12_reads_47 : decode cX12_reads 47 = .ok (.bipush 12, 2) := by decide +kernel
theorem dX12_reads_49 : decode cX12_reads 49 = .ok (.if_icmp .ne 7, 3) := by decide +kernel
theorem dX12_reads_52 : decode cX12_reads 52 = .ok (.aload_n 0, 1) := by decide +kernel
theorem dX12_reads_53 : decode cX12_reads 53 = .ok (.invokevirtual 168, 3) := by decide +kernel
theorem dX12_reads_56 : decode cX12_reads 56 = .ok (.aload_n 0, 1) := by decide +kernel
theorem dX12_reads_57 : decode cX12_reads 57 = .ok (.invokevirtual 159, 3) := by decide +kernel
theorem dX12_reads_60 : decode cX12_reads 60 = .ok (.ifCond .eq 7, 3) := by decide +kernel
theorem dX12_reads_63 : decode cX12_reads 63 = .ok (.aload_n 0, 1) := by decide +kernel
theorem dX12_reads_64 : decode cX12_reads 64 = .ok (.invokevirtual 229, 3) := by decide +kernel
theorem dX12_reads_67 : decode cX12_reads 67 = .ok (.iinc 1 1, 3) := by decide +kernel
theorem dX12_reads_70 : decode cX12_reads 70 = .ok (.goto (-36), 3) := by decide +kernel
theorem dX12_reads_73 : decode cX12_reads 73 = .ok (.aload_n 0, 1) := by decide +kernel
theorem dX12_reads_74 : decode cX12_reads 74 = .ok (.invokevirtual 159, 3) := by decide +kernel
theorem dX12_reads_77 : decode cX12_reads 77 = .ok (.ifCond .eq 18, 3) := by decide +kernel
theorem dX12_reads_80 : decode cX12_reads 80 = .ok (.aload_n 0, 1) := by decide +kernel
theorem dX12_reads_81 : decode cX12_reads 81 = .ok (.getfield 162, 3) := by decide +kernel
theorem dX12_reads_84 : decode cX12_reads 84 = .ok (.aload_n 0, 1) := by decide +kernel
theorem dX12_reads_85 : decode cX12_reads 85 = .ok (.getfield 143, 3) := by decide +kernel
theorem dX12_reads_88 : decode cX12_reads 88 = .ok (.if_icmp .ge 7, 3) := by decide +kernel
theorem dX12_reads_91 : decode cX12_reads 91 = .ok (.aload_n 0, 1) := by decide +kernel
theorem dX12_reads_92 : decode cX12_reads 92 = .ok (.invokevirtual 168, 3) := by decide +kernel
theorem dX12_reads_95 : decode cX12_reads 95 = .ok (.aload_n 0, 1) := by decide +kernel
theorem dX12_reads_96 : decode cX12_reads 96 = .ok (.aload_n 0, 1) := by decide +kernel
theorem dX12_reads_97 : decode cX12_reads 97 = .ok (.getfield 156, 3) := by decide +kernel
theorem dX12_reads_100 : decode cX12_reads 100 = .ok (.putfield 51, 3) := by decide +kernel
theorem dX12_reads_103 : decode cX12_reads 103 = .ok (.aload_n 0, 1) := by decide +kernel
theorem dX12_reads_104 : decode cX12_reads 104 = .ok (.invokevirtual 159, 3) := by decide +kernel
theorem dX12_reads_107 : decode cX12_reads 107 = .ok (.ireturn, 1) := by decide +kernel
theorem dX12_readsAs_0 : decode cX12_readsAs 0 = .ok (.aload_n 0, 1) := by decide +kernel
theorem dX12_readsAs_1 : decode cX12_readsAs 1 = .ok (.iload_n 1, 1) := by decide +kernel
theorem dX12_readsAs_2 : decode cX12_readsAs 2 = .ok (.putfield 191, 3) := by decide +kernel
theorem dX12_readsAs_5 : decode cX12_readsAs 5 = .ok (.aload_n 0, 1) := by decide +kernel
theorem dX12_readsAs_6 : decode cX12_readsAs 6 = .ok (.iload_n 1, 1) := by decide +kernel
theorem dX12_readsAs_7 : decode cX12_readsAs 7 = .ok (.ifCond .eq 8, 3) := by decide +kernel
theorem dX12_readsAs_10 : decode cX12_readsAs 10 = .ok (.bipush 13, 2) := by decide +kernel
theorem dX12_readsAs_12 : decode cX12_readsAs 12 = .ok (.goto 5, 3) := by decide +kernel
theorem dX12_readsAs_15 : decode cX12_readsAs 15 = .ok (.bipush 7, 2) := by decide +kernel
theorem dX12_readsAs_17 : decode cX12_readsAs 17 = .ok (.putfield 217, 3) := by decide +kernel
theorem dX12_readsAs_20 : decode cX12_readsAs 20 = .ok (.aload_n 0, 1) := by decide +kernel
theorem dX12_readsAs_21 : decode cX12_readsAs 21 = .ok (.iload_n 1, 1) := by decide +kernel
theorem dX12_readsAs_22 : decode cX12_readsAs 22 = .ok (.ifCond .eq 8, 3) := by decide +kernel
theorem dX12_readsAs_25 : decode cX12_readsAs 25 = .ok (.bipush 19, 2) := by decide +kernel
theorem dX12_readsAs_27 : decode cX12_readsAs 27 = .ok (.goto 5, 3) := by decide +kernel
theorem dX12_readsAs_30 : decode cX12_readsAs 30 = .ok (.bipush 13, 2) := by decide +kernel
theorem dX12_readsAs_32 : decode cX12_readsAs 32 = .ok (.putfield 220, 3) := by decide +kernel
theorem dX12_readsAs_35 : decode cX12_readsAs 35 = .ok (.aload_n 0, 1) := by decide +kernel
theorem dX12_readsAs_36 : decode cX12_readsAs 36 = .ok (.invokevirtual 232, 3) := by decide +kernel
theorem dX12_readsAs_39 : decode cX12_readsAs 39 = .ok (.ireturn, 1) := by decide +kernel
theorem dX12_lays_0 : decode cX12_lays 0 = .ok (.aload_n 0, 1) := by decide +kernel
theorem dX12_lays_1 : decode cX12_lays 1 = .ok (.getfield 28, 3) := by decide +kernel
theorem dX12_lays_4 : decode cX12_lays 4 = .ok (.sipush 208, 3) := by decide +kernel
theorem dX12_lays_7 : decode cX12_lays 7 = .ok (.iload_n 1, 1) := by decide +kernel
theorem dX12_lays_8 : decode cX12_lays 8 = .ok (.iadd, 1) := by decide +kernel
theorem dX12_lays_9 : decode cX12_lays 9 = .ok (.aload_n 0, 1) := by decide +kernel
theorem dX12_lays_10 : decode cX12_lays 10 = .ok (.getfield 143, 3) := by decide +kernel
theorem dX12_lays_13 : decode cX12_lays 13 = .ok (.iastore, 1) := by decide +kernel
theorem dX12_lays_14 : decode cX12_lays 14 = .ok (.iconst 0, 1) := by decide +kernel
theorem dX12_lays_15 : decode cX12_lays 15 = .ok (.istore_n 2, 1) := by decide +kernel
theorem dX12_lays_16 : decode cX12_lays 16 = .ok (.iload_n 2, 1) := by decide +kernel
theorem dX12_lays_17 : decode cX12_lays 17 = .ok (.aload_n 0, 1) := by decide +kernel
theorem dX12_lays_18 : decode cX12_lays 18 = .ok (.getfield 143, 3) := by decide +kernel
theorem dX12_lays_21 : decode cX12_lays 21 = .ok (.if_icmp .ge 53, 3) := by decide +kernel
theorem dX12_lays_24 : decode cX12_lays 24 = .ok (.aload_n 0, 1) := by decide +kernel
theorem dX12_lays_25 : decode cX12_lays 25 = .ok (.getfield 28, 3) := by decide +kernel
theorem dX12_lays_28 : decode cX12_lays 28 = .ok (.sipush 215, 3) := by decide +kernel
theorem dX12_lays_31 : decode cX12_lays 31 = .ok (.sipush 400, 3) := by decide +kernel
theorem dX12_lays_34 : decode cX12_lays 34 = .ok (.iload_n 1, 1) := by decide +kernel
theorem dX12_lays_35 : decode cX12_lays 35 = .ok (.imul, 1) := by decide +kernel
theorem dX12_lays_36 : decode cX12_lays 36 = .ok (.iadd, 1) := by decide +kernel
theorem dX12_lays_37 : decode cX12_lays 37 = .ok (.iload_n 2, 1) := by decide +kernel
theorem dX12_lays_38 : decode cX12_lays 38 = .ok (.iadd, 1) := by decide +kernel
theorem dX12_lays_39 : decode cX12_lays 39 = .ok (.aload_n 0, 1) := by decide +kernel
theorem dX12_lays_40 : decode cX12_lays 40 = .ok (.getfield 54, 3) := by decide +kernel
theorem dX12_lays_43 : decode cX12_lays 43 = .ok (.iload_n 2, 1) := by decide +kernel
theorem dX12_lays_44 : decode cX12_lays 44 = .ok (.iaload, 1) := by decide +kernel
theorem dX12_lays_45 : decode cX12_lays 45 = .ok (.iastore, 1) := by decide +kernel
theorem dX12_lays_46 : decode cX12_lays 46 = .ok (.aload_n 0, 1) := by decide +kernel
theorem dX12_lays_47 : decode cX12_lays 47 = .ok (.getfield 28, 3) := by decide +kernel
theorem dX12_lays_50 : decode cX12_lays 50 = .ok (.sipush 3015, 3) := by decide +kernel
theorem dX12_lays_53 : decode cX12_lays 53 = .ok (.sipush 400, 3) := by decide +kernel
theorem dX12_lays_56 : decode cX12_lays 56 = .ok (.iload_n 1, 1) := by decide +kernel
theorem dX12_lays_57 : decode cX12_lays 57 = .ok (.imul, 1) := by decide +kernel
theorem dX12_lays_58 : decode cX12_lays 58 = .ok (.iadd, 1) := by decide +kernel
theorem dX12_lays_59 : decode cX12_lays 59 = .ok (.iload_n 2, 1) := by decide +kernel
theorem dX12_lays_60 : decode cX12_lays 60 = .ok (.iadd, 1) := by decide +kernel
theorem dX12_lays_61 : decode cX12_lays 61 = .ok (.aload_n 0, 1) := by decide +kernel
theorem dX12_lays_62 : decode cX12_lays 62 = .ok (.getfield 57, 3) := by decide +kernel
theorem dX12_lays_65 : decode cX12_lays 65 = .ok (.iload_n 2, 1) := by decide +kernel
theorem dX12_lays_66 : decode cX12_lays 66 = .ok (.iaload, 1) := by decide +kernel
theorem dX12_lays_67 : decode cX12_lays 67 = .ok (.iastore, 1) := by decide +kernel
theorem dX12_lays_68 : decode cX12_lays 68 = .ok (.iinc 2 1, 3) := by decide +kernel
theorem dX12_lays_71 : decode cX12_lays 71 = .ok (.goto (-55), 3) := by decide +kernel
theorem dX12_lays_74 : decode cX12_lays 74 = .ok (.return_, 1) := by decide +kernel
theorem dX12_law_0 : decode cX12_law 0 = .ok (.aload_n 0, 1) := by decide +kernel
theorem dX12_law_1 : decode cX12_law 1 = .ok (.getfield 28, 3) := by decide +kernel
theorem dX12_law_4 : decode cX12_law 4 = .ok (.sipush 206, 3) := by decide +kernel
theorem dX12_law_7 : decode cX12_law 7 = .ok (.iaload, 1) := by decide +kernel
theorem dX12_law_8 : decode cX12_law 8 = .ok (.bipush 6, 2) := by decide +kernel
theorem dX12_law_10 : decode cX12_law 10 = .ok (.if_icmp .ne 15, 3) := by decide +kernel
theorem dX12_law_13 : decode cX12_law 13 = .ok (.aload_n 0, 1) := by decide +kernel
theorem dX12_law_14 : decode cX12_law 14 = .ok (.iconst 0, 1) := by decide +kernel
theorem dX12_law_15 : decode cX12_law 15 = .ok (.putfield 133, 3) := by decide +kernel
theorem dX12_law_18 : decode cX12_law 18 = .ok (.aload_n 0, 1) := by decide +kernel
theorem dX12_law_19 : decode cX12_law 19 = .ok (.bipush (-5), 2) := by decide +kernel
theorem dX12_law_21 : decode cX12_law 21 = .ok (.invokevirtual 85, 3) := by decide +kernel
theorem dX12_law_24 : decode cX12_law 24 = .ok (.ireturn, 1) := by decide +kernel
theorem dX12_law_25 : decode cX12_law 25 = .ok (.aload_n 0, 1) := by decide +kernel
theorem dX12_law_26 : decode cX12_law 26 = .ok (.iconst 0, 1) := by decide +kernel
theorem dX12_law_27 : decode cX12_law 27 = .ok (.invokevirtual 235, 3) := by decide +kernel
theorem dX12_law_30 : decode cX12_law 30 = .ok (.ifCond .ne 10, 3) := by decide +kernel
theorem dX12_law_33 : decode cX12_law 33 = .ok (.aload_n 0, 1) := by decide +kernel
theorem dX12_law_34 : decode cX12_law 34 = .ok (.bipush (-6), 2) := by decide +kernel
theorem dX12_law_36 : decode cX12_law 36 = .ok (.invokevirtual 85, 3) := by decide +kernel
theorem dX12_law_39 : decode cX12_law 39 = .ok (.ireturn, 1) := by decide +kernel
theorem dX12_law_40 : decode cX12_law 40 = .ok (.aload_n 0, 1) := by decide +kernel
theorem dX12_law_41 : decode cX12_law 41 = .ok (.aload_n 0, 1) := by decide +kernel
theorem dX12_law_42 : decode cX12_law 42 = .ok (.getfield 28, 3) := by decide +kernel
theorem dX12_law_45 : decode cX12_law 45 = .ok (.sipush 206, 3) := by decide +kernel
theorem dX12_law_48 : decode cX12_law 48 = .ok (.iaload, 1) := by decide +kernel
theorem dX12_law_49 : decode cX12_law 49 = .ok (.invokevirtual 239, 3) := by decide +kernel
theorem dX12_law_52 : decode cX12_law 52 = .ok (.aload_n 0, 1) := by decide +kernel
theorem dX12_law_53 : decode cX12_law 53 = .ok (.getfield 28, 3) := by decide +kernel
theorem dX12_law_56 : decode cX12_law 56 = .ok (.sipush 206, 3) := by decide +kernel
theorem dX12_law_59 : decode cX12_law 59 = .ok (.dup2, 1) := by decide +kernel
theorem dX12_law_60 : decode cX12_law 60 = .ok (.iaload, 1) := by decide +kernel
theorem dX12_law_61 : decode cX12_law 61 = .ok (.iconst 1, 1) := by decide +kernel
theorem dX12_law_62 : decode cX12_law 62 = .ok (.iadd, 1) := by decide +kernel
theorem dX12_law_63 : decode cX12_law 63 = .ok (.iastore, 1) := by decide +kernel
theorem dX12_law_64 : decode cX12_law 64 = .ok (.aload_n 0, 1) := by decide +kernel
theorem dX12_law_65 : decode cX12_law 65 = .ok (.aload_n 0, 1) := by decide +kernel
theorem dX12_law_66 : decode cX12_law 66 = .ok (.getfield 28, 3) := by decide +kernel
theorem dX12_law_69 : decode cX12_law 69 = .ok (.sipush 206, 3) := by decide +kernel
theorem dX12_law_72 : decode cX12_law 72 = .ok (.iaload, 1) := by decide +kernel
theorem dX12_law_73 : decode cX12_law 73 = .ok (.iconst 1, 1) := by decide +kernel
theorem dX12_law_74 : decode cX12_law 74 = .ok (.isub, 1) := by decide +kernel
theorem dX12_law_75 : decode cX12_law 75 = .ok (.invokevirtual 14, 3) := by decide +kernel
theorem dX12_law_78 : decode cX12_law 78 = .ok (.ireturn, 1) := by decide +kernel
theorem dX12_fault_0 : decode cX12_fault 0 = .ok (.aload_n 0, 1) := by decide +kernel
theorem dX12_fault_1 : decode cX12_fault 1 = .ok (.getfield 51, 3) := by decide +kernel
theorem dX12_fault_4 : decode cX12_fault 4 = .ok (.ireturn, 1) := by decide +kernel
theorem dX12_isLaw_0 : decode cX12_isLaw 0 = .ok (.iload_n 1, 1) := by decide +kernel
theorem dX12_isLaw_1 : decode cX12_isLaw 1 = .ok (.iconst (-1), 1) := by decide +kernel
theorem dX12_isLaw_2 : decode cX12_isLaw 2 = .ok (.aload_n 0, 1) := by decide +kernel
theorem dX12_isLaw_3 : decode cX12_isLaw 3 = .ok (.getfield 28, 3) := by decide +kernel
theorem dX12_isLaw_6 : decode cX12_isLaw 6 = .ok (.sipush 206, 3) := by decide +kernel
theorem dX12_isLaw_9 : decode cX12_isLaw 9 = .ok (.iaload, 1) := by decide +kernel
theorem dX12_isLaw_10 : decode cX12_isLaw 10 = .ok (.iconst 1, 1) := by decide +kernel
theorem dX12_isLaw_11 : decode cX12_isLaw 11 = .ok (.isub, 1) := by decide +kernel
theorem dX12_isLaw_12 : decode cX12_isLaw 12 = .ok (.invokestatic 18, 3) := by decide +kernel
theorem dX12_isLaw_15 : decode cX12_isLaw 15 = .ok (.ireturn, 1) := by decide +kernel
theorem dX12_force_0 : decode cX12_force 0 = .ok (.aload_n 0, 1) := by decide +kernel
theorem dX12_force_1 : decode cX12_force 1 = .ok (.iload_n 1, 1) := by decide +kernel
theorem dX12_force_2 : decode cX12_force 2 = .ok (.invokevirtual 242, 3) := by decide +kernel
theorem dX12_force_5 : decode cX12_force 5 = .ok (.ifCond .ne 10, 3) := by decide +kernel
theorem dX12_force_8 : decode cX12_force 8 = .ok (.aload_n 0, 1) := by decide +kernel
theorem dX12_force_9 : decode cX12_force 9 = .ok (.bipush (-2), 2) := by decide +kernel
theorem dX12_force_11 : decode cX12_force 11 = .ok (.invokevirtual 85, 3) := by decide +kernel
theorem dX12_force_14 : decode cX12_force 14 = .ok (.ireturn, 1) := by decide +kernel
theorem dX12_force_15 : decode cX12_force 15 = .ok (.aload_n 0, 1) := by decide +kernel
theorem dX12_force_16 : decode cX12_force 16 = .ok (.getfield 28, 3) := by decide +kernel
theorem dX12_force_19 : decode cX12_force 19 = .ok (.sipush 207, 3) := by decide +kernel
theorem dX12_force_22 : decode cX12_force 22 = .ok (.iaload, 1) := by decide +kernel
theorem dX12_force_23 : decode cX12_force 23 = .ok (.istore_n 2, 1) := by decide +kernel
theorem dX12_force_24 : decode cX12_force 24 = .ok (.aload_n 0, 1) := by decide +kernel
theorem dX12_force_25 : decode cX12_force 25 = .ok (.getfield 28, 3) := by decide +kernel
theorem dX12_force_28 : decode cX12_force 28 = .ok (.sipush 207, 3) := by decide +kernel
theorem dX12_force_31 : decode cX12_force 31 = .ok (.iload_n 1, 1) := by decide +kernel
theorem dX12_force_32 : decode cX12_force 32 = .ok (.iastore, 1) := by decide +kernel
theorem dX12_force_33 : decode cX12_force 33 = .ok (.aload_n 0, 1) := by decide +kernel
theorem dX12_force_34 : decode cX12_force 34 = .ok (.iload_n 2, 1) := by decide +kernel
theorem dX12_force_35 : decode cX12_force 35 = .ok (.invokevirtual 14, 3) := by decide +kernel
theorem dX12_force_38 : decode cX12_force 38 = .ok (.ireturn, 1) := by decide +kernel
theorem dX12_costsAt_0 : decode cX12_costsAt 0 = .ok (.aload_n 0, 1) := by decide +kernel
theorem dX12_costsAt_1 : decode cX12_costsAt 1 = .ok (.iload_n 1, 1) := by decide +kernel
theorem dX12_costsAt_2 : decode cX12_costsAt 2 = .ok (.iload_n 1, 1) := by decide +kernel
theorem dX12_costsAt_3 : decode cX12_costsAt 3 = .ok (.invokestatic 304, 3) := by decide +kernel
theorem dX12_costsAt_6 : decode cX12_costsAt 6 = .ok (.iload_n 2, 1) := by decide +kernel
theorem dX12_costsAt_7 : decode cX12_costsAt 7 = .ok (.aload_n 0, 1) := by decide +kernel
theorem dX12_costsAt_8 : decode cX12_costsAt 8 = .ok (.getfield 28, 3) := by decide +kernel
theorem dX12_costsAt_11 : decode cX12_costsAt 11 = .ok (.sipush 164, 3) := by decide +kernel
theorem dX12_costsAt_14 : decode cX12_costsAt 14 = .ok (.iaload, 1) := by decide +kernel
theorem dX12_costsAt_15 : decode cX12_costsAt 15 = .ok (.iconst (-1), 1) := by decide +kernel
theorem dX12_costsAt_16 : decode cX12_costsAt 16 = .ok (.invokevirtual 307, 3) := by decide +kernel
theorem dX12_costsAt_19 : decode cX12_costsAt 19 = .ok (.aload_n 0, 1) := by decide +kernel
theorem dX12_costsAt_20 : decode cX12_costsAt 20 = .ok (.iconst 1, 1) := by decide +kernel
theorem dX12_costsAt_21 : decode cX12_costsAt 21 = .ok (.iconst 1, 1) := by decide +kernel
theorem dX12_costsAt_22 : decode cX12_costsAt 22 = .ok (.invokevirtual 311, 3) := by decide +kernel
theorem dX12_costsAt_25 : decode cX12_costsAt 25 = .ok (.ireturn, 1) := by decide +kernel
theorem dX12_drops_0 : decode cX12_drops 0 = .ok (.iload_n 1, 1) := by decide +kernel
theorem dX12_drops_1 : decode cX12_drops 1 = .ok (.invokestatic 121, 3) := by decide +kernel
theorem dX12_drops_4 : decode cX12_drops 4 = .ok (.ifCond .ne 5, 3) := by decide +kernel
theorem dX12_drops_7 : decode cX12_drops 7 = .ok (.iconst (-1), 1) := by decide +kernel
theorem dX12_drops_8 : decode cX12_drops 8 = .ok (.ireturn, 1) := by decide +kernel
theorem dX12_drops_9 : decode cX12_drops 9 = .ok (.aload_n 0, 1) := by decide +kernel
theorem dX12_drops_10 : decode cX12_drops 10 = .ok (.iload_n 1, 1) := by decide +kernel
theorem dX12_drops_11 : decode cX12_drops 11 = .ok (.invokevirtual 321, 3) := by decide +kernel
theorem dX12_drops_14 : decode cX12_drops 14 = .ok (.istore_n 2, 1) := by decide +kernel
theorem dX12_drops_15 : decode cX12_drops 15 = .ok (.aload_n 0, 1) := by decide +kernel
theorem dX12_drops_16 : decode cX12_drops 16 = .ok (.getfield 28, 3) := by decide +kernel
theorem dX12_drops_19 : decode cX12_drops 19 = .ok (.iload_n 2, 1) := by decide +kernel
theorem dX12_drops_20 : decode cX12_drops 20 = .ok (.iaload, 1) := by decide +kernel
theorem dX12_drops_21 : decode cX12_drops 21 = .ok (.istore_n 3, 1) := by decide +kernel
theorem dX12_drops_22 : decode cX12_drops 22 = .ok (.iload_n 3, 1) := by decide +kernel
theorem dX12_drops_23 : decode cX12_drops 23 = .ok (.iconst (-1), 1) := by decide +kernel
theorem dX12_drops_24 : decode cX12_drops 24 = .ok (.if_icmp .eq 16, 3) := by decide +kernel
theorem dX12_drops_27 : decode cX12_drops 27 = .ok (.aload_n 0, 1) := by decide +kernel
theorem dX12_drops_28 : decode cX12_drops 28 = .ok (.getfield 28, 3) := by decide +kernel
theorem dX12_drops_31 : decode cX12_drops 31 = .ok (.bipush 24, 2) := by decide +kernel
theorem dX12_drops_33 : decode cX12_drops 33 = .ok (.iload_n 3, 1) := by decide +kernel
theorem dX12_drops_34 : decode cX12_drops 34 = .ok (.iadd, 1) := by decide +kernel
theorem dX12_drops_35 : decode cX12_drops 35 = .ok (.iaload, 1) := by decide +kernel
theorem dX12_drops_36 : decode cX12_drops 36 = .ok (.iload_n 1, 1) := by decide +kernel
theorem dX12_drops_37 : decode cX12_drops 37 = .ok (.if_icmp .eq 6, 3) := by decide +kernel
theorem dX12_drops_40 : decode cX12_drops 40 = .ok (.bipush (-3), 2) := by decide +kernel
theorem dX12_drops_42 : decode cX12_drops 42 = .ok (.ireturn, 1) := by decide +kernel
theorem dX12_drops_43 : decode cX12_drops 43 = .ok (.aload_n 0, 1) := by decide +kernel
theorem dX12_drops_44 : decode cX12_drops 44 = .ok (.getfield 28, 3) := by decide +kernel
theorem dX12_drops_47 : decode cX12_drops 47 = .ok (.iload_n 2, 1) := by decide +kernel
theorem dX12_drops_48 : decode cX12_drops 48 = .ok (.aload_n 0, 1) := by decide +kernel
theorem dX12_drops_49 : decode cX12_drops 49 = .ok (.getfield 28, 3) := by decide +kernel
theorem dX12_drops_52 : decode cX12_drops 52 = .ok (.bipush 72, 2) := by decide +kernel
theorem dX12_drops_54 : decode cX12_drops 54 = .ok (.iload_n 3, 1) := by decide +kernel
theorem dX12_drops_55 : decode cX12_drops 55 = .ok (.iadd, 1) := by decide +kernel
theorem dX12_drops_56 : decode cX12_drops 56 = .ok (.iaload, 1) := by decide +kernel
theorem dX12_drops_57 : decode cX12_drops 57 = .ok (.iastore, 1) := by decide +kernel
theorem dX12_drops_58 : decode cX12_drops 58 = .ok (.aload_n 0, 1) := by decide +kernel
theorem dX12_drops_59 : decode cX12_drops 59 = .ok (.iload_n 3, 1) := by decide +kernel
theorem dX12_drops_60 : decode cX12_drops 60 = .ok (.invokevirtual 324, 3) := by decide +kernel
theorem dX12_drops_63 : decode cX12_drops 63 = .ok (.iload_n 3, 1) := by decide +kernel
theorem dX12_drops_64 : decode cX12_drops 64 = .ok (.ireturn, 1) := by decide +kernel
theorem dX12_enters_0 : decode cX12_enters 0 = .ok (.iload_n 1, 1) := by decide +kernel
theorem dX12_enters_1 : decode cX12_enters 1 = .ok (.invokestatic 106, 3) := by decide +kernel
theorem dX12_enters_4 : decode cX12_enters 4 = .ok (.ifCond .ne 5, 3) := by decide +kernel
theorem dX12_enters_7 : decode cX12_enters 7 = .ok (.iconst (-1), 1) := by decide +kernel
theorem dX12_enters_8 : decode cX12_enters 8 = .ok (.ireturn, 1) := by decide +kernel
theorem dX12_enters_9 : decode cX12_enters 9 = .ok (.aload_n 0, 1) := by decide +kernel
theorem dX12_enters_10 : decode cX12_enters 10 = .ok (.iload_n 1, 1) := by decide +kernel
theorem dX12_enters_11 : decode cX12_enters 11 = .ok (.invokevirtual 102, 3) := by decide +kernel
theorem dX12_enters_14 : decode cX12_enters 14 = .ok (.ifCond .eq 6, 3) := by decide +kernel
theorem dX12_enters_17 : decode cX12_enters 17 = .ok (.bipush (-3), 2) := by decide +kernel
theorem dX12_enters_19 : decode cX12_enters 19 = .ok (.ireturn, 1) := by decide +kernel
theorem dX12_enters_20 : decode cX12_enters 20 = .ok (.aload_n 0, 1) := by decide +kernel
theorem dX12_enters_21 : decode cX12_enters 21 = .ok (.getfield 28, 3) := by decide +kernel
theorem dX12_enters_24 : decode cX12_enters 24 = .ok (.bipush 97, 2) := by decide +kernel
theorem dX12_enters_26 : decode cX12_enters 26 = .ok (.iload_n 1, 1) := by decide +kernel
theorem dX12_enters_27 : decode cX12_enters 27 = .ok (.iadd, 1) := by decide +kernel
theorem dX12_enters_28 : decode cX12_enters 28 = .ok (.iconst 1, 1) := by decide +kernel
theorem dX12_enters_29 : decode cX12_enters 29 = .ok (.iastore, 1) := by decide +kernel
theorem dX12_enters_30 : decode cX12_enters 30 = .ok (.aload_n 0, 1) := by decide +kernel
theorem dX12_enters_31 : decode cX12_enters 31 = .ok (.getfield 28, 3) := by decide +kernel
theorem dX12_enters_34 : decode cX12_enters 34 = .ok (.bipush 105, 2) := by decide +kernel
theorem dX12_enters_36 : decode cX12_enters 36 = .ok (.iload_n 1, 1) := by decide +kernel
theorem dX12_enters_37 : decode cX12_enters 37 = .ok (.iadd, 1) := by decide +kernel
theorem dX12_enters_38 : decode cX12_enters 38 = .ok (.aload_n 0, 1) := by decide +kernel
theorem dX12_enters_39 : decode cX12_enters 39 = .ok (.getfield 28, 3) := by decide +kernel
theorem dX12_enters_42 : decode cX12_enters 42 = .ok (.bipush 96, 2) := by decide +kernel
theorem dX12_enters_44 : decode cX12_enters 44 = .ok (.iaload, 1) := by decide +kernel
theorem dX12_enters_45 : decode cX12_enters 45 = .ok (.iastore, 1) := by decide +kernel
theorem dX12_enters_46 : decode cX12_enters 46 = .ok (.aload_n 0, 1) := by decide +kernel
theorem dX12_enters_47 : decode cX12_enters 47 = .ok (.getfield 28, 3) := by decide +kernel
theorem dX12_enters_50 : decode cX12_enters 50 = .ok (.bipush 113, 2) := by decide +kernel
theorem dX12_enters_52 : decode cX12_enters 52 = .ok (.iload_n 1, 1) := by decide +kernel
theorem dX12_enters_53 : decode cX12_enters 53 = .ok (.iadd, 1) := by decide +kernel
theorem dX12_enters_54 : decode cX12_enters 54 = .ok (.iconst 0, 1) := by decide +kernel
theorem dX12_enters_55 : decode cX12_enters 55 = .ok (.iastore, 1) := by decide +kernel
theorem dX12_enters_56 : decode cX12_enters 56 = .ok (.iconst 1, 1) := by decide +kernel
theorem dX12_enters_57 : decode cX12_enters 57 = .ok (.aload_n 0, 1) := by decide +kernel
theorem dX12_enters_58 : decode cX12_enters 58 = .ok (.getfield 28, 3) := by decide +kernel
theorem dX12_enters_61 : decode cX12_enters 61 = .ok (.bipush 96, 2) := by decide +kernel
theorem dX12_enters_63 : decode cX12_enters 63 = .ok (.iaload, 1) := by decide +kernel
theorem dX12_enters_64 : decode cX12_enters 64 = .ok (.iadd, 1) := by decide +kernel
theorem dX12_enters_65 : decode cX12_enters 65 = .ok (.ireturn, 1) := by decide +kernel
theorem dX12_steps_0 : decode cX12_steps 0 = .ok (.iload_n 1, 1) := by decide +kernel
theorem dX12_steps_1 : decode cX12_steps 1 = .ok (.invokestatic 106, 3) := by decide +kernel
theorem dX12_steps_4 : decode cX12_steps 4 = .ok (.ifCond .ne 5, 3) := by decide +kernel
theorem dX12_steps_7 : decode cX12_steps 7 = .ok (.iconst (-1), 1) := by decide +kernel
theorem dX12_steps_8 : decode cX12_steps 8 = .ok (.ireturn, 1) := by decide +kernel
theorem dX12_steps_9 : decode cX12_steps 9 = .ok (.aload_n 0, 1) := by decide +kernel
theorem dX12_steps_10 : decode cX12_steps 10 = .ok (.iload_n 1, 1) := by decide +kernel
theorem dX12_steps_11 : decode cX12_steps 11 = .ok (.invokevirtual 327, 3) := by decide +kernel
theorem dX12_steps_14 : decode cX12_steps 14 = .ok (.ifCond .ne 12, 3) := by decide +kernel
theorem dX12_steps_17 : decode cX12_steps 17 = .ok (.aload_n 0, 1) := by decide +kernel
theorem dX12_steps_18 : decode cX12_steps 18 = .ok (.iload_n 1, 1) := by decide +kernel
theorem dX12_steps_19 : decode cX12_steps 19 = .ok (.invokevirtual 109, 3) := by decide +kernel
theorem dX12_steps_22 : decode cX12_steps 22 = .ok (.iconst (-1), 1) := by decide +kernel
theorem dX12_steps_23 : decode cX12_steps 23 = .ok (.if_icmp .ne 6, 3) := by decide +kernel
theorem dX12_steps_26 : decode cX12_steps 26 = .ok (.bipush (-3), 2) := by decide +kernel
theorem dX12_steps_28 : decode cX12_steps 28 = .ok (.ireturn, 1) := by decide +kernel
theorem dX12_steps_29 : decode cX12_steps 29 = .ok (.aload_n 0, 1) := by decide +kernel
theorem dX12_steps_30 : decode cX12_steps 30 = .ok (.getfield 28, 3) := by decide +kernel
theorem dX12_steps_33 : decode cX12_steps 33 = .ok (.bipush 105, 2) := by decide +kernel
theorem dX12_steps_35 : decode cX12_steps 35 = .ok (.iload_n 1, 1) := by decide +kernel
theorem dX12_steps_36 : decode cX12_steps 36 = .ok (.iadd, 1) := by decide +kernel
theorem dX12_steps_37 : decode cX12_steps 37 = .ok (.aload_n 0, 1) := by decide +kernel
theorem dX12_steps_38 : decode cX12_steps 38 = .ok (.getfield 28, 3) := by decide +kernel
theorem dX12_steps_41 : decode cX12_steps 41 = .ok (.bipush 72, 2) := by decide +kernel
theorem dX12_steps_43 : decode cX12_steps 43 = .ok (.aload_n 0, 1) := by decide +kernel
theorem dX12_steps_44 : decode cX12_steps 44 = .ok (.getfield 28, 3) := by decide +kernel
theorem dX12_steps_47 : decode cX12_steps 47 = .ok (.bipush 105, 2) := by decide +kernel
theorem dX12_steps_49 : decode cX12_steps 49 = .ok (.iload_n 1, 1) := by decide +kernel
theorem dX12_steps_50 : decode cX12_steps 50 = .ok (.iadd, 1) := by decide +kernel
theorem dX12_steps_51 : decode cX12_steps 51 = .ok (.iaload, 1) := by decide +kernel
theorem dX12_steps_52 : decode cX12_steps 52 = .ok (.iadd, 1) := by decide +kernel
theorem dX12_steps_53 : decode cX12_steps 53 = .ok (.iaload, 1) := by decide +kernel
theorem dX12_steps_54 : decode cX12_steps 54 = .ok (.iastore, 1) := by decide +kernel
theorem dX12_steps_55 : decode cX12_steps 55 = .ok (.iconst 1, 1) := by decide +kernel
theorem dX12_steps_56 : decode cX12_steps 56 = .ok (.aload_n 0, 1) := by decide +kernel
theorem dX12_steps_57 : decode cX12_steps 57 = .ok (.getfield 28, 3) := by decide +kernel
theorem dX12_steps_60 : decode cX12_steps 60 = .ok (.bipush 105, 2) := by decide +kernel
theorem dX12_steps_62 : decode cX12_steps 62 = .ok (.iload_n 1, 1) := by decide +kernel
theorem dX12_steps_63 : decode cX12_steps 63 = .ok (.iadd, 1) := by decide +kernel
theorem dX12_steps_64 : decode cX12_steps 64 = .ok (.iaload, 1) := by decide +kernel
theorem dX12_steps_65 : decode cX12_steps 65 = .ok (.iadd, 1) := by decide +kernel
theorem dX12_steps_66 : decode cX12_steps 66 = .ok (.ireturn, 1) := by decide +kernel
theorem dX12_parks_0 : decode cX12_parks 0 = .ok (.iload_n 1, 1) := by decide +kernel
theorem dX12_parks_1 : decode cX12_parks 1 = .ok (.invokestatic 106, 3) := by decide +kernel
theorem dX12_parks_4 : decode cX12_parks 4 = .ok (.ifCond .ne 5, 3) := by decide +kernel
theorem dX12_parks_7 : decode cX12_parks 7 = .ok (.iconst (-1), 1) := by decide +kernel
theorem dX12_parks_8 : decode cX12_parks 8 = .ok (.ireturn, 1) := by decide +kernel
theorem dX12_parks_9 : decode cX12_parks 9 = .ok (.aload_n 0, 1) := by decide +kernel
theorem dX12_parks_10 : decode cX12_parks 10 = .ok (.iload_n 1, 1) := by decide +kernel
theorem dX12_parks_11 : decode cX12_parks 11 = .ok (.invokevirtual 102, 3) := by decide +kernel
theorem dX12_parks_14 : decode cX12_parks 14 = .ok (.ifCond .eq 11, 3) := by decide +kernel
theorem dX12_parks_17 : decode cX12_parks 17 = .ok (.aload_n 0, 1) := by decide +kernel
theorem dX12_parks_18 : decode cX12_parks 18 = .ok (.iload_n 1, 1) := by decide +kernel
theorem dX12_parks_19 : decode cX12_parks 19 = .ok (.invokevirtual 327, 3) := by decide +kernel
theorem dX12_parks_22 : decode cX12_parks 22 = .ok (.ifCond .eq 6, 3) := by decide +kernel
theorem dX12_parks_25 : decode cX12_parks 25 = .ok (.bipush (-3), 2) := by decide +kernel
theorem dX12_parks_27 : decode cX12_parks 27 = .ok (.ireturn, 1) := by decide +kernel
theorem dX12_parks_28 : decode cX12_parks 28 = .ok (.aload_n 0, 1) := by decide +kernel
theorem dX12_parks_29 : decode cX12_parks 29 = .ok (.getfield 28, 3) := by decide +kernel
theorem dX12_parks_32 : decode cX12_parks 32 = .ok (.bipush 113, 2) := by decide +kernel
theorem dX12_parks_34 : decode cX12_parks 34 = .ok (.iload_n 1, 1) := by decide +kernel
theorem dX12_parks_35 : decode cX12_parks 35 = .ok (.iadd, 1) := by decide +kernel
theorem dX12_parks_36 : decode cX12_parks 36 = .ok (.iconst 1, 1) := by decide +kernel
theorem dX12_parks_37 : decode cX12_parks 37 = .ok (.iastore, 1) := by decide +kernel
theorem dX12_parks_38 : decode cX12_parks 38 = .ok (.aload_n 0, 1) := by decide +kernel
theorem dX12_parks_39 : decode cX12_parks 39 = .ok (.getfield 28, 3) := by decide +kernel
theorem dX12_parks_42 : decode cX12_parks 42 = .ok (.bipush 121, 2) := by decide +kernel
theorem dX12_parks_44 : decode cX12_parks 44 = .ok (.iload_n 1, 1) := by decide +kernel
theorem dX12_parks_45 : decode cX12_parks 45 = .ok (.iadd, 1) := by decide +kernel
theorem dX12_parks_46 : decode cX12_parks 46 = .ok (.aload_n 0, 1) := by decide +kernel
theorem dX12_parks_47 : decode cX12_parks 47 = .ok (.iload_n 1, 1) := by decide +kernel
theorem dX12_parks_48 : decode cX12_parks 48 = .ok (.invokevirtual 112, 3) := by decide +kernel
theorem dX12_parks_51 : decode cX12_parks 51 = .ok (.ifCond .eq 7, 3) := by decide +kernel
theorem dX12_parks_54 : decode cX12_parks 54 = .ok (.iconst 0, 1) := by decide +kernel
theorem dX12_parks_55 : decode cX12_parks 55 = .ok (.goto 4, 3) := by decide +kernel
theorem dX12_parks_58 : decode cX12_parks 58 = .ok (.iconst 1, 1) := by decide +kernel
theorem dX12_parks_59 : decode cX12_parks 59 = .ok (.iastore, 1) := by decide +kernel
theorem dX12_parks_60 : decode cX12_parks 60 = .ok (.iload_n 1, 1) := by decide +kernel
theorem dX12_parks_61 : decode cX12_parks 61 = .ok (.iload_n 1, 1) := by decide +kernel
theorem dX12_parks_62 : decode cX12_parks 62 = .ok (.iconst 2, 1) := by decide +kernel
theorem dX12_parks_63 : decode cX12_parks 63 = .ok (.irem, 1) := by decide +kernel
theorem dX12_parks_64 : decode cX12_parks 64 = .ok (.isub, 1) := by decide +kernel
theorem dX12_parks_65 : decode cX12_parks 65 = .ok (.istore_n 2, 1) := by decide +kernel
theorem dX12_parks_66 : decode cX12_parks 66 = .ok (.aload_n 0, 1) := by decide +kernel
theorem dX12_parks_67 : decode cX12_parks 67 = .ok (.getfield 28, 3) := by decide +kernel
theorem dX12_parks_70 : decode cX12_parks 70 = .ok (.bipush 113, 2) := by decide +kernel
theorem dX12_parks_72 : decode cX12_parks 72 = .ok (.iload_n 2, 1) := by decide +kernel
theorem dX12_parks_73 : decode cX12_parks 73 = .ok (.iadd, 1) := by decide +kernel
theorem dX12_parks_74 : decode cX12_parks 74 = .ok (.iaload, 1) := by decide +kernel
theorem dX12_parks_75 : decode cX12_parks 75 = .ok (.aload_n 0, 1) := by decide +kernel
theorem dX12_parks_76 : decode cX12_parks 76 = .ok (.getfield 28, 3) := by decide +kernel
theorem dX12_parks_79 : decode cX12_parks 79 = .ok (.bipush 113, 2) := by decide +kernel
theorem dX12_parks_81 : decode cX12_parks 81 = .ok (.iload_n 2, 1) := by decide +kernel
theorem dX12_parks_82 : decode cX12_parks 82 = .ok (.iadd, 1) := by decide +kernel
theorem dX12_parks_83 : decode cX12_parks 83 = .ok (.iconst 1, 1) := by decide +kernel
theorem dX12_parks_84 : decode cX12_parks 84 = .ok (.iadd, 1) := by decide +kernel
theorem dX12_parks_85 : decode cX12_parks 85 = .ok (.iaload, 1) := by decide +kernel
theorem dX12_parks_86 : decode cX12_parks 86 = .ok (.iadd, 1) := by decide +kernel
theorem dX12_parks_87 : decode cX12_parks 87 = .ok (.ireturn, 1) := by decide +kernel
theorem dX12_reports_0 : decode cX12_reports 0 = .ok (.aload_n 0, 1) := by decide +kernel
theorem dX12_reports_1 : decode cX12_reports 1 = .ok (.iload_n 1, 1) := by decide +kernel
theorem dX12_reports_2 : decode cX12_reports 2 = .ok (.iload_n 2, 1) := by decide +kernel
theorem dX12_reports_3 : decode cX12_reports 3 = .ok (.invokevirtual 339, 3) := by decide +kernel
theorem dX12_reports_6 : decode cX12_reports 6 = .ok (.istore_n 3, 1) := by decide +kernel
theorem dX12_reports_7 : decode cX12_reports 7 = .ok (.aload_n 0, 1) := by decide +kernel
theorem dX12_reports_8 : decode cX12_reports 8 = .ok (.getfield 28, 3) := by decide +kernel
theorem dX12_reports_11 : decode cX12_reports 11 = .ok (.sipush 189, 3) := by decide +kernel
theorem dX12_reports_14 : decode cX12_reports 14 = .ok (.dup2, 1) := by decide +kernel
theorem dX12_reports_15 : decode cX12_reports 15 = .ok (.iaload, 1) := by decide +kernel
theorem dX12_reports_16 : decode cX12_reports 16 = .ok (.iload_n 3, 1) := by decide +kernel
theorem dX12_reports_17 : decode cX12_reports 17 = .ok (.iadd, 1) := by decide +kernel
theorem dX12_reports_18 : decode cX12_reports 18 = .ok (.iastore, 1) := by decide +kernel
theorem dX12_reports_19 : decode cX12_reports 19 = .ok (.aload_n 0, 1) := by decide +kernel
theorem dX12_reports_20 : decode cX12_reports 20 = .ok (.getfield 28, 3) := by decide +kernel
theorem dX12_reports_23 : decode cX12_reports 23 = .ok (.sipush 131, 3) := by decide +kernel
theorem dX12_reports_26 : decode cX12_reports 26 = .ok (.iload_n 1, 1) := by decide +kernel
theorem dX12_reports_27 : decode cX12_reports 27 = .ok (.iadd, 1) := by decide +kernel
theorem dX12_reports_28 : decode cX12_reports 28 = .ok (.dup2, 1) := by decide +kernel
theorem dX12_reports_29 : decode cX12_reports 29 = .ok (.iaload, 1) := by decide +kernel
theorem dX12_reports_30 : decode cX12_reports 30 = .ok (.iconst 1, 1) := by decide +kernel
theorem dX12_reports_31 : decode cX12_reports 31 = .ok (.iload_n 2, 1) := by decide +kernel
theorem dX12_reports_32 : decode cX12_reports 32 = .ok (.ishl, 1) := by decide +kernel
theorem dX12_reports_33 : decode cX12_reports 33 = .ok (.iconst (-1), 1) := by decide +kernel
theorem dX12_reports_34 : decode cX12_reports 34 = .ok (.ixor, 1) := by decide +kernel
theorem dX12_reports_35 : decode cX12_reports 35 = .ok (.iand, 1) := by decide +kernel
theorem dX12_reports_36 : decode cX12_reports 36 = .ok (.iastore, 1) := by decide +kernel
theorem dX12_reports_37 : decode cX12_reports 37 = .ok (.return_, 1) := by decide +kernel
theorem dX12_begins_0 : decode cX12_begins 0 = .ok (.aload_n 0, 1) := by decide +kernel
theorem dX12_begins_1 : decode cX12_begins 1 = .ok (.getfield 28, 3) := by decide +kernel
theorem dX12_begins_4 : decode cX12_begins 4 = .ok (.sipush 129, 3) := by decide +kernel
theorem dX12_begins_7 : decode cX12_begins 7 = .ok (.iconst 1, 1) := by decide +kernel
theorem dX12_begins_8 : decode cX12_begins 8 = .ok (.iastore, 1) := by decide +kernel
theorem dX12_begins_9 : decode cX12_begins 9 = .ok (.aload_n 0, 1) := by decide +kernel
theorem dX12_begins_10 : decode cX12_begins 10 = .ok (.getfield 28, 3) := by decide +kernel
theorem dX12_begins_13 : decode cX12_begins 13 = .ok (.sipush 130, 3) := by decide +kernel
theorem dX12_begins_16 : decode cX12_begins 16 = .ok (.dup2, 1) := by decide +kernel
theorem dX12_begins_17 : decode cX12_begins 17 = .ok (.iaload, 1) := by decide +kernel
theorem dX12_begins_18 : decode cX12_begins 18 = .ok (.iconst 1, 1) := by decide +kernel
theorem dX12_begins_19 : decode cX12_begins 19 = .ok (.iadd, 1) := by decide +kernel
theorem dX12_begins_20 : decode cX12_begins 20 = .ok (.iastore, 1) := by decide +kernel
theorem dX12_begins_21 : decode cX12_begins 21 = .ok (.aload_n 0, 1) := by decide +kernel
theorem dX12_begins_22 : decode cX12_begins 22 = .ok (.getfield 28, 3) := by decide +kernel
theorem dX12_begins_25 : decode cX12_begins 25 = .ok (.sipush 164, 3) := by decide +kernel
theorem dX12_begins_28 : decode cX12_begins 28 = .ok (.aload_n 0, 1) := by decide +kernel
theorem dX12_begins_29 : decode cX12_begins 29 = .ok (.getfield 28, 3) := by decide +kernel
theorem dX12_begins_32 : decode cX12_begins 32 = .ok (.sipush 139, 3) := by decide +kernel
theorem dX12_begins_35 : decode cX12_begins 35 = .ok (.iaload, 1) := by decide +kernel
theorem dX12_begins_36 : decode cX12_begins 36 = .ok (.iastore, 1) := by decide +kernel
theorem dX12_begins_37 : decode cX12_begins 37 = .ok (.iconst 0, 1) := by decide +kernel
theorem dX12_begins_38 : decode cX12_begins 38 = .ok (.istore_n 1, 1) := by decide +kernel
theorem dX12_begins_39 : decode cX12_begins 39 = .ok (.iload_n 1, 1) := by decide +kernel
theorem dX12_begins_40 : decode cX12_begins 40 = .ok (.aload_n 0, 1) := by decide +kernel
theorem dX12_begins_41 : decode cX12_begins 41 = .ok (.getfield 28, 3) := by decide +kernel
theorem dX12_begins_44 : decode cX12_begins 44 = .ok (.sipush 139, 3) := by decide +kernel
theorem dX12_begins_47 : decode cX12_begins 47 = .ok (.iaload, 1) := by decide +kernel
theorem dX12_begins_48 : decode cX12_begins 48 = .ok (.if_icmp .ge 29, 3) := by decide +kernel
theorem dX12_begins_51 : decode cX12_begins 51 = .ok (.aload_n 0, 1) := by decide +kernel
theorem dX12_begins_52 : decode cX12_begins 52 = .ok (.getfield 28, 3) := by decide +kernel
theorem dX12_begins_55 : decode cX12_begins 55 = .ok (.sipush 165, 3) := by decide +kernel
theorem dX12_begins_58 : decode cX12_begins 58 = .ok (.iload_n 1, 1) := by decide +kernel
theorem dX12_begins_59 : decode cX12_begins 59 = .ok (.iadd, 1) := by decide +kernel
theorem dX12_begins_60 : decode cX12_begins 60 = .ok (.aload_n 0, 1) := by decide +kernel
theorem dX12_begins_61 : decode cX12_begins 61 = .ok (.getfield 28, 3) := by decide +kernel
theorem dX12_begins_64 : decode cX12_begins 64 = .ok (.sipush 140, 3) := by decide +kernel
theorem dX12_begins_67 : decode cX12_begins 67 = .ok (.iload_n 1, 1) := by decide +kernel
theorem dX12_begins_68 : decode cX12_begins 68 = .ok (.iadd, 1) := by decide +kernel
theorem dX12_begins_69 : decode cX12_begins 69 = .ok (.iaload, 1) := by decide +kernel
theorem dX12_begins_70 : decode cX12_begins 70 = .ok (.iastore, 1) := by decide +kernel
theorem dX12_begins_71 : decode cX12_begins 71 = .ok (.iinc 1 1, 3) := by decide +kernel
theorem dX12_begins_74 : decode cX12_begins 74 = .ok (.goto (-35), 3) := by decide +kernel
theorem dX12_begins_77 : decode cX12_begins 77 = .ok (.aload_n 0, 1) := by decide +kernel
theorem dX12_begins_78 : decode cX12_begins 78 = .ok (.getfield 28, 3) := by decide +kernel
theorem dX12_begins_81 : decode cX12_begins 81 = .ok (.sipush 139, 3) := by decide +kernel
theorem dX12_begins_84 : decode cX12_begins 84 = .ok (.iconst 0, 1) := by decide +kernel
theorem dX12_begins_85 : decode cX12_begins 85 = .ok (.iastore, 1) := by decide +kernel
theorem dX12_begins_86 : decode cX12_begins 86 = .ok (.iconst 1, 1) := by decide +kernel
theorem dX12_begins_87 : decode cX12_begins 87 = .ok (.istore_n 1, 1) := by decide +kernel
theorem dX12_begins_88 : decode cX12_begins 88 = .ok (.iload_n 1, 1) := by decide +kernel
theorem dX12_begins_89 : decode cX12_begins 89 = .ok (.bipush 7, 2) := by decide +kernel
theorem dX12_begins_91 : decode cX12_begins 91 = .ok (.if_icmp .gt 20, 3) := by decide +kernel
theorem dX12_begins_94 : decode cX12_begins 94 = .ok (.aload_n 0, 1) := by decide +kernel
theorem dX12_begins_95 : decode cX12_begins 95 = .ok (.getfield 28, 3) := by decide +kernel
theorem dX12_begins_98 : decode cX12_begins 98 = .ok (.sipush 131, 3) := by decide +kernel
theorem dX12_begins_101 : decode cX12_begins 101 = .ok (.iload_n 1, 1) := by decide +kernel
theorem dX12_begins_102 : decode cX12_begins 102 = .ok (.iadd, 1) := by decide +kernel
theorem dX12_begins_103 : decode cX12_begins 103 = .ok (.iconst 3, 1) := by decide +kernel
theorem dX12_begins_104 : decode cX12_begins 104 = .ok (.iastore, 1) := by decide +kernel
theorem dX12_begins_105 : decode cX12_begins 105 = .ok (.iinc 1 1, 3) := by decide +kernel
theorem dX12_begins_108 : decode cX12_begins 108 = .ok (.goto (-20), 3) := by decide +kernel
theorem dX12_begins_111 : decode cX12_begins 111 = .ok (.iconst 0, 1) := by decide +kernel
theorem dX12_begins_112 : decode cX12_begins 112 = .ok (.istore_n 1, 1) := by decide +kernel
theorem dX12_begins_113 : decode cX12_begins 113 = .ok (.iload_n 1, 1) := by decide +kernel
theorem dX12_begins_114 : decode cX12_begins 114 = .ok (.bipush 8, 2) := by decide +kernel
theorem dX12_begins_116 : decode cX12_begins 116 = .ok (.if_icmp .ge 27, 3) := by decide +kernel
theorem dX12_begins_119 : decode cX12_begins 119 = .ok (.aload_n 0, 1) := by decide +kernel
theorem dX12_begins_120 : decode cX12_begins 120 = .ok (.getfield 28, 3) := by decide +kernel
theorem dX12_begins_123 : decode cX12_begins 123 = .ok (.bipush 121, 2) := by decide +kernel
theorem dX12_begins_125 : decode cX12_begins 125 = .ok (.iload_n 1, 1) := by decide +kernel
theorem dX12_begins_126 : decode cX12_begins 126 = .ok (.iadd, 1) := by decide +kernel
theorem dX12_begins_127 : decode cX12_begins 127 = .ok (.aload_n 0, 1) := by decide +kernel
theorem dX12_begins_128 : decode cX12_begins 128 = .ok (.getfield 28, 3) := by decide +kernel
theorem dX12_begins_131 : decode cX12_begins 131 = .ok (.bipush 113, 2) := by decide +kernel
theorem dX12_begins_133 : decode cX12_begins 133 = .ok (.iload_n 1, 1) := by decide +kernel
theorem dX12_begins_134 : decode cX12_begins 134 = .ok (.iadd, 1) := by decide +kernel
theorem dX12_begins_135 : decode cX12_begins 135 = .ok (.iaload, 1) := by decide +kernel
theorem dX12_begins_136 : decode cX12_begins 136 = .ok (.iastore, 1) := by decide +kernel
theorem dX12_begins_137 : decode cX12_begins 137 = .ok (.iinc 1 1, 3) := by decide +kernel
theorem dX12_begins_140 : decode cX12_begins 140 = .ok (.goto (-27), 3) := by decide +kernel
theorem dX12_begins_143 : decode cX12_begins 143 = .ok (.return_, 1) := by decide +kernel
theorem dX12_endsNow_0 : decode cX12_endsNow 0 = .ok (.aload_n 0, 1) := by decide +kernel
theorem dX12_endsNow_1 : decode cX12_endsNow 1 = .ok (.getfield 28, 3) := by decide +kernel
theorem dX12_endsNow_4 : decode cX12_endsNow 4 = .ok (.sipush 164, 3) := by decide +kernel
theorem dX12_endsNow_7 : decode cX12_endsNow 7 = .ok (.iaload, 1) := by decide +kernel
theorem dX12_endsNow_8 : decode cX12_endsNow 8 = .ok (.istore_n 1, 1) := by decide +kernel
theorem dX12_endsNow_9 : decode cX12_endsNow 9 = .ok (.iconst 0, 1) := by decide +kernel
theorem dX12_endsNow_10 : decode cX12_endsNow 10 = .ok (.istore_n 2, 1) := by decide +kernel
theorem dX12_endsNow_11 : decode cX12_endsNow 11 = .ok (.iload_n 2, 1) := by decide +kernel
theorem dX12_endsNow_12 : decode cX12_endsNow 12 = .ok (.iload_n 1, 1) := by decide +kernel
theorem dX12_endsNow_13 : decode cX12_endsNow 13 = .ok (.if_icmp .ge 27, 3) := by decide +kernel
theorem dX12_endsNow_16 : decode cX12_endsNow 16 = .ok (.aload_n 0, 1) := by decide +kernel
theorem dX12_endsNow_17 : decode cX12_endsNow 17 = .ok (.getfield 28, 3) := by decide +kernel
theorem dX12_endsNow_20 : decode cX12_endsNow 20 = .ok (.iconst 0, 1) := by decide +kernel
theorem dX12_endsNow_21 : decode cX12_endsNow 21 = .ok (.aload_n 0, 1) := by decide +kernel
theorem dX12_endsNow_22 : decode cX12_endsNow 22 = .ok (.getfield 28, 3) := by decide +kernel
theorem dX12_endsNow_25 : decode cX12_endsNow 25 = .ok (.sipush 165, 3) := by decide +kernel
theorem dX12_endsNow_28 : decode cX12_endsNow 28 = .ok (.iload_n 2, 1) := by decide +kernel
theorem dX12_endsNow_29 : decode cX12_endsNow 29 = .ok (.iadd, 1) := by decide +kernel
theorem dX12_endsNow_30 : decode cX12_endsNow 30 = .ok (.iaload, 1) := by decide +kernel
theorem dX12_endsNow_31 : decode cX12_endsNow 31 = .ok (.iadd, 1) := by decide +kernel
theorem dX12_endsNow_32 : decode cX12_endsNow 32 = .ok (.iconst 0, 1) := by decide +kernel
theorem dX12_endsNow_33 : decode cX12_endsNow 33 = .ok (.iastore, 1) := by decide +kernel
theorem dX12_endsNow_34 : decode cX12_endsNow 34 = .ok (.iinc 2 1, 3) := by decide +kernel
theorem dX12_endsNow_37 : decode cX12_endsNow 37 = .ok (.goto (-26), 3) := by decide +kernel
theorem dX12_endsNow_40 : decode cX12_endsNow 40 = .ok (.aload_n 0, 1) := by decide +kernel
theorem dX12_endsNow_41 : decode cX12_endsNow 41 = .ok (.getfield 28, 3) := by decide +kernel
theorem dX12_endsNow_44 : decode cX12_endsNow 44 = .ok (.sipush 164, 3) := by decide +kernel
theorem dX12_endsNow_47 : decode cX12_endsNow 47 = .ok (.iconst 0, 1) := by decide +kernel
theorem dX12_endsNow_48 : decode cX12_endsNow 48 = .ok (.iastore, 1) := by decide +kernel
theorem dX12_endsNow_49 : decode cX12_endsNow 49 = .ok (.aload_n 0, 1) := by decide +kernel
theorem dX12_endsNow_50 : decode cX12_endsNow 50 = .ok (.getfield 28, 3) := by decide +kernel
theorem dX12_endsNow_53 : decode cX12_endsNow 53 = .ok (.sipush 129, 3) := by decide +kernel
theorem dX12_endsNow_56 : decode cX12_endsNow 56 = .ok (.iconst 0, 1) := by decide +kernel
theorem dX12_endsNow_57 : decode cX12_endsNow 57 = .ok (.iastore, 1) := by decide +kernel
theorem dX12_endsNow_58 : decode cX12_endsNow 58 = .ok (.aload_n 0, 1) := by decide +kernel
theorem dX12_endsNow_59 : decode cX12_endsNow 59 = .ok (.getfield 28, 3) := by decide +kernel
theorem dX12_endsNow_62 : decode cX12_endsNow 62 = .ok (.sipush 190, 3) := by decide +kernel
theorem dX12_endsNow_65 : decode cX12_endsNow 65 = .ok (.sipush 999, 3) := by decide +kernel
theorem dX12_endsNow_68 : decode cX12_endsNow 68 = .ok (.aload_n 0, 1) := by decide +kernel
theorem dX12_endsNow_69 : decode cX12_endsNow 69 = .ok (.getfield 28, 3) := by decide +kernel
theorem dX12_endsNow_72 : decode cX12_endsNow 72 = .ok (.sipush 190, 3) := by decide +kernel
theorem dX12_endsNow_75 : decode cX12_endsNow 75 = .ok (.iaload, 1) := by decide +kernel
theorem dX12_endsNow_76 : decode cX12_endsNow 76 = .ok (.iconst 1, 1) := by decide +kernel
theorem dX12_endsNow_77 : decode cX12_endsNow 77 = .ok (.iadd, 1) := by decide +kernel
theorem dX12_endsNow_78 : decode cX12_endsNow 78 = .ok (.invokestatic 348, 3) := by decide +kernel
theorem dX12_endsNow_81 : decode cX12_endsNow 81 = .ok (.iastore, 1) := by decide +kernel
theorem dX12_endsNow_82 : decode cX12_endsNow 82 = .ok (.aload_n 0, 1) := by decide +kernel
theorem dX12_endsNow_83 : decode cX12_endsNow 83 = .ok (.getfield 28, 3) := by decide +kernel
theorem dX12_endsNow_86 : decode cX12_endsNow 86 = .ok (.sipush 139, 3) := by decide +kernel
theorem dX12_endsNow_89 : decode cX12_endsNow 89 = .ok (.iaload, 1) := by decide +kernel
theorem dX12_endsNow_90 : decode cX12_endsNow 90 = .ok (.ifCond .le 7, 3) := by decide +kernel
theorem dX12_endsNow_93 : decode cX12_endsNow 93 = .ok (.aload_n 0, 1) := by decide +kernel
theorem dX12_endsNow_94 : decode cX12_endsNow 94 = .ok (.invokevirtual 336, 3) := by decide +kernel
theorem dX12_endsNow_97 : decode cX12_endsNow 97 = .ok (.iload_n 1, 1) := by decide +kernel
theorem dX12_endsNow_98 : decode cX12_endsNow 98 = .ok (.ireturn, 1) := by decide +kernel
theorem dX12_looksAt_0 : decode cX12_looksAt 0 = .ok (.iconst 2, 1) := by decide +kernel
theorem dX12_looksAt_1 : decode cX12_looksAt 1 = .ok (.iload_n 1, 1) := by decide +kernel
theorem dX12_looksAt_2 : decode cX12_looksAt 2 = .ok (.iconst 4, 1) := by decide +kernel
theorem dX12_looksAt_3 : decode cX12_looksAt 3 = .ok (.isub, 1) := by decide +kernel
theorem dX12_looksAt_4 : decode cX12_looksAt 4 = .ok (.imul, 1) := by decide +kernel
theorem dX12_looksAt_5 : decode cX12_looksAt 5 = .ok (.istore_n 2, 1) := by decide +kernel
theorem dX12_looksAt_6 : decode cX12_looksAt 6 = .ok (.aload_n 0, 1) := by decide +kernel
theorem dX12_looksAt_7 : decode cX12_looksAt 7 = .ok (.getfield 28, 3) := by decide +kernel
theorem dX12_looksAt_10 : decode cX12_looksAt 10 = .ok (.sipush 131, 3) := by decide +kernel
theorem dX12_looksAt_13 : decode cX12_looksAt 13 = .ok (.iload_n 1, 1) := by decide +kernel
theorem dX12_looksAt_14 : decode cX12_looksAt 14 = .ok (.iadd, 1) := by decide +kernel
theorem dX12_looksAt_15 : decode cX12_looksAt 15 = .ok (.iaload, 1) := by decide +kernel
theorem dX12_looksAt_16 : decode cX12_looksAt 16 = .ok (.ifCond .ne 21, 3) := by decide +kernel
theorem dX12_looksAt_19 : decode cX12_looksAt 19 = .ok (.aload_n 0, 1) := by decide +kernel
theorem dX12_looksAt_20 : decode cX12_looksAt 20 = .ok (.iload_n 2, 1) := by decide +kernel
theorem dX12_looksAt_21 : decode cX12_looksAt 21 = .ok (.invokevirtual 330, 3) := by decide +kernel
theorem dX12_looksAt_24 : decode cX12_looksAt 24 = .ok (.ifCond .ne 13, 3) := by decide +kernel
theorem dX12_looksAt_27 : decode cX12_looksAt 27 = .ok (.aload_n 0, 1) := by decide +kernel
theorem dX12_looksAt_28 : decode cX12_looksAt 28 = .ok (.iload_n 2, 1) := by decide +kernel
theorem dX12_looksAt_29 : decode cX12_looksAt 29 = .ok (.iconst 1, 1) := by decide +kernel
theorem dX12_looksAt_30 : decode cX12_looksAt 30 = .ok (.iadd, 1) := by decide +kernel
theorem dX12_looksAt_31 : decode cX12_looksAt 31 = .ok (.invokevirtual 330, 3) := by decide +kernel
theorem dX12_looksAt_34 : decode cX12_looksAt 34 = .ok (.ifCond .eq 5, 3) := by decide +kernel
theorem dX12_looksAt_37 : decode cX12_looksAt 37 = .ok (.iconst 0, 1) := by decide +kernel
theorem dX12_looksAt_38 : decode cX12_looksAt 38 = .ok (.ireturn, 1) := by decide +kernel
theorem dX12_looksAt_39 : decode cX12_looksAt 39 = .ok (.iload_n 1, 1) := by decide +kernel
theorem dX12_looksAt_40 : decode cX12_looksAt 40 = .ok (.istore_n 3, 1) := by decide +kernel
theorem dX12_looksAt_41 : decode cX12_looksAt 41 = .ok (.iload_n 3, 1) := by decide +kernel
theorem dX12_looksAt_42 : decode cX12_looksAt 42 = .ok (.iconst 1, 1) := by decide +kernel
theorem dX12_looksAt_43 : decode cX12_looksAt 43 = .ok (.if_icmp .le 33, 3) := by decide +kernel
theorem dX12_looksAt_46 : decode cX12_looksAt 46 = .ok (.aload_n 0, 1) := by decide +kernel
theorem dX12_looksAt_47 : decode cX12_looksAt 47 = .ok (.getfield 28, 3) := by decide +kernel
theorem dX12_looksAt_50 : decode cX12_looksAt 50 = .ok (.sipush 131, 3) := by decide +kernel
theorem dX12_looksAt_53 : decode cX12_looksAt 53 = .ok (.iload_n 3, 1) := by decide +kernel
theorem dX12_looksAt_54 : decode cX12_looksAt 54 = .ok (.iadd, 1) := by decide +kernel
theorem dX12_looksAt_55 : decode cX12_looksAt 55 = .ok (.iaload, 1) := by decide +kernel
theorem dX12_looksAt_56 : decode cX12_looksAt 56 = .ok (.ifCond .ne 20, 3) := by decide +kernel
theorem dX12_looksAt_59 : decode cX12_looksAt 59 = .ok (.aload_n 0, 1) := by decide +kernel
theorem dX12_looksAt_60 : decode cX12_looksAt 60 = .ok (.iload_n 3, 1) := by decide +kernel
theorem dX12_looksAt_61 : decode cX12_looksAt 61 = .ok (.iconst 2, 1) := by decide +kernel
theorem dX12_looksAt_62 : decode cX12_looksAt 62 = .ok (.idiv, 1) := by decide +kernel
theorem dX12_looksAt_63 : decode cX12_looksAt 63 = .ok (.iload_n 3, 1) := by decide +kernel
theorem dX12_looksAt_64 : decode cX12_looksAt 64 = .ok (.iconst 2, 1) := by decide +kernel
theorem dX12_looksAt_65 : decode cX12_looksAt 65 = .ok (.irem, 1) := by decide +kernel
theorem dX12_looksAt_66 : decode cX12_looksAt 66 = .ok (.invokevirtual 342, 3) := by decide +kernel
theorem dX12_looksAt_69 : decode cX12_looksAt 69 = .ok (.iload_n 3, 1) := by decide +kernel
theorem dX12_looksAt_70 : decode cX12_looksAt 70 = .ok (.iconst 2, 1) := by decide +kernel
theorem dX12_looksAt_71 : decode cX12_looksAt 71 = .ok (.idiv, 1) := by decide +kernel
theorem dX12_looksAt_72 : decode cX12_looksAt 72 = .ok (.istore_n 3, 1) := by decide +kernel
theorem dX12_looksAt_73 : decode cX12_looksAt 73 = .ok (.goto (-32), 3) := by decide +kernel
theorem dX12_looksAt_76 : decode cX12_looksAt 76 = .ok (.iload_n 3, 1) := by decide +kernel
theorem dX12_looksAt_77 : decode cX12_looksAt 77 = .ok (.iconst 1, 1) := by decide +kernel
theorem dX12_looksAt_78 : decode cX12_looksAt 78 = .ok (.if_icmp .ne 23, 3) := by decide +kernel
theorem dX12_looksAt_81 : decode cX12_looksAt 81 = .ok (.aload_n 0, 1) := by decide +kernel
theorem dX12_looksAt_82 : decode cX12_looksAt 82 = .ok (.getfield 28, 3) := by decide +kernel
theorem dX12_looksAt_85 : decode cX12_looksAt 85 = .ok (.sipush 131, 3) := by decide +kernel
theorem dX12_looksAt_88 : decode cX12_looksAt 88 = .ok (.iload_n 3, 1) := by decide +kernel
theorem dX12_looksAt_89 : decode cX12_looksAt 89 = .ok (.iadd, 1) := by decide +kernel
theorem dX12_looksAt_90 : decode cX12_looksAt 90 = .ok (.iaload, 1) := by decide +kernel
theorem dX12_looksAt_91 : decode cX12_looksAt 91 = .ok (.ifCond .ne 10, 3) := by decide +kernel
theorem dX12_looksAt_94 : decode cX12_looksAt 94 = .ok (.aload_n 0, 1) := by decide +kernel
theorem dX12_looksAt_95 : decode cX12_looksAt 95 = .ok (.invokevirtual 345, 3) := by decide +kernel
theorem dX12_looksAt_98 : decode cX12_looksAt 98 = .ok (.goto 4, 3) := by decide +kernel
theorem dX12_looksAt_101 : decode cX12_looksAt 101 = .ok (.iconst 0, 1) := by decide +kernel
theorem dX12_looksAt_102 : decode cX12_looksAt 102 = .ok (.ireturn, 1) := by decide +kernel
theorem dX12_leaves0_0 : decode cX12_leaves0 0 = .ok (.iload_n 1, 1) := by decide +kernel
theorem dX12_leaves0_1 : decode cX12_leaves0 1 = .ok (.invokestatic 106, 3) := by decide +kernel
theorem dX12_leaves0_4 : decode cX12_leaves0 4 = .ok (.ifCond .ne 5, 3) := by decide +kernel
theorem dX12_leaves0_7 : decode cX12_leaves0 7 = .ok (.iconst (-1), 1) := by decide +kernel
theorem dX12_leaves0_8 : decode cX12_leaves0 8 = .ok (.ireturn, 1) := by decide +kernel
theorem dX12_leaves0_9 : decode cX12_leaves0 9 = .ok (.aload_n 0, 1) := by decide +kernel
theorem dX12_leaves0_10 : decode cX12_leaves0 10 = .ok (.iload_n 1, 1) := by decide +kernel
theorem dX12_leaves0_11 : decode cX12_leaves0 11 = .ok (.invokevirtual 102, 3) := by decide +kernel
theorem dX12_leaves0_14 : decode cX12_leaves0 14 = .ok (.ifCond .ne 6, 3) := by decide +kernel
theorem dX12_leaves0_17 : decode cX12_leaves0 17 = .ok (.bipush (-3), 2) := by decide +kernel
theorem dX12_leaves0_19 : decode cX12_leaves0 19 = .ok (.ireturn, 1) := by decide +kernel
theorem dX12_leaves0_20 : decode cX12_leaves0 20 = .ok (.aload_n 0, 1) := by decide +kernel
theorem dX12_leaves0_21 : decode cX12_leaves0 21 = .ok (.iload_n 1, 1) := by decide +kernel
theorem dX12_leaves0_22 : decode cX12_leaves0 22 = .ok (.invokevirtual 330, 3) := by decide +kernel
theorem dX12_leaves0_25 : decode cX12_leaves0 25 = .ok (.istore_n 2, 1) := by decide +kernel
theorem dX12_leaves0_26 : decode cX12_leaves0 26 = .ok (.aload_n 0, 1) := by decide +kernel
theorem dX12_leaves0_27 : decode cX12_leaves0 27 = .ok (.getfield 28, 3) := by decide +kernel
theorem dX12_leaves0_30 : decode cX12_leaves0 30 = .ok (.bipush 97, 2) := by decide +kernel
theorem dX12_leaves0_32 : decode cX12_leaves0 32 = .ok (.iload_n 1, 1) := by decide +kernel
theorem dX12_leaves0_33 : decode cX12_leaves0 33 = .ok (.iadd, 1) := by decide +kernel
theorem dX12_leaves0_34 : decode cX12_leaves0 34 = .ok (.iconst 0, 1) := by decide +kernel
theorem dX12_leaves0_35 : decode cX12_leaves0 35 = .ok (.iastore, 1) := by decide +kernel
theorem dX12_leaves0_36 : decode cX12_leaves0 36 = .ok (.aload_n 0, 1) := by decide +kernel
theorem dX12_leaves0_37 : decode cX12_leaves0 37 = .ok (.getfield 28, 3) := by decide +kernel
theorem dX12_leaves0_40 : decode cX12_leaves0 40 = .ok (.bipush 113, 2) := by decide +kernel
theorem dX12_leaves0_42 : decode cX12_leaves0 42 = .ok (.iload_n 1, 1) := by decide +kernel
theorem dX12_leaves0_43 : decode cX12_leaves0 43 = .ok (.iadd, 1) := by decide +kernel
theorem dX12_leaves0_44 : decode cX12_leaves0 44 = .ok (.iconst 0, 1) := by decide +kernel
theorem dX12_leaves0_45 : decode cX12_leaves0 45 = .ok (.iastore, 1) := by decide +kernel
theorem dX12_leaves0_46 : decode cX12_leaves0 46 = .ok (.aload_n 0, 1) := by decide +kernel
theorem dX12_leaves0_47 : decode cX12_leaves0 47 = .ok (.getfield 28, 3) := by decide +kernel
theorem dX12_leaves0_50 : decode cX12_leaves0 50 = .ok (.bipush 121, 2) := by decide +kernel
theorem dX12_leaves0_52 : decode cX12_leaves0 52 = .ok (.iload_n 1, 1) := by decide +kernel
theorem dX12_leaves0_53 : decode cX12_leaves0 53 = .ok (.iadd, 1) := by decide +kernel
theorem dX12_leaves0_54 : decode cX12_leaves0 54 = .ok (.iconst 0, 1) := by decide +kernel
theorem dX12_leaves0_55 : decode cX12_leaves0 55 = .ok (.iastore, 1) := by decide +kernel
theorem dX12_leaves0_56 : decode cX12_leaves0 56 = .ok (.iload_n 2, 1) := by decide +kernel
theorem dX12_leaves0_57 : decode cX12_leaves0 57 = .ok (.ifCond .eq 14, 3) := by decide +kernel
theorem dX12_leaves0_60 : decode cX12_leaves0 60 = .ok (.aload_n 0, 1) := by decide +kernel
theorem dX12_leaves0_61 : decode cX12_leaves0 61 = .ok (.iload_n 1, 1) := by decide +kernel
theorem dX12_leaves0_62 : decode cX12_leaves0 62 = .ok (.invokestatic 95, 3) := by decide +kernel
theorem dX12_leaves0_65 : decode cX12_leaves0 65 = .ok (.invokevirtual 333, 3) := by decide +kernel
theorem dX12_leaves0_68 : decode cX12_leaves0 68 = .ok (.goto 4, 3) := by decide +kernel
theorem dX12_leaves0_71 : decode cX12_leaves0 71 = .ok (.iconst 0, 1) := by decide +kernel
theorem dX12_leaves0_72 : decode cX12_leaves0 72 = .ok (.ireturn, 1) := by decide +kernel
theorem dX12_beginsOr_0 : decode cX12_beginsOr 0 = .ok (.aload_n 0, 1) := by decide +kernel
theorem dX12_beginsOr_1 : decode cX12_beginsOr 1 = .ok (.invokevirtual 91, 3) := by decide +kernel
theorem dX12_beginsOr_4 : decode cX12_beginsOr 4 = .ok (.ifCond .ne 14, 3) := by decide +kernel
theorem dX12_beginsOr_7 : decode cX12_beginsOr 7 = .ok (.aload_n 0, 1) := by decide +kernel
theorem dX12_beginsOr_8 : decode cX12_beginsOr 8 = .ok (.getfield 28, 3) := by decide +kernel
theorem dX12_beginsOr_11 : decode cX12_beginsOr 11 = .ok (.sipush 139, 3) := by decide +kernel
theorem dX12_beginsOr_14 : decode cX12_beginsOr 14 = .ok (.iaload, 1) := by decide +kernel
theorem dX12_beginsOr_15 : decode cX12_beginsOr 15 = .ok (.ifCond .ne 6, 3) := by decide +kernel
theorem dX12_beginsOr_18 : decode cX12_beginsOr 18 = .ok (.bipush (-3), 2) := by decide +kernel
theorem dX12_beginsOr_20 : decode cX12_beginsOr 20 = .ok (.ireturn, 1) := by decide +kernel
theorem dX12_beginsOr_21 : decode cX12_beginsOr 21 = .ok (.aload_n 0, 1) := by decide +kernel
theorem dX12_beginsOr_22 : decode cX12_beginsOr 22 = .ok (.invokevirtual 336, 3) := by decide +kernel
theorem dX12_beginsOr_25 : decode cX12_beginsOr 25 = .ok (.aload_n 0, 1) := by decide +kernel
theorem dX12_beginsOr_26 : decode cX12_beginsOr 26 = .ok (.getfield 28, 3) := by decide +kernel
theorem dX12_beginsOr_29 : decode cX12_beginsOr 29 = .ok (.sipush 130, 3) := by decide +kernel
theorem dX12_beginsOr_32 : decode cX12_beginsOr 32 = .ok (.iaload, 1) := by decide +kernel
theorem dX12_beginsOr_33 : decode cX12_beginsOr 33 = .ok (.ireturn, 1) := by decide +kernel
theorem dX12_canTick_0 : decode cX12_canTick 0 = .ok (.aload_n 0, 1) := by decide +kernel
theorem dX12_canTick_1 : decode cX12_canTick 1 = .ok (.iload_n 1, 1) := by decide +kernel
theorem dX12_canTick_2 : decode cX12_canTick 2 = .ok (.invokevirtual 102, 3) := by decide +kernel
theorem dX12_canTick_5 : decode cX12_canTick 5 = .ok (.ifCond .eq 11, 3) := by decide +kernel
theorem dX12_canTick_8 : decode cX12_canTick 8 = .ok (.aload_n 0, 1) := by decide +kernel
theorem dX12_canTick_9 : decode cX12_canTick 9 = .ok (.iload_n 1, 1) := by decide +kernel
theorem dX12_canTick_10 : decode cX12_canTick 10 = .ok (.invokevirtual 327, 3) := by decide +kernel
theorem dX12_canTick_13 : decode cX12_canTick 13 = .ok (.ifCond .eq 7, 3) := by decide +kernel
theorem dX12_canTick_16 : decode cX12_canTick 16 = .ok (.iconst 1, 1) := by decide +kernel
theorem dX12_canTick_17 : decode cX12_canTick 17 = .ok (.goto 4, 3) := by decide +kernel
theorem dX12_canTick_20 : decode cX12_canTick 20 = .ok (.iconst 0, 1) := by decide +kernel
theorem dX12_canTick_21 : decode cX12_canTick 21 = .ok (.ireturn, 1) := by decide +kernel
theorem dX12_ticks_0 : decode cX12_ticks 0 = .ok (.iload_n 1, 1) := by decide +kernel
theorem dX12_ticks_1 : decode cX12_ticks 1 = .ok (.invokestatic 106, 3) := by decide +kernel
theorem dX12_ticks_4 : decode cX12_ticks 4 = .ok (.ifCond .ne 5, 3) := by decide +kernel
theorem dX12_ticks_7 : decode cX12_ticks 7 = .ok (.iconst (-1), 1) := by decide +kernel
theorem dX12_ticks_8 : decode cX12_ticks 8 = .ok (.ireturn, 1) := by decide +kernel
theorem dX12_ticks_9 : decode cX12_ticks 9 = .ok (.aload_n 0, 1) := by decide +kernel
theorem dX12_ticks_10 : decode cX12_ticks 10 = .ok (.iload_n 1, 1) := by decide +kernel
theorem dX12_ticks_11 : decode cX12_ticks 11 = .ok (.invokevirtual 351, 3) := by decide +kernel
theorem dX12_ticks_14 : decode cX12_ticks 14 = .ok (.ifCond .ne 6, 3) := by decide +kernel
theorem dX12_ticks_17 : decode cX12_ticks 17 = .ok (.bipush (-3), 2) := by decide +kernel
theorem dX12_ticks_19 : decode cX12_ticks 19 = .ok (.ireturn, 1) := by decide +kernel
theorem dX12_ticks_20 : decode cX12_ticks 20 = .ok (.aload_n 0, 1) := by decide +kernel
theorem dX12_ticks_21 : decode cX12_ticks 21 = .ok (.iload_n 1, 1) := by decide +kernel
theorem dX12_ticks_22 : decode cX12_ticks 22 = .ok (.invokevirtual 112, 3) := by decide +kernel
theorem dX12_ticks_25 : decode cX12_ticks 25 = .ok (.ifCond .eq 5, 3) := by decide +kernel
theorem dX12_ticks_28 : decode cX12_ticks 28 = .ok (.iconst 0, 1) := by decide +kernel
theorem dX12_ticks_29 : decode cX12_ticks 29 = .ok (.ireturn, 1) := by decide +kernel
theorem dX12_ticks_30 : decode cX12_ticks 30 = .ok (.aload_n 0, 1) := by decide +kernel
theorem dX12_ticks_31 : decode cX12_ticks 31 = .ok (.iload_n 1, 1) := by decide +kernel
theorem dX12_ticks_32 : decode cX12_ticks 32 = .ok (.invokestatic 95, 3) := by decide +kernel
theorem dX12_ticks_35 : decode cX12_ticks 35 = .ok (.iload_n 1, 1) := by decide +kernel
theorem dX12_ticks_36 : decode cX12_ticks 36 = .ok (.iconst 2, 1) := by decide +kernel
theorem dX12_ticks_37 : decode cX12_ticks 37 = .ok (.irem, 1) := by decide +kernel
theorem dX12_ticks_38 : decode cX12_ticks 38 = .ok (.invokevirtual 342, 3) := by decide +kernel
theorem dX12_ticks_41 : decode cX12_ticks 41 = .ok (.aload_n 0, 1) := by decide +kernel
theorem dX12_ticks_42 : decode cX12_ticks 42 = .ok (.iload_n 1, 1) := by decide +kernel
theorem dX12_ticks_43 : decode cX12_ticks 43 = .ok (.invokestatic 95, 3) := by decide +kernel
theorem dX12_ticks_46 : decode cX12_ticks 46 = .ok (.invokevirtual 333, 3) := by decide +kernel
theorem dX12_ticks_49 : decode cX12_ticks 49 = .ok (.ireturn, 1) := by decide +kernel
theorem dX12_hurries_0 : decode cX12_hurries 0 = .ok (.aload_n 0, 1) := by decide +kernel
theorem dX12_hurries_1 : decode cX12_hurries 1 = .ok (.invokevirtual 91, 3) := by decide +kernel
theorem dX12_hurries_4 : decode cX12_hurries 4 = .ok (.ifCond .ne 6, 3) := by decide +kernel
theorem dX12_hurries_7 : decode cX12_hurries 7 = .ok (.bipush (-3), 2) := by decide +kernel
theorem dX12_hurries_9 : decode cX12_hurries 9 = .ok (.ireturn, 1) := by decide +kernel
theorem dX12_hurries_10 : decode cX12_hurries 10 = .ok (.aload_n 0, 1) := by decide +kernel
theorem dX12_hurries_11 : decode cX12_hurries 11 = .ok (.getfield 28, 3) := by decide +kernel
theorem dX12_hurries_14 : decode cX12_hurries 14 = .ok (.sipush 130, 3) := by decide +kernel
theorem dX12_hurries_17 : decode cX12_hurries 17 = .ok (.iaload, 1) := by decide +kernel
theorem dX12_hurries_18 : decode cX12_hurries 18 = .ok (.istore_n 1, 1) := by decide +kernel
theorem dX12_hurries_19 : decode cX12_hurries 19 = .ok (.iconst 0, 1) := by decide +kernel
theorem dX12_hurries_20 : decode cX12_hurries 20 = .ok (.istore_n 2, 1) := by decide +kernel
theorem dX12_hurries_21 : decode cX12_hurries 21 = .ok (.iconst 0, 1) := by decide +kernel
theorem dX12_hurries_22 : decode cX12_hurries 22 = .ok (.istore_n 3, 1) := by decide +kernel
theorem dX12_hurries_23 : decode cX12_hurries 23 = .ok (.iload_n 3, 1) := by decide +kernel
theorem dX12_hurries_24 : decode cX12_hurries 24 = .ok (.bipush 8, 2) := by decide +kernel
theorem dX12_hurries_26 : decode cX12_hurries 26 = .ok (.if_icmp .ge 52, 3) := by decide +kernel
theorem dX12_hurries_29 : decode cX12_hurries 29 = .ok (.aload_n 0, 1) := by decide +kernel
theorem dX12_hurries_30 : decode cX12_hurries 30 = .ok (.invokevirtual 91, 3) := by decide +kernel
theorem dX12_hurries_33 : decode cX12_hurries 33 = .ok (.ifCond .eq 45, 3) := by decide +kernel
theorem dX12_hurries_36 : decode cX12_hurries 36 = .ok (.aload_n 0, 1) := by decide +kernel
theorem dX12_hurries_37 : decode cX12_hurries 37 = .ok (.getfield 28, 3) := by decide +kernel
theorem dX12_hurries_40 : decode cX12_hurries 40 = .ok (.sipush 130, 3) := by decide +kernel
theorem dX12_hurries_43 : decode cX12_hurries 43 = .ok (.iaload, 1) := by decide +kernel
theorem dX12_hurries_44 : decode cX12_hurries 44 = .ok (.iload_n 1, 1) := by decide +kernel
theorem dX12_hurries_45 : decode cX12_hurries 45 = .ok (.if_icmp .ne 33, 3) := by decide +kernel
theorem dX12_hurries_48 : decode cX12_hurries 48 = .ok (.aload_n 0, 1) := by decide +kernel
theorem dX12_hurries_49 : decode cX12_hurries 49 = .ok (.iload_n 3, 1) := by decide +kernel
theorem dX12_hurries_50 : decode cX12_hurries 50 = .ok (.invokevirtual 351, 3) := by decide +kernel
theorem dX12_hurries_53 : decode cX12_hurries 53 = .ok (.ifCond .eq 19, 3) := by decide +kernel
theorem dX12_hurries_56 : decode cX12_hurries 56 = .ok (.aload_n 0, 1) := by decide +kernel
theorem dX12_hurries_57 : decode cX12_hurries 57 = .ok (.iload_n 3, 1) := by decide +kernel
theorem dX12_hurries_58 : decode cX12_hurries 58 = .ok (.invokevirtual 112, 3) := by decide +kernel
theorem dX12_hurries_61 : decode cX12_hurries 61 = .ok (.ifCond .ne 11, 3) := by decide +kernel
theorem dX12_hurries_64 : decode cX12_hurries 64 = .ok (.iload_n 2, 1) := by decide +kernel
theorem dX12_hurries_65 : decode cX12_hurries 65 = .ok (.aload_n 0, 1) := by decide +kernel
theorem dX12_hurries_66 : decode cX12_hurries 66 = .ok (.iload_n 3, 1) := by decide +kernel
theorem dX12_hurries_67 : decode cX12_hurries 67 = .ok (.invokevirtual 354, 3) := by decide +kernel
theorem dX12_hurries_70 : decode cX12_hurries 70 = .ok (.iadd, 1) := by decide +kernel
theorem dX12_hurries_71 : decode cX12_hurries 71 = .ok (.istore_n 2, 1) := by decide +kernel
theorem dX12_hurries_72 : decode cX12_hurries 72 = .ok (.iinc 3 1, 3) := by decide +kernel
theorem dX12_hurries_75 : decode cX12_hurries 75 = .ok (.goto (-52), 3) := by decide +kernel
theorem dX12_hurries_78 : decode cX12_hurries 78 = .ok (.iload_n 2, 1) := by decide +kernel
theorem dX12_hurries_79 : decode cX12_hurries 79 = .ok (.ireturn, 1) := by decide +kernel
theorem dX12_keptOr_0 : decode cX12_keptOr 0 = .ok (.iload_n 2, 1) := by decide +kernel
theorem dX12_keptOr_1 : decode cX12_keptOr 1 = .ok (.ifCond .ge 5, 3) := by decide +kernel
theorem dX12_keptOr_4 : decode cX12_keptOr 4 = .ok (.iload_n 2, 1) := by decide +kernel
theorem dX12_keptOr_5 : decode cX12_keptOr 5 = .ok (.ireturn, 1) := by decide +kernel
theorem dX12_keptOr_6 : decode cX12_keptOr 6 = .ok (.sipush 192, 3) := by decide +kernel
theorem dX12_keptOr_9 : decode cX12_keptOr 9 = .ok (.istore_n 3, 1) := by decide +kernel
theorem dX12_keptOr_10 : decode cX12_keptOr 10 = .ok (.aload_n 0, 1) := by decide +kernel
theorem dX12_keptOr_11 : decode cX12_keptOr 11 = .ok (.getfield 11, 3) := by decide +kernel
theorem dX12_keptOr_14 : decode cX12_keptOr 14 = .ok (.bipush 16, 2) := by decide +kernel
theorem dX12_keptOr_16 : decode cX12_keptOr 16 = .ok (.if_icmp .ne 47, 3) := by decide +kernel
theorem dX12_keptOr_19 : decode cX12_keptOr 19 = .ok (.iconst 0, 1) := by decide +kernel
theorem dX12_keptOr_20 : decode cX12_keptOr 20 = .ok (.istore 4, 2) := by decide +kernel
theorem dX12_keptOr_22 : decode cX12_keptOr 22 = .ok (.iload 4, 2) := by decide +kernel
theorem dX12_keptOr_24 : decode cX12_keptOr 24 = .ok (.bipush 15, 2) := by decide +kernel
theorem dX12_keptOr_26 : decode cX12_keptOr 26 = .ok (.iload_n 3, 1) := by decide +kernel
theorem dX12_keptOr_27 : decode cX12_keptOr 27 = .ok (.imul, 1) := by decide +kernel
theorem dX12_keptOr_28 : decode cX12_keptOr 28 = .ok (.if_icmp .ge 25, 3) := by decide +kernel
theorem dX12_keptOr_31 : decode cX12_keptOr 31 = .ok (.aload_n 0, 1) := by decide +kernel
theorem dX12_keptOr_32 : decode cX12_keptOr 32 = .ok (.getfield 66, 3) := by decide +kernel
theorem dX12_keptOr_35 : decode cX12_keptOr 35 = .ok (.iload 4, 2) := by decide +kernel
theorem dX12_keptOr_37 : decode cX12_keptOr 37 = .ok (.aload_n 0, 1) := by decide +kernel
theorem dX12_keptOr_38 : decode cX12_keptOr 38 = .ok (.getfield 66, 3) := by decide +kernel
theorem dX12_keptOr_41 : decode cX12_keptOr 41 = .ok (.iload 4, 2) := by decide +kernel
theorem dX12_keptOr_43 : decode cX12_keptOr 43 = .ok (.iload_n 3, 1) := by decide +kernel
theorem dX12_keptOr_44 : decode cX12_keptOr 44 = .ok (.iadd, 1) := by decide +kernel
theorem dX12_keptOr_45 : decode cX12_keptOr 45 = .ok (.iaload, 1) := by decide +kernel
theorem dX12_keptOr_46 : decode cX12_keptOr 46 = .ok (.iastore, 1) := by decide +kernel
theorem dX12_keptOr_47 : decode cX12_keptOr 47 = .ok (.iinc 4 1, 3) := by decide +kernel
theorem dX12_keptOr_50 : decode cX12_keptOr 50 = .ok (.goto (-28), 3) := by decide +kernel
theorem dX12_keptOr_53 : decode cX12_keptOr 53 = .ok (.aload_n 0, 1) := by decide +kernel
theorem dX12_keptOr_54 : decode cX12_keptOr 54 = .ok (.dup, 1) := by decide +kernel
theorem dX12_keptOr_55 : decode cX12_keptOr 55 = .ok (.getfield 11, 3) := by decide +kernel
theorem dX12_keptOr_58 : decode cX12_keptOr 58 = .ok (.iconst 1, 1) := by decide +kernel
theorem dX12_keptOr_59 : decode cX12_keptOr 59 = .ok (.isub, 1) := by decide +kernel
theorem dX12_keptOr_60 : decode cX12_keptOr 60 = .ok (.putfield 11, 3) := by decide +kernel
theorem dX12_keptOr_63 : decode cX12_keptOr 63 = .ok (.iconst 0, 1) := by decide +kernel
theorem dX12_keptOr_64 : decode cX12_keptOr 64 = .ok (.istore 4, 2) := by decide +kernel
theorem dX12_keptOr_66 : decode cX12_keptOr 66 = .ok (.iload 4, 2) := by decide +kernel
theorem dX12_keptOr_68 : decode cX12_keptOr 68 = .ok (.sipush 191, 3) := by decide +kernel
theorem dX12_keptOr_71 : decode cX12_keptOr 71 = .ok (.if_icmp .ge 34, 3) := by decide +kernel
theorem dX12_keptOr_74 : decode cX12_keptOr 74 = .ok (.aload_n 0, 1) := by decide +kernel
theorem dX12_keptOr_75 : decode cX12_keptOr 75 = .ok (.getfield 66, 3) := by decide +kernel
theorem dX12_keptOr_78 : decode cX12_keptOr 78 = .ok (.iload_n 3, 1) := by decide +kernel
theorem dX12_keptOr_79 : decode cX12_keptOr 79 = .ok (.aload_n 0, 1) := by decide +kernel
theorem dX12_keptOr_80 : decode cX12_keptOr 80 = .ok (.getfield 11, 3) := by decide +kernel
theorem dX12_keptOr_83 : decode cX12_keptOr 83 = .ok (.imul, 1) := by decide +kernel
theorem dX12_keptOr_84 : decode cX12_keptOr 84 = .ok (.iload 4, 2) := by decide +kernel
theorem dX12_keptOr_86 : decode cX12_keptOr 86 = .ok (.iadd, 1) := by decide +kernel
theorem dX12_keptOr_87 : decode cX12_keptOr 87 = .ok (.aload_n 0, 1) := by decide +kernel
theorem dX12_keptOr_88 : decode cX12_keptOr 88 = .ok (.getfield 38, 3) := by decide +kernel
theorem dX12_keptOr_91 : decode cX12_keptOr 91 = .ok (.sipush 382, 3) := by decide +kernel
theorem dX12_keptOr_94 : decode cX12_keptOr 94 = .ok (.iload 4, 2) := by decide +kernel
theorem dX12_keptOr_96 : decode cX12_keptOr 96 = .ok (.iadd, 1) := by decide +kernel
theorem dX12_keptOr_97 : decode cX12_keptOr 97 = .ok (.iaload, 1) := by decide +kernel
theorem dX12_keptOr_98 : decode cX12_keptOr 98 = .ok (.iastore, 1) := by decide +kernel
theorem dX12_keptOr_99 : decode cX12_keptOr 99 = .ok (.iinc 4 1, 3) := by decide +kernel
theorem dX12_keptOr_102 : decode cX12_keptOr 102 = .ok (.goto (-36), 3) := by decide +kernel
theorem dX12_keptOr_105 : decode cX12_keptOr 105 = .ok (.aload_n 0, 1) := by decide +kernel
theorem dX12_keptOr_106 : decode cX12_keptOr 106 = .ok (.getfield 66, 3) := by decide +kernel
theorem dX12_keptOr_109 : decode cX12_keptOr 109 = .ok (.iload_n 3, 1) := by decide +kernel
theorem dX12_keptOr_110 : decode cX12_keptOr 110 = .ok (.aload_n 0, 1) := by decide +kernel
theorem dX12_keptOr_111 : decode cX12_keptOr 111 = .ok (.getfield 11, 3) := by decide +kernel
theorem dX12_keptOr_114 : decode cX12_keptOr 114 = .ok (.imul, 1) := by decide +kernel
theorem dX12_keptOr_115 : decode cX12_keptOr 115 = .ok (.sipush 191, 3) := by decide +kernel
theorem dX12_keptOr_118 : decode cX12_keptOr 118 = .ok (.iadd, 1) := by decide +kernel
theorem dX12_keptOr_119 : decode cX12_keptOr 119 = .ok (.iload_n 1, 1) := by decide +kernel
theorem dX12_keptOr_120 : decode cX12_keptOr 120 = .ok (.iastore, 1) := by decide +kernel
theorem dX12_keptOr_121 : decode cX12_keptOr 121 = .ok (.aload_n 0, 1) := by decide +kernel
theorem dX12_keptOr_122 : decode cX12_keptOr 122 = .ok (.dup, 1) := by decide +kernel
theorem dX12_keptOr_123 : decode cX12_keptOr 123 = .ok (.getfield 11, 3) := by decide +kernel
theorem dX12_keptOr_126 : decode cX12_keptOr 126 = .ok (.iconst 1, 1) := by decide +kernel
theorem dX12_keptOr_127 : decode cX12_keptOr 127 = .ok (.iadd, 1) := by decide +kernel
theorem dX12_keptOr_128 : decode cX12_keptOr 128 = .ok (.putfield 11, 3) := by decide +kernel
theorem dX12_keptOr_131 : decode cX12_keptOr 131 = .ok (.iload_n 2, 1) := by decide +kernel
theorem dX12_keptOr_132 : decode cX12_keptOr 132 = .ok (.ireturn, 1) := by decide +kernel
theorem dX12_undo_0 : decode cX12_undo 0 = .ok (.aload_n 0, 1) := by decide +kernel
theorem dX12_undo_1 : decode cX12_undo 1 = .ok (.getfield 11, 3) := by decide +kernel
theorem dX12_undo_4 : decode cX12_undo 4 = .ok (.ifCond .ne 10, 3) := by decide +kernel
theorem dX12_undo_7 : decode cX12_undo 7 = .ok (.aload_n 0, 1) := by decide +kernel
theorem dX12_undo_8 : decode cX12_undo 8 = .ok (.bipush (-3), 2) := by decide +kernel
theorem dX12_undo_10 : decode cX12_undo 10 = .ok (.invokevirtual 85, 3) := by decide +kernel
theorem dX12_undo_13 : decode cX12_undo 13 = .ok (.ireturn, 1) := by decide +kernel
theorem dX12_undo_14 : decode cX12_undo 14 = .ok (.aload_n 0, 1) := by decide +kernel
theorem dX12_undo_15 : decode cX12_undo 15 = .ok (.dup, 1) := by decide +kernel
theorem dX12_undo_16 : decode cX12_undo 16 = .ok (.getfield 11, 3) := by decide +kernel
theorem dX12_undo_19 : decode cX12_undo 19 = .ok (.iconst 1, 1) := by decide +kernel
theorem dX12_undo_20 : decode cX12_undo 20 = .ok (.isub, 1) := by decide +kernel
theorem dX12_undo_21 : decode cX12_undo 21 = .ok (.putfield 11, 3) := by decide +kernel
theorem dX12_undo_24 : decode cX12_undo 24 = .ok (.sipush 192, 3) := by decide +kernel
theorem dX12_undo_27 : decode cX12_undo 27 = .ok (.aload_n 0, 1) := by decide +kernel
theorem dX12_undo_28 : decode cX12_undo 28 = .ok (.getfield 11, 3) := by decide +kernel
theorem dX12_undo_31 : decode cX12_undo 31 = .ok (.imul, 1) := by decide +kernel
theorem dX12_undo_32 : decode cX12_undo 32 = .ok (.istore_n 1, 1) := by decide +kernel
theorem dX12_undo_33 : decode cX12_undo 33 = .ok (.iconst 0, 1) := by decide +kernel
theorem dX12_undo_34 : decode cX12_undo 34 = .ok (.istore_n 2, 1) := by decide +kernel
theorem dX12_undo_35 : decode cX12_undo 35 = .ok (.iload_n 2, 1) := by decide +kernel
theorem dX12_undo_36 : decode cX12_undo 36 = .ok (.sipush 191, 3) := by decide +kernel
theorem dX12_undo_39 : decode cX12_undo 39 = .ok (.if_icmp .ge 23, 3) := by decide +kernel
theorem dX12_undo_42 : decode cX12_undo 42 = .ok (.aload_n 0, 1) := by decide +kernel
theorem dX12_undo_43 : decode cX12_undo 43 = .ok (.getfield 28, 3) := by decide +kernel
theorem dX12_undo_46 : decode cX12_undo 46 = .ok (.iload_n 2, 1) := by decide +kernel
theorem dX12_undo_47 : decode cX12_undo 47 = .ok (.aload_n 0, 1) := by decide +kernel
theorem dX12_undo_48 : decode cX12_undo 48 = .ok (.getfield 66, 3) := by decide +kernel
theorem dX12_undo_51 : decode cX12_undo 51 = .ok (.iload_n 1, 1) := by decide +kernel
theorem dX12_undo_52 : decode cX12_undo 52 = .ok (.iload_n 2, 1) := by decide +kernel
theorem dX12_undo_53 : decode cX12_undo 53 = .ok (.iadd, 1) := by decide +kernel
theorem dX12_undo_54 : decode cX12_undo 54 = .ok (.iaload, 1) := by decide +kernel
theorem dX12_undo_55 : decode cX12_undo 55 = .ok (.iastore, 1) := by decide +kernel
theorem dX12_undo_56 : decode cX12_undo 56 = .ok (.iinc 2 1, 3) := by decide +kernel
theorem dX12_undo_59 : decode cX12_undo 59 = .ok (.goto (-24), 3) := by decide +kernel
theorem dX12_undo_62 : decode cX12_undo 62 = .ok (.aload_n 0, 1) := by decide +kernel
theorem dX12_undo_63 : decode cX12_undo 63 = .ok (.aload_n 0, 1) := by decide +kernel
theorem dX12_undo_64 : decode cX12_undo 64 = .ok (.getfield 66, 3) := by decide +kernel
theorem dX12_undo_67 : decode cX12_undo 67 = .ok (.iload_n 1, 1) := by decide +kernel
theorem dX12_undo_68 : decode cX12_undo 68 = .ok (.sipush 191, 3) := by decide +kernel
theorem dX12_undo_71 : decode cX12_undo 71 = .ok (.iadd, 1) := by decide +kernel
theorem dX12_undo_72 : decode cX12_undo 72 = .ok (.iaload, 1) := by decide +kernel
theorem dX12_undo_73 : decode cX12_undo 73 = .ok (.invokevirtual 14, 3) := by decide +kernel
theorem dX12_undo_76 : decode cX12_undo 76 = .ok (.ireturn, 1) := by decide +kernel
theorem dX12_goodOr_0 : decode cX12_goodOr 0 = .ok (.iload_n 1, 1) := by decide +kernel
theorem dX12_goodOr_1 : decode cX12_goodOr 1 = .ok (.ifCond .ge 11, 3) := by decide +kernel
theorem dX12_goodOr_4 : decode cX12_goodOr 4 = .ok (.aload_n 0, 1) := by decide +kernel
theorem dX12_goodOr_5 : decode cX12_goodOr 5 = .ok (.iload_n 1, 1) := by decide +kernel
theorem dX12_goodOr_6 : decode cX12_goodOr 6 = .ok (.invokevirtual 85, 3) := by decide +kernel
theorem dX12_goodOr_9 : decode cX12_goodOr 9 = .ok (.goto 8, 3) := by decide +kernel
theorem dX12_goodOr_12 : decode cX12_goodOr 12 = .ok (.aload_n 0, 1) := by decide +kernel
theorem dX12_goodOr_13 : decode cX12_goodOr 13 = .ok (.iload_n 1, 1) := by decide +kernel
theorem dX12_goodOr_14 : decode cX12_goodOr 14 = .ok (.invokevirtual 14, 3) := by decide +kernel
theorem dX12_goodOr_17 : decode cX12_goodOr 17 = .ok (.ireturn, 1) := by decide +kernel
theorem dX12_acts_0 : decode cX12_acts 0 = .ok (.iload_n 1, 1) := by decide +kernel
theorem dX12_acts_1 : decode cX12_acts 1 = .ok (.tableswitch 95 0 7 #[47, 54, 60, 66, 72, 78, 84, 90], 47) := by decide +kernel
theorem dX12_acts_48 : decode cX12_acts 48 = .ok (.aload_n 0, 1) := by decide +kernel
theorem dX12_acts_49 : decode cX12_acts 49 = .ok (.iload_n 2, 1) := by decide +kernel
theorem dX12_acts_50 : decode cX12_acts 50 = .ok (.iload_n 3, 1) := by decide +kernel
theorem dX12_acts_51 : decode cX12_acts 51 = .ok (.invokevirtual 139, 3) := by decide +kernel
theorem dX12_acts_54 : decode cX12_acts 54 = .ok (.ireturn, 1) := by decide +kernel
theorem dX12_acts_55 : decode cX12_acts 55 = .ok (.aload_n 0, 1) := by decide +kernel
theorem dX12_acts_56 : decode cX12_acts 56 = .ok (.iload_n 2, 1) := by decide +kernel
theorem dX12_acts_57 : decode cX12_acts 57 = .ok (.invokevirtual 357, 3) := by decide +kernel
theorem dX12_acts_60 : decode cX12_acts 60 = .ok (.ireturn, 1) := by decide +kernel
theorem dX12_acts_61 : decode cX12_acts 61 = .ok (.aload_n 0, 1) := by decide +kernel
theorem dX12_acts_62 : decode cX12_acts 62 = .ok (.iload_n 2, 1) := by decide +kernel
theorem dX12_acts_63 : decode cX12_acts 63 = .ok (.invokevirtual 360, 3) := by decide +kernel
theorem dX12_acts_66 : decode cX12_acts 66 = .ok (.ireturn, 1) := by decide +kernel
theorem dX12_acts_67 : decode cX12_acts 67 = .ok (.aload_n 0, 1) := by decide +kernel
theorem dX12_acts_68 : decode cX12_acts 68 = .ok (.iload_n 2, 1) := by decide +kernel
theorem dX12_acts_69 : decode cX12_acts 69 = .ok (.invokevirtual 363, 3) := by decide +kernel
theorem dX12_acts_72 : decode cX12_acts 72 = .ok (.ireturn, 1) := by decide +kernel
theorem dX12_acts_73 : decode cX12_acts 73 = .ok (.aload_n 0, 1) := by decide +kernel
theorem dX12_acts_74 : decode cX12_acts 74 = .ok (.iload_n 2, 1) := by decide +kernel
theorem dX12_acts_75 : decode cX12_acts 75 = .ok (.invokevirtual 366, 3) := by decide +kernel
theorem dX12_acts_78 : decode cX12_acts 78 = .ok (.ireturn, 1) := by decide +kernel
theorem dX12_acts_79 : decode cX12_acts 79 = .ok (.aload_n 0, 1) := by decide +kernel
theorem dX12_acts_80 : decode cX12_acts 80 = .ok (.iload_n 2, 1) := by decide +kernel
theorem dX12_acts_81 : decode cX12_acts 81 = .ok (.invokevirtual 369, 3) := by decide +kernel
theorem dX12_acts_84 : decode cX12_acts 84 = .ok (.ireturn, 1) := by decide +kernel
theorem dX12_acts_85 : decode cX12_acts 85 = .ok (.aload_n 0, 1) := by decide +kernel
theorem dX12_acts_86 : decode cX12_acts 86 = .ok (.iload_n 2, 1) := by decide +kernel
theorem dX12_acts_87 : decode cX12_acts 87 = .ok (.invokevirtual 354, 3) := by decide +kernel
theorem dX12_acts_90 : decode cX12_acts 90 = .ok (.ireturn, 1) := by decide +kernel
theorem dX12_acts_91 : decode cX12_acts 91 = .ok (.aload_n 0, 1) := by decide +kernel
theorem dX12_acts_92 : decode cX12_acts 92 = .ok (.invokevirtual 372, 3) := by decide +kernel
theorem dX12_acts_95 : decode cX12_acts 95 = .ok (.ireturn, 1) := by decide +kernel
theorem dX12_acts_96 : decode cX12_acts 96 = .ok (.aload_n 0, 1) := by decide +kernel
theorem dX12_acts_97 : decode cX12_acts 97 = .ok (.invokevirtual 375, 3) := by decide +kernel
theorem dX12_acts_100 : decode cX12_acts 100 = .ok (.ireturn, 1) := by decide +kernel
theorem dX12_actsKept_0 : decode cX12_actsKept 0 = .ok (.aload_n 0, 1) := by decide +kernel
theorem dX12_actsKept_1 : decode cX12_actsKept 1 = .ok (.iconst 2, 1) := by decide +kernel
theorem dX12_actsKept_2 : decode cX12_actsKept 2 = .ok (.invokevirtual 378, 3) := by decide +kernel
theorem dX12_actsKept_5 : decode cX12_actsKept 5 = .ok (.aload_n 0, 1) := by decide +kernel
theorem dX12_actsKept_6 : decode cX12_actsKept 6 = .ok (.iload_n 1, 1) := by decide +kernel
theorem dX12_actsKept_7 : decode cX12_actsKept 7 = .ok (.aload_n 0, 1) := by decide +kernel
theorem dX12_actsKept_8 : decode cX12_actsKept 8 = .ok (.iload_n 1, 1) := by decide +kernel
theorem dX12_actsKept_9 : decode cX12_actsKept 9 = .ok (.iload_n 2, 1) := by decide +kernel
theorem dX12_actsKept_10 : decode cX12_actsKept 10 = .ok (.iload_n 3, 1) := by decide +kernel
theorem dX12_actsKept_11 : decode cX12_actsKept 11 = .ok (.invokevirtual 381, 3) := by decide +kernel
theorem dX12_actsKept_14 : decode cX12_actsKept 14 = .ok (.invokevirtual 385, 3) := by decide +kernel
theorem dX12_actsKept_17 : decode cX12_actsKept 17 = .ok (.ireturn, 1) := by decide +kernel
theorem dX12_put_0 : decode cX12_put 0 = .ok (.aload_n 0, 1) := by decide +kernel
theorem dX12_put_1 : decode cX12_put 1 = .ok (.aload_n 0, 1) := by decide +kernel
theorem dX12_put_2 : decode cX12_put 2 = .ok (.iconst 0, 1) := by decide +kernel
theorem dX12_put_3 : decode cX12_put 3 = .ok (.iload_n 1, 1) := by decide +kernel
theorem dX12_put_4 : decode cX12_put 4 = .ok (.iload_n 2, 1) := by decide +kernel
theorem dX12_put_5 : decode cX12_put 5 = .ok (.invokevirtual 388, 3) := by decide +kernel
theorem dX12_put_8 : decode cX12_put 8 = .ok (.invokevirtual 391, 3) := by decide +kernel
theorem dX12_put_11 : decode cX12_put 11 = .ok (.ireturn, 1) := by decide +kernel
theorem dX12_drop_0 : decode cX12_drop 0 = .ok (.aload_n 0, 1) := by decide +kernel
theorem dX12_drop_1 : decode cX12_drop 1 = .ok (.aload_n 0, 1) := by decide +kernel
theorem dX12_drop_2 : decode cX12_drop 2 = .ok (.iconst 1, 1) := by decide +kernel
theorem dX12_drop_3 : decode cX12_drop 3 = .ok (.iload_n 1, 1) := by decide +kernel
theorem dX12_drop_4 : decode cX12_drop 4 = .ok (.iconst 0, 1) := by decide +kernel
theorem dX12_drop_5 : decode cX12_drop 5 = .ok (.invokevirtual 388, 3) := by decide +kernel
theorem dX12_drop_8 : decode cX12_drop 8 = .ok (.invokevirtual 391, 3) := by decide +kernel
theorem dX12_drop_11 : decode cX12_drop 11 = .ok (.ireturn, 1) := by decide +kernel
theorem dX12_enter_0 : decode cX12_enter 0 = .ok (.aload_n 0, 1) := by decide +kernel
theorem dX12_enter_1 : decode cX12_enter 1 = .ok (.aload_n 0, 1) := by decide +kernel
theorem dX12_enter_2 : decode cX12_enter 2 = .ok (.iconst 2, 1) := by decide +kernel
theorem dX12_enter_3 : decode cX12_enter 3 = .ok (.iload_n 1, 1) := by decide +kernel
theorem dX12_enter_4 : decode cX12_enter 4 = .ok (.iconst 0, 1) := by decide +kernel
theorem dX12_enter_5 : decode cX12_enter 5 = .ok (.invokevirtual 388, 3) := by decide +kernel
theorem dX12_enter_8 : decode cX12_enter 8 = .ok (.invokevirtual 391, 3) := by decide +kernel
theorem dX12_enter_11 : decode cX12_enter 11 = .ok (.ireturn, 1) := by decide +kernel
theorem dX12_step_0 : decode cX12_step 0 = .ok (.aload_n 0, 1) := by decide +kernel
theorem dX12_step_1 : decode cX12_step 1 = .ok (.aload_n 0, 1) := by decide +kernel
theorem dX12_step_2 : decode cX12_step 2 = .ok (.iconst 3, 1) := by decide +kernel
theorem dX12_step_3 : decode cX12_step 3 = .ok (.iload_n 1, 1) := by decide +kernel
theorem dX12_step_4 : decode cX12_step 4 = .ok (.iconst 0, 1) := by decide +kernel
theorem dX12_step_5 : decode cX12_step 5 = .ok (.invokevirtual 388, 3) := by decide +kernel
theorem dX12_step_8 : decode cX12_step 8 = .ok (.invokevirtual 391, 3) := by decide +kernel
theorem dX12_step_11 : decode cX12_step 11 = .ok (.ireturn, 1) := by decide +kernel
theorem dX12_park_0 : decode cX12_park 0 = .ok (.aload_n 0, 1) := by decide +kernel
theorem dX12_park_1 : decode cX12_park 1 = .ok (.aload_n 0, 1) := by decide +kernel
theorem dX12_park_2 : decode cX12_park 2 = .ok (.iconst 4, 1) := by decide +kernel
theorem dX12_park_3 : decode cX12_park 3 = .ok (.iload_n 1, 1) := by decide +kernel
theorem dX12_park_4 : decode cX12_park 4 = .ok (.iconst 0, 1) := by decide +kernel
theorem dX12_park_5 : decode cX12_park 5 = .ok (.invokevirtual 388, 3) := by decide +kernel
theorem dX12_park_8 : decode cX12_park 8 = .ok (.invokevirtual 391, 3) := by decide +kernel
theorem dX12_park_11 : decode cX12_park 11 = .ok (.ireturn, 1) := by decide +kernel
theorem dX12_leave_0 : decode cX12_leave 0 = .ok (.aload_n 0, 1) := by decide +kernel
theorem dX12_leave_1 : decode cX12_leave 1 = .ok (.aload_n 0, 1) := by decide +kernel
theorem dX12_leave_2 : decode cX12_leave 2 = .ok (.iconst 5, 1) := by decide +kernel
theorem dX12_leave_3 : decode cX12_leave 3 = .ok (.iload_n 1, 1) := by decide +kernel
theorem dX12_leave_4 : decode cX12_leave 4 = .ok (.iconst 0, 1) := by decide +kernel
theorem dX12_leave_5 : decode cX12_leave 5 = .ok (.invokevirtual 388, 3) := by decide +kernel
theorem dX12_leave_8 : decode cX12_leave 8 = .ok (.invokevirtual 391, 3) := by decide +kernel
theorem dX12_leave_11 : decode cX12_leave 11 = .ok (.ireturn, 1) := by decide +kernel
theorem dX12_tick_0 : decode cX12_tick 0 = .ok (.aload_n 0, 1) := by decide +kernel
theorem dX12_tick_1 : decode cX12_tick 1 = .ok (.aload_n 0, 1) := by decide +kernel
theorem dX12_tick_2 : decode cX12_tick 2 = .ok (.bipush 6, 2) := by decide +kernel
theorem dX12_tick_4 : decode cX12_tick 4 = .ok (.iload_n 1, 1) := by decide +kernel
theorem dX12_tick_5 : decode cX12_tick 5 = .ok (.iconst 0, 1) := by decide +kernel
theorem dX12_tick_6 : decode cX12_tick 6 = .ok (.invokevirtual 388, 3) := by decide +kernel
theorem dX12_tick_9 : decode cX12_tick 9 = .ok (.invokevirtual 391, 3) := by decide +kernel
theorem dX12_tick_12 : decode cX12_tick 12 = .ok (.ireturn, 1) := by decide +kernel
theorem dX12_begin_0 : decode cX12_begin 0 = .ok (.aload_n 0, 1) := by decide +kernel
theorem dX12_begin_1 : decode cX12_begin 1 = .ok (.aload_n 0, 1) := by decide +kernel
theorem dX12_begin_2 : decode cX12_begin 2 = .ok (.bipush 7, 2) := by decide +kernel
theorem dX12_begin_4 : decode cX12_begin 4 = .ok (.iconst 0, 1) := by decide +kernel
theorem dX12_begin_5 : decode cX12_begin 5 = .ok (.iconst 0, 1) := by decide +kernel
theorem dX12_begin_6 : decode cX12_begin 6 = .ok (.invokevirtual 388, 3) := by decide +kernel
theorem dX12_begin_9 : decode cX12_begin 9 = .ok (.invokevirtual 391, 3) := by decide +kernel
theorem dX12_begin_12 : decode cX12_begin 12 = .ok (.ireturn, 1) := by decide +kernel
theorem dX12_hurry_0 : decode cX12_hurry 0 = .ok (.aload_n 0, 1) := by decide +kernel
theorem dX12_hurry_1 : decode cX12_hurry 1 = .ok (.aload_n 0, 1) := by decide +kernel
theorem dX12_hurry_2 : decode cX12_hurry 2 = .ok (.bipush 8, 2) := by decide +kernel
theorem dX12_hurry_4 : decode cX12_hurry 4 = .ok (.iconst 0, 1) := by decide +kernel
theorem dX12_hurry_5 : decode cX12_hurry 5 = .ok (.iconst 0, 1) := by decide +kernel
theorem dX12_hurry_6 : decode cX12_hurry 6 = .ok (.invokevirtual 388, 3) := by decide +kernel
theorem dX12_hurry_9 : decode cX12_hurry 9 = .ok (.invokevirtual 391, 3) := by decide +kernel
theorem dX12_hurry_12 : decode cX12_hurry 12 = .ok (.ireturn, 1) := by decide +kernel
theorem dX12_sees_0 : decode cX12_sees 0 = .ok (.iload_n 1, 1) := by decide +kernel
theorem dX12_sees_1 : decode cX12_sees 1 = .ok (.invokestatic 106, 3) := by decide +kernel
theorem dX12_sees_4 : decode cX12_sees 4 = .ok (.ifCond .eq 7, 3) := by decide +kernel
theorem dX12_sees_7 : decode cX12_sees 7 = .ok (.iload_n 2, 1) := by decide +kernel
theorem dX12_sees_8 : decode cX12_sees 8 = .ok (.ifCond .ge 5, 3) := by decide +kernel
theorem dX12_sees_11 : decode cX12_sees 11 = .ok (.iconst (-1), 1) := by decide +kernel
theorem dX12_sees_12 : decode cX12_sees 12 = .ok (.ireturn, 1) := by decide +kernel
theorem dX12_sees_13 : decode cX12_sees 13 = .ok (.aload_n 0, 1) := by decide +kernel
theorem dX12_sees_14 : decode cX12_sees 14 = .ok (.iload_n 1, 1) := by decide +kernel
theorem dX12_sees_15 : decode cX12_sees 15 = .ok (.invokevirtual 109, 3) := by decide +kernel
theorem dX12_sees_18 : decode cX12_sees 18 = .ok (.istore_n 3, 1) := by decide +kernel
theorem dX12_sees_19 : decode cX12_sees 19 = .ok (.iconst 0, 1) := by decide +kernel
theorem dX12_sees_20 : decode cX12_sees 20 = .ok (.istore 4, 2) := by decide +kernel
theorem dX12_sees_22 : decode cX12_sees 22 = .ok (.iload 4, 2) := by decide +kernel
theorem dX12_sees_24 : decode cX12_sees 24 = .ok (.iload_n 2, 1) := by decide +kernel
theorem dX12_sees_25 : decode cX12_sees 25 = .ok (.if_icmp .ge 24, 3) := by decide +kernel
theorem dX12_sees_28 : decode cX12_sees 28 = .ok (.iload_n 3, 1) := by decide +kernel
theorem dX12_sees_29 : decode cX12_sees 29 = .ok (.iconst (-1), 1) := by decide +kernel
theorem dX12_sees_30 : decode cX12_sees 30 = .ok (.if_icmp .eq 19, 3) := by decide +kernel
theorem dX12_sees_33 : decode cX12_sees 33 = .ok (.aload_n 0, 1) := by decide +kernel
theorem dX12_sees_34 : decode cX12_sees 34 = .ok (.getfield 28, 3) := by decide +kernel
theorem dX12_sees_37 : decode cX12_sees 37 = .ok (.bipush 72, 2) := by decide +kernel
theorem dX12_sees_39 : decode cX12_sees 39 = .ok (.iload_n 3, 1) := by decide +kernel
theorem dX12_sees_40 : decode cX12_sees 40 = .ok (.iadd, 1) := by decide +kernel
theorem dX12_sees_41 : decode cX12_sees 41 = .ok (.iaload, 1) := by decide +kernel
theorem dX12_sees_42 : decode cX12_sees 42 = .ok (.istore_n 3, 1) := by decide +kernel
theorem dX12_sees_43 : decode cX12_sees 43 = .ok (.iinc 4 1, 3) := by decide +kernel
theorem dX12_sees_46 : decode cX12_sees 46 = .ok (.goto (-24), 3) := by decide +kernel
theorem dX12_sees_49 : decode cX12_sees 49 = .ok (.iload_n 3, 1) := by decide +kernel
theorem dX12_sees_50 : decode cX12_sees 50 = .ok (.ireturn, 1) := by decide +kernel
theorem dX12_seesCell_0 : decode cX12_seesCell 0 = .ok (.aload_n 0, 1) := by decide +kernel
theorem dX12_seesCell_1 : decode cX12_seesCell 1 = .ok (.iload_n 1, 1) := by decide +kernel
theorem dX12_seesCell_2 : decode cX12_seesCell 2 = .ok (.invokevirtual 109, 3) := by decide +kernel
theorem dX12_seesCell_5 : decode cX12_seesCell 5 = .ok (.istore_n 3, 1) := by decide +kernel
theorem dX12_seesCell_6 : decode cX12_seesCell 6 = .ok (.iload_n 3, 1) := by decide +kernel
theorem dX12_seesCell_7 : decode cX12_seesCell 7 = .ok (.iconst (-1), 1) := by decide +kernel
theorem dX12_seesCell_8 : decode cX12_seesCell 8 = .ok (.if_icmp .eq 21, 3) := by decide +kernel
theorem dX12_seesCell_11 : decode cX12_seesCell 11 = .ok (.iload_n 3, 1) := by decide +kernel
theorem dX12_seesCell_12 : decode cX12_seesCell 12 = .ok (.iload_n 2, 1) := by decide +kernel
theorem dX12_seesCell_13 : decode cX12_seesCell 13 = .ok (.if_icmp .eq 16, 3) := by decide +kernel
theorem dX12_seesCell_16 : decode cX12_seesCell 16 = .ok (.aload_n 0, 1) := by decide +kernel
theorem dX12_seesCell_17 : decode cX12_seesCell 17 = .ok (.getfield 28, 3) := by decide +kernel
theorem dX12_seesCell_20 : decode cX12_seesCell 20 = .ok (.bipush 72, 2) := by decide +kernel
theorem dX12_seesCell_22 : decode cX12_seesCell 22 = .ok (.iload_n 3, 1) := by decide +kernel
theorem dX12_seesCell_23 : decode cX12_seesCell 23 = .ok (.iadd, 1) := by decide +kernel
theorem dX12_seesCell_24 : decode cX12_seesCell 24 = .ok (.iaload, 1) := by decide +kernel
theorem dX12_seesCell_25 : decode cX12_seesCell 25 = .ok (.istore_n 3, 1) := by decide +kernel
theorem dX12_seesCell_26 : decode cX12_seesCell 26 = .ok (.goto (-20), 3) := by decide +kernel
theorem dX12_seesCell_29 : decode cX12_seesCell 29 = .ok (.iload_n 3, 1) := by decide +kernel
theorem dX12_seesCell_30 : decode cX12_seesCell 30 = .ok (.iconst (-1), 1) := by decide +kernel
theorem dX12_seesCell_31 : decode cX12_seesCell 31 = .ok (.if_icmp .eq 7, 3) := by decide +kernel
theorem dX12_seesCell_34 : decode cX12_seesCell 34 = .ok (.iconst 1, 1) := by decide +kernel
theorem dX12_seesCell_35 : decode cX12_seesCell 35 = .ok (.goto 4, 3) := by decide +kernel
theorem dX12_seesCell_38 : decode cX12_seesCell 38 = .ok (.iconst 0, 1) := by decide +kernel
theorem dX12_seesCell_39 : decode cX12_seesCell 39 = .ok (.ireturn, 1) := by decide +kernel
theorem dX12_reach_0 : decode cX12_reach 0 = .ok (.iload_n 1, 1) := by decide +kernel
theorem dX12_reach_1 : decode cX12_reach 1 = .ok (.invokestatic 115, 3) := by decide +kernel
theorem dX12_reach_4 : decode cX12_reach 4 = .ok (.ifCond .ne 5, 3) := by decide +kernel
theorem dX12_reach_7 : decode cX12_reach 7 = .ok (.iconst (-1), 1) := by decide +kernel
theorem dX12_reach_8 : decode cX12_reach 8 = .ok (.ireturn, 1) := by decide +kernel
theorem dX12_reach_9 : decode cX12_reach 9 = .ok (.iconst 0, 1) := by decide +kernel
theorem dX12_reach_10 : decode cX12_reach 10 = .ok (.istore_n 2, 1) := by decide +kernel
theorem dX12_reach_11 : decode cX12_reach 11 = .ok (.iconst 0, 1) := by decide +kernel
theorem dX12_reach_12 : decode cX12_reach 12 = .ok (.istore_n 3, 1) := by decide +kernel
theorem dX12_reach_13 : decode cX12_reach 13 = .ok (.iload_n 3, 1) := by decide +kernel
theorem dX12_reach_14 : decode cX12_reach 14 = .ok (.bipush 8, 2) := by decide +kernel
theorem dX12_reach_16 : decode cX12_reach 16 = .ok (.if_icmp .ge 28, 3) := by decide +kernel
theorem dX12_reach_19 : decode cX12_reach 19 = .ok (.iload_n 2, 1) := by decide +kernel
theorem dX12_reach_20 : decode cX12_reach 20 = .ok (.aload_n 0, 1) := by decide +kernel
theorem dX12_reach_21 : decode cX12_reach 21 = .ok (.iload_n 3, 1) := by decide +kernel
theorem dX12_reach_22 : decode cX12_reach 22 = .ok (.iload_n 1, 1) := by decide +kernel
theorem dX12_reach_23 : decode cX12_reach 23 = .ok (.invokevirtual 394, 3) := by decide +kernel
theorem dX12_reach_26 : decode cX12_reach 26 = .ok (.ifCond .eq 9, 3) := by decide +kernel
theorem dX12_reach_29 : decode cX12_reach 29 = .ok (.iconst 1, 1) := by decide +kernel
theorem dX12_reach_30 : decode cX12_reach 30 = .ok (.iload_n 3, 1) := by decide +kernel
theorem dX12_reach_31 : decode cX12_reach 31 = .ok (.ishl, 1) := by decide +kernel
theorem dX12_reach_32 : decode cX12_reach 32 = .ok (.goto 4, 3) := by decide +kernel
theorem dX12_reach_35 : decode cX12_reach 35 = .ok (.iconst 0, 1) := by decide +kernel
theorem dX12_reach_36 : decode cX12_reach 36 = .ok (.ior, 1) := by decide +kernel
theorem dX12_reach_37 : decode cX12_reach 37 = .ok (.istore_n 2, 1) := by decide +kernel
theorem dX12_reach_38 : decode cX12_reach 38 = .ok (.iinc 3 1, 3) := by decide +kernel
theorem dX12_reach_41 : decode cX12_reach 41 = .ok (.goto (-28), 3) := by decide +kernel
theorem dX12_reach_44 : decode cX12_reach 44 = .ok (.iload_n 2, 1) := by decide +kernel
theorem dX12_reach_45 : decode cX12_reach 45 = .ok (.ireturn, 1) := by decide +kernel
theorem dX12_holders_0 : decode cX12_holders 0 = .ok (.iconst 0, 1) := by decide +kernel
theorem dX12_holders_1 : decode cX12_holders 1 = .ok (.istore_n 1, 1) := by decide +kernel
theorem dX12_holders_2 : decode cX12_holders 2 = .ok (.iconst 0, 1) := by decide +kernel
theorem dX12_holders_3 : decode cX12_holders 3 = .ok (.istore_n 2, 1) := by decide +kernel
theorem dX12_holders_4 : decode cX12_holders 4 = .ok (.iload_n 2, 1) := by decide +kernel
theorem dX12_holders_5 : decode cX12_holders 5 = .ok (.bipush 8, 2) := by decide +kernel
theorem dX12_holders_7 : decode cX12_holders 7 = .ok (.if_icmp .ge 42, 3) := by decide +kernel
theorem dX12_holders_10 : decode cX12_holders 10 = .ok (.aload_n 0, 1) := by decide +kernel
theorem dX12_holders_11 : decode cX12_holders 11 = .ok (.invokevirtual 91, 3) := by decide +kernel
theorem dX12_holders_14 : decode cX12_holders 14 = .ok (.ifCond .eq 35, 3) := by decide +kernel
theorem dX12_holders_17 : decode cX12_holders 17 = .ok (.iload_n 1, 1) := by decide +kernel
theorem dX12_holders_18 : decode cX12_holders 18 = .ok (.aload_n 0, 1) := by decide +kernel
theorem dX12_holders_19 : decode cX12_holders 19 = .ok (.iload_n 2, 1) := by decide +kernel
theorem dX12_holders_20 : decode cX12_holders 20 = .ok (.invokevirtual 112, 3) := by decide +kernel
theorem dX12_holders_23 : decode cX12_holders 23 = .ok (.ifCond .eq 11, 3) := by decide +kernel
theorem dX12_holders_26 : decode cX12_holders 26 = .ok (.aload_n 0, 1) := by decide +kernel
theorem dX12_holders_27 : decode cX12_holders 27 = .ok (.iload_n 2, 1) := by decide +kernel
theorem dX12_holders_28 : decode cX12_holders 28 = .ok (.invokevirtual 330, 3) := by decide +kernel
theorem dX12_holders_31 : decode cX12_holders 31 = .ok (.ifCond .eq 9, 3) := by decide +kernel
theorem dX12_holders_34 : decode cX12_holders 34 = .ok (.iconst 1, 1) := by decide +kernel
theorem dX12_holders_35 : decode cX12_holders 35 = .ok (.iload_n 2, 1) := by decide +kernel
theorem dX12_holders_36 : decode cX12_holders 36 = .ok (.ishl, 1) := by decide +kernel
theorem dX12_holders_37 : decode cX12_holders 37 = .ok (.goto 4, 3) := by decide +kernel
theorem dX12_holders_40 : decode cX12_holders 40 = .ok (.iconst 0, 1) := by decide +kernel
theorem dX12_holders_41 : decode cX12_holders 41 = .ok (.ior, 1) := by decide +kernel
theorem dX12_holders_42 : decode cX12_holders 42 = .ok (.istore_n 1, 1) := by decide +kernel
theorem dX12_holders_43 : decode cX12_holders 43 = .ok (.iinc 2 1, 3) := by decide +kernel
theorem dX12_holders_46 : decode cX12_holders 46 = .ok (.goto (-42), 3) := by decide +kernel
theorem dX12_holders_49 : decode cX12_holders 49 = .ok (.iload_n 1, 1) := by decide +kernel
theorem dX12_holders_50 : decode cX12_holders 50 = .ok (.ireturn, 1) := by decide +kernel
theorem dX12_behindNode_0 : decode cX12_behindNode 0 = .ok (.aload_n 0, 1) := by decide +kernel
theorem dX12_behindNode_1 : decode cX12_behindNode 1 = .ok (.getfield 28, 3) := by decide +kernel
theorem dX12_behindNode_4 : decode cX12_behindNode 4 = .ok (.sipush 131, 3) := by decide +kernel
theorem dX12_behindNode_7 : decode cX12_behindNode 7 = .ok (.iload_n 1, 1) := by decide +kernel
theorem dX12_behindNode_8 : decode cX12_behindNode 8 = .ok (.iadd, 1) := by decide +kernel
theorem dX12_behindNode_9 : decode cX12_behindNode 9 = .ok (.iaload, 1) := by decide +kernel
theorem dX12_behindNode_10 : decode cX12_behindNode 10 = .ok (.iconst 0, 1) := by decide +kernel
theorem dX12_behindNode_11 : decode cX12_behindNode 11 = .ok (.invokestatic 98, 3) := by decide +kernel
theorem dX12_behindNode_14 : decode cX12_behindNode 14 = .ok (.ifCond .eq 7, 3) := by decide +kernel
theorem dX12_behindNode_17 : decode cX12_behindNode 17 = .ok (.iconst 0, 1) := by decide +kernel
theorem dX12_behindNode_18 : decode cX12_behindNode 18 = .ok (.goto 4, 3) := by decide +kernel
theorem dX12_behindNode_21 : decode cX12_behindNode 21 = .ok (.iconst 1, 1) := by decide +kernel
theorem dX12_behindNode_22 : decode cX12_behindNode 22 = .ok (.istore_n 2, 1) := by decide +kernel
theorem dX12_behindNode_23 : decode cX12_behindNode 23 = .ok (.iload_n 1, 1) := by decide +kernel
theorem dX12_behindNode_24 : decode cX12_behindNode 24 = .ok (.iconst 4, 1) := by decide +kernel
theorem dX12_behindNode_25 : decode cX12_behindNode 25 = .ok (.if_icmp .ge 9, 3) := by decide +kernel
theorem dX12_behindNode_28 : decode cX12_behindNode 28 = .ok (.iconst 2, 1) := by decide +kernel
theorem dX12_behindNode_29 : decode cX12_behindNode 29 = .ok (.iload_n 1, 1) := by decide +kernel
theorem dX12_behindNode_30 : decode cX12_behindNode 30 = .ok (.imul, 1) := by decide +kernel
theorem dX12_behindNode_31 : decode cX12_behindNode 31 = .ok (.iload_n 2, 1) := by decide +kernel
theorem dX12_behindNode_32 : decode cX12_behindNode 32 = .ok (.iadd, 1) := by decide +kernel
theorem dX12_behindNode_33 : decode cX12_behindNode 33 = .ok (.ireturn, 1) := by decide +kernel
theorem dX12_behindNode_34 : decode cX12_behindNode 34 = .ok (.iconst 2, 1) := by decide +kernel
theorem dX12_behindNode_35 : decode cX12_behindNode 35 = .ok (.iload_n 1, 1) := by decide +kernel
theorem dX12_behindNode_36 : decode cX12_behindNode 36 = .ok (.iconst 4, 1) := by decide +kernel
theorem dX12_behindNode_37 : decode cX12_behindNode 37 = .ok (.isub, 1) := by decide +kernel
theorem dX12_behindNode_38 : decode cX12_behindNode 38 = .ok (.imul, 1) := by decide +kernel
theorem dX12_behindNode_39 : decode cX12_behindNode 39 = .ok (.istore_n 3, 1) := by decide +kernel
theorem dX12_behindNode_40 : decode cX12_behindNode 40 = .ok (.aload_n 0, 1) := by decide +kernel
theorem dX12_behindNode_41 : decode cX12_behindNode 41 = .ok (.getfield 28, 3) := by decide +kernel
theorem dX12_behindNode_44 : decode cX12_behindNode 44 = .ok (.sipush 131, 3) := by decide +kernel
theorem dX12_behindNode_47 : decode cX12_behindNode 47 = .ok (.iload_n 1, 1) := by decide +kernel
theorem dX12_behindNode_48 : decode cX12_behindNode 48 = .ok (.iadd, 1) := by decide +kernel
theorem dX12_behindNode_49 : decode cX12_behindNode 49 = .ok (.iaload, 1) := by decide +kernel
theorem dX12_behindNode_50 : decode cX12_behindNode 50 = .ok (.ifCond .eq 10, 3) := by decide +kernel
theorem dX12_behindNode_53 : decode cX12_behindNode 53 = .ok (.bipush 10, 2) := by decide +kernel
theorem dX12_behindNode_55 : decode cX12_behindNode 55 = .ok (.iload_n 3, 1) := by decide +kernel
theorem dX12_behindNode_56 : decode cX12_behindNode 56 = .ok (.iadd, 1) := by decide +kernel
theorem dX12_behindNode_57 : decode cX12_behindNode 57 = .ok (.iload_n 2, 1) := by decide +kernel
theorem dX12_behindNode_58 : decode cX12_behindNode 58 = .ok (.iadd, 1) := by decide +kernel
theorem dX12_behindNode_59 : decode cX12_behindNode 59 = .ok (.ireturn, 1) := by decide +kernel
theorem dX12_behindNode_60 : decode cX12_behindNode 60 = .ok (.bipush 20, 2) := by decide +kernel
theorem dX12_behindNode_62 : decode cX12_behindNode 62 = .ok (.aload_n 0, 1) := by decide +kernel
theorem dX12_behindNode_63 : decode cX12_behindNode 63 = .ok (.iload_n 3, 1) := by decide +kernel
theorem dX12_behindNode_64 : decode cX12_behindNode 64 = .ok (.invokevirtual 330, 3) := by decide +kernel
theorem dX12_behindNode_67 : decode cX12_behindNode 67 = .ok (.ifCond .eq 7, 3) := by decide +kernel
theorem dX12_behindNode_70 : decode cX12_behindNode 70 = .ok (.iload_n 3, 1) := by decide +kernel
theorem dX12_behindNode_71 : decode cX12_behindNode 71 = .ok (.goto 6, 3) := by decide +kernel
theorem dX12_behindNode_74 : decode cX12_behindNode 74 = .ok (.iload_n 3, 1) := by decide +kernel
theorem dX12_behindNode_75 : decode cX12_behindNode 75 = .ok (.iconst 1, 1) := by decide +kernel
theorem dX12_behindNode_76 : decode cX12_behindNode 76 = .ok (.iadd, 1) := by decide +kernel
theorem dX12_behindNode_77 : decode cX12_behindNode 77 = .ok (.iadd, 1) := by decide +kernel
theorem dX12_behindNode_78 : decode cX12_behindNode 78 = .ok (.ireturn, 1) := by decide +kernel
theorem dX12_why_0 : decode cX12_why 0 = .ok (.iload_n 1, 1) := by decide +kernel
theorem dX12_why_1 : decode cX12_why 1 = .ok (.ifCond .lt 10, 3) := by decide +kernel
theorem dX12_why_4 : decode cX12_why 4 = .ok (.aload_n 0, 1) := by decide +kernel
theorem dX12_why_5 : decode cX12_why 5 = .ok (.invokevirtual 91, 3) := by decide +kernel
theorem dX12_why_8 : decode cX12_why 8 = .ok (.ifCond .ne 5, 3) := by decide +kernel
theorem dX12_why_11 : decode cX12_why 11 = .ok (.iconst (-1), 1) := by decide +kernel
theorem dX12_why_12 : decode cX12_why 12 = .ok (.ireturn, 1) := by decide +kernel
theorem dX12_why_13 : decode cX12_why 13 = .ok (.iconst 1, 1) := by decide +kernel
theorem dX12_why_14 : decode cX12_why 14 = .ok (.istore_n 2, 1) := by decide +kernel
theorem dX12_why_15 : decode cX12_why 15 = .ok (.iconst 0, 1) := by decide +kernel
theorem dX12_why_16 : decode cX12_why 16 = .ok (.istore_n 3, 1) := by decide +kernel
theorem dX12_why_17 : decode cX12_why 17 = .ok (.iload_n 3, 1) := by decide +kernel
theorem dX12_why_18 : decode cX12_why 18 = .ok (.iload_n 1, 1) := by decide +kernel
theorem dX12_why_19 : decode cX12_why 19 = .ok (.if_icmp .ge 23, 3) := by decide +kernel
theorem dX12_why_22 : decode cX12_why 22 = .ok (.iload_n 2, 1) := by decide +kernel
theorem dX12_why_23 : decode cX12_why 23 = .ok (.bipush 10, 2) := by decide +kernel
theorem dX12_why_25 : decode cX12_why 25 = .ok (.if_icmp .lt 5, 3) := by decide +kernel
theorem dX12_why_28 : decode cX12_why 28 = .ok (.iconst (-1), 1) := by decide +kernel
theorem dX12_why_29 : decode cX12_why 29 = .ok (.ireturn, 1) := by decide +kernel
theorem dX12_why_30 : decode cX12_why 30 = .ok (.aload_n 0, 1) := by decide +kernel
theorem dX12_why_31 : decode cX12_why 31 = .ok (.iload_n 2, 1) := by decide +kernel
theorem dX12_why_32 : decode cX12_why 32 = .ok (.invokevirtual 397, 3) := by decide +kernel
theorem dX12_why_35 : decode cX12_why 35 = .ok (.istore_n 2, 1) := by decide +kernel
theorem dX12_why_36 : decode cX12_why 36 = .ok (.iinc 3 1, 3) := by decide +kernel
theorem dX12_why_39 : decode cX12_why 39 = .ok (.goto (-22), 3) := by decide +kernel
theorem dX12_why_42 : decode cX12_why 42 = .ok (.iload_n 2, 1) := by decide +kernel
theorem dX12_why_43 : decode cX12_why 43 = .ok (.ireturn, 1) := by decide +kernel
theorem dX12_least_0 : decode cX12_least 0 = .ok (.aload_n 0, 1) := by decide +kernel
theorem dX12_least_1 : decode cX12_least 1 = .ok (.invokevirtual 91, 3) := by decide +kernel
theorem dX12_least_4 : decode cX12_least 4 = .ok (.ifCond .ne 5, 3) := by decide +kernel
theorem dX12_least_7 : decode cX12_least 7 = .ok (.iconst (-1), 1) := by decide +kernel
theorem dX12_least_8 : decode cX12_least 8 = .ok (.ireturn, 1) := by decide +kernel
theorem dX12_least_9 : decode cX12_least 9 = .ok (.iconst 0, 1) := by decide +kernel
theorem dX12_least_10 : decode cX12_least 10 = .ok (.istore_n 1, 1) := by decide +kernel
theorem dX12_least_11 : decode cX12_least 11 = .ok (.iconst 0, 1) := by decide +kernel
theorem dX12_least_12 : decode cX12_least 12 = .ok (.istore_n 2, 1) := by decide +kernel
theorem dX12_least_13 : decode cX12_least 13 = .ok (.iload_n 2, 1) := by decide +kernel
theorem dX12_least_14 : decode cX12_least 14 = .ok (.bipush 8, 2) := by decide +kernel
theorem dX12_least_16 : decode cX12_least 16 = .ok (.if_icmp .ge 65, 3) := by decide +kernel
theorem dX12_least_19 : decode cX12_least 19 = .ok (.iload_n 1, 1) := by decide +kernel
theorem dX12_least_20 : decode cX12_least 20 = .ok (.aload_n 0, 1) := by decide +kernel
theorem dX12_least_21 : decode cX12_least 21 = .ok (.iload_n 2, 1) := by decide +kernel
theorem dX12_least_22 : decode cX12_least 22 = .ok (.invokevirtual 112, 3) := by decide +kernel
theorem dX12_least_25 : decode cX12_least 25 = .ok (.ifCond .eq 7, 3) := by decide +kernel
theorem dX12_least_28 : decode cX12_least 28 = .ok (.iconst 0, 1) := by decide +kernel
theorem dX12_least_29 : decode cX12_least 29 = .ok (.goto 4, 3) := by decide +kernel
theorem dX12_least_32 : decode cX12_least 32 = .ok (.iconst 1, 1) := by decide +kernel
theorem dX12_least_33 : decode cX12_least 33 = .ok (.iadd, 1) := by decide +kernel
theorem dX12_least_34 : decode cX12_least 34 = .ok (.istore_n 1, 1) := by decide +kernel
theorem dX12_least_35 : decode cX12_least 35 = .ok (.iload_n 1, 1) := by decide +kernel
theorem dX12_least_36 : decode cX12_least 36 = .ok (.aload_n 0, 1) := by decide +kernel
theorem dX12_least_37 : decode cX12_least 37 = .ok (.iload_n 2, 1) := by decide +kernel
theorem dX12_least_38 : decode cX12_least 38 = .ok (.invokevirtual 330, 3) := by decide +kernel
theorem dX12_least_41 : decode cX12_least 41 = .ok (.ifCond .ne 27, 3) := by decide +kernel
theorem dX12_least_44 : decode cX12_least 44 = .ok (.aload_n 0, 1) := by decide +kernel
theorem dX12_least_45 : decode cX12_least 45 = .ok (.iload_n 2, 1) := by decide +kernel
theorem dX12_least_46 : decode cX12_least 46 = .ok (.invokevirtual 102, 3) := by decide +kernel
theorem dX12_least_49 : decode cX12_least 49 = .ok (.ifCond .eq 23, 3) := by decide +kernel
theorem dX12_least_52 : decode cX12_least 52 = .ok (.aload_n 0, 1) := by decide +kernel
theorem dX12_least_53 : decode cX12_least 53 = .ok (.iload_n 2, 1) := by decide +kernel
theorem dX12_least_54 : decode cX12_least 54 = .ok (.invokevirtual 327, 3) := by decide +kernel
theorem dX12_least_57 : decode cX12_least 57 = .ok (.ifCond .ne 15, 3) := by decide +kernel
theorem dX12_least_60 : decode cX12_least 60 = .ok (.aload_n 0, 1) := by decide +kernel
theorem dX12_least_61 : decode cX12_least 61 = .ok (.iload_n 2, 1) := by decide +kernel
theorem dX12_least_62 : decode cX12_least 62 = .ok (.invokevirtual 112, 3) := by decide +kernel
theorem dX12_least_65 : decode cX12_least 65 = .ok (.ifCond .ne 7, 3) := by decide +kernel
theorem dX12_least_68 : decode cX12_least 68 = .ok (.iconst 1, 1) := by decide +kernel
theorem dX12_least_69 : decode cX12_least 69 = .ok (.goto 4, 3) := by decide +kernel
theorem dX12_least_72 : decode cX12_least 72 = .ok (.iconst 0, 1) := by decide +kernel
theorem dX12_least_73 : decode cX12_least 73 = .ok (.iadd, 1) := by decide +kernel
theorem dX12_least_74 : decode cX12_least 74 = .ok (.istore_n 1, 1) := by decide +kernel
theorem dX12_least_75 : decode cX12_least 75 = .ok (.iinc 2 1, 3) := by decide +kernel
theorem dX12_least_78 : decode cX12_least 78 = .ok (.goto (-65), 3) := by decide +kernel
theorem dX12_least_81 : decode cX12_least 81 = .ok (.iload_n 1, 1) := by decide +kernel
theorem dX12_least_82 : decode cX12_least 82 = .ok (.ireturn, 1) := by decide +kernel
theorem dX12_seen_0 : decode cX12_seen 0 = .ok (.iload_n 1, 1) := by decide +kernel
theorem dX12_seen_1 : decode cX12_seen 1 = .ok (.iconst 0, 1) := by decide +kernel
theorem dX12_seen_2 : decode cX12_seen 2 = .ok (.iconst 2, 1) := by decide +kernel
theorem dX12_seen_3 : decode cX12_seen 3 = .ok (.invokestatic 18, 3) := by decide +kernel
theorem dX12_seen_6 : decode cX12_seen 6 = .ok (.ifCond .eq 13, 3) := by decide +kernel
theorem dX12_seen_9 : decode cX12_seen 9 = .ok (.iload_n 2, 1) := by decide +kernel
theorem dX12_seen_10 : decode cX12_seen 10 = .ok (.iconst 0, 1) := by decide +kernel
theorem dX12_seen_11 : decode cX12_seen 11 = .ok (.bipush 100, 2) := by decide +kernel
theorem dX12_seen_13 : decode cX12_seen 13 = .ok (.invokestatic 18, 3) := by decide +kernel
theorem dX12_seen_16 : decode cX12_seen 16 = .ok (.ifCond .ne 9, 3) := by decide +kernel
theorem dX12_seen_19 : decode cX12_seen 19 = .ok (.aload_n 0, 1) := by decide +kernel
theorem dX12_seen_20 : decode cX12_seen 20 = .ok (.iconst (-1), 1) := by decide +kernel
theorem dX12_seen_21 : decode cX12_seen 21 = .ok (.invokevirtual 85, 3) := by decide +kernel
theorem dX12_seen_24 : decode cX12_seen 24 = .ok (.ireturn, 1) := by decide +kernel
theorem dX12_seen_25 : decode cX12_seen 25 = .ok (.sipush 191, 3) := by decide +kernel
theorem dX12_seen_28 : decode cX12_seen 28 = .ok (.iconst 2, 1) := by decide +kernel
theorem dX12_seen_29 : decode cX12_seen 29 = .ok (.aload_n 0, 1) := by decide +kernel
theorem dX12_seen_30 : decode cX12_seen 30 = .ok (.getfield 28, 3) := by decide +kernel
theorem dX12_seen_33 : decode cX12_seen 33 = .ok (.sipush 205, 3) := by decide +kernel
theorem dX12_seen_36 : decode cX12_seen 36 = .ok (.iaload, 1) := by decide +kernel
theorem dX12_seen_37 : decode cX12_seen 37 = .ok (.imul, 1) := by decide +kernel
theorem dX12_seen_38 : decode cX12_seen 38 = .ok (.iadd, 1) := by decide +kernel
theorem dX12_seen_39 : decode cX12_seen 39 = .ok (.istore_n 3, 1) := by decide +kernel
theorem dX12_seen_40 : decode cX12_seen 40 = .ok (.aload_n 0, 1) := by decide +kernel
theorem dX12_seen_41 : decode cX12_seen 41 = .ok (.getfield 28, 3) := by decide +kernel
theorem dX12_seen_44 : decode cX12_seen 44 = .ok (.sipush 205, 3) := by decide +kernel
theorem dX12_seen_47 : decode cX12_seen 47 = .ok (.iaload, 1) := by decide +kernel
theorem dX12_seen_48 : decode cX12_seen 48 = .ok (.bipush 6, 2) := by decide +kernel
theorem dX12_seen_50 : decode cX12_seen 50 = .ok (.if_icmp .ne 10, 3) := by decide +kernel
theorem dX12_seen_53 : decode cX12_seen 53 = .ok (.aload_n 0, 1) := by decide +kernel
theorem dX12_seen_54 : decode cX12_seen 54 = .ok (.bipush (-5), 2) := by decide +kernel
theorem dX12_seen_56 : decode cX12_seen 56 = .ok (.invokevirtual 85, 3) := by decide +kernel
theorem dX12_seen_59 : decode cX12_seen 59 = .ok (.ireturn, 1) := by decide +kernel
theorem dX12_seen_60 : decode cX12_seen 60 = .ok (.aload_n 0, 1) := by decide +kernel
theorem dX12_seen_61 : decode cX12_seen 61 = .ok (.getfield 28, 3) := by decide +kernel
theorem dX12_seen_64 : decode cX12_seen 64 = .ok (.iload_n 3, 1) := by decide +kernel
theorem dX12_seen_65 : decode cX12_seen 65 = .ok (.iload_n 1, 1) := by decide +kernel
theorem dX12_seen_66 : decode cX12_seen 66 = .ok (.iastore, 1) := by decide +kernel
theorem dX12_seen_67 : decode cX12_seen 67 = .ok (.aload_n 0, 1) := by decide +kernel
theorem dX12_seen_68 : decode cX12_seen 68 = .ok (.getfield 28, 3) := by decide +kernel
theorem dX12_seen_71 : decode cX12_seen 71 = .ok (.iload_n 3, 1) := by decide +kernel
theorem dX12_seen_72 : decode cX12_seen 72 = .ok (.iconst 1, 1) := by decide +kernel
theorem dX12_seen_73 : decode cX12_seen 73 = .ok (.iadd, 1) := by decide +kernel
theorem dX12_seen_74 : decode cX12_seen 74 = .ok (.iload_n 2, 1) := by decide +kernel
theorem dX12_seen_75 : decode cX12_seen 75 = .ok (.iastore, 1) := by decide +kernel
theorem dX12_seen_76 : decode cX12_seen 76 = .ok (.aload_n 0, 1) := by decide +kernel
theorem dX12_seen_77 : decode cX12_seen 77 = .ok (.getfield 28, 3) := by decide +kernel
theorem dX12_seen_80 : decode cX12_seen 80 = .ok (.sipush 205, 3) := by decide +kernel
theorem dX12_seen_83 : decode cX12_seen 83 = .ok (.dup2, 1) := by decide +kernel
theorem dX12_seen_84 : decode cX12_seen 84 = .ok (.iaload, 1) := by decide +kernel
theorem dX12_seen_85 : decode cX12_seen 85 = .ok (.iconst 1, 1) := by decide +kernel
theorem dX12_seen_86 : decode cX12_seen 86 = .ok (.iadd, 1) := by decide +kernel
theorem dX12_seen_87 : decode cX12_seen 87 = .ok (.iastore, 1) := by decide +kernel
theorem dX12_seen_88 : decode cX12_seen 88 = .ok (.aload_n 0, 1) := by decide +kernel
theorem dX12_seen_89 : decode cX12_seen 89 = .ok (.aload_n 0, 1) := by decide +kernel
theorem dX12_seen_90 : decode cX12_seen 90 = .ok (.getfield 28, 3) := by decide +kernel
theorem dX12_seen_93 : decode cX12_seen 93 = .ok (.sipush 205, 3) := by decide +kernel
theorem dX12_seen_96 : decode cX12_seen 96 = .ok (.iaload, 1) := by decide +kernel
theorem dX12_seen_97 : decode cX12_seen 97 = .ok (.invokevirtual 14, 3) := by decide +kernel
theorem dX12_seen_100 : decode cX12_seen 100 = .ok (.ireturn, 1) := by decide +kernel
theorem dX12_forget_0 : decode cX12_forget 0 = .ok (.aload_n 0, 1) := by decide +kernel
theorem dX12_forget_1 : decode cX12_forget 1 = .ok (.getfield 28, 3) := by decide +kernel
theorem dX12_forget_4 : decode cX12_forget 4 = .ok (.sipush 205, 3) := by decide +kernel
theorem dX12_forget_7 : decode cX12_forget 7 = .ok (.iaload, 1) := by decide +kernel
theorem dX12_forget_8 : decode cX12_forget 8 = .ok (.istore_n 1, 1) := by decide +kernel
theorem dX12_forget_9 : decode cX12_forget 9 = .ok (.aload_n 0, 1) := by decide +kernel
theorem dX12_forget_10 : decode cX12_forget 10 = .ok (.getfield 28, 3) := by decide +kernel
theorem dX12_forget_13 : decode cX12_forget 13 = .ok (.sipush 205, 3) := by decide +kernel
theorem dX12_forget_16 : decode cX12_forget 16 = .ok (.iconst 0, 1) := by decide +kernel
theorem dX12_forget_17 : decode cX12_forget 17 = .ok (.iastore, 1) := by decide +kernel
theorem dX12_forget_18 : decode cX12_forget 18 = .ok (.iload_n 1, 1) := by decide +kernel
theorem dX12_forget_19 : decode cX12_forget 19 = .ok (.ireturn, 1) := by decide +kernel
theorem dX12_factOf_0 : decode cX12_factOf 0 = .ok (.iload_n 2, 1) := by decide +kernel
theorem dX12_factOf_1 : decode cX12_factOf 1 = .ok (.lookupswitch 47 #[(0, 27), (1, 37)], 27) := by decide +kernel
theorem dX12_factOf_28 : decode cX12_factOf 28 = .ok (.aload_n 0, 1) := by decide +kernel
theorem dX12_factOf_29 : decode cX12_factOf 29 = .ok (.getfield 28, 3) := by decide +kernel
theorem dX12_factOf_32 : decode cX12_factOf 32 = .ok (.bipush 97, 2) := by decide +kernel
theorem dX12_factOf_34 : decode cX12_factOf 34 = .ok (.iload_n 1, 1) := by decide +kernel
theorem dX12_factOf_35 : decode cX12_factOf 35 = .ok (.iadd, 1) := by decide +kernel
theorem dX12_factOf_36 : decode cX12_factOf 36 = .ok (.iaload, 1) := by decide +kernel
theorem dX12_factOf_37 : decode cX12_factOf 37 = .ok (.ireturn, 1) := by decide +kernel
theorem dX12_factOf_38 : decode cX12_factOf 38 = .ok (.aload_n 0, 1) := by decide +kernel
theorem dX12_factOf_39 : decode cX12_factOf 39 = .ok (.getfield 28, 3) := by decide +kernel
theorem dX12_factOf_42 : decode cX12_factOf 42 = .ok (.bipush 113, 2) := by decide +kernel
theorem dX12_factOf_44 : decode cX12_factOf 44 = .ok (.iload_n 1, 1) := by decide +kernel
theorem dX12_factOf_45 : decode cX12_factOf 45 = .ok (.iadd, 1) := by decide +kernel
theorem dX12_factOf_46 : decode cX12_factOf 46 = .ok (.iaload, 1) := by decide +kernel
theorem dX12_factOf_47 : decode cX12_factOf 47 = .ok (.ireturn, 1) := by decide +kernel
theorem dX12_factOf_48 : decode cX12_factOf 48 = .ok (.aload_n 0, 1) := by decide +kernel
theorem dX12_factOf_49 : decode cX12_factOf 49 = .ok (.iload_n 1, 1) := by decide +kernel
theorem dX12_factOf_50 : decode cX12_factOf 50 = .ok (.invokevirtual 109, 3) := by decide +kernel
theorem dX12_factOf_53 : decode cX12_factOf 53 = .ok (.iconst (-1), 1) := by decide +kernel
theorem dX12_factOf_54 : decode cX12_factOf 54 = .ok (.if_icmp .ne 8, 3) := by decide +kernel
theorem dX12_factOf_57 : decode cX12_factOf 57 = .ok (.bipush 100, 2) := by decide +kernel
theorem dX12_factOf_59 : decode cX12_factOf 59 = .ok (.goto 16, 3) := by decide +kernel
theorem dX12_factOf_62 : decode cX12_factOf 62 = .ok (.aload_n 0, 1) := by decide +kernel
theorem dX12_factOf_63 : decode cX12_factOf 63 = .ok (.getfield 28, 3) := by decide +kernel
theorem dX12_factOf_66 : decode cX12_factOf 66 = .ok (.bipush 24, 2) := by decide +kernel
theorem dX12_factOf_68 : decode cX12_factOf 68 = .ok (.aload_n 0, 1) := by decide +kernel
theorem dX12_factOf_69 : decode cX12_factOf 69 = .ok (.iload_n 1, 1) := by decide +kernel
theorem dX12_factOf_70 : decode cX12_factOf 70 = .ok (.invokevirtual 109, 3) := by decide +kernel
theorem dX12_factOf_73 : decode cX12_factOf 73 = .ok (.iadd, 1) := by decide +kernel
theorem dX12_factOf_74 : decode cX12_factOf 74 = .ok (.iaload, 1) := by decide +kernel
theorem dX12_factOf_75 : decode cX12_factOf 75 = .ok (.ireturn, 1) := by decide +kernel
theorem dX12_canBeNow_0 : decode cX12_canBeNow 0 = .ok (.iconst 0, 1) := by decide +kernel
theorem dX12_canBeNow_1 : decode cX12_canBeNow 1 = .ok (.istore_n 1, 1) := by decide +kernel
theorem dX12_canBeNow_2 : decode cX12_canBeNow 2 = .ok (.iconst 0, 1) := by decide +kernel
theorem dX12_canBeNow_3 : decode cX12_canBeNow 3 = .ok (.istore_n 2, 1) := by decide +kernel
theorem dX12_canBeNow_4 : decode cX12_canBeNow 4 = .ok (.iload_n 2, 1) := by decide +kernel
theorem dX12_canBeNow_5 : decode cX12_canBeNow 5 = .ok (.bipush 8, 2) := by decide +kernel
theorem dX12_canBeNow_7 : decode cX12_canBeNow 7 = .ok (.if_icmp .ge 93, 3) := by decide +kernel
theorem dX12_canBeNow_10 : decode cX12_canBeNow 10 = .ok (.iconst 1, 1) := by decide +kernel
theorem dX12_canBeNow_11 : decode cX12_canBeNow 11 = .ok (.istore_n 3, 1) := by decide +kernel
theorem dX12_canBeNow_12 : decode cX12_canBeNow 12 = .ok (.iconst 0, 1) := by decide +kernel
theorem dX12_canBeNow_13 : decode cX12_canBeNow 13 = .ok (.istore 4, 2) := by decide +kernel
theorem dX12_canBeNow_15 : decode cX12_canBeNow 15 = .ok (.iload 4, 2) := by decide +kernel
theorem dX12_canBeNow_17 : decode cX12_canBeNow 17 = .ok (.aload_n 0, 1) := by decide +kernel
theorem dX12_canBeNow_18 : decode cX12_canBeNow 18 = .ok (.getfield 28, 3) := by decide +kernel
theorem dX12_canBeNow_21 : decode cX12_canBeNow 21 = .ok (.sipush 205, 3) := by decide +kernel
theorem dX12_canBeNow_24 : decode cX12_canBeNow 24 = .ok (.iaload, 1) := by decide +kernel
theorem dX12_canBeNow_25 : decode cX12_canBeNow 25 = .ok (.if_icmp .ge 55, 3) := by decide +kernel
theorem dX12_canBeNow_28 : decode cX12_canBeNow 28 = .ok (.iload_n 3, 1) := by decide +kernel
theorem dX12_canBeNow_29 : decode cX12_canBeNow 29 = .ok (.ifCond .eq 43, 3) := by decide +kernel
theorem dX12_canBeNow_32 : decode cX12_canBeNow 32 = .ok (.aload_n 0, 1) := by decide +kernel
theorem dX12_canBeNow_33 : decode cX12_canBeNow 33 = .ok (.iload_n 2, 1) := by decide +kernel
theorem dX12_canBeNow_34 : decode cX12_canBeNow 34 = .ok (.aload_n 0, 1) := by decide +kernel
theorem dX12_canBeNow_35 : decode cX12_canBeNow 35 = .ok (.getfield 28, 3) := by decide +kernel
theorem dX12_canBeNow_38 : decode cX12_canBeNow 38 = .ok (.sipush 191, 3) := by decide +kernel
theorem dX12_canBeNow_41 : decode cX12_canBeNow 41 = .ok (.iconst 2, 1) := by decide +kernel
theorem dX12_canBeNow_42 : decode cX12_canBeNow 42 = .ok (.iload 4, 2) := by decide +kernel
theorem dX12_canBeNow_44 : decode cX12_canBeNow 44 = .ok (.imul, 1) := by decide +kernel
theorem dX12_canBeNow_45 : decode cX12_canBeNow 45 = .ok (.iadd, 1) := by decide +kernel
theorem dX12_canBeNow_46 : decode cX12_canBeNow 46 = .ok (.iaload, 1) := by decide +kernel
theorem dX12_canBeNow_47 : decode cX12_canBeNow 47 = .ok (.invokevirtual 400, 3) := by decide +kernel
theorem dX12_canBeNow_50 : decode cX12_canBeNow 50 = .ok (.aload_n 0, 1) := by decide +kernel
theorem dX12_canBeNow_51 : decode cX12_canBeNow 51 = .ok (.getfield 28, 3) := by decide +kernel
theorem dX12_canBeNow_54 : decode cX12_canBeNow 54 = .ok (.sipush 191, 3) := by decide +kernel
theorem dX12_canBeNow_57 : decode cX12_canBeNow 57 = .ok (.iconst 2, 1) := by decide +kernel
theorem dX12_canBeNow_58 : decode cX12_canBeNow 58 = .ok (.iload 4, 2) := by decide +kernel
theorem dX12_canBeNow_60 : decode cX12_canBeNow 60 = .ok (.imul, 1) := by decide +kernel
theorem dX12_canBeNow_61 : decode cX12_canBeNow 61 = .ok (.iadd, 1) := by decide +kernel
theorem dX12_canBeNow_62 : decode cX12_canBeNow 62 = .ok (.iconst 1, 1) := by decide +kernel
theorem dX12_canBeNow_63 : decode cX12_canBeNow 63 = .ok (.iadd, 1) := by decide +kernel
theorem dX12_canBeNow_64 : decode cX12_canBeNow 64 = .ok (.iaload, 1) := by decide +kernel
theorem dX12_canBeNow_65 : decode cX12_canBeNow 65 = .ok (.if_icmp .ne 7, 3) := by decide +kernel
theorem dX12_canBeNow_68 : decode cX12_canBeNow 68 = .ok (.iconst 1, 1) := by decide +kernel
theorem dX12_canBeNow_69 : decode cX12_canBeNow 69 = .ok (.goto 4, 3) := by decide +kernel
theorem dX12_canBeNow_72 : decode cX12_canBeNow 72 = .ok (.iconst 0, 1) := by decide +kernel
theorem dX12_canBeNow_73 : decode cX12_canBeNow 73 = .ok (.istore_n 3, 1) := by decide +kernel
theorem dX12_canBeNow_74 : decode cX12_canBeNow 74 = .ok (.iinc 4 1, 3) := by decide +kernel
theorem dX12_canBeNow_77 : decode cX12_canBeNow 77 = .ok (.goto (-62), 3) := by decide +kernel
theorem dX12_canBeNow_80 : decode cX12_canBeNow 80 = .ok (.iload_n 1, 1) := by decide +kernel
theorem dX12_canBeNow_81 : decode cX12_canBeNow 81 = .ok (.iload_n 3, 1) := by decide +kernel
theorem dX12_canBeNow_82 : decode cX12_canBeNow 82 = .ok (.ifCond .eq 9, 3) := by decide +kernel
theorem dX12_canBeNow_85 : decode cX12_canBeNow 85 = .ok (.iconst 1, 1) := by decide +kernel
theorem dX12_canBeNow_86 : decode cX12_canBeNow 86 = .ok (.iload_n 2, 1) := by decide +kernel
theorem dX12_canBeNow_87 : decode cX12_canBeNow 87 = .ok (.ishl, 1) := by decide +kernel
theorem dX12_canBeNow_88 : decode cX12_canBeNow 88 = .ok (.goto 4, 3) := by decide +kernel
theorem dX12_canBeNow_91 : decode cX12_canBeNow 91 = .ok (.iconst 0, 1) := by decide +kernel
theorem dX12_canBeNow_92 : decode cX12_canBeNow 92 = .ok (.ior, 1) := by decide +kernel
theorem dX12_canBeNow_93 : decode cX12_canBeNow 93 = .ok (.istore_n 1, 1) := by decide +kernel
theorem dX12_canBeNow_94 : decode cX12_canBeNow 94 = .ok (.iinc 2 1, 3) := by decide +kernel
theorem dX12_canBeNow_97 : decode cX12_canBeNow 97 = .ok (.goto (-93), 3) := by decide +kernel
theorem dX12_canBeNow_100 : decode cX12_canBeNow 100 = .ok (.iload_n 1, 1) := by decide +kernel
theorem dX12_canBeNow_101 : decode cX12_canBeNow 101 = .ok (.ireturn, 1) := by decide +kernel
theorem dX12_canBe_0 : decode cX12_canBe 0 = .ok (.aload_n 0, 1) := by decide +kernel
theorem dX12_canBe_1 : decode cX12_canBe 1 = .ok (.invokevirtual 403, 3) := by decide +kernel
theorem dX12_canBe_4 : decode cX12_canBe 4 = .ok (.ireturn, 1) := by decide +kernel
theorem dX12_mostAlike_0 : decode cX12_mostAlike 0 = .ok (.iconst 0, 1) := by decide +kernel
theorem dX12_mostAlike_1 : decode cX12_mostAlike 1 = .ok (.istore_n 3, 1) := by decide +kernel
theorem dX12_mostAlike_2 : decode cX12_mostAlike 2 = .ok (.iconst 0, 1) := by decide +kernel
theorem dX12_mostAlike_3 : decode cX12_mostAlike 3 = .ok (.istore 4, 2) := by decide +kernel
theorem dX12_mostAlike_5 : decode cX12_mostAlike 5 = .ok (.iload 4, 2) := by decide +kernel
theorem dX12_mostAlike_7 : decode cX12_mostAlike 7 = .ok (.bipush 8, 2) := by decide +kernel
theorem dX12_mostAlike_9 : decode cX12_mostAlike 9 = .ok (.if_icmp .ge 80, 3) := by decide +kernel
theorem dX12_mostAlike_12 : decode cX12_mostAlike 12 = .ok (.iconst 0, 1) := by decide +kernel
theorem dX12_mostAlike_13 : decode cX12_mostAlike 13 = .ok (.istore 5, 2) := by decide +kernel
theorem dX12_mostAlike_15 : decode cX12_mostAlike 15 = .ok (.iconst 0, 1) := by decide +kernel
theorem dX12_mostAlike_16 : decode cX12_mostAlike 16 = .ok (.istore 6, 2) := by decide +kernel
theorem dX12_mostAlike_18 : decode cX12_mostAlike 18 = .ok (.iload 6, 2) := by decide +kernel
theorem dX12_mostAlike_20 : decode cX12_mostAlike 20 = .ok (.bipush 8, 2) := by decide +kernel
theorem dX12_mostAlike_22 : decode cX12_mostAlike 22 = .ok (.if_icmp .ge 54, 3) := by decide +kernel
theorem dX12_mostAlike_25 : decode cX12_mostAlike 25 = .ok (.iload 5, 2) := by decide +kernel
theorem dX12_mostAlike_27 : decode cX12_mostAlike 27 = .ok (.iload_n 1, 1) := by decide +kernel
theorem dX12_mostAlike_28 : decode cX12_mostAlike 28 = .ok (.iload 4, 2) := by decide +kernel
theorem dX12_mostAlike_30 : decode cX12_mostAlike 30 = .ok (.invokestatic 98, 3) := by decide +kernel
theorem dX12_mostAlike_33 : decode cX12_mostAlike 33 = .ok (.ifCond .eq 33, 3) := by decide +kernel
theorem dX12_mostAlike_36 : decode cX12_mostAlike 36 = .ok (.iload_n 1, 1) := by decide +kernel
theorem dX12_mostAlike_37 : decode cX12_mostAlike 37 = .ok (.iload 6, 2) := by decide +kernel
theorem dX12_mostAlike_39 : decode cX12_mostAlike 39 = .ok (.invokestatic 98, 3) := by decide +kernel
theorem dX12_mostAlike_42 : decode cX12_mostAlike 42 = .ok (.ifCond .eq 24, 3) := by decide +kernel
theorem dX12_mostAlike_45 : decode cX12_mostAlike 45 = .ok (.aload_n 0, 1) := by decide +kernel
theorem dX12_mostAlike_46 : decode cX12_mostAlike 46 = .ok (.iload 4, 2) := by decide +kernel
theorem dX12_mostAlike_48 : decode cX12_mostAlike 48 = .ok (.iload_n 2, 1) := by decide +kernel
theorem dX12_mostAlike_49 : decode cX12_mostAlike 49 = .ok (.invokevirtual 400, 3) := by decide +kernel
theorem dX12_mostAlike_52 : decode cX12_mostAlike 52 = .ok (.aload_n 0, 1) := by decide +kernel
theorem dX12_mostAlike_53 : decode cX12_mostAlike 53 = .ok (.iload 6, 2) := by decide +kernel
theorem dX12_mostAlike_55 : decode cX12_mostAlike 55 = .ok (.iload_n 2, 1) := by decide +kernel
theorem dX12_mostAlike_56 : decode cX12_mostAlike 56 = .ok (.invokevirtual 400, 3) := by decide +kernel
theorem dX12_mostAlike_59 : decode cX12_mostAlike 59 = .ok (.if_icmp .ne 7, 3) := by decide +kernel
theorem dX12_mostAlike_62 : decode cX12_mostAlike 62 = .ok (.iconst 1, 1) := by decide +kernel
theorem dX12_mostAlike_63 : decode cX12_mostAlike 63 = .ok (.goto 4, 3) := by decide +kernel
theorem dX12_mostAlike_66 : decode cX12_mostAlike 66 = .ok (.iconst 0, 1) := by decide +kernel
theorem dX12_mostAlike_67 : decode cX12_mostAlike 67 = .ok (.iadd, 1) := by decide +kernel
theorem dX12_mostAlike_68 : decode cX12_mostAlike 68 = .ok (.istore 5, 2) := by decide +kernel
theorem dX12_mostAlike_70 : decode cX12_mostAlike 70 = .ok (.iinc 6 1, 3) := by decide +kernel
theorem dX12_mostAlike_73 : decode cX12_mostAlike 73 = .ok (.goto (-55), 3) := by decide +kernel
theorem dX12_mostAlike_76 : decode cX12_mostAlike 76 = .ok (.iload_n 3, 1) := by decide +kernel
theorem dX12_mostAlike_77 : decode cX12_mostAlike 77 = .ok (.iload 5, 2) := by decide +kernel
theorem dX12_mostAlike_79 : decode cX12_mostAlike 79 = .ok (.invokestatic 406, 3) := by decide +kernel
theorem dX12_mostAlike_82 : decode cX12_mostAlike 82 = .ok (.istore_n 3, 1) := by decide +kernel
theorem dX12_mostAlike_83 : decode cX12_mostAlike 83 = .ok (.iinc 4 1, 3) := by decide +kernel
theorem dX12_mostAlike_86 : decode cX12_mostAlike 86 = .ok (.goto (-81), 3) := by decide +kernel
theorem dX12_mostAlike_89 : decode cX12_mostAlike 89 = .ok (.iload_n 3, 1) := by decide +kernel
theorem dX12_mostAlike_90 : decode cX12_mostAlike 90 = .ok (.ireturn, 1) := by decide +kernel
theorem dX12_ask_0 : decode cX12_ask 0 = .ok (.iload_n 1, 1) := by decide +kernel
theorem dX12_ask_1 : decode cX12_ask 1 = .ok (.iconst 0, 1) := by decide +kernel
theorem dX12_ask_2 : decode cX12_ask 2 = .ok (.iconst 1, 1) := by decide +kernel
theorem dX12_ask_3 : decode cX12_ask 3 = .ok (.invokestatic 18, 3) := by decide +kernel
theorem dX12_ask_6 : decode cX12_ask 6 = .ok (.ifCond .ne 5, 3) := by decide +kernel
theorem dX12_ask_9 : decode cX12_ask 9 = .ok (.iconst (-1), 1) := by decide +kernel
theorem dX12_ask_10 : decode cX12_ask 10 = .ok (.ireturn, 1) := by decide +kernel
theorem dX12_ask_11 : decode cX12_ask 11 = .ok (.aload_n 0, 1) := by decide +kernel
theorem dX12_ask_12 : decode cX12_ask 12 = .ok (.invokevirtual 403, 3) := by decide +kernel
theorem dX12_ask_15 : decode cX12_ask 15 = .ok (.istore_n 2, 1) := by decide +kernel
theorem dX12_ask_16 : decode cX12_ask 16 = .ok (.iconst (-1), 1) := by decide +kernel
theorem dX12_ask_17 : decode cX12_ask 17 = .ok (.istore_n 3, 1) := by decide +kernel
theorem dX12_ask_18 : decode cX12_ask 18 = .ok (.ldc 155, 2) := by decide +kernel
theorem dX12_ask_20 : decode cX12_ask 20 = .ok (.istore 4, 2) := by decide +kernel
theorem dX12_ask_22 : decode cX12_ask 22 = .ok (.iconst 0, 1) := by decide +kernel
theorem dX12_ask_23 : decode cX12_ask 23 = .ok (.istore 5, 2) := by decide +kernel
theorem dX12_ask_25 : decode cX12_ask 25 = .ok (.iload 5, 2) := by decide +kernel
theorem dX12_ask_27 : decode cX12_ask 27 = .ok (.iconst 3, 1) := by decide +kernel
theorem dX12_ask_28 : decode cX12_ask 28 = .ok (.if_icmp .ge 39, 3) := by decide +kernel
theorem dX12_ask_31 : decode cX12_ask 31 = .ok (.iload_n 2, 1) := by decide +kernel
theorem dX12_ask_32 : decode cX12_ask 32 = .ok (.ifCond .eq 35, 3) := by decide +kernel
theorem dX12_ask_35 : decode cX12_ask 35 = .ok (.aload_n 0, 1) := by decide +kernel
theorem dX12_ask_36 : decode cX12_ask 36 = .ok (.iload_n 2, 1) := by decide +kernel
theorem dX12_ask_37 : decode cX12_ask 37 = .ok (.iload 5, 2) := by decide +kernel
theorem dX12_ask_39 : decode cX12_ask 39 = .ok (.invokevirtual 409, 3) := by decide +kernel
theorem dX12_ask_42 : decode cX12_ask 42 = .ok (.istore 6, 2) := by decide +kernel
theorem dX12_ask_44 : decode cX12_ask 44 = .ok (.iload 6, 2) := by decide +kernel
theorem dX12_ask_46 : decode cX12_ask 46 = .ok (.iload 4, 2) := by decide +kernel
theorem dX12_ask_48 : decode cX12_ask 48 = .ok (.if_icmp .lt 6, 3) := by decide +kernel
theorem dX12_ask_51 : decode cX12_ask 51 = .ok (.goto 10, 3) := by decide +kernel
theorem dX12_ask_54 : decode cX12_ask 54 = .ok (.iload 6, 2) := by decide +kernel
theorem dX12_ask_56 : decode cX12_ask 56 = .ok (.istore 4, 2) := by decide +kernel
theorem dX12_ask_58 : decode cX12_ask 58 = .ok (.iload 5, 2) := by decide +kernel
theorem dX12_ask_60 : decode cX12_ask 60 = .ok (.istore_n 3, 1) := by decide +kernel
theorem dX12_ask_61 : decode cX12_ask 61 = .ok (.iinc 5 1, 3) := by decide +kernel
theorem dX12_ask_64 : decode cX12_ask 64 = .ok (.goto (-39), 3) := by decide +kernel
theorem dX12_ask_67 : decode cX12_ask 67 = .ok (.iload_n 3, 1) := by decide +kernel
theorem dX12_ask_68 : decode cX12_ask 68 = .ok (.iconst (-1), 1) := by decide +kernel
theorem dX12_ask_69 : decode cX12_ask 69 = .ok (.if_icmp .eq 7, 3) := by decide +kernel
theorem dX12_ask_72 : decode cX12_ask 72 = .ok (.iload_n 1, 1) := by decide +kernel
theorem dX12_ask_73 : decode cX12_ask 73 = .ok (.ifCond .ne 7, 3) := by decide +kernel
theorem dX12_ask_76 : decode cX12_ask 76 = .ok (.iload_n 3, 1) := by decide +kernel
theorem dX12_ask_77 : decode cX12_ask 77 = .ok (.goto 5, 3) := by decide +kernel
theorem dX12_ask_80 : decode cX12_ask 80 = .ok (.iload 4, 2) := by decide +kernel
theorem dX12_ask_82 : decode cX12_ask 82 = .ok (.ireturn, 1) := by decide +kernel
theorem dX12_few_0 : decode cX12_few 0 = .ok (.iload_n 1, 1) := by decide +kernel
theorem dX12_few_1 : decode cX12_few 1 = .ok (.iconst 1, 1) := by decide +kernel
theorem dX12_few_2 : decode cX12_few 2 = .ok (.bipush 20, 2) := by decide +kernel
theorem dX12_few_4 : decode cX12_few 4 = .ok (.invokestatic 18, 3) := by decide +kernel
theorem dX12_few_7 : decode cX12_few 7 = .ok (.ifCond .eq 13, 3) := by decide +kernel
theorem dX12_few_10 : decode cX12_few 10 = .ok (.iload_n 2, 1) := by decide +kernel
theorem dX12_few_11 : decode cX12_few 11 = .ok (.iconst 0, 1) := by decide +kernel
theorem dX12_few_12 : decode cX12_few 12 = .ok (.bipush 99, 2) := by decide +kernel
theorem dX12_few_14 : decode cX12_few 14 = .ok (.invokestatic 18, 3) := by decide +kernel
theorem dX12_few_17 : decode cX12_few 17 = .ok (.ifCond .ne 7, 3) := by decide +kernel
theorem dX12_few_20 : decode cX12_few 20 = .ok (.ldc2_w 412, 3) := by decide +kernel
theorem dX12_few_23 : decode cX12_few 23 = .ok (.lreturn, 1) := by decide +kernel
theorem dX12_few_24 : decode cX12_few 24 = .ok (.iconst 0, 1) := by decide +kernel
theorem dX12_few_25 : decode cX12_few 25 = .ok (.istore_n 3, 1) := by decide +kernel
theorem dX12_few_26 : decode cX12_few 26 = .ok (.iload_n 3, 1) := by decide +kernel
theorem dX12_few_27 : decode cX12_few 27 = .ok (.bipush 20, 2) := by decide +kernel
theorem dX12_few_29 : decode cX12_few 29 = .ok (.if_icmp .gt 26, 3) := by decide +kernel
theorem dX12_few_32 : decode cX12_few 32 = .ok (.aload_n 0, 1) := by decide +kernel
theorem dX12_few_33 : decode cX12_few 33 = .ok (.getfield 72, 3) := by decide +kernel
theorem dX12_few_36 : decode cX12_few 36 = .ok (.iload_n 3, 1) := by decide +kernel
theorem dX12_few_37 : decode cX12_few 37 = .ok (.iload_n 3, 1) := by decide +kernel
theorem dX12_few_38 : decode cX12_few 38 = .ok (.ifCond .ne 9, 3) := by decide +kernel
theorem dX12_few_41 : decode cX12_few 41 = .ok (.ldc2_w 414, 3) := by decide +kernel
theorem dX12_few_44 : decode cX12_few 44 = .ok (.goto 4, 3) := by decide +kernel
theorem dX12_few_47 : decode cX12_few 47 = .ok (.lconst 0, 1) := by decide +kernel
theorem dX12_few_48 : decode cX12_few 48 = .ok (.lastore, 1) := by decide +kernel
theorem dX12_few_49 : decode cX12_few 49 = .ok (.iinc 3 1, 3) := by decide +kernel
theorem dX12_few_52 : decode cX12_few 52 = .ok (.goto (-26), 3) := by decide +kernel
theorem dX12_few_55 : decode cX12_few 55 = .ok (.iconst 0, 1) := by decide +kernel
theorem dX12_few_56 : decode cX12_few 56 = .ok (.istore_n 3, 1) := by decide +kernel
theorem dX12_few_57 : decode cX12_few 57 = .ok (.iload_n 3, 1) := by decide +kernel
theorem dX12_few_58 : decode cX12_few 58 = .ok (.iload_n 2, 1) := by decide +kernel
theorem dX12_few_59 : decode cX12_few 59 = .ok (.if_icmp .ge 89, 3) := by decide +kernel
theorem dX12_few_62 : decode cX12_few 62 = .ok (.iload_n 1, 1) := by decide +kernel
theorem dX12_few_63 : decode cX12_few 63 = .ok (.iconst 1, 1) := by decide +kernel
theorem dX12_few_64 : decode cX12_few 64 = .ok (.isub, 1) := by decide +kernel
theorem dX12_few_65 : decode cX12_few 65 = .ok (.istore 4, 2) := by decide +kernel
theorem dX12_few_67 : decode cX12_few 67 = .ok (.iload 4, 2) := by decide +kernel
theorem dX12_few_69 : decode cX12_few 69 = .ok (.ifCond .lt 73, 3) := by decide +kernel
theorem dX12_few_72 : decode cX12_few 72 = .ok (.aload_n 0, 1) := by decide +kernel
theorem dX12_few_73 : decode cX12_few 73 = .ok (.getfield 72, 3) := by decide +kernel
theorem dX12_few_76 : decode cX12_few 76 = .ok (.iload 4, 2) := by decide +kernel
theorem dX12_few_78 : decode cX12_few 78 = .ok (.iconst 1, 1) := by decide +kernel
theorem dX12_few_79 : decode cX12_few 79 = .ok (.iadd, 1) := by decide +kernel
theorem dX12_few_80 : decode cX12_few 80 = .ok (.dup2, 1) := by decide +kernel
theorem dX12_few_81 : decode cX12_few 81 = .ok (.laload, 1) := by decide +kernel
theorem dX12_few_82 : decode cX12_few 82 = .ok (.aload_n 0, 1) := by decide +kernel
theorem dX12_few_83 : decode cX12_few 83 = .ok (.getfield 72, 3) := by decide +kernel
theorem dX12_few_86 : decode cX12_few 86 = .ok (.iload 4, 2) := by decide +kernel
theorem dX12_few_88 : decode cX12_few 88 = .ok (.laload, 1) := by decide +kernel
theorem dX12_few_89 : decode cX12_few 89 = .ok (.aload_n 0, 1) := by decide +kernel
theorem dX12_few_90 : decode cX12_few 90 = .ok (.getfield 28, 3) := by decide +kernel
theorem dX12_few_93 : decode cX12_few 93 = .ok (.sipush 203, 3) := by decide +kernel
theorem dX12_few_96 : decode cX12_few 96 = .ok (.iaload, 1) := by decide +kernel
theorem dX12_few_97 : decode cX12_few 97 = .ok (.i2l, 1) := by decide +kernel
theorem dX12_few_98 : decode cX12_few 98 = .ok (.lmul, 1) := by decide +kernel
theorem dX12_few_99 : decode cX12_few 99 = .ok (.ldc2_w 416, 3) := by decide +kernel
theorem dX12_few_102 : decode cX12_few 102 = .ok (.ldiv, 1) := by decide +kernel
theorem dX12_few_103 : decode cX12_few 103 = .ok (.ladd, 1) := by decide +kernel
theorem dX12_few_104 : decode cX12_few 104 = .ok (.lastore, 1) := by decide +kernel
theorem dX12_few_105 : decode cX12_few 105 = .ok (.aload_n 0, 1) := by decide +kernel
theorem dX12_few_106 : decode cX12_few 106 = .ok (.getfield 72, 3) := by decide +kernel
theorem dX12_few_109 : decode cX12_few 109 = .ok (.iload 4, 2) := by decide +kernel
theorem dX12_few_111 : decode cX12_few 111 = .ok (.aload_n 0, 1) := by decide +kernel
theorem dX12_few_112 : decode cX12_few 112 = .ok (.getfield 72, 3) := by decide +kernel
theorem dX12_few_115 : decode cX12_few 115 = .ok (.iload 4, 2) := by decide +kernel
theorem dX12_few_117 : decode cX12_few 117 = .ok (.laload, 1) := by decide +kernel
theorem dX12_few_118 : decode cX12_few 118 = .ok (.bipush 10, 2) := by decide +kernel
theorem dX12_few_120 : decode cX12_few 120 = .ok (.aload_n 0, 1) := by decide +kernel
theorem dX12_few_121 : decode cX12_few 121 = .ok (.getfield 28, 3) := by decide +kernel
theorem dX12_few_124 : decode cX12_few 124 = .ok (.sipush 203, 3) := by decide +kernel
theorem dX12_few_127 : decode cX12_few 127 = .ok (.iaload, 1) := by decide +kernel
theorem dX12_few_128 : decode cX12_few 128 = .ok (.isub, 1) := by decide +kernel
theorem dX12_few_129 : decode cX12_few 129 = .ok (.i2l, 1) := by decide +kernel
theorem dX12_few_130 : decode cX12_few 130 = .ok (.lmul, 1) := by decide +kernel
theorem dX12_few_131 : decode cX12_few 131 = .ok (.ldc2_w 416, 3) := by decide +kernel
theorem dX12_few_134 : decode cX12_few 134 = .ok (.ldiv, 1) := by decide +kernel
theorem dX12_few_135 : decode cX12_few 135 = .ok (.lastore, 1) := by decide +kernel
theorem dX12_few_136 : decode cX12_few 136 = .ok (.iinc 4 (-1), 3) := by decide +kernel
theorem dX12_few_139 : decode cX12_few 139 = .ok (.goto (-72), 3) := by decide +kernel
theorem dX12_few_142 : decode cX12_few 142 = .ok (.iinc 3 1, 3) := by decide +kernel
theorem dX12_few_145 : decode cX12_few 145 = .ok (.goto (-88), 3) := by decide +kernel
theorem dX12_few_148 : decode cX12_few 148 = .ok (.lconst 0, 1) := by decide +kernel
theorem dX12_few_149 : decode cX12_few 149 = .ok (.lstore_n 3, 1) := by decide +kernel
theorem dX12_few_150 : decode cX12_few 150 = .ok (.iconst 0, 1) := by decide +kernel
theorem dX12_few_151 : decode cX12_few 151 = .ok (.istore 5, 2) := by decide +kernel
theorem dX12_few_153 : decode cX12_few 153 = .ok (.iload 5, 2) := by decide +kernel
theorem dX12_few_155 : decode cX12_few 155 = .ok (.iload_n 1, 1) := by decide +kernel
theorem dX12_few_156 : decode cX12_few 156 = .ok (.if_icmp .ge 19, 3) := by decide +kernel
theorem dX12_few_159 : decode cX12_few 159 = .ok (.lload_n 3, 1) := by decide +kernel
theorem dX12_few_160 : decode cX12_few 160 = .ok (.aload_n 0, 1) := by decide +kernel
theorem dX12_few_161 : decode cX12_few 161 = .ok (.getfield 72, 3) := by decide +kernel
theorem dX12_few_164 : decode cX12_few 164 = .ok (.iload 5, 2) := by decide +kernel
theorem dX12_few_166 : decode cX12_few 166 = .ok (.laload, 1) := by decide +kernel
theorem dX12_few_167 : decode cX12_few 167 = .ok (.ladd, 1) := by decide +kernel
theorem dX12_few_168 : decode cX12_few 168 = .ok (.lstore_n 3, 1) := by decide +kernel
theorem dX12_few_169 : decode cX12_few 169 = .ok (.iinc 5 1, 3) := by decide +kernel
theorem dX12_few_172 : decode cX12_few 172 = .ok (.goto (-19), 3) := by decide +kernel
theorem dX12_few_175 : decode cX12_few 175 = .ok (.lload_n 3, 1) := by decide +kernel
theorem dX12_few_176 : decode cX12_few 176 = .ok (.lreturn, 1) := by decide +kernel
theorem dX12_compare_0 : decode cX12_compare 0 = .ok (.aload_n 0, 1) := by decide +kernel
theorem dX12_compare_1 : decode cX12_compare 1 = .ok (.iload_n 1, 1) := by decide +kernel
theorem dX12_compare_2 : decode cX12_compare 2 = .ok (.invokevirtual 242, 3) := by decide +kernel
theorem dX12_compare_5 : decode cX12_compare 5 = .ok (.ifCond .eq 22, 3) := by decide +kernel
theorem dX12_compare_8 : decode cX12_compare 8 = .ok (.iload_n 2, 1) := by decide +kernel
theorem dX12_compare_9 : decode cX12_compare 9 = .ok (.iconst 1, 1) := by decide +kernel
theorem dX12_compare_10 : decode cX12_compare 10 = .ok (.bipush 7, 2) := by decide +kernel
theorem dX12_compare_12 : decode cX12_compare 12 = .ok (.invokestatic 18, 3) := by decide +kernel
theorem dX12_compare_15 : decode cX12_compare 15 = .ok (.ifCond .eq 12, 3) := by decide +kernel
theorem dX12_compare_18 : decode cX12_compare 18 = .ok (.iload_n 3, 1) := by decide +kernel
theorem dX12_compare_19 : decode cX12_compare 19 = .ok (.iconst 0, 1) := by decide +kernel
theorem dX12_compare_20 : decode cX12_compare 20 = .ok (.iconst 1, 1) := by decide +kernel
theorem dX12_compare_21 : decode cX12_compare 21 = .ok (.invokestatic 18, 3) := by decide +kernel
theorem dX12_compare_24 : decode cX12_compare 24 = .ok (.ifCond .ne 5, 3) := by decide +kernel
theorem dX12_compare_27 : decode cX12_compare 27 = .ok (.iconst (-1), 1) := by decide +kernel
theorem dX12_compare_28 : decode cX12_compare 28 = .ok (.ireturn, 1) := by decide +kernel
theorem dX12_compare_29 : decode cX12_compare 29 = .ok (.aload_n 0, 1) := by decide +kernel
theorem dX12_compare_30 : decode cX12_compare 30 = .ok (.getfield 28, 3) := by decide +kernel
theorem dX12_compare_33 : decode cX12_compare 33 = .ok (.sipush 207, 3) := by decide +kernel
theorem dX12_compare_36 : decode cX12_compare 36 = .ok (.iaload, 1) := by decide +kernel
theorem dX12_compare_37 : decode cX12_compare 37 = .ok (.istore 4, 2) := by decide +kernel
theorem dX12_compare_39 : decode cX12_compare 39 = .ok (.aload_n 0, 1) := by decide +kernel
theorem dX12_compare_40 : decode cX12_compare 40 = .ok (.getfield 28, 3) := by decide +kernel
theorem dX12_compare_43 : decode cX12_compare 43 = .ok (.sipush 207, 3) := by decide +kernel
theorem dX12_compare_46 : decode cX12_compare 46 = .ok (.iload_n 1, 1) := by decide +kernel
theorem dX12_compare_47 : decode cX12_compare 47 = .ok (.iastore, 1) := by decide +kernel
theorem dX12_compare_48 : decode cX12_compare 48 = .ok (.aload_n 0, 1) := by decide +kernel
theorem dX12_compare_49 : decode cX12_compare 49 = .ok (.iload_n 2, 1) := by decide +kernel
theorem dX12_compare_50 : decode cX12_compare 50 = .ok (.iload_n 3, 1) := by decide +kernel
theorem dX12_compare_51 : decode cX12_compare 51 = .ok (.invokevirtual 339, 3) := by decide +kernel
theorem dX12_compare_54 : decode cX12_compare 54 = .ok (.istore 5, 2) := by decide +kernel
theorem dX12_compare_56 : decode cX12_compare 56 = .ok (.aload_n 0, 1) := by decide +kernel
theorem dX12_compare_57 : decode cX12_compare 57 = .ok (.getfield 28, 3) := by decide +kernel
theorem dX12_compare_60 : decode cX12_compare 60 = .ok (.sipush 207, 3) := by decide +kernel
theorem dX12_compare_63 : decode cX12_compare 63 = .ok (.iload 4, 2) := by decide +kernel
theorem dX12_compare_65 : decode cX12_compare 65 = .ok (.iastore, 1) := by decide +kernel
theorem dX12_compare_66 : decode cX12_compare 66 = .ok (.iload 5, 2) := by decide +kernel
theorem dX12_compare_68 : decode cX12_compare 68 = .ok (.ireturn, 1) := by decide +kernel
theorem dX12_stopped_0 : decode cX12_stopped 0 = .ok (.aload_n 0, 1) := by decide +kernel
theorem dX12_stopped_1 : decode cX12_stopped 1 = .ok (.getfield 76, 3) := by decide +kernel
theorem dX12_stopped_4 : decode cX12_stopped 4 = .ok (.ireturn, 1) := by decide +kernel
theorem dX12_goesAlong_0 : decode cX12_goesAlong 0 = .ok (.aload_n 0, 1) := by decide +kernel
theorem dX12_goesAlong_1 : decode cX12_goesAlong 1 = .ok (.iconst 1, 1) := by decide +kernel
theorem dX12_goesAlong_2 : decode cX12_goesAlong 2 = .ok (.putfield 278, 3) := by decide +kernel
theorem dX12_goesAlong_5 : decode cX12_goesAlong 5 = .ok (.aload_n 0, 1) := by decide +kernel
theorem dX12_goesAlong_6 : decode cX12_goesAlong 6 = .ok (.iload_n 1, 1) := by decide +kernel
theorem dX12_goesAlong_7 : decode cX12_goesAlong 7 = .ok (.putfield 245, 3) := by decide +kernel
theorem dX12_goesAlong_10 : decode cX12_goesAlong 10 = .ok (.aload_n 0, 1) := by decide +kernel
theorem dX12_goesAlong_11 : decode cX12_goesAlong 11 = .ok (.aload_n 0, 1) := by decide +kernel
theorem dX12_goesAlong_12 : decode cX12_goesAlong 12 = .ok (.getfield 418, 3) := by decide +kernel
theorem dX12_goesAlong_15 : decode cX12_goesAlong 15 = .ok (.putfield 248, 3) := by decide +kernel
theorem dX12_goesAlong_18 : decode cX12_goesAlong 18 = .ok (.aload_n 0, 1) := by decide +kernel
theorem dX12_goesAlong_19 : decode cX12_goesAlong 19 = .ok (.aload_n 0, 1) := by decide +kernel
theorem dX12_goesAlong_20 : decode cX12_goesAlong 20 = .ok (.aload_n 0, 1) := by decide +kernel
theorem dX12_goesAlong_21 : decode cX12_goesAlong 21 = .ok (.getfield 248, 3) := by decide +kernel
theorem dX12_goesAlong_24 : decode cX12_goesAlong 24 = .ok (.invokevirtual 251, 3) := by decide +kernel
theorem dX12_goesAlong_27 : decode cX12_goesAlong 27 = .ok (.putfield 427, 3) := by decide +kernel
theorem dX12_goesAlong_30 : decode cX12_goesAlong 30 = .ok (.aload_n 0, 1) := by decide +kernel
theorem dX12_goesAlong_31 : decode cX12_goesAlong 31 = .ok (.dup, 1) := by decide +kernel
theorem dX12_goesAlong_32 : decode cX12_goesAlong 32 = .ok (.getfield 248, 3) := by decide +kernel
theorem dX12_goesAlong_35 : decode cX12_goesAlong 35 = .ok (.iconst 1, 1) := by decide +kernel
theorem dX12_goesAlong_36 : decode cX12_goesAlong 36 = .ok (.iadd, 1) := by decide +kernel
theorem dX12_goesAlong_37 : decode cX12_goesAlong 37 = .ok (.putfield 248, 3) := by decide +kernel
theorem dX12_goesAlong_40 : decode cX12_goesAlong 40 = .ok (.aload_n 0, 1) := by decide +kernel
theorem dX12_goesAlong_41 : decode cX12_goesAlong 41 = .ok (.iconst 1, 1) := by decide +kernel
theorem dX12_goesAlong_42 : decode cX12_goesAlong 42 = .ok (.putfield 430, 3) := by decide +kernel
theorem dX12_goesAlong_45 : decode cX12_goesAlong 45 = .ok (.aload_n 0, 1) := by decide +kernel
theorem dX12_goesAlong_46 : decode cX12_goesAlong 46 = .ok (.getfield 427, 3) := by decide +kernel
theorem dX12_goesAlong_49 : decode cX12_goesAlong 49 = .ok (.bipush 28, 2) := by decide +kernel
theorem dX12_goesAlong_51 : decode cX12_goesAlong 51 = .ok (.if_icmp .ne 7, 3) := by decide +kernel
theorem dX12_goesAlong_54 : decode cX12_goesAlong 54 = .ok (.iconst 0, 1) := by decide +kernel
theorem dX12_goesAlong_55 : decode cX12_goesAlong 55 = .ok (.goto 17, 3) := by decide +kernel
theorem dX12_goesAlong_58 : decode cX12_goesAlong 58 = .ok (.aload_n 0, 1) := by decide +kernel
theorem dX12_goesAlong_59 : decode cX12_goesAlong 59 = .ok (.getfield 427, 3) := by decide +kernel
theorem dX12_goesAlong_62 : decode cX12_goesAlong 62 = .ok (.bipush 20, 2) := by decide +kernel
theorem dX12_goesAlong_64 : decode cX12_goesAlong 64 = .ok (.if_icmp .ne 7, 3) := by decide +kernel
theorem dX12_goesAlong_67 : decode cX12_goesAlong 67 = .ok (.iconst 2, 1) := by decide +kernel
theorem dX12_goesAlong_68 : decode cX12_goesAlong 68 = .ok (.goto 4, 3) := by decide +kernel
theorem dX12_goesAlong_71 : decode cX12_goesAlong 71 = .ok (.iconst 1, 1) := by decide +kernel
theorem dX12_goesAlong_72 : decode cX12_goesAlong 72 = .ok (.istore_n 3, 1) := by decide +kernel
theorem dX12_goesAlong_73 : decode cX12_goesAlong 73 = .ok (.iconst 0, 1) := by decide +kernel
theorem dX12_goesAlong_74 : decode cX12_goesAlong 74 = .ok (.istore 4, 2) := by decide +kernel
theorem dX12_goesAlong_76 : decode cX12_goesAlong 76 = .ok (.iload 4, 2) := by decide +kernel
theorem dX12_goesAlong_78 : decode cX12_goesAlong 78 = .ok (.iload_n 3, 1) := by decide +kernel
theorem dX12_goesAlong_79 : decode cX12_goesAlong 79 = .ok (.if_icmp .ge 64, 3) := by decide +kernel
theorem dX12_goesAlong_82 : decode cX12_goesAlong 82 = .ok (.iload 4, 2) := by decide +kernel
theorem dX12_goesAlong_84 : decode cX12_goesAlong 84 = .ok (.ifCond .le 13, 3) := by decide +kernel
theorem dX12_goesAlong_87 : decode cX12_goesAlong 87 = .ok (.aload_n 0, 1) := by decide +kernel
theorem dX12_goesAlong_88 : decode cX12_goesAlong 88 = .ok (.dup, 1) := by decide +kernel
theorem dX12_goesAlong_89 : decode cX12_goesAlong 89 = .ok (.getfield 248, 3) := by decide +kernel
theorem dX12_goesAlong_92 : decode cX12_goesAlong 92 = .ok (.iconst 1, 1) := by decide +kernel
theorem dX12_goesAlong_93 : decode cX12_goesAlong 93 = .ok (.iadd, 1) := by decide +kernel
theorem dX12_goesAlong_94 : decode cX12_goesAlong 94 = .ok (.putfield 248, 3) := by decide +kernel
theorem dX12_goesAlong_97 : decode cX12_goesAlong 97 = .ok (.aload_n 0, 1) := by decide +kernel
theorem dX12_goesAlong_98 : decode cX12_goesAlong 98 = .ok (.iconst 0, 1) := by decide +kernel
theorem dX12_goesAlong_99 : decode cX12_goesAlong 99 = .ok (.putfield 258, 3) := by decide +kernel
theorem dX12_goesAlong_102 : decode cX12_goesAlong 102 = .ok (.aload_n 0, 1) := by decide +kernel
theorem dX12_goesAlong_103 : decode cX12_goesAlong 103 = .ok (.getfield 79, 3) := by decide +kernel
theorem dX12_goesAlong_106 : decode cX12_goesAlong 106 = .ok (.iload 4, 2) := by decide +kernel
theorem dX12_goesAlong_108 : decode cX12_goesAlong 108 = .ok (.aload_n 0, 1) := by decide +kernel
theorem dX12_goesAlong_109 : decode cX12_goesAlong 109 = .ok (.iload_n 2, 1) := by decide +kernel
theorem dX12_goesAlong_110 : decode cX12_goesAlong 110 = .ok (.invokevirtual 275, 3) := by decide +kernel
theorem dX12_goesAlong_113 : decode cX12_goesAlong 113 = .ok (.lastore, 1) := by decide +kernel
theorem dX12_goesAlong_114 : decode cX12_goesAlong 114 = .ok (.aload_n 0, 1) := by decide +kernel
theorem dX12_goesAlong_115 : decode cX12_goesAlong 115 = .ok (.aload_n 0, 1) := by decide +kernel
theorem dX12_goesAlong_116 : decode cX12_goesAlong 116 = .ok (.getfield 430, 3) := by decide +kernel
theorem dX12_goesAlong_119 : decode cX12_goesAlong 119 = .ok (.ifCond .eq 14, 3) := by decide +kernel
theorem dX12_goesAlong_122 : decode cX12_goesAlong 122 = .ok (.aload_n 0, 1) := by decide +kernel
theorem dX12_goesAlong_123 : decode cX12_goesAlong 123 = .ok (.getfield 258, 3) := by decide +kernel
theorem dX12_goesAlong_126 : decode cX12_goesAlong 126 = .ok (.ifCond .ne 7, 3) := by decide +kernel
theorem dX12_goesAlong_129 : decode cX12_goesAlong 129 = .ok (.iconst 1, 1) := by decide +kernel
theorem dX12_goesAlong_130 : decode cX12_goesAlong 130 = .ok (.goto 4, 3) := by decide +kernel
theorem dX12_goesAlong_133 : decode cX12_goesAlong 133 = .ok (.iconst 0, 1) := by decide +kernel
theorem dX12_goesAlong_134 : decode cX12_goesAlong 134 = .ok (.putfield 430, 3) := by decide +kernel
theorem dX12_goesAlong_137 : decode cX12_goesAlong 137 = .ok (.iinc 4 1, 3) := by decide +kernel
theorem dX12_goesAlong_140 : decode cX12_goesAlong 140 = .ok (.goto (-64), 3) := by decide +kernel
theorem dX12_goesAlong_143 : decode cX12_goesAlong 143 = .ok (.aload_n 0, 1) := by decide +kernel
theorem dX12_goesAlong_144 : decode cX12_goesAlong 144 = .ok (.iconst 1, 1) := by decide +kernel
theorem dX12_goesAlong_145 : decode cX12_goesAlong 145 = .ok (.putfield 433, 3) := by decide +kernel
theorem dX12_goesAlong_148 : decode cX12_goesAlong 148 = .ok (.aload_n 0, 1) := by decide +kernel
theorem dX12_goesAlong_149 : decode cX12_goesAlong 149 = .ok (.bipush 29, 2) := by decide +kernel
theorem dX12_goesAlong_151 : decode cX12_goesAlong 151 = .ok (.invokevirtual 272, 3) := by decide +kernel
theorem dX12_goesAlong_154 : decode cX12_goesAlong 154 = .ok (.ifCond .eq 30, 3) := by decide +kernel
theorem dX12_goesAlong_157 : decode cX12_goesAlong 157 = .ok (.aload_n 0, 1) := by decide +kernel
theorem dX12_goesAlong_158 : decode cX12_goesAlong 158 = .ok (.aload_n 0, 1) := by decide +kernel
theorem dX12_goesAlong_159 : decode cX12_goesAlong 159 = .ok (.getfield 28, 3) := by decide +kernel
theorem dX12_goesAlong_162 : decode cX12_goesAlong 162 = .ok (.sipush 3015, 3) := by decide +kernel
theorem dX12_goesAlong_165 : decode cX12_goesAlong 165 = .ok (.aload_n 0, 1) := by decide +kernel
theorem dX12_goesAlong_166 : decode cX12_goesAlong 166 = .ok (.getfield 248, 3) := by decide +kernel
theorem dX12_goesAlong_169 : decode cX12_goesAlong 169 = .ok (.iadd, 1) := by decide +kernel
theorem dX12_goesAlong_170 : decode cX12_goesAlong 170 = .ok (.iaload, 1) := by decide +kernel
theorem dX12_goesAlong_171 : decode cX12_goesAlong 171 = .ok (.putfield 433, 3) := by decide +kernel
theorem dX12_goesAlong_174 : decode cX12_goesAlong 174 = .ok (.aload_n 0, 1) := by decide +kernel
theorem dX12_goesAlong_175 : decode cX12_goesAlong 175 = .ok (.dup, 1) := by decide +kernel
theorem dX12_goesAlong_176 : decode cX12_goesAlong 176 = .ok (.getfield 248, 3) := by decide +kernel
theorem dX12_goesAlong_179 : decode cX12_goesAlong 179 = .ok (.iconst 1, 1) := by decide +kernel
theorem dX12_goesAlong_180 : decode cX12_goesAlong 180 = .ok (.iadd, 1) := by decide +kernel
theorem dX12_goesAlong_181 : decode cX12_goesAlong 181 = .ok (.putfield 248, 3) := by decide +kernel
theorem dX12_goesAlong_184 : decode cX12_goesAlong 184 = .ok (.aload_n 0, 1) := by decide +kernel
theorem dX12_goesAlong_185 : decode cX12_goesAlong 185 = .ok (.iconst 0, 1) := by decide +kernel
theorem dX12_goesAlong_186 : decode cX12_goesAlong 186 = .ok (.putfield 258, 3) := by decide +kernel
theorem dX12_goesAlong_189 : decode cX12_goesAlong 189 = .ok (.aload_n 0, 1) := by decide +kernel
theorem dX12_goesAlong_190 : decode cX12_goesAlong 190 = .ok (.aload_n 0, 1) := by decide +kernel
theorem dX12_goesAlong_191 : decode cX12_goesAlong 191 = .ok (.iconst 3, 1) := by decide +kernel
theorem dX12_goesAlong_192 : decode cX12_goesAlong 192 = .ok (.invokevirtual 272, 3) := by decide +kernel
theorem dX12_goesAlong_195 : decode cX12_goesAlong 195 = .ok (.ifCond .eq 11, 3) := by decide +kernel
theorem dX12_goesAlong_198 : decode cX12_goesAlong 198 = .ok (.aload_n 0, 1) := by decide +kernel
theorem dX12_goesAlong_199 : decode cX12_goesAlong 199 = .ok (.iload_n 2, 1) := by decide +kernel
theorem dX12_goesAlong_200 : decode cX12_goesAlong 200 = .ok (.invokevirtual 299, 3) := by decide +kernel
theorem dX12_goesAlong_203 : decode cX12_goesAlong 203 = .ok (.ifCond .eq 7, 3) := by decide +kernel
theorem dX12_goesAlong_206 : decode cX12_goesAlong 206 = .ok (.iconst 1, 1) := by decide +kernel
theorem dX12_goesAlong_207 : decode cX12_goesAlong 207 = .ok (.goto 4, 3) := by decide +kernel
theorem dX12_goesAlong_210 : decode cX12_goesAlong 210 = .ok (.iconst 0, 1) := by decide +kernel
theorem dX12_goesAlong_211 : decode cX12_goesAlong 211 = .ok (.putfield 436, 3) := by decide +kernel
theorem dX12_goesAlong_214 : decode cX12_goesAlong 214 = .ok (.aload_n 0, 1) := by decide +kernel
theorem dX12_goesAlong_215 : decode cX12_goesAlong 215 = .ok (.aload_n 0, 1) := by decide +kernel
theorem dX12_goesAlong_216 : decode cX12_goesAlong 216 = .ok (.getfield 436, 3) := by decide +kernel
theorem dX12_goesAlong_219 : decode cX12_goesAlong 219 = .ok (.ifCond .eq 14, 3) := by decide +kernel
theorem dX12_goesAlong_222 : decode cX12_goesAlong 222 = .ok (.aload_n 0, 1) := by decide +kernel
theorem dX12_goesAlong_223 : decode cX12_goesAlong 223 = .ok (.getfield 258, 3) := by decide +kernel
theorem dX12_goesAlong_226 : decode cX12_goesAlong 226 = .ok (.ifCond .ne 7, 3) := by decide +kernel
theorem dX12_goesAlong_229 : decode cX12_goesAlong 229 = .ok (.iconst 1, 1) := by decide +kernel
theorem dX12_goesAlong_230 : decode cX12_goesAlong 230 = .ok (.goto 4, 3) := by decide +kernel
theorem dX12_goesAlong_233 : decode cX12_goesAlong 233 = .ok (.iconst 0, 1) := by decide +kernel
theorem dX12_goesAlong_234 : decode cX12_goesAlong 234 = .ok (.putfield 436, 3) := by decide +kernel
theorem dX12_goesAlong_237 : decode cX12_goesAlong 237 = .ok (.aload_n 0, 1) := by decide +kernel
theorem dX12_goesAlong_238 : decode cX12_goesAlong 238 = .ok (.dup, 1) := by decide +kernel
theorem dX12_goesAlong_239 : decode cX12_goesAlong 239 = .ok (.getfield 248, 3) := by decide +kernel
theorem dX12_goesAlong_242 : decode cX12_goesAlong 242 = .ok (.iconst 1, 1) := by decide +kernel
theorem dX12_goesAlong_243 : decode cX12_goesAlong 243 = .ok (.iadd, 1) := by decide +kernel
theorem dX12_goesAlong_244 : decode cX12_goesAlong 244 = .ok (.putfield 248, 3) := by decide +kernel
theorem dX12_goesAlong_247 : decode cX12_goesAlong 247 = .ok (.return_, 1) := by decide +kernel
theorem dX12_small_0 : decode cX12_small 0 = .ok (.lload_n 0, 1) := by decide +kernel
theorem dX12_small_1 : decode cX12_small 1 = .ok (.lconst 0, 1) := by decide +kernel
theorem dX12_small_2 : decode cX12_small 2 = .ok (.lcmp, 1) := by decide +kernel
theorem dX12_small_3 : decode cX12_small 3 = .ok (.ifCond .lt 11, 3) := by decide +kernel
theorem dX12_small_6 : decode cX12_small 6 = .ok (.lload_n 0, 1) := by decide +kernel
theorem dX12_small_7 : decode cX12_small 7 = .ok (.ldc2_w 439, 3) := by decide +kernel
theorem dX12_small_10 : decode cX12_small 10 = .ok (.lcmp, 1) := by decide +kernel
theorem dX12_small_11 : decode cX12_small 11 = .ok (.ifCond .le 7, 3) := by decide +kernel
theorem dX12_small_14 : decode cX12_small 14 = .ok (.iconst (-1), 1) := by decide +kernel
theorem dX12_small_15 : decode cX12_small 15 = .ok (.goto 5, 3) := by decide +kernel
theorem dX12_small_18 : decode cX12_small 18 = .ok (.lload_n 0, 1) := by decide +kernel
theorem dX12_small_19 : decode cX12_small 19 = .ok (.l2i, 1) := by decide +kernel
theorem dX12_small_20 : decode cX12_small 20 = .ok (.ireturn, 1) := by decide +kernel
theorem dX12_obeys_0 : decode cX12_obeys 0 = .ok (.aload_n 0, 1) := by decide +kernel
theorem dX12_obeys_1 : decode cX12_obeys 1 = .ok (.getfield 427, 3) := by decide +kernel
theorem dX12_obeys_4 : decode cX12_obeys 4 = .ok (.bipush 20, 2) := by decide +kernel
theorem dX12_obeys_6 : decode cX12_obeys 6 = .ok (.if_icmp .ne 7, 3) := by decide +kernel
theorem dX12_obeys_9 : decode cX12_obeys 9 = .ok (.iconst 0, 1) := by decide +kernel
