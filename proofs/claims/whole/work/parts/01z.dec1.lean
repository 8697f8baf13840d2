theorem dX9_split_168 : decode cX9_split 168 = .ok (.iload 5, 2) := by decide +kernel
theorem dX9_split_170 : decode cX9_split 170 = .ok (.bipush 32, 2) := by decide +kernel
theorem dX9_split_172 : decode cX9_split 172 = .ok (.if_icmp .le 8, 3) := by decide +kernel
theorem dX9_split_175 : decode cX9_split 175 = .ok (.iload 5, 2) := by decide +kernel
theorem dX9_split_177 : decode cX9_split 177 = .ok (.goto 4, 3) := by decide +kernel
theorem dX9_split_180 : decode cX9_split 180 = .ok (.iconst 2, 1) := by decide +kernel
theorem dX9_split_181 : decode cX9_split 181 = .ok (.iload 6, 2) := by decide +kernel
theorem dX9_split_183 : decode cX9_split 183 = .ok (.iconst 0, 1) := by decide +kernel
theorem dX9_split_184 : decode cX9_split 184 = .ok (.invokevirtual 42, 3) := by decide +kernel
theorem dX9_split_187 : decode cX9_split 187 = .ok (.iinc 4 1, 3) := by decide +kernel
theorem dX9_split_190 : decode cX9_split 190 = .ok (.goto (-180), 3) := by decide +kernel
theorem dX9_split_193 : decode cX9_split 193 = .ok (.aload_n 0, 1) := by decide +kernel
theorem dX9_split_194 : decode cX9_split 194 = .ok (.iconst 0, 1) := by decide +kernel
theorem dX9_split_195 : decode cX9_split 195 = .ok (.aload_n 1, 1) := by decide +kernel
theorem dX9_split_196 : decode cX9_split 196 = .ok (.getfield 25, 3) := by decide +kernel
theorem dX9_split_199 : decode cX9_split 199 = .ok (.iconst 0, 1) := by decide +kernel
theorem dX9_split_200 : decode cX9_split 200 = .ok (.invokevirtual 42, 3) := by decide +kernel
theorem dX9_split_203 : decode cX9_split 203 = .ok (.return_, 1) := by decide +kernel
theorem dX8_clear_0 : decode cX8_clear 0 = .ok (.aload_n 0, 1) := by decide +kernel
theorem dX8_clear_1 : decode cX8_clear 1 = .ok (.iconst 0, 1) := by decide +kernel
theorem dX8_clear_2 : decode cX8_clear 2 = .ok (.putfield 9, 3) := by decide +kernel
theorem dX8_clear_5 : decode cX8_clear 5 = .ok (.aload_n 0, 1) := by decide +kernel
theorem dX8_clear_6 : decode cX8_clear 6 = .ok (.iconst 0, 1) := by decide +kernel
theorem dX8_clear_7 : decode cX8_clear 7 = .ok (.putfield 15, 3) := by decide +kernel
theorem dX8_clear_10 : decode cX8_clear 10 = .ok (.return_, 1) := by decide +kernel
theorem dX5_present_0 : decode cX5_present 0 = .ok (.aload_n 0, 1) := by decide +kernel
theorem dX5_present_1 : decode cX5_present 1 = .ok (.getfield 27, 3) := by decide +kernel
theorem dX5_present_4 : decode cX5_present 4 = .ok (.ifCond .lt 28, 3) := by decide +kernel
theorem dX5_present_7 : decode cX5_present 7 = .ok (.aload_n 0, 1) := by decide +kernel
theorem dX5_present_8 : decode cX5_present 8 = .ok (.getfield 27, 3) := by decide +kernel
theorem dX5_present_11 : decode cX5_present 11 = .ok (.sipush 401, 3) := by decide +kernel
theorem dX5_present_14 : decode cX5_present 14 = .ok (.if_icmp .ge 18, 3) := by decide +kernel
theorem dX5_present_17 : decode cX5_present 17 = .ok (.aload_n 0, 1) := by decide +kernel
theorem dX5_present_18 : decode cX5_present 18 = .ok (.getfield 23, 3) := by decide +kernel
theorem dX5_present_21 : decode cX5_present 21 = .ok (.getfield 103, 3) := by decide +kernel
theorem dX5_present_24 : decode cX5_present 24 = .ok (.aload_n 0, 1) := by decide +kernel
theorem dX5_present_25 : decode cX5_present 25 = .ok (.getfield 27, 3) := by decide +kernel
theorem dX5_present_28 : decode cX5_present 28 = .ok (.iaload, 1) := by decide +kernel
theorem dX5_present_29 : decode cX5_present 29 = .ok (.goto 4, 3) := by decide +kernel
theorem dX5_present_32 : decode cX5_present 32 = .ok (.iconst 0, 1) := by decide +kernel
theorem dX5_present_33 : decode cX5_present 33 = .ok (.ireturn, 1) := by decide +kernel
theorem dX8_setEntry_0 : decode cX8_setEntry 0 = .ok (.iconst 5, 1) := by decide +kernel
theorem dX8_setEntry_1 : decode cX8_setEntry 1 = .ok (.aload_n 0, 1) := by decide +kernel
theorem dX8_setEntry_2 : decode cX8_setEntry 2 = .ok (.getfield 15, 3) := by decide +kernel
theorem dX8_setEntry_5 : decode cX8_setEntry 5 = .ok (.iconst 1, 1) := by decide +kernel
theorem dX8_setEntry_6 : decode cX8_setEntry 6 = .ok (.isub, 1) := by decide +kernel
theorem dX8_setEntry_7 : decode cX8_setEntry 7 = .ok (.imul, 1) := by decide +kernel
theorem dX8_setEntry_8 : decode cX8_setEntry 8 = .ok (.iload_n 1, 1) := by decide +kernel
theorem dX8_setEntry_9 : decode cX8_setEntry 9 = .ok (.iadd, 1) := by decide +kernel
theorem dX8_setEntry_10 : decode cX8_setEntry 10 = .ok (.istore_n 3, 1) := by decide +kernel
theorem dX8_setEntry_11 : decode cX8_setEntry 11 = .ok (.iload_n 3, 1) := by decide +kernel
theorem dX8_setEntry_12 : decode cX8_setEntry 12 = .ok (.ifCond .lt 19, 3) := by decide +kernel
theorem dX8_setEntry_15 : decode cX8_setEntry 15 = .ok (.iload_n 3, 1) := by decide +kernel
theorem dX8_setEntry_16 : decode cX8_setEntry 16 = .ok (.aload_n 0, 1) := by decide +kernel
theorem dX8_setEntry_17 : decode cX8_setEntry 17 = .ok (.getfield 31, 3) := by decide +kernel
theorem dX8_setEntry_20 : decode cX8_setEntry 20 = .ok (.arraylength, 1) := by decide +kernel
theorem dX8_setEntry_21 : decode cX8_setEntry 21 = .ok (.if_icmp .ge 10, 3) := by decide +kernel
theorem dX8_setEntry_24 : decode cX8_setEntry 24 = .ok (.aload_n 0, 1) := by decide +kernel
theorem dX8_setEntry_25 : decode cX8_setEntry 25 = .ok (.getfield 31, 3) := by decide +kernel
theorem dX8_setEntry_28 : decode cX8_setEntry 28 = .ok (.iload_n 3, 1) := by decide +kernel
theorem dX8_setEntry_29 : decode cX8_setEntry 29 = .ok (.iload_n 2, 1) := by decide +kernel
theorem dX8_setEntry_30 : decode cX8_setEntry 30 = .ok (.iastore, 1) := by decide +kernel
theorem dX8_setEntry_31 : decode cX8_setEntry 31 = .ok (.return_, 1) := by decide +kernel
theorem dX8_addClause_0 : decode cX8_addClause 0 = .ok (.aload_n 0, 1) := by decide +kernel
theorem dX8_addClause_1 : decode cX8_addClause 1 = .ok (.dup, 1) := by decide +kernel
theorem dX8_addClause_2 : decode cX8_addClause 2 = .ok (.getfield 15, 3) := by decide +kernel
theorem dX8_addClause_5 : decode cX8_addClause 5 = .ok (.iconst 1, 1) := by decide +kernel
theorem dX8_addClause_6 : decode cX8_addClause 6 = .ok (.iadd, 1) := by decide +kernel
theorem dX8_addClause_7 : decode cX8_addClause 7 = .ok (.putfield 15, 3) := by decide +kernel
theorem dX8_addClause_10 : decode cX8_addClause 10 = .ok (.aload_n 0, 1) := by decide +kernel
theorem dX8_addClause_11 : decode cX8_addClause 11 = .ok (.iconst 0, 1) := by decide +kernel
theorem dX8_addClause_12 : decode cX8_addClause 12 = .ok (.iload_n 1, 1) := by decide +kernel
theorem dX8_addClause_13 : decode cX8_addClause 13 = .ok (.invokevirtual 43, 3) := by decide +kernel
theorem dX8_addClause_16 : decode cX8_addClause 16 = .ok (.aload_n 0, 1) := by decide +kernel
theorem dX8_addClause_17 : decode cX8_addClause 17 = .ok (.iconst 1, 1) := by decide +kernel
theorem dX8_addClause_18 : decode cX8_addClause 18 = .ok (.iconst (-1), 1) := by decide +kernel
theorem dX8_addClause_19 : decode cX8_addClause 19 = .ok (.invokevirtual 43, 3) := by decide +kernel
theorem dX8_addClause_22 : decode cX8_addClause 22 = .ok (.aload_n 0, 1) := by decide +kernel
theorem dX8_addClause_23 : decode cX8_addClause 23 = .ok (.iconst 2, 1) := by decide +kernel
theorem dX8_addClause_24 : decode cX8_addClause 24 = .ok (.iconst (-1), 1) := by decide +kernel
theorem dX8_addClause_25 : decode cX8_addClause 25 = .ok (.invokevirtual 43, 3) := by decide +kernel
theorem dX8_addClause_28 : decode cX8_addClause 28 = .ok (.aload_n 0, 1) := by decide +kernel
theorem dX8_addClause_29 : decode cX8_addClause 29 = .ok (.iconst 3, 1) := by decide +kernel
theorem dX8_addClause_30 : decode cX8_addClause 30 = .ok (.iconst 1, 1) := by decide +kernel
theorem dX8_addClause_31 : decode cX8_addClause 31 = .ok (.invokevirtual 43, 3) := by decide +kernel
theorem dX8_addClause_34 : decode cX8_addClause 34 = .ok (.aload_n 0, 1) := by decide +kernel
theorem dX8_addClause_35 : decode cX8_addClause 35 = .ok (.iconst 4, 1) := by decide +kernel
theorem dX8_addClause_36 : decode cX8_addClause 36 = .ok (.iconst (-1), 1) := by decide +kernel
theorem dX8_addClause_37 : decode cX8_addClause 37 = .ok (.invokevirtual 43, 3) := by decide +kernel
theorem dX8_addClause_40 : decode cX8_addClause 40 = .ok (.return_, 1) := by decide +kernel
theorem dX5_fails_0 : decode cX5_fails 0 = .ok (.aload_n 0, 1) := by decide +kernel
theorem dX5_fails_1 : decode cX5_fails 1 = .ok (.aload_n 0, 1) := by decide +kernel
theorem dX5_fails_2 : decode cX5_fails 2 = .ok (.getfield 27, 3) := by decide +kernel
theorem dX5_fails_5 : decode cX5_fails 5 = .ok (.ifCond .lt 28, 3) := by decide +kernel
theorem dX5_fails_8 : decode cX5_fails 8 = .ok (.aload_n 0, 1) := by decide +kernel
theorem dX5_fails_9 : decode cX5_fails 9 = .ok (.getfield 27, 3) := by decide +kernel
theorem dX5_fails_12 : decode cX5_fails 12 = .ok (.sipush 401, 3) := by decide +kernel
theorem dX5_fails_15 : decode cX5_fails 15 = .ok (.if_icmp .ge 18, 3) := by decide +kernel
theorem dX5_fails_18 : decode cX5_fails 18 = .ok (.aload_n 0, 1) := by decide +kernel
theorem dX5_fails_19 : decode cX5_fails 19 = .ok (.getfield 23, 3) := by decide +kernel
theorem dX5_fails_22 : decode cX5_fails 22 = .ok (.getfield 110, 3) := by decide +kernel
theorem dX5_fails_25 : decode cX5_fails 25 = .ok (.aload_n 0, 1) := by decide +kernel
theorem dX5_fails_26 : decode cX5_fails 26 = .ok (.getfield 27, 3) := by decide +kernel
theorem dX5_fails_29 : decode cX5_fails 29 = .ok (.iaload, 1) := by decide +kernel
theorem dX5_fails_30 : decode cX5_fails 30 = .ok (.goto 4, 3) := by decide +kernel
theorem dX5_fails_33 : decode cX5_fails 33 = .ok (.iconst 0, 1) := by decide +kernel
theorem dX5_fails_34 : decode cX5_fails 34 = .ok (.putfield 34, 3) := by decide +kernel
theorem dX5_fails_37 : decode cX5_fails 37 = .ok (.iconst 0, 1) := by decide +kernel
theorem dX5_fails_38 : decode cX5_fails 38 = .ok (.ireturn, 1) := by decide +kernel
theorem dX5_takes_0 : decode cX5_takes 0 = .ok (.aload_n 0, 1) := by decide +kernel
theorem dX5_takes_1 : decode cX5_takes 1 = .ok (.getfield 27, 3) := by decide +kernel
theorem dX5_takes_4 : decode cX5_takes 4 = .ok (.ifCond .lt 33, 3) := by decide +kernel
theorem dX5_takes_7 : decode cX5_takes 7 = .ok (.aload_n 0, 1) := by decide +kernel
theorem dX5_takes_8 : decode cX5_takes 8 = .ok (.getfield 27, 3) := by decide +kernel
theorem dX5_takes_11 : decode cX5_takes 11 = .ok (.sipush 401, 3) := by decide +kernel
theorem dX5_takes_14 : decode cX5_takes 14 = .ok (.if_icmp .ge 23, 3) := by decide +kernel
theorem dX5_takes_17 : decode cX5_takes 17 = .ok (.aload_n 0, 1) := by decide +kernel
theorem dX5_takes_18 : decode cX5_takes 18 = .ok (.getfield 23, 3) := by decide +kernel
theorem dX5_takes_21 : decode cX5_takes 21 = .ok (.getfield 103, 3) := by decide +kernel
theorem dX5_takes_24 : decode cX5_takes 24 = .ok (.aload_n 0, 1) := by decide +kernel
theorem dX5_takes_25 : decode cX5_takes 25 = .ok (.getfield 27, 3) := by decide +kernel
theorem dX5_takes_28 : decode cX5_takes 28 = .ok (.iaload, 1) := by decide +kernel
theorem dX5_takes_29 : decode cX5_takes 29 = .ok (.iload_n 1, 1) := by decide +kernel
theorem dX5_takes_30 : decode cX5_takes 30 = .ok (.if_icmp .ne 7, 3) := by decide +kernel
theorem dX5_takes_33 : decode cX5_takes 33 = .ok (.iconst 1, 1) := by decide +kernel
theorem dX5_takes_34 : decode cX5_takes 34 = .ok (.goto 4, 3) := by decide +kernel
theorem dX5_takes_37 : decode cX5_takes 37 = .ok (.iconst 0, 1) := by decide +kernel
theorem dX5_takes_38 : decode cX5_takes 38 = .ok (.istore_n 2, 1) := by decide +kernel
theorem dX5_takes_39 : decode cX5_takes 39 = .ok (.aload_n 0, 1) := by decide +kernel
theorem dX5_takes_40 : decode cX5_takes 40 = .ok (.dup, 1) := by decide +kernel
theorem dX5_takes_41 : decode cX5_takes 41 = .ok (.getfield 27, 3) := by decide +kernel
theorem dX5_takes_44 : decode cX5_takes 44 = .ok (.iload_n 2, 1) := by decide +kernel
theorem dX5_takes_45 : decode cX5_takes 45 = .ok (.ifCond .eq 7, 3) := by decide +kernel
theorem dX5_takes_48 : decode cX5_takes 48 = .ok (.iconst 1, 1) := by decide +kernel
theorem dX5_takes_49 : decode cX5_takes 49 = .ok (.goto 4, 3) := by decide +kernel
theorem dX5_takes_52 : decode cX5_takes 52 = .ok (.iconst 0, 1) := by decide +kernel
theorem dX5_takes_53 : decode cX5_takes 53 = .ok (.iadd, 1) := by decide +kernel
theorem dX5_takes_54 : decode cX5_takes 54 = .ok (.putfield 27, 3) := by decide +kernel
theorem dX5_takes_57 : decode cX5_takes 57 = .ok (.iload_n 2, 1) := by decide +kernel
theorem dX5_takes_58 : decode cX5_takes 58 = .ok (.ireturn, 1) := by decide +kernel
theorem dX8_addStep_0 : decode cX8_addStep 0 = .ok (.aload_n 0, 1) := by decide +kernel
theorem dX8_addStep_1 : decode cX8_addStep 1 = .ok (.getfield 9, 3) := by decide +kernel
theorem dX8_addStep_4 : decode cX8_addStep 4 = .ok (.aload_n 0, 1) := by decide +kernel
theorem dX8_addStep_5 : decode cX8_addStep 5 = .ok (.getfield 24, 3) := by decide +kernel
theorem dX8_addStep_8 : decode cX8_addStep 8 = .ok (.arraylength, 1) := by decide +kernel
theorem dX8_addStep_9 : decode cX8_addStep 9 = .ok (.if_icmp .ge 15, 3) := by decide +kernel
theorem dX8_addStep_12 : decode cX8_addStep 12 = .ok (.aload_n 0, 1) := by decide +kernel
theorem dX8_addStep_13 : decode cX8_addStep 13 = .ok (.getfield 9, 3) := by decide +kernel
theorem dX8_addStep_16 : decode cX8_addStep 16 = .ok (.aload_n 0, 1) := by decide +kernel
theorem dX8_addStep_17 : decode cX8_addStep 17 = .ok (.getfield 28, 3) := by decide +kernel
theorem dX8_addStep_20 : decode cX8_addStep 20 = .ok (.arraylength, 1) := by decide +kernel
theorem dX8_addStep_21 : decode cX8_addStep 21 = .ok (.if_icmp .lt 5, 3) := by decide +kernel
theorem dX8_addStep_24 : decode cX8_addStep 24 = .ok (.iconst (-1), 1) := by decide +kernel
theorem dX8_addStep_25 : decode cX8_addStep 25 = .ok (.ireturn, 1) := by decide +kernel
theorem dX8_addStep_26 : decode cX8_addStep 26 = .ok (.aload_n 0, 1) := by decide +kernel
theorem dX8_addStep_27 : decode cX8_addStep 27 = .ok (.getfield 24, 3) := by decide +kernel
theorem dX8_addStep_30 : decode cX8_addStep 30 = .ok (.aload_n 0, 1) := by decide +kernel
theorem dX8_addStep_31 : decode cX8_addStep 31 = .ok (.getfield 9, 3) := by decide +kernel
theorem dX8_addStep_34 : decode cX8_addStep 34 = .ok (.iload_n 1, 1) := by decide +kernel
theorem dX8_addStep_35 : decode cX8_addStep 35 = .ok (.iastore, 1) := by decide +kernel
theorem dX8_addStep_36 : decode cX8_addStep 36 = .ok (.aload_n 0, 1) := by decide +kernel
theorem dX8_addStep_37 : decode cX8_addStep 37 = .ok (.getfield 28, 3) := by decide +kernel
theorem dX8_addStep_40 : decode cX8_addStep 40 = .ok (.aload_n 0, 1) := by decide +kernel
theorem dX8_addStep_41 : decode cX8_addStep 41 = .ok (.getfield 9, 3) := by decide +kernel
theorem dX8_addStep_44 : decode cX8_addStep 44 = .ok (.iload_n 2, 1) := by decide +kernel
theorem dX8_addStep_45 : decode cX8_addStep 45 = .ok (.iastore, 1) := by decide +kernel
theorem dX8_addStep_46 : decode cX8_addStep 46 = .ok (.aload_n 0, 1) := by decide +kernel
theorem dX8_addStep_47 : decode cX8_addStep 47 = .ok (.dup, 1) := by decide +kernel
theorem dX8_addStep_48 : decode cX8_addStep 48 = .ok (.getfield 9, 3) := by decide +kernel
theorem dX8_addStep_51 : decode cX8_addStep 51 = .ok (.iconst 1, 1) := by decide +kernel
theorem dX8_addStep_52 : decode cX8_addStep 52 = .ok (.iadd, 1) := by decide +kernel
theorem dX8_addStep_53 : decode cX8_addStep 53 = .ok (.putfield 9, 3) := by decide +kernel
theorem dX8_addStep_56 : decode cX8_addStep 56 = .ok (.aload_n 0, 1) := by decide +kernel
theorem dX8_addStep_57 : decode cX8_addStep 57 = .ok (.getfield 9, 3) := by decide +kernel
theorem dX8_addStep_60 : decode cX8_addStep 60 = .ok (.iconst 1, 1) := by decide +kernel
theorem dX8_addStep_61 : decode cX8_addStep 61 = .ok (.isub, 1) := by decide +kernel
theorem dX8_addStep_62 : decode cX8_addStep 62 = .ok (.ireturn, 1) := by decide +kernel
theorem dX5_numberWithin_0 : decode cX5_numberWithin 0 = .ok (.aload_n 0, 1) := by decide +kernel
theorem dX5_numberWithin_1 : decode cX5_numberWithin 1 = .ok (.getfield 27, 3) := by decide +kernel
theorem dX5_numberWithin_4 : decode cX5_numberWithin 4 = .ok (.ifCond .lt 29, 3) := by decide +kernel
theorem dX5_numberWithin_7 : decode cX5_numberWithin 7 = .ok (.aload_n 0, 1) := by decide +kernel
theorem dX5_numberWithin_8 : decode cX5_numberWithin 8 = .ok (.getfield 27, 3) := by decide +kernel
theorem dX5_numberWithin_11 : decode cX5_numberWithin 11 = .ok (.sipush 401, 3) := by decide +kernel
theorem dX5_numberWithin_14 : decode cX5_numberWithin 14 = .ok (.if_icmp .ge 19, 3) := by decide +kernel
theorem dX5_numberWithin_17 : decode cX5_numberWithin 17 = .ok (.aload_n 0, 1) := by decide +kernel
theorem dX5_numberWithin_18 : decode cX5_numberWithin 18 = .ok (.getfield 23, 3) := by decide +kernel
theorem dX5_numberWithin_21 : decode cX5_numberWithin 21 = .ok (.getfield 103, 3) := by decide +kernel
theorem dX5_numberWithin_24 : decode cX5_numberWithin 24 = .ok (.aload_n 0, 1) := by decide +kernel
theorem dX5_numberWithin_25 : decode cX5_numberWithin 25 = .ok (.getfield 27, 3) := by decide +kernel
theorem dX5_numberWithin_28 : decode cX5_numberWithin 28 = .ok (.iaload, 1) := by decide +kernel
theorem dX5_numberWithin_29 : decode cX5_numberWithin 29 = .ok (.iconst 1, 1) := by decide +kernel
theorem dX5_numberWithin_30 : decode cX5_numberWithin 30 = .ok (.if_icmp .eq 5, 3) := by decide +kernel
theorem dX5_numberWithin_33 : decode cX5_numberWithin 33 = .ok (.iconst (-1), 1) := by decide +kernel
theorem dX5_numberWithin_34 : decode cX5_numberWithin 34 = .ok (.ireturn, 1) := by decide +kernel
theorem dX5_numberWithin_35 : decode cX5_numberWithin 35 = .ok (.aload_n 0, 1) := by decide +kernel
theorem dX5_numberWithin_36 : decode cX5_numberWithin 36 = .ok (.getfield 23, 3) := by decide +kernel
theorem dX5_numberWithin_39 : decode cX5_numberWithin 39 = .ok (.getfield 107, 3) := by decide +kernel
theorem dX5_numberWithin_42 : decode cX5_numberWithin 42 = .ok (.aload_n 0, 1) := by decide +kernel
theorem dX5_numberWithin_43 : decode cX5_numberWithin 43 = .ok (.getfield 27, 3) := by decide +kernel
theorem dX5_numberWithin_46 : decode cX5_numberWithin 46 = .ok (.iaload, 1) := by decide +kernel
theorem dX5_numberWithin_47 : decode cX5_numberWithin 47 = .ok (.istore_n 3, 1) := by decide +kernel
theorem dX5_numberWithin_48 : decode cX5_numberWithin 48 = .ok (.iload_n 3, 1) := by decide +kernel
theorem dX5_numberWithin_49 : decode cX5_numberWithin 49 = .ok (.iload_n 1, 1) := by decide +kernel
theorem dX5_numberWithin_50 : decode cX5_numberWithin 50 = .ok (.if_icmp .lt 12, 3) := by decide +kernel
theorem dX5_numberWithin_53 : decode cX5_numberWithin 53 = .ok (.iload_n 3, 1) := by decide +kernel
theorem dX5_numberWithin_54 : decode cX5_numberWithin 54 = .ok (.iload_n 2, 1) := by decide +kernel
theorem dX5_numberWithin_55 : decode cX5_numberWithin 55 = .ok (.if_icmp .gt 7, 3) := by decide +kernel
theorem dX5_numberWithin_58 : decode cX5_numberWithin 58 = .ok (.iload_n 3, 1) := by decide +kernel
theorem dX5_numberWithin_59 : decode cX5_numberWithin 59 = .ok (.goto 4, 3) := by decide +kernel
theorem dX5_numberWithin_62 : decode cX5_numberWithin 62 = .ok (.iconst (-1), 1) := by decide +kernel
theorem dX5_numberWithin_63 : decode cX5_numberWithin 63 = .ok (.ireturn, 1) := by decide +kernel
theorem dX5_number_0 : decode cX5_number 0 = .ok (.aload_n 0, 1) := by decide +kernel
theorem dX5_number_1 : decode cX5_number 1 = .ok (.iconst 0, 1) := by decide +kernel
theorem dX5_number_2 : decode cX5_number 2 = .ok (.iload_n 3, 1) := by decide +kernel
theorem dX5_number_3 : decode cX5_number 3 = .ok (.invokevirtual 84, 3) := by decide +kernel
theorem dX5_number_6 : decode cX5_number 6 = .ok (.istore 4, 2) := by decide +kernel
theorem dX5_number_8 : decode cX5_number 8 = .ok (.iload 4, 2) := by decide +kernel
theorem dX5_number_10 : decode cX5_number 10 = .ok (.iconst (-1), 1) := by decide +kernel
theorem dX5_number_11 : decode cX5_number 11 = .ok (.if_icmp .ne 8, 3) := by decide +kernel
theorem dX5_number_14 : decode cX5_number 14 = .ok (.aload_n 0, 1) := by decide +kernel
theorem dX5_number_15 : decode cX5_number 15 = .ok (.invokevirtual 74, 3) := by decide +kernel
theorem dX5_number_18 : decode cX5_number 18 = .ok (.ireturn, 1) := by decide +kernel
theorem dX5_number_19 : decode cX5_number 19 = .ok (.aload_n 0, 1) := by decide +kernel
theorem dX5_number_20 : decode cX5_number 20 = .ok (.getfield 16, 3) := by decide +kernel
theorem dX5_number_23 : decode cX5_number 23 = .ok (.iload_n 1, 1) := by decide +kernel
theorem dX5_number_24 : decode cX5_number 24 = .ok (.iload_n 2, 1) := by decide +kernel
theorem dX5_number_25 : decode cX5_number 25 = .ok (.iload 4, 2) := by decide +kernel
theorem dX5_number_27 : decode cX5_number 27 = .ok (.iadd, 1) := by decide +kernel
theorem dX5_number_28 : decode cX5_number 28 = .ok (.invokevirtual 66, 3) := by decide +kernel
theorem dX5_number_31 : decode cX5_number 31 = .ok (.pop, 1) := by decide +kernel
theorem dX5_number_32 : decode cX5_number 32 = .ok (.aload_n 0, 1) := by decide +kernel
theorem dX5_number_33 : decode cX5_number 33 = .ok (.dup, 1) := by decide +kernel
theorem dX5_number_34 : decode cX5_number 34 = .ok (.getfield 27, 3) := by decide +kernel
theorem dX5_number_37 : decode cX5_number 37 = .ok (.iconst 1, 1) := by decide +kernel
theorem dX5_number_38 : decode cX5_number 38 = .ok (.iadd, 1) := by decide +kernel
theorem dX5_number_39 : decode cX5_number 39 = .ok (.putfield 27, 3) := by decide +kernel
theorem dX5_number_42 : decode cX5_number 42 = .ok (.iconst 1, 1) := by decide +kernel
theorem dX5_number_43 : decode cX5_number 43 = .ok (.ireturn, 1) := by decide +kernel
theorem dX5_part_0 : decode cX5_part 0 = .ok (.aload_n 0, 1) := by decide +kernel
theorem dX5_part_1 : decode cX5_part 1 = .ok (.invokevirtual 70, 3) := by decide +kernel
theorem dX5_part_4 : decode cX5_part 4 = .ok (.istore_n 2, 1) := by decide +kernel
theorem dX5_part_5 : decode cX5_part 5 = .ok (.iload_n 2, 1) := by decide +kernel
theorem dX5_part_6 : decode cX5_part 6 = .ok (.bipush 91, 2) := by decide +kernel
theorem dX5_part_8 : decode cX5_part 8 = .ok (.if_icmp .ne 58, 3) := by decide +kernel
theorem dX5_part_11 : decode cX5_part 11 = .ok (.iload_n 1, 1) := by decide +kernel
theorem dX5_part_12 : decode cX5_part 12 = .ok (.bipush 8, 2) := by decide +kernel
theorem dX5_part_14 : decode cX5_part 14 = .ok (.if_icmp .lt 8, 3) := by decide +kernel
theorem dX5_part_17 : decode cX5_part 17 = .ok (.aload_n 0, 1) := by decide +kernel
theorem dX5_part_18 : decode cX5_part 18 = .ok (.invokevirtual 74, 3) := by decide +kernel
theorem dX5_part_21 : decode cX5_part 21 = .ok (.ireturn, 1) := by decide +kernel
theorem dX5_part_22 : decode cX5_part 22 = .ok (.aload_n 0, 1) := by decide +kernel
theorem dX5_part_23 : decode cX5_part 23 = .ok (.dup, 1) := by decide +kernel
theorem dX5_part_24 : decode cX5_part 24 = .ok (.getfield 27, 3) := by decide +kernel
theorem dX5_part_27 : decode cX5_part 27 = .ok (.iconst 1, 1) := by decide +kernel
theorem dX5_part_28 : decode cX5_part 28 = .ok (.iadd, 1) := by decide +kernel
theorem dX5_part_29 : decode cX5_part 29 = .ok (.putfield 27, 3) := by decide +kernel
theorem dX5_part_32 : decode cX5_part 32 = .ok (.aload_n 0, 1) := by decide +kernel
theorem dX5_part_33 : decode cX5_part 33 = .ok (.iload_n 1, 1) := by decide +kernel
theorem dX5_part_34 : decode cX5_part 34 = .ok (.iconst 1, 1) := by decide +kernel
theorem dX5_part_35 : decode cX5_part 35 = .ok (.iadd, 1) := by decide +kernel
theorem dX5_part_36 : decode cX5_part 36 = .ok (.invokevirtual 87, 3) := by decide +kernel
theorem dX5_part_39 : decode cX5_part 39 = .ok (.ifCond .ne 5, 3) := by decide +kernel
theorem dX5_part_42 : decode cX5_part 42 = .ok (.iconst 0, 1) := by decide +kernel
theorem dX5_part_43 : decode cX5_part 43 = .ok (.ireturn, 1) := by decide +kernel
theorem dX5_part_44 : decode cX5_part 44 = .ok (.aload_n 0, 1) := by decide +kernel
theorem dX5_part_45 : decode cX5_part 45 = .ok (.bipush 93, 2) := by decide +kernel
theorem dX5_part_47 : decode cX5_part 47 = .ok (.invokevirtual 51, 3) := by decide +kernel
theorem dX5_part_50 : decode cX5_part 50 = .ok (.ifCond .ne 10, 3) := by decide +kernel
theorem dX5_part_53 : decode cX5_part 53 = .ok (.aload_n 0, 1) := by decide +kernel
theorem dX5_part_54 : decode cX5_part 54 = .ok (.invokevirtual 74, 3) := by decide +kernel
theorem dX5_part_57 : decode cX5_part 57 = .ok (.ifCond .eq 7, 3) := by decide +kernel
theorem dX5_part_60 : decode cX5_part 60 = .ok (.iconst 1, 1) := by decide +kernel
theorem dX5_part_61 : decode cX5_part 61 = .ok (.goto 4, 3) := by decide +kernel
theorem dX5_part_64 : decode cX5_part 64 = .ok (.iconst 0, 1) := by decide +kernel
theorem dX5_part_65 : decode cX5_part 65 = .ok (.ireturn, 1) := by decide +kernel
theorem dX5_part_66 : decode cX5_part 66 = .ok (.aload_n 0, 1) := by decide +kernel
theorem dX5_part_67 : decode cX5_part 67 = .ok (.getfield 31, 3) := by decide +kernel
theorem dX5_part_70 : decode cX5_part 70 = .ok (.bipush 50, 2) := by decide +kernel
theorem dX5_part_72 : decode cX5_part 72 = .ok (.if_icmp .lt 8, 3) := by decide +kernel
theorem dX5_part_75 : decode cX5_part 75 = .ok (.aload_n 0, 1) := by decide +kernel
theorem dX5_part_76 : decode cX5_part 76 = .ok (.invokevirtual 74, 3) := by decide +kernel
theorem dX5_part_79 : decode cX5_part 79 = .ok (.ireturn, 1) := by decide +kernel
theorem dX5_part_80 : decode cX5_part 80 = .ok (.aload_n 0, 1) := by decide +kernel
theorem dX5_part_81 : decode cX5_part 81 = .ok (.dup, 1) := by decide +kernel
theorem dX5_part_82 : decode cX5_part 82 = .ok (.getfield 31, 3) := by decide +kernel
theorem dX5_part_85 : decode cX5_part 85 = .ok (.iconst 1, 1) := by decide +kernel
theorem dX5_part_86 : decode cX5_part 86 = .ok (.iadd, 1) := by decide +kernel
theorem dX5_part_87 : decode cX5_part 87 = .ok (.putfield 31, 3) := by decide +kernel
theorem dX5_part_90 : decode cX5_part 90 = .ok (.iload_n 2, 1) := by decide +kernel
theorem dX5_part_91 : decode cX5_part 91 = .ok (.sipush 400, 3) := by decide +kernel
theorem dX5_part_94 : decode cX5_part 94 = .ok (.if_icmp .lt 36, 3) := by decide +kernel
theorem dX5_part_97 : decode cX5_part 97 = .ok (.iload_n 2, 1) := by decide +kernel
theorem dX5_part_98 : decode cX5_part 98 = .ok (.sipush 500, 3) := by decide +kernel
theorem dX5_part_101 : decode cX5_part 101 = .ok (.if_icmp .ge 29, 3) := by decide +kernel
theorem dX5_part_104 : decode cX5_part 104 = .ok (.aload_n 0, 1) := by decide +kernel
theorem dX5_part_105 : decode cX5_part 105 = .ok (.getfield 16, 3) := by decide +kernel
theorem dX5_part_108 : decode cX5_part 108 = .ok (.iconst 1, 1) := by decide +kernel
theorem dX5_part_109 : decode cX5_part 109 = .ok (.iload_n 2, 1) := by decide +kernel
theorem dX5_part_110 : decode cX5_part 110 = .ok (.sipush 400, 3) := by decide +kernel
theorem dX5_part_113 : decode cX5_part 113 = .ok (.isub, 1) := by decide +kernel
theorem dX5_part_114 : decode cX5_part 114 = .ok (.invokevirtual 66, 3) := by decide +kernel
theorem dX5_part_117 : decode cX5_part 117 = .ok (.pop, 1) := by decide +kernel
theorem dX5_part_118 : decode cX5_part 118 = .ok (.aload_n 0, 1) := by decide +kernel
theorem dX5_part_119 : decode cX5_part 119 = .ok (.dup, 1) := by decide +kernel
theorem dX5_part_120 : decode cX5_part 120 = .ok (.getfield 27, 3) := by decide +kernel
theorem dX5_part_123 : decode cX5_part 123 = .ok (.iconst 1, 1) := by decide +kernel
theorem dX5_part_124 : decode cX5_part 124 = .ok (.iadd, 1) := by decide +kernel
theorem dX5_part_125 : decode cX5_part 125 = .ok (.putfield 27, 3) := by decide +kernel
theorem dX5_part_128 : decode cX5_part 128 = .ok (.iconst 1, 1) := by decide +kernel
theorem dX5_part_129 : decode cX5_part 129 = .ok (.ireturn, 1) := by decide +kernel
theorem dX5_part_130 : decode cX5_part 130 = .ok (.aload_n 0, 1) := by decide +kernel
theorem dX5_part_131 : decode cX5_part 131 = .ok (.sipush 264, 3) := by decide +kernel
theorem dX5_part_134 : decode cX5_part 134 = .ok (.invokevirtual 51, 3) := by decide +kernel
theorem dX5_part_137 : decode cX5_part 137 = .ok (.ifCond .eq 12, 3) := by decide +kernel
theorem dX5_part_140 : decode cX5_part 140 = .ok (.aload_n 0, 1) := by decide +kernel
theorem dX5_part_141 : decode cX5_part 141 = .ok (.iconst 1, 1) := by decide +kernel
theorem dX5_part_142 : decode cX5_part 142 = .ok (.iconst 5, 1) := by decide +kernel
theorem dX5_part_143 : decode cX5_part 143 = .ok (.bipush 7, 2) := by decide +kernel
theorem dX5_part_145 : decode cX5_part 145 = .ok (.invokevirtual 99, 3) := by decide +kernel
theorem dX5_part_148 : decode cX5_part 148 = .ok (.ireturn, 1) := by decide +kernel
theorem dX5_part_149 : decode cX5_part 149 = .ok (.aload_n 0, 1) := by decide +kernel
theorem dX5_part_150 : decode cX5_part 150 = .ok (.sipush 265, 3) := by decide +kernel
theorem dX5_part_153 : decode cX5_part 153 = .ok (.invokevirtual 51, 3) := by decide +kernel
theorem dX5_part_156 : decode cX5_part 156 = .ok (.ifCond .eq 13, 3) := by decide +kernel
theorem dX5_part_159 : decode cX5_part 159 = .ok (.aload_n 0, 1) := by decide +kernel
theorem dX5_part_160 : decode cX5_part 160 = .ok (.iconst 1, 1) := by decide +kernel
theorem dX5_part_161 : decode cX5_part 161 = .ok (.bipush 13, 2) := by decide +kernel
theorem dX5_part_163 : decode cX5_part 163 = .ok (.bipush 99, 2) := by decide +kernel
theorem dX5_part_165 : decode cX5_part 165 = .ok (.invokevirtual 99, 3) := by decide +kernel
theorem dX5_part_168 : decode cX5_part 168 = .ok (.ireturn, 1) := by decide +kernel
theorem dX5_part_169 : decode cX5_part 169 = .ok (.aload_n 0, 1) := by decide +kernel
theorem dX5_part_170 : decode cX5_part 170 = .ok (.iconst 0, 1) := by decide +kernel
theorem dX5_part_171 : decode cX5_part 171 = .ok (.iconst 0, 1) := by decide +kernel
theorem dX5_part_172 : decode cX5_part 172 = .ok (.sipush 1000, 3) := by decide +kernel
theorem dX5_part_175 : decode cX5_part 175 = .ok (.invokevirtual 99, 3) := by decide +kernel
theorem dX5_part_178 : decode cX5_part 178 = .ok (.ireturn, 1) := by decide +kernel
theorem dX5_sum_0 : decode cX5_sum 0 = .ok (.iconst (-1), 1) := by decide +kernel
theorem dX5_sum_1 : decode cX5_sum 1 = .ok (.istore_n 2, 1) := by decide +kernel
theorem dX5_sum_2 : decode cX5_sum 2 = .ok (.iconst 0, 1) := by decide +kernel
theorem dX5_sum_3 : decode cX5_sum 3 = .ok (.istore_n 3, 1) := by decide +kernel
theorem dX5_sum_4 : decode cX5_sum 4 = .ok (.iload_n 3, 1) := by decide +kernel
theorem dX5_sum_5 : decode cX5_sum 5 = .ok (.sipush 400, 3) := by decide +kernel
theorem dX5_sum_8 : decode cX5_sum 8 = .ok (.if_icmp .ge 140, 3) := by decide +kernel
theorem dX5_sum_11 : decode cX5_sum 11 = .ok (.iconst (-1), 1) := by decide +kernel
theorem dX5_sum_12 : decode cX5_sum 12 = .ok (.istore 4, 2) := by decide +kernel
theorem dX5_sum_14 : decode cX5_sum 14 = .ok (.iconst 0, 1) := by decide +kernel
theorem dX5_sum_15 : decode cX5_sum 15 = .ok (.istore 5, 2) := by decide +kernel
theorem dX5_sum_17 : decode cX5_sum 17 = .ok (.iload 5, 2) := by decide +kernel
theorem dX5_sum_19 : decode cX5_sum 19 = .ok (.sipush 400, 3) := by decide +kernel
theorem dX5_sum_22 : decode cX5_sum 22 = .ok (.if_icmp .ge 76, 3) := by decide +kernel
theorem dX5_sum_25 : decode cX5_sum 25 = .ok (.aload_n 0, 1) := by decide +kernel
theorem dX5_sum_26 : decode cX5_sum 26 = .ok (.iload_n 1, 1) := by decide +kernel
theorem dX5_sum_27 : decode cX5_sum 27 = .ok (.invokevirtual 96, 3) := by decide +kernel
theorem dX5_sum_30 : decode cX5_sum 30 = .ok (.ifCond .ne 5, 3) := by decide +kernel
theorem dX5_sum_33 : decode cX5_sum 33 = .ok (.iconst 0, 1) := by decide +kernel
theorem dX5_sum_34 : decode cX5_sum 34 = .ok (.ireturn, 1) := by decide +kernel
theorem dX5_sum_35 : decode cX5_sum 35 = .ok (.iload 4, 2) := by decide +kernel
theorem dX5_sum_37 : decode cX5_sum 37 = .ok (.iconst (-1), 1) := by decide +kernel
theorem dX5_sum_38 : decode cX5_sum 38 = .ok (.if_icmp .eq 14, 3) := by decide +kernel
theorem dX5_sum_41 : decode cX5_sum 41 = .ok (.aload_n 0, 1) := by decide +kernel
theorem dX5_sum_42 : decode cX5_sum 42 = .ok (.getfield 16, 3) := by decide +kernel
theorem dX5_sum_45 : decode cX5_sum 45 = .ok (.iload 4, 2) := by decide +kernel
theorem dX5_sum_47 : decode cX5_sum 47 = .ok (.iconst 0, 1) := by decide +kernel
theorem dX5_sum_48 : decode cX5_sum 48 = .ok (.invokevirtual 66, 3) := by decide +kernel
theorem dX5_sum_51 : decode cX5_sum 51 = .ok (.pop, 1) := by decide +kernel
theorem dX5_sum_52 : decode cX5_sum 52 = .ok (.aload_n 0, 1) := by decide +kernel
theorem dX5_sum_53 : decode cX5_sum 53 = .ok (.invokevirtual 70, 3) := by decide +kernel
theorem dX5_sum_56 : decode cX5_sum 56 = .ok (.istore 4, 2) := by decide +kernel
theorem dX5_sum_58 : decode cX5_sum 58 = .ok (.iload 4, 2) := by decide +kernel
theorem dX5_sum_60 : decode cX5_sum 60 = .ok (.bipush 42, 2) := by decide +kernel
theorem dX5_sum_62 : decode cX5_sum 62 = .ok (.if_icmp .eq 20, 3) := by decide +kernel
theorem dX5_sum_65 : decode cX5_sum 65 = .ok (.iload 4, 2) := by decide +kernel
theorem dX5_sum_67 : decode cX5_sum 67 = .ok (.bipush 47, 2) := by decide +kernel
theorem dX5_sum_69 : decode cX5_sum 69 = .ok (.if_icmp .eq 13, 3) := by decide +kernel
theorem dX5_sum_72 : decode cX5_sum 72 = .ok (.iload 4, 2) := by decide +kernel
theorem dX5_sum_74 : decode cX5_sum 74 = .ok (.bipush 37, 2) := by decide +kernel
theorem dX5_sum_76 : decode cX5_sum 76 = .ok (.if_icmp .eq 6, 3) := by decide +kernel
theorem dX5_sum_79 : decode cX5_sum 79 = .ok (.goto 19, 3) := by decide +kernel
theorem dX5_sum_82 : decode cX5_sum 82 = .ok (.aload_n 0, 1) := by decide +kernel
theorem dX5_sum_83 : decode cX5_sum 83 = .ok (.dup, 1) := by decide +kernel
theorem dX5_sum_84 : decode cX5_sum 84 = .ok (.getfield 27, 3) := by decide +kernel
theorem dX5_sum_87 : decode cX5_sum 87 = .ok (.iconst 1, 1) := by decide +kernel
theorem dX5_sum_88 : decode cX5_sum 88 = .ok (.iadd, 1) := by decide +kernel
theorem dX5_sum_89 : decode cX5_sum 89 = .ok (.putfield 27, 3) := by decide +kernel
theorem dX5_sum_92 : decode cX5_sum 92 = .ok (.iinc 5 1, 3) := by decide +kernel
theorem dX5_sum_95 : decode cX5_sum 95 = .ok (.goto (-78), 3) := by decide +kernel
theorem dX5_sum_98 : decode cX5_sum 98 = .ok (.iload_n 2, 1) := by decide +kernel
theorem dX5_sum_99 : decode cX5_sum 99 = .ok (.iconst (-1), 1) := by decide +kernel
theorem dX5_sum_100 : decode cX5_sum 100 = .ok (.if_icmp .eq 13, 3) := by decide +kernel
theorem dX5_sum_103 : decode cX5_sum 103 = .ok (.aload_n 0, 1) := by decide +kernel
theorem dX5_sum_104 : decode cX5_sum 104 = .ok (.getfield 16, 3) := by decide +kernel
theorem dX5_sum_107 : decode cX5_sum 107 = .ok (.iload_n 2, 1) := by decide +kernel
theorem dX5_sum_108 : decode cX5_sum 108 = .ok (.iconst 0, 1) := by decide +kernel
theorem dX5_sum_109 : decode cX5_sum 109 = .ok (.invokevirtual 66, 3) := by decide +kernel
theorem dX5_sum_112 : decode cX5_sum 112 = .ok (.pop, 1) := by decide +kernel
theorem dX5_sum_113 : decode cX5_sum 113 = .ok (.aload_n 0, 1) := by decide +kernel
theorem dX5_sum_114 : decode cX5_sum 114 = .ok (.invokevirtual 70, 3) := by decide +kernel
theorem dX5_sum_117 : decode cX5_sum 117 = .ok (.istore_n 2, 1) := by decide +kernel
theorem dX5_sum_118 : decode cX5_sum 118 = .ok (.iload_n 2, 1) := by decide +kernel
theorem dX5_sum_119 : decode cX5_sum 119 = .ok (.bipush 43, 2) := by decide +kernel
theorem dX5_sum_121 : decode cX5_sum 121 = .ok (.if_icmp .eq 11, 3) := by decide +kernel
theorem dX5_sum_124 : decode cX5_sum 124 = .ok (.iload_n 2, 1) := by decide +kernel
theorem dX5_sum_125 : decode cX5_sum 125 = .ok (.bipush 45, 2) := by decide +kernel
theorem dX5_sum_127 : decode cX5_sum 127 = .ok (.if_icmp .eq 5, 3) := by decide +kernel
theorem dX5_sum_130 : decode cX5_sum 130 = .ok (.iconst 1, 1) := by decide +kernel
theorem dX5_sum_131 : decode cX5_sum 131 = .ok (.ireturn, 1) := by decide +kernel
theorem dX5_sum_132 : decode cX5_sum 132 = .ok (.aload_n 0, 1) := by decide +kernel
theorem dX5_sum_133 : decode cX5_sum 133 = .ok (.dup, 1) := by decide +kernel
theorem dX5_sum_134 : decode cX5_sum 134 = .ok (.getfield 27, 3) := by decide +kernel
theorem dX5_sum_137 : decode cX5_sum 137 = .ok (.iconst 1, 1) := by decide +kernel
theorem dX5_sum_138 : decode cX5_sum 138 = .ok (.iadd, 1) := by decide +kernel
theorem dX5_sum_139 : decode cX5_sum 139 = .ok (.putfield 27, 3) := by decide +kernel
theorem dX5_sum_142 : decode cX5_sum 142 = .ok (.iinc 3 1, 3) := by decide +kernel
theorem dX5_sum_145 : decode cX5_sum 145 = .ok (.goto (-141), 3) := by decide +kernel
theorem dX5_sum_148 : decode cX5_sum 148 = .ok (.aload_n 0, 1) := by decide +kernel
theorem dX5_sum_149 : decode cX5_sum 149 = .ok (.invokevirtual 74, 3) := by decide +kernel
theorem dX5_sum_152 : decode cX5_sum 152 = .ok (.ireturn, 1) := by decide +kernel
theorem dX5_wholeSum_0 : decode cX5_wholeSum 0 = .ok (.aload_n 0, 1) := by decide +kernel
theorem dX5_wholeSum_1 : decode cX5_wholeSum 1 = .ok (.getfield 16, 3) := by decide +kernel
theorem dX5_wholeSum_4 : decode cX5_wholeSum 4 = .ok (.iload_n 1, 1) := by decide +kernel
theorem dX5_wholeSum_5 : decode cX5_wholeSum 5 = .ok (.aload_n 0, 1) := by decide +kernel
theorem dX5_wholeSum_6 : decode cX5_wholeSum 6 = .ok (.getfield 16, 3) := by decide +kernel
theorem dX5_wholeSum_9 : decode cX5_wholeSum 9 = .ok (.getfield 55, 3) := by decide +kernel
theorem dX5_wholeSum_12 : decode cX5_wholeSum 12 = .ok (.invokevirtual 58, 3) := by decide +kernel
theorem dX5_wholeSum_15 : decode cX5_wholeSum 15 = .ok (.aload_n 0, 1) := by decide +kernel
theorem dX5_wholeSum_16 : decode cX5_wholeSum 16 = .ok (.iconst 0, 1) := by decide +kernel
theorem dX5_wholeSum_17 : decode cX5_wholeSum 17 = .ok (.invokevirtual 87, 3) := by decide +kernel
theorem dX5_wholeSum_20 : decode cX5_wholeSum 20 = .ok (.ifCond .ne 5, 3) := by decide +kernel
theorem dX5_wholeSum_23 : decode cX5_wholeSum 23 = .ok (.iconst 0, 1) := by decide +kernel
theorem dX5_wholeSum_24 : decode cX5_wholeSum 24 = .ok (.ireturn, 1) := by decide +kernel
theorem dX5_wholeSum_25 : decode cX5_wholeSum 25 = .ok (.aload_n 0, 1) := by decide +kernel
theorem dX5_wholeSum_26 : decode cX5_wholeSum 26 = .ok (.getfield 16, 3) := by decide +kernel
theorem dX5_wholeSum_29 : decode cX5_wholeSum 29 = .ok (.iconst 5, 1) := by decide +kernel
theorem dX5_wholeSum_30 : decode cX5_wholeSum 30 = .ok (.iconst 0, 1) := by decide +kernel
theorem dX5_wholeSum_31 : decode cX5_wholeSum 31 = .ok (.invokevirtual 66, 3) := by decide +kernel
theorem dX5_wholeSum_34 : decode cX5_wholeSum 34 = .ok (.pop, 1) := by decide +kernel
theorem dX5_wholeSum_35 : decode cX5_wholeSum 35 = .ok (.iconst 1, 1) := by decide +kernel
theorem dX5_wholeSum_36 : decode cX5_wholeSum 36 = .ok (.ireturn, 1) := by decide +kernel
theorem dX5_orderClause_0 : decode cX5_orderClause 0 = .ok (.aload_n 0, 1) := by decide +kernel
theorem dX5_orderClause_1 : decode cX5_orderClause 1 = .ok (.invokevirtual 70, 3) := by decide +kernel
theorem dX5_orderClause_4 : decode cX5_orderClause 4 = .ok (.sipush 300, 3) := by decide +kernel
theorem dX5_orderClause_7 : decode cX5_orderClause 7 = .ok (.isub, 1) := by decide +kernel
theorem dX5_orderClause_8 : decode cX5_orderClause 8 = .ok (.istore_n 1, 1) := by decide +kernel
theorem dX5_orderClause_9 : decode cX5_orderClause 9 = .ok (.iload_n 1, 1) := by decide +kernel
theorem dX5_orderClause_10 : decode cX5_orderClause 10 = .ok (.ifCond .lt 9, 3) := by decide +kernel
theorem dX5_orderClause_13 : decode cX5_orderClause 13 = .ok (.iload_n 1, 1) := by decide +kernel
theorem dX5_orderClause_14 : decode cX5_orderClause 14 = .ok (.bipush 7, 2) := by decide +kernel
theorem dX5_orderClause_16 : decode cX5_orderClause 16 = .ok (.if_icmp .le 8, 3) := by decide +kernel
theorem dX5_orderClause_19 : decode cX5_orderClause 19 = .ok (.aload_n 0, 1) := by decide +kernel
theorem dX5_orderClause_20 : decode cX5_orderClause 20 = .ok (.invokevirtual 74, 3) := by decide +kernel
theorem dX5_orderClause_23 : decode cX5_orderClause 23 = .ok (.ireturn, 1) := by decide +kernel
theorem dX5_orderClause_24 : decode cX5_orderClause 24 = .ok (.aload_n 0, 1) := by decide +kernel
theorem dX5_orderClause_25 : decode cX5_orderClause 25 = .ok (.dup, 1) := by decide +kernel
theorem dX5_orderClause_26 : decode cX5_orderClause 26 = .ok (.getfield 27, 3) := by decide +kernel
theorem dX5_orderClause_29 : decode cX5_orderClause 29 = .ok (.iconst 1, 1) := by decide +kernel
theorem dX5_orderClause_30 : decode cX5_orderClause 30 = .ok (.iadd, 1) := by decide +kernel
theorem dX5_orderClause_31 : decode cX5_orderClause 31 = .ok (.putfield 27, 3) := by decide +kernel
theorem dX5_orderClause_34 : decode cX5_orderClause 34 = .ok (.aload_n 0, 1) := by decide +kernel
theorem dX5_orderClause_35 : decode cX5_orderClause 35 = .ok (.getfield 16, 3) := by decide +kernel
theorem dX5_orderClause_38 : decode cX5_orderClause 38 = .ok (.iload_n 1, 1) := by decide +kernel
theorem dX5_orderClause_39 : decode cX5_orderClause 39 = .ok (.invokevirtual 77, 3) := by decide +kernel
theorem dX5_orderClause_42 : decode cX5_orderClause 42 = .ok (.iload_n 1, 1) := by decide +kernel
theorem dX5_orderClause_43 : decode cX5_orderClause 43 = .ok (.bipush 7, 2) := by decide +kernel
theorem dX5_orderClause_45 : decode cX5_orderClause 45 = .ok (.if_icmp .eq 13, 3) := by decide +kernel
theorem dX5_orderClause_48 : decode cX5_orderClause 48 = .ok (.aload_n 0, 1) := by decide +kernel
theorem dX5_orderClause_49 : decode cX5_orderClause 49 = .ok (.iconst 1, 1) := by decide +kernel
theorem dX5_orderClause_50 : decode cX5_orderClause 50 = .ok (.invokevirtual 81, 3) := by decide +kernel
theorem dX5_orderClause_53 : decode cX5_orderClause 53 = .ok (.ifCond .ne 5, 3) := by decide +kernel
theorem dX5_orderClause_56 : decode cX5_orderClause 56 = .ok (.iconst 0, 1) := by decide +kernel
theorem dX5_orderClause_57 : decode cX5_orderClause 57 = .ok (.ireturn, 1) := by decide +kernel
theorem dX5_orderClause_58 : decode cX5_orderClause 58 = .ok (.iload_n 1, 1) := by decide +kernel
theorem dX5_orderClause_59 : decode cX5_orderClause 59 = .ok (.ifCond .ne 28, 3) := by decide +kernel
theorem dX5_orderClause_62 : decode cX5_orderClause 62 = .ok (.aload_n 0, 1) := by decide +kernel
theorem dX5_orderClause_63 : decode cX5_orderClause 63 = .ok (.sipush 260, 3) := by decide +kernel
theorem dX5_orderClause_66 : decode cX5_orderClause 66 = .ok (.invokevirtual 51, 3) := by decide +kernel
theorem dX5_orderClause_69 : decode cX5_orderClause 69 = .ok (.ifCond .ne 8, 3) := by decide +kernel
theorem dX5_orderClause_72 : decode cX5_orderClause 72 = .ok (.aload_n 0, 1) := by decide +kernel
theorem dX5_orderClause_73 : decode cX5_orderClause 73 = .ok (.invokevirtual 74, 3) := by decide +kernel
theorem dX5_orderClause_76 : decode cX5_orderClause 76 = .ok (.ireturn, 1) := by decide +kernel
theorem dX5_orderClause_77 : decode cX5_orderClause 77 = .ok (.aload_n 0, 1) := by decide +kernel
theorem dX5_orderClause_78 : decode cX5_orderClause 78 = .ok (.iconst 2, 1) := by decide +kernel
theorem dX5_orderClause_79 : decode cX5_orderClause 79 = .ok (.invokevirtual 81, 3) := by decide +kernel
theorem dX5_orderClause_82 : decode cX5_orderClause 82 = .ok (.ifCond .ne 5, 3) := by decide +kernel
theorem dX5_orderClause_85 : decode cX5_orderClause 85 = .ok (.iconst 0, 1) := by decide +kernel
theorem dX5_orderClause_86 : decode cX5_orderClause 86 = .ok (.ireturn, 1) := by decide +kernel
theorem dX5_orderClause_87 : decode cX5_orderClause 87 = .ok (.aload_n 0, 1) := by decide +kernel
theorem dX5_orderClause_88 : decode cX5_orderClause 88 = .ok (.sipush 261, 3) := by decide +kernel
theorem dX5_orderClause_91 : decode cX5_orderClause 91 = .ok (.invokevirtual 51, 3) := by decide +kernel
theorem dX5_orderClause_94 : decode cX5_orderClause 94 = .ok (.ifCond .eq 40, 3) := by decide +kernel
theorem dX5_orderClause_97 : decode cX5_orderClause 97 = .ok (.aload_n 0, 1) := by decide +kernel
theorem dX5_orderClause_98 : decode cX5_orderClause 98 = .ok (.iconst 1, 1) := by decide +kernel
theorem dX5_orderClause_99 : decode cX5_orderClause 99 = .ok (.bipush 20, 2) := by decide +kernel
theorem dX5_orderClause_101 : decode cX5_orderClause 101 = .ok (.invokevirtual 84, 3) := by decide +kernel
theorem dX5_orderClause_104 : decode cX5_orderClause 104 = .ok (.istore_n 2, 1) := by decide +kernel
theorem dX5_orderClause_105 : decode cX5_orderClause 105 = .ok (.iload_n 2, 1) := by decide +kernel
theorem dX5_orderClause_106 : decode cX5_orderClause 106 = .ok (.iconst (-1), 1) := by decide +kernel
theorem dX5_orderClause_107 : decode cX5_orderClause 107 = .ok (.if_icmp .ne 8, 3) := by decide +kernel
theorem dX5_orderClause_110 : decode cX5_orderClause 110 = .ok (.aload_n 0, 1) := by decide +kernel
theorem dX5_orderClause_111 : decode cX5_orderClause 111 = .ok (.invokevirtual 74, 3) := by decide +kernel
theorem dX5_orderClause_114 : decode cX5_orderClause 114 = .ok (.ireturn, 1) := by decide +kernel
theorem dX5_orderClause_115 : decode cX5_orderClause 115 = .ok (.aload_n 0, 1) := by decide +kernel
theorem dX5_orderClause_116 : decode cX5_orderClause 116 = .ok (.getfield 16, 3) := by decide +kernel
theorem dX5_orderClause_119 : decode cX5_orderClause 119 = .ok (.iconst 3, 1) := by decide +kernel
theorem dX5_orderClause_120 : decode cX5_orderClause 120 = .ok (.iload_n 2, 1) := by decide +kernel
theorem dX5_orderClause_121 : decode cX5_orderClause 121 = .ok (.invokevirtual 58, 3) := by decide +kernel
theorem dX5_orderClause_124 : decode cX5_orderClause 124 = .ok (.aload_n 0, 1) := by decide +kernel
theorem dX5_orderClause_125 : decode cX5_orderClause 125 = .ok (.dup, 1) := by decide +kernel
theorem dX5_orderClause_126 : decode cX5_orderClause 126 = .ok (.getfield 27, 3) := by decide +kernel
theorem dX5_orderClause_129 : decode cX5_orderClause 129 = .ok (.iconst 1, 1) := by decide +kernel
theorem dX5_orderClause_130 : decode cX5_orderClause 130 = .ok (.iadd, 1) := by decide +kernel
theorem dX5_orderClause_131 : decode cX5_orderClause 131 = .ok (.putfield 27, 3) := by decide +kernel
theorem dX5_orderClause_134 : decode cX5_orderClause 134 = .ok (.iconst 1, 1) := by decide +kernel
theorem dX5_orderClause_135 : decode cX5_orderClause 135 = .ok (.ireturn, 1) := by decide +kernel
theorem dX5_lawClause_0 : decode cX5_lawClause 0 = .ok (.aload_n 0, 1) := by decide +kernel
theorem dX5_lawClause_1 : decode cX5_lawClause 1 = .ok (.sipush 263, 3) := by decide +kernel
theorem dX5_lawClause_4 : decode cX5_lawClause 4 = .ok (.invokevirtual 51, 3) := by decide +kernel
theorem dX5_lawClause_7 : decode cX5_lawClause 7 = .ok (.ifCond .eq 13, 3) := by decide +kernel
theorem dX5_lawClause_10 : decode cX5_lawClause 10 = .ok (.aload_n 0, 1) := by decide +kernel
theorem dX5_lawClause_11 : decode cX5_lawClause 11 = .ok (.getfield 16, 3) := by decide +kernel
theorem dX5_lawClause_14 : decode cX5_lawClause 14 = .ok (.iconst 1, 1) := by decide +kernel
theorem dX5_lawClause_15 : decode cX5_lawClause 15 = .ok (.invokevirtual 77, 3) := by decide +kernel
theorem dX5_lawClause_18 : decode cX5_lawClause 18 = .ok (.iconst 1, 1) := by decide +kernel
theorem dX5_lawClause_19 : decode cX5_lawClause 19 = .ok (.ireturn, 1) := by decide +kernel
theorem dX5_lawClause_20 : decode cX5_lawClause 20 = .ok (.aload_n 0, 1) := by decide +kernel
theorem dX5_lawClause_21 : decode cX5_lawClause 21 = .ok (.sipush 262, 3) := by decide +kernel
theorem dX5_lawClause_24 : decode cX5_lawClause 24 = .ok (.invokevirtual 51, 3) := by decide +kernel
theorem dX5_lawClause_27 : decode cX5_lawClause 27 = .ok (.ifCond .ne 8, 3) := by decide +kernel
theorem dX5_lawClause_30 : decode cX5_lawClause 30 = .ok (.aload_n 0, 1) := by decide +kernel
theorem dX5_lawClause_31 : decode cX5_lawClause 31 = .ok (.invokevirtual 74, 3) := by decide +kernel
theorem dX5_lawClause_34 : decode cX5_lawClause 34 = .ok (.ireturn, 1) := by decide +kernel
theorem dX5_lawClause_35 : decode cX5_lawClause 35 = .ok (.aload_n 0, 1) := by decide +kernel
theorem dX5_lawClause_36 : decode cX5_lawClause 36 = .ok (.getfield 16, 3) := by decide +kernel
theorem dX5_lawClause_39 : decode cX5_lawClause 39 = .ok (.iconst 0, 1) := by decide +kernel
theorem dX5_lawClause_40 : decode cX5_lawClause 40 = .ok (.invokevirtual 77, 3) := by decide +kernel
theorem dX5_lawClause_43 : decode cX5_lawClause 43 = .ok (.aload_n 0, 1) := by decide +kernel
theorem dX5_lawClause_44 : decode cX5_lawClause 44 = .ok (.iconst 1, 1) := by decide +kernel
theorem dX5_lawClause_45 : decode cX5_lawClause 45 = .ok (.invokevirtual 81, 3) := by decide +kernel
theorem dX5_lawClause_48 : decode cX5_lawClause 48 = .ok (.ireturn, 1) := by decide +kernel
theorem dX5_plain_0 : decode cX5_plain 0 = .ok (.iconst 0, 1) := by decide +kernel
theorem dX5_plain_1 : decode cX5_plain 1 = .ok (.istore_n 2, 1) := by decide +kernel
theorem dX5_plain_2 : decode cX5_plain 2 = .ok (.iconst 0, 1) := by decide +kernel
theorem dX5_plain_3 : decode cX5_plain 3 = .ok (.istore_n 3, 1) := by decide +kernel
theorem dX5_plain_4 : decode cX5_plain 4 = .ok (.iload_n 3, 1) := by decide +kernel
theorem dX5_plain_5 : decode cX5_plain 5 = .ok (.sipush 400, 3) := by decide +kernel
theorem dX5_plain_8 : decode cX5_plain 8 = .ok (.if_icmp .ge 29, 3) := by decide +kernel
theorem dX5_plain_11 : decode cX5_plain 11 = .ok (.aload_n 0, 1) := by decide +kernel
theorem dX5_plain_12 : decode cX5_plain 12 = .ok (.sipush 259, 3) := by decide +kernel
theorem dX5_plain_15 : decode cX5_plain 15 = .ok (.invokevirtual 51, 3) := by decide +kernel
theorem dX5_plain_18 : decode cX5_plain 18 = .ok (.ifCond .eq 19, 3) := by decide +kernel
theorem dX5_plain_21 : decode cX5_plain 21 = .ok (.iload_n 2, 1) := by decide +kernel
theorem dX5_plain_22 : decode cX5_plain 22 = .ok (.ifCond .ne 7, 3) := by decide +kernel
theorem dX5_plain_25 : decode cX5_plain 25 = .ok (.iconst 1, 1) := by decide +kernel
theorem dX5_plain_26 : decode cX5_plain 26 = .ok (.goto 4, 3) := by decide +kernel
theorem dX5_plain_29 : decode cX5_plain 29 = .ok (.iconst 0, 1) := by decide +kernel
theorem dX5_plain_30 : decode cX5_plain 30 = .ok (.istore_n 2, 1) := by decide +kernel
theorem dX5_plain_31 : decode cX5_plain 31 = .ok (.iinc 3 1, 3) := by decide +kernel
theorem dX5_plain_34 : decode cX5_plain 34 = .ok (.goto (-30), 3) := by decide +kernel
theorem dX5_plain_37 : decode cX5_plain 37 = .ok (.aload_n 0, 1) := by decide +kernel
theorem dX5_plain_38 : decode cX5_plain 38 = .ok (.invokevirtual 70, 3) := by decide +kernel
theorem dX5_plain_41 : decode cX5_plain 41 = .ok (.bipush 40, 2) := by decide +kernel
theorem dX5_plain_43 : decode cX5_plain 43 = .ok (.if_icmp .ne 50, 3) := by decide +kernel
theorem dX5_plain_46 : decode cX5_plain 46 = .ok (.iload_n 1, 1) := by decide +kernel
theorem dX5_plain_47 : decode cX5_plain 47 = .ok (.bipush 8, 2) := by decide +kernel
theorem dX5_plain_49 : decode cX5_plain 49 = .ok (.if_icmp .lt 8, 3) := by decide +kernel
theorem dX5_plain_52 : decode cX5_plain 52 = .ok (.aload_n 0, 1) := by decide +kernel
theorem dX5_plain_53 : decode cX5_plain 53 = .ok (.invokevirtual 74, 3) := by decide +kernel
theorem dX5_plain_56 : decode cX5_plain 56 = .ok (.ireturn, 1) := by decide +kernel
theorem dX5_plain_57 : decode cX5_plain 57 = .ok (.aload_n 0, 1) := by decide +kernel
theorem dX5_plain_58 : decode cX5_plain 58 = .ok (.dup, 1) := by decide +kernel
theorem dX5_plain_59 : decode cX5_plain 59 = .ok (.getfield 27, 3) := by decide +kernel
theorem dX5_plain_62 : decode cX5_plain 62 = .ok (.iconst 1, 1) := by decide +kernel
theorem dX5_plain_63 : decode cX5_plain 63 = .ok (.iadd, 1) := by decide +kernel
theorem dX5_plain_64 : decode cX5_plain 64 = .ok (.putfield 27, 3) := by decide +kernel
theorem dX5_plain_67 : decode cX5_plain 67 = .ok (.aload_n 0, 1) := by decide +kernel
theorem dX5_plain_68 : decode cX5_plain 68 = .ok (.iload_n 1, 1) := by decide +kernel
theorem dX5_plain_69 : decode cX5_plain 69 = .ok (.iconst 1, 1) := by decide +kernel
theorem dX5_plain_70 : decode cX5_plain 70 = .ok (.iadd, 1) := by decide +kernel
theorem dX5_plain_71 : decode cX5_plain 71 = .ok (.invokevirtual 61, 3) := by decide +kernel
theorem dX5_plain_74 : decode cX5_plain 74 = .ok (.ifCond .ne 5, 3) := by decide +kernel
theorem dX5_plain_77 : decode cX5_plain 77 = .ok (.iconst 0, 1) := by decide +kernel
theorem dX5_plain_78 : decode cX5_plain 78 = .ok (.ireturn, 1) := by decide +kernel
theorem dX5_plain_79 : decode cX5_plain 79 = .ok (.aload_n 0, 1) := by decide +kernel
theorem dX5_plain_80 : decode cX5_plain 80 = .ok (.bipush 41, 2) := by decide +kernel
theorem dX5_plain_82 : decode cX5_plain 82 = .ok (.invokevirtual 51, 3) := by decide +kernel
theorem dX5_plain_85 : decode cX5_plain 85 = .ok (.ifCond .ne 76, 3) := by decide +kernel
theorem dX5_plain_88 : decode cX5_plain 88 = .ok (.aload_n 0, 1) := by decide +kernel
theorem dX5_plain_89 : decode cX5_plain 89 = .ok (.invokevirtual 74, 3) := by decide +kernel
theorem dX5_plain_92 : decode cX5_plain 92 = .ok (.ireturn, 1) := by decide +kernel
theorem dX5_plain_93 : decode cX5_plain 93 = .ok (.aload_n 0, 1) := by decide +kernel
theorem dX5_plain_94 : decode cX5_plain 94 = .ok (.iload_n 1, 1) := by decide +kernel
theorem dX5_plain_95 : decode cX5_plain 95 = .ok (.invokevirtual 87, 3) := by decide +kernel
theorem dX5_plain_98 : decode cX5_plain 98 = .ok (.ifCond .ne 5, 3) := by decide +kernel
theorem dX5_plain_101 : decode cX5_plain 101 = .ok (.iconst 0, 1) := by decide +kernel
theorem dX5_plain_102 : decode cX5_plain 102 = .ok (.ireturn, 1) := by decide +kernel
theorem dX5_plain_103 : decode cX5_plain 103 = .ok (.aload_n 0, 1) := by decide +kernel
theorem dX5_plain_104 : decode cX5_plain 104 = .ok (.invokevirtual 70, 3) := by decide +kernel
theorem dX5_plain_107 : decode cX5_plain 107 = .ok (.istore_n 3, 1) := by decide +kernel
theorem dX5_plain_108 : decode cX5_plain 108 = .ok (.iload_n 3, 1) := by decide +kernel
theorem dX5_plain_109 : decode cX5_plain 109 = .ok (.bipush 60, 2) := by decide +kernel
theorem dX5_plain_111 : decode cX5_plain 111 = .ok (.if_icmp .eq 20, 3) := by decide +kernel
theorem dX5_plain_114 : decode cX5_plain 114 = .ok (.iload_n 3, 1) := by decide +kernel
theorem dX5_plain_115 : decode cX5_plain 115 = .ok (.bipush 62, 2) := by decide +kernel
theorem dX5_plain_117 : decode cX5_plain 117 = .ok (.if_icmp .eq 14, 3) := by decide +kernel
theorem dX5_plain_120 : decode cX5_plain 120 = .ok (.iload_n 3, 1) := by decide +kernel
theorem dX5_plain_121 : decode cX5_plain 121 = .ok (.bipush 61, 2) := by decide +kernel
theorem dX5_plain_123 : decode cX5_plain 123 = .ok (.if_icmp .eq 8, 3) := by decide +kernel
theorem dX5_plain_126 : decode cX5_plain 126 = .ok (.aload_n 0, 1) := by decide +kernel
theorem dX5_plain_127 : decode cX5_plain 127 = .ok (.invokevirtual 74, 3) := by decide +kernel
theorem dX5_plain_130 : decode cX5_plain 130 = .ok (.ireturn, 1) := by decide +kernel
theorem dX5_plain_131 : decode cX5_plain 131 = .ok (.aload_n 0, 1) := by decide +kernel
theorem dX5_plain_132 : decode cX5_plain 132 = .ok (.dup, 1) := by decide +kernel
theorem dX5_plain_133 : decode cX5_plain 133 = .ok (.getfield 27, 3) := by decide +kernel
theorem dX5_plain_136 : decode cX5_plain 136 = .ok (.iconst 1, 1) := by decide +kernel
theorem dX5_plain_137 : decode cX5_plain 137 = .ok (.iadd, 1) := by decide +kernel
theorem dX5_plain_138 : decode cX5_plain 138 = .ok (.putfield 27, 3) := by decide +kernel
theorem dX5_plain_141 : decode cX5_plain 141 = .ok (.aload_n 0, 1) := by decide +kernel
theorem dX5_plain_142 : decode cX5_plain 142 = .ok (.iload_n 1, 1) := by decide +kernel
theorem dX5_plain_143 : decode cX5_plain 143 = .ok (.invokevirtual 87, 3) := by decide +kernel
theorem dX5_plain_146 : decode cX5_plain 146 = .ok (.ifCond .ne 5, 3) := by decide +kernel
theorem dX5_plain_149 : decode cX5_plain 149 = .ok (.iconst 0, 1) := by decide +kernel
theorem dX5_plain_150 : decode cX5_plain 150 = .ok (.ireturn, 1) := by decide +kernel
theorem dX5_plain_151 : decode cX5_plain 151 = .ok (.aload_n 0, 1) := by decide +kernel
theorem dX5_plain_152 : decode cX5_plain 152 = .ok (.getfield 16, 3) := by decide +kernel
theorem dX5_plain_155 : decode cX5_plain 155 = .ok (.iload_n 3, 1) := by decide +kernel
theorem dX5_plain_156 : decode cX5_plain 156 = .ok (.iconst 0, 1) := by decide +kernel
theorem dX5_plain_157 : decode cX5_plain 157 = .ok (.invokevirtual 66, 3) := by decide +kernel
theorem dX5_plain_160 : decode cX5_plain 160 = .ok (.pop, 1) := by decide +kernel
theorem dX5_plain_161 : decode cX5_plain 161 = .ok (.iload_n 2, 1) := by decide +kernel
theorem dX5_plain_162 : decode cX5_plain 162 = .ok (.ifCond .eq 13, 3) := by decide +kernel
theorem dX5_plain_165 : decode cX5_plain 165 = .ok (.aload_n 0, 1) := by decide +kernel
theorem dX5_plain_166 : decode cX5_plain 166 = .ok (.getfield 16, 3) := by decide +kernel
theorem dX5_plain_169 : decode cX5_plain 169 = .ok (.iconst 2, 1) := by decide +kernel
theorem dX5_plain_170 : decode cX5_plain 170 = .ok (.iconst 0, 1) := by decide +kernel
theorem dX5_plain_171 : decode cX5_plain 171 = .ok (.invokevirtual 66, 3) := by decide +kernel
theorem dX5_plain_174 : decode cX5_plain 174 = .ok (.pop, 1) := by decide +kernel
theorem dX5_plain_175 : decode cX5_plain 175 = .ok (.iconst 1, 1) := by decide +kernel
theorem dX5_plain_176 : decode cX5_plain 176 = .ok (.ireturn, 1) := by decide +kernel
theorem dX8_landHere_0 : decode cX8_landHere 0 = .ok (.iload_n 1, 1) := by decide +kernel
theorem dX8_landHere_1 : decode cX8_landHere 1 = .ok (.ifCond .lt 22, 3) := by decide +kernel
theorem dX8_landHere_4 : decode cX8_landHere 4 = .ok (.iload_n 1, 1) := by decide +kernel
theorem dX8_landHere_5 : decode cX8_landHere 5 = .ok (.aload_n 0, 1) := by decide +kernel
theorem dX8_landHere_6 : decode cX8_landHere 6 = .ok (.getfield 28, 3) := by decide +kernel
theorem dX8_landHere_9 : decode cX8_landHere 9 = .ok (.arraylength, 1) := by decide +kernel
theorem dX8_landHere_10 : decode cX8_landHere 10 = .ok (.if_icmp .ge 13, 3) := by decide +kernel
theorem dX8_landHere_13 : decode cX8_landHere 13 = .ok (.aload_n 0, 1) := by decide +kernel
theorem dX8_landHere_14 : decode cX8_landHere 14 = .ok (.getfield 28, 3) := by decide +kernel
theorem dX8_landHere_17 : decode cX8_landHere 17 = .ok (.iload_n 1, 1) := by decide +kernel
theorem dX8_landHere_18 : decode cX8_landHere 18 = .ok (.aload_n 0, 1) := by decide +kernel
theorem dX8_landHere_19 : decode cX8_landHere 19 = .ok (.getfield 9, 3) := by decide +kernel
theorem dX8_landHere_22 : decode cX8_landHere 22 = .ok (.iastore, 1) := by decide +kernel
theorem dX8_landHere_23 : decode cX8_landHere 23 = .ok (.return_, 1) := by decide +kernel
theorem dX5_test_0 : decode cX5_test 0 = .ok (.iconst (-1), 1) := by decide +kernel
theorem dX5_test_1 : decode cX5_test 1 = .ok (.istore_n 2, 1) := by decide +kernel
theorem dX5_test_2 : decode cX5_test 2 = .ok (.iconst 0, 1) := by decide +kernel
theorem dX5_test_3 : decode cX5_test 3 = .ok (.istore_n 3, 1) := by decide +kernel
theorem dX5_test_4 : decode cX5_test 4 = .ok (.iload_n 3, 1) := by decide +kernel
theorem dX5_test_5 : decode cX5_test 5 = .ok (.sipush 400, 3) := by decide +kernel
theorem dX5_test_8 : decode cX5_test 8 = .ok (.if_icmp .ge 102, 3) := by decide +kernel
theorem dX5_test_11 : decode cX5_test 11 = .ok (.iconst (-1), 1) := by decide +kernel
theorem dX5_test_12 : decode cX5_test 12 = .ok (.istore 4, 2) := by decide +kernel
theorem dX5_test_14 : decode cX5_test 14 = .ok (.iconst 0, 1) := by decide +kernel
theorem dX5_test_15 : decode cX5_test 15 = .ok (.istore 5, 2) := by decide +kernel
theorem dX5_test_17 : decode cX5_test 17 = .ok (.iload 5, 2) := by decide +kernel
theorem dX5_test_19 : decode cX5_test 19 = .ok (.sipush 400, 3) := by decide +kernel
theorem dX5_test_22 : decode cX5_test 22 = .ok (.if_icmp .ge 52, 3) := by decide +kernel
theorem dX5_test_25 : decode cX5_test 25 = .ok (.aload_n 0, 1) := by decide +kernel
theorem dX5_test_26 : decode cX5_test 26 = .ok (.iload_n 1, 1) := by decide +kernel
theorem dX5_test_27 : decode cX5_test 27 = .ok (.invokevirtual 90, 3) := by decide +kernel
theorem dX5_test_30 : decode cX5_test 30 = .ok (.ifCond .ne 5, 3) := by decide +kernel
theorem dX5_test_33 : decode cX5_test 33 = .ok (.iconst 0, 1) := by decide +kernel
theorem dX5_test_34 : decode cX5_test 34 = .ok (.ireturn, 1) := by decide +kernel
theorem dX5_test_35 : decode cX5_test 35 = .ok (.aload_n 0, 1) := by decide +kernel
theorem dX5_test_36 : decode cX5_test 36 = .ok (.getfield 16, 3) := by decide +kernel
theorem dX5_test_39 : decode cX5_test 39 = .ok (.iload 4, 2) := by decide +kernel
theorem dX5_test_41 : decode cX5_test 41 = .ok (.invokevirtual 93, 3) := by decide +kernel
theorem dX5_test_44 : decode cX5_test 44 = .ok (.aload_n 0, 1) := by decide +kernel
theorem dX5_test_45 : decode cX5_test 45 = .ok (.sipush 258, 3) := by decide +kernel
theorem dX5_test_48 : decode cX5_test 48 = .ok (.invokevirtual 51, 3) := by decide +kernel
theorem dX5_test_51 : decode cX5_test 51 = .ok (.ifCond .ne 6, 3) := by decide +kernel
theorem dX5_test_54 : decode cX5_test 54 = .ok (.goto 20, 3) := by decide +kernel
theorem dX5_test_57 : decode cX5_test 57 = .ok (.aload_n 0, 1) := by decide +kernel
theorem dX5_test_58 : decode cX5_test 58 = .ok (.getfield 16, 3) := by decide +kernel
theorem dX5_test_61 : decode cX5_test 61 = .ok (.iconst 4, 1) := by decide +kernel
theorem dX5_test_62 : decode cX5_test 62 = .ok (.iconst 0, 1) := by decide +kernel
theorem dX5_test_63 : decode cX5_test 63 = .ok (.invokevirtual 66, 3) := by decide +kernel
theorem dX5_test_66 : decode cX5_test 66 = .ok (.istore 4, 2) := by decide +kernel
theorem dX5_test_68 : decode cX5_test 68 = .ok (.iinc 5 1, 3) := by decide +kernel
theorem dX5_test_71 : decode cX5_test 71 = .ok (.goto (-54), 3) := by decide +kernel
theorem dX5_test_74 : decode cX5_test 74 = .ok (.aload_n 0, 1) := by decide +kernel
theorem dX5_test_75 : decode cX5_test 75 = .ok (.getfield 16, 3) := by decide +kernel
theorem dX5_test_78 : decode cX5_test 78 = .ok (.iload_n 2, 1) := by decide +kernel
theorem dX5_test_79 : decode cX5_test 79 = .ok (.invokevirtual 93, 3) := by decide +kernel
theorem dX5_test_82 : decode cX5_test 82 = .ok (.aload_n 0, 1) := by decide +kernel
theorem dX5_test_83 : decode cX5_test 83 = .ok (.sipush 257, 3) := by decide +kernel
theorem dX5_test_86 : decode cX5_test 86 = .ok (.invokevirtual 51, 3) := by decide +kernel
theorem dX5_test_89 : decode cX5_test 89 = .ok (.ifCond .ne 5, 3) := by decide +kernel
theorem dX5_test_92 : decode cX5_test 92 = .ok (.iconst 1, 1) := by decide +kernel
theorem dX5_test_93 : decode cX5_test 93 = .ok (.ireturn, 1) := by decide +kernel
theorem dX5_test_94 : decode cX5_test 94 = .ok (.aload_n 0, 1) := by decide +kernel
theorem dX5_test_95 : decode cX5_test 95 = .ok (.getfield 16, 3) := by decide +kernel
theorem dX5_test_98 : decode cX5_test 98 = .ok (.iconst 3, 1) := by decide +kernel
theorem dX5_test_99 : decode cX5_test 99 = .ok (.iconst 0, 1) := by decide +kernel
theorem dX5_test_100 : decode cX5_test 100 = .ok (.invokevirtual 66, 3) := by decide +kernel
theorem dX5_test_103 : decode cX5_test 103 = .ok (.istore_n 2, 1) := by decide +kernel
theorem dX5_test_104 : decode cX5_test 104 = .ok (.iinc 3 1, 3) := by decide +kernel
theorem dX5_test_107 : decode cX5_test 107 = .ok (.goto (-103), 3) := by decide +kernel
theorem dX5_test_110 : decode cX5_test 110 = .ok (.aload_n 0, 1) := by decide +kernel
theorem dX5_test_111 : decode cX5_test 111 = .ok (.invokevirtual 74, 3) := by decide +kernel
theorem dX5_test_114 : decode cX5_test 114 = .ok (.ireturn, 1) := by decide +kernel
theorem dX5_reads_0 : decode cX5_reads 0 = .ok (.aload_n 0, 1) := by decide +kernel
theorem dX5_reads_1 : decode cX5_reads 1 = .ok (.getfield 23, 3) := by decide +kernel
theorem dX5_reads_4 : decode cX5_reads 4 = .ok (.aload_n 1, 1) := by decide +kernel
theorem dX5_reads_5 : decode cX5_reads 5 = .ok (.iload_n 2, 1) := by decide +kernel
theorem dX5_reads_6 : decode cX5_reads 6 = .ok (.invokevirtual 37, 3) := by decide +kernel
theorem dX5_reads_9 : decode cX5_reads 9 = .ok (.aload_n 0, 1) := by decide +kernel
theorem dX5_reads_10 : decode cX5_reads 10 = .ok (.getfield 16, 3) := by decide +kernel
theorem dX5_reads_13 : decode cX5_reads 13 = .ok (.invokevirtual 41, 3) := by decide +kernel
theorem dX5_reads_16 : decode cX5_reads 16 = .ok (.aload_n 0, 1) := by decide +kernel
theorem dX5_reads_17 : decode cX5_reads 17 = .ok (.iconst 0, 1) := by decide +kernel
theorem dX5_reads_18 : decode cX5_reads 18 = .ok (.putfield 27, 3) := by decide +kernel
theorem dX5_reads_21 : decode cX5_reads 21 = .ok (.aload_n 0, 1) := by decide +kernel
theorem dX5_reads_22 : decode cX5_reads 22 = .ok (.iconst 0, 1) := by decide +kernel
theorem dX5_reads_23 : decode cX5_reads 23 = .ok (.putfield 31, 3) := by decide +kernel
theorem dX5_reads_26 : decode cX5_reads 26 = .ok (.aload_n 0, 1) := by decide +kernel
theorem dX5_reads_27 : decode cX5_reads 27 = .ok (.iconst (-1), 1) := by decide +kernel
theorem dX5_reads_28 : decode cX5_reads 28 = .ok (.putfield 34, 3) := by decide +kernel
theorem dX5_reads_31 : decode cX5_reads 31 = .ok (.iconst 0, 1) := by decide +kernel
theorem dX5_reads_32 : decode cX5_reads 32 = .ok (.istore_n 3, 1) := by decide +kernel
theorem dX5_reads_33 : decode cX5_reads 33 = .ok (.iload_n 3, 1) := by decide +kernel
theorem dX5_reads_34 : decode cX5_reads 34 = .ok (.bipush 12, 2) := by decide +kernel
theorem dX5_reads_36 : decode cX5_reads 36 = .ok (.if_icmp .ge 100, 3) := by decide +kernel
theorem dX5_reads_39 : decode cX5_reads 39 = .ok (.iload_n 2, 1) := by decide +kernel
theorem dX5_reads_40 : decode cX5_reads 40 = .ok (.ifCond .eq 13, 3) := by decide +kernel
theorem dX5_reads_43 : decode cX5_reads 43 = .ok (.aload_n 0, 1) := by decide +kernel
theorem dX5_reads_44 : decode cX5_reads 44 = .ok (.invokevirtual 44, 3) := by decide +kernel
theorem dX5_reads_47 : decode cX5_reads 47 = .ok (.ifCond .eq 13, 3) := by decide +kernel
theorem dX5_reads_50 : decode cX5_reads 50 = .ok (.goto 12, 3) := by decide +kernel
theorem dX5_reads_53 : decode cX5_reads 53 = .ok (.aload_n 0, 1) := by decide +kernel
theorem dX5_reads_54 : decode cX5_reads 54 = .ok (.invokevirtual 48, 3) := by decide +kernel
theorem dX5_reads_57 : decode cX5_reads 57 = .ok (.ifCond .ne 5, 3) := by decide +kernel
theorem dX5_reads_60 : decode cX5_reads 60 = .ok (.iconst 0, 1) := by decide +kernel
theorem dX5_reads_61 : decode cX5_reads 61 = .ok (.ireturn, 1) := by decide +kernel
theorem dX5_reads_62 : decode cX5_reads 62 = .ok (.aload_n 0, 1) := by decide +kernel
theorem dX5_reads_63 : decode cX5_reads 63 = .ok (.sipush 256, 3) := by decide +kernel
theorem dX5_reads_66 : decode cX5_reads 66 = .ok (.invokevirtual 51, 3) := by decide +kernel
theorem dX5_reads_69 : decode cX5_reads 69 = .ok (.ifCond .eq 38, 3) := by decide +kernel
theorem dX5_reads_72 : decode cX5_reads 72 = .ok (.aload_n 0, 1) := by decide +kernel
theorem dX5_reads_73 : decode cX5_reads 73 = .ok (.getfield 16, 3) := by decide +kernel
theorem dX5_reads_76 : decode cX5_reads 76 = .ok (.iconst 4, 1) := by decide +kernel
theorem dX5_reads_77 : decode cX5_reads 77 = .ok (.aload_n 0, 1) := by decide +kernel
theorem dX5_reads_78 : decode cX5_reads 78 = .ok (.getfield 16, 3) := by decide +kernel
theorem dX5_reads_81 : decode cX5_reads 81 = .ok (.getfield 55, 3) := by decide +kernel
theorem dX5_reads_84 : decode cX5_reads 84 = .ok (.invokevirtual 58, 3) := by decide +kernel
theorem dX5_reads_87 : decode cX5_reads 87 = .ok (.aload_n 0, 1) := by decide +kernel
theorem dX5_reads_88 : decode cX5_reads 88 = .ok (.iconst 0, 1) := by decide +kernel
theorem dX5_reads_89 : decode cX5_reads 89 = .ok (.invokevirtual 61, 3) := by decide +kernel
theorem dX5_reads_92 : decode cX5_reads 92 = .ok (.ifCond .ne 5, 3) := by decide +kernel
theorem dX5_reads_95 : decode cX5_reads 95 = .ok (.iconst 0, 1) := by decide +kernel
theorem dX5_reads_96 : decode cX5_reads 96 = .ok (.ireturn, 1) := by decide +kernel
theorem dX5_reads_97 : decode cX5_reads 97 = .ok (.aload_n 0, 1) := by decide +kernel
theorem dX5_reads_98 : decode cX5_reads 98 = .ok (.getfield 16, 3) := by decide +kernel
theorem dX5_reads_101 : decode cX5_reads 101 = .ok (.iconst 5, 1) := by decide +kernel
theorem dX5_reads_102 : decode cX5_reads 102 = .ok (.iconst 0, 1) := by decide +kernel
theorem dX5_reads_103 : decode cX5_reads 103 = .ok (.invokevirtual 66, 3) := by decide +kernel
theorem dX5_reads_106 : decode cX5_reads 106 = .ok (.pop, 1) := by decide +kernel
theorem dX5_reads_107 : decode cX5_reads 107 = .ok (.aload_n 0, 1) := by decide +kernel
theorem dX5_reads_108 : decode cX5_reads 108 = .ok (.invokevirtual 70, 3) := by decide +kernel
theorem dX5_reads_111 : decode cX5_reads 111 = .ok (.ifCond .ne 5, 3) := by decide +kernel
theorem dX5_reads_114 : decode cX5_reads 114 = .ok (.iconst 1, 1) := by decide +kernel
theorem dX5_reads_115 : decode cX5_reads 115 = .ok (.ireturn, 1) := by decide +kernel
theorem dX5_reads_116 : decode cX5_reads 116 = .ok (.aload_n 0, 1) := by decide +kernel
theorem dX5_reads_117 : decode cX5_reads 117 = .ok (.bipush 59, 2) := by decide +kernel
theorem dX5_reads_119 : decode cX5_reads 119 = .ok (.invokevirtual 51, 3) := by decide +kernel
theorem dX5_reads_122 : decode cX5_reads 122 = .ok (.ifCond .ne 8, 3) := by decide +kernel
theorem dX5_reads_125 : decode cX5_reads 125 = .ok (.aload_n 0, 1) := by decide +kernel
theorem dX5_reads_126 : decode cX5_reads 126 = .ok (.invokevirtual 74, 3) := by decide +kernel
theorem dX5_reads_129 : decode cX5_reads 129 = .ok (.ireturn, 1) := by decide +kernel
theorem dX5_reads_130 : decode cX5_reads 130 = .ok (.iinc 3 1, 3) := by decide +kernel
theorem dX5_reads_133 : decode cX5_reads 133 = .ok (.goto (-100), 3) := by decide +kernel
theorem dX5_reads_136 : decode cX5_reads 136 = .ok (.aload_n 0, 1) := by decide +kernel
theorem dX5_reads_137 : decode cX5_reads 137 = .ok (.invokevirtual 74, 3) := by decide +kernel
theorem dX5_reads_140 : decode cX5_reads 140 = .ok (.ireturn, 1) := by decide +kernel
theorem dX8_cutToSize_0 : decode cX8_cutToSize 0 = .ok (.new 10, 3) := by decide +kernel
theorem dX8_cutToSize_3 : decode cX8_cutToSize 3 = .ok (.dup, 1) := by decide +kernel
theorem dX8_cutToSize_4 : decode cX8_cutToSize 4 = .ok (.aload_n 0, 1) := by decide +kernel
theorem dX8_cutToSize_5 : decode cX8_cutToSize 5 = .ok (.getfield 9, 3) := by decide +kernel
theorem dX8_cutToSize_8 : decode cX8_cutToSize 8 = .ok (.aload_n 0, 1) := by decide +kernel
theorem dX8_cutToSize_9 : decode cX8_cutToSize 9 = .ok (.getfield 15, 3) := by decide +kernel
theorem dX8_cutToSize_12 : decode cX8_cutToSize 12 = .ok (.invokespecial 34, 3) := by decide +kernel
theorem dX8_cutToSize_15 : decode cX8_cutToSize 15 = .ok (.astore_n 1, 1) := by decide +kernel
theorem dX8_cutToSize_16 : decode cX8_cutToSize 16 = .ok (.aload_n 0, 1) := by decide +kernel
theorem dX8_cutToSize_17 : decode cX8_cutToSize 17 = .ok (.getfield 24, 3) := by decide +kernel
theorem dX8_cutToSize_20 : decode cX8_cutToSize 20 = .ok (.iconst 0, 1) := by decide +kernel
theorem dX8_cutToSize_21 : decode cX8_cutToSize 21 = .ok (.aload_n 1, 1) := by decide +kernel
theorem dX8_cutToSize_22 : decode cX8_cutToSize 22 = .ok (.getfield 24, 3) := by decide +kernel
theorem dX8_cutToSize_25 : decode cX8_cutToSize 25 = .ok (.iconst 0, 1) := by decide +kernel
theorem dX8_cutToSize_26 : decode cX8_cutToSize 26 = .ok (.aload_n 0, 1) := by decide +kernel
theorem dX8_cutToSize_27 : decode cX8_cutToSize 27 = .ok (.getfield 9, 3) := by decide +kernel
theorem dX8_cutToSize_30 : decode cX8_cutToSize 30 = .ok (.invokestatic 37, 3) := by decide +kernel
theorem dX8_cutToSize_33 : decode cX8_cutToSize 33 = .ok (.aload_n 0, 1) := by decide +kernel
theorem dX8_cutToSize_34 : decode cX8_cutToSize 34 = .ok (.getfield 28, 3) := by decide +kernel
theorem dX8_cutToSize_37 : decode cX8_cutToSize 37 = .ok (.iconst 0, 1) := by decide +kernel
theorem dX8_cutToSize_38 : decode cX8_cutToSize 38 = .ok (.aload_n 1, 1) := by decide +kernel
theorem dX8_cutToSize_39 : decode cX8_cutToSize 39 = .ok (.getfield 28, 3) := by decide +kernel
theorem dX8_cutToSize_42 : decode cX8_cutToSize 42 = .ok (.iconst 0, 1) := by decide +kernel
theorem dX8_cutToSize_43 : decode cX8_cutToSize 43 = .ok (.aload_n 0, 1) := by decide +kernel
theorem dX8_cutToSize_44 : decode cX8_cutToSize 44 = .ok (.getfield 9, 3) := by decide +kernel
theorem dX8_cutToSize_47 : decode cX8_cutToSize 47 = .ok (.invokestatic 37, 3) := by decide +kernel
theorem dX8_cutToSize_50 : decode cX8_cutToSize 50 = .ok (.aload_n 0, 1) := by decide +kernel
theorem dX8_cutToSize_51 : decode cX8_cutToSize 51 = .ok (.getfield 31, 3) := by decide +kernel
theorem dX8_cutToSize_54 : decode cX8_cutToSize 54 = .ok (.iconst 0, 1) := by decide +kernel
theorem dX8_cutToSize_55 : decode cX8_cutToSize 55 = .ok (.aload_n 1, 1) := by decide +kernel
theorem dX8_cutToSize_56 : decode cX8_cutToSize 56 = .ok (.getfield 31, 3) := by decide +kernel
theorem dX8_cutToSize_59 : decode cX8_cutToSize 59 = .ok (.iconst 0, 1) := by decide +kernel
theorem dX8_cutToSize_60 : decode cX8_cutToSize 60 = .ok (.iconst 5, 1) := by decide +kernel
theorem dX8_cutToSize_61 : decode cX8_cutToSize 61 = .ok (.aload_n 0, 1) := by decide +kernel
theorem dX8_cutToSize_62 : decode cX8_cutToSize 62 = .ok (.getfield 15, 3) := by decide +kernel
theorem dX8_cutToSize_65 : decode cX8_cutToSize 65 = .ok (.imul, 1) := by decide +kernel
theorem dX8_cutToSize_66 : decode cX8_cutToSize 66 = .ok (.invokestatic 37, 3) := by decide +kernel
theorem dX8_cutToSize_69 : decode cX8_cutToSize 69 = .ok (.aload_n 1, 1) := by decide +kernel
theorem dX8_cutToSize_70 : decode cX8_cutToSize 70 = .ok (.aload_n 0, 1) := by decide +kernel
theorem dX8_cutToSize_71 : decode cX8_cutToSize 71 = .ok (.getfield 9, 3) := by decide +kernel
theorem dX8_cutToSize_74 : decode cX8_cutToSize 74 = .ok (.putfield 9, 3) := by decide +kernel
theorem dX8_cutToSize_77 : decode cX8_cutToSize 77 = .ok (.aload_n 1, 1) := by decide +kernel
theorem dX8_cutToSize_78 : decode cX8_cutToSize 78 = .ok (.aload_n 0, 1) := by decide +kernel
theorem dX8_cutToSize_79 : decode cX8_cutToSize 79 = .ok (.getfield 15, 3) := by decide +kernel
theorem dX8_cutToSize_82 : decode cX8_cutToSize 82 = .ok (.putfield 15, 3) := by decide +kernel
theorem dX8_cutToSize_85 : decode cX8_cutToSize 85 = .ok (.aload_n 1, 1) := by decide +kernel
theorem dX8_cutToSize_86 : decode cX8_cutToSize 86 = .ok (.areturn, 1) := by decide +kernel
theorem dX6_addLaw_0 : decode cX6_addLaw 0 = .ok (.aload_n 0, 1) := by decide +kernel
theorem dX6_addLaw_1 : decode cX6_addLaw 1 = .ok (.getfield 17, 3) := by decide +kernel
theorem dX6_addLaw_4 : decode cX6_addLaw 4 = .ok (.bipush 6, 2) := by decide +kernel
theorem dX6_addLaw_6 : decode cX6_addLaw 6 = .ok (.if_icmp .lt 6, 3) := by decide +kernel
theorem dX6_addLaw_9 : decode cX6_addLaw 9 = .ok (.bipush (-5), 2) := by decide +kernel
theorem dX6_addLaw_11 : decode cX6_addLaw 11 = .ok (.ireturn, 1) := by decide +kernel
theorem dX6_addLaw_12 : decode cX6_addLaw 12 = .ok (.aload_n 0, 1) := by decide +kernel
theorem dX6_addLaw_13 : decode cX6_addLaw 13 = .ok (.getfield 11, 3) := by decide +kernel
theorem dX6_addLaw_16 : decode cX6_addLaw 16 = .ok (.aload_n 0, 1) := by decide +kernel
theorem dX6_addLaw_17 : decode cX6_addLaw 17 = .ok (.getfield 17, 3) := by decide +kernel
theorem dX6_addLaw_20 : decode cX6_addLaw 20 = .ok (.aload_n 1, 1) := by decide +kernel
theorem dX6_addLaw_21 : decode cX6_addLaw 21 = .ok (.aastore, 1) := by decide +kernel
theorem dX6_addLaw_22 : decode cX6_addLaw 22 = .ok (.aload_n 0, 1) := by decide +kernel
theorem dX6_addLaw_23 : decode cX6_addLaw 23 = .ok (.dup, 1) := by decide +kernel
theorem dX6_addLaw_24 : decode cX6_addLaw 24 = .ok (.getfield 17, 3) := by decide +kernel
theorem dX6_addLaw_27 : decode cX6_addLaw 27 = .ok (.iconst 1, 1) := by decide +kernel
theorem dX6_addLaw_28 : decode cX6_addLaw 28 = .ok (.iadd, 1) := by decide +kernel
theorem dX6_addLaw_29 : decode cX6_addLaw 29 = .ok (.putfield 17, 3) := by decide +kernel
theorem dX6_addLaw_32 : decode cX6_addLaw 32 = .ok (.aload_n 0, 1) := by decide +kernel
theorem dX6_addLaw_33 : decode cX6_addLaw 33 = .ok (.getfield 17, 3) := by decide +kernel
theorem dX6_addLaw_36 : decode cX6_addLaw 36 = .ok (.iconst 1, 1) := by decide +kernel
theorem dX6_addLaw_37 : decode cX6_addLaw 37 = .ok (.isub, 1) := by decide +kernel
theorem dX6_addLaw_38 : decode cX6_addLaw 38 = .ok (.ireturn, 1) := by decide +kernel
theorem dX11_law_0 : decode cX11_law 0 = .ok (.aload_n 0, 1) := by decide +kernel
theorem dX11_law_1 : decode cX11_law 1 = .ok (.getfield 31, 3) := by decide +kernel
theorem dX11_law_4 : decode cX11_law 4 = .ok (.getfield 224, 3) := by decide +kernel
theorem dX11_law_7 : decode cX11_law 7 = .ok (.bipush 6, 2) := by decide +kernel
theorem dX11_law_9 : decode cX11_law 9 = .ok (.if_icmp .lt 18, 3) := by decide +kernel
theorem dX11_law_12 : decode cX11_law 12 = .ok (.aload_n 0, 1) := by decide +kernel
theorem dX11_law_13 : decode cX11_law 13 = .ok (.getfield 65, 3) := by decide +kernel
theorem dX11_law_16 : decode cX11_law 16 = .ok (.iconst 0, 1) := by decide +kernel
theorem dX11_law_17 : decode cX11_law 17 = .ok (.putfield 210, 3) := by decide +kernel
theorem dX11_law_20 : decode cX11_law 20 = .ok (.aload_n 0, 1) := by decide +kernel
theorem dX11_law_21 : decode cX11_law 21 = .ok (.bipush (-5), 2) := by decide +kernel
theorem dX11_law_23 : decode cX11_law 23 = .ok (.invokevirtual 192, 3) := by decide +kernel
theorem dX11_law_26 : decode cX11_law 26 = .ok (.ireturn, 1) := by decide +kernel
theorem dX11_law_27 : decode cX11_law 27 = .ok (.aload_n 0, 1) := by decide +kernel
theorem dX11_law_28 : decode cX11_law 28 = .ok (.getfield 72, 3) := by decide +kernel
theorem dX11_law_31 : decode cX11_law 31 = .ok (.aload_n 0, 1) := by decide +kernel
theorem dX11_law_32 : decode cX11_law 32 = .ok (.getfield 65, 3) := by decide +kernel
theorem dX11_law_35 : decode cX11_law 35 = .ok (.iconst 0, 1) := by decide +kernel
theorem dX11_law_36 : decode cX11_law 36 = .ok (.invokevirtual 227, 3) := by decide +kernel
theorem dX11_law_39 : decode cX11_law 39 = .ok (.istore_n 1, 1) := by decide +kernel
theorem dX11_law_40 : decode cX11_law 40 = .ok (.aload_n 0, 1) := by decide +kernel
theorem dX11_law_41 : decode cX11_law 41 = .ok (.getfield 65, 3) := by decide +kernel
theorem dX11_law_44 : decode cX11_law 44 = .ok (.iconst 0, 1) := by decide +kernel
theorem dX11_law_45 : decode cX11_law 45 = .ok (.putfield 210, 3) := by decide +kernel
theorem dX11_law_48 : decode cX11_law 48 = .ok (.aload_n 0, 1) := by decide +kernel
theorem dX11_law_49 : decode cX11_law 49 = .ok (.aload_n 0, 1) := by decide +kernel
theorem dX11_law_50 : decode cX11_law 50 = .ok (.getfield 72, 3) := by decide +kernel
theorem dX11_law_53 : decode cX11_law 53 = .ok (.getfield 231, 3) := by decide +kernel
theorem dX11_law_56 : decode cX11_law 56 = .ok (.putfield 91, 3) := by decide +kernel
theorem dX11_law_59 : decode cX11_law 59 = .ok (.iload_n 1, 1) := by decide +kernel
theorem dX11_law_60 : decode cX11_law 60 = .ok (.ifCond .ne 10, 3) := by decide +kernel
theorem dX11_law_63 : decode cX11_law 63 = .ok (.aload_n 0, 1) := by decide +kernel
theorem dX11_law_64 : decode cX11_law 64 = .ok (.bipush (-6), 2) := by decide +kernel
theorem dX11_law_66 : decode cX11_law 66 = .ok (.invokevirtual 192, 3) := by decide +kernel
theorem dX11_law_69 : decode cX11_law 69 = .ok (.ireturn, 1) := by decide +kernel
theorem dX11_law_70 : decode cX11_law 70 = .ok (.aload_n 0, 1) := by decide +kernel
theorem dX11_law_71 : decode cX11_law 71 = .ok (.aload_n 0, 1) := by decide +kernel
theorem dX11_law_72 : decode cX11_law 72 = .ok (.getfield 31, 3) := by decide +kernel
theorem dX11_law_75 : decode cX11_law 75 = .ok (.aload_n 0, 1) := by decide +kernel
theorem dX11_law_76 : decode cX11_law 76 = .ok (.getfield 72, 3) := by decide +kernel
theorem dX11_law_79 : decode cX11_law 79 = .ok (.getfield 234, 3) := by decide +kernel
theorem dX11_law_82 : decode cX11_law 82 = .ok (.invokevirtual 238, 3) := by decide +kernel
theorem dX11_law_85 : decode cX11_law 85 = .ok (.invokevirtual 244, 3) := by decide +kernel
theorem dX11_law_88 : decode cX11_law 88 = .ok (.invokevirtual 192, 3) := by decide +kernel
theorem dX11_law_91 : decode cX11_law 91 = .ok (.ireturn, 1) := by decide +kernel
theorem dX0_copyFrom_0 : decode cX0_copyFrom 0 = .ok (.aload_n 1, 1) := by decide +kernel
theorem dX0_copyFrom_1 : decode cX0_copyFrom 1 = .ok (.getfield 9, 3) := by decide +kernel
theorem dX0_copyFrom_4 : decode cX0_copyFrom 4 = .ok (.iconst 0, 1) := by decide +kernel
theorem dX0_copyFrom_5 : decode cX0_copyFrom 5 = .ok (.aload_n 0, 1) := by decide +kernel
theorem dX0_copyFrom_6 : decode cX0_copyFrom 6 = .ok (.getfield 9, 3) := by decide +kernel
theorem dX0_copyFrom_9 : decode cX0_copyFrom 9 = .ok (.iconst 0, 1) := by decide +kernel
theorem dX0_copyFrom_10 : decode cX0_copyFrom 10 = .ok (.bipush 24, 2) := by decide +kernel
theorem dX0_copyFrom_12 : decode cX0_copyFrom 12 = .ok (.invokestatic 40, 3) := by decide +kernel
theorem dX0_copyFrom_15 : decode cX0_copyFrom 15 = .ok (.aload_n 1, 1) := by decide +kernel
theorem dX0_copyFrom_16 : decode cX0_copyFrom 16 = .ok (.getfield 15, 3) := by decide +kernel
theorem dX0_copyFrom_19 : decode cX0_copyFrom 19 = .ok (.iconst 0, 1) := by decide +kernel
theorem dX0_copyFrom_20 : decode cX0_copyFrom 20 = .ok (.aload_n 0, 1) := by decide +kernel
theorem dX0_copyFrom_21 : decode cX0_copyFrom 21 = .ok (.getfield 15, 3) := by decide +kernel
theorem dX0_copyFrom_24 : decode cX0_copyFrom 24 = .ok (.iconst 0, 1) := by decide +kernel
theorem dX0_copyFrom_25 : decode cX0_copyFrom 25 = .ok (.bipush 24, 2) := by decide +kernel
theorem dX0_copyFrom_27 : decode cX0_copyFrom 27 = .ok (.invokestatic 40, 3) := by decide +kernel
theorem dX0_copyFrom_30 : decode cX0_copyFrom 30 = .ok (.aload_n 1, 1) := by decide +kernel
theorem dX0_copyFrom_31 : decode cX0_copyFrom 31 = .ok (.getfield 18, 3) := by decide +kernel
theorem dX0_copyFrom_34 : decode cX0_copyFrom 34 = .ok (.iconst 0, 1) := by decide +kernel
theorem dX0_copyFrom_35 : decode cX0_copyFrom 35 = .ok (.aload_n 0, 1) := by decide +kernel
theorem dX0_copyFrom_36 : decode cX0_copyFrom 36 = .ok (.getfield 18, 3) := by decide +kernel
theorem dX0_copyFrom_39 : decode cX0_copyFrom 39 = .ok (.iconst 0, 1) := by decide +kernel
theorem dX0_copyFrom_40 : decode cX0_copyFrom 40 = .ok (.bipush 24, 2) := by decide +kernel
theorem dX0_copyFrom_42 : decode cX0_copyFrom 42 = .ok (.invokestatic 40, 3) := by decide +kernel
theorem dX0_copyFrom_45 : decode cX0_copyFrom 45 = .ok (.aload_n 1, 1) := by decide +kernel
theorem dX0_copyFrom_46 : decode cX0_copyFrom 46 = .ok (.getfield 21, 3) := by decide +kernel
theorem dX0_copyFrom_49 : decode cX0_copyFrom 49 = .ok (.iconst 0, 1) := by decide +kernel
theorem dX0_copyFrom_50 : decode cX0_copyFrom 50 = .ok (.aload_n 0, 1) := by decide +kernel
theorem dX0_copyFrom_51 : decode cX0_copyFrom 51 = .ok (.getfield 21, 3) := by decide +kernel
theorem dX0_copyFrom_54 : decode cX0_copyFrom 54 = .ok (.iconst 0, 1) := by decide +kernel
theorem dX0_copyFrom_55 : decode cX0_copyFrom 55 = .ok (.bipush 24, 2) := by decide +kernel
theorem dX0_copyFrom_57 : decode cX0_copyFrom 57 = .ok (.invokestatic 40, 3) := by decide +kernel
theorem dX0_copyFrom_60 : decode cX0_copyFrom 60 = .ok (.aload_n 1, 1) := by decide +kernel
theorem dX0_copyFrom_61 : decode cX0_copyFrom 61 = .ok (.getfield 24, 3) := by decide +kernel
theorem dX0_copyFrom_64 : decode cX0_copyFrom 64 = .ok (.iconst 0, 1) := by decide +kernel
theorem dX0_copyFrom_65 : decode cX0_copyFrom 65 = .ok (.aload_n 0, 1) := by decide +kernel
theorem dX0_copyFrom_66 : decode cX0_copyFrom 66 = .ok (.getfield 24, 3) := by decide +kernel
theorem dX0_copyFrom_69 : decode cX0_copyFrom 69 = .ok (.iconst 0, 1) := by decide +kernel
theorem dX0_copyFrom_70 : decode cX0_copyFrom 70 = .ok (.bipush 24, 2) := by decide +kernel
theorem dX0_copyFrom_72 : decode cX0_copyFrom 72 = .ok (.invokestatic 40, 3) := by decide +kernel
theorem dX0_copyFrom_75 : decode cX0_copyFrom 75 = .ok (.aload_n 1, 1) := by decide +kernel
theorem dX0_copyFrom_76 : decode cX0_copyFrom 76 = .ok (.getfield 27, 3) := by decide +kernel
theorem dX0_copyFrom_79 : decode cX0_copyFrom 79 = .ok (.iconst 0, 1) := by decide +kernel
theorem dX0_copyFrom_80 : decode cX0_copyFrom 80 = .ok (.aload_n 0, 1) := by decide +kernel
theorem dX0_copyFrom_81 : decode cX0_copyFrom 81 = .ok (.getfield 27, 3) := by decide +kernel
theorem dX0_copyFrom_84 : decode cX0_copyFrom 84 = .ok (.iconst 0, 1) := by decide +kernel
theorem dX0_copyFrom_85 : decode cX0_copyFrom 85 = .ok (.bipush 24, 2) := by decide +kernel
theorem dX0_copyFrom_87 : decode cX0_copyFrom 87 = .ok (.invokestatic 40, 3) := by decide +kernel
theorem dX0_copyFrom_90 : decode cX0_copyFrom 90 = .ok (.aload_n 0, 1) := by decide +kernel
theorem dX0_copyFrom_91 : decode cX0_copyFrom 91 = .ok (.aload_n 1, 1) := by decide +kernel
theorem dX0_copyFrom_92 : decode cX0_copyFrom 92 = .ok (.getfield 30, 3) := by decide +kernel
theorem dX0_copyFrom_95 : decode cX0_copyFrom 95 = .ok (.putfield 30, 3) := by decide +kernel
theorem dX0_copyFrom_98 : decode cX0_copyFrom 98 = .ok (.aload_n 0, 1) := by decide +kernel
theorem dX0_copyFrom_99 : decode cX0_copyFrom 99 = .ok (.aload_n 1, 1) := by decide +kernel
theorem dX0_copyFrom_100 : decode cX0_copyFrom 100 = .ok (.getfield 34, 3) := by decide +kernel
theorem dX0_copyFrom_103 : decode cX0_copyFrom 103 = .ok (.putfield 34, 3) := by decide +kernel
theorem dX0_copyFrom_106 : decode cX0_copyFrom 106 = .ok (.aload_n 0, 1) := by decide +kernel
theorem dX0_copyFrom_107 : decode cX0_copyFrom 107 = .ok (.aload_n 1, 1) := by decide +kernel
theorem dX0_copyFrom_108 : decode cX0_copyFrom 108 = .ok (.getfield 37, 3) := by decide +kernel
theorem dX0_copyFrom_111 : decode cX0_copyFrom 111 = .ok (.putfield 37, 3) := by decide +kernel
theorem dX0_copyFrom_114 : decode cX0_copyFrom 114 = .ok (.return_, 1) := by decide +kernel
theorem dX10_copyFrom_0 : decode cX10_copyFrom 0 = .ok (.aload_n 0, 1) := by decide +kernel
theorem dX10_copyFrom_1 : decode cX10_copyFrom 1 = .ok (.getfield 12, 3) := by decide +kernel
theorem dX10_copyFrom_4 : decode cX10_copyFrom 4 = .ok (.aload_n 1, 1) := by decide +kernel
theorem dX10_copyFrom_5 : decode cX10_copyFrom 5 = .ok (.getfield 12, 3) := by decide +kernel
theorem dX10_copyFrom_8 : decode cX10_copyFrom 8 = .ok (.invokevirtual 48, 3) := by decide +kernel
theorem dX10_copyFrom_11 : decode cX10_copyFrom 11 = .ok (.aload_n 1, 1) := by decide +kernel
theorem dX10_copyFrom_12 : decode cX10_copyFrom 12 = .ok (.getfield 18, 3) := by decide +kernel
theorem dX10_copyFrom_15 : decode cX10_copyFrom 15 = .ok (.iconst 0, 1) := by decide +kernel
theorem dX10_copyFrom_16 : decode cX10_copyFrom 16 = .ok (.aload_n 0, 1) := by decide +kernel
theorem dX10_copyFrom_17 : decode cX10_copyFrom 17 = .ok (.getfield 18, 3) := by decide +kernel
theorem dX10_copyFrom_20 : decode cX10_copyFrom 20 = .ok (.iconst 0, 1) := by decide +kernel
theorem dX10_copyFrom_21 : decode cX10_copyFrom 21 = .ok (.bipush 8, 2) := by decide +kernel
theorem dX10_copyFrom_23 : decode cX10_copyFrom 23 = .ok (.invokestatic 52, 3) := by decide +kernel
theorem dX10_copyFrom_26 : decode cX10_copyFrom 26 = .ok (.aload_n 1, 1) := by decide +kernel
theorem dX10_copyFrom_27 : decode cX10_copyFrom 27 = .ok (.getfield 22, 3) := by decide +kernel
theorem dX10_copyFrom_30 : decode cX10_copyFrom 30 = .ok (.iconst 0, 1) := by decide +kernel
theorem dX10_copyFrom_31 : decode cX10_copyFrom 31 = .ok (.aload_n 0, 1) := by decide +kernel
theorem dX10_copyFrom_32 : decode cX10_copyFrom 32 = .ok (.getfield 22, 3) := by decide +kernel
theorem dX10_copyFrom_35 : decode cX10_copyFrom 35 = .ok (.iconst 0, 1) := by decide +kernel
theorem dX10_copyFrom_36 : decode cX10_copyFrom 36 = .ok (.bipush 8, 2) := by decide +kernel
theorem dX10_copyFrom_38 : decode cX10_copyFrom 38 = .ok (.invokestatic 52, 3) := by decide +kernel
theorem dX10_copyFrom_41 : decode cX10_copyFrom 41 = .ok (.aload_n 0, 1) := by decide +kernel
theorem dX10_copyFrom_42 : decode cX10_copyFrom 42 = .ok (.aload_n 1, 1) := by decide +kernel
theorem dX10_copyFrom_43 : decode cX10_copyFrom 43 = .ok (.getfield 25, 3) := by decide +kernel
theorem dX10_copyFrom_46 : decode cX10_copyFrom 46 = .ok (.putfield 25, 3) := by decide +kernel
theorem dX10_copyFrom_49 : decode cX10_copyFrom 49 = .ok (.aload_n 0, 1) := by decide +kernel
theorem dX10_copyFrom_50 : decode cX10_copyFrom 50 = .ok (.aload_n 1, 1) := by decide +kernel
theorem dX10_copyFrom_51 : decode cX10_copyFrom 51 = .ok (.getfield 29, 3) := by decide +kernel
theorem dX10_copyFrom_54 : decode cX10_copyFrom 54 = .ok (.putfield 29, 3) := by decide +kernel
theorem dX10_copyFrom_57 : decode cX10_copyFrom 57 = .ok (.aload_n 0, 1) := by decide +kernel
theorem dX10_copyFrom_58 : decode cX10_copyFrom 58 = .ok (.aload_n 1, 1) := by decide +kernel
theorem dX10_copyFrom_59 : decode cX10_copyFrom 59 = .ok (.getfield 32, 3) := by decide +kernel
theorem dX10_copyFrom_62 : decode cX10_copyFrom 62 = .ok (.putfield 32, 3) := by decide +kernel
theorem dX10_copyFrom_65 : decode cX10_copyFrom 65 = .ok (.aload_n 0, 1) := by decide +kernel
theorem dX10_copyFrom_66 : decode cX10_copyFrom 66 = .ok (.aload_n 1, 1) := by decide +kernel
theorem dX10_copyFrom_67 : decode cX10_copyFrom 67 = .ok (.getfield 35, 3) := by decide +kernel
theorem dX10_copyFrom_70 : decode cX10_copyFrom 70 = .ok (.putfield 35, 3) := by decide +kernel
theorem dX10_copyFrom_73 : decode cX10_copyFrom 73 = .ok (.aload_n 0, 1) := by decide +kernel
theorem dX10_copyFrom_74 : decode cX10_copyFrom 74 = .ok (.aload_n 1, 1) := by decide +kernel
theorem dX10_copyFrom_75 : decode cX10_copyFrom 75 = .ok (.getfield 39, 3) := by decide +kernel
theorem dX10_copyFrom_78 : decode cX10_copyFrom 78 = .ok (.putfield 39, 3) := by decide +kernel
theorem dX10_copyFrom_81 : decode cX10_copyFrom 81 = .ok (.aload_n 0, 1) := by decide +kernel
theorem dX10_copyFrom_82 : decode cX10_copyFrom 82 = .ok (.aload_n 1, 1) := by decide +kernel
theorem dX10_copyFrom_83 : decode cX10_copyFrom 83 = .ok (.getfield 42, 3) := by decide +kernel
theorem dX10_copyFrom_86 : decode cX10_copyFrom 86 = .ok (.putfield 42, 3) := by decide +kernel
theorem dX10_copyFrom_89 : decode cX10_copyFrom 89 = .ok (.aload_n 0, 1) := by decide +kernel
theorem dX10_copyFrom_90 : decode cX10_copyFrom 90 = .ok (.aload_n 1, 1) := by decide +kernel
theorem dX10_copyFrom_91 : decode cX10_copyFrom 91 = .ok (.getfield 45, 3) := by decide +kernel
theorem dX10_copyFrom_94 : decode cX10_copyFrom 94 = .ok (.putfield 45, 3) := by decide +kernel
theorem dX10_copyFrom_97 : decode cX10_copyFrom 97 = .ok (.return_, 1) := by decide +kernel
theorem dJ9_floorMod_7cf53_0 : decode cJ9_floorMod_7cf53 0 = .ok (.iload_n 0, 1) := by decide +kernel
theorem dJ9_floorMod_7cf53_1 : decode cJ9_floorMod_7cf53 1 = .ok (.iload_n 1, 1) := by decide +kernel
theorem dJ9_floorMod_7cf53_2 : decode cJ9_floorMod_7cf53 2 = .ok (.irem, 1) := by decide +kernel
theorem dJ9_floorMod_7cf53_3 : decode cJ9_floorMod_7cf53 3 = .ok (.istore_n 2, 1) := by decide +kernel
theorem dJ9_floorMod_7cf53_4 : decode cJ9_floorMod_7cf53 4 = .ok (.iload_n 0, 1) := by decide +kernel
theorem dJ9_floorMod_7cf53_5 : decode cJ9_floorMod_7cf53 5 = .ok (.iload_n 1, 1) := by decide +kernel
theorem dJ9_floorMod_7cf53_6 : decode cJ9_floorMod_7cf53 6 = .ok (.ixor, 1) := by decide +kernel
theorem dJ9_floorMod_7cf53_7 : decode cJ9_floorMod_7cf53 7 = .ok (.ifCond .ge 11, 3) := by decide +kernel
theorem dJ9_floorMod_7cf53_10 : decode cJ9_floorMod_7cf53 10 = .ok (.iload_n 2, 1) := by decide +kernel
theorem dJ9_floorMod_7cf53_11 : decode cJ9_floorMod_7cf53 11 = .ok (.ifCond .eq 7, 3) := by decide +kernel
theorem dJ9_floorMod_7cf53_14 : decode cJ9_floorMod_7cf53 14 = .ok (.iload_n 2, 1) := by decide +kernel
theorem dJ9_floorMod_7cf53_15 : decode cJ9_floorMod_7cf53 15 = .ok (.iload_n 1, 1) := by decide +kernel
theorem dJ9_floorMod_7cf53_16 : decode cJ9_floorMod_7cf53 16 = .ok (.iadd, 1) := by decide +kernel
theorem dJ9_floorMod_7cf53_17 : decode cJ9_floorMod_7cf53 17 = .ok (.ireturn, 1) := by decide +kernel
theorem dJ9_floorMod_7cf53_18 : decode cJ9_floorMod_7cf53 18 = .ok (.iload_n 2, 1) := by decide +kernel
theorem dJ9_floorMod_7cf53_19 : decode cJ9_floorMod_7cf53 19 = .ok (.ireturn, 1) := by decide +kernel
theorem dX2_slotOf_0 : decode cX2_slotOf 0 = .ok (.aload_n 0, 1) := by decide +kernel
theorem dX2_slotOf_1 : decode cX2_slotOf 1 = .ok (.getfield 21, 3) := by decide +kernel
theorem dX2_slotOf_4 : decode cX2_slotOf 4 = .ok (.iload_n 1, 1) := by decide +kernel
theorem dX2_slotOf_5 : decode cX2_slotOf 5 = .ok (.iadd, 1) := by decide +kernel
theorem dX2_slotOf_6 : decode cX2_slotOf 6 = .ok (.bipush 17, 2) := by decide +kernel
theorem dX2_slotOf_8 : decode cX2_slotOf 8 = .ok (.invokestatic 37, 3) := by decide +kernel
theorem dX2_slotOf_11 : decode cX2_slotOf 11 = .ok (.ireturn, 1) := by decide +kernel
theorem dX2_copyFrom_0 : decode cX2_copyFrom 0 = .ok (.aload_n 0, 1) := by decide +kernel
theorem dX2_copyFrom_1 : decode cX2_copyFrom 1 = .ok (.aload_n 1, 1) := by decide +kernel
theorem dX2_copyFrom_2 : decode cX2_copyFrom 2 = .ok (.getfield 21, 3) := by decide +kernel
theorem dX2_copyFrom_5 : decode cX2_copyFrom 5 = .ok (.putfield 21, 3) := by decide +kernel
theorem dX2_copyFrom_8 : decode cX2_copyFrom 8 = .ok (.aload_n 0, 1) := by decide +kernel
theorem dX2_copyFrom_9 : decode cX2_copyFrom 9 = .ok (.aload_n 1, 1) := by decide +kernel
theorem dX2_copyFrom_10 : decode cX2_copyFrom 10 = .ok (.getfield 25, 3) := by decide +kernel
theorem dX2_copyFrom_13 : decode cX2_copyFrom 13 = .ok (.putfield 25, 3) := by decide +kernel
theorem dX2_copyFrom_16 : decode cX2_copyFrom 16 = .ok (.iconst 0, 1) := by decide +kernel
theorem dX2_copyFrom_17 : decode cX2_copyFrom 17 = .ok (.istore_n 2, 1) := by decide +kernel
theorem dX2_copyFrom_18 : decode cX2_copyFrom 18 = .ok (.iload_n 2, 1) := by decide +kernel
theorem dX2_copyFrom_19 : decode cX2_copyFrom 19 = .ok (.aload_n 0, 1) := by decide +kernel
theorem dX2_copyFrom_20 : decode cX2_copyFrom 20 = .ok (.getfield 25, 3) := by decide +kernel
theorem dX2_copyFrom_23 : decode cX2_copyFrom 23 = .ok (.if_icmp .ge 42, 3) := by decide +kernel
theorem dX2_copyFrom_26 : decode cX2_copyFrom 26 = .ok (.aload_n 0, 1) := by decide +kernel
theorem dX2_copyFrom_27 : decode cX2_copyFrom 27 = .ok (.iload_n 2, 1) := by decide +kernel
theorem dX2_copyFrom_28 : decode cX2_copyFrom 28 = .ok (.invokevirtual 29, 3) := by decide +kernel
theorem dX2_copyFrom_31 : decode cX2_copyFrom 31 = .ok (.istore_n 3, 1) := by decide +kernel
theorem dX2_copyFrom_32 : decode cX2_copyFrom 32 = .ok (.aload_n 0, 1) := by decide +kernel
theorem dX2_copyFrom_33 : decode cX2_copyFrom 33 = .ok (.getfield 13, 3) := by decide +kernel
theorem dX2_copyFrom_36 : decode cX2_copyFrom 36 = .ok (.iload_n 3, 1) := by decide +kernel
theorem dX2_copyFrom_37 : decode cX2_copyFrom 37 = .ok (.aaload, 1) := by decide +kernel
theorem dX2_copyFrom_38 : decode cX2_copyFrom 38 = .ok (.aload_n 1, 1) := by decide +kernel
theorem dX2_copyFrom_39 : decode cX2_copyFrom 39 = .ok (.getfield 13, 3) := by decide +kernel
theorem dX2_copyFrom_42 : decode cX2_copyFrom 42 = .ok (.iload_n 3, 1) := by decide +kernel
theorem dX2_copyFrom_43 : decode cX2_copyFrom 43 = .ok (.aaload, 1) := by decide +kernel
theorem dX2_copyFrom_44 : decode cX2_copyFrom 44 = .ok (.invokevirtual 33, 3) := by decide +kernel
theorem dX2_copyFrom_47 : decode cX2_copyFrom 47 = .ok (.aload_n 0, 1) := by decide +kernel
theorem dX2_copyFrom_48 : decode cX2_copyFrom 48 = .ok (.getfield 17, 3) := by decide +kernel
theorem dX2_copyFrom_51 : decode cX2_copyFrom 51 = .ok (.iload_n 3, 1) := by decide +kernel
theorem dX2_copyFrom_52 : decode cX2_copyFrom 52 = .ok (.aload_n 1, 1) := by decide +kernel
theorem dX2_copyFrom_53 : decode cX2_copyFrom 53 = .ok (.getfield 17, 3) := by decide +kernel
theorem dX2_copyFrom_56 : decode cX2_copyFrom 56 = .ok (.iload_n 3, 1) := by decide +kernel
theorem dX2_copyFrom_57 : decode cX2_copyFrom 57 = .ok (.iaload, 1) := by decide +kernel
theorem dX2_copyFrom_58 : decode cX2_copyFrom 58 = .ok (.iastore, 1) := by decide +kernel
theorem dX2_copyFrom_59 : decode cX2_copyFrom 59 = .ok (.iinc 2 1, 3) := by decide +kernel
theorem dX2_copyFrom_62 : decode cX2_copyFrom 62 = .ok (.goto (-44), 3) := by decide +kernel
theorem dX2_copyFrom_65 : decode cX2_copyFrom 65 = .ok (.return_, 1) := by decide +kernel
theorem dX0_tellValues_0 : decode cX0_tellValues 0 = .ok (.iload_n 2, 1) := by decide +kernel
theorem dX0_tellValues_1 : decode cX0_tellValues 1 = .ok (.ifCond .lt 12, 3) := by decide +kernel
theorem dX0_tellValues_4 : decode cX0_tellValues 4 = .ok (.iload_n 2, 1) := by decide +kernel
theorem dX0_tellValues_5 : decode cX0_tellValues 5 = .ok (.bipush 100, 2) := by decide +kernel
theorem dX0_tellValues_7 : decode cX0_tellValues 7 = .ok (.iadd, 1) := by decide +kernel
theorem dX0_tellValues_8 : decode cX0_tellValues 8 = .ok (.aload_n 1, 1) := by decide +kernel
theorem dX0_tellValues_9 : decode cX0_tellValues 9 = .ok (.arraylength, 1) := by decide +kernel
theorem dX0_tellValues_10 : decode cX0_tellValues 10 = .ok (.if_icmp .le 4, 3) := by decide +kernel
theorem dX0_tellValues_13 : decode cX0_tellValues 13 = .ok (.return_, 1) := by decide +kernel
theorem dX0_tellValues_14 : decode cX0_tellValues 14 = .ok (.iconst 0, 1) := by decide +kernel
theorem dX0_tellValues_15 : decode cX0_tellValues 15 = .ok (.istore_n 3, 1) := by decide +kernel
theorem dX0_tellValues_16 : decode cX0_tellValues 16 = .ok (.iload_n 3, 1) := by decide +kernel
theorem dX0_tellValues_17 : decode cX0_tellValues 17 = .ok (.bipush 100, 2) := by decide +kernel
theorem dX0_tellValues_19 : decode cX0_tellValues 19 = .ok (.if_icmp .ge 15, 3) := by decide +kernel
theorem dX0_tellValues_22 : decode cX0_tellValues 22 = .ok (.aload_n 1, 1) := by decide +kernel
theorem dX0_tellValues_23 : decode cX0_tellValues 23 = .ok (.iload_n 2, 1) := by decide +kernel
theorem dX0_tellValues_24 : decode cX0_tellValues 24 = .ok (.iload_n 3, 1) := by decide +kernel
theorem dX0_tellValues_25 : decode cX0_tellValues 25 = .ok (.iadd, 1) := by decide +kernel
theorem dX0_tellValues_26 : decode cX0_tellValues 26 = .ok (.iconst (-1), 1) := by decide +kernel
theorem dX0_tellValues_27 : decode cX0_tellValues 27 = .ok (.iastore, 1) := by decide +kernel
theorem dX0_tellValues_28 : decode cX0_tellValues 28 = .ok (.iinc 3 1, 3) := by decide +kernel
theorem dX0_tellValues_31 : decode cX0_tellValues 31 = .ok (.goto (-15), 3) := by decide +kernel
theorem dX0_tellValues_34 : decode cX0_tellValues 34 = .ok (.aload_n 0, 1) := by decide +kernel
theorem dX0_tellValues_35 : decode cX0_tellValues 35 = .ok (.getfield 30, 3) := by decide +kernel
theorem dX0_tellValues_38 : decode cX0_tellValues 38 = .ok (.istore_n 3, 1) := by decide +kernel
theorem dX0_tellValues_39 : decode cX0_tellValues 39 = .ok (.iconst 0, 1) := by decide +kernel
theorem dX0_tellValues_40 : decode cX0_tellValues 40 = .ok (.istore 4, 2) := by decide +kernel
theorem dX0_tellValues_42 : decode cX0_tellValues 42 = .ok (.iload 4, 2) := by decide +kernel
theorem dX0_tellValues_44 : decode cX0_tellValues 44 = .ok (.bipush 24, 2) := by decide +kernel
theorem dX0_tellValues_46 : decode cX0_tellValues 46 = .ok (.if_icmp .ge 59, 3) := by decide +kernel
theorem dX0_tellValues_49 : decode cX0_tellValues 49 = .ok (.iload_n 3, 1) := by decide +kernel
theorem dX0_tellValues_50 : decode cX0_tellValues 50 = .ok (.invokestatic 46, 3) := by decide +kernel
theorem dX0_tellValues_53 : decode cX0_tellValues 53 = .ok (.ifCond .eq 52, 3) := by decide +kernel
theorem dX0_tellValues_56 : decode cX0_tellValues 56 = .ok (.aload_n 0, 1) := by decide +kernel
theorem dX0_tellValues_57 : decode cX0_tellValues 57 = .ok (.getfield 15, 3) := by decide +kernel
theorem dX0_tellValues_60 : decode cX0_tellValues 60 = .ok (.iload_n 3, 1) := by decide +kernel
theorem dX0_tellValues_61 : decode cX0_tellValues 61 = .ok (.iaload, 1) := by decide +kernel
theorem dX0_tellValues_62 : decode cX0_tellValues 62 = .ok (.ifCond .lt 30, 3) := by decide +kernel
theorem dX0_tellValues_65 : decode cX0_tellValues 65 = .ok (.aload_n 0, 1) := by decide +kernel
theorem dX0_tellValues_66 : decode cX0_tellValues 66 = .ok (.getfield 15, 3) := by decide +kernel
theorem dX0_tellValues_69 : decode cX0_tellValues 69 = .ok (.iload_n 3, 1) := by decide +kernel
theorem dX0_tellValues_70 : decode cX0_tellValues 70 = .ok (.iaload, 1) := by decide +kernel
theorem dX0_tellValues_71 : decode cX0_tellValues 71 = .ok (.bipush 100, 2) := by decide +kernel
theorem dX0_tellValues_73 : decode cX0_tellValues 73 = .ok (.if_icmp .ge 19, 3) := by decide +kernel
theorem dX0_tellValues_76 : decode cX0_tellValues 76 = .ok (.aload_n 1, 1) := by decide +kernel
theorem dX0_tellValues_77 : decode cX0_tellValues 77 = .ok (.iload_n 2, 1) := by decide +kernel
theorem dX0_tellValues_78 : decode cX0_tellValues 78 = .ok (.aload_n 0, 1) := by decide +kernel
theorem dX0_tellValues_79 : decode cX0_tellValues 79 = .ok (.getfield 15, 3) := by decide +kernel
theorem dX0_tellValues_82 : decode cX0_tellValues 82 = .ok (.iload_n 3, 1) := by decide +kernel
theorem dX0_tellValues_83 : decode cX0_tellValues 83 = .ok (.iaload, 1) := by decide +kernel
theorem dX0_tellValues_84 : decode cX0_tellValues 84 = .ok (.iadd, 1) := by decide +kernel
theorem dX0_tellValues_85 : decode cX0_tellValues 85 = .ok (.aload_n 0, 1) := by decide +kernel
theorem dX0_tellValues_86 : decode cX0_tellValues 86 = .ok (.getfield 18, 3) := by decide +kernel
theorem dX0_tellValues_89 : decode cX0_tellValues 89 = .ok (.iload_n 3, 1) := by decide +kernel
theorem dX0_tellValues_90 : decode cX0_tellValues 90 = .ok (.iaload, 1) := by decide +kernel
theorem dX0_tellValues_91 : decode cX0_tellValues 91 = .ok (.iastore, 1) := by decide +kernel
theorem dX0_tellValues_92 : decode cX0_tellValues 92 = .ok (.aload_n 0, 1) := by decide +kernel
theorem dX0_tellValues_93 : decode cX0_tellValues 93 = .ok (.getfield 21, 3) := by decide +kernel
theorem dX0_tellValues_96 : decode cX0_tellValues 96 = .ok (.iload_n 3, 1) := by decide +kernel
theorem dX0_tellValues_97 : decode cX0_tellValues 97 = .ok (.iaload, 1) := by decide +kernel
theorem dX0_tellValues_98 : decode cX0_tellValues 98 = .ok (.istore_n 3, 1) := by decide +kernel
theorem dX0_tellValues_99 : decode cX0_tellValues 99 = .ok (.iinc 4 1, 3) := by decide +kernel
theorem dX0_tellValues_102 : decode cX0_tellValues 102 = .ok (.goto (-60), 3) := by decide +kernel
theorem dX0_tellValues_105 : decode cX0_tellValues 105 = .ok (.return_, 1) := by decide +kernel
theorem dX11_tellOrderWords_0 : decode cX11_tellOrderWords 0 = .ok (.aload_n 0, 1) := by decide +kernel
theorem dX11_tellOrderWords_1 : decode cX11_tellOrderWords 1 = .ok (.getfield 22, 3) := by decide +kernel
theorem dX11_tellOrderWords_4 : decode cX11_tellOrderWords 4 = .ok (.getfield 407, 3) := by decide +kernel
theorem dX11_tellOrderWords_7 : decode cX11_tellOrderWords 7 = .ok (.astore_n 1, 1) := by decide +kernel
theorem dX11_tellOrderWords_8 : decode cX11_tellOrderWords 8 = .ok (.aload_n 1, 1) := by decide +kernel
theorem dX11_tellOrderWords_9 : decode cX11_tellOrderWords 9 = .ok (.iconst 0, 1) := by decide +kernel
theorem dX11_tellOrderWords_10 : decode cX11_tellOrderWords 10 = .ok (.aload_n 0, 1) := by decide +kernel
theorem dX11_tellOrderWords_11 : decode cX11_tellOrderWords 11 = .ok (.getfield 10, 3) := by decide +kernel
theorem dX11_tellOrderWords_14 : decode cX11_tellOrderWords 14 = .ok (.getfield 198, 3) := by decide +kernel
theorem dX11_tellOrderWords_17 : decode cX11_tellOrderWords 17 = .ok (.iastore, 1) := by decide +kernel
theorem dX11_tellOrderWords_18 : decode cX11_tellOrderWords 18 = .ok (.aload_n 1, 1) := by decide +kernel
theorem dX11_tellOrderWords_19 : decode cX11_tellOrderWords 19 = .ok (.iconst 1, 1) := by decide +kernel
theorem dX11_tellOrderWords_20 : decode cX11_tellOrderWords 20 = .ok (.aload_n 0, 1) := by decide +kernel
theorem dX11_tellOrderWords_21 : decode cX11_tellOrderWords 21 = .ok (.getfield 97, 3) := by decide +kernel
theorem dX11_tellOrderWords_24 : decode cX11_tellOrderWords 24 = .ok (.iastore, 1) := by decide +kernel
theorem dX11_tellOrderWords_25 : decode cX11_tellOrderWords 25 = .ok (.aload_n 1, 1) := by decide +kernel
theorem dX11_tellOrderWords_26 : decode cX11_tellOrderWords 26 = .ok (.iconst 2, 1) := by decide +kernel
theorem dX11_tellOrderWords_27 : decode cX11_tellOrderWords 27 = .ok (.aload_n 0, 1) := by decide +kernel
theorem dX11_tellOrderWords_28 : decode cX11_tellOrderWords 28 = .ok (.getfield 100, 3) := by decide +kernel
theorem dX11_tellOrderWords_31 : decode cX11_tellOrderWords 31 = .ok (.iastore, 1) := by decide +kernel
theorem dX11_tellOrderWords_32 : decode cX11_tellOrderWords 32 = .ok (.aload_n 1, 1) := by decide +kernel
theorem dX11_tellOrderWords_33 : decode cX11_tellOrderWords 33 = .ok (.iconst 3, 1) := by decide +kernel
theorem dX11_tellOrderWords_34 : decode cX11_tellOrderWords 34 = .ok (.aload_n 0, 1) := by decide +kernel
theorem dX11_tellOrderWords_35 : decode cX11_tellOrderWords 35 = .ok (.getfield 10, 3) := by decide +kernel
theorem dX11_tellOrderWords_38 : decode cX11_tellOrderWords 38 = .ok (.getfield 140, 3) := by decide +kernel
theorem dX11_tellOrderWords_41 : decode cX11_tellOrderWords 41 = .ok (.getfield 177, 3) := by decide +kernel
theorem dX11_tellOrderWords_44 : decode cX11_tellOrderWords 44 = .ok (.iastore, 1) := by decide +kernel
theorem dX11_tellOrderWords_45 : decode cX11_tellOrderWords 45 = .ok (.aload_n 1, 1) := by decide +kernel
theorem dX11_tellOrderWords_46 : decode cX11_tellOrderWords 46 = .ok (.iconst 4, 1) := by decide +kernel
theorem dX11_tellOrderWords_47 : decode cX11_tellOrderWords 47 = .ok (.aload_n 0, 1) := by decide +kernel
theorem dX11_tellOrderWords_48 : decode cX11_tellOrderWords 48 = .ok (.getfield 10, 3) := by decide +kernel
theorem dX11_tellOrderWords_51 : decode cX11_tellOrderWords 51 = .ok (.getfield 380, 3) := by decide +kernel
theorem dX11_tellOrderWords_54 : decode cX11_tellOrderWords 54 = .ok (.iastore, 1) := by decide +kernel
theorem dX11_tellOrderWords_55 : decode cX11_tellOrderWords 55 = .ok (.iconst 0, 1) := by decide +kernel
theorem dX11_tellOrderWords_56 : decode cX11_tellOrderWords 56 = .ok (.istore_n 2, 1) := by decide +kernel
theorem dX11_tellOrderWords_57 : decode cX11_tellOrderWords 57 = .ok (.iload_n 2, 1) := by decide +kernel
theorem dX11_tellOrderWords_58 : decode cX11_tellOrderWords 58 = .ok (.bipush 8, 2) := by decide +kernel
theorem dX11_tellOrderWords_60 : decode cX11_tellOrderWords 60 = .ok (.if_icmp .ge 22, 3) := by decide +kernel
theorem dX11_tellOrderWords_63 : decode cX11_tellOrderWords 63 = .ok (.aload_n 1, 1) := by decide +kernel
theorem dX11_tellOrderWords_64 : decode cX11_tellOrderWords 64 = .ok (.iconst 5, 1) := by decide +kernel
theorem dX11_tellOrderWords_65 : decode cX11_tellOrderWords 65 = .ok (.iload_n 2, 1) := by decide +kernel
theorem dX11_tellOrderWords_66 : decode cX11_tellOrderWords 66 = .ok (.iadd, 1) := by decide +kernel
theorem dX11_tellOrderWords_67 : decode cX11_tellOrderWords 67 = .ok (.aload_n 0, 1) := by decide +kernel
theorem dX11_tellOrderWords_68 : decode cX11_tellOrderWords 68 = .ok (.getfield 10, 3) := by decide +kernel
theorem dX11_tellOrderWords_71 : decode cX11_tellOrderWords 71 = .ok (.iload_n 2, 1) := by decide +kernel
theorem dX11_tellOrderWords_72 : decode cX11_tellOrderWords 72 = .ok (.invokevirtual 123, 3) := by decide +kernel
theorem dX11_tellOrderWords_75 : decode cX11_tellOrderWords 75 = .ok (.iastore, 1) := by decide +kernel
theorem dX11_tellOrderWords_76 : decode cX11_tellOrderWords 76 = .ok (.iinc 2 1, 3) := by decide +kernel
theorem dX11_tellOrderWords_79 : decode cX11_tellOrderWords 79 = .ok (.goto (-22), 3) := by decide +kernel
theorem dX11_tellOrderWords_82 : decode cX11_tellOrderWords 82 = .ok (.aload_n 0, 1) := by decide +kernel
theorem dX11_tellOrderWords_83 : decode cX11_tellOrderWords 83 = .ok (.getfield 10, 3) := by decide +kernel
theorem dX11_tellOrderWords_86 : decode cX11_tellOrderWords 86 = .ok (.getfield 140, 3) := by decide +kernel
theorem dX11_tellOrderWords_89 : decode cX11_tellOrderWords 89 = .ok (.aload_n 1, 1) := by decide +kernel
theorem dX11_tellOrderWords_90 : decode cX11_tellOrderWords 90 = .ok (.bipush 13, 2) := by decide +kernel
theorem dX11_tellOrderWords_92 : decode cX11_tellOrderWords 92 = .ok (.invokevirtual 410, 3) := by decide +kernel
theorem dX11_tellOrderWords_95 : decode cX11_tellOrderWords 95 = .ok (.return_, 1) := by decide +kernel
theorem dX2_prepare_0 : decode cX2_prepare 0 = .ok (.aload_n 0, 1) := by decide +kernel
theorem dX2_prepare_1 : decode cX2_prepare 1 = .ok (.getfield 13, 3) := by decide +kernel
theorem dX2_prepare_4 : decode cX2_prepare 4 = .ok (.aload_n 0, 1) := by decide +kernel
theorem dX2_prepare_5 : decode cX2_prepare 5 = .ok (.aload_n 0, 1) := by decide +kernel
theorem dX2_prepare_6 : decode cX2_prepare 6 = .ok (.getfield 25, 3) := by decide +kernel
theorem dX2_prepare_9 : decode cX2_prepare 9 = .ok (.invokevirtual 29, 3) := by decide +kernel
theorem dX2_prepare_12 : decode cX2_prepare 12 = .ok (.aaload, 1) := by decide +kernel
theorem dX2_prepare_13 : decode cX2_prepare 13 = .ok (.aload_n 1, 1) := by decide +kernel
theorem dX2_prepare_14 : decode cX2_prepare 14 = .ok (.invokevirtual 33, 3) := by decide +kernel
theorem dX2_prepare_17 : decode cX2_prepare 17 = .ok (.return_, 1) := by decide +kernel
theorem dX0_waitingBecomeCurrent_0 : decode cX0_waitingBecomeCurrent 0 = .ok (.iconst 0, 1) := by decide +kernel
theorem dX0_waitingBecomeCurrent_1 : decode cX0_waitingBecomeCurrent 1 = .ok (.istore_n 1, 1) := by decide +kernel
theorem dX0_waitingBecomeCurrent_2 : decode cX0_waitingBecomeCurrent 2 = .ok (.iload_n 1, 1) := by decide +kernel
theorem dX0_waitingBecomeCurrent_3 : decode cX0_waitingBecomeCurrent 3 = .ok (.aload_n 0, 1) := by decide +kernel
theorem dX0_waitingBecomeCurrent_4 : decode cX0_waitingBecomeCurrent 4 = .ok (.getfield 34, 3) := by decide +kernel
theorem dX0_waitingBecomeCurrent_7 : decode cX0_waitingBecomeCurrent 7 = .ok (.if_icmp .ge 27, 3) := by decide +kernel
theorem dX0_waitingBecomeCurrent_10 : decode cX0_waitingBecomeCurrent 10 = .ok (.iload_n 1, 1) := by decide +kernel
theorem dX0_waitingBecomeCurrent_11 : decode cX0_waitingBecomeCurrent 11 = .ok (.bipush 24, 2) := by decide +kernel
theorem dX0_waitingBecomeCurrent_13 : decode cX0_waitingBecomeCurrent 13 = .ok (.if_icmp .ge 21, 3) := by decide +kernel
theorem dX0_waitingBecomeCurrent_16 : decode cX0_waitingBecomeCurrent 16 = .ok (.aload_n 0, 1) := by decide +kernel
theorem dX0_waitingBecomeCurrent_17 : decode cX0_waitingBecomeCurrent 17 = .ok (.getfield 27, 3) := by decide +kernel
theorem dX0_waitingBecomeCurrent_20 : decode cX0_waitingBecomeCurrent 20 = .ok (.iload_n 1, 1) := by decide +kernel
theorem dX0_waitingBecomeCurrent_21 : decode cX0_waitingBecomeCurrent 21 = .ok (.aload_n 0, 1) := by decide +kernel
theorem dX0_waitingBecomeCurrent_22 : decode cX0_waitingBecomeCurrent 22 = .ok (.getfield 24, 3) := by decide +kernel
theorem dX0_waitingBecomeCurrent_25 : decode cX0_waitingBecomeCurrent 25 = .ok (.iload_n 1, 1) := by decide +kernel
theorem dX0_waitingBecomeCurrent_26 : decode cX0_waitingBecomeCurrent 26 = .ok (.iaload, 1) := by decide +kernel
theorem dX0_waitingBecomeCurrent_27 : decode cX0_waitingBecomeCurrent 27 = .ok (.iastore, 1) := by decide +kernel
theorem dX0_waitingBecomeCurrent_28 : decode cX0_waitingBecomeCurrent 28 = .ok (.iinc 1 1, 3) := by decide +kernel
theorem dX0_waitingBecomeCurrent_31 : decode cX0_waitingBecomeCurrent 31 = .ok (.goto (-29), 3) := by decide +kernel
theorem dX0_waitingBecomeCurrent_34 : decode cX0_waitingBecomeCurrent 34 = .ok (.aload_n 0, 1) := by decide +kernel
theorem dX0_waitingBecomeCurrent_35 : decode cX0_waitingBecomeCurrent 35 = .ok (.aload_n 0, 1) := by decide +kernel
theorem dX0_waitingBecomeCurrent_36 : decode cX0_waitingBecomeCurrent 36 = .ok (.getfield 34, 3) := by decide +kernel
theorem dX0_waitingBecomeCurrent_39 : decode cX0_waitingBecomeCurrent 39 = .ok (.putfield 37, 3) := by decide +kernel
theorem dX0_waitingBecomeCurrent_42 : decode cX0_waitingBecomeCurrent 42 = .ok (.aload_n 0, 1) := by decide +kernel
theorem dX0_waitingBecomeCurrent_43 : decode cX0_waitingBecomeCurrent 43 = .ok (.iconst 0, 1) := by decide +kernel
theorem dX0_waitingBecomeCurrent_44 : decode cX0_waitingBecomeCurrent 44 = .ok (.putfield 34, 3) := by decide +kernel
theorem dX0_waitingBecomeCurrent_47 : decode cX0_waitingBecomeCurrent 47 = .ok (.return_, 1) := by decide +kernel
theorem dX10_startGrace_0 : decode cX10_startGrace 0 = .ok (.aload_n 0, 1) := by decide +kernel
theorem dX10_startGrace_1 : decode cX10_startGrace 1 = .ok (.getfield 35, 3) := by decide +kernel
theorem dX10_startGrace_4 : decode cX10_startGrace 4 = .ok (.ifCond .ne 13, 3) := by decide +kernel
theorem dX10_startGrace_7 : decode cX10_startGrace 7 = .ok (.aload_n 0, 1) := by decide +kernel
theorem dX10_startGrace_8 : decode cX10_startGrace 8 = .ok (.getfield 12, 3) := by decide +kernel
theorem dX10_startGrace_11 : decode cX10_startGrace 11 = .ok (.getfield 135, 3) := by decide +kernel
theorem dX10_startGrace_14 : decode cX10_startGrace 14 = .ok (.ifCond .ne 6, 3) := by decide +kernel
theorem dX10_startGrace_17 : decode cX10_startGrace 17 = .ok (.bipush (-3), 2) := by decide +kernel
theorem dX10_startGrace_19 : decode cX10_startGrace 19 = .ok (.ireturn, 1) := by decide +kernel
theorem dX10_startGrace_20 : decode cX10_startGrace 20 = .ok (.aload_n 0, 1) := by decide +kernel
theorem dX10_startGrace_21 : decode cX10_startGrace 21 = .ok (.iconst 1, 1) := by decide +kernel
theorem dX10_startGrace_22 : decode cX10_startGrace 22 = .ok (.putfield 35, 3) := by decide +kernel
theorem dX10_startGrace_25 : decode cX10_startGrace 25 = .ok (.aload_n 0, 1) := by decide +kernel
theorem dX10_startGrace_26 : decode cX10_startGrace 26 = .ok (.dup, 1) := by decide +kernel
theorem dX10_startGrace_27 : decode cX10_startGrace 27 = .ok (.getfield 39, 3) := by decide +kernel
theorem dX10_startGrace_30 : decode cX10_startGrace 30 = .ok (.iconst 1, 1) := by decide +kernel
theorem dX10_startGrace_31 : decode cX10_startGrace 31 = .ok (.iadd, 1) := by decide +kernel
theorem dX10_startGrace_32 : decode cX10_startGrace 32 = .ok (.putfield 39, 3) := by decide +kernel
theorem dX10_startGrace_35 : decode cX10_startGrace 35 = .ok (.aload_n 0, 1) := by decide +kernel
theorem dX10_startGrace_36 : decode cX10_startGrace 36 = .ok (.getfield 12, 3) := by decide +kernel
theorem dX10_startGrace_39 : decode cX10_startGrace 39 = .ok (.invokevirtual 138, 3) := by decide +kernel
theorem dX10_startGrace_42 : decode cX10_startGrace 42 = .ok (.aload_n 0, 1) := by decide +kernel
theorem dX10_startGrace_43 : decode cX10_startGrace 43 = .ok (.getfield 22, 3) := by decide +kernel
theorem dX10_startGrace_46 : decode cX10_startGrace 46 = .ok (.iconst 3, 1) := by decide +kernel
theorem dX10_startGrace_47 : decode cX10_startGrace 47 = .ok (.invokestatic 141, 3) := by decide +kernel
theorem dX10_startGrace_50 : decode cX10_startGrace 50 = .ok (.aload_n 0, 1) := by decide +kernel
theorem dX10_startGrace_51 : decode cX10_startGrace 51 = .ok (.aload_n 0, 1) := by decide +kernel
theorem dX10_startGrace_52 : decode cX10_startGrace 52 = .ok (.getfield 29, 3) := by decide +kernel
theorem dX10_startGrace_55 : decode cX10_startGrace 55 = .ok (.putfield 32, 3) := by decide +kernel
theorem dX10_startGrace_58 : decode cX10_startGrace 58 = .ok (.aload_n 0, 1) := by decide +kernel
theorem dX10_startGrace_59 : decode cX10_startGrace 59 = .ok (.getfield 39, 3) := by decide +kernel
theorem dX10_startGrace_62 : decode cX10_startGrace 62 = .ok (.ireturn, 1) := by decide +kernel
theorem dX10_leafOf_0 : decode cX10_leafOf 0 = .ok (.iconst 4, 1) := by decide +kernel
theorem dX10_leafOf_1 : decode cX10_leafOf 1 = .ok (.iload_n 0, 1) := by decide +kernel
theorem dX10_leafOf_2 : decode cX10_leafOf 2 = .ok (.iconst 2, 1) := by decide +kernel
theorem dX10_leafOf_3 : decode cX10_leafOf 3 = .ok (.idiv, 1) := by decide +kernel
theorem dX10_leafOf_4 : decode cX10_leafOf 4 = .ok (.iadd, 1) := by decide +kernel
theorem dX10_leafOf_5 : decode cX10_leafOf 5 = .ok (.ireturn, 1) := by decide +kernel
theorem dJ9_min_f86c9_0 : decode cJ9_min_f86c9 0 = .ok (.lload_n 0, 1) := by decide +kernel
theorem dJ9_min_f86c9_1 : decode cJ9_min_f86c9 1 = .ok (.lload_n 2, 1) := by decide +kernel
theorem dJ9_min_f86c9_2 : decode cJ9_min_f86c9 2 = .ok (.lcmp, 1) := by decide +kernel
theorem dJ9_min_f86c9_3 : decode cJ9_min_f86c9 3 = .ok (.ifCond .gt 7, 3) := by decide +kernel
theorem dJ9_min_f86c9_6 : decode cJ9_min_f86c9 6 = .ok (.lload_n 0, 1) := by decide +kernel
theorem dJ9_min_f86c9_7 : decode cJ9_min_f86c9 7 = .ok (.goto 4, 3) := by decide +kernel
theorem dJ9_min_f86c9_10 : decode cJ9_min_f86c9 10 = .ok (.lload_n 2, 1) := by decide +kernel
theorem dJ9_min_f86c9_11 : decode cJ9_min_f86c9 11 = .ok (.lreturn, 1) := by decide +kernel
theorem dJ9_max_f86c9_0 : decode cJ9_max_f86c9 0 = .ok (.lload_n 0, 1) := by decide +kernel
theorem dJ9_max_f86c9_1 : decode cJ9_max_f86c9 1 = .ok (.lload_n 2, 1) := by decide +kernel
theorem dJ9_max_f86c9_2 : decode cJ9_max_f86c9 2 = .ok (.lcmp, 1) := by decide +kernel
theorem dJ9_max_f86c9_3 : decode cJ9_max_f86c9 3 = .ok (.ifCond .lt 7, 3) := by decide +kernel
theorem dJ9_max_f86c9_6 : decode cJ9_max_f86c9 6 = .ok (.lload_n 0, 1) := by decide +kernel
theorem dJ9_max_f86c9_7 : decode cJ9_max_f86c9 7 = .ok (.goto 4, 3) := by decide +kernel
theorem dJ9_max_f86c9_10 : decode cJ9_max_f86c9 10 = .ok (.lload_n 2, 1) := by decide +kernel
theorem dJ9_max_f86c9_11 : decode cJ9_max_f86c9 11 = .ok (.lreturn, 1) := by decide +kernel
theorem dX6_costOf_0 : decode cX6_costOf 0 = .ok (.aload_n 1, 1) := by decide +kernel
theorem dX6_costOf_1 : decode cX6_costOf 1 = .ok (.ifnonnull 5, 3) := by decide +kernel
theorem dX6_costOf_4 : decode cX6_costOf 4 = .ok (.iconst 1, 1) := by decide +kernel
theorem dX6_costOf_5 : decode cX6_costOf 5 = .ok (.ireturn, 1) := by decide +kernel
theorem dX6_costOf_6 : decode cX6_costOf 6 = .ok (.iload_n 2, 1) := by decide +kernel
theorem dX6_costOf_7 : decode cX6_costOf 7 = .ok (.iconst 1, 1) := by decide +kernel
theorem dX6_costOf_8 : decode cX6_costOf 8 = .ok (.if_icmp .ne 7, 3) := by decide +kernel
theorem dX6_costOf_11 : decode cX6_costOf 11 = .ok (.iconst 0, 1) := by decide +kernel
theorem dX6_costOf_12 : decode cX6_costOf 12 = .ok (.goto 13, 3) := by decide +kernel
theorem dX6_costOf_15 : decode cX6_costOf 15 = .ok (.iload_n 2, 1) := by decide +kernel
theorem dX6_costOf_16 : decode cX6_costOf 16 = .ok (.iconst 4, 1) := by decide +kernel
theorem dX6_costOf_17 : decode cX6_costOf 17 = .ok (.if_icmp .ge 7, 3) := by decide +kernel
theorem dX6_costOf_20 : decode cX6_costOf 20 = .ok (.iconst 1, 1) := by decide +kernel
theorem dX6_costOf_21 : decode cX6_costOf 21 = .ok (.goto 4, 3) := by decide +kernel
theorem dX6_costOf_24 : decode cX6_costOf 24 = .ok (.iconst 2, 1) := by decide +kernel
theorem dX6_costOf_25 : decode cX6_costOf 25 = .ok (.istore 5, 2) := by decide +kernel
theorem dX6_costOf_27 : decode cX6_costOf 27 = .ok (.aload_n 0, 1) := by decide +kernel
theorem dX6_costOf_28 : decode cX6_costOf 28 = .ok (.iload_n 2, 1) := by decide +kernel
theorem dX6_costOf_29 : decode cX6_costOf 29 = .ok (.iload 5, 2) := by decide +kernel
theorem dX6_costOf_31 : decode cX6_costOf 31 = .ok (.iload_n 3, 1) := by decide +kernel
theorem dX6_costOf_32 : decode cX6_costOf 32 = .ok (.aload 4, 2) := by decide +kernel
theorem dX6_costOf_34 : decode cX6_costOf 34 = .ok (.getfield 34, 3) := by decide +kernel
theorem dX6_costOf_37 : decode cX6_costOf 37 = .ok (.getfield 40, 3) := by decide +kernel
theorem dX6_costOf_40 : decode cX6_costOf 40 = .ok (.invokevirtual 45, 3) := by decide +kernel
theorem dX6_costOf_43 : decode cX6_costOf 43 = .ok (.aload_n 0, 1) := by decide +kernel
theorem dX6_costOf_44 : decode cX6_costOf 44 = .ok (.iconst (-1), 1) := by decide +kernel
theorem dX6_costOf_45 : decode cX6_costOf 45 = .ok (.aload 4, 2) := by decide +kernel
theorem dX6_costOf_47 : decode cX6_costOf 47 = .ok (.getfield 49, 3) := by decide +kernel
theorem dX6_costOf_50 : decode cX6_costOf 50 = .ok (.invokevirtual 52, 3) := by decide +kernel
theorem dX6_costOf_53 : decode cX6_costOf 53 = .ok (.aload_n 1, 1) := by decide +kernel
theorem dX6_costOf_54 : decode cX6_costOf 54 = .ok (.getfield 56, 3) := by decide +kernel
theorem dX6_costOf_57 : decode cX6_costOf 57 = .ok (.iconst 1, 1) := by decide +kernel
theorem dX6_costOf_58 : decode cX6_costOf 58 = .ok (.isub, 1) := by decide +kernel
theorem dX6_costOf_59 : decode cX6_costOf 59 = .ok (.istore 6, 2) := by decide +kernel
theorem dX6_costOf_61 : decode cX6_costOf 61 = .ok (.iload 6, 2) := by decide +kernel
theorem dX6_costOf_63 : decode cX6_costOf 63 = .ok (.ifCond .lt 90, 3) := by decide +kernel
theorem dX6_costOf_66 : decode cX6_costOf 66 = .ok (.aload_n 1, 1) := by decide +kernel
theorem dX6_costOf_67 : decode cX6_costOf 67 = .ok (.iload 6, 2) := by decide +kernel
theorem dX6_costOf_69 : decode cX6_costOf 69 = .ok (.iconst 0, 1) := by decide +kernel
theorem dX6_costOf_70 : decode cX6_costOf 70 = .ok (.invokevirtual 59, 3) := by decide +kernel
theorem dX6_costOf_73 : decode cX6_costOf 73 = .ok (.ifCond .ne 74, 3) := by decide +kernel
theorem dX6_costOf_76 : decode cX6_costOf 76 = .ok (.aload_n 0, 1) := by decide +kernel
theorem dX6_costOf_77 : decode cX6_costOf 77 = .ok (.getfield 30, 3) := by decide +kernel
theorem dX6_costOf_80 : decode cX6_costOf 80 = .ok (.aload_n 1, 1) := by decide +kernel
theorem dX6_costOf_81 : decode cX6_costOf 81 = .ok (.aload_n 1, 1) := by decide +kernel
theorem dX6_costOf_82 : decode cX6_costOf 82 = .ok (.iload 6, 2) := by decide +kernel
theorem dX6_costOf_84 : decode cX6_costOf 84 = .ok (.iconst 4, 1) := by decide +kernel
theorem dX6_costOf_85 : decode cX6_costOf 85 = .ok (.invokevirtual 59, 3) := by decide +kernel
theorem dX6_costOf_88 : decode cX6_costOf 88 = .ok (.invokevirtual 63, 3) := by decide +kernel
theorem dX6_costOf_91 : decode cX6_costOf 91 = .ok (.ifCond .eq 56, 3) := by decide +kernel
theorem dX6_costOf_94 : decode cX6_costOf 94 = .ok (.aload_n 0, 1) := by decide +kernel
theorem dX6_costOf_95 : decode cX6_costOf 95 = .ok (.getfield 30, 3) := by decide +kernel
theorem dX6_costOf_98 : decode cX6_costOf 98 = .ok (.getfield 69, 3) := by decide +kernel
theorem dX6_costOf_101 : decode cX6_costOf 101 = .ok (.lconst 0, 1) := by decide +kernel
theorem dX6_costOf_102 : decode cX6_costOf 102 = .ok (.lcmp, 1) := by decide +kernel
theorem dX6_costOf_103 : decode cX6_costOf 103 = .ok (.ifCond .eq 44, 3) := by decide +kernel
theorem dX6_costOf_106 : decode cX6_costOf 106 = .ok (.aload_n 0, 1) := by decide +kernel
theorem dX6_costOf_107 : decode cX6_costOf 107 = .ok (.getfield 30, 3) := by decide +kernel
theorem dX6_costOf_110 : decode cX6_costOf 110 = .ok (.aload_n 1, 1) := by decide +kernel
theorem dX6_costOf_111 : decode cX6_costOf 111 = .ok (.aload_n 1, 1) := by decide +kernel
theorem dX6_costOf_112 : decode cX6_costOf 112 = .ok (.iload 6, 2) := by decide +kernel
theorem dX6_costOf_114 : decode cX6_costOf 114 = .ok (.iconst 1, 1) := by decide +kernel
theorem dX6_costOf_115 : decode cX6_costOf 115 = .ok (.invokevirtual 59, 3) := by decide +kernel
theorem dX6_costOf_118 : decode cX6_costOf 118 = .ok (.invokevirtual 63, 3) := by decide +kernel
theorem dX6_costOf_121 : decode cX6_costOf 121 = .ok (.ifCond .eq 26, 3) := by decide +kernel
theorem dX6_costOf_124 : decode cX6_costOf 124 = .ok (.aload_n 0, 1) := by decide +kernel
theorem dX6_costOf_125 : decode cX6_costOf 125 = .ok (.getfield 30, 3) := by decide +kernel
theorem dX6_costOf_128 : decode cX6_costOf 128 = .ok (.getfield 69, 3) := by decide +kernel
theorem dX6_costOf_131 : decode cX6_costOf 131 = .ok (.lstore 7, 2) := by decide +kernel
theorem dX6_costOf_133 : decode cX6_costOf 133 = .ok (.lconst 0, 1) := by decide +kernel
theorem dX6_costOf_134 : decode cX6_costOf 134 = .ok (.ldc2_w 73, 3) := by decide +kernel
theorem dX6_costOf_137 : decode cX6_costOf 137 = .ok (.lload 7, 2) := by decide +kernel
theorem dX6_costOf_139 : decode cX6_costOf 139 = .ok (.invokestatic 75, 3) := by decide +kernel
theorem dX6_costOf_142 : decode cX6_costOf 142 = .ok (.invokestatic 81, 3) := by decide +kernel
theorem dX6_costOf_145 : decode cX6_costOf 145 = .ok (.l2i, 1) := by decide +kernel
theorem dX6_costOf_146 : decode cX6_costOf 146 = .ok (.ireturn, 1) := by decide +kernel
theorem dX6_costOf_147 : decode cX6_costOf 147 = .ok (.iinc 6 (-1), 3) := by decide +kernel
theorem dX6_costOf_150 : decode cX6_costOf 150 = .ok (.goto (-89), 3) := by decide +kernel
theorem dX6_costOf_153 : decode cX6_costOf 153 = .ok (.iconst 1, 1) := by decide +kernel
theorem dX6_costOf_154 : decode cX6_costOf 154 = .ok (.ireturn, 1) := by decide +kernel
theorem dX10_processorsOf_0 : decode cX10_processorsOf 0 = .ok (.iconst 3, 1) := by decide +kernel
theorem dX10_processorsOf_1 : decode cX10_processorsOf 1 = .ok (.iconst 2, 1) := by decide +kernel
theorem dX10_processorsOf_2 : decode cX10_processorsOf 2 = .ok (.iload_n 0, 1) := by decide +kernel
theorem dX10_processorsOf_3 : decode cX10_processorsOf 3 = .ok (.iconst 4, 1) := by decide +kernel
theorem dX10_processorsOf_4 : decode cX10_processorsOf 4 = .ok (.isub, 1) := by decide +kernel
theorem dX10_processorsOf_5 : decode cX10_processorsOf 5 = .ok (.imul, 1) := by decide +kernel
theorem dX10_processorsOf_6 : decode cX10_processorsOf 6 = .ok (.ishl, 1) := by decide +kernel
theorem dX10_processorsOf_7 : decode cX10_processorsOf 7 = .ok (.ireturn, 1) := by decide +kernel
theorem dX10_isQuiet_0 : decode cX10_isQuiet 0 = .ok (.iload_n 1, 1) := by decide +kernel
theorem dX10_isQuiet_1 : decode cX10_isQuiet 1 = .ok (.iconst 4, 1) := by decide +kernel
theorem dX10_isQuiet_2 : decode cX10_isQuiet 2 = .ok (.if_icmp .lt 19, 3) := by decide +kernel
theorem dX10_isQuiet_5 : decode cX10_isQuiet 5 = .ok (.aload_n 0, 1) := by decide +kernel
theorem dX10_isQuiet_6 : decode cX10_isQuiet 6 = .ok (.getfield 32, 3) := by decide +kernel
theorem dX10_isQuiet_9 : decode cX10_isQuiet 9 = .ok (.iload_n 1, 1) := by decide +kernel
theorem dX10_isQuiet_10 : decode cX10_isQuiet 10 = .ok (.invokestatic 121, 3) := by decide +kernel
theorem dX10_isQuiet_13 : decode cX10_isQuiet 13 = .ok (.iand, 1) := by decide +kernel
theorem dX10_isQuiet_14 : decode cX10_isQuiet 14 = .ok (.ifCond .eq 7, 3) := by decide +kernel
theorem dX10_isQuiet_17 : decode cX10_isQuiet 17 = .ok (.iconst 1, 1) := by decide +kernel
theorem dX10_isQuiet_18 : decode cX10_isQuiet 18 = .ok (.goto 4, 3) := by decide +kernel
theorem dX10_isQuiet_21 : decode cX10_isQuiet 21 = .ok (.iconst 0, 1) := by decide +kernel
theorem dX10_isQuiet_22 : decode cX10_isQuiet 22 = .ok (.istore_n 2, 1) := by decide +kernel
theorem dX10_isQuiet_23 : decode cX10_isQuiet 23 = .ok (.aload_n 0, 1) := by decide +kernel
theorem dX10_isQuiet_24 : decode cX10_isQuiet 24 = .ok (.getfield 22, 3) := by decide +kernel
theorem dX10_isQuiet_27 : decode cX10_isQuiet 27 = .ok (.iload_n 1, 1) := by decide +kernel
theorem dX10_isQuiet_28 : decode cX10_isQuiet 28 = .ok (.iaload, 1) := by decide +kernel
theorem dX10_isQuiet_29 : decode cX10_isQuiet 29 = .ok (.ifCond .ne 11, 3) := by decide +kernel
theorem dX10_isQuiet_32 : decode cX10_isQuiet 32 = .ok (.iload_n 2, 1) := by decide +kernel
theorem dX10_isQuiet_33 : decode cX10_isQuiet 33 = .ok (.ifCond .ne 7, 3) := by decide +kernel
theorem dX10_isQuiet_36 : decode cX10_isQuiet 36 = .ok (.iconst 1, 1) := by decide +kernel
theorem dX10_isQuiet_37 : decode cX10_isQuiet 37 = .ok (.goto 4, 3) := by decide +kernel
theorem dX10_isQuiet_40 : decode cX10_isQuiet 40 = .ok (.iconst 0, 1) := by decide +kernel
theorem dX10_isQuiet_41 : decode cX10_isQuiet 41 = .ok (.ireturn, 1) := by decide +kernel
theorem dX0_freeCurrent_0 : decode cX0_freeCurrent 0 = .ok (.aload_n 0, 1) := by decide +kernel
theorem dX0_freeCurrent_1 : decode cX0_freeCurrent 1 = .ok (.getfield 37, 3) := by decide +kernel
theorem dX0_freeCurrent_4 : decode cX0_freeCurrent 4 = .ok (.istore_n 1, 1) := by decide +kernel
theorem dX0_freeCurrent_5 : decode cX0_freeCurrent 5 = .ok (.iconst 0, 1) := by decide +kernel
theorem dX0_freeCurrent_6 : decode cX0_freeCurrent 6 = .ok (.istore_n 2, 1) := by decide +kernel
theorem dX0_freeCurrent_7 : decode cX0_freeCurrent 7 = .ok (.iload_n 2, 1) := by decide +kernel
theorem dX0_freeCurrent_8 : decode cX0_freeCurrent 8 = .ok (.iload_n 1, 1) := by decide +kernel
theorem dX0_freeCurrent_9 : decode cX0_freeCurrent 9 = .ok (.if_icmp .ge 39, 3) := by decide +kernel
theorem dX0_freeCurrent_12 : decode cX0_freeCurrent 12 = .ok (.iload_n 2, 1) := by decide +kernel
theorem dX0_freeCurrent_13 : decode cX0_freeCurrent 13 = .ok (.bipush 24, 2) := by decide +kernel
theorem dX0_freeCurrent_15 : decode cX0_freeCurrent 15 = .ok (.if_icmp .ge 33, 3) := by decide +kernel
theorem dX0_freeCurrent_18 : decode cX0_freeCurrent 18 = .ok (.aload_n 0, 1) := by decide +kernel
theorem dX0_freeCurrent_19 : decode cX0_freeCurrent 19 = .ok (.getfield 27, 3) := by decide +kernel
theorem dX0_freeCurrent_22 : decode cX0_freeCurrent 22 = .ok (.iload_n 2, 1) := by decide +kernel
theorem dX0_freeCurrent_23 : decode cX0_freeCurrent 23 = .ok (.iaload, 1) := by decide +kernel
theorem dX0_freeCurrent_24 : decode cX0_freeCurrent 24 = .ok (.invokestatic 46, 3) := by decide +kernel
theorem dX0_freeCurrent_27 : decode cX0_freeCurrent 27 = .ok (.ifCond .eq 15, 3) := by decide +kernel
theorem dX0_freeCurrent_30 : decode cX0_freeCurrent 30 = .ok (.aload_n 0, 1) := by decide +kernel
theorem dX0_freeCurrent_31 : decode cX0_freeCurrent 31 = .ok (.getfield 9, 3) := by decide +kernel
theorem dX0_freeCurrent_34 : decode cX0_freeCurrent 34 = .ok (.aload_n 0, 1) := by decide +kernel
theorem dX0_freeCurrent_35 : decode cX0_freeCurrent 35 = .ok (.getfield 27, 3) := by decide +kernel
theorem dX0_freeCurrent_38 : decode cX0_freeCurrent 38 = .ok (.iload_n 2, 1) := by decide +kernel
theorem dX0_freeCurrent_39 : decode cX0_freeCurrent 39 = .ok (.iaload, 1) := by decide +kernel
theorem dX0_freeCurrent_40 : decode cX0_freeCurrent 40 = .ok (.iconst 0, 1) := by decide +kernel
theorem dX0_freeCurrent_41 : decode cX0_freeCurrent 41 = .ok (.iastore, 1) := by decide +kernel
theorem dX0_freeCurrent_42 : decode cX0_freeCurrent 42 = .ok (.iinc 2 1, 3) := by decide +kernel
theorem dX0_freeCurrent_45 : decode cX0_freeCurrent 45 = .ok (.goto (-38), 3) := by decide +kernel
theorem dX0_freeCurrent_48 : decode cX0_freeCurrent 48 = .ok (.aload_n 0, 1) := by decide +kernel
theorem dX0_freeCurrent_49 : decode cX0_freeCurrent 49 = .ok (.iconst 0, 1) := by decide +kernel
theorem dX0_freeCurrent_50 : decode cX0_freeCurrent 50 = .ok (.putfield 37, 3) := by decide +kernel
theorem dX0_freeCurrent_53 : decode cX0_freeCurrent 53 = .ok (.iload_n 1, 1) := by decide +kernel
theorem dX0_freeCurrent_54 : decode cX0_freeCurrent 54 = .ok (.ireturn, 1) := by decide +kernel
theorem dX10_endGrace_0 : decode cX10_endGrace 0 = .ok (.aload_n 0, 1) := by decide +kernel
theorem dX10_endGrace_1 : decode cX10_endGrace 1 = .ok (.getfield 12, 3) := by decide +kernel
theorem dX10_endGrace_4 : decode cX10_endGrace 4 = .ok (.invokevirtual 166, 3) := by decide +kernel
theorem dX10_endGrace_7 : decode cX10_endGrace 7 = .ok (.istore_n 1, 1) := by decide +kernel
theorem dX10_endGrace_8 : decode cX10_endGrace 8 = .ok (.aload_n 0, 1) := by decide +kernel
theorem dX10_endGrace_9 : decode cX10_endGrace 9 = .ok (.iconst 0, 1) := by decide +kernel
theorem dX10_endGrace_10 : decode cX10_endGrace 10 = .ok (.putfield 35, 3) := by decide +kernel
theorem dX10_endGrace_13 : decode cX10_endGrace 13 = .ok (.aload_n 0, 1) := by decide +kernel
theorem dX10_endGrace_14 : decode cX10_endGrace 14 = .ok (.iconst 0, 1) := by decide +kernel
theorem dX10_endGrace_15 : decode cX10_endGrace 15 = .ok (.putfield 32, 3) := by decide +kernel
theorem dX10_endGrace_18 : decode cX10_endGrace 18 = .ok (.aload_n 0, 1) := by decide +kernel
theorem dX10_endGrace_19 : decode cX10_endGrace 19 = .ok (.aload_n 0, 1) := by decide +kernel
theorem dX10_endGrace_20 : decode cX10_endGrace 20 = .ok (.getfield 45, 3) := by decide +kernel
theorem dX10_endGrace_23 : decode cX10_endGrace 23 = .ok (.iconst 1, 1) := by decide +kernel
theorem dX10_endGrace_24 : decode cX10_endGrace 24 = .ok (.iadd, 1) := by decide +kernel
theorem dX10_endGrace_25 : decode cX10_endGrace 25 = .ok (.sipush 999, 3) := by decide +kernel
theorem dX10_endGrace_28 : decode cX10_endGrace 28 = .ok (.invokestatic 169, 3) := by decide +kernel
theorem dX10_endGrace_31 : decode cX10_endGrace 31 = .ok (.putfield 45, 3) := by decide +kernel
theorem dX10_endGrace_34 : decode cX10_endGrace 34 = .ok (.aload_n 0, 1) := by decide +kernel
theorem dX10_endGrace_35 : decode cX10_endGrace 35 = .ok (.invokevirtual 82, 3) := by decide +kernel
theorem dX10_endGrace_38 : decode cX10_endGrace 38 = .ok (.pop, 1) := by decide +kernel
theorem dX10_endGrace_39 : decode cX10_endGrace 39 = .ok (.iload_n 1, 1) := by decide +kernel
theorem dX10_endGrace_40 : decode cX10_endGrace 40 = .ok (.ireturn, 1) := by decide +kernel
theorem dX10_report_0 : decode cX10_report 0 = .ok (.iload_n 2, 1) := by decide +kernel
theorem dX10_report_1 : decode cX10_report 1 = .ok (.istore 4, 2) := by decide +kernel
theorem dX10_report_3 : decode cX10_report 3 = .ok (.iload_n 1, 1) := by decide +kernel
theorem dX10_report_4 : decode cX10_report 4 = .ok (.istore 5, 2) := by decide +kernel
theorem dX10_report_6 : decode cX10_report 6 = .ok (.iload 5, 2) := by decide +kernel
theorem dX10_report_8 : decode cX10_report 8 = .ok (.iconst 1, 1) := by decide +kernel
theorem dX10_report_9 : decode cX10_report 9 = .ok (.if_icmp .lt 78, 3) := by decide +kernel
theorem dX10_report_12 : decode cX10_report 12 = .ok (.iload 5, 2) := by decide +kernel
theorem dX10_report_14 : decode cX10_report 14 = .ok (.bipush 8, 2) := by decide +kernel
theorem dX10_report_16 : decode cX10_report 16 = .ok (.if_icmp .ge 71, 3) := by decide +kernel
theorem dX10_report_19 : decode cX10_report 19 = .ok (.aload_n 0, 1) := by decide +kernel
theorem dX10_report_20 : decode cX10_report 20 = .ok (.dup, 1) := by decide +kernel
theorem dX10_report_21 : decode cX10_report 21 = .ok (.getfield 42, 3) := by decide +kernel
theorem dX10_report_24 : decode cX10_report 24 = .ok (.aload_n 3, 1) := by decide +kernel
theorem dX10_report_25 : decode cX10_report 25 = .ok (.aload_n 3, 1) := by decide +kernel
theorem dX10_report_26 : decode cX10_report 26 = .ok (.aload_n 3, 1) := by decide +kernel
theorem dX10_report_27 : decode cX10_report 27 = .ok (.getfield 152, 3) := by decide +kernel
theorem dX10_report_30 : decode cX10_report 30 = .ok (.invokevirtual 155, 3) := by decide +kernel
theorem dX10_report_33 : decode cX10_report 33 = .ok (.iload 5, 2) := by decide +kernel
theorem dX10_report_35 : decode cX10_report 35 = .ok (.iload 4, 2) := by decide +kernel
theorem dX10_report_37 : decode cX10_report 37 = .ok (.aload_n 0, 1) := by decide +kernel
theorem dX10_report_38 : decode cX10_report 38 = .ok (.invokevirtual 159, 3) := by decide +kernel
theorem dX10_report_41 : decode cX10_report 41 = .ok (.iadd, 1) := by decide +kernel
theorem dX10_report_42 : decode cX10_report 42 = .ok (.putfield 42, 3) := by decide +kernel
theorem dX10_report_45 : decode cX10_report 45 = .ok (.aload_n 0, 1) := by decide +kernel
theorem dX10_report_46 : decode cX10_report 46 = .ok (.getfield 22, 3) := by decide +kernel
theorem dX10_report_49 : decode cX10_report 49 = .ok (.iload 5, 2) := by decide +kernel
theorem dX10_report_51 : decode cX10_report 51 = .ok (.dup2, 1) := by decide +kernel
theorem dX10_report_52 : decode cX10_report 52 = .ok (.iaload, 1) := by decide +kernel
theorem dX10_report_53 : decode cX10_report 53 = .ok (.iconst 1, 1) := by decide +kernel
theorem dX10_report_54 : decode cX10_report 54 = .ok (.iload 4, 2) := by decide +kernel
theorem dX10_report_56 : decode cX10_report 56 = .ok (.ishl, 1) := by decide +kernel
theorem dX10_report_57 : decode cX10_report 57 = .ok (.iconst (-1), 1) := by decide +kernel
theorem dX10_report_58 : decode cX10_report 58 = .ok (.ixor, 1) := by decide +kernel
theorem dX10_report_59 : decode cX10_report 59 = .ok (.iand, 1) := by decide +kernel
theorem dX10_report_60 : decode cX10_report 60 = .ok (.iastore, 1) := by decide +kernel
theorem dX10_report_61 : decode cX10_report 61 = .ok (.aload_n 0, 1) := by decide +kernel
theorem dX10_report_62 : decode cX10_report 62 = .ok (.iload 5, 2) := by decide +kernel
theorem dX10_report_64 : decode cX10_report 64 = .ok (.invokevirtual 129, 3) := by decide +kernel
theorem dX10_report_67 : decode cX10_report 67 = .ok (.ifCond .ne 5, 3) := by decide +kernel
theorem dX10_report_70 : decode cX10_report 70 = .ok (.iconst 0, 1) := by decide +kernel
theorem dX10_report_71 : decode cX10_report 71 = .ok (.ireturn, 1) := by decide +kernel
theorem dX10_report_72 : decode cX10_report 72 = .ok (.iload 5, 2) := by decide +kernel
theorem dX10_report_74 : decode cX10_report 74 = .ok (.iconst 1, 1) := by decide +kernel
theorem dX10_report_75 : decode cX10_report 75 = .ok (.iand, 1) := by decide +kernel
theorem dX10_report_76 : decode cX10_report 76 = .ok (.istore 4, 2) := by decide +kernel
theorem dX10_report_78 : decode cX10_report 78 = .ok (.iload 5, 2) := by decide +kernel
theorem dX10_report_80 : decode cX10_report 80 = .ok (.iconst 2, 1) := by decide +kernel
theorem dX10_report_81 : decode cX10_report 81 = .ok (.idiv, 1) := by decide +kernel
theorem dX10_report_82 : decode cX10_report 82 = .ok (.istore 5, 2) := by decide +kernel
theorem dX10_report_84 : decode cX10_report 84 = .ok (.goto (-78), 3) := by decide +kernel
theorem dX10_report_87 : decode cX10_report 87 = .ok (.aload_n 0, 1) := by decide +kernel
theorem dX10_report_88 : decode cX10_report 88 = .ok (.invokevirtual 163, 3) := by decide +kernel
theorem dX10_report_91 : decode cX10_report 91 = .ok (.ireturn, 1) := by decide +kernel
theorem dX10_beQuiet_0 : decode cX10_beQuiet 0 = .ok (.iload_n 1, 1) := by decide +kernel
theorem dX10_beQuiet_1 : decode cX10_beQuiet 1 = .ok (.invokestatic 86, 3) := by decide +kernel
theorem dX10_beQuiet_4 : decode cX10_beQuiet 4 = .ok (.ifCond .ne 5, 3) := by decide +kernel
theorem dX10_beQuiet_7 : decode cX10_beQuiet 7 = .ok (.iconst (-1), 1) := by decide +kernel
theorem dX10_beQuiet_8 : decode cX10_beQuiet 8 = .ok (.ireturn, 1) := by decide +kernel
theorem dX10_beQuiet_9 : decode cX10_beQuiet 9 = .ok (.iconst 1, 1) := by decide +kernel
theorem dX10_beQuiet_10 : decode cX10_beQuiet 10 = .ok (.iload_n 1, 1) := by decide +kernel
theorem dX10_beQuiet_11 : decode cX10_beQuiet 11 = .ok (.ishl, 1) := by decide +kernel
theorem dX10_beQuiet_12 : decode cX10_beQuiet 12 = .ok (.istore_n 3, 1) := by decide +kernel
theorem dX10_beQuiet_13 : decode cX10_beQuiet 13 = .ok (.aload_n 0, 1) := by decide +kernel
theorem dX10_beQuiet_14 : decode cX10_beQuiet 14 = .ok (.getfield 25, 3) := by decide +kernel
theorem dX10_beQuiet_17 : decode cX10_beQuiet 17 = .ok (.aload_n 0, 1) := by decide +kernel
theorem dX10_beQuiet_18 : decode cX10_beQuiet 18 = .ok (.getfield 29, 3) := by decide +kernel
theorem dX10_beQuiet_21 : decode cX10_beQuiet 21 = .ok (.iconst (-1), 1) := by decide +kernel
theorem dX10_beQuiet_22 : decode cX10_beQuiet 22 = .ok (.ixor, 1) := by decide +kernel
theorem dX10_beQuiet_23 : decode cX10_beQuiet 23 = .ok (.iand, 1) := by decide +kernel
theorem dX10_beQuiet_24 : decode cX10_beQuiet 24 = .ok (.iload_n 3, 1) := by decide +kernel
theorem dX10_beQuiet_25 : decode cX10_beQuiet 25 = .ok (.iand, 1) := by decide +kernel
theorem dX10_beQuiet_26 : decode cX10_beQuiet 26 = .ok (.ifCond .eq 6, 3) := by decide +kernel
theorem dX10_beQuiet_29 : decode cX10_beQuiet 29 = .ok (.bipush (-3), 2) := by decide +kernel
theorem dX10_beQuiet_31 : decode cX10_beQuiet 31 = .ok (.ireturn, 1) := by decide +kernel
theorem dX10_beQuiet_32 : decode cX10_beQuiet 32 = .ok (.aload_n 0, 1) := by decide +kernel
theorem dX10_beQuiet_33 : decode cX10_beQuiet 33 = .ok (.invokevirtual 90, 3) := by decide +kernel
theorem dX10_beQuiet_36 : decode cX10_beQuiet 36 = .ok (.iload_n 3, 1) := by decide +kernel
theorem dX10_beQuiet_37 : decode cX10_beQuiet 37 = .ok (.iand, 1) := by decide +kernel
theorem dX10_beQuiet_38 : decode cX10_beQuiet 38 = .ok (.ifCond .ne 5, 3) := by decide +kernel
theorem dX10_beQuiet_41 : decode cX10_beQuiet 41 = .ok (.iconst 0, 1) := by decide +kernel
theorem dX10_beQuiet_42 : decode cX10_beQuiet 42 = .ok (.ireturn, 1) := by decide +kernel
theorem dX10_beQuiet_43 : decode cX10_beQuiet 43 = .ok (.aload_n 0, 1) := by decide +kernel
theorem dX10_beQuiet_44 : decode cX10_beQuiet 44 = .ok (.iload_n 1, 1) := by decide +kernel
theorem dX10_beQuiet_45 : decode cX10_beQuiet 45 = .ok (.invokestatic 118, 3) := by decide +kernel
theorem dX10_beQuiet_48 : decode cX10_beQuiet 48 = .ok (.iload_n 1, 1) := by decide +kernel
theorem dX10_beQuiet_49 : decode cX10_beQuiet 49 = .ok (.iconst 1, 1) := by decide +kernel
theorem dX10_beQuiet_50 : decode cX10_beQuiet 50 = .ok (.iand, 1) := by decide +kernel
theorem dX10_beQuiet_51 : decode cX10_beQuiet 51 = .ok (.aload_n 2, 1) := by decide +kernel
theorem dX10_beQuiet_52 : decode cX10_beQuiet 52 = .ok (.invokevirtual 132, 3) := by decide +kernel
theorem dX10_beQuiet_55 : decode cX10_beQuiet 55 = .ok (.ireturn, 1) := by decide +kernel
theorem dX10_goOut_0 : decode cX10_goOut 0 = .ok (.iload_n 1, 1) := by decide +kernel
theorem dX10_goOut_1 : decode cX10_goOut 1 = .ok (.invokestatic 86, 3) := by decide +kernel
theorem dX10_goOut_4 : decode cX10_goOut 4 = .ok (.ifCond .ne 5, 3) := by decide +kernel
theorem dX10_goOut_7 : decode cX10_goOut 7 = .ok (.iconst (-1), 1) := by decide +kernel
theorem dX10_goOut_8 : decode cX10_goOut 8 = .ok (.ireturn, 1) := by decide +kernel
theorem dX10_goOut_9 : decode cX10_goOut 9 = .ok (.iconst 1, 1) := by decide +kernel
theorem dX10_goOut_10 : decode cX10_goOut 10 = .ok (.iload_n 1, 1) := by decide +kernel
theorem dX10_goOut_11 : decode cX10_goOut 11 = .ok (.ishl, 1) := by decide +kernel
theorem dX10_goOut_12 : decode cX10_goOut 12 = .ok (.istore_n 3, 1) := by decide +kernel
theorem dX10_goOut_13 : decode cX10_goOut 13 = .ok (.aload_n 0, 1) := by decide +kernel
theorem dX10_goOut_14 : decode cX10_goOut 14 = .ok (.getfield 25, 3) := by decide +kernel
theorem dX10_goOut_17 : decode cX10_goOut 17 = .ok (.iload_n 3, 1) := by decide +kernel
theorem dX10_goOut_18 : decode cX10_goOut 18 = .ok (.iand, 1) := by decide +kernel
theorem dX10_goOut_19 : decode cX10_goOut 19 = .ok (.ifCond .ne 6, 3) := by decide +kernel
theorem dX10_goOut_22 : decode cX10_goOut 22 = .ok (.bipush (-3), 2) := by decide +kernel
theorem dX10_goOut_24 : decode cX10_goOut 24 = .ok (.ireturn, 1) := by decide +kernel
theorem dX10_goOut_25 : decode cX10_goOut 25 = .ok (.aload_n 0, 1) := by decide +kernel
theorem dX10_goOut_26 : decode cX10_goOut 26 = .ok (.getfield 32, 3) := by decide +kernel
theorem dX10_goOut_29 : decode cX10_goOut 29 = .ok (.iload_n 3, 1) := by decide +kernel
theorem dX10_goOut_30 : decode cX10_goOut 30 = .ok (.iand, 1) := by decide +kernel
theorem dX10_goOut_31 : decode cX10_goOut 31 = .ok (.ifCond .eq 7, 3) := by decide +kernel
theorem dX10_goOut_34 : decode cX10_goOut 34 = .ok (.iconst 1, 1) := by decide +kernel
theorem dX10_goOut_35 : decode cX10_goOut 35 = .ok (.goto 4, 3) := by decide +kernel
theorem dX10_goOut_38 : decode cX10_goOut 38 = .ok (.iconst 0, 1) := by decide +kernel
theorem dX10_goOut_39 : decode cX10_goOut 39 = .ok (.istore 4, 2) := by decide +kernel
theorem dX10_goOut_41 : decode cX10_goOut 41 = .ok (.aload_n 0, 1) := by decide +kernel
theorem dX10_goOut_42 : decode cX10_goOut 42 = .ok (.dup, 1) := by decide +kernel
theorem dX10_goOut_43 : decode cX10_goOut 43 = .ok (.getfield 25, 3) := by decide +kernel
theorem dX10_goOut_46 : decode cX10_goOut 46 = .ok (.iload_n 3, 1) := by decide +kernel
theorem dX10_goOut_47 : decode cX10_goOut 47 = .ok (.iconst (-1), 1) := by decide +kernel
theorem dX10_goOut_48 : decode cX10_goOut 48 = .ok (.ixor, 1) := by decide +kernel
theorem dX10_goOut_49 : decode cX10_goOut 49 = .ok (.iand, 1) := by decide +kernel
theorem dX10_goOut_50 : decode cX10_goOut 50 = .ok (.putfield 25, 3) := by decide +kernel
theorem dX10_goOut_53 : decode cX10_goOut 53 = .ok (.aload_n 0, 1) := by decide +kernel
theorem dX10_goOut_54 : decode cX10_goOut 54 = .ok (.dup, 1) := by decide +kernel
theorem dX10_goOut_55 : decode cX10_goOut 55 = .ok (.getfield 29, 3) := by decide +kernel
theorem dX10_goOut_58 : decode cX10_goOut 58 = .ok (.iload_n 3, 1) := by decide +kernel
theorem dX10_goOut_59 : decode cX10_goOut 59 = .ok (.iconst (-1), 1) := by decide +kernel
theorem dX10_goOut_60 : decode cX10_goOut 60 = .ok (.ixor, 1) := by decide +kernel
theorem dX10_goOut_61 : decode cX10_goOut 61 = .ok (.iand, 1) := by decide +kernel
theorem dX10_goOut_62 : decode cX10_goOut 62 = .ok (.putfield 29, 3) := by decide +kernel
theorem dX10_goOut_65 : decode cX10_goOut 65 = .ok (.aload_n 0, 1) := by decide +kernel
theorem dX10_goOut_66 : decode cX10_goOut 66 = .ok (.dup, 1) := by decide +kernel
theorem dX10_goOut_67 : decode cX10_goOut 67 = .ok (.getfield 32, 3) := by decide +kernel
theorem dX10_goOut_70 : decode cX10_goOut 70 = .ok (.iload_n 3, 1) := by decide +kernel
theorem dX10_goOut_71 : decode cX10_goOut 71 = .ok (.iconst (-1), 1) := by decide +kernel
theorem dX10_goOut_72 : decode cX10_goOut 72 = .ok (.ixor, 1) := by decide +kernel
theorem dX10_goOut_73 : decode cX10_goOut 73 = .ok (.iand, 1) := by decide +kernel
theorem dX10_goOut_74 : decode cX10_goOut 74 = .ok (.putfield 32, 3) := by decide +kernel
theorem dX10_goOut_77 : decode cX10_goOut 77 = .ok (.iload_n 1, 1) := by decide +kernel
theorem dX10_goOut_78 : decode cX10_goOut 78 = .ok (.invokestatic 118, 3) := by decide +kernel
theorem dX10_goOut_81 : decode cX10_goOut 81 = .ok (.istore 5, 2) := by decide +kernel
theorem dX10_goOut_83 : decode cX10_goOut 83 = .ok (.iload 4, 2) := by decide +kernel
theorem dX10_goOut_85 : decode cX10_goOut 85 = .ok (.ifCond .eq 28, 3) := by decide +kernel
theorem dX10_goOut_88 : decode cX10_goOut 88 = .ok (.aload_n 0, 1) := by decide +kernel
theorem dX10_goOut_89 : decode cX10_goOut 89 = .ok (.iload 5, 2) := by decide +kernel
theorem dX10_goOut_91 : decode cX10_goOut 91 = .ok (.invokevirtual 129, 3) := by decide +kernel
theorem dX10_goOut_94 : decode cX10_goOut 94 = .ok (.ifCond .eq 19, 3) := by decide +kernel
theorem dX10_goOut_97 : decode cX10_goOut 97 = .ok (.aload_n 0, 1) := by decide +kernel
theorem dX10_goOut_98 : decode cX10_goOut 98 = .ok (.iload 5, 2) := by decide +kernel
theorem dX10_goOut_100 : decode cX10_goOut 100 = .ok (.iconst 2, 1) := by decide +kernel
theorem dX10_goOut_101 : decode cX10_goOut 101 = .ok (.idiv, 1) := by decide +kernel
theorem dX10_goOut_102 : decode cX10_goOut 102 = .ok (.iload 5, 2) := by decide +kernel
theorem dX10_goOut_104 : decode cX10_goOut 104 = .ok (.iconst 1, 1) := by decide +kernel
theorem dX10_goOut_105 : decode cX10_goOut 105 = .ok (.iand, 1) := by decide +kernel
theorem dX10_goOut_106 : decode cX10_goOut 106 = .ok (.aload_n 2, 1) := by decide +kernel
theorem dX10_goOut_107 : decode cX10_goOut 107 = .ok (.invokevirtual 132, 3) := by decide +kernel
theorem dX10_goOut_110 : decode cX10_goOut 110 = .ok (.goto 4, 3) := by decide +kernel
theorem dX10_goOut_113 : decode cX10_goOut 113 = .ok (.iconst 0, 1) := by decide +kernel
theorem dX10_goOut_114 : decode cX10_goOut 114 = .ok (.ireturn, 1) := by decide +kernel
theorem dJ6_bitCount_0f7a4_0 : decode cJ6_bitCount_0f7a4 0 = .ok (.iload_n 0, 1) := by decide +kernel
theorem dJ6_bitCount_0f7a4_1 : decode cJ6_bitCount_0f7a4 1 = .ok (.iload_n 0, 1) := by decide +kernel
theorem dJ6_bitCount_0f7a4_2 : decode cJ6_bitCount_0f7a4 2 = .ok (.iconst 1, 1) := by decide +kernel
theorem dJ6_bitCount_0f7a4_3 : decode cJ6_bitCount_0f7a4 3 = .ok (.iushr, 1) := by decide +kernel
theorem dJ6_bitCount_0f7a4_4 : decode cJ6_bitCount_0f7a4 4 = .ok (.ldc_w 265, 3) := by decide +kernel
theorem dJ6_bitCount_0f7a4_7 : decode cJ6_bitCount_0f7a4 7 = .ok (.iand, 1) := by decide +kernel
theorem dJ6_bitCount_0f7a4_8 : decode cJ6_bitCount_0f7a4 8 = .ok (.isub, 1) := by decide +kernel
theorem dJ6_bitCount_0f7a4_9 : decode cJ6_bitCount_0f7a4 9 = .ok (.istore_n 0, 1) := by decide +kernel
theorem dJ6_bitCount_0f7a4_10 : decode cJ6_bitCount_0f7a4 10 = .ok (.iload_n 0, 1) := by decide +kernel
theorem dJ6_bitCount_0f7a4_11 : decode cJ6_bitCount_0f7a4 11 = .ok (.ldc_w 266, 3) := by decide +kernel
theorem dJ6_bitCount_0f7a4_14 : decode cJ6_bitCount_0f7a4 14 = .ok (.iand, 1) := by decide +kernel
theorem dJ6_bitCount_0f7a4_15 : decode cJ6_bitCount_0f7a4 15 = .ok (.iload_n 0, 1) := by decide +kernel
theorem dJ6_bitCount_0f7a4_16 : decode cJ6_bitCount_0f7a4 16 = .ok (.iconst 2, 1) := by decide +kernel
theorem dJ6_bitCount_0f7a4_17 : decode cJ6_bitCount_0f7a4 17 = .ok (.iushr, 1) := by decide +kernel
theorem dJ6_bitCount_0f7a4_18 : decode cJ6_bitCount_0f7a4 18 = .ok (.ldc_w 266, 3) := by decide +kernel
theorem dJ6_bitCount_0f7a4_21 : decode cJ6_bitCount_0f7a4 21 = .ok (.iand, 1) := by decide +kernel
theorem dJ6_bitCount_0f7a4_22 : decode cJ6_bitCount_0f7a4 22 = .ok (.iadd, 1) := by decide +kernel
theorem dJ6_bitCount_0f7a4_23 : decode cJ6_bitCount_0f7a4 23 = .ok (.istore_n 0, 1) := by decide +kernel
theorem dJ6_bitCount_0f7a4_24 : decode cJ6_bitCount_0f7a4 24 = .ok (.iload_n 0, 1) := by decide +kernel
theorem dJ6_bitCount_0f7a4_25 : decode cJ6_bitCount_0f7a4 25 = .ok (.iload_n 0, 1) := by decide +kernel
theorem dJ6_bitCount_0f7a4_26 : decode cJ6_bitCount_0f7a4 26 = .ok (.iconst 4, 1) := by decide +kernel
theorem dJ6_bitCount_0f7a4_27 : decode cJ6_bitCount_0f7a4 27 = .ok (.iushr, 1) := by decide +kernel
theorem dJ6_bitCount_0f7a4_28 : decode cJ6_bitCount_0f7a4 28 = .ok (.iadd, 1) := by decide +kernel
theorem dJ6_bitCount_0f7a4_29 : decode cJ6_bitCount_0f7a4 29 = .ok (.ldc_w 267, 3) := by decide +kernel
theorem dJ6_bitCount_0f7a4_32 : decode cJ6_bitCount_0f7a4 32 = .ok (.iand, 1) := by decide +kernel
theorem dJ6_bitCount_0f7a4_33 : decode cJ6_bitCount_0f7a4 33 = .ok (.istore_n 0, 1) := by decide +kernel
theorem dJ6_bitCount_0f7a4_34 : decode cJ6_bitCount_0f7a4 34 = .ok (.iload_n 0, 1) := by decide +kernel
theorem dJ6_bitCount_0f7a4_35 : decode cJ6_bitCount_0f7a4 35 = .ok (.iload_n 0, 1) := by decide +kernel
theorem dJ6_bitCount_0f7a4_36 : decode cJ6_bitCount_0f7a4 36 = .ok (.bipush 8, 2) := by decide +kernel
theorem dJ6_bitCount_0f7a4_38 : decode cJ6_bitCount_0f7a4 38 = .ok (.iushr, 1) := by decide +kernel
theorem dJ6_bitCount_0f7a4_39 : decode cJ6_bitCount_0f7a4 39 = .ok (.iadd, 1) := by decide +kernel
theorem dJ6_bitCount_0f7a4_40 : decode cJ6_bitCount_0f7a4 40 = .ok (.istore_n 0, 1) := by decide +kernel
theorem dJ6_bitCount_0f7a4_41 : decode cJ6_bitCount_0f7a4 41 = .ok (.iload_n 0, 1) := by decide +kernel
theorem dJ6_bitCount_0f7a4_42 : decode cJ6_bitCount_0f7a4 42 = .ok (.iload_n 0, 1) := by decide +kernel
theorem dJ6_bitCount_0f7a4_43 : decode cJ6_bitCount_0f7a4 43 = .ok (.bipush 16, 2) := by decide +kernel
theorem dJ6_bitCount_0f7a4_45 : decode cJ6_bitCount_0f7a4 45 = .ok (.iushr, 1) := by decide +kernel
theorem dJ6_bitCount_0f7a4_46 : decode cJ6_bitCount_0f7a4 46 = .ok (.iadd, 1) := by decide +kernel
theorem dJ6_bitCount_0f7a4_47 : decode cJ6_bitCount_0f7a4 47 = .ok (.istore_n 0, 1) := by decide +kernel
theorem dJ6_bitCount_0f7a4_48 : decode cJ6_bitCount_0f7a4 48 = .ok (.iload_n 0, 1) := by decide +kernel
theorem dJ6_bitCount_0f7a4_49 : decode cJ6_bitCount_0f7a4 49 = .ok (.bipush 63, 2) := by decide +kernel
theorem dJ6_bitCount_0f7a4_51 : decode cJ6_bitCount_0f7a4 51 = .ok (.iand, 1) := by decide +kernel
theorem dJ6_bitCount_0f7a4_52 : decode cJ6_bitCount_0f7a4 52 = .ok (.ireturn, 1) := by decide +kernel
theorem dX10_standStill_0 : decode cX10_standStill 0 = .ok (.iload_n 1, 1) := by decide +kernel
theorem dX10_standStill_1 : decode cX10_standStill 1 = .ok (.invokestatic 86, 3) := by decide +kernel
theorem dX10_standStill_4 : decode cX10_standStill 4 = .ok (.ifCond .ne 5, 3) := by decide +kernel
theorem dX10_standStill_7 : decode cX10_standStill 7 = .ok (.iconst (-1), 1) := by decide +kernel
theorem dX10_standStill_8 : decode cX10_standStill 8 = .ok (.ireturn, 1) := by decide +kernel
theorem dX10_standStill_9 : decode cX10_standStill 9 = .ok (.iconst 1, 1) := by decide +kernel
theorem dX10_standStill_10 : decode cX10_standStill 10 = .ok (.iload_n 1, 1) := by decide +kernel
theorem dX10_standStill_11 : decode cX10_standStill 11 = .ok (.ishl, 1) := by decide +kernel
theorem dX10_standStill_12 : decode cX10_standStill 12 = .ok (.istore_n 2, 1) := by decide +kernel
theorem dX10_standStill_13 : decode cX10_standStill 13 = .ok (.aload_n 0, 1) := by decide +kernel
theorem dX10_standStill_14 : decode cX10_standStill 14 = .ok (.getfield 25, 3) := by decide +kernel
theorem dX10_standStill_17 : decode cX10_standStill 17 = .ok (.iload_n 2, 1) := by decide +kernel
theorem dX10_standStill_18 : decode cX10_standStill 18 = .ok (.iand, 1) := by decide +kernel
theorem dX10_standStill_19 : decode cX10_standStill 19 = .ok (.ifCond .eq 12, 3) := by decide +kernel
theorem dX10_standStill_22 : decode cX10_standStill 22 = .ok (.aload_n 0, 1) := by decide +kernel
theorem dX10_standStill_23 : decode cX10_standStill 23 = .ok (.getfield 29, 3) := by decide +kernel
theorem dX10_standStill_26 : decode cX10_standStill 26 = .ok (.iload_n 2, 1) := by decide +kernel
theorem dX10_standStill_27 : decode cX10_standStill 27 = .ok (.iand, 1) := by decide +kernel
theorem dX10_standStill_28 : decode cX10_standStill 28 = .ok (.ifCond .eq 6, 3) := by decide +kernel
theorem dX10_standStill_31 : decode cX10_standStill 31 = .ok (.bipush (-3), 2) := by decide +kernel
theorem dX10_standStill_33 : decode cX10_standStill 33 = .ok (.ireturn, 1) := by decide +kernel
theorem dX10_standStill_34 : decode cX10_standStill 34 = .ok (.aload_n 0, 1) := by decide +kernel
theorem dX10_standStill_35 : decode cX10_standStill 35 = .ok (.dup, 1) := by decide +kernel
theorem dX10_standStill_36 : decode cX10_standStill 36 = .ok (.getfield 29, 3) := by decide +kernel
theorem dX10_standStill_39 : decode cX10_standStill 39 = .ok (.iload_n 2, 1) := by decide +kernel
theorem dX10_standStill_40 : decode cX10_standStill 40 = .ok (.ior, 1) := by decide +kernel
theorem dX10_standStill_41 : decode cX10_standStill 41 = .ok (.putfield 29, 3) := by decide +kernel
theorem dX10_standStill_44 : decode cX10_standStill 44 = .ok (.aload_n 0, 1) := by decide +kernel
theorem dX10_standStill_45 : decode cX10_standStill 45 = .ok (.dup, 1) := by decide +kernel
theorem dX10_standStill_46 : decode cX10_standStill 46 = .ok (.getfield 32, 3) := by decide +kernel
theorem dX10_standStill_49 : decode cX10_standStill 49 = .ok (.aload_n 0, 1) := by decide +kernel
theorem dX10_standStill_50 : decode cX10_standStill 50 = .ok (.invokevirtual 90, 3) := by decide +kernel
theorem dX10_standStill_53 : decode cX10_standStill 53 = .ok (.iload_n 2, 1) := by decide +kernel
theorem dX10_standStill_54 : decode cX10_standStill 54 = .ok (.iand, 1) := by decide +kernel
theorem dX10_standStill_55 : decode cX10_standStill 55 = .ok (.ior, 1) := by decide +kernel
theorem dX10_standStill_56 : decode cX10_standStill 56 = .ok (.putfield 32, 3) := by decide +kernel
theorem dX10_standStill_59 : decode cX10_standStill 59 = .ok (.aload_n 0, 1) := by decide +kernel
theorem dX10_standStill_60 : decode cX10_standStill 60 = .ok (.getfield 29, 3) := by decide +kernel
theorem dX10_standStill_63 : decode cX10_standStill 63 = .ok (.iload_n 1, 1) := by decide +kernel
theorem dX10_standStill_64 : decode cX10_standStill 64 = .ok (.invokestatic 118, 3) := by decide +kernel
theorem dX10_standStill_67 : decode cX10_standStill 67 = .ok (.invokestatic 121, 3) := by decide +kernel
theorem dX10_standStill_70 : decode cX10_standStill 70 = .ok (.iand, 1) := by decide +kernel
theorem dX10_standStill_71 : decode cX10_standStill 71 = .ok (.invokestatic 124, 3) := by decide +kernel
theorem dX10_standStill_74 : decode cX10_standStill 74 = .ok (.ireturn, 1) := by decide +kernel
theorem dX10_goOn_0 : decode cX10_goOn 0 = .ok (.iload_n 1, 1) := by decide +kernel
theorem dX10_goOn_1 : decode cX10_goOn 1 = .ok (.invokestatic 86, 3) := by decide +kernel
theorem dX10_goOn_4 : decode cX10_goOn 4 = .ok (.ifCond .ne 5, 3) := by decide +kernel
theorem dX10_goOn_7 : decode cX10_goOn 7 = .ok (.iconst (-1), 1) := by decide +kernel
theorem dX10_goOn_8 : decode cX10_goOn 8 = .ok (.ireturn, 1) := by decide +kernel
theorem dX10_goOn_9 : decode cX10_goOn 9 = .ok (.aload_n 0, 1) := by decide +kernel
theorem dX10_goOn_10 : decode cX10_goOn 10 = .ok (.iload_n 1, 1) := by decide +kernel
theorem dX10_goOn_11 : decode cX10_goOn 11 = .ok (.invokevirtual 109, 3) := by decide +kernel
theorem dX10_goOn_14 : decode cX10_goOn 14 = .ok (.istore_n 2, 1) := by decide +kernel
theorem dX10_goOn_15 : decode cX10_goOn 15 = .ok (.iload_n 2, 1) := by decide +kernel
theorem dX10_goOn_16 : decode cX10_goOn 16 = .ok (.invokestatic 112, 3) := by decide +kernel
theorem dX10_goOn_19 : decode cX10_goOn 19 = .ok (.ifCond .eq 14, 3) := by decide +kernel
theorem dX10_goOn_22 : decode cX10_goOn 22 = .ok (.aload_n 0, 1) := by decide +kernel
theorem dX10_goOn_23 : decode cX10_goOn 23 = .ok (.getfield 29, 3) := by decide +kernel
theorem dX10_goOn_26 : decode cX10_goOn 26 = .ok (.iconst 1, 1) := by decide +kernel
theorem dX10_goOn_27 : decode cX10_goOn 27 = .ok (.iload_n 1, 1) := by decide +kernel
theorem dX10_goOn_28 : decode cX10_goOn 28 = .ok (.ishl, 1) := by decide +kernel
theorem dX10_goOn_29 : decode cX10_goOn 29 = .ok (.iand, 1) := by decide +kernel
theorem dX10_goOn_30 : decode cX10_goOn 30 = .ok (.ifCond .eq 6, 3) := by decide +kernel
theorem dX10_goOn_33 : decode cX10_goOn 33 = .ok (.bipush (-3), 2) := by decide +kernel
theorem dX10_goOn_35 : decode cX10_goOn 35 = .ok (.ireturn, 1) := by decide +kernel
theorem dX10_goOn_36 : decode cX10_goOn 36 = .ok (.aload_n 0, 1) := by decide +kernel
theorem dX10_goOn_37 : decode cX10_goOn 37 = .ok (.getfield 18, 3) := by decide +kernel
theorem dX10_goOn_40 : decode cX10_goOn 40 = .ok (.iload_n 1, 1) := by decide +kernel
theorem dX10_goOn_41 : decode cX10_goOn 41 = .ok (.aload_n 0, 1) := by decide +kernel
theorem dX10_goOn_42 : decode cX10_goOn 42 = .ok (.getfield 12, 3) := by decide +kernel
theorem dX10_goOn_45 : decode cX10_goOn 45 = .ok (.getfield 115, 3) := by decide +kernel
theorem dX10_goOn_48 : decode cX10_goOn 48 = .ok (.iload_n 2, 1) := by decide +kernel
theorem dX10_goOn_49 : decode cX10_goOn 49 = .ok (.iaload, 1) := by decide +kernel
theorem dX10_goOn_50 : decode cX10_goOn 50 = .ok (.iastore, 1) := by decide +kernel
theorem dX10_goOn_51 : decode cX10_goOn 51 = .ok (.iconst 1, 1) := by decide +kernel
theorem dX10_goOn_52 : decode cX10_goOn 52 = .ok (.aload_n 0, 1) := by decide +kernel
theorem dX10_goOn_53 : decode cX10_goOn 53 = .ok (.getfield 18, 3) := by decide +kernel
theorem dX10_goOn_56 : decode cX10_goOn 56 = .ok (.iload_n 1, 1) := by decide +kernel
theorem dX10_goOn_57 : decode cX10_goOn 57 = .ok (.iaload, 1) := by decide +kernel
theorem dX10_goOn_58 : decode cX10_goOn 58 = .ok (.iadd, 1) := by decide +kernel
theorem dX10_goOn_59 : decode cX10_goOn 59 = .ok (.ireturn, 1) := by decide +kernel
theorem dX10_goIn_0 : decode cX10_goIn 0 = .ok (.iload_n 1, 1) := by decide +kernel
theorem dX10_goIn_1 : decode cX10_goIn 1 = .ok (.invokestatic 86, 3) := by decide +kernel
theorem dX10_goIn_4 : decode cX10_goIn 4 = .ok (.ifCond .ne 5, 3) := by decide +kernel
theorem dX10_goIn_7 : decode cX10_goIn 7 = .ok (.iconst (-1), 1) := by decide +kernel
theorem dX10_goIn_8 : decode cX10_goIn 8 = .ok (.ireturn, 1) := by decide +kernel
theorem dX10_goIn_9 : decode cX10_goIn 9 = .ok (.iconst 1, 1) := by decide +kernel
theorem dX10_goIn_10 : decode cX10_goIn 10 = .ok (.iload_n 1, 1) := by decide +kernel
theorem dX10_goIn_11 : decode cX10_goIn 11 = .ok (.ishl, 1) := by decide +kernel
theorem dX10_goIn_12 : decode cX10_goIn 12 = .ok (.istore_n 2, 1) := by decide +kernel
theorem dX10_goIn_13 : decode cX10_goIn 13 = .ok (.aload_n 0, 1) := by decide +kernel
theorem dX10_goIn_14 : decode cX10_goIn 14 = .ok (.getfield 25, 3) := by decide +kernel
theorem dX10_goIn_17 : decode cX10_goIn 17 = .ok (.iload_n 2, 1) := by decide +kernel
theorem dX10_goIn_18 : decode cX10_goIn 18 = .ok (.iand, 1) := by decide +kernel
theorem dX10_goIn_19 : decode cX10_goIn 19 = .ok (.ifCond .eq 6, 3) := by decide +kernel
theorem dX10_goIn_22 : decode cX10_goIn 22 = .ok (.bipush (-3), 2) := by decide +kernel
theorem dX10_goIn_24 : decode cX10_goIn 24 = .ok (.ireturn, 1) := by decide +kernel
theorem dX10_goIn_25 : decode cX10_goIn 25 = .ok (.aload_n 0, 1) := by decide +kernel
theorem dX10_goIn_26 : decode cX10_goIn 26 = .ok (.dup, 1) := by decide +kernel
theorem dX10_goIn_27 : decode cX10_goIn 27 = .ok (.getfield 25, 3) := by decide +kernel
theorem dX10_goIn_30 : decode cX10_goIn 30 = .ok (.iload_n 2, 1) := by decide +kernel
theorem dX10_goIn_31 : decode cX10_goIn 31 = .ok (.ior, 1) := by decide +kernel
theorem dX10_goIn_32 : decode cX10_goIn 32 = .ok (.putfield 25, 3) := by decide +kernel
theorem dX10_goIn_35 : decode cX10_goIn 35 = .ok (.aload_n 0, 1) := by decide +kernel
theorem dX10_goIn_36 : decode cX10_goIn 36 = .ok (.getfield 18, 3) := by decide +kernel
theorem dX10_goIn_39 : decode cX10_goIn 39 = .ok (.iload_n 1, 1) := by decide +kernel
theorem dX10_goIn_40 : decode cX10_goIn 40 = .ok (.aload_n 0, 1) := by decide +kernel
theorem dX10_goIn_41 : decode cX10_goIn 41 = .ok (.getfield 12, 3) := by decide +kernel
theorem dX10_goIn_44 : decode cX10_goIn 44 = .ok (.getfield 106, 3) := by decide +kernel
theorem dX10_goIn_47 : decode cX10_goIn 47 = .ok (.iastore, 1) := by decide +kernel
theorem dX10_goIn_48 : decode cX10_goIn 48 = .ok (.iconst 1, 1) := by decide +kernel
theorem dX10_goIn_49 : decode cX10_goIn 49 = .ok (.aload_n 0, 1) := by decide +kernel
theorem dX10_goIn_50 : decode cX10_goIn 50 = .ok (.getfield 18, 3) := by decide +kernel
theorem dX10_goIn_53 : decode cX10_goIn 53 = .ok (.iload_n 1, 1) := by decide +kernel
theorem dX10_goIn_54 : decode cX10_goIn 54 = .ok (.iaload, 1) := by decide +kernel
theorem dX10_goIn_55 : decode cX10_goIn 55 = .ok (.iadd, 1) := by decide +kernel
theorem dX10_goIn_56 : decode cX10_goIn 56 = .ok (.ireturn, 1) := by decide +kernel
theorem dX0_remove_0 : decode cX0_remove 0 = .ok (.aload_n 0, 1) := by decide +kernel
theorem dX0_remove_1 : decode cX0_remove 1 = .ok (.iload_n 1, 1) := by decide +kernel
theorem dX0_remove_2 : decode cX0_remove 2 = .ok (.invokevirtual 50, 3) := by decide +kernel
theorem dX0_remove_5 : decode cX0_remove 5 = .ok (.istore_n 2, 1) := by decide +kernel
theorem dX0_remove_6 : decode cX0_remove 6 = .ok (.aload_n 0, 1) := by decide +kernel
theorem dX0_remove_7 : decode cX0_remove 7 = .ok (.iload_n 2, 1) := by decide +kernel
theorem dX0_remove_8 : decode cX0_remove 8 = .ok (.invokevirtual 54, 3) := by decide +kernel
theorem dX0_remove_11 : decode cX0_remove 11 = .ok (.istore_n 3, 1) := by decide +kernel
theorem dX0_remove_12 : decode cX0_remove 12 = .ok (.iload_n 3, 1) := by decide +kernel
theorem dX0_remove_13 : decode cX0_remove 13 = .ok (.invokestatic 46, 3) := by decide +kernel
theorem dX0_remove_16 : decode cX0_remove 16 = .ok (.ifCond .eq 13, 3) := by decide +kernel
theorem dX0_remove_19 : decode cX0_remove 19 = .ok (.aload_n 0, 1) := by decide +kernel
theorem dX0_remove_20 : decode cX0_remove 20 = .ok (.getfield 15, 3) := by decide +kernel
theorem dX0_remove_23 : decode cX0_remove 23 = .ok (.iload_n 3, 1) := by decide +kernel
theorem dX0_remove_24 : decode cX0_remove 24 = .ok (.iaload, 1) := by decide +kernel
theorem dX0_remove_25 : decode cX0_remove 25 = .ok (.iload_n 1, 1) := by decide +kernel
theorem dX0_remove_26 : decode cX0_remove 26 = .ok (.if_icmp .eq 6, 3) := by decide +kernel
theorem dX0_remove_29 : decode cX0_remove 29 = .ok (.bipush (-3), 2) := by decide +kernel
theorem dX0_remove_31 : decode cX0_remove 31 = .ok (.ireturn, 1) := by decide +kernel
theorem dX0_remove_32 : decode cX0_remove 32 = .ok (.aload_n 0, 1) := by decide +kernel
theorem dX0_remove_33 : decode cX0_remove 33 = .ok (.iload_n 2, 1) := by decide +kernel
theorem dX0_remove_34 : decode cX0_remove 34 = .ok (.aload_n 0, 1) := by decide +kernel
theorem dX0_remove_35 : decode cX0_remove 35 = .ok (.getfield 21, 3) := by decide +kernel
theorem dX0_remove_38 : decode cX0_remove 38 = .ok (.iload_n 3, 1) := by decide +kernel
theorem dX0_remove_39 : decode cX0_remove 39 = .ok (.iaload, 1) := by decide +kernel
theorem dX0_remove_40 : decode cX0_remove 40 = .ok (.invokevirtual 61, 3) := by decide +kernel
theorem dX0_remove_43 : decode cX0_remove 43 = .ok (.aload_n 0, 1) := by decide +kernel
theorem dX0_remove_44 : decode cX0_remove 44 = .ok (.iload_n 3, 1) := by decide +kernel
theorem dX0_remove_45 : decode cX0_remove 45 = .ok (.invokevirtual 65, 3) := by decide +kernel
theorem dX0_remove_48 : decode cX0_remove 48 = .ok (.iload_n 3, 1) := by decide +kernel
theorem dX0_remove_49 : decode cX0_remove 49 = .ok (.ireturn, 1) := by decide +kernel
theorem dX10_dropKey_0 : decode cX10_dropKey 0 = .ok (.iload_n 1, 1) := by decide +kernel
theorem dX10_dropKey_1 : decode cX10_dropKey 1 = .ok (.ifCond .lt 9, 3) := by decide +kernel
theorem dX10_dropKey_4 : decode cX10_dropKey 4 = .ok (.iload_n 1, 1) := by decide +kernel
theorem dX10_dropKey_5 : decode cX10_dropKey 5 = .ok (.bipush 100, 2) := by decide +kernel
theorem dX10_dropKey_7 : decode cX10_dropKey 7 = .ok (.if_icmp .lt 5, 3) := by decide +kernel
theorem dX10_dropKey_10 : decode cX10_dropKey 10 = .ok (.iconst (-1), 1) := by decide +kernel
theorem dX10_dropKey_11 : decode cX10_dropKey 11 = .ok (.ireturn, 1) := by decide +kernel
theorem dX10_dropKey_12 : decode cX10_dropKey 12 = .ok (.aload_n 0, 1) := by decide +kernel
theorem dX10_dropKey_13 : decode cX10_dropKey 13 = .ok (.getfield 12, 3) := by decide +kernel
theorem dX10_dropKey_16 : decode cX10_dropKey 16 = .ok (.iload_n 1, 1) := by decide +kernel
theorem dX10_dropKey_17 : decode cX10_dropKey 17 = .ok (.invokevirtual 103, 3) := by decide +kernel
theorem dX10_dropKey_20 : decode cX10_dropKey 20 = .ok (.ireturn, 1) := by decide +kernel
theorem dX10_act_0 : decode cX10_act 0 = .ok (.iload_n 1, 1) := by decide +kernel
theorem dX10_act_1 : decode cX10_act 1 = .ok (.tableswitch 101 0 7 #[47, 56, 62, 68, 74, 80, 88, 96], 47) := by decide +kernel
theorem dX10_act_48 : decode cX10_act 48 = .ok (.aload_n 0, 1) := by decide +kernel
theorem dX10_act_49 : decode cX10_act 49 = .ok (.iload_n 2, 1) := by decide +kernel
theorem dX10_act_50 : decode cX10_act 50 = .ok (.iload_n 3, 1) := by decide +kernel
theorem dX10_act_51 : decode cX10_act 51 = .ok (.aload 4, 2) := by decide +kernel
theorem dX10_act_53 : decode cX10_act 53 = .ok (.invokevirtual 58, 3) := by decide +kernel
theorem dX10_act_56 : decode cX10_act 56 = .ok (.ireturn, 1) := by decide +kernel
theorem dX10_act_57 : decode cX10_act 57 = .ok (.aload_n 0, 1) := by decide +kernel
theorem dX10_act_58 : decode cX10_act 58 = .ok (.iload_n 2, 1) := by decide +kernel
theorem dX10_act_59 : decode cX10_act 59 = .ok (.invokevirtual 62, 3) := by decide +kernel
theorem dX10_act_62 : decode cX10_act 62 = .ok (.ireturn, 1) := by decide +kernel
theorem dX10_act_63 : decode cX10_act 63 = .ok (.aload_n 0, 1) := by decide +kernel
theorem dX10_act_64 : decode cX10_act 64 = .ok (.iload_n 2, 1) := by decide +kernel
theorem dX10_act_65 : decode cX10_act 65 = .ok (.invokevirtual 66, 3) := by decide +kernel
theorem dX10_act_68 : decode cX10_act 68 = .ok (.ireturn, 1) := by decide +kernel
theorem dX10_act_69 : decode cX10_act 69 = .ok (.aload_n 0, 1) := by decide +kernel
theorem dX10_act_70 : decode cX10_act 70 = .ok (.iload_n 2, 1) := by decide +kernel
theorem dX10_act_71 : decode cX10_act 71 = .ok (.invokevirtual 69, 3) := by decide +kernel
theorem dX10_act_74 : decode cX10_act 74 = .ok (.ireturn, 1) := by decide +kernel
theorem dX10_act_75 : decode cX10_act 75 = .ok (.aload_n 0, 1) := by decide +kernel
theorem dX10_act_76 : decode cX10_act 76 = .ok (.iload_n 2, 1) := by decide +kernel
theorem dX10_act_77 : decode cX10_act 77 = .ok (.invokevirtual 72, 3) := by decide +kernel
theorem dX10_act_80 : decode cX10_act 80 = .ok (.ireturn, 1) := by decide +kernel
theorem dX10_act_81 : decode cX10_act 81 = .ok (.aload_n 0, 1) := by decide +kernel
theorem dX10_act_82 : decode cX10_act 82 = .ok (.iload_n 2, 1) := by decide +kernel
theorem dX10_act_83 : decode cX10_act 83 = .ok (.aload 4, 2) := by decide +kernel
theorem dX10_act_85 : decode cX10_act 85 = .ok (.invokevirtual 75, 3) := by decide +kernel
theorem dX10_act_88 : decode cX10_act 88 = .ok (.ireturn, 1) := by decide +kernel
theorem dX10_act_89 : decode cX10_act 89 = .ok (.aload_n 0, 1) := by decide +kernel
theorem dX10_act_90 : decode cX10_act 90 = .ok (.iload_n 2, 1) := by decide +kernel
theorem dX10_act_91 : decode cX10_act 91 = .ok (.aload 4, 2) := by decide +kernel
theorem dX10_act_93 : decode cX10_act 93 = .ok (.invokevirtual 79, 3) := by decide +kernel
theorem dX10_act_96 : decode cX10_act 96 = .ok (.ireturn, 1) := by decide +kernel
theorem dX10_act_97 : decode cX10_act 97 = .ok (.aload_n 0, 1) := by decide +kernel
theorem dX10_act_98 : decode cX10_act 98 = .ok (.invokevirtual 82, 3) := by decide +kernel
theorem dX10_act_101 : decode cX10_act 101 = .ok (.ireturn, 1) := by decide +kernel
theorem dX10_act_102 : decode cX10_act 102 = .ok (.bipush (-3), 2) := by decide +kernel
theorem dX10_act_104 : decode cX10_act 104 = .ok (.ireturn, 1) := by decide +kernel
theorem dX2_commit_0 : decode cX2_commit 0 = .ok (.aload_n 0, 1) := by decide +kernel
theorem dX2_commit_1 : decode cX2_commit 1 = .ok (.getfield 17, 3) := by decide +kernel
theorem dX2_commit_4 : decode cX2_commit 4 = .ok (.aload_n 0, 1) := by decide +kernel
theorem dX2_commit_5 : decode cX2_commit 5 = .ok (.aload_n 0, 1) := by decide +kernel
theorem dX2_commit_6 : decode cX2_commit 6 = .ok (.getfield 25, 3) := by decide +kernel
theorem dX2_commit_9 : decode cX2_commit 9 = .ok (.invokevirtual 29, 3) := by decide +kernel
theorem dX2_commit_12 : decode cX2_commit 12 = .ok (.iload_n 1, 1) := by decide +kernel
theorem dX2_commit_13 : decode cX2_commit 13 = .ok (.iastore, 1) := by decide +kernel
theorem dX2_commit_14 : decode cX2_commit 14 = .ok (.aload_n 0, 1) := by decide +kernel
theorem dX2_commit_15 : decode cX2_commit 15 = .ok (.getfield 25, 3) := by decide +kernel
theorem dX2_commit_18 : decode cX2_commit 18 = .ok (.bipush 16, 2) := by decide +kernel
theorem dX2_commit_20 : decode cX2_commit 20 = .ok (.if_icmp .ge 16, 3) := by decide +kernel
theorem dX2_commit_23 : decode cX2_commit 23 = .ok (.aload_n 0, 1) := by decide +kernel
theorem dX2_commit_24 : decode cX2_commit 24 = .ok (.dup, 1) := by decide +kernel
theorem dX2_commit_25 : decode cX2_commit 25 = .ok (.getfield 25, 3) := by decide +kernel
theorem dX2_commit_28 : decode cX2_commit 28 = .ok (.iconst 1, 1) := by decide +kernel
theorem dX2_commit_29 : decode cX2_commit 29 = .ok (.iadd, 1) := by decide +kernel
theorem dX2_commit_30 : decode cX2_commit 30 = .ok (.putfield 25, 3) := by decide +kernel
theorem dX2_commit_33 : decode cX2_commit 33 = .ok (.goto 12, 3) := by decide +kernel
theorem dX2_commit_36 : decode cX2_commit 36 = .ok (.aload_n 0, 1) := by decide +kernel
theorem dX2_commit_37 : decode cX2_commit 37 = .ok (.aload_n 0, 1) := by decide +kernel
theorem dX2_commit_38 : decode cX2_commit 38 = .ok (.iconst 1, 1) := by decide +kernel
theorem dX2_commit_39 : decode cX2_commit 39 = .ok (.invokevirtual 29, 3) := by decide +kernel
theorem dX2_commit_42 : decode cX2_commit 42 = .ok (.putfield 21, 3) := by decide +kernel
theorem dX2_commit_45 : decode cX2_commit 45 = .ok (.return_, 1) := by decide +kernel
theorem dX11_runClause_0 : decode cX11_runClause 0 = .ok (.aload_n 1, 1) := by decide +kernel
theorem dX11_runClause_1 : decode cX11_runClause 1 = .ok (.iload_n 2, 1) := by decide +kernel
theorem dX11_runClause_2 : decode cX11_runClause 2 = .ok (.iconst 3, 1) := by decide +kernel
theorem dX11_runClause_3 : decode cX11_runClause 3 = .ok (.invokevirtual 395, 3) := by decide +kernel
theorem dX11_runClause_6 : decode cX11_runClause 6 = .ok (.istore_n 3, 1) := by decide +kernel
theorem dX11_runClause_7 : decode cX11_runClause 7 = .ok (.aload_n 1, 1) := by decide +kernel
theorem dX11_runClause_8 : decode cX11_runClause 8 = .ok (.iload_n 2, 1) := by decide +kernel
theorem dX11_runClause_9 : decode cX11_runClause 9 = .ok (.iconst 0, 1) := by decide +kernel
theorem dX11_runClause_10 : decode cX11_runClause 10 = .ok (.invokevirtual 395, 3) := by decide +kernel
theorem dX11_runClause_13 : decode cX11_runClause 13 = .ok (.istore 4, 2) := by decide +kernel
theorem dX11_runClause_15 : decode cX11_runClause 15 = .ok (.iconst 0, 1) := by decide +kernel
theorem dX11_runClause_16 : decode cX11_runClause 16 = .ok (.istore 5, 2) := by decide +kernel
theorem dX11_runClause_18 : decode cX11_runClause 18 = .ok (.iload 5, 2) := by decide +kernel
theorem dX11_runClause_20 : decode cX11_runClause 20 = .ok (.iload_n 3, 1) := by decide +kernel
theorem dX11_runClause_21 : decode cX11_runClause 21 = .ok (.if_icmp .ge 165, 3) := by decide +kernel
theorem dX11_runClause_24 : decode cX11_runClause 24 = .ok (.aload_n 0, 1) := by decide +kernel
theorem dX11_runClause_25 : decode cX11_runClause 25 = .ok (.invokevirtual 398, 3) := by decide +kernel
theorem dX11_runClause_28 : decode cX11_runClause 28 = .ok (.aload_n 0, 1) := by decide +kernel
theorem dX11_runClause_29 : decode cX11_runClause 29 = .ok (.getfield 22, 3) := by decide +kernel
theorem dX11_runClause_32 : decode cX11_runClause 32 = .ok (.aload_n 1, 1) := by decide +kernel
theorem dX11_runClause_33 : decode cX11_runClause 33 = .ok (.aload_n 1, 1) := by decide +kernel
theorem dX11_runClause_34 : decode cX11_runClause 34 = .ok (.iload_n 2, 1) := by decide +kernel
theorem dX11_runClause_35 : decode cX11_runClause 35 = .ok (.iconst 4, 1) := by decide +kernel
theorem dX11_runClause_36 : decode cX11_runClause 36 = .ok (.invokevirtual 395, 3) := by decide +kernel
theorem dX11_runClause_39 : decode cX11_runClause 39 = .ok (.invokevirtual 401, 3) := by decide +kernel
theorem dX11_runClause_42 : decode cX11_runClause 42 = .ok (.ifCond .eq 138, 3) := by decide +kernel
theorem dX11_runClause_45 : decode cX11_runClause 45 = .ok (.aload_n 0, 1) := by decide +kernel
theorem dX11_runClause_46 : decode cX11_runClause 46 = .ok (.getfield 22, 3) := by decide +kernel
theorem dX11_runClause_49 : decode cX11_runClause 49 = .ok (.getfield 403, 3) := by decide +kernel
theorem dX11_runClause_52 : decode cX11_runClause 52 = .ok (.lconst 0, 1) := by decide +kernel
theorem dX11_runClause_53 : decode cX11_runClause 53 = .ok (.lcmp, 1) := by decide +kernel
theorem dX11_runClause_54 : decode cX11_runClause 54 = .ok (.ifCond .ne 6, 3) := by decide +kernel
theorem dX11_runClause_57 : decode cX11_runClause 57 = .ok (.goto 123, 3) := by decide +kernel
theorem dX11_runClause_60 : decode cX11_runClause 60 = .ok (.aload_n 0, 1) := by decide +kernel
theorem dX11_runClause_61 : decode cX11_runClause 61 = .ok (.getfield 22, 3) := by decide +kernel
theorem dX11_runClause_64 : decode cX11_runClause 64 = .ok (.aload_n 1, 1) := by decide +kernel
theorem dX11_runClause_65 : decode cX11_runClause 65 = .ok (.aload_n 1, 1) := by decide +kernel
theorem dX11_runClause_66 : decode cX11_runClause 66 = .ok (.iload_n 2, 1) := by decide +kernel
theorem dX11_runClause_67 : decode cX11_runClause 67 = .ok (.iconst 1, 1) := by decide +kernel
theorem dX11_runClause_68 : decode cX11_runClause 68 = .ok (.invokevirtual 395, 3) := by decide +kernel
theorem dX11_runClause_71 : decode cX11_runClause 71 = .ok (.invokevirtual 401, 3) := by decide +kernel
theorem dX11_runClause_74 : decode cX11_runClause 74 = .ok (.ifCond .ne 5, 3) := by decide +kernel
theorem dX11_runClause_77 : decode cX11_runClause 77 = .ok (.iconst 0, 1) := by decide +kernel
theorem dX11_runClause_78 : decode cX11_runClause 78 = .ok (.ireturn, 1) := by decide +kernel
theorem dX11_runClause_79 : decode cX11_runClause 79 = .ok (.aload_n 0, 1) := by decide +kernel
theorem dX11_runClause_80 : decode cX11_runClause 80 = .ok (.getfield 22, 3) := by decide +kernel
theorem dX11_runClause_83 : decode cX11_runClause 83 = .ok (.getfield 403, 3) := by decide +kernel
theorem dX11_runClause_86 : decode cX11_runClause 86 = .ok (.l2i, 1) := by decide +kernel
theorem dX11_runClause_87 : decode cX11_runClause 87 = .ok (.istore 6, 2) := by decide +kernel
theorem dX11_runClause_89 : decode cX11_runClause 89 = .ok (.aload_n 0, 1) := by decide +kernel
theorem dX11_runClause_90 : decode cX11_runClause 90 = .ok (.getfield 22, 3) := by decide +kernel
theorem dX11_runClause_93 : decode cX11_runClause 93 = .ok (.aload_n 1, 1) := by decide +kernel
theorem dX11_runClause_94 : decode cX11_runClause 94 = .ok (.aload_n 1, 1) := by decide +kernel
theorem dX11_runClause_95 : decode cX11_runClause 95 = .ok (.iload_n 2, 1) := by decide +kernel
theorem dX11_runClause_96 : decode cX11_runClause 96 = .ok (.iconst 2, 1) := by decide +kernel
theorem dX11_runClause_97 : decode cX11_runClause 97 = .ok (.invokevirtual 395, 3) := by decide +kernel
theorem dX11_runClause_100 : decode cX11_runClause 100 = .ok (.invokevirtual 401, 3) := by decide +kernel
theorem dX11_runClause_103 : decode cX11_runClause 103 = .ok (.ifCond .ne 5, 3) := by decide +kernel
theorem dX11_runClause_106 : decode cX11_runClause 106 = .ok (.iconst 0, 1) := by decide +kernel
theorem dX11_runClause_107 : decode cX11_runClause 107 = .ok (.ireturn, 1) := by decide +kernel
theorem dX11_runClause_108 : decode cX11_runClause 108 = .ok (.aload_n 0, 1) := by decide +kernel
theorem dX11_runClause_109 : decode cX11_runClause 109 = .ok (.getfield 22, 3) := by decide +kernel
theorem dX11_runClause_112 : decode cX11_runClause 112 = .ok (.getfield 403, 3) := by decide +kernel
theorem dX11_runClause_115 : decode cX11_runClause 115 = .ok (.l2i, 1) := by decide +kernel
theorem dX11_runClause_116 : decode cX11_runClause 116 = .ok (.istore 7, 2) := by decide +kernel
theorem dX11_runClause_118 : decode cX11_runClause 118 = .ok (.aload_n 0, 1) := by decide +kernel
theorem dX11_runClause_119 : decode cX11_runClause 119 = .ok (.getfield 45, 3) := by decide +kernel
theorem dX11_runClause_122 : decode cX11_runClause 122 = .ok (.aload_n 0, 1) := by decide +kernel
theorem dX11_runClause_123 : decode cX11_runClause 123 = .ok (.getfield 10, 3) := by decide +kernel
theorem dX11_runClause_126 : decode cX11_runClause 126 = .ok (.invokevirtual 268, 3) := by decide +kernel
theorem dX11_runClause_129 : decode cX11_runClause 129 = .ok (.aload_n 0, 1) := by decide +kernel
theorem dX11_runClause_130 : decode cX11_runClause 130 = .ok (.getfield 10, 3) := by decide +kernel
theorem dX11_runClause_133 : decode cX11_runClause 133 = .ok (.iload 4, 2) := by decide +kernel
theorem dX11_runClause_135 : decode cX11_runClause 135 = .ok (.iload 6, 2) := by decide +kernel
theorem dX11_runClause_137 : decode cX11_runClause 137 = .ok (.iload 7, 2) := by decide +kernel
theorem dX11_runClause_139 : decode cX11_runClause 139 = .ok (.aload_n 0, 1) := by decide +kernel
theorem dX11_runClause_140 : decode cX11_runClause 140 = .ok (.getfield 31, 3) := by decide +kernel
theorem dX11_runClause_143 : decode cX11_runClause 143 = .ok (.invokevirtual 353, 3) := by decide +kernel
theorem dX11_runClause_146 : decode cX11_runClause 146 = .ok (.istore 8, 2) := by decide +kernel
theorem dX11_runClause_148 : decode cX11_runClause 148 = .ok (.iload 8, 2) := by decide +kernel
theorem dX11_runClause_150 : decode cX11_runClause 150 = .ok (.ifCond .ge 5, 3) := by decide +kernel
theorem dX11_runClause_153 : decode cX11_runClause 153 = .ok (.iconst 0, 1) := by decide +kernel
theorem dX11_runClause_154 : decode cX11_runClause 154 = .ok (.ireturn, 1) := by decide +kernel
theorem dX11_runClause_155 : decode cX11_runClause 155 = .ok (.aload_n 0, 1) := by decide +kernel
theorem dX11_runClause_156 : decode cX11_runClause 156 = .ok (.getfield 45, 3) := by decide +kernel
theorem dX11_runClause_159 : decode cX11_runClause 159 = .ok (.iload 4, 2) := by decide +kernel
theorem dX11_runClause_161 : decode cX11_runClause 161 = .ok (.invokevirtual 392, 3) := by decide +kernel
theorem dX11_runClause_164 : decode cX11_runClause 164 = .ok (.aload_n 0, 1) := by decide +kernel
theorem dX11_runClause_165 : decode cX11_runClause 165 = .ok (.dup, 1) := by decide +kernel
theorem dX11_runClause_166 : decode cX11_runClause 166 = .ok (.getfield 97, 3) := by decide +kernel
theorem dX11_runClause_169 : decode cX11_runClause 169 = .ok (.iconst 1, 1) := by decide +kernel
theorem dX11_runClause_170 : decode cX11_runClause 170 = .ok (.iadd, 1) := by decide +kernel
theorem dX11_runClause_171 : decode cX11_runClause 171 = .ok (.putfield 97, 3) := by decide +kernel
theorem dX11_runClause_174 : decode cX11_runClause 174 = .ok (.aload_n 0, 1) := by decide +kernel
theorem dX11_runClause_175 : decode cX11_runClause 175 = .ok (.iload 8, 2) := by decide +kernel
theorem dX11_runClause_177 : decode cX11_runClause 177 = .ok (.putfield 100, 3) := by decide +kernel
theorem dX11_runClause_180 : decode cX11_runClause 180 = .ok (.iinc 5 1, 3) := by decide +kernel
theorem dX11_runClause_183 : decode cX11_runClause 183 = .ok (.goto (-165), 3) := by decide +kernel
theorem dX11_runClause_186 : decode cX11_runClause 186 = .ok (.iconst 1, 1) := by decide +kernel
theorem dX11_runClause_187 : decode cX11_runClause 187 = .ok (.ireturn, 1) := by decide +kernel
theorem dX11_orders_0 : decode cX11_orders 0 = .ok (.aload_n 0, 1) := by decide +kernel
theorem dX11_orders_1 : decode cX11_orders 1 = .ok (.getfield 72, 3) := by decide +kernel
theorem dX11_orders_4 : decode cX11_orders 4 = .ok (.aload_n 0, 1) := by decide +kernel
theorem dX11_orders_5 : decode cX11_orders 5 = .ok (.getfield 65, 3) := by decide +kernel
theorem dX11_orders_8 : decode cX11_orders 8 = .ok (.iconst 1, 1) := by decide +kernel
theorem dX11_orders_9 : decode cX11_orders 9 = .ok (.invokevirtual 227, 3) := by decide +kernel
theorem dX11_orders_12 : decode cX11_orders 12 = .ok (.istore_n 1, 1) := by decide +kernel
theorem dX11_orders_13 : decode cX11_orders 13 = .ok (.aload_n 0, 1) := by decide +kernel
theorem dX11_orders_14 : decode cX11_orders 14 = .ok (.getfield 65, 3) := by decide +kernel
theorem dX11_orders_17 : decode cX11_orders 17 = .ok (.iconst 0, 1) := by decide +kernel
theorem dX11_orders_18 : decode cX11_orders 18 = .ok (.putfield 210, 3) := by decide +kernel
theorem dX11_orders_21 : decode cX11_orders 21 = .ok (.aload_n 0, 1) := by decide +kernel
theorem dX11_orders_22 : decode cX11_orders 22 = .ok (.aload_n 0, 1) := by decide +kernel
theorem dX11_orders_23 : decode cX11_orders 23 = .ok (.getfield 72, 3) := by decide +kernel
theorem dX11_orders_26 : decode cX11_orders 26 = .ok (.getfield 231, 3) := by decide +kernel
theorem dX11_orders_29 : decode cX11_orders 29 = .ok (.putfield 91, 3) := by decide +kernel
theorem dX11_orders_32 : decode cX11_orders 32 = .ok (.aload_n 0, 1) := by decide +kernel
theorem dX11_orders_33 : decode cX11_orders 33 = .ok (.iconst (-1), 1) := by decide +kernel
theorem dX11_orders_34 : decode cX11_orders 34 = .ok (.putfield 94, 3) := by decide +kernel
theorem dX11_orders_37 : decode cX11_orders 37 = .ok (.iload_n 1, 1) := by decide +kernel
theorem dX11_orders_38 : decode cX11_orders 38 = .ok (.ifCond .ne 10, 3) := by decide +kernel
theorem dX11_orders_41 : decode cX11_orders 41 = .ok (.aload_n 0, 1) := by decide +kernel
theorem dX11_orders_42 : decode cX11_orders 42 = .ok (.bipush (-6), 2) := by decide +kernel
theorem dX11_orders_44 : decode cX11_orders 44 = .ok (.invokevirtual 192, 3) := by decide +kernel
theorem dX11_orders_47 : decode cX11_orders 47 = .ok (.ireturn, 1) := by decide +kernel
theorem dX11_orders_48 : decode cX11_orders 48 = .ok (.aload_n 0, 1) := by decide +kernel
