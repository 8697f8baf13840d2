theorem dX11_orders_49 : decode cX11_orders 49 = .ok (.getfield 16, 3) := by decide +kernel
theorem dX11_orders_52 : decode cX11_orders 52 = .ok (.aload_n 0, 1) := by decide +kernel
theorem dX11_orders_53 : decode cX11_orders 53 = .ok (.getfield 10, 3) := by decide +kernel
theorem dX11_orders_56 : decode cX11_orders 56 = .ok (.invokevirtual 248, 3) := by decide +kernel
theorem dX11_orders_59 : decode cX11_orders 59 = .ok (.aload_n 0, 1) := by decide +kernel
theorem dX11_orders_60 : decode cX11_orders 60 = .ok (.getfield 49, 3) := by decide +kernel
theorem dX11_orders_63 : decode cX11_orders 63 = .ok (.aload_n 0, 1) := by decide +kernel
theorem dX11_orders_64 : decode cX11_orders 64 = .ok (.getfield 45, 3) := by decide +kernel
theorem dX11_orders_67 : decode cX11_orders 67 = .ok (.invokevirtual 252, 3) := by decide +kernel
theorem dX11_orders_70 : decode cX11_orders 70 = .ok (.aload_n 0, 1) := by decide +kernel
theorem dX11_orders_71 : decode cX11_orders 71 = .ok (.iconst 0, 1) := by decide +kernel
theorem dX11_orders_72 : decode cX11_orders 72 = .ok (.putfield 97, 3) := by decide +kernel
theorem dX11_orders_75 : decode cX11_orders 75 = .ok (.aload_n 0, 1) := by decide +kernel
theorem dX11_orders_76 : decode cX11_orders 76 = .ok (.iconst (-1), 1) := by decide +kernel
theorem dX11_orders_77 : decode cX11_orders 77 = .ok (.putfield 100, 3) := by decide +kernel
theorem dX11_orders_80 : decode cX11_orders 80 = .ok (.iconst 0, 1) := by decide +kernel
theorem dX11_orders_81 : decode cX11_orders 81 = .ok (.istore_n 2, 1) := by decide +kernel
theorem dX11_orders_82 : decode cX11_orders 82 = .ok (.iload_n 2, 1) := by decide +kernel
theorem dX11_orders_83 : decode cX11_orders 83 = .ok (.aload_n 0, 1) := by decide +kernel
theorem dX11_orders_84 : decode cX11_orders 84 = .ok (.getfield 72, 3) := by decide +kernel
theorem dX11_orders_87 : decode cX11_orders 87 = .ok (.getfield 234, 3) := by decide +kernel
theorem dX11_orders_90 : decode cX11_orders 90 = .ok (.getfield 255, 3) := by decide +kernel
theorem dX11_orders_93 : decode cX11_orders 93 = .ok (.if_icmp .ge 58, 3) := by decide +kernel
theorem dX11_orders_96 : decode cX11_orders 96 = .ok (.aload_n 0, 1) := by decide +kernel
theorem dX11_orders_97 : decode cX11_orders 97 = .ok (.aload_n 0, 1) := by decide +kernel
theorem dX11_orders_98 : decode cX11_orders 98 = .ok (.getfield 72, 3) := by decide +kernel
theorem dX11_orders_101 : decode cX11_orders 101 = .ok (.getfield 234, 3) := by decide +kernel
theorem dX11_orders_104 : decode cX11_orders 104 = .ok (.iload_n 2, 1) := by decide +kernel
theorem dX11_orders_105 : decode cX11_orders 105 = .ok (.invokevirtual 258, 3) := by decide +kernel
theorem dX11_orders_108 : decode cX11_orders 108 = .ok (.ifCond .ne 37, 3) := by decide +kernel
theorem dX11_orders_111 : decode cX11_orders 111 = .ok (.aload_n 0, 1) := by decide +kernel
theorem dX11_orders_112 : decode cX11_orders 112 = .ok (.getfield 10, 3) := by decide +kernel
theorem dX11_orders_115 : decode cX11_orders 115 = .ok (.aload_n 0, 1) := by decide +kernel
theorem dX11_orders_116 : decode cX11_orders 116 = .ok (.getfield 16, 3) := by decide +kernel
theorem dX11_orders_119 : decode cX11_orders 119 = .ok (.invokevirtual 248, 3) := by decide +kernel
theorem dX11_orders_122 : decode cX11_orders 122 = .ok (.aload_n 0, 1) := by decide +kernel
theorem dX11_orders_123 : decode cX11_orders 123 = .ok (.getfield 45, 3) := by decide +kernel
theorem dX11_orders_126 : decode cX11_orders 126 = .ok (.aload_n 0, 1) := by decide +kernel
theorem dX11_orders_127 : decode cX11_orders 127 = .ok (.getfield 49, 3) := by decide +kernel
theorem dX11_orders_130 : decode cX11_orders 130 = .ok (.invokevirtual 252, 3) := by decide +kernel
theorem dX11_orders_133 : decode cX11_orders 133 = .ok (.aload_n 0, 1) := by decide +kernel
theorem dX11_orders_134 : decode cX11_orders 134 = .ok (.iload_n 2, 1) := by decide +kernel
theorem dX11_orders_135 : decode cX11_orders 135 = .ok (.putfield 94, 3) := by decide +kernel
theorem dX11_orders_138 : decode cX11_orders 138 = .ok (.aload_n 0, 1) := by decide +kernel
theorem dX11_orders_139 : decode cX11_orders 139 = .ok (.bipush (-3), 2) := by decide +kernel
theorem dX11_orders_141 : decode cX11_orders 141 = .ok (.invokevirtual 192, 3) := by decide +kernel
theorem dX11_orders_144 : decode cX11_orders 144 = .ok (.ireturn, 1) := by decide +kernel
theorem dX11_orders_145 : decode cX11_orders 145 = .ok (.iinc 2 1, 3) := by decide +kernel
theorem dX11_orders_148 : decode cX11_orders 148 = .ok (.goto (-66), 3) := by decide +kernel
theorem dX11_orders_151 : decode cX11_orders 151 = .ok (.aload_n 0, 1) := by decide +kernel
theorem dX11_orders_152 : decode cX11_orders 152 = .ok (.aload_n 0, 1) := by decide +kernel
theorem dX11_orders_153 : decode cX11_orders 153 = .ok (.getfield 97, 3) := by decide +kernel
theorem dX11_orders_156 : decode cX11_orders 156 = .ok (.invokevirtual 192, 3) := by decide +kernel
theorem dX11_orders_159 : decode cX11_orders 159 = .ok (.ireturn, 1) := by decide +kernel
theorem dX11_fault_0 : decode cX11_fault 0 = .ok (.aload_n 0, 1) := by decide +kernel
theorem dX11_fault_1 : decode cX11_fault 1 = .ok (.getfield 91, 3) := by decide +kernel
theorem dX11_fault_4 : decode cX11_fault 4 = .ok (.ireturn, 1) := by decide +kernel
theorem dX11_stopped_0 : decode cX11_stopped 0 = .ok (.aload_n 0, 1) := by decide +kernel
theorem dX11_stopped_1 : decode cX11_stopped 1 = .ok (.getfield 94, 3) := by decide +kernel
theorem dX11_stopped_4 : decode cX11_stopped 4 = .ok (.ireturn, 1) := by decide +kernel
theorem dX6_hasLaw_0 : decode cX6_hasLaw 0 = .ok (.iload_n 1, 1) := by decide +kernel
theorem dX6_hasLaw_1 : decode cX6_hasLaw 1 = .ok (.ifCond .lt 21, 3) := by decide +kernel
theorem dX6_hasLaw_4 : decode cX6_hasLaw 4 = .ok (.iload_n 1, 1) := by decide +kernel
theorem dX6_hasLaw_5 : decode cX6_hasLaw 5 = .ok (.aload_n 0, 1) := by decide +kernel
theorem dX6_hasLaw_6 : decode cX6_hasLaw 6 = .ok (.getfield 17, 3) := by decide +kernel
theorem dX6_hasLaw_9 : decode cX6_hasLaw 9 = .ok (.if_icmp .ge 13, 3) := by decide +kernel
theorem dX6_hasLaw_12 : decode cX6_hasLaw 12 = .ok (.iload_n 1, 1) := by decide +kernel
theorem dX6_hasLaw_13 : decode cX6_hasLaw 13 = .ok (.bipush 6, 2) := by decide +kernel
theorem dX6_hasLaw_15 : decode cX6_hasLaw 15 = .ok (.if_icmp .ge 7, 3) := by decide +kernel
theorem dX6_hasLaw_18 : decode cX6_hasLaw 18 = .ok (.iconst 1, 1) := by decide +kernel
theorem dX6_hasLaw_19 : decode cX6_hasLaw 19 = .ok (.goto 4, 3) := by decide +kernel
theorem dX6_hasLaw_22 : decode cX6_hasLaw 22 = .ok (.iconst 0, 1) := by decide +kernel
theorem dX6_hasLaw_23 : decode cX6_hasLaw 23 = .ok (.ireturn, 1) := by decide +kernel
theorem dX11_force_0 : decode cX11_force 0 = .ok (.iload_n 1, 1) := by decide +kernel
theorem dX11_force_1 : decode cX11_force 1 = .ok (.iconst (-1), 1) := by decide +kernel
theorem dX11_force_2 : decode cX11_force 2 = .ok (.if_icmp .eq 21, 3) := by decide +kernel
theorem dX11_force_5 : decode cX11_force 5 = .ok (.aload_n 0, 1) := by decide +kernel
theorem dX11_force_6 : decode cX11_force 6 = .ok (.getfield 31, 3) := by decide +kernel
theorem dX11_force_9 : decode cX11_force 9 = .ok (.iload_n 1, 1) := by decide +kernel
theorem dX11_force_10 : decode cX11_force 10 = .ok (.invokevirtual 262, 3) := by decide +kernel
theorem dX11_force_13 : decode cX11_force 13 = .ok (.ifCond .ne 10, 3) := by decide +kernel
theorem dX11_force_16 : decode cX11_force 16 = .ok (.aload_n 0, 1) := by decide +kernel
theorem dX11_force_17 : decode cX11_force 17 = .ok (.bipush (-2), 2) := by decide +kernel
theorem dX11_force_19 : decode cX11_force 19 = .ok (.invokevirtual 192, 3) := by decide +kernel
theorem dX11_force_22 : decode cX11_force 22 = .ok (.ireturn, 1) := by decide +kernel
theorem dX11_force_23 : decode cX11_force 23 = .ok (.aload_n 0, 1) := by decide +kernel
theorem dX11_force_24 : decode cX11_force 24 = .ok (.getfield 31, 3) := by decide +kernel
theorem dX11_force_27 : decode cX11_force 27 = .ok (.getfield 265, 3) := by decide +kernel
theorem dX11_force_30 : decode cX11_force 30 = .ok (.istore_n 2, 1) := by decide +kernel
theorem dX11_force_31 : decode cX11_force 31 = .ok (.aload_n 0, 1) := by decide +kernel
theorem dX11_force_32 : decode cX11_force 32 = .ok (.getfield 31, 3) := by decide +kernel
theorem dX11_force_35 : decode cX11_force 35 = .ok (.iload_n 1, 1) := by decide +kernel
theorem dX11_force_36 : decode cX11_force 36 = .ok (.putfield 265, 3) := by decide +kernel
theorem dX11_force_39 : decode cX11_force 39 = .ok (.aload_n 0, 1) := by decide +kernel
theorem dX11_force_40 : decode cX11_force 40 = .ok (.iconst 0, 1) := by decide +kernel
theorem dX11_force_41 : decode cX11_force 41 = .ok (.putfield 103, 3) := by decide +kernel
theorem dX11_force_44 : decode cX11_force 44 = .ok (.iload_n 2, 1) := by decide +kernel
theorem dX11_force_45 : decode cX11_force 45 = .ok (.ireturn, 1) := by decide +kernel
theorem dX11_acted_0 : decode cX11_acted 0 = .ok (.iload_n 2, 1) := by decide +kernel
theorem dX11_acted_1 : decode cX11_acted 1 = .ok (.ifCond .lt 11, 3) := by decide +kernel
theorem dX11_acted_4 : decode cX11_acted 4 = .ok (.aload_n 0, 1) := by decide +kernel
theorem dX11_acted_5 : decode cX11_acted 5 = .ok (.getfield 45, 3) := by decide +kernel
theorem dX11_acted_8 : decode cX11_acted 8 = .ok (.iload_n 1, 1) := by decide +kernel
theorem dX11_acted_9 : decode cX11_acted 9 = .ok (.invokevirtual 392, 3) := by decide +kernel
theorem dX11_acted_12 : decode cX11_acted 12 = .ok (.aload_n 0, 1) := by decide +kernel
theorem dX11_acted_13 : decode cX11_acted 13 = .ok (.iload_n 2, 1) := by decide +kernel
theorem dX11_acted_14 : decode cX11_acted 14 = .ok (.invokevirtual 192, 3) := by decide +kernel
theorem dX11_acted_17 : decode cX11_acted 17 = .ok (.ireturn, 1) := by decide +kernel
theorem dX11_put_0 : decode cX11_put 0 = .ok (.aload_n 0, 1) := by decide +kernel
theorem dX11_put_1 : decode cX11_put 1 = .ok (.getfield 45, 3) := by decide +kernel
theorem dX11_put_4 : decode cX11_put 4 = .ok (.aload_n 0, 1) := by decide +kernel
theorem dX11_put_5 : decode cX11_put 5 = .ok (.getfield 10, 3) := by decide +kernel
theorem dX11_put_8 : decode cX11_put 8 = .ok (.invokevirtual 268, 3) := by decide +kernel
theorem dX11_put_11 : decode cX11_put 11 = .ok (.aload_n 0, 1) := by decide +kernel
theorem dX11_put_12 : decode cX11_put 12 = .ok (.iconst 0, 1) := by decide +kernel
theorem dX11_put_13 : decode cX11_put 13 = .ok (.aload_n 0, 1) := by decide +kernel
theorem dX11_put_14 : decode cX11_put 14 = .ok (.getfield 10, 3) := by decide +kernel
theorem dX11_put_17 : decode cX11_put 17 = .ok (.iload_n 1, 1) := by decide +kernel
theorem dX11_put_18 : decode cX11_put 18 = .ok (.iload_n 2, 1) := by decide +kernel
theorem dX11_put_19 : decode cX11_put 19 = .ok (.aload_n 0, 1) := by decide +kernel
theorem dX11_put_20 : decode cX11_put 20 = .ok (.getfield 31, 3) := by decide +kernel
theorem dX11_put_23 : decode cX11_put 23 = .ok (.invokevirtual 220, 3) := by decide +kernel
theorem dX11_put_26 : decode cX11_put 26 = .ok (.invokevirtual 271, 3) := by decide +kernel
theorem dX11_put_29 : decode cX11_put 29 = .ok (.ireturn, 1) := by decide +kernel
theorem dX11_drop_0 : decode cX11_drop 0 = .ok (.aload_n 0, 1) := by decide +kernel
theorem dX11_drop_1 : decode cX11_drop 1 = .ok (.getfield 45, 3) := by decide +kernel
theorem dX11_drop_4 : decode cX11_drop 4 = .ok (.aload_n 0, 1) := by decide +kernel
theorem dX11_drop_5 : decode cX11_drop 5 = .ok (.getfield 10, 3) := by decide +kernel
theorem dX11_drop_8 : decode cX11_drop 8 = .ok (.invokevirtual 268, 3) := by decide +kernel
theorem dX11_drop_11 : decode cX11_drop 11 = .ok (.aload_n 0, 1) := by decide +kernel
theorem dX11_drop_12 : decode cX11_drop 12 = .ok (.iconst 1, 1) := by decide +kernel
theorem dX11_drop_13 : decode cX11_drop 13 = .ok (.aload_n 0, 1) := by decide +kernel
theorem dX11_drop_14 : decode cX11_drop 14 = .ok (.getfield 10, 3) := by decide +kernel
theorem dX11_drop_17 : decode cX11_drop 17 = .ok (.iload_n 1, 1) := by decide +kernel
theorem dX11_drop_18 : decode cX11_drop 18 = .ok (.invokevirtual 274, 3) := by decide +kernel
theorem dX11_drop_21 : decode cX11_drop 21 = .ok (.invokevirtual 271, 3) := by decide +kernel
theorem dX11_drop_24 : decode cX11_drop 24 = .ok (.ireturn, 1) := by decide +kernel
theorem dX11_enter_0 : decode cX11_enter 0 = .ok (.aload_n 0, 1) := by decide +kernel
theorem dX11_enter_1 : decode cX11_enter 1 = .ok (.getfield 45, 3) := by decide +kernel
theorem dX11_enter_4 : decode cX11_enter 4 = .ok (.aload_n 0, 1) := by decide +kernel
theorem dX11_enter_5 : decode cX11_enter 5 = .ok (.getfield 10, 3) := by decide +kernel
theorem dX11_enter_8 : decode cX11_enter 8 = .ok (.invokevirtual 268, 3) := by decide +kernel
theorem dX11_enter_11 : decode cX11_enter 11 = .ok (.aload_n 0, 1) := by decide +kernel
theorem dX11_enter_12 : decode cX11_enter 12 = .ok (.iconst 2, 1) := by decide +kernel
theorem dX11_enter_13 : decode cX11_enter 13 = .ok (.aload_n 0, 1) := by decide +kernel
theorem dX11_enter_14 : decode cX11_enter 14 = .ok (.getfield 10, 3) := by decide +kernel
theorem dX11_enter_17 : decode cX11_enter 17 = .ok (.iload_n 1, 1) := by decide +kernel
theorem dX11_enter_18 : decode cX11_enter 18 = .ok (.invokevirtual 277, 3) := by decide +kernel
theorem dX11_enter_21 : decode cX11_enter 21 = .ok (.invokevirtual 271, 3) := by decide +kernel
theorem dX11_enter_24 : decode cX11_enter 24 = .ok (.ireturn, 1) := by decide +kernel
theorem dX11_step_0 : decode cX11_step 0 = .ok (.aload_n 0, 1) := by decide +kernel
theorem dX11_step_1 : decode cX11_step 1 = .ok (.getfield 45, 3) := by decide +kernel
theorem dX11_step_4 : decode cX11_step 4 = .ok (.aload_n 0, 1) := by decide +kernel
theorem dX11_step_5 : decode cX11_step 5 = .ok (.getfield 10, 3) := by decide +kernel
theorem dX11_step_8 : decode cX11_step 8 = .ok (.invokevirtual 268, 3) := by decide +kernel
theorem dX11_step_11 : decode cX11_step 11 = .ok (.aload_n 0, 1) := by decide +kernel
theorem dX11_step_12 : decode cX11_step 12 = .ok (.iconst 3, 1) := by decide +kernel
theorem dX11_step_13 : decode cX11_step 13 = .ok (.aload_n 0, 1) := by decide +kernel
theorem dX11_step_14 : decode cX11_step 14 = .ok (.getfield 10, 3) := by decide +kernel
theorem dX11_step_17 : decode cX11_step 17 = .ok (.iload_n 1, 1) := by decide +kernel
theorem dX11_step_18 : decode cX11_step 18 = .ok (.invokevirtual 280, 3) := by decide +kernel
theorem dX11_step_21 : decode cX11_step 21 = .ok (.invokevirtual 271, 3) := by decide +kernel
theorem dX11_step_24 : decode cX11_step 24 = .ok (.ireturn, 1) := by decide +kernel
theorem dX11_park_0 : decode cX11_park 0 = .ok (.aload_n 0, 1) := by decide +kernel
theorem dX11_park_1 : decode cX11_park 1 = .ok (.getfield 45, 3) := by decide +kernel
theorem dX11_park_4 : decode cX11_park 4 = .ok (.aload_n 0, 1) := by decide +kernel
theorem dX11_park_5 : decode cX11_park 5 = .ok (.getfield 10, 3) := by decide +kernel
theorem dX11_park_8 : decode cX11_park 8 = .ok (.invokevirtual 268, 3) := by decide +kernel
theorem dX11_park_11 : decode cX11_park 11 = .ok (.aload_n 0, 1) := by decide +kernel
theorem dX11_park_12 : decode cX11_park 12 = .ok (.iconst 4, 1) := by decide +kernel
theorem dX11_park_13 : decode cX11_park 13 = .ok (.aload_n 0, 1) := by decide +kernel
theorem dX11_park_14 : decode cX11_park 14 = .ok (.getfield 10, 3) := by decide +kernel
theorem dX11_park_17 : decode cX11_park 17 = .ok (.iload_n 1, 1) := by decide +kernel
theorem dX11_park_18 : decode cX11_park 18 = .ok (.invokevirtual 283, 3) := by decide +kernel
theorem dX11_park_21 : decode cX11_park 21 = .ok (.invokevirtual 271, 3) := by decide +kernel
theorem dX11_park_24 : decode cX11_park 24 = .ok (.ireturn, 1) := by decide +kernel
theorem dX11_leave_0 : decode cX11_leave 0 = .ok (.aload_n 0, 1) := by decide +kernel
theorem dX11_leave_1 : decode cX11_leave 1 = .ok (.getfield 45, 3) := by decide +kernel
theorem dX11_leave_4 : decode cX11_leave 4 = .ok (.aload_n 0, 1) := by decide +kernel
theorem dX11_leave_5 : decode cX11_leave 5 = .ok (.getfield 10, 3) := by decide +kernel
theorem dX11_leave_8 : decode cX11_leave 8 = .ok (.invokevirtual 268, 3) := by decide +kernel
theorem dX11_leave_11 : decode cX11_leave 11 = .ok (.aload_n 0, 1) := by decide +kernel
theorem dX11_leave_12 : decode cX11_leave 12 = .ok (.iconst 5, 1) := by decide +kernel
theorem dX11_leave_13 : decode cX11_leave 13 = .ok (.aload_n 0, 1) := by decide +kernel
theorem dX11_leave_14 : decode cX11_leave 14 = .ok (.getfield 10, 3) := by decide +kernel
theorem dX11_leave_17 : decode cX11_leave 17 = .ok (.iload_n 1, 1) := by decide +kernel
theorem dX11_leave_18 : decode cX11_leave 18 = .ok (.aload_n 0, 1) := by decide +kernel
theorem dX11_leave_19 : decode cX11_leave 19 = .ok (.getfield 31, 3) := by decide +kernel
theorem dX11_leave_22 : decode cX11_leave 22 = .ok (.invokevirtual 286, 3) := by decide +kernel
theorem dX11_leave_25 : decode cX11_leave 25 = .ok (.invokevirtual 271, 3) := by decide +kernel
theorem dX11_leave_28 : decode cX11_leave 28 = .ok (.ireturn, 1) := by decide +kernel
theorem dX11_tick_0 : decode cX11_tick 0 = .ok (.aload_n 0, 1) := by decide +kernel
theorem dX11_tick_1 : decode cX11_tick 1 = .ok (.getfield 45, 3) := by decide +kernel
theorem dX11_tick_4 : decode cX11_tick 4 = .ok (.aload_n 0, 1) := by decide +kernel
theorem dX11_tick_5 : decode cX11_tick 5 = .ok (.getfield 10, 3) := by decide +kernel
theorem dX11_tick_8 : decode cX11_tick 8 = .ok (.invokevirtual 268, 3) := by decide +kernel
theorem dX11_tick_11 : decode cX11_tick 11 = .ok (.aload_n 0, 1) := by decide +kernel
theorem dX11_tick_12 : decode cX11_tick 12 = .ok (.bipush 6, 2) := by decide +kernel
theorem dX11_tick_14 : decode cX11_tick 14 = .ok (.aload_n 0, 1) := by decide +kernel
theorem dX11_tick_15 : decode cX11_tick 15 = .ok (.getfield 10, 3) := by decide +kernel
theorem dX11_tick_18 : decode cX11_tick 18 = .ok (.iload_n 1, 1) := by decide +kernel
theorem dX11_tick_19 : decode cX11_tick 19 = .ok (.aload_n 0, 1) := by decide +kernel
theorem dX11_tick_20 : decode cX11_tick 20 = .ok (.getfield 31, 3) := by decide +kernel
theorem dX11_tick_23 : decode cX11_tick 23 = .ok (.invokevirtual 290, 3) := by decide +kernel
theorem dX11_tick_26 : decode cX11_tick 26 = .ok (.invokevirtual 271, 3) := by decide +kernel
theorem dX11_tick_29 : decode cX11_tick 29 = .ok (.ireturn, 1) := by decide +kernel
theorem dX11_begin_0 : decode cX11_begin 0 = .ok (.aload_n 0, 1) := by decide +kernel
theorem dX11_begin_1 : decode cX11_begin 1 = .ok (.getfield 45, 3) := by decide +kernel
theorem dX11_begin_4 : decode cX11_begin 4 = .ok (.aload_n 0, 1) := by decide +kernel
theorem dX11_begin_5 : decode cX11_begin 5 = .ok (.getfield 10, 3) := by decide +kernel
theorem dX11_begin_8 : decode cX11_begin 8 = .ok (.invokevirtual 268, 3) := by decide +kernel
theorem dX11_begin_11 : decode cX11_begin 11 = .ok (.aload_n 0, 1) := by decide +kernel
theorem dX11_begin_12 : decode cX11_begin 12 = .ok (.bipush 7, 2) := by decide +kernel
theorem dX11_begin_14 : decode cX11_begin 14 = .ok (.aload_n 0, 1) := by decide +kernel
theorem dX11_begin_15 : decode cX11_begin 15 = .ok (.getfield 10, 3) := by decide +kernel
theorem dX11_begin_18 : decode cX11_begin 18 = .ok (.invokevirtual 293, 3) := by decide +kernel
theorem dX11_begin_21 : decode cX11_begin 21 = .ok (.invokevirtual 271, 3) := by decide +kernel
theorem dX11_begin_24 : decode cX11_begin 24 = .ok (.ireturn, 1) := by decide +kernel
theorem dX10_hurryGrace_0 : decode cX10_hurryGrace 0 = .ok (.aload_n 0, 1) := by decide +kernel
theorem dX10_hurryGrace_1 : decode cX10_hurryGrace 1 = .ok (.getfield 35, 3) := by decide +kernel
theorem dX10_hurryGrace_4 : decode cX10_hurryGrace 4 = .ok (.ifCond .ne 6, 3) := by decide +kernel
theorem dX10_hurryGrace_7 : decode cX10_hurryGrace 7 = .ok (.bipush (-3), 2) := by decide +kernel
theorem dX10_hurryGrace_9 : decode cX10_hurryGrace 9 = .ok (.ireturn, 1) := by decide +kernel
theorem dX10_hurryGrace_10 : decode cX10_hurryGrace 10 = .ok (.aload_n 0, 1) := by decide +kernel
theorem dX10_hurryGrace_11 : decode cX10_hurryGrace 11 = .ok (.getfield 39, 3) := by decide +kernel
theorem dX10_hurryGrace_14 : decode cX10_hurryGrace 14 = .ok (.istore_n 2, 1) := by decide +kernel
theorem dX10_hurryGrace_15 : decode cX10_hurryGrace 15 = .ok (.iconst 0, 1) := by decide +kernel
theorem dX10_hurryGrace_16 : decode cX10_hurryGrace 16 = .ok (.istore_n 3, 1) := by decide +kernel
theorem dX10_hurryGrace_17 : decode cX10_hurryGrace 17 = .ok (.iconst 0, 1) := by decide +kernel
theorem dX10_hurryGrace_18 : decode cX10_hurryGrace 18 = .ok (.istore 4, 2) := by decide +kernel
theorem dX10_hurryGrace_20 : decode cX10_hurryGrace 20 = .ok (.iload 4, 2) := by decide +kernel
theorem dX10_hurryGrace_22 : decode cX10_hurryGrace 22 = .ok (.bipush 8, 2) := by decide +kernel
theorem dX10_hurryGrace_24 : decode cX10_hurryGrace 24 = .ok (.if_icmp .ge 38, 3) := by decide +kernel
theorem dX10_hurryGrace_27 : decode cX10_hurryGrace 27 = .ok (.aload_n 0, 1) := by decide +kernel
theorem dX10_hurryGrace_28 : decode cX10_hurryGrace 28 = .ok (.getfield 35, 3) := by decide +kernel
theorem dX10_hurryGrace_31 : decode cX10_hurryGrace 31 = .ok (.ifCond .eq 31, 3) := by decide +kernel
theorem dX10_hurryGrace_34 : decode cX10_hurryGrace 34 = .ok (.aload_n 0, 1) := by decide +kernel
theorem dX10_hurryGrace_35 : decode cX10_hurryGrace 35 = .ok (.getfield 39, 3) := by decide +kernel
theorem dX10_hurryGrace_38 : decode cX10_hurryGrace 38 = .ok (.iload_n 2, 1) := by decide +kernel
theorem dX10_hurryGrace_39 : decode cX10_hurryGrace 39 = .ok (.if_icmp .ne 23, 3) := by decide +kernel
theorem dX10_hurryGrace_42 : decode cX10_hurryGrace 42 = .ok (.iload_n 3, 1) := by decide +kernel
theorem dX10_hurryGrace_43 : decode cX10_hurryGrace 43 = .ok (.aload_n 0, 1) := by decide +kernel
theorem dX10_hurryGrace_44 : decode cX10_hurryGrace 44 = .ok (.iload 4, 2) := by decide +kernel
theorem dX10_hurryGrace_46 : decode cX10_hurryGrace 46 = .ok (.aload_n 1, 1) := by decide +kernel
theorem dX10_hurryGrace_47 : decode cX10_hurryGrace 47 = .ok (.invokevirtual 79, 3) := by decide +kernel
theorem dX10_hurryGrace_50 : decode cX10_hurryGrace 50 = .ok (.iconst 0, 1) := by decide +kernel
theorem dX10_hurryGrace_51 : decode cX10_hurryGrace 51 = .ok (.invokestatic 147, 3) := by decide +kernel
theorem dX10_hurryGrace_54 : decode cX10_hurryGrace 54 = .ok (.iadd, 1) := by decide +kernel
theorem dX10_hurryGrace_55 : decode cX10_hurryGrace 55 = .ok (.istore_n 3, 1) := by decide +kernel
theorem dX10_hurryGrace_56 : decode cX10_hurryGrace 56 = .ok (.iinc 4 1, 3) := by decide +kernel
theorem dX10_hurryGrace_59 : decode cX10_hurryGrace 59 = .ok (.goto (-39), 3) := by decide +kernel
theorem dX10_hurryGrace_62 : decode cX10_hurryGrace 62 = .ok (.iload_n 3, 1) := by decide +kernel
theorem dX10_hurryGrace_63 : decode cX10_hurryGrace 63 = .ok (.ireturn, 1) := by decide +kernel
theorem dX11_hurry_0 : decode cX11_hurry 0 = .ok (.aload_n 0, 1) := by decide +kernel
theorem dX11_hurry_1 : decode cX11_hurry 1 = .ok (.getfield 45, 3) := by decide +kernel
theorem dX11_hurry_4 : decode cX11_hurry 4 = .ok (.aload_n 0, 1) := by decide +kernel
theorem dX11_hurry_5 : decode cX11_hurry 5 = .ok (.getfield 10, 3) := by decide +kernel
theorem dX11_hurry_8 : decode cX11_hurry 8 = .ok (.invokevirtual 268, 3) := by decide +kernel
theorem dX11_hurry_11 : decode cX11_hurry 11 = .ok (.aload_n 0, 1) := by decide +kernel
theorem dX11_hurry_12 : decode cX11_hurry 12 = .ok (.bipush 8, 2) := by decide +kernel
theorem dX11_hurry_14 : decode cX11_hurry 14 = .ok (.aload_n 0, 1) := by decide +kernel
theorem dX11_hurry_15 : decode cX11_hurry 15 = .ok (.getfield 10, 3) := by decide +kernel
theorem dX11_hurry_18 : decode cX11_hurry 18 = .ok (.aload_n 0, 1) := by decide +kernel
theorem dX11_hurry_19 : decode cX11_hurry 19 = .ok (.getfield 31, 3) := by decide +kernel
theorem dX11_hurry_22 : decode cX11_hurry 22 = .ok (.invokevirtual 296, 3) := by decide +kernel
theorem dX11_hurry_25 : decode cX11_hurry 25 = .ok (.invokevirtual 271, 3) := by decide +kernel
theorem dX11_hurry_28 : decode cX11_hurry 28 = .ok (.ireturn, 1) := by decide +kernel
theorem dX2_takeBack_0 : decode cX2_takeBack 0 = .ok (.aload_n 0, 1) := by decide +kernel
theorem dX2_takeBack_1 : decode cX2_takeBack 1 = .ok (.getfield 25, 3) := by decide +kernel
theorem dX2_takeBack_4 : decode cX2_takeBack 4 = .ok (.ifCond .ne 6, 3) := by decide +kernel
theorem dX2_takeBack_7 : decode cX2_takeBack 7 = .ok (.bipush (-3), 2) := by decide +kernel
theorem dX2_takeBack_9 : decode cX2_takeBack 9 = .ok (.ireturn, 1) := by decide +kernel
theorem dX2_takeBack_10 : decode cX2_takeBack 10 = .ok (.aload_n 0, 1) := by decide +kernel
theorem dX2_takeBack_11 : decode cX2_takeBack 11 = .ok (.dup, 1) := by decide +kernel
theorem dX2_takeBack_12 : decode cX2_takeBack 12 = .ok (.getfield 25, 3) := by decide +kernel
theorem dX2_takeBack_15 : decode cX2_takeBack 15 = .ok (.iconst 1, 1) := by decide +kernel
theorem dX2_takeBack_16 : decode cX2_takeBack 16 = .ok (.isub, 1) := by decide +kernel
theorem dX2_takeBack_17 : decode cX2_takeBack 17 = .ok (.putfield 25, 3) := by decide +kernel
theorem dX2_takeBack_20 : decode cX2_takeBack 20 = .ok (.aload_n 1, 1) := by decide +kernel
theorem dX2_takeBack_21 : decode cX2_takeBack 21 = .ok (.aload_n 0, 1) := by decide +kernel
theorem dX2_takeBack_22 : decode cX2_takeBack 22 = .ok (.getfield 13, 3) := by decide +kernel
theorem dX2_takeBack_25 : decode cX2_takeBack 25 = .ok (.aload_n 0, 1) := by decide +kernel
theorem dX2_takeBack_26 : decode cX2_takeBack 26 = .ok (.aload_n 0, 1) := by decide +kernel
theorem dX2_takeBack_27 : decode cX2_takeBack 27 = .ok (.getfield 25, 3) := by decide +kernel
theorem dX2_takeBack_30 : decode cX2_takeBack 30 = .ok (.invokevirtual 29, 3) := by decide +kernel
theorem dX2_takeBack_33 : decode cX2_takeBack 33 = .ok (.aaload, 1) := by decide +kernel
theorem dX2_takeBack_34 : decode cX2_takeBack 34 = .ok (.invokevirtual 33, 3) := by decide +kernel
theorem dX2_takeBack_37 : decode cX2_takeBack 37 = .ok (.aload_n 0, 1) := by decide +kernel
theorem dX2_takeBack_38 : decode cX2_takeBack 38 = .ok (.getfield 17, 3) := by decide +kernel
theorem dX2_takeBack_41 : decode cX2_takeBack 41 = .ok (.aload_n 0, 1) := by decide +kernel
theorem dX2_takeBack_42 : decode cX2_takeBack 42 = .ok (.aload_n 0, 1) := by decide +kernel
theorem dX2_takeBack_43 : decode cX2_takeBack 43 = .ok (.getfield 25, 3) := by decide +kernel
theorem dX2_takeBack_46 : decode cX2_takeBack 46 = .ok (.invokevirtual 29, 3) := by decide +kernel
theorem dX2_takeBack_49 : decode cX2_takeBack 49 = .ok (.iaload, 1) := by decide +kernel
theorem dX2_takeBack_50 : decode cX2_takeBack 50 = .ok (.ireturn, 1) := by decide +kernel
theorem dX11_undo_0 : decode cX11_undo 0 = .ok (.aload_n 0, 1) := by decide +kernel
theorem dX11_undo_1 : decode cX11_undo 1 = .ok (.aload_n 0, 1) := by decide +kernel
theorem dX11_undo_2 : decode cX11_undo 2 = .ok (.getfield 45, 3) := by decide +kernel
theorem dX11_undo_5 : decode cX11_undo 5 = .ok (.aload_n 0, 1) := by decide +kernel
theorem dX11_undo_6 : decode cX11_undo 6 = .ok (.getfield 10, 3) := by decide +kernel
theorem dX11_undo_9 : decode cX11_undo 9 = .ok (.invokevirtual 300, 3) := by decide +kernel
theorem dX11_undo_12 : decode cX11_undo 12 = .ok (.invokevirtual 192, 3) := by decide +kernel
theorem dX11_undo_15 : decode cX11_undo 15 = .ok (.ireturn, 1) := by decide +kernel
theorem dX11_sees_0 : decode cX11_sees 0 = .ok (.aload_n 0, 1) := by decide +kernel
theorem dX11_sees_1 : decode cX11_sees 1 = .ok (.getfield 10, 3) := by decide +kernel
theorem dX11_sees_4 : decode cX11_sees 4 = .ok (.getfield 140, 3) := by decide +kernel
theorem dX11_sees_7 : decode cX11_sees 7 = .ok (.aload_n 0, 1) := by decide +kernel
theorem dX11_sees_8 : decode cX11_sees 8 = .ok (.getfield 10, 3) := by decide +kernel
theorem dX11_sees_11 : decode cX11_sees 11 = .ok (.iload_n 1, 1) := by decide +kernel
theorem dX11_sees_12 : decode cX11_sees 12 = .ok (.invokevirtual 123, 3) := by decide +kernel
theorem dX11_sees_15 : decode cX11_sees 15 = .ok (.iload_n 2, 1) := by decide +kernel
theorem dX11_sees_16 : decode cX11_sees 16 = .ok (.invokevirtual 161, 3) := by decide +kernel
theorem dX11_sees_19 : decode cX11_sees 19 = .ok (.ireturn, 1) := by decide +kernel
theorem dX0_leadsTo_0 : decode cX0_leadsTo 0 = .ok (.iload_n 1, 1) := by decide +kernel
theorem dX0_leadsTo_1 : decode cX0_leadsTo 1 = .ok (.istore_n 3, 1) := by decide +kernel
theorem dX0_leadsTo_2 : decode cX0_leadsTo 2 = .ok (.iconst 0, 1) := by decide +kernel
theorem dX0_leadsTo_3 : decode cX0_leadsTo 3 = .ok (.istore 4, 2) := by decide +kernel
theorem dX0_leadsTo_5 : decode cX0_leadsTo 5 = .ok (.iload 4, 2) := by decide +kernel
theorem dX0_leadsTo_7 : decode cX0_leadsTo 7 = .ok (.bipush 24, 2) := by decide +kernel
theorem dX0_leadsTo_9 : decode cX0_leadsTo 9 = .ok (.if_icmp .ge 30, 3) := by decide +kernel
theorem dX0_leadsTo_12 : decode cX0_leadsTo 12 = .ok (.iload_n 3, 1) := by decide +kernel
theorem dX0_leadsTo_13 : decode cX0_leadsTo 13 = .ok (.invokestatic 46, 3) := by decide +kernel
theorem dX0_leadsTo_16 : decode cX0_leadsTo 16 = .ok (.ifCond .eq 23, 3) := by decide +kernel
theorem dX0_leadsTo_19 : decode cX0_leadsTo 19 = .ok (.iload_n 3, 1) := by decide +kernel
theorem dX0_leadsTo_20 : decode cX0_leadsTo 20 = .ok (.iload_n 2, 1) := by decide +kernel
theorem dX0_leadsTo_21 : decode cX0_leadsTo 21 = .ok (.if_icmp .ne 5, 3) := by decide +kernel
theorem dX0_leadsTo_24 : decode cX0_leadsTo 24 = .ok (.iconst 1, 1) := by decide +kernel
theorem dX0_leadsTo_25 : decode cX0_leadsTo 25 = .ok (.ireturn, 1) := by decide +kernel
theorem dX0_leadsTo_26 : decode cX0_leadsTo 26 = .ok (.aload_n 0, 1) := by decide +kernel
theorem dX0_leadsTo_27 : decode cX0_leadsTo 27 = .ok (.getfield 21, 3) := by decide +kernel
theorem dX0_leadsTo_30 : decode cX0_leadsTo 30 = .ok (.iload_n 3, 1) := by decide +kernel
theorem dX0_leadsTo_31 : decode cX0_leadsTo 31 = .ok (.iaload, 1) := by decide +kernel
theorem dX0_leadsTo_32 : decode cX0_leadsTo 32 = .ok (.istore_n 3, 1) := by decide +kernel
theorem dX0_leadsTo_33 : decode cX0_leadsTo 33 = .ok (.iinc 4 1, 3) := by decide +kernel
theorem dX0_leadsTo_36 : decode cX0_leadsTo 36 = .ok (.goto (-31), 3) := by decide +kernel
theorem dX0_leadsTo_39 : decode cX0_leadsTo 39 = .ok (.iconst 0, 1) := by decide +kernel
theorem dX0_leadsTo_40 : decode cX0_leadsTo 40 = .ok (.ireturn, 1) := by decide +kernel
theorem dX11_reach_0 : decode cX11_reach 0 = .ok (.iload_n 1, 1) := by decide +kernel
theorem dX11_reach_1 : decode cX11_reach 1 = .ok (.invokestatic 137, 3) := by decide +kernel
theorem dX11_reach_4 : decode cX11_reach 4 = .ok (.ifCond .ne 5, 3) := by decide +kernel
theorem dX11_reach_7 : decode cX11_reach 7 = .ok (.iconst (-1), 1) := by decide +kernel
theorem dX11_reach_8 : decode cX11_reach 8 = .ok (.ireturn, 1) := by decide +kernel
theorem dX11_reach_9 : decode cX11_reach 9 = .ok (.iconst 0, 1) := by decide +kernel
theorem dX11_reach_10 : decode cX11_reach 10 = .ok (.istore_n 2, 1) := by decide +kernel
theorem dX11_reach_11 : decode cX11_reach 11 = .ok (.iconst 0, 1) := by decide +kernel
theorem dX11_reach_12 : decode cX11_reach 12 = .ok (.istore_n 3, 1) := by decide +kernel
theorem dX11_reach_13 : decode cX11_reach 13 = .ok (.iload_n 3, 1) := by decide +kernel
theorem dX11_reach_14 : decode cX11_reach 14 = .ok (.bipush 8, 2) := by decide +kernel
theorem dX11_reach_16 : decode cX11_reach 16 = .ok (.if_icmp .ge 37, 3) := by decide +kernel
theorem dX11_reach_19 : decode cX11_reach 19 = .ok (.aload_n 0, 1) := by decide +kernel
theorem dX11_reach_20 : decode cX11_reach 20 = .ok (.getfield 10, 3) := by decide +kernel
theorem dX11_reach_23 : decode cX11_reach 23 = .ok (.getfield 140, 3) := by decide +kernel
theorem dX11_reach_26 : decode cX11_reach 26 = .ok (.aload_n 0, 1) := by decide +kernel
theorem dX11_reach_27 : decode cX11_reach 27 = .ok (.getfield 10, 3) := by decide +kernel
theorem dX11_reach_30 : decode cX11_reach 30 = .ok (.iload_n 3, 1) := by decide +kernel
theorem dX11_reach_31 : decode cX11_reach 31 = .ok (.invokevirtual 123, 3) := by decide +kernel
theorem dX11_reach_34 : decode cX11_reach 34 = .ok (.iload_n 1, 1) := by decide +kernel
theorem dX11_reach_35 : decode cX11_reach 35 = .ok (.invokevirtual 304, 3) := by decide +kernel
theorem dX11_reach_38 : decode cX11_reach 38 = .ok (.ifCond .eq 9, 3) := by decide +kernel
theorem dX11_reach_41 : decode cX11_reach 41 = .ok (.iload_n 2, 1) := by decide +kernel
theorem dX11_reach_42 : decode cX11_reach 42 = .ok (.iconst 1, 1) := by decide +kernel
theorem dX11_reach_43 : decode cX11_reach 43 = .ok (.iload_n 3, 1) := by decide +kernel
theorem dX11_reach_44 : decode cX11_reach 44 = .ok (.ishl, 1) := by decide +kernel
theorem dX11_reach_45 : decode cX11_reach 45 = .ok (.ior, 1) := by decide +kernel
theorem dX11_reach_46 : decode cX11_reach 46 = .ok (.istore_n 2, 1) := by decide +kernel
theorem dX11_reach_47 : decode cX11_reach 47 = .ok (.iinc 3 1, 3) := by decide +kernel
theorem dX11_reach_50 : decode cX11_reach 50 = .ok (.goto (-37), 3) := by decide +kernel
theorem dX11_reach_53 : decode cX11_reach 53 = .ok (.iload_n 2, 1) := by decide +kernel
theorem dX11_reach_54 : decode cX11_reach 54 = .ok (.ireturn, 1) := by decide +kernel
theorem dX11_holders_0 : decode cX11_holders 0 = .ok (.aload_n 0, 1) := by decide +kernel
theorem dX11_holders_1 : decode cX11_holders 1 = .ok (.getfield 10, 3) := by decide +kernel
theorem dX11_holders_4 : decode cX11_holders 4 = .ok (.getfield 170, 3) := by decide +kernel
theorem dX11_holders_7 : decode cX11_holders 7 = .ok (.ifCond .eq 21, 3) := by decide +kernel
theorem dX11_holders_10 : decode cX11_holders 10 = .ok (.aload_n 0, 1) := by decide +kernel
theorem dX11_holders_11 : decode cX11_holders 11 = .ok (.getfield 10, 3) := by decide +kernel
theorem dX11_holders_14 : decode cX11_holders 14 = .ok (.invokevirtual 133, 3) := by decide +kernel
theorem dX11_holders_17 : decode cX11_holders 17 = .ok (.aload_n 0, 1) := by decide +kernel
theorem dX11_holders_18 : decode cX11_holders 18 = .ok (.getfield 10, 3) := by decide +kernel
theorem dX11_holders_21 : decode cX11_holders 21 = .ok (.getfield 130, 3) := by decide +kernel
theorem dX11_holders_24 : decode cX11_holders 24 = .ok (.ior, 1) := by decide +kernel
theorem dX11_holders_25 : decode cX11_holders 25 = .ok (.goto 4, 3) := by decide +kernel
theorem dX11_holders_28 : decode cX11_holders 28 = .ok (.iconst 0, 1) := by decide +kernel
theorem dX11_holders_29 : decode cX11_holders 29 = .ok (.ireturn, 1) := by decide +kernel
theorem dX10_whyLeaf_0 : decode cX10_whyLeaf 0 = .ok (.iconst 2, 1) := by decide +kernel
theorem dX10_whyLeaf_1 : decode cX10_whyLeaf 1 = .ok (.iload_n 1, 1) := by decide +kernel
theorem dX10_whyLeaf_2 : decode cX10_whyLeaf 2 = .ok (.iconst 4, 1) := by decide +kernel
theorem dX10_whyLeaf_3 : decode cX10_whyLeaf 3 = .ok (.isub, 1) := by decide +kernel
theorem dX10_whyLeaf_4 : decode cX10_whyLeaf 4 = .ok (.imul, 1) := by decide +kernel
theorem dX10_whyLeaf_5 : decode cX10_whyLeaf 5 = .ok (.istore_n 2, 1) := by decide +kernel
theorem dX10_whyLeaf_6 : decode cX10_whyLeaf 6 = .ok (.aload_n 0, 1) := by decide +kernel
theorem dX10_whyLeaf_7 : decode cX10_whyLeaf 7 = .ok (.invokevirtual 90, 3) := by decide +kernel
theorem dX10_whyLeaf_10 : decode cX10_whyLeaf 10 = .ok (.iload_n 2, 1) := by decide +kernel
theorem dX10_whyLeaf_11 : decode cX10_whyLeaf 11 = .ok (.ishr, 1) := by decide +kernel
theorem dX10_whyLeaf_12 : decode cX10_whyLeaf 12 = .ok (.iconst 3, 1) := by decide +kernel
theorem dX10_whyLeaf_13 : decode cX10_whyLeaf 13 = .ok (.iand, 1) := by decide +kernel
theorem dX10_whyLeaf_14 : decode cX10_whyLeaf 14 = .ok (.istore_n 3, 1) := by decide +kernel
theorem dX10_whyLeaf_15 : decode cX10_whyLeaf 15 = .ok (.iload_n 3, 1) := by decide +kernel
theorem dX10_whyLeaf_16 : decode cX10_whyLeaf 16 = .ok (.ifCond .eq 20, 3) := by decide +kernel
theorem dX10_whyLeaf_19 : decode cX10_whyLeaf 19 = .ok (.bipush 10, 2) := by decide +kernel
theorem dX10_whyLeaf_21 : decode cX10_whyLeaf 21 = .ok (.iload_n 2, 1) := by decide +kernel
theorem dX10_whyLeaf_22 : decode cX10_whyLeaf 22 = .ok (.iadd, 1) := by decide +kernel
theorem dX10_whyLeaf_23 : decode cX10_whyLeaf 23 = .ok (.iload_n 3, 1) := by decide +kernel
theorem dX10_whyLeaf_24 : decode cX10_whyLeaf 24 = .ok (.iconst 1, 1) := by decide +kernel
theorem dX10_whyLeaf_25 : decode cX10_whyLeaf 25 = .ok (.iand, 1) := by decide +kernel
theorem dX10_whyLeaf_26 : decode cX10_whyLeaf 26 = .ok (.ifCond .eq 7, 3) := by decide +kernel
theorem dX10_whyLeaf_29 : decode cX10_whyLeaf 29 = .ok (.iconst 0, 1) := by decide +kernel
theorem dX10_whyLeaf_30 : decode cX10_whyLeaf 30 = .ok (.goto 4, 3) := by decide +kernel
theorem dX10_whyLeaf_33 : decode cX10_whyLeaf 33 = .ok (.iconst 1, 1) := by decide +kernel
theorem dX10_whyLeaf_34 : decode cX10_whyLeaf 34 = .ok (.iadd, 1) := by decide +kernel
theorem dX10_whyLeaf_35 : decode cX10_whyLeaf 35 = .ok (.ireturn, 1) := by decide +kernel
theorem dX10_whyLeaf_36 : decode cX10_whyLeaf 36 = .ok (.bipush 20, 2) := by decide +kernel
theorem dX10_whyLeaf_38 : decode cX10_whyLeaf 38 = .ok (.iload_n 2, 1) := by decide +kernel
theorem dX10_whyLeaf_39 : decode cX10_whyLeaf 39 = .ok (.iadd, 1) := by decide +kernel
theorem dX10_whyLeaf_40 : decode cX10_whyLeaf 40 = .ok (.aload_n 0, 1) := by decide +kernel
theorem dX10_whyLeaf_41 : decode cX10_whyLeaf 41 = .ok (.getfield 32, 3) := by decide +kernel
theorem dX10_whyLeaf_44 : decode cX10_whyLeaf 44 = .ok (.iload_n 2, 1) := by decide +kernel
theorem dX10_whyLeaf_45 : decode cX10_whyLeaf 45 = .ok (.ishr, 1) := by decide +kernel
theorem dX10_whyLeaf_46 : decode cX10_whyLeaf 46 = .ok (.iconst 1, 1) := by decide +kernel
theorem dX10_whyLeaf_47 : decode cX10_whyLeaf 47 = .ok (.iand, 1) := by decide +kernel
theorem dX10_whyLeaf_48 : decode cX10_whyLeaf 48 = .ok (.ifCond .eq 7, 3) := by decide +kernel
theorem dX10_whyLeaf_51 : decode cX10_whyLeaf 51 = .ok (.iconst 0, 1) := by decide +kernel
theorem dX10_whyLeaf_52 : decode cX10_whyLeaf 52 = .ok (.goto 4, 3) := by decide +kernel
theorem dX10_whyLeaf_55 : decode cX10_whyLeaf 55 = .ok (.iconst 1, 1) := by decide +kernel
theorem dX10_whyLeaf_56 : decode cX10_whyLeaf 56 = .ok (.iadd, 1) := by decide +kernel
theorem dX10_whyLeaf_57 : decode cX10_whyLeaf 57 = .ok (.ireturn, 1) := by decide +kernel
theorem dX11_why_0 : decode cX11_why 0 = .ok (.aload_n 0, 1) := by decide +kernel
theorem dX11_why_1 : decode cX11_why 1 = .ok (.getfield 10, 3) := by decide +kernel
theorem dX11_why_4 : decode cX11_why 4 = .ok (.getfield 170, 3) := by decide +kernel
theorem dX11_why_7 : decode cX11_why 7 = .ok (.ifCond .eq 12, 3) := by decide +kernel
theorem dX11_why_10 : decode cX11_why 10 = .ok (.iload_n 1, 1) := by decide +kernel
theorem dX11_why_11 : decode cX11_why 11 = .ok (.ifCond .lt 8, 3) := by decide +kernel
theorem dX11_why_14 : decode cX11_why 14 = .ok (.iload_n 1, 1) := by decide +kernel
theorem dX11_why_15 : decode cX11_why 15 = .ok (.iconst 3, 1) := by decide +kernel
theorem dX11_why_16 : decode cX11_why 16 = .ok (.if_icmp .le 5, 3) := by decide +kernel
theorem dX11_why_19 : decode cX11_why 19 = .ok (.iconst (-1), 1) := by decide +kernel
theorem dX11_why_20 : decode cX11_why 20 = .ok (.ireturn, 1) := by decide +kernel
theorem dX11_why_21 : decode cX11_why 21 = .ok (.iconst 1, 1) := by decide +kernel
theorem dX11_why_22 : decode cX11_why 22 = .ok (.istore_n 2, 1) := by decide +kernel
theorem dX11_why_23 : decode cX11_why 23 = .ok (.iconst 0, 1) := by decide +kernel
theorem dX11_why_24 : decode cX11_why 24 = .ok (.istore_n 3, 1) := by decide +kernel
theorem dX11_why_25 : decode cX11_why 25 = .ok (.iload_n 3, 1) := by decide +kernel
theorem dX11_why_26 : decode cX11_why 26 = .ok (.iload_n 1, 1) := by decide +kernel
theorem dX11_why_27 : decode cX11_why 27 = .ok (.if_icmp .ge 38, 3) := by decide +kernel
theorem dX11_why_30 : decode cX11_why 30 = .ok (.iload_n 2, 1) := by decide +kernel
theorem dX11_why_31 : decode cX11_why 31 = .ok (.iconst 4, 1) := by decide +kernel
theorem dX11_why_32 : decode cX11_why 32 = .ok (.if_icmp .ge 33, 3) := by decide +kernel
theorem dX11_why_35 : decode cX11_why 35 = .ok (.iconst 2, 1) := by decide +kernel
theorem dX11_why_36 : decode cX11_why 36 = .ok (.iload_n 2, 1) := by decide +kernel
theorem dX11_why_37 : decode cX11_why 37 = .ok (.imul, 1) := by decide +kernel
theorem dX11_why_38 : decode cX11_why 38 = .ok (.aload_n 0, 1) := by decide +kernel
theorem dX11_why_39 : decode cX11_why 39 = .ok (.getfield 10, 3) := by decide +kernel
theorem dX11_why_42 : decode cX11_why 42 = .ok (.getfield 174, 3) := by decide +kernel
theorem dX11_why_45 : decode cX11_why 45 = .ok (.iload_n 2, 1) := by decide +kernel
theorem dX11_why_46 : decode cX11_why 46 = .ok (.iaload, 1) := by decide +kernel
theorem dX11_why_47 : decode cX11_why 47 = .ok (.iconst 1, 1) := by decide +kernel
theorem dX11_why_48 : decode cX11_why 48 = .ok (.iand, 1) := by decide +kernel
theorem dX11_why_49 : decode cX11_why 49 = .ok (.ifCond .eq 7, 3) := by decide +kernel
theorem dX11_why_52 : decode cX11_why 52 = .ok (.iconst 0, 1) := by decide +kernel
theorem dX11_why_53 : decode cX11_why 53 = .ok (.goto 4, 3) := by decide +kernel
theorem dX11_why_56 : decode cX11_why 56 = .ok (.iconst 1, 1) := by decide +kernel
theorem dX11_why_57 : decode cX11_why 57 = .ok (.iadd, 1) := by decide +kernel
theorem dX11_why_58 : decode cX11_why 58 = .ok (.istore_n 2, 1) := by decide +kernel
theorem dX11_why_59 : decode cX11_why 59 = .ok (.iinc 3 1, 3) := by decide +kernel
theorem dX11_why_62 : decode cX11_why 62 = .ok (.goto (-37), 3) := by decide +kernel
theorem dX11_why_65 : decode cX11_why 65 = .ok (.iload_n 1, 1) := by decide +kernel
theorem dX11_why_66 : decode cX11_why 66 = .ok (.iconst 3, 1) := by decide +kernel
theorem dX11_why_67 : decode cX11_why 67 = .ok (.if_icmp .ge 7, 3) := by decide +kernel
theorem dX11_why_70 : decode cX11_why 70 = .ok (.iload_n 2, 1) := by decide +kernel
theorem dX11_why_71 : decode cX11_why 71 = .ok (.goto 11, 3) := by decide +kernel
theorem dX11_why_74 : decode cX11_why 74 = .ok (.aload_n 0, 1) := by decide +kernel
theorem dX11_why_75 : decode cX11_why 75 = .ok (.getfield 10, 3) := by decide +kernel
theorem dX11_why_78 : decode cX11_why 78 = .ok (.iload_n 2, 1) := by decide +kernel
theorem dX11_why_79 : decode cX11_why 79 = .ok (.invokevirtual 308, 3) := by decide +kernel
theorem dX11_why_82 : decode cX11_why 82 = .ok (.ireturn, 1) := by decide +kernel
theorem dX11_least_0 : decode cX11_least 0 = .ok (.aload_n 0, 1) := by decide +kernel
theorem dX11_least_1 : decode cX11_least 1 = .ok (.getfield 10, 3) := by decide +kernel
theorem dX11_least_4 : decode cX11_least 4 = .ok (.getfield 170, 3) := by decide +kernel
theorem dX11_least_7 : decode cX11_least 7 = .ok (.ifCond .ne 5, 3) := by decide +kernel
theorem dX11_least_10 : decode cX11_least 10 = .ok (.iconst (-1), 1) := by decide +kernel
theorem dX11_least_11 : decode cX11_least 11 = .ok (.ireturn, 1) := by decide +kernel
theorem dX11_least_12 : decode cX11_least 12 = .ok (.aload_n 0, 1) := by decide +kernel
theorem dX11_least_13 : decode cX11_least 13 = .ok (.getfield 10, 3) := by decide +kernel
theorem dX11_least_16 : decode cX11_least 16 = .ok (.invokevirtual 133, 3) := by decide +kernel
theorem dX11_least_19 : decode cX11_least 19 = .ok (.istore_n 1, 1) := by decide +kernel
theorem dX11_least_20 : decode cX11_least 20 = .ok (.aload_n 0, 1) := by decide +kernel
theorem dX11_least_21 : decode cX11_least 21 = .ok (.getfield 10, 3) := by decide +kernel
theorem dX11_least_24 : decode cX11_least 24 = .ok (.getfield 116, 3) := by decide +kernel
theorem dX11_least_27 : decode cX11_least 27 = .ok (.aload_n 0, 1) := by decide +kernel
theorem dX11_least_28 : decode cX11_least 28 = .ok (.getfield 10, 3) := by decide +kernel
theorem dX11_least_31 : decode cX11_least 31 = .ok (.getfield 127, 3) := by decide +kernel
theorem dX11_least_34 : decode cX11_least 34 = .ok (.iconst (-1), 1) := by decide +kernel
theorem dX11_least_35 : decode cX11_least 35 = .ok (.ixor, 1) := by decide +kernel
theorem dX11_least_36 : decode cX11_least 36 = .ok (.iand, 1) := by decide +kernel
theorem dX11_least_37 : decode cX11_least 37 = .ok (.iload_n 1, 1) := by decide +kernel
theorem dX11_least_38 : decode cX11_least 38 = .ok (.iand, 1) := by decide +kernel
theorem dX11_least_39 : decode cX11_least 39 = .ok (.istore_n 2, 1) := by decide +kernel
theorem dX11_least_40 : decode cX11_least 40 = .ok (.iload_n 1, 1) := by decide +kernel
theorem dX11_least_41 : decode cX11_least 41 = .ok (.invokestatic 311, 3) := by decide +kernel
theorem dX11_least_44 : decode cX11_least 44 = .ok (.aload_n 0, 1) := by decide +kernel
theorem dX11_least_45 : decode cX11_least 45 = .ok (.getfield 10, 3) := by decide +kernel
theorem dX11_least_48 : decode cX11_least 48 = .ok (.getfield 130, 3) := by decide +kernel
theorem dX11_least_51 : decode cX11_least 51 = .ok (.invokestatic 311, 3) := by decide +kernel
theorem dX11_least_54 : decode cX11_least 54 = .ok (.iadd, 1) := by decide +kernel
theorem dX11_least_55 : decode cX11_least 55 = .ok (.iload_n 2, 1) := by decide +kernel
theorem dX11_least_56 : decode cX11_least 56 = .ok (.invokestatic 311, 3) := by decide +kernel
theorem dX11_least_59 : decode cX11_least 59 = .ok (.iadd, 1) := by decide +kernel
theorem dX11_least_60 : decode cX11_least 60 = .ok (.ireturn, 1) := by decide +kernel
theorem dX1_note_0 : decode cX1_note 0 = .ok (.aload_n 0, 1) := by decide +kernel
theorem dX1_note_1 : decode cX1_note 1 = .ok (.getfield 18, 3) := by decide +kernel
theorem dX1_note_4 : decode cX1_note 4 = .ok (.bipush 6, 2) := by decide +kernel
theorem dX1_note_6 : decode cX1_note 6 = .ok (.if_icmp .lt 6, 3) := by decide +kernel
theorem dX1_note_9 : decode cX1_note 9 = .ok (.bipush (-5), 2) := by decide +kernel
theorem dX1_note_11 : decode cX1_note 11 = .ok (.ireturn, 1) := by decide +kernel
theorem dX1_note_12 : decode cX1_note 12 = .ok (.aload_n 0, 1) := by decide +kernel
theorem dX1_note_13 : decode cX1_note 13 = .ok (.getfield 9, 3) := by decide +kernel
theorem dX1_note_16 : decode cX1_note 16 = .ok (.aload_n 0, 1) := by decide +kernel
theorem dX1_note_17 : decode cX1_note 17 = .ok (.getfield 18, 3) := by decide +kernel
theorem dX1_note_20 : decode cX1_note 20 = .ok (.iload_n 1, 1) := by decide +kernel
theorem dX1_note_21 : decode cX1_note 21 = .ok (.iastore, 1) := by decide +kernel
theorem dX1_note_22 : decode cX1_note 22 = .ok (.aload_n 0, 1) := by decide +kernel
theorem dX1_note_23 : decode cX1_note 23 = .ok (.getfield 15, 3) := by decide +kernel
theorem dX1_note_26 : decode cX1_note 26 = .ok (.aload_n 0, 1) := by decide +kernel
theorem dX1_note_27 : decode cX1_note 27 = .ok (.getfield 18, 3) := by decide +kernel
theorem dX1_note_30 : decode cX1_note 30 = .ok (.iload_n 2, 1) := by decide +kernel
theorem dX1_note_31 : decode cX1_note 31 = .ok (.iastore, 1) := by decide +kernel
theorem dX1_note_32 : decode cX1_note 32 = .ok (.aload_n 0, 1) := by decide +kernel
theorem dX1_note_33 : decode cX1_note 33 = .ok (.dup, 1) := by decide +kernel
theorem dX1_note_34 : decode cX1_note 34 = .ok (.getfield 18, 3) := by decide +kernel
theorem dX1_note_37 : decode cX1_note 37 = .ok (.iconst 1, 1) := by decide +kernel
theorem dX1_note_38 : decode cX1_note 38 = .ok (.iadd, 1) := by decide +kernel
theorem dX1_note_39 : decode cX1_note 39 = .ok (.putfield 18, 3) := by decide +kernel
theorem dX1_note_42 : decode cX1_note 42 = .ok (.aload_n 0, 1) := by decide +kernel
theorem dX1_note_43 : decode cX1_note 43 = .ok (.getfield 18, 3) := by decide +kernel
theorem dX1_note_46 : decode cX1_note 46 = .ok (.ireturn, 1) := by decide +kernel
theorem dX11_seen_0 : decode cX11_seen 0 = .ok (.iload_n 1, 1) := by decide +kernel
theorem dX11_seen_1 : decode cX11_seen 1 = .ok (.ifCond .lt 18, 3) := by decide +kernel
theorem dX11_seen_4 : decode cX11_seen 4 = .ok (.iload_n 1, 1) := by decide +kernel
theorem dX11_seen_5 : decode cX11_seen 5 = .ok (.iconst 3, 1) := by decide +kernel
theorem dX11_seen_6 : decode cX11_seen 6 = .ok (.if_icmp .ge 13, 3) := by decide +kernel
theorem dX11_seen_9 : decode cX11_seen 9 = .ok (.iload_n 2, 1) := by decide +kernel
theorem dX11_seen_10 : decode cX11_seen 10 = .ok (.ifCond .lt 9, 3) := by decide +kernel
theorem dX11_seen_13 : decode cX11_seen 13 = .ok (.iload_n 2, 1) := by decide +kernel
theorem dX11_seen_14 : decode cX11_seen 14 = .ok (.bipush 100, 2) := by decide +kernel
theorem dX11_seen_16 : decode cX11_seen 16 = .ok (.if_icmp .le 9, 3) := by decide +kernel
theorem dX11_seen_19 : decode cX11_seen 19 = .ok (.aload_n 0, 1) := by decide +kernel
theorem dX11_seen_20 : decode cX11_seen 20 = .ok (.iconst (-1), 1) := by decide +kernel
theorem dX11_seen_21 : decode cX11_seen 21 = .ok (.invokevirtual 192, 3) := by decide +kernel
theorem dX11_seen_24 : decode cX11_seen 24 = .ok (.ireturn, 1) := by decide +kernel
theorem dX11_seen_25 : decode cX11_seen 25 = .ok (.aload_n 0, 1) := by decide +kernel
theorem dX11_seen_26 : decode cX11_seen 26 = .ok (.aload_n 0, 1) := by decide +kernel
theorem dX11_seen_27 : decode cX11_seen 27 = .ok (.getfield 38, 3) := by decide +kernel
theorem dX11_seen_30 : decode cX11_seen 30 = .ok (.iload_n 1, 1) := by decide +kernel
theorem dX11_seen_31 : decode cX11_seen 31 = .ok (.iload_n 2, 1) := by decide +kernel
theorem dX11_seen_32 : decode cX11_seen 32 = .ok (.invokevirtual 316, 3) := by decide +kernel
theorem dX11_seen_35 : decode cX11_seen 35 = .ok (.invokevirtual 192, 3) := by decide +kernel
theorem dX11_seen_38 : decode cX11_seen 38 = .ok (.ireturn, 1) := by decide +kernel
theorem dX11_forget_0 : decode cX11_forget 0 = .ok (.aload_n 0, 1) := by decide +kernel
theorem dX11_forget_1 : decode cX11_forget 1 = .ok (.getfield 38, 3) := by decide +kernel
theorem dX11_forget_4 : decode cX11_forget 4 = .ok (.getfield 319, 3) := by decide +kernel
theorem dX11_forget_7 : decode cX11_forget 7 = .ok (.istore_n 1, 1) := by decide +kernel
theorem dX11_forget_8 : decode cX11_forget 8 = .ok (.aload_n 0, 1) := by decide +kernel
theorem dX11_forget_9 : decode cX11_forget 9 = .ok (.getfield 38, 3) := by decide +kernel
theorem dX11_forget_12 : decode cX11_forget 12 = .ok (.iconst 0, 1) := by decide +kernel
theorem dX11_forget_13 : decode cX11_forget 13 = .ok (.putfield 319, 3) := by decide +kernel
theorem dX11_forget_16 : decode cX11_forget 16 = .ok (.iload_n 1, 1) := by decide +kernel
theorem dX11_forget_17 : decode cX11_forget 17 = .ok (.ireturn, 1) := by decide +kernel
theorem dX1_factOf_0 : decode cX1_factOf 0 = .ok (.iload_n 2, 1) := by decide +kernel
theorem dX1_factOf_1 : decode cX1_factOf 1 = .ok (.ifCond .ne 14, 3) := by decide +kernel
theorem dX1_factOf_4 : decode cX1_factOf 4 = .ok (.aload_n 0, 1) := by decide +kernel
theorem dX1_factOf_5 : decode cX1_factOf 5 = .ok (.getfield 38, 3) := by decide +kernel
theorem dX1_factOf_8 : decode cX1_factOf 8 = .ok (.iconst 1, 1) := by decide +kernel
theorem dX1_factOf_9 : decode cX1_factOf 9 = .ok (.iload_n 1, 1) := by decide +kernel
theorem dX1_factOf_10 : decode cX1_factOf 10 = .ok (.ishl, 1) := by decide +kernel
theorem dX1_factOf_11 : decode cX1_factOf 11 = .ok (.invokestatic 43, 3) := by decide +kernel
theorem dX1_factOf_14 : decode cX1_factOf 14 = .ok (.ireturn, 1) := by decide +kernel
theorem dX1_factOf_15 : decode cX1_factOf 15 = .ok (.iload_n 2, 1) := by decide +kernel
theorem dX1_factOf_16 : decode cX1_factOf 16 = .ok (.iconst 1, 1) := by decide +kernel
theorem dX1_factOf_17 : decode cX1_factOf 17 = .ok (.if_icmp .ne 14, 3) := by decide +kernel
theorem dX1_factOf_20 : decode cX1_factOf 20 = .ok (.aload_n 0, 1) := by decide +kernel
theorem dX1_factOf_21 : decode cX1_factOf 21 = .ok (.getfield 46, 3) := by decide +kernel
theorem dX1_factOf_24 : decode cX1_factOf 24 = .ok (.iconst 1, 1) := by decide +kernel
theorem dX1_factOf_25 : decode cX1_factOf 25 = .ok (.iload_n 1, 1) := by decide +kernel
theorem dX1_factOf_26 : decode cX1_factOf 26 = .ok (.ishl, 1) := by decide +kernel
theorem dX1_factOf_27 : decode cX1_factOf 27 = .ok (.invokestatic 43, 3) := by decide +kernel
theorem dX1_factOf_30 : decode cX1_factOf 30 = .ok (.ireturn, 1) := by decide +kernel
theorem dX1_factOf_31 : decode cX1_factOf 31 = .ok (.aload_n 0, 1) := by decide +kernel
theorem dX1_factOf_32 : decode cX1_factOf 32 = .ok (.iload_n 1, 1) := by decide +kernel
theorem dX1_factOf_33 : decode cX1_factOf 33 = .ok (.invokevirtual 49, 3) := by decide +kernel
theorem dX1_factOf_36 : decode cX1_factOf 36 = .ok (.istore_n 3, 1) := by decide +kernel
theorem dX1_factOf_37 : decode cX1_factOf 37 = .ok (.iload_n 3, 1) := by decide +kernel
theorem dX1_factOf_38 : decode cX1_factOf 38 = .ok (.invokestatic 53, 3) := by decide +kernel
theorem dX1_factOf_41 : decode cX1_factOf 41 = .ok (.ifCond .eq 15, 3) := by decide +kernel
theorem dX1_factOf_44 : decode cX1_factOf 44 = .ok (.aload_n 0, 1) := by decide +kernel
theorem dX1_factOf_45 : decode cX1_factOf 45 = .ok (.getfield 57, 3) := by decide +kernel
theorem dX1_factOf_48 : decode cX1_factOf 48 = .ok (.getfield 61, 3) := by decide +kernel
theorem dX1_factOf_51 : decode cX1_factOf 51 = .ok (.iload_n 3, 1) := by decide +kernel
theorem dX1_factOf_52 : decode cX1_factOf 52 = .ok (.iaload, 1) := by decide +kernel
theorem dX1_factOf_53 : decode cX1_factOf 53 = .ok (.goto 5, 3) := by decide +kernel
theorem dX1_factOf_56 : decode cX1_factOf 56 = .ok (.bipush 100, 2) := by decide +kernel
theorem dX1_factOf_58 : decode cX1_factOf 58 = .ok (.ireturn, 1) := by decide +kernel
theorem dX1_fitting_0 : decode cX1_fitting 0 = .ok (.iconst 0, 1) := by decide +kernel
theorem dX1_fitting_1 : decode cX1_fitting 1 = .ok (.istore_n 2, 1) := by decide +kernel
theorem dX1_fitting_2 : decode cX1_fitting 2 = .ok (.iconst 0, 1) := by decide +kernel
theorem dX1_fitting_3 : decode cX1_fitting 3 = .ok (.istore_n 3, 1) := by decide +kernel
theorem dX1_fitting_4 : decode cX1_fitting 4 = .ok (.iload_n 3, 1) := by decide +kernel
theorem dX1_fitting_5 : decode cX1_fitting 5 = .ok (.bipush 8, 2) := by decide +kernel
theorem dX1_fitting_7 : decode cX1_fitting 7 = .ok (.if_icmp .ge 86, 3) := by decide +kernel
theorem dX1_fitting_10 : decode cX1_fitting 10 = .ok (.iconst 1, 1) := by decide +kernel
theorem dX1_fitting_11 : decode cX1_fitting 11 = .ok (.istore 4, 2) := by decide +kernel
theorem dX1_fitting_13 : decode cX1_fitting 13 = .ok (.iconst 0, 1) := by decide +kernel
theorem dX1_fitting_14 : decode cX1_fitting 14 = .ok (.istore 5, 2) := by decide +kernel
theorem dX1_fitting_16 : decode cX1_fitting 16 = .ok (.iload 5, 2) := by decide +kernel
theorem dX1_fitting_18 : decode cX1_fitting 18 = .ok (.aload_n 0, 1) := by decide +kernel
theorem dX1_fitting_19 : decode cX1_fitting 19 = .ok (.getfield 18, 3) := by decide +kernel
theorem dX1_fitting_22 : decode cX1_fitting 22 = .ok (.if_icmp .ge 50, 3) := by decide +kernel
theorem dX1_fitting_25 : decode cX1_fitting 25 = .ok (.iload 5, 2) := by decide +kernel
theorem dX1_fitting_27 : decode cX1_fitting 27 = .ok (.bipush 6, 2) := by decide +kernel
theorem dX1_fitting_29 : decode cX1_fitting 29 = .ok (.if_icmp .ge 43, 3) := by decide +kernel
theorem dX1_fitting_32 : decode cX1_fitting 32 = .ok (.iload 4, 2) := by decide +kernel
theorem dX1_fitting_34 : decode cX1_fitting 34 = .ok (.ifCond .eq 29, 3) := by decide +kernel
theorem dX1_fitting_37 : decode cX1_fitting 37 = .ok (.aload_n 1, 1) := by decide +kernel
theorem dX1_fitting_38 : decode cX1_fitting 38 = .ok (.iload_n 3, 1) := by decide +kernel
theorem dX1_fitting_39 : decode cX1_fitting 39 = .ok (.aload_n 0, 1) := by decide +kernel
theorem dX1_fitting_40 : decode cX1_fitting 40 = .ok (.getfield 9, 3) := by decide +kernel
theorem dX1_fitting_43 : decode cX1_fitting 43 = .ok (.iload 5, 2) := by decide +kernel
theorem dX1_fitting_45 : decode cX1_fitting 45 = .ok (.iaload, 1) := by decide +kernel
theorem dX1_fitting_46 : decode cX1_fitting 46 = .ok (.invokestatic 28, 3) := by decide +kernel
theorem dX1_fitting_49 : decode cX1_fitting 49 = .ok (.aload_n 0, 1) := by decide +kernel
theorem dX1_fitting_50 : decode cX1_fitting 50 = .ok (.getfield 15, 3) := by decide +kernel
theorem dX1_fitting_53 : decode cX1_fitting 53 = .ok (.iload 5, 2) := by decide +kernel
theorem dX1_fitting_55 : decode cX1_fitting 55 = .ok (.iaload, 1) := by decide +kernel
theorem dX1_fitting_56 : decode cX1_fitting 56 = .ok (.if_icmp .ne 7, 3) := by decide +kernel
theorem dX1_fitting_59 : decode cX1_fitting 59 = .ok (.iconst 1, 1) := by decide +kernel
theorem dX1_fitting_60 : decode cX1_fitting 60 = .ok (.goto 4, 3) := by decide +kernel
theorem dX1_fitting_63 : decode cX1_fitting 63 = .ok (.iconst 0, 1) := by decide +kernel
theorem dX1_fitting_64 : decode cX1_fitting 64 = .ok (.istore 4, 2) := by decide +kernel
theorem dX1_fitting_66 : decode cX1_fitting 66 = .ok (.iinc 5 1, 3) := by decide +kernel
theorem dX1_fitting_69 : decode cX1_fitting 69 = .ok (.goto (-53), 3) := by decide +kernel
theorem dX1_fitting_72 : decode cX1_fitting 72 = .ok (.iload_n 2, 1) := by decide +kernel
theorem dX1_fitting_73 : decode cX1_fitting 73 = .ok (.iload 4, 2) := by decide +kernel
theorem dX1_fitting_75 : decode cX1_fitting 75 = .ok (.ifCond .eq 9, 3) := by decide +kernel
theorem dX1_fitting_78 : decode cX1_fitting 78 = .ok (.iconst 1, 1) := by decide +kernel
theorem dX1_fitting_79 : decode cX1_fitting 79 = .ok (.iload_n 3, 1) := by decide +kernel
theorem dX1_fitting_80 : decode cX1_fitting 80 = .ok (.ishl, 1) := by decide +kernel
theorem dX1_fitting_81 : decode cX1_fitting 81 = .ok (.goto 4, 3) := by decide +kernel
theorem dX1_fitting_84 : decode cX1_fitting 84 = .ok (.iconst 0, 1) := by decide +kernel
theorem dX1_fitting_85 : decode cX1_fitting 85 = .ok (.ior, 1) := by decide +kernel
theorem dX1_fitting_86 : decode cX1_fitting 86 = .ok (.istore_n 2, 1) := by decide +kernel
theorem dX1_fitting_87 : decode cX1_fitting 87 = .ok (.iinc 3 1, 3) := by decide +kernel
theorem dX1_fitting_90 : decode cX1_fitting 90 = .ok (.goto (-86), 3) := by decide +kernel
theorem dX1_fitting_93 : decode cX1_fitting 93 = .ok (.iload_n 2, 1) := by decide +kernel
theorem dX1_fitting_94 : decode cX1_fitting 94 = .ok (.ireturn, 1) := by decide +kernel
theorem dX11_canBe_0 : decode cX11_canBe 0 = .ok (.aload_n 0, 1) := by decide +kernel
theorem dX11_canBe_1 : decode cX11_canBe 1 = .ok (.getfield 38, 3) := by decide +kernel
theorem dX11_canBe_4 : decode cX11_canBe 4 = .ok (.aload_n 0, 1) := by decide +kernel
theorem dX11_canBe_5 : decode cX11_canBe 5 = .ok (.getfield 10, 3) := by decide +kernel
theorem dX11_canBe_8 : decode cX11_canBe 8 = .ok (.invokevirtual 322, 3) := by decide +kernel
theorem dX11_canBe_11 : decode cX11_canBe 11 = .ok (.ireturn, 1) := by decide +kernel
theorem dX1_mostAlike_0 : decode cX1_mostAlike 0 = .ok (.iconst 0, 1) := by decide +kernel
theorem dX1_mostAlike_1 : decode cX1_mostAlike 1 = .ok (.istore 4, 2) := by decide +kernel
theorem dX1_mostAlike_3 : decode cX1_mostAlike 3 = .ok (.iconst 0, 1) := by decide +kernel
theorem dX1_mostAlike_4 : decode cX1_mostAlike 4 = .ok (.istore 5, 2) := by decide +kernel
theorem dX1_mostAlike_6 : decode cX1_mostAlike 6 = .ok (.iload 5, 2) := by decide +kernel
theorem dX1_mostAlike_8 : decode cX1_mostAlike 8 = .ok (.bipush 8, 2) := by decide +kernel
theorem dX1_mostAlike_10 : decode cX1_mostAlike 10 = .ok (.if_icmp .ge 94, 3) := by decide +kernel
theorem dX1_mostAlike_13 : decode cX1_mostAlike 13 = .ok (.iconst 0, 1) := by decide +kernel
theorem dX1_mostAlike_14 : decode cX1_mostAlike 14 = .ok (.istore 6, 2) := by decide +kernel
theorem dX1_mostAlike_16 : decode cX1_mostAlike 16 = .ok (.iconst 0, 1) := by decide +kernel
theorem dX1_mostAlike_17 : decode cX1_mostAlike 17 = .ok (.istore 7, 2) := by decide +kernel
theorem dX1_mostAlike_19 : decode cX1_mostAlike 19 = .ok (.iload 7, 2) := by decide +kernel
theorem dX1_mostAlike_21 : decode cX1_mostAlike 21 = .ok (.bipush 8, 2) := by decide +kernel
theorem dX1_mostAlike_23 : decode cX1_mostAlike 23 = .ok (.if_icmp .ge 66, 3) := by decide +kernel
theorem dX1_mostAlike_26 : decode cX1_mostAlike 26 = .ok (.iload_n 3, 1) := by decide +kernel
theorem dX1_mostAlike_27 : decode cX1_mostAlike 27 = .ok (.iconst 1, 1) := by decide +kernel
theorem dX1_mostAlike_28 : decode cX1_mostAlike 28 = .ok (.iload 5, 2) := by decide +kernel
theorem dX1_mostAlike_30 : decode cX1_mostAlike 30 = .ok (.ishl, 1) := by decide +kernel
theorem dX1_mostAlike_31 : decode cX1_mostAlike 31 = .ok (.iand, 1) := by decide +kernel
theorem dX1_mostAlike_32 : decode cX1_mostAlike 32 = .ok (.ifCond .eq 57, 3) := by decide +kernel
theorem dX1_mostAlike_35 : decode cX1_mostAlike 35 = .ok (.aload_n 1, 1) := by decide +kernel
theorem dX1_mostAlike_36 : decode cX1_mostAlike 36 = .ok (.iload 5, 2) := by decide +kernel
theorem dX1_mostAlike_38 : decode cX1_mostAlike 38 = .ok (.iload_n 2, 1) := by decide +kernel
theorem dX1_mostAlike_39 : decode cX1_mostAlike 39 = .ok (.invokestatic 28, 3) := by decide +kernel
theorem dX1_mostAlike_42 : decode cX1_mostAlike 42 = .ok (.aload_n 1, 1) := by decide +kernel
theorem dX1_mostAlike_43 : decode cX1_mostAlike 43 = .ok (.iload 7, 2) := by decide +kernel
theorem dX1_mostAlike_45 : decode cX1_mostAlike 45 = .ok (.iload_n 2, 1) := by decide +kernel
theorem dX1_mostAlike_46 : decode cX1_mostAlike 46 = .ok (.invokestatic 28, 3) := by decide +kernel
theorem dX1_mostAlike_49 : decode cX1_mostAlike 49 = .ok (.if_icmp .ne 7, 3) := by decide +kernel
theorem dX1_mostAlike_52 : decode cX1_mostAlike 52 = .ok (.iconst 1, 1) := by decide +kernel
theorem dX1_mostAlike_53 : decode cX1_mostAlike 53 = .ok (.goto 4, 3) := by decide +kernel
theorem dX1_mostAlike_56 : decode cX1_mostAlike 56 = .ok (.iconst 0, 1) := by decide +kernel
theorem dX1_mostAlike_57 : decode cX1_mostAlike 57 = .ok (.istore 8, 2) := by decide +kernel
theorem dX1_mostAlike_59 : decode cX1_mostAlike 59 = .ok (.iload 6, 2) := by decide +kernel
theorem dX1_mostAlike_61 : decode cX1_mostAlike 61 = .ok (.iload 8, 2) := by decide +kernel
theorem dX1_mostAlike_63 : decode cX1_mostAlike 63 = .ok (.ifCond .eq 16, 3) := by decide +kernel
theorem dX1_mostAlike_66 : decode cX1_mostAlike 66 = .ok (.iload_n 3, 1) := by decide +kernel
theorem dX1_mostAlike_67 : decode cX1_mostAlike 67 = .ok (.iconst 1, 1) := by decide +kernel
theorem dX1_mostAlike_68 : decode cX1_mostAlike 68 = .ok (.iload 7, 2) := by decide +kernel
theorem dX1_mostAlike_70 : decode cX1_mostAlike 70 = .ok (.ishl, 1) := by decide +kernel
theorem dX1_mostAlike_71 : decode cX1_mostAlike 71 = .ok (.iand, 1) := by decide +kernel
theorem dX1_mostAlike_72 : decode cX1_mostAlike 72 = .ok (.ifCond .eq 7, 3) := by decide +kernel
theorem dX1_mostAlike_75 : decode cX1_mostAlike 75 = .ok (.iconst 1, 1) := by decide +kernel
theorem dX1_mostAlike_76 : decode cX1_mostAlike 76 = .ok (.goto 4, 3) := by decide +kernel
theorem dX1_mostAlike_79 : decode cX1_mostAlike 79 = .ok (.iconst 0, 1) := by decide +kernel
theorem dX1_mostAlike_80 : decode cX1_mostAlike 80 = .ok (.iadd, 1) := by decide +kernel
theorem dX1_mostAlike_81 : decode cX1_mostAlike 81 = .ok (.istore 6, 2) := by decide +kernel
theorem dX1_mostAlike_83 : decode cX1_mostAlike 83 = .ok (.iinc 7 1, 3) := by decide +kernel
theorem dX1_mostAlike_86 : decode cX1_mostAlike 86 = .ok (.goto (-67), 3) := by decide +kernel
theorem dX1_mostAlike_89 : decode cX1_mostAlike 89 = .ok (.iload 4, 2) := by decide +kernel
theorem dX1_mostAlike_91 : decode cX1_mostAlike 91 = .ok (.iload 6, 2) := by decide +kernel
theorem dX1_mostAlike_93 : decode cX1_mostAlike 93 = .ok (.invokestatic 32, 3) := by decide +kernel
theorem dX1_mostAlike_96 : decode cX1_mostAlike 96 = .ok (.istore 4, 2) := by decide +kernel
theorem dX1_mostAlike_98 : decode cX1_mostAlike 98 = .ok (.iinc 5 1, 3) := by decide +kernel
theorem dX1_mostAlike_101 : decode cX1_mostAlike 101 = .ok (.goto (-95), 3) := by decide +kernel
theorem dX1_mostAlike_104 : decode cX1_mostAlike 104 = .ok (.iload 4, 2) := by decide +kernel
theorem dX1_mostAlike_106 : decode cX1_mostAlike 106 = .ok (.ireturn, 1) := by decide +kernel
theorem dX11_ask_0 : decode cX11_ask 0 = .ok (.aload_n 0, 1) := by decide +kernel
theorem dX11_ask_1 : decode cX11_ask 1 = .ok (.getfield 38, 3) := by decide +kernel
theorem dX11_ask_4 : decode cX11_ask 4 = .ok (.aload_n 0, 1) := by decide +kernel
theorem dX11_ask_5 : decode cX11_ask 5 = .ok (.getfield 10, 3) := by decide +kernel
theorem dX11_ask_8 : decode cX11_ask 8 = .ok (.invokevirtual 322, 3) := by decide +kernel
theorem dX11_ask_11 : decode cX11_ask 11 = .ok (.istore_n 2, 1) := by decide +kernel
theorem dX11_ask_12 : decode cX11_ask 12 = .ok (.iload_n 2, 1) := by decide +kernel
theorem dX11_ask_13 : decode cX11_ask 13 = .ok (.ifCond .eq 12, 3) := by decide +kernel
theorem dX11_ask_16 : decode cX11_ask 16 = .ok (.iload_n 1, 1) := by decide +kernel
theorem dX11_ask_17 : decode cX11_ask 17 = .ok (.ifCond .lt 8, 3) := by decide +kernel
theorem dX11_ask_20 : decode cX11_ask 20 = .ok (.iload_n 1, 1) := by decide +kernel
theorem dX11_ask_21 : decode cX11_ask 21 = .ok (.iconst 1, 1) := by decide +kernel
theorem dX11_ask_22 : decode cX11_ask 22 = .ok (.if_icmp .le 5, 3) := by decide +kernel
theorem dX11_ask_25 : decode cX11_ask 25 = .ok (.iconst (-1), 1) := by decide +kernel
theorem dX11_ask_26 : decode cX11_ask 26 = .ok (.ireturn, 1) := by decide +kernel
theorem dX11_ask_27 : decode cX11_ask 27 = .ok (.iconst 0, 1) := by decide +kernel
theorem dX11_ask_28 : decode cX11_ask 28 = .ok (.istore_n 3, 1) := by decide +kernel
theorem dX11_ask_29 : decode cX11_ask 29 = .ok (.bipush 9, 2) := by decide +kernel
theorem dX11_ask_31 : decode cX11_ask 31 = .ok (.istore 4, 2) := by decide +kernel
theorem dX11_ask_33 : decode cX11_ask 33 = .ok (.iconst 0, 1) := by decide +kernel
theorem dX11_ask_34 : decode cX11_ask 34 = .ok (.istore 5, 2) := by decide +kernel
theorem dX11_ask_36 : decode cX11_ask 36 = .ok (.iload 5, 2) := by decide +kernel
theorem dX11_ask_38 : decode cX11_ask 38 = .ok (.iconst 3, 1) := by decide +kernel
theorem dX11_ask_39 : decode cX11_ask 39 = .ok (.if_icmp .ge 39, 3) := by decide +kernel
theorem dX11_ask_42 : decode cX11_ask 42 = .ok (.aload_n 0, 1) := by decide +kernel
theorem dX11_ask_43 : decode cX11_ask 43 = .ok (.getfield 38, 3) := by decide +kernel
theorem dX11_ask_46 : decode cX11_ask 46 = .ok (.aload_n 0, 1) := by decide +kernel
theorem dX11_ask_47 : decode cX11_ask 47 = .ok (.getfield 10, 3) := by decide +kernel
theorem dX11_ask_50 : decode cX11_ask 50 = .ok (.iload 5, 2) := by decide +kernel
theorem dX11_ask_52 : decode cX11_ask 52 = .ok (.iload_n 2, 1) := by decide +kernel
theorem dX11_ask_53 : decode cX11_ask 53 = .ok (.invokevirtual 325, 3) := by decide +kernel
theorem dX11_ask_56 : decode cX11_ask 56 = .ok (.istore 6, 2) := by decide +kernel
theorem dX11_ask_58 : decode cX11_ask 58 = .ok (.iload 6, 2) := by decide +kernel
theorem dX11_ask_60 : decode cX11_ask 60 = .ok (.iload 4, 2) := by decide +kernel
theorem dX11_ask_62 : decode cX11_ask 62 = .ok (.if_icmp .ge 10, 3) := by decide +kernel
theorem dX11_ask_65 : decode cX11_ask 65 = .ok (.iload 6, 2) := by decide +kernel
theorem dX11_ask_67 : decode cX11_ask 67 = .ok (.istore 4, 2) := by decide +kernel
theorem dX11_ask_69 : decode cX11_ask 69 = .ok (.iload 5, 2) := by decide +kernel
theorem dX11_ask_71 : decode cX11_ask 71 = .ok (.istore_n 3, 1) := by decide +kernel
theorem dX11_ask_72 : decode cX11_ask 72 = .ok (.iinc 5 1, 3) := by decide +kernel
theorem dX11_ask_75 : decode cX11_ask 75 = .ok (.goto (-39), 3) := by decide +kernel
theorem dX11_ask_78 : decode cX11_ask 78 = .ok (.iload_n 1, 1) := by decide +kernel
theorem dX11_ask_79 : decode cX11_ask 79 = .ok (.ifCond .ne 7, 3) := by decide +kernel
theorem dX11_ask_82 : decode cX11_ask 82 = .ok (.iload_n 3, 1) := by decide +kernel
theorem dX11_ask_83 : decode cX11_ask 83 = .ok (.goto 5, 3) := by decide +kernel
theorem dX11_ask_86 : decode cX11_ask 86 = .ok (.iload 4, 2) := by decide +kernel
theorem dX11_ask_88 : decode cX11_ask 88 = .ok (.ireturn, 1) := by decide +kernel
theorem dJ7_fill_d0a16_0 : decode cJ7_fill_d0a16 0 = .ok (.iconst 0, 1) := by decide +kernel
theorem dJ7_fill_d0a16_1 : decode cJ7_fill_d0a16 1 = .ok (.istore_n 3, 1) := by decide +kernel
theorem dJ7_fill_d0a16_2 : decode cJ7_fill_d0a16 2 = .ok (.aload_n 0, 1) := by decide +kernel
theorem dJ7_fill_d0a16_3 : decode cJ7_fill_d0a16 3 = .ok (.arraylength, 1) := by decide +kernel
theorem dJ7_fill_d0a16_4 : decode cJ7_fill_d0a16 4 = .ok (.istore 4, 2) := by decide +kernel
theorem dJ7_fill_d0a16_6 : decode cJ7_fill_d0a16 6 = .ok (.iload_n 3, 1) := by decide +kernel
theorem dJ7_fill_d0a16_7 : decode cJ7_fill_d0a16 7 = .ok (.iload 4, 2) := by decide +kernel
theorem dJ7_fill_d0a16_9 : decode cJ7_fill_d0a16 9 = .ok (.if_icmp .ge 13, 3) := by decide +kernel
theorem dJ7_fill_d0a16_12 : decode cJ7_fill_d0a16 12 = .ok (.aload_n 0, 1) := by decide +kernel
theorem dJ7_fill_d0a16_13 : decode cJ7_fill_d0a16 13 = .ok (.iload_n 3, 1) := by decide +kernel
theorem dJ7_fill_d0a16_14 : decode cJ7_fill_d0a16 14 = .ok (.lload_n 1, 1) := by decide +kernel
theorem dJ7_fill_d0a16_15 : decode cJ7_fill_d0a16 15 = .ok (.lastore, 1) := by decide +kernel
theorem dJ7_fill_d0a16_16 : decode cJ7_fill_d0a16 16 = .ok (.iinc 3 1, 3) := by decide +kernel
theorem dJ7_fill_d0a16_19 : decode cJ7_fill_d0a16 19 = .ok (.goto (-13), 3) := by decide +kernel
theorem dJ7_fill_d0a16_22 : decode cJ7_fill_d0a16 22 = .ok (.return_, 1) := by decide +kernel
theorem dX11_few_0 : decode cX11_few 0 = .ok (.iload_n 1, 1) := by decide +kernel
theorem dX11_few_1 : decode cX11_few 1 = .ok (.iconst 1, 1) := by decide +kernel
theorem dX11_few_2 : decode cX11_few 2 = .ok (.if_icmp .lt 19, 3) := by decide +kernel
theorem dX11_few_5 : decode cX11_few 5 = .ok (.iload_n 1, 1) := by decide +kernel
theorem dX11_few_6 : decode cX11_few 6 = .ok (.bipush 20, 2) := by decide +kernel
theorem dX11_few_8 : decode cX11_few 8 = .ok (.if_icmp .gt 13, 3) := by decide +kernel
theorem dX11_few_11 : decode cX11_few 11 = .ok (.iload_n 2, 1) := by decide +kernel
theorem dX11_few_12 : decode cX11_few 12 = .ok (.ifCond .lt 9, 3) := by decide +kernel
theorem dX11_few_15 : decode cX11_few 15 = .ok (.iload_n 2, 1) := by decide +kernel
theorem dX11_few_16 : decode cX11_few 16 = .ok (.bipush 99, 2) := by decide +kernel
theorem dX11_few_18 : decode cX11_few 18 = .ok (.if_icmp .le 7, 3) := by decide +kernel
theorem dX11_few_21 : decode cX11_few 21 = .ok (.ldc2_w 329, 3) := by decide +kernel
theorem dX11_few_24 : decode cX11_few 24 = .ok (.lreturn, 1) := by decide +kernel
theorem dX11_few_25 : decode cX11_few 25 = .ok (.aload_n 0, 1) := by decide +kernel
theorem dX11_few_26 : decode cX11_few 26 = .ok (.getfield 83, 3) := by decide +kernel
theorem dX11_few_29 : decode cX11_few 29 = .ok (.lconst 0, 1) := by decide +kernel
theorem dX11_few_30 : decode cX11_few 30 = .ok (.invokestatic 331, 3) := by decide +kernel
theorem dX11_few_33 : decode cX11_few 33 = .ok (.aload_n 0, 1) := by decide +kernel
theorem dX11_few_34 : decode cX11_few 34 = .ok (.getfield 83, 3) := by decide +kernel
theorem dX11_few_37 : decode cX11_few 37 = .ok (.iconst 0, 1) := by decide +kernel
theorem dX11_few_38 : decode cX11_few 38 = .ok (.ldc2_w 334, 3) := by decide +kernel
theorem dX11_few_41 : decode cX11_few 41 = .ok (.lastore, 1) := by decide +kernel
theorem dX11_few_42 : decode cX11_few 42 = .ok (.aload_n 0, 1) := by decide +kernel
theorem dX11_few_43 : decode cX11_few 43 = .ok (.getfield 31, 3) := by decide +kernel
theorem dX11_few_46 : decode cX11_few 46 = .ok (.getfield 201, 3) := by decide +kernel
theorem dX11_few_49 : decode cX11_few 49 = .ok (.i2l, 1) := by decide +kernel
theorem dX11_few_50 : decode cX11_few 50 = .ok (.lstore_n 3, 1) := by decide +kernel
theorem dX11_few_51 : decode cX11_few 51 = .ok (.iconst 0, 1) := by decide +kernel
theorem dX11_few_52 : decode cX11_few 52 = .ok (.istore 5, 2) := by decide +kernel
theorem dX11_few_54 : decode cX11_few 54 = .ok (.iload 5, 2) := by decide +kernel
theorem dX11_few_56 : decode cX11_few 56 = .ok (.iload_n 2, 1) := by decide +kernel
theorem dX11_few_57 : decode cX11_few 57 = .ok (.if_icmp .ge 87, 3) := by decide +kernel
theorem dX11_few_60 : decode cX11_few 60 = .ok (.iload_n 1, 1) := by decide +kernel
theorem dX11_few_61 : decode cX11_few 61 = .ok (.iconst 1, 1) := by decide +kernel
theorem dX11_few_62 : decode cX11_few 62 = .ok (.isub, 1) := by decide +kernel
theorem dX11_few_63 : decode cX11_few 63 = .ok (.istore 6, 2) := by decide +kernel
theorem dX11_few_65 : decode cX11_few 65 = .ok (.iload 6, 2) := by decide +kernel
theorem dX11_few_67 : decode cX11_few 67 = .ok (.ifCond .le 49, 3) := by decide +kernel
theorem dX11_few_70 : decode cX11_few 70 = .ok (.aload_n 0, 1) := by decide +kernel
theorem dX11_few_71 : decode cX11_few 71 = .ok (.getfield 83, 3) := by decide +kernel
theorem dX11_few_74 : decode cX11_few 74 = .ok (.iload 6, 2) := by decide +kernel
theorem dX11_few_76 : decode cX11_few 76 = .ok (.aload_n 0, 1) := by decide +kernel
theorem dX11_few_77 : decode cX11_few 77 = .ok (.getfield 83, 3) := by decide +kernel
theorem dX11_few_80 : decode cX11_few 80 = .ok (.iload 6, 2) := by decide +kernel
theorem dX11_few_82 : decode cX11_few 82 = .ok (.laload, 1) := by decide +kernel
theorem dX11_few_83 : decode cX11_few 83 = .ok (.ldc2_w 336, 3) := by decide +kernel
theorem dX11_few_86 : decode cX11_few 86 = .ok (.lload_n 3, 1) := by decide +kernel
theorem dX11_few_87 : decode cX11_few 87 = .ok (.lsub, 1) := by decide +kernel
theorem dX11_few_88 : decode cX11_few 88 = .ok (.lmul, 1) := by decide +kernel
theorem dX11_few_89 : decode cX11_few 89 = .ok (.ldc2_w 336, 3) := by decide +kernel
theorem dX11_few_92 : decode cX11_few 92 = .ok (.ldiv, 1) := by decide +kernel
theorem dX11_few_93 : decode cX11_few 93 = .ok (.aload_n 0, 1) := by decide +kernel
theorem dX11_few_94 : decode cX11_few 94 = .ok (.getfield 83, 3) := by decide +kernel
theorem dX11_few_97 : decode cX11_few 97 = .ok (.iload 6, 2) := by decide +kernel
theorem dX11_few_99 : decode cX11_few 99 = .ok (.iconst 1, 1) := by decide +kernel
theorem dX11_few_100 : decode cX11_few 100 = .ok (.isub, 1) := by decide +kernel
theorem dX11_few_101 : decode cX11_few 101 = .ok (.laload, 1) := by decide +kernel
theorem dX11_few_102 : decode cX11_few 102 = .ok (.lload_n 3, 1) := by decide +kernel
theorem dX11_few_103 : decode cX11_few 103 = .ok (.lmul, 1) := by decide +kernel
theorem dX11_few_104 : decode cX11_few 104 = .ok (.ldc2_w 336, 3) := by decide +kernel
theorem dX11_few_107 : decode cX11_few 107 = .ok (.ldiv, 1) := by decide +kernel
theorem dX11_few_108 : decode cX11_few 108 = .ok (.ladd, 1) := by decide +kernel
theorem dX11_few_109 : decode cX11_few 109 = .ok (.lastore, 1) := by decide +kernel
theorem dX11_few_110 : decode cX11_few 110 = .ok (.iinc 6 (-1), 3) := by decide +kernel
theorem dX11_few_113 : decode cX11_few 113 = .ok (.goto (-48), 3) := by decide +kernel
theorem dX11_few_116 : decode cX11_few 116 = .ok (.aload_n 0, 1) := by decide +kernel
theorem dX11_few_117 : decode cX11_few 117 = .ok (.getfield 83, 3) := by decide +kernel
theorem dX11_few_120 : decode cX11_few 120 = .ok (.iconst 0, 1) := by decide +kernel
theorem dX11_few_121 : decode cX11_few 121 = .ok (.aload_n 0, 1) := by decide +kernel
theorem dX11_few_122 : decode cX11_few 122 = .ok (.getfield 83, 3) := by decide +kernel
theorem dX11_few_125 : decode cX11_few 125 = .ok (.iconst 0, 1) := by decide +kernel
theorem dX11_few_126 : decode cX11_few 126 = .ok (.laload, 1) := by decide +kernel
theorem dX11_few_127 : decode cX11_few 127 = .ok (.ldc2_w 336, 3) := by decide +kernel
theorem dX11_few_130 : decode cX11_few 130 = .ok (.lload_n 3, 1) := by decide +kernel
theorem dX11_few_131 : decode cX11_few 131 = .ok (.lsub, 1) := by decide +kernel
theorem dX11_few_132 : decode cX11_few 132 = .ok (.lmul, 1) := by decide +kernel
theorem dX11_few_133 : decode cX11_few 133 = .ok (.ldc2_w 336, 3) := by decide +kernel
theorem dX11_few_136 : decode cX11_few 136 = .ok (.ldiv, 1) := by decide +kernel
theorem dX11_few_137 : decode cX11_few 137 = .ok (.lastore, 1) := by decide +kernel
theorem dX11_few_138 : decode cX11_few 138 = .ok (.iinc 5 1, 3) := by decide +kernel
theorem dX11_few_141 : decode cX11_few 141 = .ok (.goto (-87), 3) := by decide +kernel
theorem dX11_few_144 : decode cX11_few 144 = .ok (.lconst 0, 1) := by decide +kernel
theorem dX11_few_145 : decode cX11_few 145 = .ok (.lstore 5, 2) := by decide +kernel
theorem dX11_few_147 : decode cX11_few 147 = .ok (.iconst 0, 1) := by decide +kernel
theorem dX11_few_148 : decode cX11_few 148 = .ok (.istore 7, 2) := by decide +kernel
theorem dX11_few_150 : decode cX11_few 150 = .ok (.iload 7, 2) := by decide +kernel
theorem dX11_few_152 : decode cX11_few 152 = .ok (.iload_n 1, 1) := by decide +kernel
theorem dX11_few_153 : decode cX11_few 153 = .ok (.if_icmp .ge 21, 3) := by decide +kernel
theorem dX11_few_156 : decode cX11_few 156 = .ok (.lload 5, 2) := by decide +kernel
theorem dX11_few_158 : decode cX11_few 158 = .ok (.aload_n 0, 1) := by decide +kernel
theorem dX11_few_159 : decode cX11_few 159 = .ok (.getfield 83, 3) := by decide +kernel
theorem dX11_few_162 : decode cX11_few 162 = .ok (.iload 7, 2) := by decide +kernel
theorem dX11_few_164 : decode cX11_few 164 = .ok (.laload, 1) := by decide +kernel
theorem dX11_few_165 : decode cX11_few 165 = .ok (.ladd, 1) := by decide +kernel
theorem dX11_few_166 : decode cX11_few 166 = .ok (.lstore 5, 2) := by decide +kernel
theorem dX11_few_168 : decode cX11_few 168 = .ok (.iinc 7 1, 3) := by decide +kernel
theorem dX11_few_171 : decode cX11_few 171 = .ok (.goto (-21), 3) := by decide +kernel
theorem dX11_few_174 : decode cX11_few 174 = .ok (.lload 5, 2) := by decide +kernel
theorem dX11_few_176 : decode cX11_few 176 = .ok (.lreturn, 1) := by decide +kernel
theorem dX11_compare_0 : decode cX11_compare 0 = .ok (.iload_n 1, 1) := by decide +kernel
theorem dX11_compare_1 : decode cX11_compare 1 = .ok (.iconst (-1), 1) := by decide +kernel
theorem dX11_compare_2 : decode cX11_compare 2 = .ok (.if_icmp .eq 16, 3) := by decide +kernel
theorem dX11_compare_5 : decode cX11_compare 5 = .ok (.aload_n 0, 1) := by decide +kernel
theorem dX11_compare_6 : decode cX11_compare 6 = .ok (.getfield 31, 3) := by decide +kernel
theorem dX11_compare_9 : decode cX11_compare 9 = .ok (.iload_n 1, 1) := by decide +kernel
theorem dX11_compare_10 : decode cX11_compare 10 = .ok (.invokevirtual 262, 3) := by decide +kernel
theorem dX11_compare_13 : decode cX11_compare 13 = .ok (.ifCond .ne 5, 3) := by decide +kernel
theorem dX11_compare_16 : decode cX11_compare 16 = .ok (.iconst (-1), 1) := by decide +kernel
theorem dX11_compare_17 : decode cX11_compare 17 = .ok (.ireturn, 1) := by decide +kernel
theorem dX11_compare_18 : decode cX11_compare 18 = .ok (.iload_n 2, 1) := by decide +kernel
theorem dX11_compare_19 : decode cX11_compare 19 = .ok (.invokestatic 167, 3) := by decide +kernel
theorem dX11_compare_22 : decode cX11_compare 22 = .ok (.ifCond .eq 12, 3) := by decide +kernel
theorem dX11_compare_25 : decode cX11_compare 25 = .ok (.iload_n 3, 1) := by decide +kernel
theorem dX11_compare_26 : decode cX11_compare 26 = .ok (.ifCond .lt 8, 3) := by decide +kernel
theorem dX11_compare_29 : decode cX11_compare 29 = .ok (.iload_n 3, 1) := by decide +kernel
theorem dX11_compare_30 : decode cX11_compare 30 = .ok (.iconst 1, 1) := by decide +kernel
theorem dX11_compare_31 : decode cX11_compare 31 = .ok (.if_icmp .le 5, 3) := by decide +kernel
theorem dX11_compare_34 : decode cX11_compare 34 = .ok (.iconst (-1), 1) := by decide +kernel
theorem dX11_compare_35 : decode cX11_compare 35 = .ok (.ireturn, 1) := by decide +kernel
theorem dX11_compare_36 : decode cX11_compare 36 = .ok (.aload_n 0, 1) := by decide +kernel
theorem dX11_compare_37 : decode cX11_compare 37 = .ok (.getfield 31, 3) := by decide +kernel
theorem dX11_compare_40 : decode cX11_compare 40 = .ok (.aload_n 0, 1) := by decide +kernel
theorem dX11_compare_41 : decode cX11_compare 41 = .ok (.getfield 31, 3) := by decide +kernel
theorem dX11_compare_44 : decode cX11_compare 44 = .ok (.iload_n 1, 1) := by decide +kernel
theorem dX11_compare_45 : decode cX11_compare 45 = .ok (.invokevirtual 338, 3) := by decide +kernel
theorem dX11_compare_48 : decode cX11_compare 48 = .ok (.iload_n 2, 1) := by decide +kernel
theorem dX11_compare_49 : decode cX11_compare 49 = .ok (.iload_n 3, 1) := by decide +kernel
theorem dX11_compare_50 : decode cX11_compare 50 = .ok (.aload_n 0, 1) := by decide +kernel
theorem dX11_compare_51 : decode cX11_compare 51 = .ok (.getfield 10, 3) := by decide +kernel
theorem dX11_compare_54 : decode cX11_compare 54 = .ok (.invokevirtual 342, 3) := by decide +kernel
theorem dX11_compare_57 : decode cX11_compare 57 = .ok (.ireturn, 1) := by decide +kernel
theorem dX10_gracesEnded_0 : decode cX10_gracesEnded 0 = .ok (.aload_n 0, 1) := by decide +kernel
theorem dX10_gracesEnded_1 : decode cX10_gracesEnded 1 = .ok (.getfield 35, 3) := by decide +kernel
theorem dX10_gracesEnded_4 : decode cX10_gracesEnded 4 = .ok (.ifCond .eq 12, 3) := by decide +kernel
theorem dX10_gracesEnded_7 : decode cX10_gracesEnded 7 = .ok (.aload_n 0, 1) := by decide +kernel
theorem dX10_gracesEnded_8 : decode cX10_gracesEnded 8 = .ok (.getfield 39, 3) := by decide +kernel
theorem dX10_gracesEnded_11 : decode cX10_gracesEnded 11 = .ok (.iconst 1, 1) := by decide +kernel
theorem dX10_gracesEnded_12 : decode cX10_gracesEnded 12 = .ok (.isub, 1) := by decide +kernel
theorem dX10_gracesEnded_13 : decode cX10_gracesEnded 13 = .ok (.goto 7, 3) := by decide +kernel
theorem dX10_gracesEnded_16 : decode cX10_gracesEnded 16 = .ok (.aload_n 0, 1) := by decide +kernel
theorem dX10_gracesEnded_17 : decode cX10_gracesEnded 17 = .ok (.getfield 39, 3) := by decide +kernel
theorem dX10_gracesEnded_20 : decode cX10_gracesEnded 20 = .ok (.ireturn, 1) := by decide +kernel
theorem dX11_drawAfter_0 : decode cX11_drawAfter 0 = .ok (.iload_n 0, 1) := by decide +kernel
theorem dX11_drawAfter_1 : decode cX11_drawAfter 1 = .ok (.i2l, 1) := by decide +kernel
theorem dX11_drawAfter_2 : decode cX11_drawAfter 2 = .ok (.ldc2_w 413, 3) := by decide +kernel
theorem dX11_drawAfter_5 : decode cX11_drawAfter 5 = .ok (.lmul, 1) := by decide +kernel
theorem dX11_drawAfter_6 : decode cX11_drawAfter 6 = .ok (.ldc2_w 415, 3) := by decide +kernel
theorem dX11_drawAfter_9 : decode cX11_drawAfter 9 = .ok (.ladd, 1) := by decide +kernel
theorem dX11_drawAfter_10 : decode cX11_drawAfter 10 = .ok (.ldc2_w 417, 3) := by decide +kernel
theorem dX11_drawAfter_13 : decode cX11_drawAfter 13 = .ok (.lrem, 1) := by decide +kernel
theorem dX11_drawAfter_14 : decode cX11_drawAfter 14 = .ok (.l2i, 1) := by decide +kernel
theorem dX11_drawAfter_15 : decode cX11_drawAfter 15 = .ok (.ireturn, 1) := by decide +kernel
theorem dX11_days_0 : decode cX11_days 0 = .ok (.iload_n 1, 1) := by decide +kernel
theorem dX11_days_1 : decode cX11_days 1 = .ok (.ifCond .lt 21, 3) := by decide +kernel
theorem dX11_days_4 : decode cX11_days 4 = .ok (.iload_n 1, 1) := by decide +kernel
theorem dX11_days_5 : decode cX11_days 5 = .ok (.ldc_w 346, 3) := by decide +kernel
theorem dX11_days_8 : decode cX11_days 8 = .ok (.if_icmp .gt 14, 3) := by decide +kernel
theorem dX11_days_11 : decode cX11_days 11 = .ok (.iload_n 2, 1) := by decide +kernel
theorem dX11_days_12 : decode cX11_days 12 = .ok (.iconst 1, 1) := by decide +kernel
theorem dX11_days_13 : decode cX11_days 13 = .ok (.if_icmp .lt 9, 3) := by decide +kernel
theorem dX11_days_16 : decode cX11_days 16 = .ok (.iload_n 2, 1) := by decide +kernel
theorem dX11_days_17 : decode cX11_days 17 = .ok (.bipush 60, 2) := by decide +kernel
theorem dX11_days_19 : decode cX11_days 19 = .ok (.if_icmp .le 9, 3) := by decide +kernel
theorem dX11_days_22 : decode cX11_days 22 = .ok (.aload_n 0, 1) := by decide +kernel
theorem dX11_days_23 : decode cX11_days 23 = .ok (.iconst (-1), 1) := by decide +kernel
theorem dX11_days_24 : decode cX11_days 24 = .ok (.invokevirtual 192, 3) := by decide +kernel
theorem dX11_days_27 : decode cX11_days 27 = .ok (.ireturn, 1) := by decide +kernel
theorem dX11_days_28 : decode cX11_days 28 = .ok (.aload_n 0, 1) := by decide +kernel
theorem dX11_days_29 : decode cX11_days 29 = .ok (.getfield 16, 3) := by decide +kernel
theorem dX11_days_32 : decode cX11_days 32 = .ok (.aload_n 0, 1) := by decide +kernel
theorem dX11_days_33 : decode cX11_days 33 = .ok (.getfield 10, 3) := by decide +kernel
theorem dX11_days_36 : decode cX11_days 36 = .ok (.invokevirtual 248, 3) := by decide +kernel
theorem dX11_days_39 : decode cX11_days 39 = .ok (.aload_n 0, 1) := by decide +kernel
theorem dX11_days_40 : decode cX11_days 40 = .ok (.getfield 16, 3) := by decide +kernel
theorem dX11_days_43 : decode cX11_days 43 = .ok (.invokevirtual 347, 3) := by decide +kernel
theorem dX11_days_46 : decode cX11_days 46 = .ok (.istore_n 3, 1) := by decide +kernel
theorem dX11_days_47 : decode cX11_days 47 = .ok (.iload_n 1, 1) := by decide +kernel
theorem dX11_days_48 : decode cX11_days 48 = .ok (.istore 4, 2) := by decide +kernel
theorem dX11_days_50 : decode cX11_days 50 = .ok (.iconst 0, 1) := by decide +kernel
theorem dX11_days_51 : decode cX11_days 51 = .ok (.istore 5, 2) := by decide +kernel
theorem dX11_days_53 : decode cX11_days 53 = .ok (.iload 5, 2) := by decide +kernel
theorem dX11_days_55 : decode cX11_days 55 = .ok (.iload_n 2, 1) := by decide +kernel
theorem dX11_days_56 : decode cX11_days 56 = .ok (.if_icmp .ge 119, 3) := by decide +kernel
theorem dX11_days_59 : decode cX11_days 59 = .ok (.iload 4, 2) := by decide +kernel
theorem dX11_days_61 : decode cX11_days 61 = .ok (.invokestatic 350, 3) := by decide +kernel
theorem dX11_days_64 : decode cX11_days 64 = .ok (.istore 4, 2) := by decide +kernel
theorem dX11_days_66 : decode cX11_days 66 = .ok (.iload 4, 2) := by decide +kernel
theorem dX11_days_68 : decode cX11_days 68 = .ok (.bipush 8, 2) := by decide +kernel
theorem dX11_days_70 : decode cX11_days 70 = .ok (.irem, 1) := by decide +kernel
theorem dX11_days_71 : decode cX11_days 71 = .ok (.istore 6, 2) := by decide +kernel
theorem dX11_days_73 : decode cX11_days 73 = .ok (.iload 4, 2) := by decide +kernel
theorem dX11_days_75 : decode cX11_days 75 = .ok (.invokestatic 350, 3) := by decide +kernel
theorem dX11_days_78 : decode cX11_days 78 = .ok (.istore 4, 2) := by decide +kernel
theorem dX11_days_80 : decode cX11_days 80 = .ok (.iload 4, 2) := by decide +kernel
theorem dX11_days_82 : decode cX11_days 82 = .ok (.bipush 6, 2) := by decide +kernel
theorem dX11_days_84 : decode cX11_days 84 = .ok (.irem, 1) := by decide +kernel
theorem dX11_days_85 : decode cX11_days 85 = .ok (.istore 7, 2) := by decide +kernel
theorem dX11_days_87 : decode cX11_days 87 = .ok (.iload 4, 2) := by decide +kernel
theorem dX11_days_89 : decode cX11_days 89 = .ok (.invokestatic 350, 3) := by decide +kernel
theorem dX11_days_92 : decode cX11_days 92 = .ok (.istore 4, 2) := by decide +kernel
theorem dX11_days_94 : decode cX11_days 94 = .ok (.iload 4, 2) := by decide +kernel
theorem dX11_days_96 : decode cX11_days 96 = .ok (.bipush 9, 2) := by decide +kernel
theorem dX11_days_98 : decode cX11_days 98 = .ok (.irem, 1) := by decide +kernel
theorem dX11_days_99 : decode cX11_days 99 = .ok (.istore 8, 2) := by decide +kernel
theorem dX11_days_101 : decode cX11_days 101 = .ok (.iload 8, 2) := by decide +kernel
theorem dX11_days_103 : decode cX11_days 103 = .ok (.ifCond .eq 9, 3) := by decide +kernel
theorem dX11_days_106 : decode cX11_days 106 = .ok (.iload 8, 2) := by decide +kernel
theorem dX11_days_108 : decode cX11_days 108 = .ok (.iconst 1, 1) := by decide +kernel
theorem dX11_days_109 : decode cX11_days 109 = .ok (.if_icmp .ne 7, 3) := by decide +kernel
theorem dX11_days_112 : decode cX11_days 112 = .ok (.iconst 1, 1) := by decide +kernel
theorem dX11_days_113 : decode cX11_days 113 = .ok (.goto 4, 3) := by decide +kernel
theorem dX11_days_116 : decode cX11_days 116 = .ok (.iconst 0, 1) := by decide +kernel
theorem dX11_days_117 : decode cX11_days 117 = .ok (.istore 9, 2) := by decide +kernel
theorem dX11_days_119 : decode cX11_days 119 = .ok (.iload 8, 2) := by decide +kernel
theorem dX11_days_121 : decode cX11_days 121 = .ok (.bipush 8, 2) := by decide +kernel
theorem dX11_days_123 : decode cX11_days 123 = .ok (.if_icmp .ne 18, 3) := by decide +kernel
theorem dX11_days_126 : decode cX11_days 126 = .ok (.aload_n 0, 1) := by decide +kernel
theorem dX11_days_127 : decode cX11_days 127 = .ok (.getfield 16, 3) := by decide +kernel
theorem dX11_days_130 : decode cX11_days 130 = .ok (.aload_n 0, 1) := by decide +kernel
theorem dX11_days_131 : decode cX11_days 131 = .ok (.getfield 31, 3) := by decide +kernel
theorem dX11_days_134 : decode cX11_days 134 = .ok (.invokevirtual 296, 3) := by decide +kernel
theorem dX11_days_137 : decode cX11_days 137 = .ok (.pop, 1) := by decide +kernel
theorem dX11_days_138 : decode cX11_days 138 = .ok (.goto 31, 3) := by decide +kernel
theorem dX11_days_141 : decode cX11_days 141 = .ok (.aload_n 0, 1) := by decide +kernel
theorem dX11_days_142 : decode cX11_days 142 = .ok (.getfield 16, 3) := by decide +kernel
theorem dX11_days_145 : decode cX11_days 145 = .ok (.iload 8, 2) := by decide +kernel
theorem dX11_days_147 : decode cX11_days 147 = .ok (.iload 9, 2) := by decide +kernel
theorem dX11_days_149 : decode cX11_days 149 = .ok (.ifCond .eq 8, 3) := by decide +kernel
theorem dX11_days_152 : decode cX11_days 152 = .ok (.iload 7, 2) := by decide +kernel
theorem dX11_days_154 : decode cX11_days 154 = .ok (.goto 5, 3) := by decide +kernel
theorem dX11_days_157 : decode cX11_days 157 = .ok (.iload 6, 2) := by decide +kernel
theorem dX11_days_159 : decode cX11_days 159 = .ok (.iload 6, 2) := by decide +kernel
theorem dX11_days_161 : decode cX11_days 161 = .ok (.aload_n 0, 1) := by decide +kernel
theorem dX11_days_162 : decode cX11_days 162 = .ok (.getfield 31, 3) := by decide +kernel
theorem dX11_days_165 : decode cX11_days 165 = .ok (.invokevirtual 353, 3) := by decide +kernel
theorem dX11_days_168 : decode cX11_days 168 = .ok (.pop, 1) := by decide +kernel
theorem dX11_days_169 : decode cX11_days 169 = .ok (.iinc 5 1, 3) := by decide +kernel
theorem dX11_days_172 : decode cX11_days 172 = .ok (.goto (-119), 3) := by decide +kernel
theorem dX11_days_175 : decode cX11_days 175 = .ok (.aload_n 0, 1) := by decide +kernel
theorem dX11_days_176 : decode cX11_days 176 = .ok (.getfield 16, 3) := by decide +kernel
theorem dX11_days_179 : decode cX11_days 179 = .ok (.getfield 140, 3) := by decide +kernel
theorem dX11_days_182 : decode cX11_days 182 = .ok (.getfield 144, 3) := by decide +kernel
theorem dX11_days_185 : decode cX11_days 185 = .ok (.iconst 0, 1) := by decide +kernel
theorem dX11_days_186 : decode cX11_days 186 = .ok (.aload_n 0, 1) := by decide +kernel
theorem dX11_days_187 : decode cX11_days 187 = .ok (.getfield 80, 3) := by decide +kernel
theorem dX11_days_190 : decode cX11_days 190 = .ok (.iconst 0, 1) := by decide +kernel
theorem dX11_days_191 : decode cX11_days 191 = .ok (.bipush 24, 2) := by decide +kernel
theorem dX11_days_193 : decode cX11_days 193 = .ok (.invokestatic 357, 3) := by decide +kernel
theorem dX11_days_196 : decode cX11_days 196 = .ok (.aload_n 0, 1) := by decide +kernel
theorem dX11_days_197 : decode cX11_days 197 = .ok (.aload_n 0, 1) := by decide +kernel
theorem dX11_days_198 : decode cX11_days 198 = .ok (.getfield 16, 3) := by decide +kernel
theorem dX11_days_201 : decode cX11_days 201 = .ok (.invokevirtual 347, 3) := by decide +kernel
theorem dX11_days_204 : decode cX11_days 204 = .ok (.iload_n 3, 1) := by decide +kernel
theorem dX11_days_205 : decode cX11_days 205 = .ok (.isub, 1) := by decide +kernel
theorem dX11_days_206 : decode cX11_days 206 = .ok (.invokevirtual 192, 3) := by decide +kernel
theorem dX11_days_209 : decode cX11_days 209 = .ok (.ireturn, 1) := by decide +kernel
theorem dX11_drawn_0 : decode cX11_drawn 0 = .ok (.iload_n 1, 1) := by decide +kernel
theorem dX11_drawn_1 : decode cX11_drawn 1 = .ok (.invokestatic 137, 3) := by decide +kernel
theorem dX11_drawn_4 : decode cX11_drawn 4 = .ok (.ifCond .eq 12, 3) := by decide +kernel
theorem dX11_drawn_7 : decode cX11_drawn 7 = .ok (.aload_n 0, 1) := by decide +kernel
theorem dX11_drawn_8 : decode cX11_drawn 8 = .ok (.getfield 80, 3) := by decide +kernel
theorem dX11_drawn_11 : decode cX11_drawn 11 = .ok (.iload_n 1, 1) := by decide +kernel
theorem dX11_drawn_12 : decode cX11_drawn 12 = .ok (.iaload, 1) := by decide +kernel
theorem dX11_drawn_13 : decode cX11_drawn 13 = .ok (.goto 4, 3) := by decide +kernel
theorem dX11_drawn_16 : decode cX11_drawn 16 = .ok (.iconst (-1), 1) := by decide +kernel
theorem dX11_drawn_17 : decode cX11_drawn 17 = .ok (.ireturn, 1) := by decide +kernel
theorem dX11_imageAt_0 : decode cX11_imageAt 0 = .ok (.iload_n 1, 1) := by decide +kernel
theorem dX11_imageAt_1 : decode cX11_imageAt 1 = .ok (.ifCond .ne 10, 3) := by decide +kernel
theorem dX11_imageAt_4 : decode cX11_imageAt 4 = .ok (.aload_n 0, 1) := by decide +kernel
theorem dX11_imageAt_5 : decode cX11_imageAt 5 = .ok (.getfield 55, 3) := by decide +kernel
theorem dX11_imageAt_8 : decode cX11_imageAt 8 = .ok (.goto 7, 3) := by decide +kernel
theorem dX11_imageAt_11 : decode cX11_imageAt 11 = .ok (.aload_n 0, 1) := by decide +kernel
theorem dX11_imageAt_12 : decode cX11_imageAt 12 = .ok (.getfield 59, 3) := by decide +kernel
theorem dX11_imageAt_15 : decode cX11_imageAt 15 = .ok (.areturn, 1) := by decide +kernel
theorem dX6_copyFrom_0 : decode cX6_copyFrom 0 = .ok (.iconst 0, 1) := by decide +kernel
theorem dX6_copyFrom_1 : decode cX6_copyFrom 1 = .ok (.istore_n 2, 1) := by decide +kernel
theorem dX6_copyFrom_2 : decode cX6_copyFrom 2 = .ok (.iload_n 2, 1) := by decide +kernel
theorem dX6_copyFrom_3 : decode cX6_copyFrom 3 = .ok (.bipush 6, 2) := by decide +kernel
theorem dX6_copyFrom_5 : decode cX6_copyFrom 5 = .ok (.if_icmp .ge 21, 3) := by decide +kernel
theorem dX6_copyFrom_8 : decode cX6_copyFrom 8 = .ok (.aload_n 0, 1) := by decide +kernel
theorem dX6_copyFrom_9 : decode cX6_copyFrom 9 = .ok (.getfield 11, 3) := by decide +kernel
theorem dX6_copyFrom_12 : decode cX6_copyFrom 12 = .ok (.iload_n 2, 1) := by decide +kernel
theorem dX6_copyFrom_13 : decode cX6_copyFrom 13 = .ok (.aload_n 1, 1) := by decide +kernel
theorem dX6_copyFrom_14 : decode cX6_copyFrom 14 = .ok (.getfield 11, 3) := by decide +kernel
theorem dX6_copyFrom_17 : decode cX6_copyFrom 17 = .ok (.iload_n 2, 1) := by decide +kernel
theorem dX6_copyFrom_18 : decode cX6_copyFrom 18 = .ok (.aaload, 1) := by decide +kernel
theorem dX6_copyFrom_19 : decode cX6_copyFrom 19 = .ok (.aastore, 1) := by decide +kernel
theorem dX6_copyFrom_20 : decode cX6_copyFrom 20 = .ok (.iinc 2 1, 3) := by decide +kernel
theorem dX6_copyFrom_23 : decode cX6_copyFrom 23 = .ok (.goto (-21), 3) := by decide +kernel
theorem dX6_copyFrom_26 : decode cX6_copyFrom 26 = .ok (.aload_n 0, 1) := by decide +kernel
theorem dX6_copyFrom_27 : decode cX6_copyFrom 27 = .ok (.aload_n 1, 1) := by decide +kernel
theorem dX6_copyFrom_28 : decode cX6_copyFrom 28 = .ok (.getfield 17, 3) := by decide +kernel
theorem dX6_copyFrom_31 : decode cX6_copyFrom 31 = .ok (.putfield 17, 3) := by decide +kernel
theorem dX6_copyFrom_34 : decode cX6_copyFrom 34 = .ok (.aload_n 0, 1) := by decide +kernel
theorem dX6_copyFrom_35 : decode cX6_copyFrom 35 = .ok (.aload_n 1, 1) := by decide +kernel
theorem dX6_copyFrom_36 : decode cX6_copyFrom 36 = .ok (.getfield 21, 3) := by decide +kernel
theorem dX6_copyFrom_39 : decode cX6_copyFrom 39 = .ok (.putfield 21, 3) := by decide +kernel
theorem dX6_copyFrom_42 : decode cX6_copyFrom 42 = .ok (.aload_n 0, 1) := by decide +kernel
theorem dX6_copyFrom_43 : decode cX6_copyFrom 43 = .ok (.aload_n 1, 1) := by decide +kernel
theorem dX6_copyFrom_44 : decode cX6_copyFrom 44 = .ok (.getfield 24, 3) := by decide +kernel
theorem dX6_copyFrom_47 : decode cX6_copyFrom 47 = .ok (.putfield 24, 3) := by decide +kernel
theorem dX6_copyFrom_50 : decode cX6_copyFrom 50 = .ok (.aload_n 0, 1) := by decide +kernel
theorem dX6_copyFrom_51 : decode cX6_copyFrom 51 = .ok (.aload_n 1, 1) := by decide +kernel
theorem dX6_copyFrom_52 : decode cX6_copyFrom 52 = .ok (.getfield 27, 3) := by decide +kernel
theorem dX6_copyFrom_55 : decode cX6_copyFrom 55 = .ok (.putfield 27, 3) := by decide +kernel
theorem dX6_copyFrom_58 : decode cX6_copyFrom 58 = .ok (.return_, 1) := by decide +kernel
theorem dX1_copyFrom_0 : decode cX1_copyFrom 0 = .ok (.aload_n 1, 1) := by decide +kernel
theorem dX1_copyFrom_1 : decode cX1_copyFrom 1 = .ok (.getfield 9, 3) := by decide +kernel
theorem dX1_copyFrom_4 : decode cX1_copyFrom 4 = .ok (.iconst 0, 1) := by decide +kernel
theorem dX1_copyFrom_5 : decode cX1_copyFrom 5 = .ok (.aload_n 0, 1) := by decide +kernel
theorem dX1_copyFrom_6 : decode cX1_copyFrom 6 = .ok (.getfield 9, 3) := by decide +kernel
theorem dX1_copyFrom_9 : decode cX1_copyFrom 9 = .ok (.iconst 0, 1) := by decide +kernel
theorem dX1_copyFrom_10 : decode cX1_copyFrom 10 = .ok (.bipush 6, 2) := by decide +kernel
theorem dX1_copyFrom_12 : decode cX1_copyFrom 12 = .ok (.invokestatic 22, 3) := by decide +kernel
theorem dX1_copyFrom_15 : decode cX1_copyFrom 15 = .ok (.aload_n 1, 1) := by decide +kernel
theorem dX1_copyFrom_16 : decode cX1_copyFrom 16 = .ok (.getfield 15, 3) := by decide +kernel
theorem dX1_copyFrom_19 : decode cX1_copyFrom 19 = .ok (.iconst 0, 1) := by decide +kernel
theorem dX1_copyFrom_20 : decode cX1_copyFrom 20 = .ok (.aload_n 0, 1) := by decide +kernel
theorem dX1_copyFrom_21 : decode cX1_copyFrom 21 = .ok (.getfield 15, 3) := by decide +kernel
theorem dX1_copyFrom_24 : decode cX1_copyFrom 24 = .ok (.iconst 0, 1) := by decide +kernel
theorem dX1_copyFrom_25 : decode cX1_copyFrom 25 = .ok (.bipush 6, 2) := by decide +kernel
theorem dX1_copyFrom_27 : decode cX1_copyFrom 27 = .ok (.invokestatic 22, 3) := by decide +kernel
theorem dX1_copyFrom_30 : decode cX1_copyFrom 30 = .ok (.aload_n 0, 1) := by decide +kernel
theorem dX1_copyFrom_31 : decode cX1_copyFrom 31 = .ok (.aload_n 1, 1) := by decide +kernel
theorem dX1_copyFrom_32 : decode cX1_copyFrom 32 = .ok (.getfield 18, 3) := by decide +kernel
theorem dX1_copyFrom_35 : decode cX1_copyFrom 35 = .ok (.putfield 18, 3) := by decide +kernel
theorem dX1_copyFrom_38 : decode cX1_copyFrom 38 = .ok (.return_, 1) := by decide +kernel
theorem dX3_keep_0 : decode cX3_keep 0 = .ok (.aload_n 0, 1) := by decide +kernel
theorem dX3_keep_1 : decode cX3_keep 1 = .ok (.getfield 10, 3) := by decide +kernel
theorem dX3_keep_4 : decode cX3_keep 4 = .ok (.aload_n 1, 1) := by decide +kernel
theorem dX3_keep_5 : decode cX3_keep 5 = .ok (.invokevirtual 36, 3) := by decide +kernel
theorem dX3_keep_8 : decode cX3_keep 8 = .ok (.aload_n 0, 1) := by decide +kernel
theorem dX3_keep_9 : decode cX3_keep 9 = .ok (.getfield 32, 3) := by decide +kernel
theorem dX3_keep_12 : decode cX3_keep 12 = .ok (.aload_n 2, 1) := by decide +kernel
theorem dX3_keep_13 : decode cX3_keep 13 = .ok (.invokevirtual 40, 3) := by decide +kernel
theorem dX3_keep_16 : decode cX3_keep 16 = .ok (.aload_n 0, 1) := by decide +kernel
theorem dX3_keep_17 : decode cX3_keep 17 = .ok (.getfield 19, 3) := by decide +kernel
theorem dX3_keep_20 : decode cX3_keep 20 = .ok (.aload_n 3, 1) := by decide +kernel
theorem dX3_keep_21 : decode cX3_keep 21 = .ok (.invokevirtual 43, 3) := by decide +kernel
theorem dX3_keep_24 : decode cX3_keep 24 = .ok (.aload_n 0, 1) := by decide +kernel
theorem dX3_keep_25 : decode cX3_keep 25 = .ok (.iconst 1, 1) := by decide +kernel
theorem dX3_keep_26 : decode cX3_keep 26 = .ok (.putfield 23, 3) := by decide +kernel
theorem dX3_keep_29 : decode cX3_keep 29 = .ok (.return_, 1) := by decide +kernel
theorem dX11_image_0 : decode cX11_image 0 = .ok (.iload_n 1, 1) := by decide +kernel
theorem dX11_image_1 : decode cX11_image 1 = .ok (.ifCond .eq 14, 3) := by decide +kernel
theorem dX11_image_4 : decode cX11_image 4 = .ok (.iload_n 1, 1) := by decide +kernel
theorem dX11_image_5 : decode cX11_image 5 = .ok (.iconst 1, 1) := by decide +kernel
theorem dX11_image_6 : decode cX11_image 6 = .ok (.if_icmp .eq 9, 3) := by decide +kernel
theorem dX11_image_9 : decode cX11_image 9 = .ok (.aload_n 0, 1) := by decide +kernel
theorem dX11_image_10 : decode cX11_image 10 = .ok (.iconst (-1), 1) := by decide +kernel
theorem dX11_image_11 : decode cX11_image 11 = .ok (.invokevirtual 192, 3) := by decide +kernel
theorem dX11_image_14 : decode cX11_image 14 = .ok (.ireturn, 1) := by decide +kernel
theorem dX11_image_15 : decode cX11_image 15 = .ok (.aload_n 0, 1) := by decide +kernel
theorem dX11_image_16 : decode cX11_image 16 = .ok (.iload_n 1, 1) := by decide +kernel
theorem dX11_image_17 : decode cX11_image 17 = .ok (.invokevirtual 363, 3) := by decide +kernel
theorem dX11_image_20 : decode cX11_image 20 = .ok (.aload_n 0, 1) := by decide +kernel
theorem dX11_image_21 : decode cX11_image 21 = .ok (.getfield 10, 3) := by decide +kernel
theorem dX11_image_24 : decode cX11_image 24 = .ok (.aload_n 0, 1) := by decide +kernel
theorem dX11_image_25 : decode cX11_image 25 = .ok (.getfield 31, 3) := by decide +kernel
theorem dX11_image_28 : decode cX11_image 28 = .ok (.aload_n 0, 1) := by decide +kernel
theorem dX11_image_29 : decode cX11_image 29 = .ok (.getfield 38, 3) := by decide +kernel
theorem dX11_image_32 : decode cX11_image 32 = .ok (.invokevirtual 367, 3) := by decide +kernel
theorem dX11_image_35 : decode cX11_image 35 = .ok (.aload_n 0, 1) := by decide +kernel
theorem dX11_image_36 : decode cX11_image 36 = .ok (.iconst 0, 1) := by decide +kernel
theorem dX11_image_37 : decode cX11_image 37 = .ok (.invokevirtual 192, 3) := by decide +kernel
theorem dX11_image_40 : decode cX11_image 40 = .ok (.ireturn, 1) := by decide +kernel
theorem dX3_giveBack_0 : decode cX3_giveBack 0 = .ok (.aload_n 1, 1) := by decide +kernel
theorem dX3_giveBack_1 : decode cX3_giveBack 1 = .ok (.aload_n 0, 1) := by decide +kernel
theorem dX3_giveBack_2 : decode cX3_giveBack 2 = .ok (.getfield 10, 3) := by decide +kernel
theorem dX3_giveBack_5 : decode cX3_giveBack 5 = .ok (.invokevirtual 36, 3) := by decide +kernel
theorem dX3_giveBack_8 : decode cX3_giveBack 8 = .ok (.aload_n 2, 1) := by decide +kernel
theorem dX3_giveBack_9 : decode cX3_giveBack 9 = .ok (.aload_n 0, 1) := by decide +kernel
theorem dX3_giveBack_10 : decode cX3_giveBack 10 = .ok (.getfield 32, 3) := by decide +kernel
theorem dX3_giveBack_13 : decode cX3_giveBack 13 = .ok (.invokevirtual 40, 3) := by decide +kernel
theorem dX3_giveBack_16 : decode cX3_giveBack 16 = .ok (.aload_n 3, 1) := by decide +kernel
theorem dX3_giveBack_17 : decode cX3_giveBack 17 = .ok (.aload_n 0, 1) := by decide +kernel
theorem dX3_giveBack_18 : decode cX3_giveBack 18 = .ok (.getfield 19, 3) := by decide +kernel
theorem dX3_giveBack_21 : decode cX3_giveBack 21 = .ok (.invokevirtual 43, 3) := by decide +kernel
theorem dX3_giveBack_24 : decode cX3_giveBack 24 = .ok (.return_, 1) := by decide +kernel
theorem dX11_back_0 : decode cX11_back 0 = .ok (.iload_n 1, 1) := by decide +kernel
theorem dX11_back_1 : decode cX11_back 1 = .ok (.ifCond .eq 14, 3) := by decide +kernel
theorem dX11_back_4 : decode cX11_back 4 = .ok (.iload_n 1, 1) := by decide +kernel
theorem dX11_back_5 : decode cX11_back 5 = .ok (.iconst 1, 1) := by decide +kernel
theorem dX11_back_6 : decode cX11_back 6 = .ok (.if_icmp .eq 9, 3) := by decide +kernel
theorem dX11_back_9 : decode cX11_back 9 = .ok (.aload_n 0, 1) := by decide +kernel
theorem dX11_back_10 : decode cX11_back 10 = .ok (.iconst (-1), 1) := by decide +kernel
theorem dX11_back_11 : decode cX11_back 11 = .ok (.invokevirtual 192, 3) := by decide +kernel
theorem dX11_back_14 : decode cX11_back 14 = .ok (.ireturn, 1) := by decide +kernel
theorem dX11_back_15 : decode cX11_back 15 = .ok (.aload_n 0, 1) := by decide +kernel
theorem dX11_back_16 : decode cX11_back 16 = .ok (.iload_n 1, 1) := by decide +kernel
theorem dX11_back_17 : decode cX11_back 17 = .ok (.invokevirtual 363, 3) := by decide +kernel
theorem dX11_back_20 : decode cX11_back 20 = .ok (.getfield 371, 3) := by decide +kernel
theorem dX11_back_23 : decode cX11_back 23 = .ok (.ifCond .ne 10, 3) := by decide +kernel
theorem dX11_back_26 : decode cX11_back 26 = .ok (.aload_n 0, 1) := by decide +kernel
theorem dX11_back_27 : decode cX11_back 27 = .ok (.bipush (-2), 2) := by decide +kernel
theorem dX11_back_29 : decode cX11_back 29 = .ok (.invokevirtual 192, 3) := by decide +kernel
theorem dX11_back_32 : decode cX11_back 32 = .ok (.ireturn, 1) := by decide +kernel
theorem dX11_back_33 : decode cX11_back 33 = .ok (.aload_n 0, 1) := by decide +kernel
theorem dX11_back_34 : decode cX11_back 34 = .ok (.iload_n 1, 1) := by decide +kernel
theorem dX11_back_35 : decode cX11_back 35 = .ok (.invokevirtual 363, 3) := by decide +kernel
theorem dX11_back_38 : decode cX11_back 38 = .ok (.aload_n 0, 1) := by decide +kernel
theorem dX11_back_39 : decode cX11_back 39 = .ok (.getfield 10, 3) := by decide +kernel
theorem dX11_back_42 : decode cX11_back 42 = .ok (.aload_n 0, 1) := by decide +kernel
theorem dX11_back_43 : decode cX11_back 43 = .ok (.getfield 31, 3) := by decide +kernel
theorem dX11_back_46 : decode cX11_back 46 = .ok (.aload_n 0, 1) := by decide +kernel
theorem dX11_back_47 : decode cX11_back 47 = .ok (.getfield 38, 3) := by decide +kernel
theorem dX11_back_50 : decode cX11_back 50 = .ok (.invokevirtual 374, 3) := by decide +kernel
theorem dX11_back_53 : decode cX11_back 53 = .ok (.aload_n 0, 1) := by decide +kernel
theorem dX11_back_54 : decode cX11_back 54 = .ok (.getfield 45, 3) := by decide +kernel
theorem dX11_back_57 : decode cX11_back 57 = .ok (.invokevirtual 207, 3) := by decide +kernel
theorem dX11_back_60 : decode cX11_back 60 = .ok (.aload_n 0, 1) := by decide +kernel
theorem dX11_back_61 : decode cX11_back 61 = .ok (.iconst 0, 1) := by decide +kernel
theorem dX11_back_62 : decode cX11_back 62 = .ok (.invokevirtual 192, 3) := by decide +kernel
theorem dX11_back_65 : decode cX11_back 65 = .ok (.ireturn, 1) := by decide +kernel
theorem dX0_liveCount_0 : decode cX0_liveCount 0 = .ok (.iconst 0, 1) := by decide +kernel
theorem dX0_liveCount_1 : decode cX0_liveCount 1 = .ok (.istore_n 1, 1) := by decide +kernel
theorem dX0_liveCount_2 : decode cX0_liveCount 2 = .ok (.iconst 0, 1) := by decide +kernel
theorem dX0_liveCount_3 : decode cX0_liveCount 3 = .ok (.istore_n 2, 1) := by decide +kernel
theorem dX0_liveCount_4 : decode cX0_liveCount 4 = .ok (.iload_n 2, 1) := by decide +kernel
theorem dX0_liveCount_5 : decode cX0_liveCount 5 = .ok (.bipush 24, 2) := by decide +kernel
theorem dX0_liveCount_7 : decode cX0_liveCount 7 = .ok (.if_icmp .ge 27, 3) := by decide +kernel
theorem dX0_liveCount_10 : decode cX0_liveCount 10 = .ok (.iload_n 1, 1) := by decide +kernel
theorem dX0_liveCount_11 : decode cX0_liveCount 11 = .ok (.aload_n 0, 1) := by decide +kernel
theorem dX0_liveCount_12 : decode cX0_liveCount 12 = .ok (.getfield 9, 3) := by decide +kernel
theorem dX0_liveCount_15 : decode cX0_liveCount 15 = .ok (.iload_n 2, 1) := by decide +kernel
theorem dX0_liveCount_16 : decode cX0_liveCount 16 = .ok (.iaload, 1) := by decide +kernel
theorem dX0_liveCount_17 : decode cX0_liveCount 17 = .ok (.iconst 1, 1) := by decide +kernel
theorem dX0_liveCount_18 : decode cX0_liveCount 18 = .ok (.if_icmp .ne 7, 3) := by decide +kernel
theorem dX0_liveCount_21 : decode cX0_liveCount 21 = .ok (.iconst 1, 1) := by decide +kernel
theorem dX0_liveCount_22 : decode cX0_liveCount 22 = .ok (.goto 4, 3) := by decide +kernel
theorem dX0_liveCount_25 : decode cX0_liveCount 25 = .ok (.iconst 0, 1) := by decide +kernel
theorem dX0_liveCount_26 : decode cX0_liveCount 26 = .ok (.iadd, 1) := by decide +kernel
theorem dX0_liveCount_27 : decode cX0_liveCount 27 = .ok (.istore_n 1, 1) := by decide +kernel
theorem dX0_liveCount_28 : decode cX0_liveCount 28 = .ok (.iinc 2 1, 3) := by decide +kernel
theorem dX0_liveCount_31 : decode cX0_liveCount 31 = .ok (.goto (-27), 3) := by decide +kernel
theorem dX0_liveCount_34 : decode cX0_liveCount 34 = .ok (.iload_n 1, 1) := by decide +kernel
theorem dX0_liveCount_35 : decode cX0_liveCount 35 = .ok (.ireturn, 1) := by decide +kernel
theorem dX11_count_0 : decode cX11_count 0 = .ok (.iload_n 1, 1) := by decide +kernel
theorem dX11_count_1 : decode cX11_count 1 = .ok (.bipush 10, 2) := by decide +kernel
theorem dX11_count_3 : decode cX11_count 3 = .ok (.if_icmp .lt 19, 3) := by decide +kernel
theorem dX11_count_6 : decode cX11_count 6 = .ok (.iload_n 1, 1) := by decide +kernel
theorem dX11_count_7 : decode cX11_count 7 = .ok (.bipush 14, 2) := by decide +kernel
theorem dX11_count_9 : decode cX11_count 9 = .ok (.if_icmp .gt 13, 3) := by decide +kernel
theorem dX11_count_12 : decode cX11_count 12 = .ok (.aload_n 0, 1) := by decide +kernel
theorem dX11_count_13 : decode cX11_count 13 = .ok (.getfield 76, 3) := by decide +kernel
theorem dX11_count_16 : decode cX11_count 16 = .ok (.iload_n 1, 1) := by decide +kernel
theorem dX11_count_17 : decode cX11_count 17 = .ok (.bipush 10, 2) := by decide +kernel
theorem dX11_count_19 : decode cX11_count 19 = .ok (.isub, 1) := by decide +kernel
theorem dX11_count_20 : decode cX11_count 20 = .ok (.iaload, 1) := by decide +kernel
theorem dX11_count_21 : decode cX11_count 21 = .ok (.ireturn, 1) := by decide +kernel
theorem dX11_count_22 : decode cX11_count 22 = .ok (.iload_n 1, 1) := by decide +kernel
theorem dX11_count_23 : decode cX11_count 23 = .ok (.tableswitch 182 0 15 #[77, 88, 99, 110, 118, 134, 142, 150, 158, 166, 182, 182, 182, 182, 182, 174], 77) := by decide +kernel
theorem dX11_count_100 : decode cX11_count 100 = .ok (.aload_n 0, 1) := by decide +kernel
theorem dX11_count_101 : decode cX11_count 101 = .ok (.getfield 10, 3) := by decide +kernel
theorem dX11_count_104 : decode cX11_count 104 = .ok (.getfield 140, 3) := by decide +kernel
theorem dX11_count_107 : decode cX11_count 107 = .ok (.invokevirtual 377, 3) := by decide +kernel
theorem dX11_count_110 : decode cX11_count 110 = .ok (.ireturn, 1) := by decide +kernel
theorem dX11_count_111 : decode cX11_count 111 = .ok (.aload_n 0, 1) := by decide +kernel
theorem dX11_count_112 : decode cX11_count 112 = .ok (.getfield 10, 3) := by decide +kernel
theorem dX11_count_115 : decode cX11_count 115 = .ok (.getfield 140, 3) := by decide +kernel
theorem dX11_count_118 : decode cX11_count 118 = .ok (.getfield 177, 3) := by decide +kernel
theorem dX11_count_121 : decode cX11_count 121 = .ok (.ireturn, 1) := by decide +kernel
theorem dX11_count_122 : decode cX11_count 122 = .ok (.aload_n 0, 1) := by decide +kernel
theorem dX11_count_123 : decode cX11_count 123 = .ok (.getfield 10, 3) := by decide +kernel
theorem dX11_count_126 : decode cX11_count 126 = .ok (.getfield 140, 3) := by decide +kernel
theorem dX11_count_129 : decode cX11_count 129 = .ok (.getfield 183, 3) := by decide +kernel
theorem dX11_count_132 : decode cX11_count 132 = .ok (.ireturn, 1) := by decide +kernel
theorem dX11_count_133 : decode cX11_count 133 = .ok (.aload_n 0, 1) := by decide +kernel
theorem dX11_count_134 : decode cX11_count 134 = .ok (.getfield 10, 3) := by decide +kernel
theorem dX11_count_137 : decode cX11_count 137 = .ok (.getfield 380, 3) := by decide +kernel
theorem dX11_count_140 : decode cX11_count 140 = .ok (.ireturn, 1) := by decide +kernel
theorem dX11_count_141 : decode cX11_count 141 = .ok (.aload_n 0, 1) := by decide +kernel
theorem dX11_count_142 : decode cX11_count 142 = .ok (.getfield 10, 3) := by decide +kernel
theorem dX11_count_145 : decode cX11_count 145 = .ok (.getfield 170, 3) := by decide +kernel
theorem dX11_count_148 : decode cX11_count 148 = .ok (.ifCond .eq 7, 3) := by decide +kernel
theorem dX11_count_151 : decode cX11_count 151 = .ok (.iconst 1, 1) := by decide +kernel
theorem dX11_count_152 : decode cX11_count 152 = .ok (.goto 4, 3) := by decide +kernel
theorem dX11_count_155 : decode cX11_count 155 = .ok (.iconst 0, 1) := by decide +kernel
theorem dX11_count_156 : decode cX11_count 156 = .ok (.ireturn, 1) := by decide +kernel
theorem dX11_count_157 : decode cX11_count 157 = .ok (.aload_n 0, 1) := by decide +kernel
theorem dX11_count_158 : decode cX11_count 158 = .ok (.getfield 10, 3) := by decide +kernel
theorem dX11_count_161 : decode cX11_count 161 = .ok (.getfield 383, 3) := by decide +kernel
theorem dX11_count_164 : decode cX11_count 164 = .ok (.ireturn, 1) := by decide +kernel
theorem dX11_count_165 : decode cX11_count 165 = .ok (.aload_n 0, 1) := by decide +kernel
theorem dX11_count_166 : decode cX11_count 166 = .ok (.getfield 38, 3) := by decide +kernel
theorem dX11_count_169 : decode cX11_count 169 = .ok (.getfield 319, 3) := by decide +kernel
theorem dX11_count_172 : decode cX11_count 172 = .ok (.ireturn, 1) := by decide +kernel
theorem dX11_count_173 : decode cX11_count 173 = .ok (.aload_n 0, 1) := by decide +kernel
theorem dX11_count_174 : decode cX11_count 174 = .ok (.getfield 31, 3) := by decide +kernel
theorem dX11_count_177 : decode cX11_count 177 = .ok (.getfield 224, 3) := by decide +kernel
theorem dX11_count_180 : decode cX11_count 180 = .ok (.ireturn, 1) := by decide +kernel
theorem dX11_count_181 : decode cX11_count 181 = .ok (.aload_n 0, 1) := by decide +kernel
theorem dX11_count_182 : decode cX11_count 182 = .ok (.getfield 45, 3) := by decide +kernel
theorem dX11_count_185 : decode cX11_count 185 = .ok (.getfield 386, 3) := by decide +kernel
theorem dX11_count_188 : decode cX11_count 188 = .ok (.ireturn, 1) := by decide +kernel
theorem dX11_count_189 : decode cX11_count 189 = .ok (.aload_n 0, 1) := by decide +kernel
theorem dX11_count_190 : decode cX11_count 190 = .ok (.getfield 65, 3) := by decide +kernel
theorem dX11_count_193 : decode cX11_count 193 = .ok (.getfield 210, 3) := by decide +kernel
theorem dX11_count_196 : decode cX11_count 196 = .ok (.ireturn, 1) := by decide +kernel
theorem dX11_count_197 : decode cX11_count 197 = .ok (.aload_n 0, 1) := by decide +kernel
theorem dX11_count_198 : decode cX11_count 198 = .ok (.getfield 31, 3) := by decide +kernel
theorem dX11_count_201 : decode cX11_count 201 = .ok (.getfield 265, 3) := by decide +kernel
theorem dX11_count_204 : decode cX11_count 204 = .ok (.ireturn, 1) := by decide +kernel
theorem dX11_count_205 : decode cX11_count 205 = .ok (.iload_n 1, 1) := by decide +kernel
theorem dX11_count_206 : decode cX11_count 206 = .ok (.bipush 16, 2) := by decide +kernel
theorem dX11_count_208 : decode cX11_count 208 = .ok (.if_icmp .lt 20, 3) := by decide +kernel
theorem dX11_count_211 : decode cX11_count 211 = .ok (.iload_n 1, 1) := by decide +kernel
theorem dX11_count_212 : decode cX11_count 212 = .ok (.bipush 18, 2) := by decide +kernel
theorem dX11_count_214 : decode cX11_count 214 = .ok (.if_icmp .gt 14, 3) := by decide +kernel
theorem dX11_count_217 : decode cX11_count 217 = .ok (.aload_n 0, 1) := by decide +kernel
theorem dX11_count_218 : decode cX11_count 218 = .ok (.iload_n 1, 1) := by decide +kernel
theorem dX11_count_219 : decode cX11_count 219 = .ok (.bipush 16, 2) := by decide +kernel
theorem dX11_count_221 : decode cX11_count 221 = .ok (.isub, 1) := by decide +kernel
theorem dX11_count_222 : decode cX11_count 222 = .ok (.invokevirtual 195, 3) := by decide +kernel
theorem dX11_count_225 : decode cX11_count 225 = .ok (.goto 4, 3) := by decide +kernel
theorem dX11_count_228 : decode cX11_count 228 = .ok (.iconst (-1), 1) := by decide +kernel
theorem dX11_count_229 : decode cX11_count 229 = .ok (.ireturn, 1) := by decide +kernel
theorem dX11_status_0 : decode cX11_status 0 = .ok (.aload_n 0, 1) := by decide +kernel
theorem dX11_status_1 : decode cX11_status 1 = .ok (.getfield 103, 3) := by decide +kernel
theorem dX11_status_4 : decode cX11_status 4 = .ok (.ireturn, 1) := by decide +kernel
theorem dX12_lies_0 : decode cX12_lies 0 = .ok (.iload_n 0, 1) := by decide +kernel
theorem dX12_lies_1 : decode cX12_lies 1 = .ok (.iload_n 1, 1) := by decide +kernel
theorem dX12_lies_2 : decode cX12_lies 2 = .ok (.if_icmp .lt 12, 3) := by decide +kernel
theorem dX12_lies_5 : decode cX12_lies 5 = .ok (.iload_n 0, 1) := by decide +kernel
theorem dX12_lies_6 : decode cX12_lies 6 = .ok (.iload_n 2, 1) := by decide +kernel
theorem dX12_lies_7 : decode cX12_lies 7 = .ok (.if_icmp .gt 7, 3) := by decide +kernel
theorem dX12_lies_10 : decode cX12_lies 10 = .ok (.iconst 1, 1) := by decide +kernel
theorem dX12_lies_11 : decode cX12_lies 11 = .ok (.goto 4, 3) := by decide +kernel
theorem dX12_lies_14 : decode cX12_lies 14 = .ok (.iconst 0, 1) := by decide +kernel
theorem dX12_lies_15 : decode cX12_lies 15 = .ok (.ireturn, 1) := by decide +kernel
theorem dX12_lesser_0 : decode cX12_lesser 0 = .ok (.iload_n 0, 1) := by decide +kernel
theorem dX12_lesser_1 : decode cX12_lesser 1 = .ok (.iload_n 1, 1) := by decide +kernel
theorem dX12_lesser_2 : decode cX12_lesser 2 = .ok (.if_icmp .ge 7, 3) := by decide +kernel
theorem dX12_lesser_5 : decode cX12_lesser 5 = .ok (.iload_n 0, 1) := by decide +kernel
theorem dX12_lesser_6 : decode cX12_lesser 6 = .ok (.goto 4, 3) := by decide +kernel
theorem dX12_lesser_9 : decode cX12_lesser 9 = .ok (.iload_n 1, 1) := by decide +kernel
theorem dX12_lesser_10 : decode cX12_lesser 10 = .ok (.ireturn, 1) := by decide +kernel
theorem dX12_greater_0 : decode cX12_greater 0 = .ok (.iload_n 0, 1) := by decide +kernel
theorem dX12_greater_1 : decode cX12_greater 1 = .ok (.iload_n 1, 1) := by decide +kernel
theorem dX12_greater_2 : decode cX12_greater 2 = .ok (.if_icmp .le 7, 3) := by decide +kernel
theorem dX12_greater_5 : decode cX12_greater 5 = .ok (.iload_n 0, 1) := by decide +kernel
theorem dX12_greater_6 : decode cX12_greater 6 = .ok (.goto 4, 3) := by decide +kernel
theorem dX12_greater_9 : decode cX12_greater 9 = .ok (.iload_n 1, 1) := by decide +kernel
theorem dX12_greater_10 : decode cX12_greater 10 = .ok (.ireturn, 1) := by decide +kernel
theorem dX12_refuses_0 : decode cX12_refuses 0 = .ok (.aload_n 0, 1) := by decide +kernel
theorem dX12_refuses_1 : decode cX12_refuses 1 = .ok (.iload_n 1, 1) := by decide +kernel
theorem dX12_refuses_2 : decode cX12_refuses 2 = .ok (.putfield 3, 3) := by decide +kernel
theorem dX12_refuses_5 : decode cX12_refuses 5 = .ok (.aload_n 0, 1) := by decide +kernel
theorem dX12_refuses_6 : decode cX12_refuses 6 = .ok (.getfield 7, 3) := by decide +kernel
theorem dX12_refuses_9 : decode cX12_refuses 9 = .ok (.iload_n 1, 1) := by decide +kernel
theorem dX12_refuses_10 : decode cX12_refuses 10 = .ok (.ineg, 1) := by decide +kernel
theorem dX12_refuses_11 : decode cX12_refuses 11 = .ok (.dup2, 1) := by decide +kernel
theorem dX12_refuses_12 : decode cX12_refuses 12 = .ok (.iaload, 1) := by decide +kernel
theorem dX12_refuses_13 : decode cX12_refuses 13 = .ok (.iconst 1, 1) := by decide +kernel
theorem dX12_refuses_14 : decode cX12_refuses 14 = .ok (.iadd, 1) := by decide +kernel
theorem dX12_refuses_15 : decode cX12_refuses 15 = .ok (.iastore, 1) := by decide +kernel
theorem dX12_refuses_16 : decode cX12_refuses 16 = .ok (.iload_n 1, 1) := by decide +kernel
theorem dX12_refuses_17 : decode cX12_refuses 17 = .ok (.ireturn, 1) := by decide +kernel
theorem dX12_good_0 : decode cX12_good 0 = .ok (.aload_n 0, 1) := by decide +kernel
theorem dX12_good_1 : decode cX12_good 1 = .ok (.iconst 0, 1) := by decide +kernel
theorem dX12_good_2 : decode cX12_good 2 = .ok (.putfield 3, 3) := by decide +kernel
theorem dX12_good_5 : decode cX12_good 5 = .ok (.iload_n 1, 1) := by decide +kernel
theorem dX12_good_6 : decode cX12_good 6 = .ok (.ireturn, 1) := by decide +kernel
theorem dX12_settled_0 : decode cX12_settled 0 = .ok (.aload_n 0, 1) := by decide +kernel
theorem dX12_settled_1 : decode cX12_settled 1 = .ok (.iconst 0, 1) := by decide +kernel
theorem dX12_settled_2 : decode cX12_settled 2 = .ok (.putfield 11, 3) := by decide +kernel
theorem dX12_settled_5 : decode cX12_settled 5 = .ok (.aload_n 0, 1) := by decide +kernel
theorem dX12_settled_6 : decode cX12_settled 6 = .ok (.iload_n 1, 1) := by decide +kernel
theorem dX12_settled_7 : decode cX12_settled 7 = .ok (.invokevirtual 14, 3) := by decide +kernel
theorem dX12_settled_10 : decode cX12_settled 10 = .ok (.ireturn, 1) := by decide +kernel
theorem dX12_isIn_0 : decode cX12_isIn 0 = .ok (.iload_n 0, 1) := by decide +kernel
theorem dX12_isIn_1 : decode cX12_isIn 1 = .ok (.iload_n 1, 1) := by decide +kernel
theorem dX12_isIn_2 : decode cX12_isIn 2 = .ok (.ishr, 1) := by decide +kernel
theorem dX12_isIn_3 : decode cX12_isIn 3 = .ok (.iconst 1, 1) := by decide +kernel
theorem dX12_isIn_4 : decode cX12_isIn 4 = .ok (.iand, 1) := by decide +kernel
theorem dX12_isIn_5 : decode cX12_isIn 5 = .ok (.iconst 1, 1) := by decide +kernel
theorem dX12_isIn_6 : decode cX12_isIn 6 = .ok (.if_icmp .ne 7, 3) := by decide +kernel
theorem dX12_isIn_9 : decode cX12_isIn 9 = .ok (.iconst 1, 1) := by decide +kernel
theorem dX12_isIn_10 : decode cX12_isIn 10 = .ok (.goto 4, 3) := by decide +kernel
theorem dX12_isIn_13 : decode cX12_isIn 13 = .ok (.iconst 0, 1) := by decide +kernel
theorem dX12_isIn_14 : decode cX12_isIn 14 = .ok (.ireturn, 1) := by decide +kernel
theorem dX12_isProcessor_0 : decode cX12_isProcessor 0 = .ok (.iload_n 0, 1) := by decide +kernel
theorem dX12_isProcessor_1 : decode cX12_isProcessor 1 = .ok (.iconst 0, 1) := by decide +kernel
theorem dX12_isProcessor_2 : decode cX12_isProcessor 2 = .ok (.bipush 7, 2) := by decide +kernel
theorem dX12_isProcessor_4 : decode cX12_isProcessor 4 = .ok (.invokestatic 18, 3) := by decide +kernel
theorem dX12_isProcessor_7 : decode cX12_isProcessor 7 = .ok (.ireturn, 1) := by decide +kernel
theorem dX12_isCell_0 : decode cX12_isCell 0 = .ok (.iload_n 0, 1) := by decide +kernel
theorem dX12_isCell_1 : decode cX12_isCell 1 = .ok (.iconst 0, 1) := by decide +kernel
theorem dX12_isCell_2 : decode cX12_isCell 2 = .ok (.bipush 23, 2) := by decide +kernel
theorem dX12_isCell_4 : decode cX12_isCell 4 = .ok (.invokestatic 18, 3) := by decide +kernel
theorem dX12_isCell_7 : decode cX12_isCell 7 = .ok (.ireturn, 1) := by decide +kernel
theorem dX12_isKey_0 : decode cX12_isKey 0 = .ok (.iload_n 0, 1) := by decide +kernel
theorem dX12_isKey_1 : decode cX12_isKey 1 = .ok (.iconst 0, 1) := by decide +kernel
theorem dX12_isKey_2 : decode cX12_isKey 2 = .ok (.bipush 99, 2) := by decide +kernel
theorem dX12_isKey_4 : decode cX12_isKey 4 = .ok (.invokestatic 18, 3) := by decide +kernel
theorem dX12_isKey_7 : decode cX12_isKey 7 = .ok (.ireturn, 1) := by decide +kernel
theorem dX12_leafOf_0 : decode cX12_leafOf 0 = .ok (.iconst 4, 1) := by decide +kernel
theorem dX12_leafOf_1 : decode cX12_leafOf 1 = .ok (.iload_n 0, 1) := by decide +kernel
theorem dX12_leafOf_2 : decode cX12_leafOf 2 = .ok (.iconst 2, 1) := by decide +kernel
theorem dX12_leafOf_3 : decode cX12_leafOf 3 = .ok (.idiv, 1) := by decide +kernel
theorem dX12_leafOf_4 : decode cX12_leafOf 4 = .ok (.iadd, 1) := by decide +kernel
theorem dX12_leafOf_5 : decode cX12_leafOf 5 = .ok (.ireturn, 1) := by decide +kernel
theorem dX12_levelOf_0 : decode cX12_levelOf 0 = .ok (.iload_n 0, 1) := by decide +kernel
theorem dX12_levelOf_1 : decode cX12_levelOf 1 = .ok (.iconst 1, 1) := by decide +kernel
theorem dX12_levelOf_2 : decode cX12_levelOf 2 = .ok (.if_icmp .ne 7, 3) := by decide +kernel
theorem dX12_levelOf_5 : decode cX12_levelOf 5 = .ok (.iconst 0, 1) := by decide +kernel
theorem dX12_levelOf_6 : decode cX12_levelOf 6 = .ok (.goto 13, 3) := by decide +kernel
theorem dX12_levelOf_9 : decode cX12_levelOf 9 = .ok (.iload_n 0, 1) := by decide +kernel
theorem dX12_levelOf_10 : decode cX12_levelOf 10 = .ok (.iconst 4, 1) := by decide +kernel
theorem dX12_levelOf_11 : decode cX12_levelOf 11 = .ok (.if_icmp .ge 7, 3) := by decide +kernel
theorem dX12_levelOf_14 : decode cX12_levelOf 14 = .ok (.iconst 1, 1) := by decide +kernel
theorem dX12_levelOf_15 : decode cX12_levelOf 15 = .ok (.goto 4, 3) := by decide +kernel
theorem dX12_levelOf_18 : decode cX12_levelOf 18 = .ok (.iconst 2, 1) := by decide +kernel
theorem dX12_levelOf_19 : decode cX12_levelOf 19 = .ok (.ireturn, 1) := by decide +kernel
theorem dX12_init_0 : decode cX12_init 0 = .ok (.aload_n 0, 1) := by decide +kernel
theorem dX12_init_1 : decode cX12_init 1 = .ok (.invokespecial 22, 3) := by decide +kernel
theorem dX12_init_4 : decode cX12_init 4 = .ok (.aload_n 0, 1) := by decide +kernel
theorem dX12_init_5 : decode cX12_init 5 = .ok (.bipush 7, 2) := by decide +kernel
theorem dX12_init_7 : decode cX12_init 7 = .ok (.newarray .int, 2) := by decide +kernel
theorem dX12_init_9 : decode cX12_init 9 = .ok (.putfield 7, 3) := by decide +kernel
theorem dX12_init_12 : decode cX12_init 12 = .ok (.aload_n 0, 1) := by decide +kernel
theorem dX12_init_13 : decode cX12_init 13 = .ok (.sipush 5815, 3) := by decide +kernel
theorem dX12_init_16 : decode cX12_init 16 = .ok (.newarray .int, 2) := by decide +kernel
theorem dX12_init_18 : decode cX12_init 18 = .ok (.putfield 28, 3) := by decide +kernel
theorem dX12_init_21 : decode cX12_init 21 = .ok (.aload_n 0, 1) := by decide +kernel
theorem dX12_init_22 : decode cX12_init 22 = .ok (.sipush 11630, 3) := by decide +kernel
theorem dX12_init_25 : decode cX12_init 25 = .ok (.newarray .int, 2) := by decide +kernel
theorem dX12_init_27 : decode cX12_init 27 = .ok (.putfield 31, 3) := by decide +kernel
theorem dX12_init_30 : decode cX12_init 30 = .ok (.aload_n 0, 1) := by decide +kernel
theorem dX12_init_31 : decode cX12_init 31 = .ok (.iconst 2, 1) := by decide +kernel
theorem dX12_init_32 : decode cX12_init 32 = .ok (.newarray .boolean, 2) := by decide +kernel
theorem dX12_init_34 : decode cX12_init 34 = .ok (.putfield 34, 3) := by decide +kernel
theorem dX12_init_37 : decode cX12_init 37 = .ok (.aload_n 0, 1) := by decide +kernel
theorem dX12_init_38 : decode cX12_init 38 = .ok (.sipush 573, 3) := by decide +kernel
theorem dX12_init_41 : decode cX12_init 41 = .ok (.newarray .int, 2) := by decide +kernel
theorem dX12_init_43 : decode cX12_init 43 = .ok (.putfield 38, 3) := by decide +kernel
theorem dX12_init_46 : decode cX12_init 46 = .ok (.aload_n 0, 1) := by decide +kernel
theorem dX12_init_47 : decode cX12_init 47 = .ok (.sipush 146, 3) := by decide +kernel
theorem dX12_init_50 : decode cX12_init 50 = .ok (.newarray .byte, 2) := by decide +kernel
theorem dX12_init_52 : decode cX12_init 52 = .ok (.dup, 1) := by decide +kernel
theorem dX12_init_53 : decode cX12_init 53 = .ok (.iconst 0, 1) := by decide +kernel
theorem dX12_init_54 : decode cX12_init 54 = .ok (.bipush 99, 2) := by decide +kernel
theorem dX12_init_56 : decode cX12_init 56 = .ok (.bastore, 1) := by decide +kernel
theorem dX12_init_57 : decode cX12_init 57 = .ok (.dup, 1) := by decide +kernel
theorem dX12_init_58 : decode cX12_init 58 = .ok (.iconst 1, 1) := by decide +kernel
theorem dX12_init_59 : decode cX12_init 59 = .ok (.bipush 111, 2) := by decide +kernel
theorem dX12_init_61 : decode cX12_init 61 = .ok (.bastore, 1) := by decide +kernel
theorem dX12_init_62 : decode cX12_init 62 = .ok (.dup, 1) := by decide +kernel
theorem dX12_init_63 : decode cX12_init 63 = .ok (.iconst 2, 1) := by decide +kernel
theorem dX12_init_64 : decode cX12_init 64 = .ok (.bipush 115, 2) := by decide +kernel
theorem dX12_init_66 : decode cX12_init 66 = .ok (.bastore, 1) := by decide +kernel
theorem dX12_init_67 : decode cX12_init 67 = .ok (.dup, 1) := by decide +kernel
theorem dX12_init_68 : decode cX12_init 68 = .ok (.iconst 3, 1) := by decide +kernel
theorem dX12_init_69 : decode cX12_init 69 = .ok (.bipush 116, 2) := by decide +kernel
theorem dX12_init_71 : decode cX12_init 71 = .ok (.bastore, 1) := by decide +kernel
theorem dX12_init_72 : decode cX12_init 72 = .ok (.dup, 1) := by decide +kernel
theorem dX12_init_73 : decode cX12_init 73 = .ok (.iconst 4, 1) := by decide +kernel
theorem dX12_init_74 : decode cX12_init 74 = .ok (.bipush 115, 2) := by decide +kernel
theorem dX12_init_76 : decode cX12_init 76 = .ok (.bastore, 1) := by decide +kernel
theorem dX12_init_77 : decode cX12_init 77 = .ok (.dup, 1) := by decide +kernel
theorem dX12_init_78 : decode cX12_init 78 = .ok (.iconst 5, 1) := by decide +kernel
theorem dX12_init_79 : decode cX12_init 79 = .ok (.bipush 32, 2) := by decide +kernel
theorem dX12_init_81 : decode cX12_init 81 = .ok (.bastore, 1) := by decide +kernel
theorem dX12_init_82 : decode cX12_init 82 = .ok (.dup, 1) := by decide +kernel
theorem dX12_init_83 : decode cX12_init 83 = .ok (.bipush 6, 2) := by decide +kernel
theorem dX12_init_85 : decode cX12_init 85 = .ok (.bipush 98, 2) := by decide +kernel
theorem dX12_init_87 : decode cX12_init 87 = .ok (.bastore, 1) := by decide +kernel
theorem dX12_init_88 : decode cX12_init 88 = .ok (.dup, 1) := by decide +kernel
theorem dX12_init_89 : decode cX12_init 89 = .ok (.bipush 7, 2) := by decide +kernel
theorem dX12_init_91 : decode cX12_init 91 = .ok (.bipush 97, 2) := by decide +kernel
theorem dX12_init_93 : decode cX12_init 93 = .ok (.bastore, 1) := by decide +kernel
theorem dX12_init_94 : decode cX12_init 94 = .ok (.dup, 1) := by decide +kernel
theorem dX12_init_95 : decode cX12_init 95 = .ok (.bipush 8, 2) := by decide +kernel
theorem dX12_init_97 : decode cX12_init 97 = .ok (.bipush 114, 2) := by decide +kernel
theorem dX12_init_99 : decode cX12_init 99 = .ok (.bastore, 1) := by decide +kernel
theorem dX12_init_100 : decode cX12_init 100 = .ok (.dup, 1) := by decide +kernel
theorem dX12_init_101 : decode cX12_init 101 = .ok (.bipush 9, 2) := by decide +kernel
theorem dX12_init_103 : decode cX12_init 103 = .ok (.bipush 115, 2) := by decide +kernel
theorem dX12_init_105 : decode cX12_init 105 = .ok (.bastore, 1) := by decide +kernel
theorem dX12_init_106 : decode cX12_init 106 = .ok (.dup, 1) := by decide +kernel
theorem dX12_init_107 : decode cX12_init 107 = .ok (.bipush 10, 2) := by decide +kernel
theorem dX12_init_109 : decode cX12_init 109 = .ok (.bipush 32, 2) := by decide +kernel
theorem dX12_init_111 : decode cX12_init 111 = .ok (.bastore, 1) := by decide +kernel
theorem dX12_init_112 : decode cX12_init 112 = .ok (.dup, 1) := by decide +kernel
theorem dX12_init_113 : decode cX12_init 113 = .ok (.bipush 11, 2) := by decide +kernel
theorem dX12_init_115 : decode cX12_init 115 = .ok (.bipush 105, 2) := by decide +kernel
theorem dX12_init_117 : decode cX12_init 117 = .ok (.bastore, 1) := by decide +kernel
theorem dX12_init_118 : decode cX12_init 118 = .ok (.dup, 1) := by decide +kernel
theorem dX12_init_119 : decode cX12_init 119 = .ok (.bipush 12, 2) := by decide +kernel
theorem dX12_init_121 : decode cX12_init 121 = .ok (.bipush 102, 2) := by decide +kernel
theorem dX12_init_123 : decode cX12_init 123 = .ok (.bastore, 1) := by decide +kernel
theorem dX12_init_124 : decode cX12_init 124 = .ok (.dup, 1) := by decide +kernel
theorem dX12_init_125 : decode cX12_init 125 = .ok (.bipush 13, 2) := by decide +kernel
theorem dX12_init_127 : decode cX12_init 127 = .ok (.bipush 32, 2) := by decide +kernel
theorem dX12_init_129 : decode cX12_init 129 = .ok (.bastore, 1) := by decide +kernel
theorem dX12_init_130 : decode cX12_init 130 = .ok (.dup, 1) := by decide +kernel
theorem dX12_init_131 : decode cX12_init 131 = .ok (.bipush 14, 2) := by decide +kernel
theorem dX12_init_133 : decode cX12_init 133 = .ok (.bipush 111, 2) := by decide +kernel
theorem dX12_init_135 : decode cX12_init 135 = .ok (.bastore, 1) := by decide +kernel
theorem dX12_init_136 : decode cX12_init 136 = .ok (.dup, 1) := by decide +kernel
theorem dX12_init_137 : decode cX12_init 137 = .ok (.bipush 15, 2) := by decide +kernel
theorem dX12_init_139 : decode cX12_init 139 = .ok (.bipush 114, 2) := by decide +kernel
theorem dX12_init_141 : decode cX12_init 141 = .ok (.bastore, 1) := by decide +kernel
theorem dX12_init_142 : decode cX12_init 142 = .ok (.dup, 1) := by decide +kernel
theorem dX12_init_143 : decode cX12_init 143 = .ok (.bipush 16, 2) := by decide +kernel
theorem dX12_init_145 : decode cX12_init 145 = .ok (.bipush 32, 2) := by decide +kernel
theorem dX12_init_147 : decode cX12_init 147 = .ok (.bastore, 1) := by decide +kernel
theorem dX12_init_148 : decode cX12_init 148 = .ok (.dup, 1) := by decide +kernel
theorem dX12_init_149 : decode cX12_init 149 = .ok (.bipush 17, 2) := by decide +kernel
theorem dX12_init_151 : decode cX12_init 151 = .ok (.bipush 97, 2) := by decide +kernel
theorem dX12_init_153 : decode cX12_init 153 = .ok (.bastore, 1) := by decide +kernel
theorem dX12_init_154 : decode cX12_init 154 = .ok (.dup, 1) := by decide +kernel
theorem dX12_init_155 : decode cX12_init 155 = .ok (.bipush 18, 2) := by decide +kernel
theorem dX12_init_157 : decode cX12_init 157 = .ok (.bipush 110, 2) := by decide +kernel
theorem dX12_init_159 : decode cX12_init 159 = .ok (.bastore, 1) := by decide +kernel
theorem dX12_init_160 : decode cX12_init 160 = .ok (.dup, 1) := by decide +kernel
theorem dX12_init_161 : decode cX12_init 161 = .ok (.bipush 19, 2) := by decide +kernel
theorem dX12_init_163 : decode cX12_init 163 = .ok (.bipush 100, 2) := by decide +kernel
theorem dX12_init_165 : decode cX12_init 165 = .ok (.bastore, 1) := by decide +kernel
theorem dX12_init_166 : decode cX12_init 166 = .ok (.dup, 1) := by decide +kernel
theorem dX12_init_167 : decode cX12_init 167 = .ok (.bipush 20, 2) := by decide +kernel
theorem dX12_init_169 : decode cX12_init 169 = .ok (.bipush 32, 2) := by decide +kernel
theorem dX12_init_171 : decode cX12_init 171 = .ok (.bastore, 1) := by decide +kernel
theorem dX12_init_172 : decode cX12_init 172 = .ok (.dup, 1) := by decide +kernel
theorem dX12_init_173 : decode cX12_init 173 = .ok (.bipush 21, 2) := by decide +kernel
theorem dX12_init_175 : decode cX12_init 175 = .ok (.bipush 110, 2) := by decide +kernel
theorem dX12_init_177 : decode cX12_init 177 = .ok (.bastore, 1) := by decide +kernel
theorem dX12_init_178 : decode cX12_init 178 = .ok (.dup, 1) := by decide +kernel
theorem dX12_init_179 : decode cX12_init 179 = .ok (.bipush 22, 2) := by decide +kernel
theorem dX12_init_181 : decode cX12_init 181 = .ok (.bipush 111, 2) := by decide +kernel
theorem dX12_init_183 : decode cX12_init 183 = .ok (.bastore, 1) := by decide +kernel
theorem dX12_init_184 : decode cX12_init 184 = .ok (.dup, 1) := by decide +kernel
theorem dX12_init_185 : decode cX12_init 185 = .ok (.bipush 23, 2) := by decide +kernel
theorem dX12_init_187 : decode cX12_init 187 = .ok (.bipush 116, 2) := by decide +kernel
theorem dX12_init_189 : decode cX12_init 189 = .ok (.bastore, 1) := by decide +kernel
theorem dX12_init_190 : decode cX12_init 190 = .ok (.dup, 1) := by decide +kernel
theorem dX12_init_191 : decode cX12_init 191 = .ok (.bipush 24, 2) := by decide +kernel
theorem dX12_init_193 : decode cX12_init 193 = .ok (.bipush 32, 2) := by decide +kernel
theorem dX12_init_195 : decode cX12_init 195 = .ok (.bastore, 1) := by decide +kernel
theorem dX12_init_196 : decode cX12_init 196 = .ok (.dup, 1) := by decide +kernel
theorem dX12_init_197 : decode cX12_init 197 = .ok (.bipush 25, 2) := by decide +kernel
theorem dX12_init_199 : decode cX12_init 199 = .ok (.bipush 110, 2) := by decide +kernel
theorem dX12_init_201 : decode cX12_init 201 = .ok (.bastore, 1) := by decide +kernel
theorem dX12_init_202 : decode cX12_init 202 = .ok (.dup, 1) := by decide +kernel
theorem dX12_init_203 : decode cX12_init 203 = .ok (.bipush 26, 2) := by decide +kernel
theorem dX12_init_205 : decode cX12_init 205 = .ok (.bipush 111, 2) := by decide +kernel
theorem dX12_init_207 : decode cX12_init 207 = .ok (.bastore, 1) := by decide +kernel
theorem dX12_init_208 : decode cX12_init 208 = .ok (.dup, 1) := by decide +kernel
theorem dX12_init_209 : decode cX12_init 209 = .ok (.bipush 27, 2) := by decide +kernel
theorem dX12_init_211 : decode cX12_init 211 = .ok (.bipush 100, 2) := by decide +kernel
theorem dX12_init_213 : decode cX12_init 213 = .ok (.bastore, 1) := by decide +kernel
theorem dX12_init_214 : decode cX12_init 214 = .ok (.dup, 1) := by decide +kernel
theorem dX12_init_215 : decode cX12_init 215 = .ok (.bipush 28, 2) := by decide +kernel
theorem dX12_init_217 : decode cX12_init 217 = .ok (.bipush 101, 2) := by decide +kernel
theorem dX12_init_219 : decode cX12_init 219 = .ok (.bastore, 1) := by decide +kernel
theorem dX12_init_220 : decode cX12_init 220 = .ok (.dup, 1) := by decide +kernel
theorem dX12_init_221 : decode cX12_init 221 = .ok (.bipush 29, 2) := by decide +kernel
theorem dX12_init_223 : decode cX12_init 223 = .ok (.bipush 32, 2) := by decide +kernel
theorem dX12_init_225 : decode cX12_init 225 = .ok (.bastore, 1) := by decide +kernel
theorem dX12_init_226 : decode cX12_init 226 = .ok (.dup, 1) := by decide +kernel
theorem dX12_init_227 : decode cX12_init 227 = .ok (.bipush 30, 2) := by decide +kernel
theorem dX12_init_229 : decode cX12_init 229 = .ok (.bipush 108, 2) := by decide +kernel
theorem dX12_init_231 : decode cX12_init 231 = .ok (.bastore, 1) := by decide +kernel
theorem dX12_init_232 : decode cX12_init 232 = .ok (.dup, 1) := by decide +kernel
theorem dX12_init_233 : decode cX12_init 233 = .ok (.bipush 31, 2) := by decide +kernel
theorem dX12_init_235 : decode cX12_init 235 = .ok (.bipush 101, 2) := by decide +kernel
theorem dX12_init_237 : decode cX12_init 237 = .ok (.bastore, 1) := by decide +kernel
theorem dX12_init_238 : decode cX12_init 238 = .ok (.dup, 1) := by decide +kernel
theorem dX12_init_239 : decode cX12_init 239 = .ok (.bipush 32, 2) := by decide +kernel
theorem dX12_init_241 : decode cX12_init 241 = .ok (.bipush 118, 2) := by decide +kernel
theorem dX12_init_243 : decode cX12_init 243 = .ok (.bastore, 1) := by decide +kernel
theorem dX12_init_244 : decode cX12_init 244 = .ok (.dup, 1) := by decide +kernel
theorem dX12_init_245 : decode cX12_init 245 = .ok (.bipush 33, 2) := by decide +kernel
theorem dX12_init_247 : decode cX12_init 247 = .ok (.bipush 101, 2) := by decide +kernel
theorem dX12_init_249 : decode cX12_init 249 = .ok (.bastore, 1) := by decide +kernel
theorem dX12_init_250 : decode cX12_init 250 = .ok (.dup, 1) := by decide +kernel
theorem dX12_init_251 : decode cX12_init 251 = .ok (.bipush 34, 2) := by decide +kernel
theorem dX12_init_253 : decode cX12_init 253 = .ok (.bipush 108, 2) := by decide +kernel
theorem dX12_init_255 : decode cX12_init 255 = .ok (.bastore, 1) := by decide +kernel
theorem dX12_init_256 : decode cX12_init 256 = .ok (.dup, 1) := by decide +kernel
theorem dX12_init_257 : decode cX12_init 257 = .ok (.bipush 35, 2) := by decide +kernel
theorem dX12_init_259 : decode cX12_init 259 = .ok (.bipush 32, 2) := by decide +kernel
theorem dX12_init_261 : decode cX12_init 261 = .ok (.bastore, 1) := by decide +kernel
theorem dX12_init_262 : decode cX12_init 262 = .ok (.dup, 1) := by decide +kernel
theorem dX12_init_263 : decode cX12_init 263 = .ok (.bipush 36, 2) := by decide +kernel
theorem dX12_init_265 : decode cX12_init 265 = .ok (.bipush 99, 2) := by decide +kernel
theorem dX12_init_267 : decode cX12_init 267 = .ok (.bastore, 1) := by decide +kernel
theorem dX12_init_268 : decode cX12_init 268 = .ok (.dup, 1) := by decide +kernel
theorem dX12_init_269 : decode cX12_init 269 = .ok (.bipush 37, 2) := by decide +kernel
theorem dX12_init_271 : decode cX12_init 271 = .ok (.bipush 104, 2) := by decide +kernel
theorem dX12_init_273 : decode cX12_init 273 = .ok (.bastore, 1) := by decide +kernel
theorem dX12_init_274 : decode cX12_init 274 = .ok (.dup, 1) := by decide +kernel
theorem dX12_init_275 : decode cX12_init 275 = .ok (.bipush 38, 2) := by decide +kernel
theorem dX12_init_277 : decode cX12_init 277 = .ok (.bipush 105, 2) := by decide +kernel
theorem dX12_init_279 : decode cX12_init 279 = .ok (.bastore, 1) := by decide +kernel
theorem dX12_init_280 : decode cX12_init 280 = .ok (.dup, 1) := by decide +kernel
theorem dX12_init_281 : decode cX12_init 281 = .ok (.bipush 39, 2) := by decide +kernel
theorem dX12_init_283 : decode cX12_init 283 = .ok (.bipush 108, 2) := by decide +kernel
theorem dX12_init_285 : decode cX12_init 285 = .ok (.bastore, 1) := by decide +kernel
theorem dX12_init_286 : decode cX12_init 286 = .ok (.dup, 1) := by decide +kernel
theorem dX12_init_287 : decode cX12_init 287 = .ok (.bipush 40, 2) := by decide +kernel
theorem dX12_init_289 : decode cX12_init 289 = .ok (.bipush 100, 2) := by decide +kernel
theorem dX12_init_291 : decode cX12_init 291 = .ok (.bastore, 1) := by decide +kernel
theorem dX12_init_292 : decode cX12_init 292 = .ok (.dup, 1) := by decide +kernel
theorem dX12_init_293 : decode cX12_init 293 = .ok (.bipush 41, 2) := by decide +kernel
theorem dX12_init_295 : decode cX12_init 295 = .ok (.bipush 32, 2) := by decide +kernel
theorem dX12_init_297 : decode cX12_init 297 = .ok (.bastore, 1) := by decide +kernel
theorem dX12_init_298 : decode cX12_init 298 = .ok (.dup, 1) := by decide +kernel
theorem dX12_init_299 : decode cX12_init 299 = .ok (.bipush 42, 2) := by decide +kernel
theorem dX12_init_301 : decode cX12_init 301 = .ok (.bipush 109, 2) := by decide +kernel
theorem dX12_init_303 : decode cX12_init 303 = .ok (.bastore, 1) := by decide +kernel
theorem dX12_init_304 : decode cX12_init 304 = .ok (.dup, 1) := by decide +kernel
theorem dX12_init_305 : decode cX12_init 305 = .ok (.bipush 43, 2) := by decide +kernel
theorem dX12_init_307 : decode cX12_init 307 = .ok (.bipush 97, 2) := by decide +kernel
theorem dX12_init_309 : decode cX12_init 309 = .ok (.bastore, 1) := by decide +kernel
theorem dX12_init_310 : decode cX12_init 310 = .ok (.dup, 1) := by decide +kernel
theorem dX12_init_311 : decode cX12_init 311 = .ok (.bipush 44, 2) := by decide +kernel
theorem dX12_init_313 : decode cX12_init 313 = .ok (.bipush 110, 2) := by decide +kernel
theorem dX12_init_315 : decode cX12_init 315 = .ok (.bastore, 1) := by decide +kernel
theorem dX12_init_316 : decode cX12_init 316 = .ok (.dup, 1) := by decide +kernel
theorem dX12_init_317 : decode cX12_init 317 = .ok (.bipush 45, 2) := by decide +kernel
theorem dX12_init_319 : decode cX12_init 319 = .ok (.bipush 121, 2) := by decide +kernel
theorem dX12_init_321 : decode cX12_init 321 = .ok (.bastore, 1) := by decide +kernel
theorem dX12_init_322 : decode cX12_init 322 = .ok (.dup, 1) := by decide +kernel
theorem dX12_init_323 : decode cX12_init 323 = .ok (.bipush 46, 2) := by decide +kernel
theorem dX12_init_325 : decode cX12_init 325 = .ok (.bipush 32, 2) := by decide +kernel
theorem dX12_init_327 : decode cX12_init 327 = .ok (.bastore, 1) := by decide +kernel
theorem dX12_init_328 : decode cX12_init 328 = .ok (.dup, 1) := by decide +kernel
theorem dX12_init_329 : decode cX12_init 329 = .ok (.bipush 47, 2) := by decide +kernel
theorem dX12_init_331 : decode cX12_init 331 = .ok (.bipush 107, 2) := by decide +kernel
theorem dX12_init_333 : decode cX12_init 333 = .ok (.bastore, 1) := by decide +kernel
theorem dX12_init_334 : decode cX12_init 334 = .ok (.dup, 1) := by decide +kernel
theorem dX12_init_335 : decode cX12_init 335 = .ok (.bipush 48, 2) := by decide +kernel
theorem dX12_init_337 : decode cX12_init 337 = .ok (.bipush 101, 2) := by decide +kernel
theorem dX12_init_339 : decode cX12_init 339 = .ok (.bastore, 1) := by decide +kernel
theorem dX12_init_340 : decode cX12_init 340 = .ok (.dup, 1) := by decide +kernel
theorem dX12_init_341 : decode cX12_init 341 = .ok (.bipush 49, 2) := by decide +kernel
theorem dX12_init_343 : decode cX12_init 343 = .ok (.bipush 121, 2) := by decide +kernel
theorem dX12_init_345 : decode cX12_init 345 = .ok (.bastore, 1) := by decide +kernel
theorem dX12_init_346 : decode cX12_init 346 = .ok (.dup, 1) := by decide +kernel
theorem dX12_init_347 : decode cX12_init 347 = .ok (.bipush 50, 2) := by decide +kernel
theorem dX12_init_349 : decode cX12_init 349 = .ok (.bipush 32, 2) := by decide +kernel
theorem dX12_init_351 : decode cX12_init 351 = .ok (.bastore, 1) := by decide +kernel
theorem dX12_init_352 : decode cX12_init 352 = .ok (.dup, 1) := by decide +kernel
theorem dX12_init_353 : decode cX12_init 353 = .ok (.bipush 51, 2) := by decide +kernel
theorem dX12_init_355 : decode cX12_init 355 = .ok (.bipush 109, 2) := by decide +kernel
theorem dX12_init_357 : decode cX12_init 357 = .ok (.bastore, 1) := by decide +kernel
theorem dX12_init_358 : decode cX12_init 358 = .ok (.dup, 1) := by decide +kernel
theorem dX12_init_359 : decode cX12_init 359 = .ok (.bipush 52, 2) := by decide +kernel
theorem dX12_init_361 : decode cX12_init 361 = .ok (.bipush 111, 2) := by decide +kernel
theorem dX12_init_363 : decode cX12_init 363 = .ok (.bastore, 1) := by decide +kernel
theorem dX12_init_364 : decode cX12_init 364 = .ok (.dup, 1) := by decide +kernel
theorem dX12_init_365 : decode cX12_init 365 = .ok (.bipush 53, 2) := by decide +kernel
theorem dX12_init_367 : decode cX12_init 367 = .ok (.bipush 111, 2) := by decide +kernel
theorem dX12_init_369 : decode cX12_init 369 = .ok (.bastore, 1) := by decide +kernel
theorem dX12_init_370 : decode cX12_init 370 = .ok (.dup, 1) := by decide +kernel
theorem dX12_init_371 : decode cX12_init 371 = .ok (.bipush 54, 2) := by decide +kernel
theorem dX12_init_373 : decode cX12_init 373 = .ok (.bipush 100, 2) := by decide +kernel
theorem dX12_init_375 : decode cX12_init 375 = .ok (.bastore, 1) := by decide +kernel
theorem dX12_init_376 : decode cX12_init 376 = .ok (.dup, 1) := by decide +kernel
theorem dX12_init_377 : decode cX12_init 377 = .ok (.bipush 55, 2) := by decide +kernel
theorem dX12_init_379 : decode cX12_init 379 = .ok (.bipush 32, 2) := by decide +kernel
theorem dX12_init_381 : decode cX12_init 381 = .ok (.bastore, 1) := by decide +kernel
theorem dX12_init_382 : decode cX12_init 382 = .ok (.dup, 1) := by decide +kernel
theorem dX12_init_383 : decode cX12_init 383 = .ok (.bipush 56, 2) := by decide +kernel
theorem dX12_init_385 : decode cX12_init 385 = .ok (.bipush 116, 2) := by decide +kernel
theorem dX12_init_387 : decode cX12_init 387 = .ok (.bastore, 1) := by decide +kernel
theorem dX12_init_388 : decode cX12_init 388 = .ok (.dup, 1) := by decide +kernel
theorem dX12_init_389 : decode cX12_init 389 = .ok (.bipush 57, 2) := by decide +kernel
theorem dX12_init_391 : decode cX12_init 391 = .ok (.bipush 105, 2) := by decide +kernel
theorem dX12_init_393 : decode cX12_init 393 = .ok (.bastore, 1) := by decide +kernel
theorem dX12_init_394 : decode cX12_init 394 = .ok (.dup, 1) := by decide +kernel
theorem dX12_init_395 : decode cX12_init 395 = .ok (.bipush 58, 2) := by decide +kernel
theorem dX12_init_397 : decode cX12_init 397 = .ok (.bipush 109, 2) := by decide +kernel
theorem dX12_init_399 : decode cX12_init 399 = .ok (.bastore, 1) := by decide +kernel
theorem dX12_init_400 : decode cX12_init 400 = .ok (.dup, 1) := by decide +kernel
theorem dX12_init_401 : decode cX12_init 401 = .ok (.bipush 59, 2) := by decide +kernel
theorem dX12_init_403 : decode cX12_init 403 = .ok (.bipush 101, 2) := by decide +kernel
theorem dX12_init_405 : decode cX12_init 405 = .ok (.bastore, 1) := by decide +kernel
theorem dX12_init_406 : decode cX12_init 406 = .ok (.dup, 1) := by decide +kernel
theorem dX12_init_407 : decode cX12_init 407 = .ok (.bipush 60, 2) := by decide +kernel
theorem dX12_init_409 : decode cX12_init 409 = .ok (.bipush 32, 2) := by decide +kernel
theorem dX12_init_411 : decode cX12_init 411 = .ok (.bastore, 1) := by decide +kernel
theorem dX12_init_412 : decode cX12_init 412 = .ok (.dup, 1) := by decide +kernel
theorem dX12_init_413 : decode cX12_init 413 = .ok (.bipush 61, 2) := by decide +kernel
theorem dX12_init_415 : decode cX12_init 415 = .ok (.bipush 100, 2) := by decide +kernel
theorem dX12_init_417 : decode cX12_init 417 = .ok (.bastore, 1) := by decide +kernel
theorem dX12_init_418 : decode cX12_init 418 = .ok (.dup, 1) := by decide +kernel
theorem dX12_init_419 : decode cX12_init 419 = .ok (.bipush 62, 2) := by decide +kernel
theorem dX12_init_421 : decode cX12_init 421 = .ok (.bipush 111, 2) := by decide +kernel
theorem dX12_init_423 : decode cX12_init 423 = .ok (.bastore, 1) := by decide +kernel
theorem dX12_init_424 : decode cX12_init 424 = .ok (.dup, 1) := by decide +kernel
theorem dX12_init_425 : decode cX12_init 425 = .ok (.bipush 63, 2) := by decide +kernel
theorem dX12_init_427 : decode cX12_init 427 = .ok (.bipush 110, 2) := by decide +kernel
theorem dX12_init_429 : decode cX12_init 429 = .ok (.bastore, 1) := by decide +kernel
theorem dX12_init_430 : decode cX12_init 430 = .ok (.dup, 1) := by decide +kernel
theorem dX12_init_431 : decode cX12_init 431 = .ok (.bipush 64, 2) := by decide +kernel
theorem dX12_init_433 : decode cX12_init 433 = .ok (.bipush 101, 2) := by decide +kernel
theorem dX12_init_435 : decode cX12_init 435 = .ok (.bastore, 1) := by decide +kernel
theorem dX12_init_436 : decode cX12_init 436 = .ok (.dup, 1) := by decide +kernel
theorem dX12_init_437 : decode cX12_init 437 = .ok (.bipush 65, 2) := by decide +kernel
theorem dX12_init_439 : decode cX12_init 439 = .ok (.bipush 32, 2) := by decide +kernel
theorem dX12_init_441 : decode cX12_init 441 = .ok (.bastore, 1) := by decide +kernel
theorem dX12_init_442 : decode cX12_init 442 = .ok (.dup, 1) := by decide +kernel
theorem dX12_init_443 : decode cX12_init 443 = .ok (.bipush 66, 2) := by decide +kernel
theorem dX12_init_445 : decode cX12_init 445 = .ok (.bipush 108, 2) := by decide +kernel
theorem dX12_init_447 : decode cX12_init 447 = .ok (.bastore, 1) := by decide +kernel
theorem dX12_init_448 : decode cX12_init 448 = .ok (.dup, 1) := by decide +kernel
theorem dX12_init_449 : decode cX12_init 449 = .ok (.bipush 67, 2) := by decide +kernel
theorem dX12_init_451 : decode cX12_init 451 = .ok (.bipush 97, 2) := by decide +kernel
theorem dX12_init_453 : decode cX12_init 453 = .ok (.bastore, 1) := by decide +kernel
theorem dX12_init_454 : decode cX12_init 454 = .ok (.dup, 1) := by decide +kernel
theorem dX12_init_455 : decode cX12_init 455 = .ok (.bipush 68, 2) := by decide +kernel
theorem dX12_init_457 : decode cX12_init 457 = .ok (.bipush 116, 2) := by decide +kernel
theorem dX12_init_459 : decode cX12_init 459 = .ok (.bastore, 1) := by decide +kernel
theorem dX12_init_460 : decode cX12_init 460 = .ok (.dup, 1) := by decide +kernel
theorem dX12_init_461 : decode cX12_init 461 = .ok (.bipush 69, 2) := by decide +kernel
theorem dX12_init_463 : decode cX12_init 463 = .ok (.bipush 101, 2) := by decide +kernel
theorem dX12_init_465 : decode cX12_init 465 = .ok (.bastore, 1) := by decide +kernel
theorem dX12_init_466 : decode cX12_init 466 = .ok (.dup, 1) := by decide +kernel
theorem dX12_init_467 : decode cX12_init 467 = .ok (.bipush 70, 2) := by decide +kernel
theorem dX12_init_469 : decode cX12_init 469 = .ok (.bipush 115, 2) := by decide +kernel
theorem dX12_init_471 : decode cX12_init 471 = .ok (.bastore, 1) := by decide +kernel
theorem dX12_init_472 : decode cX12_init 472 = .ok (.dup, 1) := by decide +kernel
theorem dX12_init_473 : decode cX12_init 473 = .ok (.bipush 71, 2) := by decide +kernel
theorem dX12_init_475 : decode cX12_init 475 = .ok (.bipush 116, 2) := by decide +kernel
theorem dX12_init_477 : decode cX12_init 477 = .ok (.bastore, 1) := by decide +kernel
theorem dX12_init_478 : decode cX12_init 478 = .ok (.dup, 1) := by decide +kernel
theorem dX12_init_479 : decode cX12_init 479 = .ok (.bipush 72, 2) := by decide +kernel
theorem dX12_init_481 : decode cX12_init 481 = .ok (.bipush 32, 2) := by decide +kernel
theorem dX12_init_483 : decode cX12_init 483 = .ok (.bastore, 1) := by decide +kernel
theorem dX12_init_484 : decode cX12_init 484 = .ok (.dup, 1) := by decide +kernel
theorem dX12_init_485 : decode cX12_init 485 = .ok (.bipush 73, 2) := by decide +kernel
theorem dX12_init_487 : decode cX12_init 487 = .ok (.bipush 119, 2) := by decide +kernel
theorem dX12_init_489 : decode cX12_init 489 = .ok (.bastore, 1) := by decide +kernel
theorem dX12_init_490 : decode cX12_init 490 = .ok (.dup, 1) := by decide +kernel
theorem dX12_init_491 : decode cX12_init 491 = .ok (.bipush 74, 2) := by decide +kernel
theorem dX12_init_493 : decode cX12_init 493 = .ok (.bipush 97, 2) := by decide +kernel
theorem dX12_init_495 : decode cX12_init 495 = .ok (.bastore, 1) := by decide +kernel
theorem dX12_init_496 : decode cX12_init 496 = .ok (.dup, 1) := by decide +kernel
theorem dX12_init_497 : decode cX12_init 497 = .ok (.bipush 75, 2) := by decide +kernel
theorem dX12_init_499 : decode cX12_init 499 = .ok (.bipush 105, 2) := by decide +kernel
theorem dX12_init_501 : decode cX12_init 501 = .ok (.bastore, 1) := by decide +kernel
theorem dX12_init_502 : decode cX12_init 502 = .ok (.dup, 1) := by decide +kernel
theorem dX12_init_503 : decode cX12_init 503 = .ok (.bipush 76, 2) := by decide +kernel
theorem dX12_init_505 : decode cX12_init 505 = .ok (.bipush 116, 2) := by decide +kernel
theorem dX12_init_507 : decode cX12_init 507 = .ok (.bastore, 1) := by decide +kernel
theorem dX12_init_508 : decode cX12_init 508 = .ok (.dup, 1) := by decide +kernel
theorem dX12_init_509 : decode cX12_init 509 = .ok (.bipush 77, 2) := by decide +kernel
theorem dX12_init_511 : decode cX12_init 511 = .ok (.bipush 115, 2) := by decide +kernel
theorem dX12_init_513 : decode cX12_init 513 = .ok (.bastore, 1) := by decide +kernel
theorem dX12_init_514 : decode cX12_init 514 = .ok (.dup, 1) := by decide +kernel
theorem dX12_init_515 : decode cX12_init 515 = .ok (.bipush 78, 2) := by decide +kernel
theorem dX12_init_517 : decode cX12_init 517 = .ok (.bipush 32, 2) := by decide +kernel
theorem dX12_init_519 : decode cX12_init 519 = .ok (.bastore, 1) := by decide +kernel
theorem dX12_init_520 : decode cX12_init 520 = .ok (.dup, 1) := by decide +kernel
theorem dX12_init_521 : decode cX12_init 521 = .ok (.bipush 79, 2) := by decide +kernel
theorem dX12_init_523 : decode cX12_init 523 = .ok (.bipush 103, 2) := by decide +kernel
theorem dX12_init_525 : decode cX12_init 525 = .ok (.bastore, 1) := by decide +kernel
theorem dX12_init_526 : decode cX12_init 526 = .ok (.dup, 1) := by decide +kernel
theorem dX12_init_527 : decode cX12_init 527 = .ok (.bipush 80, 2) := by decide +kernel
theorem dX12_init_529 : decode cX12_init 529 = .ok (.bipush 114, 2) := by decide +kernel
theorem dX12_init_531 : decode cX12_init 531 = .ok (.bastore, 1) := by decide +kernel
theorem dX12_init_532 : decode cX12_init 532 = .ok (.dup, 1) := by decide +kernel
theorem dX12_init_533 : decode cX12_init 533 = .ok (.bipush 81, 2) := by decide +kernel
theorem dX12_init_535 : decode cX12_init 535 = .ok (.bipush 97, 2) := by decide +kernel
theorem dX12_init_537 : decode cX12_init 537 = .ok (.bastore, 1) := by decide +kernel
theorem dX12_init_538 : decode cX12_init 538 = .ok (.dup, 1) := by decide +kernel
theorem dX12_init_539 : decode cX12_init 539 = .ok (.bipush 82, 2) := by decide +kernel
theorem dX12_init_541 : decode cX12_init 541 = .ok (.bipush 99, 2) := by decide +kernel
theorem dX12_init_543 : decode cX12_init 543 = .ok (.bastore, 1) := by decide +kernel
theorem dX12_init_544 : decode cX12_init 544 = .ok (.dup, 1) := by decide +kernel
theorem dX12_init_545 : decode cX12_init 545 = .ok (.bipush 83, 2) := by decide +kernel
theorem dX12_init_547 : decode cX12_init 547 = .ok (.bipush 101, 2) := by decide +kernel
theorem dX12_init_549 : decode cX12_init 549 = .ok (.bastore, 1) := by decide +kernel
theorem dX12_init_550 : decode cX12_init 550 = .ok (.dup, 1) := by decide +kernel
theorem dX12_init_551 : decode cX12_init 551 = .ok (.bipush 84, 2) := by decide +kernel
theorem dX12_init_553 : decode cX12_init 553 = .ok (.bipush 115, 2) := by decide +kernel
theorem dX12_init_555 : decode cX12_init 555 = .ok (.bastore, 1) := by decide +kernel
theorem dX12_init_556 : decode cX12_init 556 = .ok (.dup, 1) := by decide +kernel
theorem dX12_init_557 : decode cX12_init 557 = .ok (.bipush 85, 2) := by decide +kernel
theorem dX12_init_559 : decode cX12_init 559 = .ok (.bipush 32, 2) := by decide +kernel
theorem dX12_init_561 : decode cX12_init 561 = .ok (.bastore, 1) := by decide +kernel
theorem dX12_init_562 : decode cX12_init 562 = .ok (.dup, 1) := by decide +kernel
theorem dX12_init_563 : decode cX12_init 563 = .ok (.bipush 86, 2) := by decide +kernel
theorem dX12_init_565 : decode cX12_init 565 = .ok (.bipush 97, 2) := by decide +kernel
theorem dX12_init_567 : decode cX12_init 567 = .ok (.bastore, 1) := by decide +kernel
theorem dX12_init_568 : decode cX12_init 568 = .ok (.dup, 1) := by decide +kernel
theorem dX12_init_569 : decode cX12_init 569 = .ok (.bipush 87, 2) := by decide +kernel
theorem dX12_init_571 : decode cX12_init 571 = .ok (.bipush 116, 2) := by decide +kernel
theorem dX12_init_573 : decode cX12_init 573 = .ok (.bastore, 1) := by decide +kernel
theorem dX12_init_574 : decode cX12_init 574 = .ok (.dup, 1) := by decide +kernel
theorem dX12_init_575 : decode cX12_init 575 = .ok (.bipush 88, 2) := by decide +kernel
theorem dX12_init_577 : decode cX12_init 577 = .ok (.bipush 32, 2) := by decide +kernel
theorem dX12_init_579 : decode cX12_init 579 = .ok (.bastore, 1) := by decide +kernel
theorem dX12_init_580 : decode cX12_init 580 = .ok (.dup, 1) := by decide +kernel
theorem dX12_init_581 : decode cX12_init 581 = .ok (.bipush 89, 2) := by decide +kernel
theorem dX12_init_583 : decode cX12_init 583 = .ok (.bipush 118, 2) := by decide +kernel
theorem dX12_init_585 : decode cX12_init 585 = .ok (.bastore, 1) := by decide +kernel
theorem dX12_init_586 : decode cX12_init 586 = .ok (.dup, 1) := by decide +kernel
theorem dX12_init_587 : decode cX12_init 587 = .ok (.bipush 90, 2) := by decide +kernel
theorem dX12_init_589 : decode cX12_init 589 = .ok (.bipush 97, 2) := by decide +kernel
theorem dX12_init_591 : decode cX12_init 591 = .ok (.bastore, 1) := by decide +kernel
theorem dX12_init_592 : decode cX12_init 592 = .ok (.dup, 1) := by decide +kernel
theorem dX12_init_593 : decode cX12_init 593 = .ok (.bipush 91, 2) := by decide +kernel
theorem dX12_init_595 : decode cX12_init 595 = .ok (.bipush 108, 2) := by decide +kernel
theorem dX12_init_597 : decode cX12_init 597 = .ok (.bastore, 1) := by decide +kernel
theorem dX12_init_598 : decode cX12_init 598 = .ok (.dup, 1) := by decide +kernel
theorem dX12_init_599 : decode cX12_init 599 = .ok (.bipush 92, 2) := by decide +kernel
theorem dX12_init_601 : decode cX12_init 601 = .ok (.bipush 117, 2) := by decide +kernel
theorem dX12_init_603 : decode cX12_init 603 = .ok (.bastore, 1) := by decide +kernel
theorem dX12_init_604 : decode cX12_init 604 = .ok (.dup, 1) := by decide +kernel
theorem dX12_init_605 : decode cX12_init 605 = .ok (.bipush 93, 2) := by decide +kernel
theorem dX12_init_607 : decode cX12_init 607 = .ok (.bipush 101, 2) := by decide +kernel
theorem dX12_init_609 : decode cX12_init 609 = .ok (.bastore, 1) := by decide +kernel
theorem dX12_init_610 : decode cX12_init 610 = .ok (.dup, 1) := by decide +kernel
theorem dX12_init_611 : decode cX12_init 611 = .ok (.bipush 94, 2) := by decide +kernel
theorem dX12_init_613 : decode cX12_init 613 = .ok (.bipush 32, 2) := by decide +kernel
theorem dX12_init_615 : decode cX12_init 615 = .ok (.bastore, 1) := by decide +kernel
theorem dX12_init_616 : decode cX12_init 616 = .ok (.dup, 1) := by decide +kernel
theorem dX12_init_617 : decode cX12_init 617 = .ok (.bipush 95, 2) := by decide +kernel
theorem dX12_init_619 : decode cX12_init 619 = .ok (.bipush 112, 2) := by decide +kernel
theorem dX12_init_621 : decode cX12_init 621 = .ok (.bastore, 1) := by decide +kernel
theorem dX12_init_622 : decode cX12_init 622 = .ok (.dup, 1) := by decide +kernel
theorem dX12_init_623 : decode cX12_init 623 = .ok (.bipush 96, 2) := by decide +kernel
theorem dX12_init_625 : decode cX12_init 625 = .ok (.bipush 117, 2) := by decide +kernel
theorem dX12_init_627 : decode cX12_init 627 = .ok (.bastore, 1) := by decide +kernel
theorem dX12_init_628 : decode cX12_init 628 = .ok (.dup, 1) := by decide +kernel
theorem dX12_init_629 : decode cX12_init 629 = .ok (.bipush 97, 2) := by decide +kernel
theorem dX12_init_631 : decode cX12_init 631 = .ok (.bipush 116, 2) := by decide +kernel
theorem dX12_init_633 : decode cX12_init 633 = .ok (.bastore, 1) := by decide +kernel
theorem dX12_init_634 : decode cX12_init 634 = .ok (.dup, 1) := by decide +kernel
theorem dX12_init_635 : decode cX12_init 635 = .ok (.bipush 98, 2) := by decide +kernel
theorem dX12_init_637 : decode cX12_init 637 = .ok (.bipush 32, 2) := by decide +kernel
theorem dX12_init_639 : decode cX12_init 639 = .ok (.bastore, 1) := by decide +kernel
theorem dX12_init_640 : decode cX12_init 640 = .ok (.dup, 1) := by decide +kernel
theorem dX12_init_641 : decode cX12_init 641 = .ok (.bipush 99, 2) := by decide +kernel
theorem dX12_init_643 : decode cX12_init 643 = .ok (.bipush 97, 2) := by decide +kernel
theorem dX12_init_645 : decode cX12_init 645 = .ok (.bastore, 1) := by decide +kernel
theorem dX12_init_646 : decode cX12_init 646 = .ok (.dup, 1) := by decide +kernel
theorem dX12_init_647 : decode cX12_init 647 = .ok (.bipush 100, 2) := by decide +kernel
theorem dX12_init_649 : decode cX12_init 649 = .ok (.bipush 115, 2) := by decide +kernel
theorem dX12_init_651 : decode cX12_init 651 = .ok (.bastore, 1) := by decide +kernel
theorem dX12_init_652 : decode cX12_init 652 = .ok (.dup, 1) := by decide +kernel
theorem dX12_init_653 : decode cX12_init 653 = .ok (.bipush 101, 2) := by decide +kernel
theorem dX12_init_655 : decode cX12_init 655 = .ok (.bipush 32, 2) := by decide +kernel
theorem dX12_init_657 : decode cX12_init 657 = .ok (.bastore, 1) := by decide +kernel
theorem dX12_init_658 : decode cX12_init 658 = .ok (.dup, 1) := by decide +kernel
theorem dX12_init_659 : decode cX12_init 659 = .ok (.bipush 102, 2) := by decide +kernel
theorem dX12_init_661 : decode cX12_init 661 = .ok (.bipush 100, 2) := by decide +kernel
theorem dX12_init_663 : decode cX12_init 663 = .ok (.bastore, 1) := by decide +kernel
theorem dX12_init_664 : decode cX12_init 664 = .ok (.dup, 1) := by decide +kernel
theorem dX12_init_665 : decode cX12_init 665 = .ok (.bipush 103, 2) := by decide +kernel
theorem dX12_init_667 : decode cX12_init 667 = .ok (.bipush 114, 2) := by decide +kernel
theorem dX12_init_669 : decode cX12_init 669 = .ok (.bastore, 1) := by decide +kernel
theorem dX12_init_670 : decode cX12_init 670 = .ok (.dup, 1) := by decide +kernel
theorem dX12_init_671 : decode cX12_init 671 = .ok (.bipush 104, 2) := by decide +kernel
theorem dX12_init_673 : decode cX12_init 673 = .ok (.bipush 111, 2) := by decide +kernel
theorem dX12_init_675 : decode cX12_init 675 = .ok (.bastore, 1) := by decide +kernel
theorem dX12_init_676 : decode cX12_init 676 = .ok (.dup, 1) := by decide +kernel
theorem dX12_init_677 : decode cX12_init 677 = .ok (.bipush 105, 2) := by decide +kernel
theorem dX12_init_679 : decode cX12_init 679 = .ok (.bipush 112, 2) := by decide +kernel
theorem dX12_init_681 : decode cX12_init 681 = .ok (.bastore, 1) := by decide +kernel
theorem dX12_init_682 : decode cX12_init 682 = .ok (.dup, 1) := by decide +kernel
theorem dX12_init_683 : decode cX12_init 683 = .ok (.bipush 106, 2) := by decide +kernel
theorem dX12_init_685 : decode cX12_init 685 = .ok (.bipush 32, 2) := by decide +kernel
theorem dX12_init_687 : decode cX12_init 687 = .ok (.bastore, 1) := by decide +kernel
theorem dX12_init_688 : decode cX12_init 688 = .ok (.dup, 1) := by decide +kernel
theorem dX12_init_689 : decode cX12_init 689 = .ok (.bipush 107, 2) := by decide +kernel
theorem dX12_init_691 : decode cX12_init 691 = .ok (.bipush 101, 2) := by decide +kernel
theorem dX12_init_693 : decode cX12_init 693 = .ok (.bastore, 1) := by decide +kernel
theorem dX12_init_694 : decode cX12_init 694 = .ok (.dup, 1) := by decide +kernel
theorem dX12_init_695 : decode cX12_init 695 = .ok (.bipush 108, 2) := by decide +kernel
theorem dX12_init_697 : decode cX12_init 697 = .ok (.bipush 110, 2) := by decide +kernel
theorem dX12_init_699 : decode cX12_init 699 = .ok (.bastore, 1) := by decide +kernel
theorem dX12_init_700 : decode cX12_init 700 = .ok (.dup, 1) := by decide +kernel
theorem dX12_init_701 : decode cX12_init 701 = .ok (.bipush 109, 2) := by decide +kernel
theorem dX12_init_703 : decode cX12_init 703 = .ok (.bipush 116, 2) := by decide +kernel
theorem dX12_init_705 : decode cX12_init 705 = .ok (.bastore, 1) := by decide +kernel
theorem dX12_init_706 : decode cX12_init 706 = .ok (.dup, 1) := by decide +kernel
theorem dX12_init_707 : decode cX12_init 707 = .ok (.bipush 110, 2) := by decide +kernel
theorem dX12_init_709 : decode cX12_init 709 = .ok (.bipush 101, 2) := by decide +kernel
theorem dX12_init_711 : decode cX12_init 711 = .ok (.bastore, 1) := by decide +kernel
theorem dX12_init_712 : decode cX12_init 712 = .ok (.dup, 1) := by decide +kernel
theorem dX12_init_713 : decode cX12_init 713 = .ok (.bipush 111, 2) := by decide +kernel
theorem dX12_init_715 : decode cX12_init 715 = .ok (.bipush 114, 2) := by decide +kernel
theorem dX12_init_717 : decode cX12_init 717 = .ok (.bastore, 1) := by decide +kernel
theorem dX12_init_718 : decode cX12_init 718 = .ok (.dup, 1) := by decide +kernel
theorem dX12_init_719 : decode cX12_init 719 = .ok (.bipush 112, 2) := by decide +kernel
theorem dX12_init_721 : decode cX12_init 721 = .ok (.bipush 32, 2) := by decide +kernel
theorem dX12_init_723 : decode cX12_init 723 = .ok (.bastore, 1) := by decide +kernel
theorem dX12_init_724 : decode cX12_init 724 = .ok (.dup, 1) := by decide +kernel
theorem dX12_init_725 : decode cX12_init 725 = .ok (.bipush 113, 2) := by decide +kernel
theorem dX12_init_727 : decode cX12_init 727 = .ok (.bipush 115, 2) := by decide +kernel
theorem dX12_init_729 : decode cX12_init 729 = .ok (.bastore, 1) := by decide +kernel
theorem dX12_init_730 : decode cX12_init 730 = .ok (.dup, 1) := by decide +kernel
theorem dX12_init_731 : decode cX12_init 731 = .ok (.bipush 114, 2) := by decide +kernel
theorem dX12_init_733 : decode cX12_init 733 = .ok (.bipush 116, 2) := by decide +kernel
theorem dX12_init_735 : decode cX12_init 735 = .ok (.bastore, 1) := by decide +kernel
theorem dX12_init_736 : decode cX12_init 736 = .ok (.dup, 1) := by decide +kernel
theorem dX12_init_737 : decode cX12_init 737 = .ok (.bipush 115, 2) := by decide +kernel
theorem dX12_init_739 : decode cX12_init 739 = .ok (.bipush 101, 2) := by decide +kernel
theorem dX12_init_741 : decode cX12_init 741 = .ok (.bastore, 1) := by decide +kernel
theorem dX12_init_742 : decode cX12_init 742 = .ok (.dup, 1) := by decide +kernel
theorem dX12_init_743 : decode cX12_init 743 = .ok (.bipush 116, 2) := by decide +kernel
theorem dX12_init_745 : decode cX12_init 745 = .ok (.bipush 112, 2) := by decide +kernel
theorem dX12_init_747 : decode cX12_init 747 = .ok (.bastore, 1) := by decide +kernel
theorem dX12_init_748 : decode cX12_init 748 = .ok (.dup, 1) := by decide +kernel
theorem dX12_init_749 : decode cX12_init 749 = .ok (.bipush 117, 2) := by decide +kernel
theorem dX12_init_751 : decode cX12_init 751 = .ok (.bipush 32, 2) := by decide +kernel
theorem dX12_init_753 : decode cX12_init 753 = .ok (.bastore, 1) := by decide +kernel
theorem dX12_init_754 : decode cX12_init 754 = .ok (.dup, 1) := by decide +kernel
theorem dX12_init_755 : decode cX12_init 755 = .ok (.bipush 118, 2) := by decide +kernel
theorem dX12_init_757 : decode cX12_init 757 = .ok (.bipush 112, 2) := by decide +kernel
theorem dX12_init_759 : decode cX12_init 759 = .ok (.bastore, 1) := by decide +kernel
theorem dX12_init_760 : decode cX12_init 760 = .ok (.dup, 1) := by decide +kernel
theorem dX12_init_761 : decode cX12_init 761 = .ok (.bipush 119, 2) := by decide +kernel
theorem dX12_init_763 : decode cX12_init 763 = .ok (.bipush 97, 2) := by decide +kernel
theorem dX12_init_765 : decode cX12_init 765 = .ok (.bastore, 1) := by decide +kernel
theorem dX12_init_766 : decode cX12_init 766 = .ok (.dup, 1) := by decide +kernel
theorem dX12_init_767 : decode cX12_init 767 = .ok (.bipush 120, 2) := by decide +kernel
theorem dX12_init_769 : decode cX12_init 769 = .ok (.bipush 114, 2) := by decide +kernel
theorem dX12_init_771 : decode cX12_init 771 = .ok (.bastore, 1) := by decide +kernel
theorem dX12_init_772 : decode cX12_init 772 = .ok (.dup, 1) := by decide +kernel
theorem dX12_init_773 : decode cX12_init 773 = .ok (.bipush 121, 2) := by decide +kernel
theorem dX12_init_775 : decode cX12_init 775 = .ok (.bipush 107, 2) := by decide +kernel
theorem dX12_init_777 : decode cX12_init 777 = .ok (.bastore, 1) := by decide +kernel
theorem dX12_init_778 : decode cX12_init 778 = .ok (.dup, 1) := by decide +kernel
theorem dX12_init_779 : decode cX12_init 779 = .ok (.bipush 122, 2) := by decide +kernel
theorem dX12_init_781 : decode cX12_init 781 = .ok (.bipush 32, 2) := by decide +kernel
theorem dX12_init_783 : decode cX12_init 783 = .ok (.bastore, 1) := by decide +kernel
theorem dX12_init_784 : decode cX12_init 784 = .ok (.dup, 1) := by decide +kernel
theorem dX12_init_785 : decode cX12_init 785 = .ok (.bipush 123, 2) := by decide +kernel
theorem dX12_init_787 : decode cX12_init 787 = .ok (.bipush 108, 2) := by decide +kernel
theorem dX12_init_789 : decode cX12_init 789 = .ok (.bastore, 1) := by decide +kernel
theorem dX12_init_790 : decode cX12_init 790 = .ok (.dup, 1) := by decide +kernel
theorem dX12_init_791 : decode cX12_init 791 = .ok (.bipush 124, 2) := by decide +kernel
theorem dX12_init_793 : decode cX12_init 793 = .ok (.bipush 101, 2) := by decide +kernel
theorem dX12_init_795 : decode cX12_init 795 = .ok (.bastore, 1) := by decide +kernel
theorem dX12_init_796 : decode cX12_init 796 = .ok (.dup, 1) := by decide +kernel
theorem dX12_init_797 : decode cX12_init 797 = .ok (.bipush 125, 2) := by decide +kernel
theorem dX12_init_799 : decode cX12_init 799 = .ok (.bipush 97, 2) := by decide +kernel
theorem dX12_init_801 : decode cX12_init 801 = .ok (.bastore, 1) := by decide +kernel
theorem dX12_init_802 : decode cX12_init 802 = .ok (.dup, 1) := by decide +kernel
theorem dX12_init_803 : decode cX12_init 803 = .ok (.bipush 126, 2) := by decide +kernel
theorem dX12_init_805 : decode cX12_init 805 = .ok (.bipush 118, 2) := by decide +kernel
theorem dX12_init_807 : decode cX12_init 807 = .ok (.bastore, 1) := by decide +kernel
theorem dX12_init_808 : decode cX12_init 808 = .ok (.dup, 1) := by decide +kernel
theorem dX12_init_809 : decode cX12_init 809 = .ok (.bipush 127, 2) := by decide +kernel
theorem dX12_init_811 : decode cX12_init 811 = .ok (.bipush 101, 2) := by decide +kernel
theorem dX12_init_813 : decode cX12_init 813 = .ok (.bastore, 1) := by decide +kernel
theorem dX12_init_814 : decode cX12_init 814 = .ok (.dup, 1) := by decide +kernel
theorem dX12_init_815 : decode cX12_init 815 = .ok (.sipush 128, 3) := by decide +kernel
theorem dX12_init_818 : decode cX12_init 818 = .ok (.bipush 32, 2) := by decide +kernel
theorem dX12_init_820 : decode cX12_init 820 = .ok (.bastore, 1) := by decide +kernel
theorem dX12_init_821 : decode cX12_init 821 = .ok (.dup, 1) := by decide +kernel
theorem dX12_init_822 : decode cX12_init 822 = .ok (.sipush 129, 3) := by decide +kernel
theorem dX12_init_825 : decode cX12_init 825 = .ok (.bipush 116, 2) := by decide +kernel
theorem dX12_init_827 : decode cX12_init 827 = .ok (.bastore, 1) := by decide +kernel
theorem dX12_init_828 : decode cX12_init 828 = .ok (.dup, 1) := by decide +kernel
theorem dX12_init_829 : decode cX12_init 829 = .ok (.sipush 130, 3) := by decide +kernel
theorem dX12_init_832 : decode cX12_init 832 = .ok (.bipush 105, 2) := by decide +kernel
theorem dX12_init_834 : decode cX12_init 834 = .ok (.bastore, 1) := by decide +kernel
theorem dX12_init_835 : decode cX12_init 835 = .ok (.dup, 1) := by decide +kernel
theorem dX12_init_836 : decode cX12_init 836 = .ok (.sipush 131, 3) := by decide +kernel
theorem dX12_init_839 : decode cX12_init 839 = .ok (.bipush 99, 2) := by decide +kernel
theorem dX12_init_841 : decode cX12_init 841 = .ok (.bastore, 1) := by decide +kernel
theorem dX12_init_842 : decode cX12_init 842 = .ok (.dup, 1) := by decide +kernel
theorem dX12_init_843 : decode cX12_init 843 = .ok (.sipush 132, 3) := by decide +kernel
theorem dX12_init_846 : decode cX12_init 846 = .ok (.bipush 107, 2) := by decide +kernel
theorem dX12_init_848 : decode cX12_init 848 = .ok (.bastore, 1) := by decide +kernel
theorem dX12_init_849 : decode cX12_init 849 = .ok (.dup, 1) := by decide +kernel
theorem dX12_init_850 : decode cX12_init 850 = .ok (.sipush 133, 3) := by decide +kernel
theorem dX12_init_853 : decode cX12_init 853 = .ok (.bipush 32, 2) := by decide +kernel
theorem dX12_init_855 : decode cX12_init 855 = .ok (.bastore, 1) := by decide +kernel
theorem dX12_init_856 : decode cX12_init 856 = .ok (.dup, 1) := by decide +kernel
theorem dX12_init_857 : decode cX12_init 857 = .ok (.sipush 134, 3) := by decide +kernel
theorem dX12_init_860 : decode cX12_init 860 = .ok (.bipush 98, 2) := by decide +kernel
theorem dX12_init_862 : decode cX12_init 862 = .ok (.bastore, 1) := by decide +kernel
theorem dX12_init_863 : decode cX12_init 863 = .ok (.dup, 1) := by decide +kernel
theorem dX12_init_864 : decode cX12_init 864 = .ok (.sipush 135, 3) := by decide +kernel
theorem dX12_init_867 : decode cX12_init 867 = .ok (.bipush 101, 2) := by decide +kernel
theorem dX12_init_869 : decode cX12_init 869 = .ok (.bastore, 1) := by decide +kernel
theorem dX12_init_870 : decode cX12_init 870 = .ok (.dup, 1) := by decide +kernel
theorem dX12_init_871 : decode cX12_init 871 = .ok (.sipush 136, 3) := by decide +kernel
theorem dX12_init_874 : decode cX12_init 874 = .ok (.bipush 103, 2) := by decide +kernel
theorem dX12_init_876 : decode cX12_init 876 = .ok (.bastore, 1) := by decide +kernel
theorem dX12_init_877 : decode cX12_init 877 = .ok (.dup, 1) := by decide +kernel
theorem dX12_init_878 : decode cX12_init 878 = .ok (.sipush 137, 3) := by decide +kernel
theorem dX12_init_881 : decode cX12_init 881 = .ok (.bipush 105, 2) := by decide +kernel
theorem dX12_init_883 : decode cX12_init 883 = .ok (.bastore, 1) := by decide +kernel
theorem dX12_init_884 : decode cX12_init 884 = .ok (.dup, 1) := by decide +kernel
theorem dX12_init_885 : decode cX12_init 885 = .ok (.sipush 138, 3) := by decide +kernel
theorem dX12_init_888 : decode cX12_init 888 = .ok (.bipush 110, 2) := by decide +kernel
theorem dX12_init_890 : decode cX12_init 890 = .ok (.bastore, 1) := by decide +kernel
theorem dX12_init_891 : decode cX12_init 891 = .ok (.dup, 1) := by decide +kernel
theorem dX12_init_892 : decode cX12_init 892 = .ok (.sipush 139, 3) := by decide +kernel
theorem dX12_init_895 : decode cX12_init 895 = .ok (.bipush 32, 2) := by decide +kernel
theorem dX12_init_897 : decode cX12_init 897 = .ok (.bastore, 1) := by decide +kernel
theorem dX12_init_898 : decode cX12_init 898 = .ok (.dup, 1) := by decide +kernel
theorem dX12_init_899 : decode cX12_init 899 = .ok (.sipush 140, 3) := by decide +kernel
theorem dX12_init_902 : decode cX12_init 902 = .ok (.bipush 116, 2) := by decide +kernel
theorem dX12_init_904 : decode cX12_init 904 = .ok (.bastore, 1) := by decide +kernel
theorem dX12_init_905 : decode cX12_init 905 = .ok (.dup, 1) := by decide +kernel
theorem dX12_init_906 : decode cX12_init 906 = .ok (.sipush 141, 3) := by decide +kernel
theorem dX12_init_909 : decode cX12_init 909 = .ok (.bipush 105, 2) := by decide +kernel
theorem dX12_init_911 : decode cX12_init 911 = .ok (.bastore, 1) := by decide +kernel
theorem dX12_init_912 : decode cX12_init 912 = .ok (.dup, 1) := by decide +kernel
theorem dX12_init_913 : decode cX12_init 913 = .ok (.sipush 142, 3) := by decide +kernel
theorem dX12_init_916 : decode cX12_init 916 = .ok (.bipush 109, 2) := by decide +kernel
theorem dX12_init_918 : decode cX12_init 918 = .ok (.bastore, 1) := by decide +kernel
theorem dX12_init_919 : decode cX12_init 919 = .ok (.dup, 1) := by decide +kernel
theorem dX12_init_920 : decode cX12_init 920 = .ok (.sipush 143, 3) := by decide +kernel
theorem dX12_init_923 : decode cX12_init 923 = .ok (.bipush 101, 2) := by decide +kernel
theorem dX12_init_925 : decode cX12_init 925 = .ok (.bastore, 1) := by decide +kernel
theorem dX12_init_926 : decode cX12_init 926 = .ok (.dup, 1) := by decide +kernel
theorem dX12_init_927 : decode cX12_init 927 = .ok (.sipush 144, 3) := by decide +kernel
theorem dX12_init_930 : decode cX12_init 930 = .ok (.bipush 115, 2) := by decide +kernel
theorem dX12_init_932 : decode cX12_init 932 = .ok (.bastore, 1) := by decide +kernel
theorem dX12_init_933 : decode cX12_init 933 = .ok (.dup, 1) := by decide +kernel
theorem dX12_init_934 : decode cX12_init 934 = .ok (.sipush 145, 3) := by decide +kernel
theorem dX12_init_937 : decode cX12_init 937 = .ok (.bipush 32, 2) := by decide +kernel
theorem dX12_init_939 : decode cX12_init 939 = .ok (.bastore, 1) := by decide +kernel
