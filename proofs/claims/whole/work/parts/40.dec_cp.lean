theorem d_CP_init_0 : decode b_CP_init 0 = .ok (.aload_n 0, 1) := by decide +kernel
theorem d_CP_init_1 : decode b_CP_init 1 = .ok (.invokespecial 3, 3) := by decide +kernel
theorem d_CP_init_4 : decode b_CP_init 4 = .ok (.aload_n 0, 1) := by decide +kernel
theorem d_CP_init_5 : decode b_CP_init 5 = .ok (.new 9, 3) := by decide +kernel
theorem d_CP_init_8 : decode b_CP_init 8 = .ok (.dup, 1) := by decide +kernel
theorem d_CP_init_9 : decode b_CP_init 9 = .ok (.invokespecial 11, 3) := by decide +kernel
theorem d_CP_init_12 : decode b_CP_init 12 = .ok (.putfield 12, 3) := by decide +kernel
theorem d_CP_init_15 : decode b_CP_init 15 = .ok (.aload_n 0, 1) := by decide +kernel
theorem d_CP_init_16 : decode b_CP_init 16 = .ok (.new 16, 3) := by decide +kernel
theorem d_CP_init_19 : decode b_CP_init 19 = .ok (.dup, 1) := by decide +kernel
theorem d_CP_init_20 : decode b_CP_init 20 = .ok (.invokespecial 18, 3) := by decide +kernel
theorem d_CP_init_23 : decode b_CP_init 23 = .ok (.putfield 19, 3) := by decide +kernel
theorem d_CP_init_26 : decode b_CP_init 26 = .ok (.aload_n 0, 1) := by decide +kernel
theorem d_CP_init_27 : decode b_CP_init 27 = .ok (.new 23, 3) := by decide +kernel
theorem d_CP_init_30 : decode b_CP_init 30 = .ok (.dup, 1) := by decide +kernel
theorem d_CP_init_31 : decode b_CP_init 31 = .ok (.invokespecial 25, 3) := by decide +kernel
theorem d_CP_init_34 : decode b_CP_init 34 = .ok (.putfield 26, 3) := by decide +kernel
theorem d_CP_init_37 : decode b_CP_init 37 = .ok (.aload_n 0, 1) := by decide +kernel
theorem d_CP_init_38 : decode b_CP_init 38 = .ok (.new 30, 3) := by decide +kernel
theorem d_CP_init_41 : decode b_CP_init 41 = .ok (.dup, 1) := by decide +kernel
theorem d_CP_init_42 : decode b_CP_init 42 = .ok (.invokespecial 32, 3) := by decide +kernel
theorem d_CP_init_45 : decode b_CP_init 45 = .ok (.putfield 33, 3) := by decide +kernel
theorem d_CP_init_48 : decode b_CP_init 48 = .ok (.aload_n 0, 1) := by decide +kernel
theorem d_CP_init_49 : decode b_CP_init 49 = .ok (.new 30, 3) := by decide +kernel
theorem d_CP_init_52 : decode b_CP_init 52 = .ok (.dup, 1) := by decide +kernel
theorem d_CP_init_53 : decode b_CP_init 53 = .ok (.invokespecial 32, 3) := by decide +kernel
theorem d_CP_init_56 : decode b_CP_init 56 = .ok (.putfield 37, 3) := by decide +kernel
theorem d_CP_init_59 : decode b_CP_init 59 = .ok (.return_, 1) := by decide +kernel
theorem d_CP_move_0 : decode b_CP_move 0 = .ok (.iload_n 1, 1) := by decide +kernel
theorem d_CP_move_1 : decode b_CP_move 1 = .ok (.i2l, 1) := by decide +kernel
theorem d_CP_move_2 : decode b_CP_move 2 = .ok (.iload_n 2, 1) := by decide +kernel
theorem d_CP_move_3 : decode b_CP_move 3 = .ok (.i2l, 1) := by decide +kernel
theorem d_CP_move_4 : decode b_CP_move 4 = .ok (.invokestatic 40, 3) := by decide +kernel
theorem d_CP_move_7 : decode b_CP_move 7 = .ok (.ifCond .eq 6, 3) := by decide +kernel
theorem d_CP_move_10 : decode b_CP_move 10 = .ok (.bipush (-4), 2) := by decide +kernel
theorem d_CP_move_12 : decode b_CP_move 12 = .ok (.ireturn, 1) := by decide +kernel
theorem d_CP_move_13 : decode b_CP_move 13 = .ok (.aload_n 0, 1) := by decide +kernel
theorem d_CP_move_14 : decode b_CP_move 14 = .ok (.getfield 33, 3) := by decide +kernel
theorem d_CP_move_17 : decode b_CP_move 17 = .ok (.invokevirtual 44, 3) := by decide +kernel
theorem d_CP_move_20 : decode b_CP_move 20 = .ok (.ifCond .eq 20, 3) := by decide +kernel
theorem d_CP_move_23 : decode b_CP_move 23 = .ok (.aload_n 0, 1) := by decide +kernel
theorem d_CP_move_24 : decode b_CP_move 24 = .ok (.getfield 33, 3) := by decide +kernel
theorem d_CP_move_27 : decode b_CP_move 27 = .ok (.iload_n 1, 1) := by decide +kernel
theorem d_CP_move_28 : decode b_CP_move 28 = .ok (.iload_n 2, 1) := by decide +kernel
theorem d_CP_move_29 : decode b_CP_move 29 = .ok (.invokevirtual 48, 3) := by decide +kernel
theorem d_CP_move_32 : decode b_CP_move 32 = .ok (.aload_n 0, 1) := by decide +kernel
theorem d_CP_move_33 : decode b_CP_move 33 = .ok (.getfield 33, 3) := by decide +kernel
theorem d_CP_move_36 : decode b_CP_move 36 = .ok (.getfield 52, 3) := by decide +kernel
theorem d_CP_move_39 : decode b_CP_move 39 = .ok (.ireturn, 1) := by decide +kernel
theorem d_CP_move_40 : decode b_CP_move 40 = .ok (.aload_n 0, 1) := by decide +kernel
theorem d_CP_move_41 : decode b_CP_move 41 = .ok (.getfield 33, 3) := by decide +kernel
theorem d_CP_move_44 : decode b_CP_move 44 = .ok (.iconst 1, 1) := by decide +kernel
theorem d_CP_move_45 : decode b_CP_move 45 = .ok (.invokevirtual 56, 3) := by decide +kernel
theorem d_CP_move_48 : decode b_CP_move 48 = .ok (.ifCond .ne 6, 3) := by decide +kernel
theorem d_CP_move_51 : decode b_CP_move 51 = .ok (.bipush (-3), 2) := by decide +kernel
theorem d_CP_move_53 : decode b_CP_move 53 = .ok (.ireturn, 1) := by decide +kernel
theorem d_CP_move_54 : decode b_CP_move 54 = .ok (.aload_n 0, 1) := by decide +kernel
theorem d_CP_move_55 : decode b_CP_move 55 = .ok (.getfield 33, 3) := by decide +kernel
theorem d_CP_move_58 : decode b_CP_move 58 = .ok (.iload_n 1, 1) := by decide +kernel
theorem d_CP_move_59 : decode b_CP_move 59 = .ok (.iload_n 2, 1) := by decide +kernel
theorem d_CP_move_60 : decode b_CP_move 60 = .ok (.invokevirtual 60, 3) := by decide +kernel
theorem d_CP_move_63 : decode b_CP_move 63 = .ok (.aload_n 0, 1) := by decide +kernel
theorem d_CP_move_64 : decode b_CP_move 64 = .ok (.getfield 33, 3) := by decide +kernel
theorem d_CP_move_67 : decode b_CP_move 67 = .ok (.getfield 52, 3) := by decide +kernel
theorem d_CP_move_70 : decode b_CP_move 70 = .ok (.ireturn, 1) := by decide +kernel
theorem d_CP_line_0 : decode b_CP_line 0 = .ok (.aload_n 0, 1) := by decide +kernel
theorem d_CP_line_1 : decode b_CP_line 1 = .ok (.getfield 33, 3) := by decide +kernel
theorem d_CP_line_4 : decode b_CP_line 4 = .ok (.invokevirtual 63, 3) := by decide +kernel
theorem d_CP_line_7 : decode b_CP_line 7 = .ok (.ifCond .eq 6, 3) := by decide +kernel
theorem d_CP_line_10 : decode b_CP_line 10 = .ok (.bipush (-2), 2) := by decide +kernel
theorem d_CP_line_12 : decode b_CP_line 12 = .ok (.ireturn, 1) := by decide +kernel
theorem d_CP_line_13 : decode b_CP_line 13 = .ok (.iload_n 1, 1) := by decide +kernel
theorem d_CP_line_14 : decode b_CP_line 14 = .ok (.i2l, 1) := by decide +kernel
theorem d_CP_line_15 : decode b_CP_line 15 = .ok (.iload_n 2, 1) := by decide +kernel
theorem d_CP_line_16 : decode b_CP_line 16 = .ok (.i2l, 1) := by decide +kernel
theorem d_CP_line_17 : decode b_CP_line 17 = .ok (.invokestatic 40, 3) := by decide +kernel
theorem d_CP_line_20 : decode b_CP_line 20 = .ok (.ifCond .eq 6, 3) := by decide +kernel
theorem d_CP_line_23 : decode b_CP_line 23 = .ok (.bipush (-4), 2) := by decide +kernel
theorem d_CP_line_25 : decode b_CP_line 25 = .ok (.ireturn, 1) := by decide +kernel
theorem d_CP_line_26 : decode b_CP_line 26 = .ok (.aload_n 0, 1) := by decide +kernel
theorem d_CP_line_27 : decode b_CP_line 27 = .ok (.getfield 33, 3) := by decide +kernel
theorem d_CP_line_30 : decode b_CP_line 30 = .ok (.iconst 1, 1) := by decide +kernel
theorem d_CP_line_31 : decode b_CP_line 31 = .ok (.invokevirtual 66, 3) := by decide +kernel
theorem d_CP_line_34 : decode b_CP_line 34 = .ok (.ifCond .ne 6, 3) := by decide +kernel
theorem d_CP_line_37 : decode b_CP_line 37 = .ok (.bipush (-3), 2) := by decide +kernel
theorem d_CP_line_39 : decode b_CP_line 39 = .ok (.ireturn, 1) := by decide +kernel
theorem d_CP_line_40 : decode b_CP_line 40 = .ok (.aload_n 0, 1) := by decide +kernel
theorem d_CP_line_41 : decode b_CP_line 41 = .ok (.getfield 33, 3) := by decide +kernel
theorem d_CP_line_44 : decode b_CP_line 44 = .ok (.invokevirtual 69, 3) := by decide +kernel
theorem d_CP_line_47 : decode b_CP_line 47 = .ok (.aload_n 0, 1) := by decide +kernel
theorem d_CP_line_48 : decode b_CP_line 48 = .ok (.getfield 33, 3) := by decide +kernel
theorem d_CP_line_51 : decode b_CP_line 51 = .ok (.iload_n 1, 1) := by decide +kernel
theorem d_CP_line_52 : decode b_CP_line 52 = .ok (.iload_n 2, 1) := by decide +kernel
theorem d_CP_line_53 : decode b_CP_line 53 = .ok (.invokevirtual 72, 3) := by decide +kernel
theorem d_CP_line_56 : decode b_CP_line 56 = .ok (.aload_n 0, 1) := by decide +kernel
theorem d_CP_line_57 : decode b_CP_line 57 = .ok (.getfield 33, 3) := by decide +kernel
theorem d_CP_line_60 : decode b_CP_line 60 = .ok (.getfield 52, 3) := by decide +kernel
theorem d_CP_line_63 : decode b_CP_line 63 = .ok (.ireturn, 1) := by decide +kernel
theorem d_CP_curve_0 : decode b_CP_curve 0 = .ok (.aload_n 0, 1) := by decide +kernel
theorem d_CP_curve_1 : decode b_CP_curve 1 = .ok (.getfield 33, 3) := by decide +kernel
theorem d_CP_curve_4 : decode b_CP_curve 4 = .ok (.invokevirtual 63, 3) := by decide +kernel
theorem d_CP_curve_7 : decode b_CP_curve 7 = .ok (.ifCond .eq 6, 3) := by decide +kernel
theorem d_CP_curve_10 : decode b_CP_curve 10 = .ok (.bipush (-2), 2) := by decide +kernel
theorem d_CP_curve_12 : decode b_CP_curve 12 = .ok (.ireturn, 1) := by decide +kernel
theorem d_CP_curve_13 : decode b_CP_curve 13 = .ok (.iload_n 1, 1) := by decide +kernel
theorem d_CP_curve_14 : decode b_CP_curve 14 = .ok (.i2l, 1) := by decide +kernel
theorem d_CP_curve_15 : decode b_CP_curve 15 = .ok (.iload_n 2, 1) := by decide +kernel
theorem d_CP_curve_16 : decode b_CP_curve 16 = .ok (.i2l, 1) := by decide +kernel
theorem d_CP_curve_17 : decode b_CP_curve 17 = .ok (.invokestatic 40, 3) := by decide +kernel
theorem d_CP_curve_20 : decode b_CP_curve 20 = .ok (.ifCond .ne 26, 3) := by decide +kernel
theorem d_CP_curve_23 : decode b_CP_curve 23 = .ok (.iload_n 3, 1) := by decide +kernel
theorem d_CP_curve_24 : decode b_CP_curve 24 = .ok (.i2l, 1) := by decide +kernel
theorem d_CP_curve_25 : decode b_CP_curve 25 = .ok (.iload 4, 2) := by decide +kernel
theorem d_CP_curve_27 : decode b_CP_curve 27 = .ok (.i2l, 1) := by decide +kernel
theorem d_CP_curve_28 : decode b_CP_curve 28 = .ok (.invokestatic 40, 3) := by decide +kernel
theorem d_CP_curve_31 : decode b_CP_curve 31 = .ok (.ifCond .ne 15, 3) := by decide +kernel
theorem d_CP_curve_34 : decode b_CP_curve 34 = .ok (.iload 5, 2) := by decide +kernel
theorem d_CP_curve_36 : decode b_CP_curve 36 = .ok (.i2l, 1) := by decide +kernel
theorem d_CP_curve_37 : decode b_CP_curve 37 = .ok (.iload 6, 2) := by decide +kernel
theorem d_CP_curve_39 : decode b_CP_curve 39 = .ok (.i2l, 1) := by decide +kernel
theorem d_CP_curve_40 : decode b_CP_curve 40 = .ok (.invokestatic 40, 3) := by decide +kernel
theorem d_CP_curve_43 : decode b_CP_curve 43 = .ok (.ifCond .eq 6, 3) := by decide +kernel
theorem d_CP_curve_46 : decode b_CP_curve 46 = .ok (.bipush (-4), 2) := by decide +kernel
theorem d_CP_curve_48 : decode b_CP_curve 48 = .ok (.ireturn, 1) := by decide +kernel
theorem d_CP_curve_49 : decode b_CP_curve 49 = .ok (.aload_n 0, 1) := by decide +kernel
theorem d_CP_curve_50 : decode b_CP_curve 50 = .ok (.getfield 33, 3) := by decide +kernel
theorem d_CP_curve_53 : decode b_CP_curve 53 = .ok (.iconst 1, 1) := by decide +kernel
theorem d_CP_curve_54 : decode b_CP_curve 54 = .ok (.invokevirtual 66, 3) := by decide +kernel
theorem d_CP_curve_57 : decode b_CP_curve 57 = .ok (.ifCond .ne 6, 3) := by decide +kernel
theorem d_CP_curve_60 : decode b_CP_curve 60 = .ok (.bipush (-3), 2) := by decide +kernel
theorem d_CP_curve_62 : decode b_CP_curve 62 = .ok (.ireturn, 1) := by decide +kernel
theorem d_CP_curve_63 : decode b_CP_curve 63 = .ok (.aload_n 0, 1) := by decide +kernel
theorem d_CP_curve_64 : decode b_CP_curve 64 = .ok (.getfield 33, 3) := by decide +kernel
theorem d_CP_curve_67 : decode b_CP_curve 67 = .ok (.invokevirtual 69, 3) := by decide +kernel
theorem d_CP_curve_70 : decode b_CP_curve 70 = .ok (.aload_n 0, 1) := by decide +kernel
theorem d_CP_curve_71 : decode b_CP_curve 71 = .ok (.getfield 33, 3) := by decide +kernel
theorem d_CP_curve_74 : decode b_CP_curve 74 = .ok (.iload_n 1, 1) := by decide +kernel
theorem d_CP_curve_75 : decode b_CP_curve 75 = .ok (.iload_n 2, 1) := by decide +kernel
theorem d_CP_curve_76 : decode b_CP_curve 76 = .ok (.iload_n 3, 1) := by decide +kernel
theorem d_CP_curve_77 : decode b_CP_curve 77 = .ok (.iload 4, 2) := by decide +kernel
theorem d_CP_curve_79 : decode b_CP_curve 79 = .ok (.iload 5, 2) := by decide +kernel
theorem d_CP_curve_81 : decode b_CP_curve 81 = .ok (.iload 6, 2) := by decide +kernel
theorem d_CP_curve_83 : decode b_CP_curve 83 = .ok (.invokevirtual 75, 3) := by decide +kernel
theorem d_CP_curve_86 : decode b_CP_curve 86 = .ok (.aload_n 0, 1) := by decide +kernel
theorem d_CP_curve_87 : decode b_CP_curve 87 = .ok (.getfield 33, 3) := by decide +kernel
theorem d_CP_curve_90 : decode b_CP_curve 90 = .ok (.getfield 52, 3) := by decide +kernel
theorem d_CP_curve_93 : decode b_CP_curve 93 = .ok (.ireturn, 1) := by decide +kernel
theorem d_CP_close_0 : decode b_CP_close 0 = .ok (.aload_n 0, 1) := by decide +kernel
theorem d_CP_close_1 : decode b_CP_close 1 = .ok (.getfield 33, 3) := by decide +kernel
theorem d_CP_close_4 : decode b_CP_close 4 = .ok (.invokevirtual 63, 3) := by decide +kernel
theorem d_CP_close_7 : decode b_CP_close 7 = .ok (.ifCond .ne 13, 3) := by decide +kernel
theorem d_CP_close_10 : decode b_CP_close 10 = .ok (.aload_n 0, 1) := by decide +kernel
theorem d_CP_close_11 : decode b_CP_close 11 = .ok (.getfield 33, 3) := by decide +kernel
theorem d_CP_close_14 : decode b_CP_close 14 = .ok (.invokevirtual 79, 3) := by decide +kernel
theorem d_CP_close_17 : decode b_CP_close 17 = .ok (.ifCond .eq 11, 3) := by decide +kernel
theorem d_CP_close_20 : decode b_CP_close 20 = .ok (.aload_n 0, 1) := by decide +kernel
theorem d_CP_close_21 : decode b_CP_close 21 = .ok (.getfield 33, 3) := by decide +kernel
theorem d_CP_close_24 : decode b_CP_close 24 = .ok (.getfield 52, 3) := by decide +kernel
theorem d_CP_close_27 : decode b_CP_close 27 = .ok (.ireturn, 1) := by decide +kernel
theorem d_CP_close_28 : decode b_CP_close 28 = .ok (.aload_n 0, 1) := by decide +kernel
theorem d_CP_close_29 : decode b_CP_close 29 = .ok (.getfield 33, 3) := by decide +kernel
theorem d_CP_close_32 : decode b_CP_close 32 = .ok (.iconst 1, 1) := by decide +kernel
theorem d_CP_close_33 : decode b_CP_close 33 = .ok (.invokevirtual 56, 3) := by decide +kernel
theorem d_CP_close_36 : decode b_CP_close 36 = .ok (.ifCond .ne 6, 3) := by decide +kernel
theorem d_CP_close_39 : decode b_CP_close 39 = .ok (.bipush (-3), 2) := by decide +kernel
theorem d_CP_close_41 : decode b_CP_close 41 = .ok (.ireturn, 1) := by decide +kernel
theorem d_CP_close_42 : decode b_CP_close 42 = .ok (.aload_n 0, 1) := by decide +kernel
theorem d_CP_close_43 : decode b_CP_close 43 = .ok (.getfield 33, 3) := by decide +kernel
theorem d_CP_close_46 : decode b_CP_close 46 = .ok (.invokevirtual 82, 3) := by decide +kernel
theorem d_CP_close_49 : decode b_CP_close 49 = .ok (.aload_n 0, 1) := by decide +kernel
theorem d_CP_close_50 : decode b_CP_close 50 = .ok (.getfield 33, 3) := by decide +kernel
theorem d_CP_close_53 : decode b_CP_close 53 = .ok (.getfield 52, 3) := by decide +kernel
theorem d_CP_close_56 : decode b_CP_close 56 = .ok (.ireturn, 1) := by decide +kernel
theorem d_CP_axes_0 : decode b_CP_axes 0 = .ok (.iload_n 1, 1) := by decide +kernel
theorem d_CP_axes_1 : decode b_CP_axes 1 = .ok (.i2l, 1) := by decide +kernel
theorem d_CP_axes_2 : decode b_CP_axes 2 = .ok (.iload_n 2, 1) := by decide +kernel
theorem d_CP_axes_3 : decode b_CP_axes 3 = .ok (.i2l, 1) := by decide +kernel
theorem d_CP_axes_4 : decode b_CP_axes 4 = .ok (.invokestatic 40, 3) := by decide +kernel
theorem d_CP_axes_7 : decode b_CP_axes 7 = .ok (.ifCond .ne 14, 3) := by decide +kernel
theorem d_CP_axes_10 : decode b_CP_axes 10 = .ok (.iload_n 3, 1) := by decide +kernel
theorem d_CP_axes_11 : decode b_CP_axes 11 = .ok (.i2l, 1) := by decide +kernel
theorem d_CP_axes_12 : decode b_CP_axes 12 = .ok (.iload 4, 2) := by decide +kernel
theorem d_CP_axes_14 : decode b_CP_axes 14 = .ok (.i2l, 1) := by decide +kernel
theorem d_CP_axes_15 : decode b_CP_axes 15 = .ok (.invokestatic 40, 3) := by decide +kernel
theorem d_CP_axes_18 : decode b_CP_axes 18 = .ok (.ifCond .eq 5, 3) := by decide +kernel
theorem d_CP_axes_21 : decode b_CP_axes 21 = .ok (.iconst 0, 1) := by decide +kernel
theorem d_CP_axes_22 : decode b_CP_axes 22 = .ok (.ireturn, 1) := by decide +kernel
theorem d_CP_axes_23 : decode b_CP_axes 23 = .ok (.aload_n 0, 1) := by decide +kernel
theorem d_CP_axes_24 : decode b_CP_axes 24 = .ok (.getfield 12, 3) := by decide +kernel
theorem d_CP_axes_27 : decode b_CP_axes 27 = .ok (.iload_n 1, 1) := by decide +kernel
theorem d_CP_axes_28 : decode b_CP_axes 28 = .ok (.iload_n 2, 1) := by decide +kernel
theorem d_CP_axes_29 : decode b_CP_axes 29 = .ok (.iload_n 3, 1) := by decide +kernel
theorem d_CP_axes_30 : decode b_CP_axes 30 = .ok (.iload 4, 2) := by decide +kernel
theorem d_CP_axes_32 : decode b_CP_axes 32 = .ok (.invokevirtual 85, 3) := by decide +kernel
theorem d_CP_axes_35 : decode b_CP_axes 35 = .ok (.iconst 1, 1) := by decide +kernel
theorem d_CP_axes_36 : decode b_CP_axes 36 = .ok (.ireturn, 1) := by decide +kernel
theorem d_CP_arc_0 : decode b_CP_arc 0 = .ok (.iload 5, 2) := by decide +kernel
theorem d_CP_arc_2 : decode b_CP_arc 2 = .ok (.ifCond .eq 11, 3) := by decide +kernel
theorem d_CP_arc_5 : decode b_CP_arc 5 = .ok (.iload 5, 2) := by decide +kernel
theorem d_CP_arc_7 : decode b_CP_arc 7 = .ok (.iconst 1, 1) := by decide +kernel
theorem d_CP_arc_8 : decode b_CP_arc 8 = .ok (.if_icmp .eq 5, 3) := by decide +kernel
theorem d_CP_arc_11 : decode b_CP_arc 11 = .ok (.iconst (-1), 1) := by decide +kernel
theorem d_CP_arc_12 : decode b_CP_arc 12 = .ok (.ireturn, 1) := by decide +kernel
theorem d_CP_arc_13 : decode b_CP_arc 13 = .ok (.iload_n 1, 1) := by decide +kernel
theorem d_CP_arc_14 : decode b_CP_arc 14 = .ok (.i2l, 1) := by decide +kernel
theorem d_CP_arc_15 : decode b_CP_arc 15 = .ok (.iload_n 2, 1) := by decide +kernel
theorem d_CP_arc_16 : decode b_CP_arc 16 = .ok (.i2l, 1) := by decide +kernel
theorem d_CP_arc_17 : decode b_CP_arc 17 = .ok (.invokestatic 40, 3) := by decide +kernel
theorem d_CP_arc_20 : decode b_CP_arc 20 = .ok (.ifCond .eq 6, 3) := by decide +kernel
theorem d_CP_arc_23 : decode b_CP_arc 23 = .ok (.bipush (-4), 2) := by decide +kernel
theorem d_CP_arc_25 : decode b_CP_arc 25 = .ok (.ireturn, 1) := by decide +kernel
theorem d_CP_arc_26 : decode b_CP_arc 26 = .ok (.iload 5, 2) := by decide +kernel
theorem d_CP_arc_28 : decode b_CP_arc 28 = .ok (.ifCond .ne 14, 3) := by decide +kernel
theorem d_CP_arc_31 : decode b_CP_arc 31 = .ok (.iload 4, 2) := by decide +kernel
theorem d_CP_arc_33 : decode b_CP_arc 33 = .ok (.i2l, 1) := by decide +kernel
theorem d_CP_arc_34 : decode b_CP_arc 34 = .ok (.iload_n 3, 1) := by decide +kernel
theorem d_CP_arc_35 : decode b_CP_arc 35 = .ok (.i2l, 1) := by decide +kernel
theorem d_CP_arc_36 : decode b_CP_arc 36 = .ok (.invokestatic 89, 3) := by decide +kernel
theorem d_CP_arc_39 : decode b_CP_arc 39 = .ok (.goto 11, 3) := by decide +kernel
theorem d_CP_arc_42 : decode b_CP_arc 42 = .ok (.iload 4, 2) := by decide +kernel
theorem d_CP_arc_44 : decode b_CP_arc 44 = .ok (.i2l, 1) := by decide +kernel
theorem d_CP_arc_45 : decode b_CP_arc 45 = .ok (.iload_n 3, 1) := by decide +kernel
theorem d_CP_arc_46 : decode b_CP_arc 46 = .ok (.i2l, 1) := by decide +kernel
theorem d_CP_arc_47 : decode b_CP_arc 47 = .ok (.invokestatic 93, 3) := by decide +kernel
theorem d_CP_arc_50 : decode b_CP_arc 50 = .ok (.lstore 6, 2) := by decide +kernel
theorem d_CP_arc_52 : decode b_CP_arc 52 = .ok (.lload 6, 2) := by decide +kernel
theorem d_CP_arc_54 : decode b_CP_arc 54 = .ok (.iload_n 3, 1) := by decide +kernel
theorem d_CP_arc_55 : decode b_CP_arc 55 = .ok (.i2l, 1) := by decide +kernel
theorem d_CP_arc_56 : decode b_CP_arc 56 = .ok (.lsub, 1) := by decide +kernel
theorem d_CP_arc_57 : decode b_CP_arc 57 = .ok (.invokestatic 96, 3) := by decide +kernel
theorem d_CP_arc_60 : decode b_CP_arc 60 = .ok (.ldc2_w 102, 3) := by decide +kernel
theorem d_CP_arc_63 : decode b_CP_arc 63 = .ok (.lcmp, 1) := by decide +kernel
theorem d_CP_arc_64 : decode b_CP_arc 64 = .ok (.ifCond .le 6, 3) := by decide +kernel
theorem d_CP_arc_67 : decode b_CP_arc 67 = .ok (.bipush (-4), 2) := by decide +kernel
theorem d_CP_arc_69 : decode b_CP_arc 69 = .ok (.ireturn, 1) := by decide +kernel
theorem d_CP_arc_70 : decode b_CP_arc 70 = .ok (.iload 5, 2) := by decide +kernel
theorem d_CP_arc_72 : decode b_CP_arc 72 = .ok (.ifCond .ne 17, 3) := by decide +kernel
theorem d_CP_arc_75 : decode b_CP_arc 75 = .ok (.aload_n 0, 1) := by decide +kernel
theorem d_CP_arc_76 : decode b_CP_arc 76 = .ok (.getfield 19, 3) := by decide +kernel
theorem d_CP_arc_79 : decode b_CP_arc 79 = .ok (.iload_n 3, 1) := by decide +kernel
theorem d_CP_arc_80 : decode b_CP_arc 80 = .ok (.i2l, 1) := by decide +kernel
theorem d_CP_arc_81 : decode b_CP_arc 81 = .ok (.lload 6, 2) := by decide +kernel
theorem d_CP_arc_83 : decode b_CP_arc 83 = .ok (.invokevirtual 104, 3) := by decide +kernel
theorem d_CP_arc_86 : decode b_CP_arc 86 = .ok (.goto 21, 3) := by decide +kernel
theorem d_CP_arc_89 : decode b_CP_arc 89 = .ok (.aload_n 0, 1) := by decide +kernel
theorem d_CP_arc_90 : decode b_CP_arc 90 = .ok (.getfield 19, 3) := by decide +kernel
theorem d_CP_arc_93 : decode b_CP_arc 93 = .ok (.lload 6, 2) := by decide +kernel
theorem d_CP_arc_95 : decode b_CP_arc 95 = .ok (.iload_n 3, 1) := by decide +kernel
theorem d_CP_arc_96 : decode b_CP_arc 96 = .ok (.i2l, 1) := by decide +kernel
theorem d_CP_arc_97 : decode b_CP_arc 97 = .ok (.invokevirtual 104, 3) := by decide +kernel
theorem d_CP_arc_100 : decode b_CP_arc 100 = .ok (.aload_n 0, 1) := by decide +kernel
theorem d_CP_arc_101 : decode b_CP_arc 101 = .ok (.getfield 19, 3) := by decide +kernel
theorem d_CP_arc_104 : decode b_CP_arc 104 = .ok (.invokevirtual 108, 3) := by decide +kernel
theorem d_CP_arc_107 : decode b_CP_arc 107 = .ok (.aload_n 0, 1) := by decide +kernel
theorem d_CP_arc_108 : decode b_CP_arc 108 = .ok (.getfield 19, 3) := by decide +kernel
theorem d_CP_arc_111 : decode b_CP_arc 111 = .ok (.iload_n 1, 1) := by decide +kernel
theorem d_CP_arc_112 : decode b_CP_arc 112 = .ok (.iload_n 2, 1) := by decide +kernel
theorem d_CP_arc_113 : decode b_CP_arc 113 = .ok (.aload_n 0, 1) := by decide +kernel
theorem d_CP_arc_114 : decode b_CP_arc 114 = .ok (.getfield 12, 3) := by decide +kernel
theorem d_CP_arc_117 : decode b_CP_arc 117 = .ok (.invokevirtual 111, 3) := by decide +kernel
theorem d_CP_arc_120 : decode b_CP_arc 120 = .ok (.ifCond .ne 6, 3) := by decide +kernel
theorem d_CP_arc_123 : decode b_CP_arc 123 = .ok (.bipush (-4), 2) := by decide +kernel
theorem d_CP_arc_125 : decode b_CP_arc 125 = .ok (.ireturn, 1) := by decide +kernel
theorem d_CP_arc_126 : decode b_CP_arc 126 = .ok (.aload_n 0, 1) := by decide +kernel
theorem d_CP_arc_127 : decode b_CP_arc 127 = .ok (.invokevirtual 115, 3) := by decide +kernel
theorem d_CP_arc_130 : decode b_CP_arc 130 = .ok (.ireturn, 1) := by decide +kernel
theorem d_CP_shift_0 : decode b_CP_shift 0 = .ok (.aload_n 0, 1) := by decide +kernel
theorem d_CP_shift_1 : decode b_CP_shift 1 = .ok (.getfield 33, 3) := by decide +kernel
theorem d_CP_shift_4 : decode b_CP_shift 4 = .ok (.getfield 119, 3) := by decide +kernel
theorem d_CP_shift_7 : decode b_CP_shift 7 = .ok (.aload_n 0, 1) := by decide +kernel
theorem d_CP_shift_8 : decode b_CP_shift 8 = .ok (.getfield 33, 3) := by decide +kernel
theorem d_CP_shift_11 : decode b_CP_shift 11 = .ok (.getfield 123, 3) := by decide +kernel
theorem d_CP_shift_14 : decode b_CP_shift 14 = .ok (.iload_n 1, 1) := by decide +kernel
theorem d_CP_shift_15 : decode b_CP_shift 15 = .ok (.invokestatic 126, 3) := by decide +kernel
theorem d_CP_shift_18 : decode b_CP_shift 18 = .ok (.ifCond .eq 24, 3) := by decide +kernel
theorem d_CP_shift_21 : decode b_CP_shift 21 = .ok (.aload_n 0, 1) := by decide +kernel
theorem d_CP_shift_22 : decode b_CP_shift 22 = .ok (.getfield 33, 3) := by decide +kernel
theorem d_CP_shift_25 : decode b_CP_shift 25 = .ok (.getfield 130, 3) := by decide +kernel
theorem d_CP_shift_28 : decode b_CP_shift 28 = .ok (.aload_n 0, 1) := by decide +kernel
theorem d_CP_shift_29 : decode b_CP_shift 29 = .ok (.getfield 33, 3) := by decide +kernel
theorem d_CP_shift_32 : decode b_CP_shift 32 = .ok (.getfield 123, 3) := by decide +kernel
theorem d_CP_shift_35 : decode b_CP_shift 35 = .ok (.iload_n 2, 1) := by decide +kernel
theorem d_CP_shift_36 : decode b_CP_shift 36 = .ok (.invokestatic 126, 3) := by decide +kernel
theorem d_CP_shift_39 : decode b_CP_shift 39 = .ok (.ifCond .ne 6, 3) := by decide +kernel
theorem d_CP_shift_42 : decode b_CP_shift 42 = .ok (.bipush (-4), 2) := by decide +kernel
theorem d_CP_shift_44 : decode b_CP_shift 44 = .ok (.ireturn, 1) := by decide +kernel
theorem d_CP_shift_45 : decode b_CP_shift 45 = .ok (.aload_n 0, 1) := by decide +kernel
theorem d_CP_shift_46 : decode b_CP_shift 46 = .ok (.getfield 33, 3) := by decide +kernel
theorem d_CP_shift_49 : decode b_CP_shift 49 = .ok (.getfield 119, 3) := by decide +kernel
theorem d_CP_shift_52 : decode b_CP_shift 52 = .ok (.aload_n 0, 1) := by decide +kernel
theorem d_CP_shift_53 : decode b_CP_shift 53 = .ok (.getfield 33, 3) := by decide +kernel
theorem d_CP_shift_56 : decode b_CP_shift 56 = .ok (.getfield 123, 3) := by decide +kernel
theorem d_CP_shift_59 : decode b_CP_shift 59 = .ok (.iload_n 1, 1) := by decide +kernel
theorem d_CP_shift_60 : decode b_CP_shift 60 = .ok (.invokestatic 133, 3) := by decide +kernel
theorem d_CP_shift_63 : decode b_CP_shift 63 = .ok (.aload_n 0, 1) := by decide +kernel
theorem d_CP_shift_64 : decode b_CP_shift 64 = .ok (.getfield 33, 3) := by decide +kernel
theorem d_CP_shift_67 : decode b_CP_shift 67 = .ok (.getfield 130, 3) := by decide +kernel
theorem d_CP_shift_70 : decode b_CP_shift 70 = .ok (.aload_n 0, 1) := by decide +kernel
theorem d_CP_shift_71 : decode b_CP_shift 71 = .ok (.getfield 33, 3) := by decide +kernel
theorem d_CP_shift_74 : decode b_CP_shift 74 = .ok (.getfield 123, 3) := by decide +kernel
theorem d_CP_shift_77 : decode b_CP_shift 77 = .ok (.iload_n 2, 1) := by decide +kernel
theorem d_CP_shift_78 : decode b_CP_shift 78 = .ok (.invokestatic 133, 3) := by decide +kernel
theorem d_CP_shift_81 : decode b_CP_shift 81 = .ok (.aload_n 0, 1) := by decide +kernel
theorem d_CP_shift_82 : decode b_CP_shift 82 = .ok (.getfield 33, 3) := by decide +kernel
theorem d_CP_shift_85 : decode b_CP_shift 85 = .ok (.getfield 52, 3) := by decide +kernel
theorem d_CP_shift_88 : decode b_CP_shift 88 = .ok (.ireturn, 1) := by decide +kernel
theorem d_CP_reverse_0 : decode b_CP_reverse 0 = .ok (.aload_n 0, 1) := by decide +kernel
theorem d_CP_reverse_1 : decode b_CP_reverse 1 = .ok (.getfield 33, 3) := by decide +kernel
theorem d_CP_reverse_4 : decode b_CP_reverse 4 = .ok (.invokevirtual 137, 3) := by decide +kernel
theorem d_CP_reverse_7 : decode b_CP_reverse 7 = .ok (.aload_n 0, 1) := by decide +kernel
theorem d_CP_reverse_8 : decode b_CP_reverse 8 = .ok (.getfield 33, 3) := by decide +kernel
theorem d_CP_reverse_11 : decode b_CP_reverse 11 = .ok (.getfield 52, 3) := by decide +kernel
theorem d_CP_reverse_14 : decode b_CP_reverse 14 = .ok (.ireturn, 1) := by decide +kernel
theorem d_CP_flatten_0 : decode b_CP_flatten 0 = .ok (.iload_n 1, 1) := by decide +kernel
theorem d_CP_flatten_1 : decode b_CP_flatten 1 = .ok (.iconst 1, 1) := by decide +kernel
theorem d_CP_flatten_2 : decode b_CP_flatten 2 = .ok (.if_icmp .lt 9, 3) := by decide +kernel
theorem d_CP_flatten_5 : decode b_CP_flatten 5 = .ok (.iload_n 1, 1) := by decide +kernel
theorem d_CP_flatten_6 : decode b_CP_flatten 6 = .ok (.ldc 140, 2) := by decide +kernel
theorem d_CP_flatten_8 : decode b_CP_flatten 8 = .ok (.if_icmp .le 5, 3) := by decide +kernel
theorem d_CP_flatten_11 : decode b_CP_flatten 11 = .ok (.iconst (-1), 1) := by decide +kernel
theorem d_CP_flatten_12 : decode b_CP_flatten 12 = .ok (.ireturn, 1) := by decide +kernel
theorem d_CP_flatten_13 : decode b_CP_flatten 13 = .ok (.aload_n 0, 1) := by decide +kernel
theorem d_CP_flatten_14 : decode b_CP_flatten 14 = .ok (.getfield 37, 3) := by decide +kernel
theorem d_CP_flatten_17 : decode b_CP_flatten 17 = .ok (.invokevirtual 141, 3) := by decide +kernel
theorem d_CP_flatten_20 : decode b_CP_flatten 20 = .ok (.iconst 0, 1) := by decide +kernel
theorem d_CP_flatten_21 : decode b_CP_flatten 21 = .ok (.istore_n 2, 1) := by decide +kernel
theorem d_CP_flatten_22 : decode b_CP_flatten 22 = .ok (.iload_n 2, 1) := by decide +kernel
theorem d_CP_flatten_23 : decode b_CP_flatten 23 = .ok (.aload_n 0, 1) := by decide +kernel
theorem d_CP_flatten_24 : decode b_CP_flatten 24 = .ok (.getfield 33, 3) := by decide +kernel
theorem d_CP_flatten_27 : decode b_CP_flatten 27 = .ok (.getfield 52, 3) := by decide +kernel
theorem d_CP_flatten_30 : decode b_CP_flatten 30 = .ok (.if_icmp .ge 21, 3) := by decide +kernel
theorem d_CP_flatten_33 : decode b_CP_flatten 33 = .ok (.aload_n 0, 1) := by decide +kernel
theorem d_CP_flatten_34 : decode b_CP_flatten 34 = .ok (.iload_n 2, 1) := by decide +kernel
theorem d_CP_flatten_35 : decode b_CP_flatten 35 = .ok (.iload_n 1, 1) := by decide +kernel
theorem d_CP_flatten_36 : decode b_CP_flatten 36 = .ok (.invokevirtual 144, 3) := by decide +kernel
theorem d_CP_flatten_39 : decode b_CP_flatten 39 = .ok (.ifCond .ne 6, 3) := by decide +kernel
theorem d_CP_flatten_42 : decode b_CP_flatten 42 = .ok (.bipush (-3), 2) := by decide +kernel
theorem d_CP_flatten_44 : decode b_CP_flatten 44 = .ok (.ireturn, 1) := by decide +kernel
theorem d_CP_flatten_45 : decode b_CP_flatten 45 = .ok (.iinc 2 1, 3) := by decide +kernel
theorem d_CP_flatten_48 : decode b_CP_flatten 48 = .ok (.goto (-26), 3) := by decide +kernel
theorem d_CP_flatten_51 : decode b_CP_flatten 51 = .ok (.aload_n 0, 1) := by decide +kernel
theorem d_CP_flatten_52 : decode b_CP_flatten 52 = .ok (.getfield 37, 3) := by decide +kernel
theorem d_CP_flatten_55 : decode b_CP_flatten 55 = .ok (.astore_n 2, 1) := by decide +kernel
theorem d_CP_flatten_56 : decode b_CP_flatten 56 = .ok (.aload_n 0, 1) := by decide +kernel
theorem d_CP_flatten_57 : decode b_CP_flatten 57 = .ok (.aload_n 0, 1) := by decide +kernel
theorem d_CP_flatten_58 : decode b_CP_flatten 58 = .ok (.getfield 33, 3) := by decide +kernel
theorem d_CP_flatten_61 : decode b_CP_flatten 61 = .ok (.putfield 37, 3) := by decide +kernel
theorem d_CP_flatten_64 : decode b_CP_flatten 64 = .ok (.aload_n 0, 1) := by decide +kernel
theorem d_CP_flatten_65 : decode b_CP_flatten 65 = .ok (.aload_n 2, 1) := by decide +kernel
theorem d_CP_flatten_66 : decode b_CP_flatten 66 = .ok (.putfield 33, 3) := by decide +kernel
theorem d_CP_flatten_69 : decode b_CP_flatten 69 = .ok (.aload_n 0, 1) := by decide +kernel
theorem d_CP_flatten_70 : decode b_CP_flatten 70 = .ok (.getfield 33, 3) := by decide +kernel
theorem d_CP_flatten_73 : decode b_CP_flatten 73 = .ok (.getfield 52, 3) := by decide +kernel
theorem d_CP_flatten_76 : decode b_CP_flatten 76 = .ok (.ireturn, 1) := by decide +kernel
theorem d_CP_clear_0 : decode b_CP_clear 0 = .ok (.aload_n 0, 1) := by decide +kernel
theorem d_CP_clear_1 : decode b_CP_clear 1 = .ok (.getfield 33, 3) := by decide +kernel
theorem d_CP_clear_4 : decode b_CP_clear 4 = .ok (.getfield 52, 3) := by decide +kernel
theorem d_CP_clear_7 : decode b_CP_clear 7 = .ok (.istore_n 1, 1) := by decide +kernel
theorem d_CP_clear_8 : decode b_CP_clear 8 = .ok (.aload_n 0, 1) := by decide +kernel
theorem d_CP_clear_9 : decode b_CP_clear 9 = .ok (.getfield 33, 3) := by decide +kernel
theorem d_CP_clear_12 : decode b_CP_clear 12 = .ok (.invokevirtual 141, 3) := by decide +kernel
theorem d_CP_clear_15 : decode b_CP_clear 15 = .ok (.iload_n 1, 1) := by decide +kernel
theorem d_CP_clear_16 : decode b_CP_clear 16 = .ok (.ireturn, 1) := by decide +kernel
theorem d_CP_parts_0 : decode b_CP_parts 0 = .ok (.aload_n 0, 1) := by decide +kernel
theorem d_CP_parts_1 : decode b_CP_parts 1 = .ok (.getfield 33, 3) := by decide +kernel
theorem d_CP_parts_4 : decode b_CP_parts 4 = .ok (.getfield 52, 3) := by decide +kernel
theorem d_CP_parts_7 : decode b_CP_parts 7 = .ok (.ireturn, 1) := by decide +kernel
theorem d_CP_kind_0 : decode b_CP_kind 0 = .ok (.aload_n 0, 1) := by decide +kernel
theorem d_CP_kind_1 : decode b_CP_kind 1 = .ok (.getfield 33, 3) := by decide +kernel
theorem d_CP_kind_4 : decode b_CP_kind 4 = .ok (.iload_n 1, 1) := by decide +kernel
theorem d_CP_kind_5 : decode b_CP_kind 5 = .ok (.invokevirtual 148, 3) := by decide +kernel
theorem d_CP_kind_8 : decode b_CP_kind 8 = .ok (.ifCond .eq 15, 3) := by decide +kernel
theorem d_CP_kind_11 : decode b_CP_kind 11 = .ok (.aload_n 0, 1) := by decide +kernel
theorem d_CP_kind_12 : decode b_CP_kind 12 = .ok (.getfield 33, 3) := by decide +kernel
theorem d_CP_kind_15 : decode b_CP_kind 15 = .ok (.getfield 151, 3) := by decide +kernel
theorem d_CP_kind_18 : decode b_CP_kind 18 = .ok (.iload_n 1, 1) := by decide +kernel
theorem d_CP_kind_19 : decode b_CP_kind 19 = .ok (.iaload, 1) := by decide +kernel
theorem d_CP_kind_20 : decode b_CP_kind 20 = .ok (.goto 4, 3) := by decide +kernel
theorem d_CP_kind_23 : decode b_CP_kind 23 = .ok (.iconst (-1), 1) := by decide +kernel
theorem d_CP_kind_24 : decode b_CP_kind 24 = .ok (.ireturn, 1) := by decide +kernel
theorem d_CP_place_0 : decode b_CP_place 0 = .ok (.aload_n 0, 1) := by decide +kernel
theorem d_CP_place_1 : decode b_CP_place 1 = .ok (.getfield 33, 3) := by decide +kernel
theorem d_CP_place_4 : decode b_CP_place 4 = .ok (.iload_n 1, 1) := by decide +kernel
theorem d_CP_place_5 : decode b_CP_place 5 = .ok (.invokevirtual 148, 3) := by decide +kernel
theorem d_CP_place_8 : decode b_CP_place 8 = .ok (.ifCond .eq 12, 3) := by decide +kernel
theorem d_CP_place_11 : decode b_CP_place 11 = .ok (.iload_n 2, 1) := by decide +kernel
theorem d_CP_place_12 : decode b_CP_place 12 = .ok (.ifCond .lt 8, 3) := by decide +kernel
theorem d_CP_place_15 : decode b_CP_place 15 = .ok (.iload_n 2, 1) := by decide +kernel
theorem d_CP_place_16 : decode b_CP_place 16 = .ok (.iconst 5, 1) := by decide +kernel
theorem d_CP_place_17 : decode b_CP_place 17 = .ok (.if_icmp .le 5, 3) := by decide +kernel
theorem d_CP_place_20 : decode b_CP_place 20 = .ok (.iconst 0, 1) := by decide +kernel
theorem d_CP_place_21 : decode b_CP_place 21 = .ok (.ireturn, 1) := by decide +kernel
theorem d_CP_place_22 : decode b_CP_place 22 = .ok (.iload_n 2, 1) := by decide +kernel
theorem d_CP_place_23 : decode b_CP_place 23 = .ok (.iconst 2, 1) := by decide +kernel
theorem d_CP_place_24 : decode b_CP_place 24 = .ok (.if_icmp .ge 20, 3) := by decide +kernel
theorem d_CP_place_27 : decode b_CP_place 27 = .ok (.aload_n 0, 1) := by decide +kernel
theorem d_CP_place_28 : decode b_CP_place 28 = .ok (.getfield 33, 3) := by decide +kernel
theorem d_CP_place_31 : decode b_CP_place 31 = .ok (.aload_n 0, 1) := by decide +kernel
theorem d_CP_place_32 : decode b_CP_place 32 = .ok (.getfield 33, 3) := by decide +kernel
theorem d_CP_place_35 : decode b_CP_place 35 = .ok (.iload_n 1, 1) := by decide +kernel
theorem d_CP_place_36 : decode b_CP_place 36 = .ok (.invokevirtual 154, 3) := by decide +kernel
theorem d_CP_place_39 : decode b_CP_place 39 = .ok (.iload_n 2, 1) := by decide +kernel
theorem d_CP_place_40 : decode b_CP_place 40 = .ok (.invokevirtual 158, 3) := by decide +kernel
theorem d_CP_place_43 : decode b_CP_place 43 = .ok (.ireturn, 1) := by decide +kernel
theorem d_CP_place_44 : decode b_CP_place 44 = .ok (.aload_n 0, 1) := by decide +kernel
theorem d_CP_place_45 : decode b_CP_place 45 = .ok (.getfield 33, 3) := by decide +kernel
theorem d_CP_place_48 : decode b_CP_place 48 = .ok (.getfield 151, 3) := by decide +kernel
theorem d_CP_place_51 : decode b_CP_place 51 = .ok (.iload_n 1, 1) := by decide +kernel
theorem d_CP_place_52 : decode b_CP_place 52 = .ok (.iaload, 1) := by decide +kernel
theorem d_CP_place_53 : decode b_CP_place 53 = .ok (.iconst 2, 1) := by decide +kernel
theorem d_CP_place_54 : decode b_CP_place 54 = .ok (.if_icmp .eq 5, 3) := by decide +kernel
theorem d_CP_place_57 : decode b_CP_place 57 = .ok (.iconst 0, 1) := by decide +kernel
theorem d_CP_place_58 : decode b_CP_place 58 = .ok (.ireturn, 1) := by decide +kernel
theorem d_CP_place_59 : decode b_CP_place 59 = .ok (.aload_n 0, 1) := by decide +kernel
theorem d_CP_place_60 : decode b_CP_place 60 = .ok (.getfield 33, 3) := by decide +kernel
theorem d_CP_place_63 : decode b_CP_place 63 = .ok (.aload_n 0, 1) := by decide +kernel
theorem d_CP_place_64 : decode b_CP_place 64 = .ok (.getfield 33, 3) := by decide +kernel
theorem d_CP_place_67 : decode b_CP_place 67 = .ok (.getfield 162, 3) := by decide +kernel
theorem d_CP_place_70 : decode b_CP_place 70 = .ok (.iload_n 1, 1) := by decide +kernel
theorem d_CP_place_71 : decode b_CP_place 71 = .ok (.iaload, 1) := by decide +kernel
theorem d_CP_place_72 : decode b_CP_place 72 = .ok (.iload_n 2, 1) := by decide +kernel
theorem d_CP_place_73 : decode b_CP_place 73 = .ok (.iconst 2, 1) := by decide +kernel
theorem d_CP_place_74 : decode b_CP_place 74 = .ok (.idiv, 1) := by decide +kernel
theorem d_CP_place_75 : decode b_CP_place 75 = .ok (.iadd, 1) := by decide +kernel
theorem d_CP_place_76 : decode b_CP_place 76 = .ok (.iconst 1, 1) := by decide +kernel
theorem d_CP_place_77 : decode b_CP_place 77 = .ok (.isub, 1) := by decide +kernel
theorem d_CP_place_78 : decode b_CP_place 78 = .ok (.iload_n 2, 1) := by decide +kernel
theorem d_CP_place_79 : decode b_CP_place 79 = .ok (.iconst 2, 1) := by decide +kernel
theorem d_CP_place_80 : decode b_CP_place 80 = .ok (.irem, 1) := by decide +kernel
theorem d_CP_place_81 : decode b_CP_place 81 = .ok (.invokevirtual 158, 3) := by decide +kernel
theorem d_CP_place_84 : decode b_CP_place 84 = .ok (.ireturn, 1) := by decide +kernel
theorem d_CP_point_0 : decode b_CP_point 0 = .ok (.aload_n 0, 1) := by decide +kernel
theorem d_CP_point_1 : decode b_CP_point 1 = .ok (.getfield 33, 3) := by decide +kernel
theorem d_CP_point_4 : decode b_CP_point 4 = .ok (.invokevirtual 63, 3) := by decide +kernel
theorem d_CP_point_7 : decode b_CP_point 7 = .ok (.ifCond .ne 12, 3) := by decide +kernel
theorem d_CP_point_10 : decode b_CP_point 10 = .ok (.iload_n 1, 1) := by decide +kernel
theorem d_CP_point_11 : decode b_CP_point 11 = .ok (.ifCond .lt 8, 3) := by decide +kernel
theorem d_CP_point_14 : decode b_CP_point 14 = .ok (.iload_n 1, 1) := by decide +kernel
theorem d_CP_point_15 : decode b_CP_point 15 = .ok (.iconst 1, 1) := by decide +kernel
theorem d_CP_point_16 : decode b_CP_point 16 = .ok (.if_icmp .le 5, 3) := by decide +kernel
theorem d_CP_point_19 : decode b_CP_point 19 = .ok (.iconst 0, 1) := by decide +kernel
theorem d_CP_point_20 : decode b_CP_point 20 = .ok (.ireturn, 1) := by decide +kernel
theorem d_CP_point_21 : decode b_CP_point 21 = .ok (.aload_n 0, 1) := by decide +kernel
theorem d_CP_point_22 : decode b_CP_point 22 = .ok (.getfield 33, 3) := by decide +kernel
theorem d_CP_point_25 : decode b_CP_point 25 = .ok (.aload_n 0, 1) := by decide +kernel
theorem d_CP_point_26 : decode b_CP_point 26 = .ok (.getfield 33, 3) := by decide +kernel
theorem d_CP_point_29 : decode b_CP_point 29 = .ok (.invokevirtual 165, 3) := by decide +kernel
theorem d_CP_point_32 : decode b_CP_point 32 = .ok (.iload_n 1, 1) := by decide +kernel
theorem d_CP_point_33 : decode b_CP_point 33 = .ok (.invokevirtual 158, 3) := by decide +kernel
theorem d_CP_point_36 : decode b_CP_point 36 = .ok (.ireturn, 1) := by decide +kernel
theorem d_CP_isPoint_0 : decode b_CP_isPoint 0 = .ok (.aload_n 0, 1) := by decide +kernel
theorem d_CP_isPoint_1 : decode b_CP_isPoint 1 = .ok (.getfield 33, 3) := by decide +kernel
theorem d_CP_isPoint_4 : decode b_CP_isPoint 4 = .ok (.invokevirtual 63, 3) := by decide +kernel
theorem d_CP_isPoint_7 : decode b_CP_isPoint 7 = .ok (.ifCond .ne 7, 3) := by decide +kernel
theorem d_CP_isPoint_10 : decode b_CP_isPoint 10 = .ok (.iconst 1, 1) := by decide +kernel
theorem d_CP_isPoint_11 : decode b_CP_isPoint 11 = .ok (.goto 4, 3) := by decide +kernel
theorem d_CP_isPoint_14 : decode b_CP_isPoint 14 = .ok (.iconst 0, 1) := by decide +kernel
theorem d_CP_isPoint_15 : decode b_CP_isPoint 15 = .ok (.ireturn, 1) := by decide +kernel
theorem d_CP_bound_0 : decode b_CP_bound 0 = .ok (.iload_n 1, 1) := by decide +kernel
theorem d_CP_bound_1 : decode b_CP_bound 1 = .ok (.ifCond .ne 21, 3) := by decide +kernel
theorem d_CP_bound_4 : decode b_CP_bound 4 = .ok (.aload_n 0, 1) := by decide +kernel
theorem d_CP_bound_5 : decode b_CP_bound 5 = .ok (.getfield 33, 3) := by decide +kernel
theorem d_CP_bound_8 : decode b_CP_bound 8 = .ok (.getfield 119, 3) := by decide +kernel
theorem d_CP_bound_11 : decode b_CP_bound 11 = .ok (.aload_n 0, 1) := by decide +kernel
theorem d_CP_bound_12 : decode b_CP_bound 12 = .ok (.getfield 33, 3) := by decide +kernel
theorem d_CP_bound_15 : decode b_CP_bound 15 = .ok (.getfield 123, 3) := by decide +kernel
theorem d_CP_bound_18 : decode b_CP_bound 18 = .ok (.invokestatic 168, 3) := by decide +kernel
theorem d_CP_bound_21 : decode b_CP_bound 21 = .ok (.ireturn, 1) := by decide +kernel
theorem d_CP_bound_22 : decode b_CP_bound 22 = .ok (.iload_n 1, 1) := by decide +kernel
theorem d_CP_bound_23 : decode b_CP_bound 23 = .ok (.iconst 1, 1) := by decide +kernel
theorem d_CP_bound_24 : decode b_CP_bound 24 = .ok (.if_icmp .ne 21, 3) := by decide +kernel
theorem d_CP_bound_27 : decode b_CP_bound 27 = .ok (.aload_n 0, 1) := by decide +kernel
theorem d_CP_bound_28 : decode b_CP_bound 28 = .ok (.getfield 33, 3) := by decide +kernel
theorem d_CP_bound_31 : decode b_CP_bound 31 = .ok (.getfield 130, 3) := by decide +kernel
theorem d_CP_bound_34 : decode b_CP_bound 34 = .ok (.aload_n 0, 1) := by decide +kernel
theorem d_CP_bound_35 : decode b_CP_bound 35 = .ok (.getfield 33, 3) := by decide +kernel
theorem d_CP_bound_38 : decode b_CP_bound 38 = .ok (.getfield 123, 3) := by decide +kernel
theorem d_CP_bound_41 : decode b_CP_bound 41 = .ok (.invokestatic 168, 3) := by decide +kernel
theorem d_CP_bound_44 : decode b_CP_bound 44 = .ok (.ireturn, 1) := by decide +kernel
theorem d_CP_bound_45 : decode b_CP_bound 45 = .ok (.iload_n 1, 1) := by decide +kernel
theorem d_CP_bound_46 : decode b_CP_bound 46 = .ok (.iconst 2, 1) := by decide +kernel
theorem d_CP_bound_47 : decode b_CP_bound 47 = .ok (.if_icmp .ne 21, 3) := by decide +kernel
theorem d_CP_bound_50 : decode b_CP_bound 50 = .ok (.aload_n 0, 1) := by decide +kernel
theorem d_CP_bound_51 : decode b_CP_bound 51 = .ok (.getfield 33, 3) := by decide +kernel
theorem d_CP_bound_54 : decode b_CP_bound 54 = .ok (.getfield 119, 3) := by decide +kernel
theorem d_CP_bound_57 : decode b_CP_bound 57 = .ok (.aload_n 0, 1) := by decide +kernel
theorem d_CP_bound_58 : decode b_CP_bound 58 = .ok (.getfield 33, 3) := by decide +kernel
theorem d_CP_bound_61 : decode b_CP_bound 61 = .ok (.getfield 123, 3) := by decide +kernel
theorem d_CP_bound_64 : decode b_CP_bound 64 = .ok (.invokestatic 172, 3) := by decide +kernel
theorem d_CP_bound_67 : decode b_CP_bound 67 = .ok (.ireturn, 1) := by decide +kernel
theorem d_CP_bound_68 : decode b_CP_bound 68 = .ok (.iload_n 1, 1) := by decide +kernel
theorem d_CP_bound_69 : decode b_CP_bound 69 = .ok (.iconst 3, 1) := by decide +kernel
theorem d_CP_bound_70 : decode b_CP_bound 70 = .ok (.if_icmp .ne 23, 3) := by decide +kernel
theorem d_CP_bound_73 : decode b_CP_bound 73 = .ok (.aload_n 0, 1) := by decide +kernel
theorem d_CP_bound_74 : decode b_CP_bound 74 = .ok (.getfield 33, 3) := by decide +kernel
theorem d_CP_bound_77 : decode b_CP_bound 77 = .ok (.getfield 130, 3) := by decide +kernel
theorem d_CP_bound_80 : decode b_CP_bound 80 = .ok (.aload_n 0, 1) := by decide +kernel
theorem d_CP_bound_81 : decode b_CP_bound 81 = .ok (.getfield 33, 3) := by decide +kernel
theorem d_CP_bound_84 : decode b_CP_bound 84 = .ok (.getfield 123, 3) := by decide +kernel
theorem d_CP_bound_87 : decode b_CP_bound 87 = .ok (.invokestatic 172, 3) := by decide +kernel
theorem d_CP_bound_90 : decode b_CP_bound 90 = .ok (.goto 4, 3) := by decide +kernel
theorem d_CP_bound_93 : decode b_CP_bound 93 = .ok (.iconst 0, 1) := by decide +kernel
theorem d_CP_bound_94 : decode b_CP_bound 94 = .ok (.ireturn, 1) := by decide +kernel
theorem d_CP_addSweep_0 : decode b_CP_addSweep 0 = .ok (.aload_n 0, 1) := by decide +kernel
theorem d_CP_addSweep_1 : decode b_CP_addSweep 1 = .ok (.getfield 33, 3) := by decide +kernel
theorem d_CP_addSweep_4 : decode b_CP_addSweep 4 = .ok (.invokevirtual 63, 3) := by decide +kernel
theorem d_CP_addSweep_7 : decode b_CP_addSweep 7 = .ok (.ifCond .eq 22, 3) := by decide +kernel
theorem d_CP_addSweep_10 : decode b_CP_addSweep 10 = .ok (.aload_n 0, 1) := by decide +kernel
theorem d_CP_addSweep_11 : decode b_CP_addSweep 11 = .ok (.getfield 33, 3) := by decide +kernel
theorem d_CP_addSweep_14 : decode b_CP_addSweep 14 = .ok (.iconst 1, 1) := by decide +kernel
theorem d_CP_addSweep_15 : decode b_CP_addSweep 15 = .ok (.aload_n 0, 1) := by decide +kernel
theorem d_CP_addSweep_16 : decode b_CP_addSweep 16 = .ok (.getfield 19, 3) := by decide +kernel
theorem d_CP_addSweep_19 : decode b_CP_addSweep 19 = .ok (.invokevirtual 175, 3) := by decide +kernel
theorem d_CP_addSweep_22 : decode b_CP_addSweep 22 = .ok (.iadd, 1) := by decide +kernel
theorem d_CP_addSweep_23 : decode b_CP_addSweep 23 = .ok (.invokevirtual 56, 3) := by decide +kernel
theorem d_CP_addSweep_26 : decode b_CP_addSweep 26 = .ok (.goto 19, 3) := by decide +kernel
theorem d_CP_addSweep_29 : decode b_CP_addSweep 29 = .ok (.aload_n 0, 1) := by decide +kernel
theorem d_CP_addSweep_30 : decode b_CP_addSweep 30 = .ok (.getfield 33, 3) := by decide +kernel
theorem d_CP_addSweep_33 : decode b_CP_addSweep 33 = .ok (.iconst 1, 1) := by decide +kernel
theorem d_CP_addSweep_34 : decode b_CP_addSweep 34 = .ok (.aload_n 0, 1) := by decide +kernel
theorem d_CP_addSweep_35 : decode b_CP_addSweep 35 = .ok (.getfield 19, 3) := by decide +kernel
theorem d_CP_addSweep_38 : decode b_CP_addSweep 38 = .ok (.invokevirtual 175, 3) := by decide +kernel
theorem d_CP_addSweep_41 : decode b_CP_addSweep 41 = .ok (.iadd, 1) := by decide +kernel
theorem d_CP_addSweep_42 : decode b_CP_addSweep 42 = .ok (.invokevirtual 66, 3) := by decide +kernel
theorem d_CP_addSweep_45 : decode b_CP_addSweep 45 = .ok (.istore_n 1, 1) := by decide +kernel
theorem d_CP_addSweep_46 : decode b_CP_addSweep 46 = .ok (.iload_n 1, 1) := by decide +kernel
theorem d_CP_addSweep_47 : decode b_CP_addSweep 47 = .ok (.ifCond .ne 6, 3) := by decide +kernel
theorem d_CP_addSweep_50 : decode b_CP_addSweep 50 = .ok (.bipush (-3), 2) := by decide +kernel
theorem d_CP_addSweep_52 : decode b_CP_addSweep 52 = .ok (.ireturn, 1) := by decide +kernel
theorem d_CP_addSweep_53 : decode b_CP_addSweep 53 = .ok (.aload_n 0, 1) := by decide +kernel
theorem d_CP_addSweep_54 : decode b_CP_addSweep 54 = .ok (.getfield 33, 3) := by decide +kernel
theorem d_CP_addSweep_57 : decode b_CP_addSweep 57 = .ok (.invokevirtual 63, 3) := by decide +kernel
theorem d_CP_addSweep_60 : decode b_CP_addSweep 60 = .ok (.ifCond .eq 31, 3) := by decide +kernel
theorem d_CP_addSweep_63 : decode b_CP_addSweep 63 = .ok (.aload_n 0, 1) := by decide +kernel
theorem d_CP_addSweep_64 : decode b_CP_addSweep 64 = .ok (.getfield 33, 3) := by decide +kernel
theorem d_CP_addSweep_67 : decode b_CP_addSweep 67 = .ok (.aload_n 0, 1) := by decide +kernel
theorem d_CP_addSweep_68 : decode b_CP_addSweep 68 = .ok (.getfield 19, 3) := by decide +kernel
theorem d_CP_addSweep_71 : decode b_CP_addSweep 71 = .ok (.getfield 178, 3) := by decide +kernel
theorem d_CP_addSweep_74 : decode b_CP_addSweep 74 = .ok (.iconst 0, 1) := by decide +kernel
theorem d_CP_addSweep_75 : decode b_CP_addSweep 75 = .ok (.iaload, 1) := by decide +kernel
theorem d_CP_addSweep_76 : decode b_CP_addSweep 76 = .ok (.aload_n 0, 1) := by decide +kernel
theorem d_CP_addSweep_77 : decode b_CP_addSweep 77 = .ok (.getfield 19, 3) := by decide +kernel
theorem d_CP_addSweep_80 : decode b_CP_addSweep 80 = .ok (.getfield 179, 3) := by decide +kernel
theorem d_CP_addSweep_83 : decode b_CP_addSweep 83 = .ok (.iconst 0, 1) := by decide +kernel
theorem d_CP_addSweep_84 : decode b_CP_addSweep 84 = .ok (.iaload, 1) := by decide +kernel
theorem d_CP_addSweep_85 : decode b_CP_addSweep 85 = .ok (.invokevirtual 60, 3) := by decide +kernel
theorem d_CP_addSweep_88 : decode b_CP_addSweep 88 = .ok (.goto 35, 3) := by decide +kernel
theorem d_CP_addSweep_91 : decode b_CP_addSweep 91 = .ok (.aload_n 0, 1) := by decide +kernel
theorem d_CP_addSweep_92 : decode b_CP_addSweep 92 = .ok (.getfield 33, 3) := by decide +kernel
theorem d_CP_addSweep_95 : decode b_CP_addSweep 95 = .ok (.invokevirtual 69, 3) := by decide +kernel
theorem d_CP_addSweep_98 : decode b_CP_addSweep 98 = .ok (.aload_n 0, 1) := by decide +kernel
theorem d_CP_addSweep_99 : decode b_CP_addSweep 99 = .ok (.getfield 33, 3) := by decide +kernel
theorem d_CP_addSweep_102 : decode b_CP_addSweep 102 = .ok (.aload_n 0, 1) := by decide +kernel
theorem d_CP_addSweep_103 : decode b_CP_addSweep 103 = .ok (.getfield 19, 3) := by decide +kernel
theorem d_CP_addSweep_106 : decode b_CP_addSweep 106 = .ok (.getfield 178, 3) := by decide +kernel
theorem d_CP_addSweep_109 : decode b_CP_addSweep 109 = .ok (.iconst 0, 1) := by decide +kernel
theorem d_CP_addSweep_110 : decode b_CP_addSweep 110 = .ok (.iaload, 1) := by decide +kernel
theorem d_CP_addSweep_111 : decode b_CP_addSweep 111 = .ok (.aload_n 0, 1) := by decide +kernel
theorem d_CP_addSweep_112 : decode b_CP_addSweep 112 = .ok (.getfield 19, 3) := by decide +kernel
theorem d_CP_addSweep_115 : decode b_CP_addSweep 115 = .ok (.getfield 179, 3) := by decide +kernel
theorem d_CP_addSweep_118 : decode b_CP_addSweep 118 = .ok (.iconst 0, 1) := by decide +kernel
theorem d_CP_addSweep_119 : decode b_CP_addSweep 119 = .ok (.iaload, 1) := by decide +kernel
theorem d_CP_addSweep_120 : decode b_CP_addSweep 120 = .ok (.invokevirtual 72, 3) := by decide +kernel
theorem d_CP_addSweep_123 : decode b_CP_addSweep 123 = .ok (.aload_n 0, 1) := by decide +kernel
theorem d_CP_addSweep_124 : decode b_CP_addSweep 124 = .ok (.getfield 19, 3) := by decide +kernel
theorem d_CP_addSweep_127 : decode b_CP_addSweep 127 = .ok (.aload_n 0, 1) := by decide +kernel
theorem d_CP_addSweep_128 : decode b_CP_addSweep 128 = .ok (.getfield 33, 3) := by decide +kernel
theorem d_CP_addSweep_131 : decode b_CP_addSweep 131 = .ok (.invokevirtual 180, 3) := by decide +kernel
theorem d_CP_addSweep_134 : decode b_CP_addSweep 134 = .ok (.aload_n 0, 1) := by decide +kernel
theorem d_CP_addSweep_135 : decode b_CP_addSweep 135 = .ok (.getfield 33, 3) := by decide +kernel
theorem d_CP_addSweep_138 : decode b_CP_addSweep 138 = .ok (.getfield 52, 3) := by decide +kernel
theorem d_CP_addSweep_141 : decode b_CP_addSweep 141 = .ok (.ireturn, 1) := by decide +kernel
theorem d_CP_addFlattened_0 : decode b_CP_addFlattened 0 = .ok (.aload_n 0, 1) := by decide +kernel
theorem d_CP_addFlattened_1 : decode b_CP_addFlattened 1 = .ok (.getfield 33, 3) := by decide +kernel
theorem d_CP_addFlattened_4 : decode b_CP_addFlattened 4 = .ok (.getfield 151, 3) := by decide +kernel
theorem d_CP_addFlattened_7 : decode b_CP_addFlattened 7 = .ok (.iload_n 1, 1) := by decide +kernel
theorem d_CP_addFlattened_8 : decode b_CP_addFlattened 8 = .ok (.iaload, 1) := by decide +kernel
theorem d_CP_addFlattened_9 : decode b_CP_addFlattened 9 = .ok (.istore_n 3, 1) := by decide +kernel
theorem d_CP_addFlattened_10 : decode b_CP_addFlattened 10 = .ok (.iload_n 3, 1) := by decide +kernel
theorem d_CP_addFlattened_11 : decode b_CP_addFlattened 11 = .ok (.iconst 2, 1) := by decide +kernel
theorem d_CP_addFlattened_12 : decode b_CP_addFlattened 12 = .ok (.if_icmp .ne 36, 3) := by decide +kernel
theorem d_CP_addFlattened_15 : decode b_CP_addFlattened 15 = .ok (.aload_n 0, 1) := by decide +kernel
theorem d_CP_addFlattened_16 : decode b_CP_addFlattened 16 = .ok (.getfield 26, 3) := by decide +kernel
theorem d_CP_addFlattened_19 : decode b_CP_addFlattened 19 = .ok (.aload_n 0, 1) := by decide +kernel
theorem d_CP_addFlattened_20 : decode b_CP_addFlattened 20 = .ok (.getfield 33, 3) := by decide +kernel
theorem d_CP_addFlattened_23 : decode b_CP_addFlattened 23 = .ok (.aload_n 0, 1) := by decide +kernel
theorem d_CP_addFlattened_24 : decode b_CP_addFlattened 24 = .ok (.getfield 33, 3) := by decide +kernel
theorem d_CP_addFlattened_27 : decode b_CP_addFlattened 27 = .ok (.getfield 162, 3) := by decide +kernel
theorem d_CP_addFlattened_30 : decode b_CP_addFlattened 30 = .ok (.iload_n 1, 1) := by decide +kernel
theorem d_CP_addFlattened_31 : decode b_CP_addFlattened 31 = .ok (.iaload, 1) := by decide +kernel
theorem d_CP_addFlattened_32 : decode b_CP_addFlattened 32 = .ok (.invokevirtual 184, 3) := by decide +kernel
theorem d_CP_addFlattened_35 : decode b_CP_addFlattened 35 = .ok (.aload_n 0, 1) := by decide +kernel
theorem d_CP_addFlattened_36 : decode b_CP_addFlattened 36 = .ok (.getfield 26, 3) := by decide +kernel
theorem d_CP_addFlattened_39 : decode b_CP_addFlattened 39 = .ok (.aload_n 0, 1) := by decide +kernel
theorem d_CP_addFlattened_40 : decode b_CP_addFlattened 40 = .ok (.getfield 37, 3) := by decide +kernel
theorem d_CP_addFlattened_43 : decode b_CP_addFlattened 43 = .ok (.iload_n 2, 1) := by decide +kernel
theorem d_CP_addFlattened_44 : decode b_CP_addFlattened 44 = .ok (.invokevirtual 188, 3) := by decide +kernel
theorem d_CP_addFlattened_47 : decode b_CP_addFlattened 47 = .ok (.ireturn, 1) := by decide +kernel
theorem d_CP_addFlattened_48 : decode b_CP_addFlattened 48 = .ok (.aload_n 0, 1) := by decide +kernel
theorem d_CP_addFlattened_49 : decode b_CP_addFlattened 49 = .ok (.getfield 37, 3) := by decide +kernel
theorem d_CP_addFlattened_52 : decode b_CP_addFlattened 52 = .ok (.iconst 1, 1) := by decide +kernel
theorem d_CP_addFlattened_53 : decode b_CP_addFlattened 53 = .ok (.invokevirtual 56, 3) := by decide +kernel
theorem d_CP_addFlattened_56 : decode b_CP_addFlattened 56 = .ok (.ifCond .ne 5, 3) := by decide +kernel
theorem d_CP_addFlattened_59 : decode b_CP_addFlattened 59 = .ok (.iconst 0, 1) := by decide +kernel
theorem d_CP_addFlattened_60 : decode b_CP_addFlattened 60 = .ok (.ireturn, 1) := by decide +kernel
theorem d_CP_addFlattened_61 : decode b_CP_addFlattened 61 = .ok (.aload_n 0, 1) := by decide +kernel
theorem d_CP_addFlattened_62 : decode b_CP_addFlattened 62 = .ok (.getfield 33, 3) := by decide +kernel
theorem d_CP_addFlattened_65 : decode b_CP_addFlattened 65 = .ok (.getfield 162, 3) := by decide +kernel
theorem d_CP_addFlattened_68 : decode b_CP_addFlattened 68 = .ok (.iload_n 1, 1) := by decide +kernel
theorem d_CP_addFlattened_69 : decode b_CP_addFlattened 69 = .ok (.iaload, 1) := by decide +kernel
theorem d_CP_addFlattened_70 : decode b_CP_addFlattened 70 = .ok (.istore 4, 2) := by decide +kernel
theorem d_CP_addFlattened_72 : decode b_CP_addFlattened 72 = .ok (.iload_n 3, 1) := by decide +kernel
theorem d_CP_addFlattened_73 : decode b_CP_addFlattened 73 = .ok (.ifCond .ne 33, 3) := by decide +kernel
theorem d_CP_addFlattened_76 : decode b_CP_addFlattened 76 = .ok (.aload_n 0, 1) := by decide +kernel
theorem d_CP_addFlattened_77 : decode b_CP_addFlattened 77 = .ok (.getfield 37, 3) := by decide +kernel
theorem d_CP_addFlattened_80 : decode b_CP_addFlattened 80 = .ok (.aload_n 0, 1) := by decide +kernel
theorem d_CP_addFlattened_81 : decode b_CP_addFlattened 81 = .ok (.getfield 33, 3) := by decide +kernel
theorem d_CP_addFlattened_84 : decode b_CP_addFlattened 84 = .ok (.getfield 119, 3) := by decide +kernel
theorem d_CP_addFlattened_87 : decode b_CP_addFlattened 87 = .ok (.iload 4, 2) := by decide +kernel
theorem d_CP_addFlattened_89 : decode b_CP_addFlattened 89 = .ok (.iaload, 1) := by decide +kernel
theorem d_CP_addFlattened_90 : decode b_CP_addFlattened 90 = .ok (.aload_n 0, 1) := by decide +kernel
theorem d_CP_addFlattened_91 : decode b_CP_addFlattened 91 = .ok (.getfield 33, 3) := by decide +kernel
theorem d_CP_addFlattened_94 : decode b_CP_addFlattened 94 = .ok (.getfield 130, 3) := by decide +kernel
theorem d_CP_addFlattened_97 : decode b_CP_addFlattened 97 = .ok (.iload 4, 2) := by decide +kernel
theorem d_CP_addFlattened_99 : decode b_CP_addFlattened 99 = .ok (.iaload, 1) := by decide +kernel
theorem d_CP_addFlattened_100 : decode b_CP_addFlattened 100 = .ok (.invokevirtual 60, 3) := by decide +kernel
theorem d_CP_addFlattened_103 : decode b_CP_addFlattened 103 = .ok (.goto 45, 3) := by decide +kernel
theorem d_CP_addFlattened_106 : decode b_CP_addFlattened 106 = .ok (.iload_n 3, 1) := by decide +kernel
theorem d_CP_addFlattened_107 : decode b_CP_addFlattened 107 = .ok (.iconst 1, 1) := by decide +kernel
theorem d_CP_addFlattened_108 : decode b_CP_addFlattened 108 = .ok (.if_icmp .ne 33, 3) := by decide +kernel
theorem d_CP_addFlattened_111 : decode b_CP_addFlattened 111 = .ok (.aload_n 0, 1) := by decide +kernel
theorem d_CP_addFlattened_112 : decode b_CP_addFlattened 112 = .ok (.getfield 37, 3) := by decide +kernel
theorem d_CP_addFlattened_115 : decode b_CP_addFlattened 115 = .ok (.aload_n 0, 1) := by decide +kernel
theorem d_CP_addFlattened_116 : decode b_CP_addFlattened 116 = .ok (.getfield 33, 3) := by decide +kernel
theorem d_CP_addFlattened_119 : decode b_CP_addFlattened 119 = .ok (.getfield 119, 3) := by decide +kernel
theorem d_CP_addFlattened_122 : decode b_CP_addFlattened 122 = .ok (.iload 4, 2) := by decide +kernel
theorem d_CP_addFlattened_124 : decode b_CP_addFlattened 124 = .ok (.iaload, 1) := by decide +kernel
theorem d_CP_addFlattened_125 : decode b_CP_addFlattened 125 = .ok (.aload_n 0, 1) := by decide +kernel
theorem d_CP_addFlattened_126 : decode b_CP_addFlattened 126 = .ok (.getfield 33, 3) := by decide +kernel
theorem d_CP_addFlattened_129 : decode b_CP_addFlattened 129 = .ok (.getfield 130, 3) := by decide +kernel
theorem d_CP_addFlattened_132 : decode b_CP_addFlattened 132 = .ok (.iload 4, 2) := by decide +kernel
theorem d_CP_addFlattened_134 : decode b_CP_addFlattened 134 = .ok (.iaload, 1) := by decide +kernel
theorem d_CP_addFlattened_135 : decode b_CP_addFlattened 135 = .ok (.invokevirtual 72, 3) := by decide +kernel
theorem d_CP_addFlattened_138 : decode b_CP_addFlattened 138 = .ok (.goto 10, 3) := by decide +kernel
theorem d_CP_addFlattened_141 : decode b_CP_addFlattened 141 = .ok (.aload_n 0, 1) := by decide +kernel
theorem d_CP_addFlattened_142 : decode b_CP_addFlattened 142 = .ok (.getfield 37, 3) := by decide +kernel
theorem d_CP_addFlattened_145 : decode b_CP_addFlattened 145 = .ok (.invokevirtual 82, 3) := by decide +kernel
theorem d_CP_addFlattened_148 : decode b_CP_addFlattened 148 = .ok (.iconst 1, 1) := by decide +kernel
theorem d_CP_addFlattened_149 : decode b_CP_addFlattened 149 = .ok (.ireturn, 1) := by decide +kernel
theorem d_CP_notBelow_0 : decode b_CP_notBelow 0 = .ok (.lload_n 0, 1) := by decide +kernel
theorem d_CP_notBelow_1 : decode b_CP_notBelow 1 = .ok (.lload_n 2, 1) := by decide +kernel
theorem d_CP_notBelow_2 : decode b_CP_notBelow 2 = .ok (.lcmp, 1) := by decide +kernel
theorem d_CP_notBelow_3 : decode b_CP_notBelow 3 = .ok (.ifCond .lt 7, 3) := by decide +kernel
theorem d_CP_notBelow_6 : decode b_CP_notBelow 6 = .ok (.lload_n 0, 1) := by decide +kernel
theorem d_CP_notBelow_7 : decode b_CP_notBelow 7 = .ok (.goto 14, 3) := by decide +kernel
theorem d_CP_notBelow_10 : decode b_CP_notBelow 10 = .ok (.lload_n 2, 1) := by decide +kernel
theorem d_CP_notBelow_11 : decode b_CP_notBelow 11 = .ok (.lload_n 0, 1) := by decide +kernel
theorem d_CP_notBelow_12 : decode b_CP_notBelow 12 = .ok (.lload_n 2, 1) := by decide +kernel
theorem d_CP_notBelow_13 : decode b_CP_notBelow 13 = .ok (.lsub, 1) := by decide +kernel
theorem d_CP_notBelow_14 : decode b_CP_notBelow 14 = .ok (.ldc2_w 192, 3) := by decide +kernel
theorem d_CP_notBelow_17 : decode b_CP_notBelow 17 = .ok (.invokestatic 194, 3) := by decide +kernel
theorem d_CP_notBelow_20 : decode b_CP_notBelow 20 = .ok (.ladd, 1) := by decide +kernel
theorem d_CP_notBelow_21 : decode b_CP_notBelow 21 = .ok (.lreturn, 1) := by decide +kernel
theorem d_CP_notAbove_0 : decode b_CP_notAbove 0 = .ok (.lload_n 0, 1) := by decide +kernel
theorem d_CP_notAbove_1 : decode b_CP_notAbove 1 = .ok (.lload_n 2, 1) := by decide +kernel
theorem d_CP_notAbove_2 : decode b_CP_notAbove 2 = .ok (.lcmp, 1) := by decide +kernel
theorem d_CP_notAbove_3 : decode b_CP_notAbove 3 = .ok (.ifCond .gt 7, 3) := by decide +kernel
theorem d_CP_notAbove_6 : decode b_CP_notAbove 6 = .ok (.lload_n 0, 1) := by decide +kernel
theorem d_CP_notAbove_7 : decode b_CP_notAbove 7 = .ok (.goto 14, 3) := by decide +kernel
theorem d_CP_notAbove_10 : decode b_CP_notAbove 10 = .ok (.lload_n 2, 1) := by decide +kernel
theorem d_CP_notAbove_11 : decode b_CP_notAbove 11 = .ok (.lload_n 2, 1) := by decide +kernel
theorem d_CP_notAbove_12 : decode b_CP_notAbove 12 = .ok (.lload_n 0, 1) := by decide +kernel
theorem d_CP_notAbove_13 : decode b_CP_notAbove 13 = .ok (.lsub, 1) := by decide +kernel
theorem d_CP_notAbove_14 : decode b_CP_notAbove 14 = .ok (.ldc2_w 192, 3) := by decide +kernel
theorem d_CP_notAbove_17 : decode b_CP_notAbove 17 = .ok (.invokestatic 194, 3) := by decide +kernel
theorem d_CP_notAbove_20 : decode b_CP_notAbove 20 = .ok (.lsub, 1) := by decide +kernel
theorem d_CP_notAbove_21 : decode b_CP_notAbove 21 = .ok (.lreturn, 1) := by decide +kernel
theorem d_CP_isFar_0 : decode b_CP_isFar 0 = .ok (.lload_n 0, 1) := by decide +kernel
theorem d_CP_isFar_1 : decode b_CP_isFar 1 = .ok (.ldc2_w 197, 3) := by decide +kernel
theorem d_CP_isFar_4 : decode b_CP_isFar 4 = .ok (.lcmp, 1) := by decide +kernel
theorem d_CP_isFar_5 : decode b_CP_isFar 5 = .ok (.ifCond .lt 11, 3) := by decide +kernel
theorem d_CP_isFar_8 : decode b_CP_isFar 8 = .ok (.lload_n 0, 1) := by decide +kernel
theorem d_CP_isFar_9 : decode b_CP_isFar 9 = .ok (.ldc2_w 199, 3) := by decide +kernel
theorem d_CP_isFar_12 : decode b_CP_isFar 12 = .ok (.lcmp, 1) := by decide +kernel
theorem d_CP_isFar_13 : decode b_CP_isFar 13 = .ok (.ifCond .le 7, 3) := by decide +kernel
theorem d_CP_isFar_16 : decode b_CP_isFar 16 = .ok (.iconst 1, 1) := by decide +kernel
theorem d_CP_isFar_17 : decode b_CP_isFar 17 = .ok (.goto 4, 3) := by decide +kernel
theorem d_CP_isFar_20 : decode b_CP_isFar 20 = .ok (.iconst 0, 1) := by decide +kernel
theorem d_CP_isFar_21 : decode b_CP_isFar 21 = .ok (.ireturn, 1) := by decide +kernel
theorem d_CP_isFarPoint_0 : decode b_CP_isFarPoint 0 = .ok (.lload_n 0, 1) := by decide +kernel
theorem d_CP_isFarPoint_1 : decode b_CP_isFarPoint 1 = .ok (.invokestatic 201, 3) := by decide +kernel
theorem d_CP_isFarPoint_4 : decode b_CP_isFarPoint 4 = .ok (.ifCond .ne 10, 3) := by decide +kernel
theorem d_CP_isFarPoint_7 : decode b_CP_isFarPoint 7 = .ok (.lload_n 2, 1) := by decide +kernel
theorem d_CP_isFarPoint_8 : decode b_CP_isFarPoint 8 = .ok (.invokestatic 201, 3) := by decide +kernel
theorem d_CP_isFarPoint_11 : decode b_CP_isFarPoint 11 = .ok (.ifCond .eq 7, 3) := by decide +kernel
theorem d_CP_isFarPoint_14 : decode b_CP_isFarPoint 14 = .ok (.iconst 1, 1) := by decide +kernel
theorem d_CP_isFarPoint_15 : decode b_CP_isFarPoint 15 = .ok (.goto 4, 3) := by decide +kernel
theorem d_CP_isFarPoint_18 : decode b_CP_isFarPoint 18 = .ok (.iconst 0, 1) := by decide +kernel
theorem d_CP_isFarPoint_19 : decode b_CP_isFarPoint 19 = .ok (.ireturn, 1) := by decide +kernel
theorem d_CP_staysNear_0 : decode b_CP_staysNear 0 = .ok (.iconst 0, 1) := by decide +kernel
theorem d_CP_staysNear_1 : decode b_CP_staysNear 1 = .ok (.istore_n 3, 1) := by decide +kernel
theorem d_CP_staysNear_2 : decode b_CP_staysNear 2 = .ok (.iload_n 3, 1) := by decide +kernel
theorem d_CP_staysNear_3 : decode b_CP_staysNear 3 = .ok (.iload_n 1, 1) := by decide +kernel
theorem d_CP_staysNear_4 : decode b_CP_staysNear 4 = .ok (.if_icmp .ge 24, 3) := by decide +kernel
theorem d_CP_staysNear_7 : decode b_CP_staysNear 7 = .ok (.aload_n 0, 1) := by decide +kernel
theorem d_CP_staysNear_8 : decode b_CP_staysNear 8 = .ok (.iload_n 3, 1) := by decide +kernel
theorem d_CP_staysNear_9 : decode b_CP_staysNear 9 = .ok (.iaload, 1) := by decide +kernel
theorem d_CP_staysNear_10 : decode b_CP_staysNear 10 = .ok (.i2l, 1) := by decide +kernel
theorem d_CP_staysNear_11 : decode b_CP_staysNear 11 = .ok (.iload_n 2, 1) := by decide +kernel
theorem d_CP_staysNear_12 : decode b_CP_staysNear 12 = .ok (.i2l, 1) := by decide +kernel
theorem d_CP_staysNear_13 : decode b_CP_staysNear 13 = .ok (.ladd, 1) := by decide +kernel
theorem d_CP_staysNear_14 : decode b_CP_staysNear 14 = .ok (.invokestatic 201, 3) := by decide +kernel
theorem d_CP_staysNear_17 : decode b_CP_staysNear 17 = .ok (.ifCond .eq 5, 3) := by decide +kernel
theorem d_CP_staysNear_20 : decode b_CP_staysNear 20 = .ok (.iconst 0, 1) := by decide +kernel
theorem d_CP_staysNear_21 : decode b_CP_staysNear 21 = .ok (.ireturn, 1) := by decide +kernel
theorem d_CP_staysNear_22 : decode b_CP_staysNear 22 = .ok (.iinc 3 1, 3) := by decide +kernel
theorem d_CP_staysNear_25 : decode b_CP_staysNear 25 = .ok (.goto (-23), 3) := by decide +kernel
theorem d_CP_staysNear_28 : decode b_CP_staysNear 28 = .ok (.iconst 1, 1) := by decide +kernel
theorem d_CP_staysNear_29 : decode b_CP_staysNear 29 = .ok (.ireturn, 1) := by decide +kernel
theorem d_CP_addToAll_0 : decode b_CP_addToAll 0 = .ok (.iconst 0, 1) := by decide +kernel
theorem d_CP_addToAll_1 : decode b_CP_addToAll 1 = .ok (.istore_n 3, 1) := by decide +kernel
theorem d_CP_addToAll_2 : decode b_CP_addToAll 2 = .ok (.iload_n 3, 1) := by decide +kernel
theorem d_CP_addToAll_3 : decode b_CP_addToAll 3 = .ok (.iload_n 1, 1) := by decide +kernel
theorem d_CP_addToAll_4 : decode b_CP_addToAll 4 = .ok (.if_icmp .ge 16, 3) := by decide +kernel
theorem d_CP_addToAll_7 : decode b_CP_addToAll 7 = .ok (.aload_n 0, 1) := by decide +kernel
theorem d_CP_addToAll_8 : decode b_CP_addToAll 8 = .ok (.iload_n 3, 1) := by decide +kernel
theorem d_CP_addToAll_9 : decode b_CP_addToAll 9 = .ok (.dup2, 1) := by decide +kernel
theorem d_CP_addToAll_10 : decode b_CP_addToAll 10 = .ok (.iaload, 1) := by decide +kernel
theorem d_CP_addToAll_11 : decode b_CP_addToAll 11 = .ok (.iload_n 2, 1) := by decide +kernel
theorem d_CP_addToAll_12 : decode b_CP_addToAll 12 = .ok (.iadd, 1) := by decide +kernel
theorem d_CP_addToAll_13 : decode b_CP_addToAll 13 = .ok (.iastore, 1) := by decide +kernel
theorem d_CP_addToAll_14 : decode b_CP_addToAll 14 = .ok (.iinc 3 1, 3) := by decide +kernel
theorem d_CP_addToAll_17 : decode b_CP_addToAll 17 = .ok (.goto (-15), 3) := by decide +kernel
theorem d_CP_addToAll_20 : decode b_CP_addToAll 20 = .ok (.return_, 1) := by decide +kernel
theorem d_CP_least_0 : decode b_CP_least 0 = .ok (.iload_n 1, 1) := by decide +kernel
theorem d_CP_least_1 : decode b_CP_least 1 = .ok (.ifCond .le 9, 3) := by decide +kernel
theorem d_CP_least_4 : decode b_CP_least 4 = .ok (.aload_n 0, 1) := by decide +kernel
theorem d_CP_least_5 : decode b_CP_least 5 = .ok (.iconst 0, 1) := by decide +kernel
theorem d_CP_least_6 : decode b_CP_least 6 = .ok (.iaload, 1) := by decide +kernel
theorem d_CP_least_7 : decode b_CP_least 7 = .ok (.goto 4, 3) := by decide +kernel
theorem d_CP_least_10 : decode b_CP_least 10 = .ok (.iconst 0, 1) := by decide +kernel
theorem d_CP_least_11 : decode b_CP_least 11 = .ok (.istore_n 2, 1) := by decide +kernel
theorem d_CP_least_12 : decode b_CP_least 12 = .ok (.iconst 1, 1) := by decide +kernel
theorem d_CP_least_13 : decode b_CP_least 13 = .ok (.istore_n 3, 1) := by decide +kernel
theorem d_CP_least_14 : decode b_CP_least 14 = .ok (.iload_n 3, 1) := by decide +kernel
theorem d_CP_least_15 : decode b_CP_least 15 = .ok (.iload_n 1, 1) := by decide +kernel
theorem d_CP_least_16 : decode b_CP_least 16 = .ok (.if_icmp .ge 17, 3) := by decide +kernel
theorem d_CP_least_19 : decode b_CP_least 19 = .ok (.iload_n 2, 1) := by decide +kernel
theorem d_CP_least_20 : decode b_CP_least 20 = .ok (.aload_n 0, 1) := by decide +kernel
theorem d_CP_least_21 : decode b_CP_least 21 = .ok (.iload_n 3, 1) := by decide +kernel
theorem d_CP_least_22 : decode b_CP_least 22 = .ok (.iaload, 1) := by decide +kernel
theorem d_CP_least_23 : decode b_CP_least 23 = .ok (.invokestatic 205, 3) := by decide +kernel
theorem d_CP_least_26 : decode b_CP_least 26 = .ok (.istore_n 2, 1) := by decide +kernel
theorem d_CP_least_27 : decode b_CP_least 27 = .ok (.iinc 3 1, 3) := by decide +kernel
theorem d_CP_least_30 : decode b_CP_least 30 = .ok (.goto (-16), 3) := by decide +kernel
theorem d_CP_least_33 : decode b_CP_least 33 = .ok (.iload_n 2, 1) := by decide +kernel
theorem d_CP_least_34 : decode b_CP_least 34 = .ok (.ireturn, 1) := by decide +kernel
theorem d_CP_greatest_0 : decode b_CP_greatest 0 = .ok (.iload_n 1, 1) := by decide +kernel
theorem d_CP_greatest_1 : decode b_CP_greatest 1 = .ok (.ifCond .le 9, 3) := by decide +kernel
theorem d_CP_greatest_4 : decode b_CP_greatest 4 = .ok (.aload_n 0, 1) := by decide +kernel
theorem d_CP_greatest_5 : decode b_CP_greatest 5 = .ok (.iconst 0, 1) := by decide +kernel
theorem d_CP_greatest_6 : decode b_CP_greatest 6 = .ok (.iaload, 1) := by decide +kernel
theorem d_CP_greatest_7 : decode b_CP_greatest 7 = .ok (.goto 4, 3) := by decide +kernel
theorem d_CP_greatest_10 : decode b_CP_greatest 10 = .ok (.iconst 0, 1) := by decide +kernel
theorem d_CP_greatest_11 : decode b_CP_greatest 11 = .ok (.istore_n 2, 1) := by decide +kernel
theorem d_CP_greatest_12 : decode b_CP_greatest 12 = .ok (.iconst 1, 1) := by decide +kernel
theorem d_CP_greatest_13 : decode b_CP_greatest 13 = .ok (.istore_n 3, 1) := by decide +kernel
theorem d_CP_greatest_14 : decode b_CP_greatest 14 = .ok (.iload_n 3, 1) := by decide +kernel
theorem d_CP_greatest_15 : decode b_CP_greatest 15 = .ok (.iload_n 1, 1) := by decide +kernel
theorem d_CP_greatest_16 : decode b_CP_greatest 16 = .ok (.if_icmp .ge 17, 3) := by decide +kernel
theorem d_CP_greatest_19 : decode b_CP_greatest 19 = .ok (.iload_n 2, 1) := by decide +kernel
theorem d_CP_greatest_20 : decode b_CP_greatest 20 = .ok (.aload_n 0, 1) := by decide +kernel
theorem d_CP_greatest_21 : decode b_CP_greatest 21 = .ok (.iload_n 3, 1) := by decide +kernel
theorem d_CP_greatest_22 : decode b_CP_greatest 22 = .ok (.iaload, 1) := by decide +kernel
theorem d_CP_greatest_23 : decode b_CP_greatest 23 = .ok (.invokestatic 208, 3) := by decide +kernel
theorem d_CP_greatest_26 : decode b_CP_greatest 26 = .ok (.istore_n 2, 1) := by decide +kernel
theorem d_CP_greatest_27 : decode b_CP_greatest 27 = .ok (.iinc 3 1, 3) := by decide +kernel
theorem d_CP_greatest_30 : decode b_CP_greatest 30 = .ok (.goto (-16), 3) := by decide +kernel
theorem d_CP_greatest_33 : decode b_CP_greatest 33 = .ok (.iload_n 2, 1) := by decide +kernel
theorem d_CP_greatest_34 : decode b_CP_greatest 34 = .ok (.ireturn, 1) := by decide +kernel
theorem d_CP_turnRow_0 : decode b_CP_turnRow 0 = .ok (.iload_n 1, 1) := by decide +kernel
theorem d_CP_turnRow_1 : decode b_CP_turnRow 1 = .ok (.istore_n 3, 1) := by decide +kernel
theorem d_CP_turnRow_2 : decode b_CP_turnRow 2 = .ok (.iload_n 2, 1) := by decide +kernel
theorem d_CP_turnRow_3 : decode b_CP_turnRow 3 = .ok (.istore 4, 2) := by decide +kernel
theorem d_CP_turnRow_5 : decode b_CP_turnRow 5 = .ok (.iload_n 3, 1) := by decide +kernel
theorem d_CP_turnRow_6 : decode b_CP_turnRow 6 = .ok (.iload 4, 2) := by decide +kernel
theorem d_CP_turnRow_8 : decode b_CP_turnRow 8 = .ok (.if_icmp .ge 30, 3) := by decide +kernel
theorem d_CP_turnRow_11 : decode b_CP_turnRow 11 = .ok (.aload_n 0, 1) := by decide +kernel
theorem d_CP_turnRow_12 : decode b_CP_turnRow 12 = .ok (.iload_n 3, 1) := by decide +kernel
theorem d_CP_turnRow_13 : decode b_CP_turnRow 13 = .ok (.iaload, 1) := by decide +kernel
theorem d_CP_turnRow_14 : decode b_CP_turnRow 14 = .ok (.istore 5, 2) := by decide +kernel
theorem d_CP_turnRow_16 : decode b_CP_turnRow 16 = .ok (.aload_n 0, 1) := by decide +kernel
theorem d_CP_turnRow_17 : decode b_CP_turnRow 17 = .ok (.iload_n 3, 1) := by decide +kernel
theorem d_CP_turnRow_18 : decode b_CP_turnRow 18 = .ok (.aload_n 0, 1) := by decide +kernel
theorem d_CP_turnRow_19 : decode b_CP_turnRow 19 = .ok (.iload 4, 2) := by decide +kernel
theorem d_CP_turnRow_21 : decode b_CP_turnRow 21 = .ok (.iaload, 1) := by decide +kernel
theorem d_CP_turnRow_22 : decode b_CP_turnRow 22 = .ok (.iastore, 1) := by decide +kernel
theorem d_CP_turnRow_23 : decode b_CP_turnRow 23 = .ok (.aload_n 0, 1) := by decide +kernel
theorem d_CP_turnRow_24 : decode b_CP_turnRow 24 = .ok (.iload 4, 2) := by decide +kernel
theorem d_CP_turnRow_26 : decode b_CP_turnRow 26 = .ok (.iload 5, 2) := by decide +kernel
theorem d_CP_turnRow_28 : decode b_CP_turnRow 28 = .ok (.iastore, 1) := by decide +kernel
theorem d_CP_turnRow_29 : decode b_CP_turnRow 29 = .ok (.iinc 3 1, 3) := by decide +kernel
theorem d_CP_turnRow_32 : decode b_CP_turnRow 32 = .ok (.iinc 4 (-1), 3) := by decide +kernel
theorem d_CP_turnRow_35 : decode b_CP_turnRow 35 = .ok (.goto (-30), 3) := by decide +kernel
theorem d_CP_turnRow_38 : decode b_CP_turnRow 38 = .ok (.return_, 1) := by decide +kernel
theorem d_Axes_init_0 : decode b_Axes_init 0 = .ok (.aload_n 0, 1) := by decide +kernel
theorem d_Axes_init_1 : decode b_Axes_init 1 = .ok (.invokespecial 3, 3) := by decide +kernel
theorem d_Axes_init_4 : decode b_Axes_init 4 = .ok (.return_, 1) := by decide +kernel
theorem d_Axes_set_0 : decode b_Axes_set 0 = .ok (.aload_n 0, 1) := by decide +kernel
theorem d_Axes_set_1 : decode b_Axes_set 1 = .ok (.iload_n 1, 1) := by decide +kernel
theorem d_Axes_set_2 : decode b_Axes_set 2 = .ok (.i2l, 1) := by decide +kernel
theorem d_Axes_set_3 : decode b_Axes_set 3 = .ok (.putfield 9, 3) := by decide +kernel
theorem d_Axes_set_6 : decode b_Axes_set 6 = .ok (.aload_n 0, 1) := by decide +kernel
theorem d_Axes_set_7 : decode b_Axes_set 7 = .ok (.iload_n 2, 1) := by decide +kernel
theorem d_Axes_set_8 : decode b_Axes_set 8 = .ok (.i2l, 1) := by decide +kernel
theorem d_Axes_set_9 : decode b_Axes_set 9 = .ok (.putfield 15, 3) := by decide +kernel
theorem d_Axes_set_12 : decode b_Axes_set 12 = .ok (.aload_n 0, 1) := by decide +kernel
theorem d_Axes_set_13 : decode b_Axes_set 13 = .ok (.iload_n 3, 1) := by decide +kernel
theorem d_Axes_set_14 : decode b_Axes_set 14 = .ok (.i2l, 1) := by decide +kernel
theorem d_Axes_set_15 : decode b_Axes_set 15 = .ok (.putfield 18, 3) := by decide +kernel
theorem d_Axes_set_18 : decode b_Axes_set 18 = .ok (.aload_n 0, 1) := by decide +kernel
theorem d_Axes_set_19 : decode b_Axes_set 19 = .ok (.iload 4, 2) := by decide +kernel
theorem d_Axes_set_21 : decode b_Axes_set 21 = .ok (.i2l, 1) := by decide +kernel
theorem d_Axes_set_22 : decode b_Axes_set 22 = .ok (.putfield 21, 3) := by decide +kernel
theorem d_Axes_set_25 : decode b_Axes_set 25 = .ok (.return_, 1) := by decide +kernel
theorem d_Axes_alongX_0 : decode b_Axes_alongX 0 = .ok (.iload_n 1, 1) := by decide +kernel
theorem d_Axes_alongX_1 : decode b_Axes_alongX 1 = .ok (.i2l, 1) := by decide +kernel
theorem d_Axes_alongX_2 : decode b_Axes_alongX 2 = .ok (.aload_n 0, 1) := by decide +kernel
theorem d_Axes_alongX_3 : decode b_Axes_alongX 3 = .ok (.getfield 9, 3) := by decide +kernel
theorem d_Axes_alongX_6 : decode b_Axes_alongX 6 = .ok (.lmul, 1) := by decide +kernel
theorem d_Axes_alongX_7 : decode b_Axes_alongX 7 = .ok (.iload_n 2, 1) := by decide +kernel
theorem d_Axes_alongX_8 : decode b_Axes_alongX 8 = .ok (.i2l, 1) := by decide +kernel
theorem d_Axes_alongX_9 : decode b_Axes_alongX 9 = .ok (.aload_n 0, 1) := by decide +kernel
theorem d_Axes_alongX_10 : decode b_Axes_alongX 10 = .ok (.getfield 18, 3) := by decide +kernel
theorem d_Axes_alongX_13 : decode b_Axes_alongX 13 = .ok (.lmul, 1) := by decide +kernel
theorem d_Axes_alongX_14 : decode b_Axes_alongX 14 = .ok (.ladd, 1) := by decide +kernel
theorem d_Axes_alongX_15 : decode b_Axes_alongX 15 = .ok (.ldc2_w 24, 3) := by decide +kernel
theorem d_Axes_alongX_18 : decode b_Axes_alongX 18 = .ok (.ladd, 1) := by decide +kernel
theorem d_Axes_alongX_19 : decode b_Axes_alongX 19 = .ok (.bipush 16, 2) := by decide +kernel
theorem d_Axes_alongX_21 : decode b_Axes_alongX 21 = .ok (.lshr, 1) := by decide +kernel
theorem d_Axes_alongX_22 : decode b_Axes_alongX 22 = .ok (.lreturn, 1) := by decide +kernel
theorem d_Axes_alongY_0 : decode b_Axes_alongY 0 = .ok (.iload_n 1, 1) := by decide +kernel
theorem d_Axes_alongY_1 : decode b_Axes_alongY 1 = .ok (.i2l, 1) := by decide +kernel
theorem d_Axes_alongY_2 : decode b_Axes_alongY 2 = .ok (.aload_n 0, 1) := by decide +kernel
theorem d_Axes_alongY_3 : decode b_Axes_alongY 3 = .ok (.getfield 15, 3) := by decide +kernel
theorem d_Axes_alongY_6 : decode b_Axes_alongY 6 = .ok (.lmul, 1) := by decide +kernel
theorem d_Axes_alongY_7 : decode b_Axes_alongY 7 = .ok (.iload_n 2, 1) := by decide +kernel
theorem d_Axes_alongY_8 : decode b_Axes_alongY 8 = .ok (.i2l, 1) := by decide +kernel
theorem d_Axes_alongY_9 : decode b_Axes_alongY 9 = .ok (.aload_n 0, 1) := by decide +kernel
theorem d_Axes_alongY_10 : decode b_Axes_alongY 10 = .ok (.getfield 21, 3) := by decide +kernel
theorem d_Axes_alongY_13 : decode b_Axes_alongY 13 = .ok (.lmul, 1) := by decide +kernel
theorem d_Axes_alongY_14 : decode b_Axes_alongY 14 = .ok (.ladd, 1) := by decide +kernel
theorem d_Axes_alongY_15 : decode b_Axes_alongY 15 = .ok (.ldc2_w 24, 3) := by decide +kernel
theorem d_Axes_alongY_18 : decode b_Axes_alongY 18 = .ok (.ladd, 1) := by decide +kernel
theorem d_Axes_alongY_19 : decode b_Axes_alongY 19 = .ok (.bipush 16, 2) := by decide +kernel
theorem d_Axes_alongY_21 : decode b_Axes_alongY 21 = .ok (.lshr, 1) := by decide +kernel
theorem d_Axes_alongY_22 : decode b_Axes_alongY 22 = .ok (.lreturn, 1) := by decide +kernel
