theorem d_M_init_0 : decode b_M_init 0 = .ok (.aload_n 0, 1) := by decide +kernel
theorem d_M_init_1 : decode b_M_init 1 = .ok (.invokespecial 1, 3) := by decide +kernel
theorem d_M_init_4 : decode b_M_init 4 = .ok (.aload_n 0, 1) := by decide +kernel
theorem d_M_init_5 : decode b_M_init 5 = .ok (.new 7, 3) := by decide +kernel
theorem d_M_init_8 : decode b_M_init 8 = .ok (.dup, 1) := by decide +kernel
theorem d_M_init_9 : decode b_M_init 9 = .ok (.invokespecial 9, 3) := by decide +kernel
theorem d_M_init_12 : decode b_M_init 12 = .ok (.putfield 10, 3) := by decide +kernel
theorem d_M_init_15 : decode b_M_init 15 = .ok (.aload_n 0, 1) := by decide +kernel
theorem d_M_init_16 : decode b_M_init 16 = .ok (.new 7, 3) := by decide +kernel
theorem d_M_init_19 : decode b_M_init 19 = .ok (.dup, 1) := by decide +kernel
theorem d_M_init_20 : decode b_M_init 20 = .ok (.invokespecial 9, 3) := by decide +kernel
theorem d_M_init_23 : decode b_M_init 23 = .ok (.putfield 16, 3) := by decide +kernel
theorem d_M_init_26 : decode b_M_init 26 = .ok (.aload_n 0, 1) := by decide +kernel
theorem d_M_init_27 : decode b_M_init 27 = .ok (.iconst 4, 1) := by decide +kernel
theorem d_M_init_28 : decode b_M_init 28 = .ok (.newarray .long, 2) := by decide +kernel
theorem d_M_init_30 : decode b_M_init 30 = .ok (.putfield 19, 3) := by decide +kernel
theorem d_M_init_33 : decode b_M_init 33 = .ok (.aload_n 0, 1) := by decide +kernel
theorem d_M_init_34 : decode b_M_init 34 = .ok (.bipush 8, 2) := by decide +kernel
theorem d_M_init_36 : decode b_M_init 36 = .ok (.newarray .long, 2) := by decide +kernel
theorem d_M_init_38 : decode b_M_init 38 = .ok (.putfield 23, 3) := by decide +kernel
theorem d_M_init_41 : decode b_M_init 41 = .ok (.aload_n 0, 1) := by decide +kernel
theorem d_M_init_42 : decode b_M_init 42 = .ok (.bipush 8, 2) := by decide +kernel
theorem d_M_init_44 : decode b_M_init 44 = .ok (.newarray .long, 2) := by decide +kernel
theorem d_M_init_46 : decode b_M_init 46 = .ok (.putfield 26, 3) := by decide +kernel
theorem d_M_init_49 : decode b_M_init 49 = .ok (.aload_n 0, 1) := by decide +kernel
theorem d_M_init_50 : decode b_M_init 50 = .ok (.bipush 8, 2) := by decide +kernel
theorem d_M_init_52 : decode b_M_init 52 = .ok (.newarray .long, 2) := by decide +kernel
theorem d_M_init_54 : decode b_M_init 54 = .ok (.putfield 29, 3) := by decide +kernel
theorem d_M_init_57 : decode b_M_init 57 = .ok (.aload_n 0, 1) := by decide +kernel
theorem d_M_init_58 : decode b_M_init 58 = .ok (.bipush 8, 2) := by decide +kernel
theorem d_M_init_60 : decode b_M_init 60 = .ok (.newarray .long, 2) := by decide +kernel
theorem d_M_init_62 : decode b_M_init 62 = .ok (.putfield 32, 3) := by decide +kernel
theorem d_M_init_65 : decode b_M_init 65 = .ok (.return_, 1) := by decide +kernel
theorem d_M_settle_0 : decode b_M_settle 0 = .ok (.aload_n 0, 1) := by decide +kernel
theorem d_M_settle_1 : decode b_M_settle 1 = .ok (.getfield 16, 3) := by decide +kernel
theorem d_M_settle_4 : decode b_M_settle 4 = .ok (.getfield 35, 3) := by decide +kernel
theorem d_M_settle_7 : decode b_M_settle 7 = .ok (.ifCond .eq 6, 3) := by decide +kernel
theorem d_M_settle_10 : decode b_M_settle 10 = .ok (.bipush (-4), 2) := by decide +kernel
theorem d_M_settle_12 : decode b_M_settle 12 = .ok (.ireturn, 1) := by decide +kernel
theorem d_M_settle_13 : decode b_M_settle 13 = .ok (.aload_n 0, 1) := by decide +kernel
theorem d_M_settle_14 : decode b_M_settle 14 = .ok (.getfield 16, 3) := by decide +kernel
theorem d_M_settle_17 : decode b_M_settle 17 = .ok (.getfield 39, 3) := by decide +kernel
theorem d_M_settle_20 : decode b_M_settle 20 = .ok (.ifCond .eq 6, 3) := by decide +kernel
theorem d_M_settle_23 : decode b_M_settle 23 = .ok (.bipush (-3), 2) := by decide +kernel
theorem d_M_settle_25 : decode b_M_settle 25 = .ok (.ireturn, 1) := by decide +kernel
theorem d_M_settle_26 : decode b_M_settle 26 = .ok (.aload_n 0, 1) := by decide +kernel
theorem d_M_settle_27 : decode b_M_settle 27 = .ok (.getfield 10, 3) := by decide +kernel
theorem d_M_settle_30 : decode b_M_settle 30 = .ok (.astore_n 1, 1) := by decide +kernel
theorem d_M_settle_31 : decode b_M_settle 31 = .ok (.aload_n 0, 1) := by decide +kernel
theorem d_M_settle_32 : decode b_M_settle 32 = .ok (.aload_n 0, 1) := by decide +kernel
theorem d_M_settle_33 : decode b_M_settle 33 = .ok (.getfield 16, 3) := by decide +kernel
theorem d_M_settle_36 : decode b_M_settle 36 = .ok (.putfield 10, 3) := by decide +kernel
theorem d_M_settle_39 : decode b_M_settle 39 = .ok (.aload_n 0, 1) := by decide +kernel
theorem d_M_settle_40 : decode b_M_settle 40 = .ok (.aload_n 1, 1) := by decide +kernel
theorem d_M_settle_41 : decode b_M_settle 41 = .ok (.putfield 16, 3) := by decide +kernel
theorem d_M_settle_44 : decode b_M_settle 44 = .ok (.aload_n 0, 1) := by decide +kernel
theorem d_M_settle_45 : decode b_M_settle 45 = .ok (.getfield 10, 3) := by decide +kernel
theorem d_M_settle_48 : decode b_M_settle 48 = .ok (.getfield 42, 3) := by decide +kernel
theorem d_M_settle_51 : decode b_M_settle 51 = .ok (.ireturn, 1) := by decide +kernel
theorem d_M_isPoint_0 : decode b_M_isPoint 0 = .ok (.aload_n 0, 1) := by decide +kernel
theorem d_M_isPoint_1 : decode b_M_isPoint 1 = .ok (.getfield 10, 3) := by decide +kernel
theorem d_M_isPoint_4 : decode b_M_isPoint 4 = .ok (.getfield 42, 3) := by decide +kernel
theorem d_M_isPoint_7 : decode b_M_isPoint 7 = .ok (.ifCond .le 7, 3) := by decide +kernel
theorem d_M_isPoint_10 : decode b_M_isPoint 10 = .ok (.iconst 1, 1) := by decide +kernel
theorem d_M_isPoint_11 : decode b_M_isPoint 11 = .ok (.goto 4, 3) := by decide +kernel
theorem d_M_isPoint_14 : decode b_M_isPoint 14 = .ok (.iconst 0, 1) := by decide +kernel
theorem d_M_isPoint_15 : decode b_M_isPoint 15 = .ok (.ireturn, 1) := by decide +kernel
theorem d_M_point_0 : decode b_M_point 0 = .ok (.aload_n 0, 1) := by decide +kernel
theorem d_M_point_1 : decode b_M_point 1 = .ok (.getfield 10, 3) := by decide +kernel
theorem d_M_point_4 : decode b_M_point 4 = .ok (.getfield 42, 3) := by decide +kernel
theorem d_M_point_7 : decode b_M_point 7 = .ok (.ifCond .le 32, 3) := by decide +kernel
theorem d_M_point_10 : decode b_M_point 10 = .ok (.iload_n 1, 1) := by decide +kernel
theorem d_M_point_11 : decode b_M_point 11 = .ok (.ifCond .eq 8, 3) := by decide +kernel
theorem d_M_point_14 : decode b_M_point 14 = .ok (.iload_n 1, 1) := by decide +kernel
theorem d_M_point_15 : decode b_M_point 15 = .ok (.iconst 1, 1) := by decide +kernel
theorem d_M_point_16 : decode b_M_point 16 = .ok (.if_icmp .ne 23, 3) := by decide +kernel
theorem d_M_point_19 : decode b_M_point 19 = .ok (.aload_n 0, 1) := by decide +kernel
theorem d_M_point_20 : decode b_M_point 20 = .ok (.getfield 10, 3) := by decide +kernel
theorem d_M_point_23 : decode b_M_point 23 = .ok (.aload_n 0, 1) := by decide +kernel
theorem d_M_point_24 : decode b_M_point 24 = .ok (.getfield 10, 3) := by decide +kernel
theorem d_M_point_27 : decode b_M_point 27 = .ok (.getfield 42, 3) := by decide +kernel
theorem d_M_point_30 : decode b_M_point 30 = .ok (.iconst 1, 1) := by decide +kernel
theorem d_M_point_31 : decode b_M_point 31 = .ok (.isub, 1) := by decide +kernel
theorem d_M_point_32 : decode b_M_point 32 = .ok (.iload_n 1, 1) := by decide +kernel
theorem d_M_point_33 : decode b_M_point 33 = .ok (.invokevirtual 46, 3) := by decide +kernel
theorem d_M_point_36 : decode b_M_point 36 = .ok (.goto 4, 3) := by decide +kernel
theorem d_M_point_39 : decode b_M_point 39 = .ok (.iconst 0, 1) := by decide +kernel
theorem d_M_point_40 : decode b_M_point 40 = .ok (.ireturn, 1) := by decide +kernel
theorem d_M_move_0 : decode b_M_move 0 = .ok (.aload_n 0, 1) := by decide +kernel
theorem d_M_move_1 : decode b_M_move 1 = .ok (.getfield 16, 3) := by decide +kernel
theorem d_M_move_4 : decode b_M_move 4 = .ok (.aload_n 0, 1) := by decide +kernel
theorem d_M_move_5 : decode b_M_move 5 = .ok (.getfield 10, 3) := by decide +kernel
theorem d_M_move_8 : decode b_M_move 8 = .ok (.invokevirtual 50, 3) := by decide +kernel
theorem d_M_move_11 : decode b_M_move 11 = .ok (.aload_n 0, 1) := by decide +kernel
theorem d_M_move_12 : decode b_M_move 12 = .ok (.getfield 16, 3) := by decide +kernel
theorem d_M_move_15 : decode b_M_move 15 = .ok (.iload_n 1, 1) := by decide +kernel
theorem d_M_move_16 : decode b_M_move 16 = .ok (.i2l, 1) := by decide +kernel
theorem d_M_move_17 : decode b_M_move 17 = .ok (.iload_n 2, 1) := by decide +kernel
theorem d_M_move_18 : decode b_M_move 18 = .ok (.i2l, 1) := by decide +kernel
theorem d_M_move_19 : decode b_M_move 19 = .ok (.invokevirtual 54, 3) := by decide +kernel
theorem d_M_move_22 : decode b_M_move 22 = .ok (.aload_n 0, 1) := by decide +kernel
theorem d_M_move_23 : decode b_M_move 23 = .ok (.invokevirtual 58, 3) := by decide +kernel
theorem d_M_move_26 : decode b_M_move 26 = .ok (.ireturn, 1) := by decide +kernel
theorem d_M_line_0 : decode b_M_line 0 = .ok (.aload_n 0, 1) := by decide +kernel
theorem d_M_line_1 : decode b_M_line 1 = .ok (.invokevirtual 62, 3) := by decide +kernel
theorem d_M_line_4 : decode b_M_line 4 = .ok (.ifCond .ne 6, 3) := by decide +kernel
theorem d_M_line_7 : decode b_M_line 7 = .ok (.bipush (-2), 2) := by decide +kernel
theorem d_M_line_9 : decode b_M_line 9 = .ok (.ireturn, 1) := by decide +kernel
theorem d_M_line_10 : decode b_M_line 10 = .ok (.aload_n 0, 1) := by decide +kernel
theorem d_M_line_11 : decode b_M_line 11 = .ok (.getfield 16, 3) := by decide +kernel
theorem d_M_line_14 : decode b_M_line 14 = .ok (.aload_n 0, 1) := by decide +kernel
theorem d_M_line_15 : decode b_M_line 15 = .ok (.getfield 10, 3) := by decide +kernel
theorem d_M_line_18 : decode b_M_line 18 = .ok (.invokevirtual 50, 3) := by decide +kernel
theorem d_M_line_21 : decode b_M_line 21 = .ok (.aload_n 0, 1) := by decide +kernel
theorem d_M_line_22 : decode b_M_line 22 = .ok (.getfield 16, 3) := by decide +kernel
theorem d_M_line_25 : decode b_M_line 25 = .ok (.invokevirtual 66, 3) := by decide +kernel
theorem d_M_line_28 : decode b_M_line 28 = .ok (.aload_n 0, 1) := by decide +kernel
theorem d_M_line_29 : decode b_M_line 29 = .ok (.getfield 16, 3) := by decide +kernel
theorem d_M_line_32 : decode b_M_line 32 = .ok (.iconst 1, 1) := by decide +kernel
theorem d_M_line_33 : decode b_M_line 33 = .ok (.iload_n 1, 1) := by decide +kernel
theorem d_M_line_34 : decode b_M_line 34 = .ok (.i2l, 1) := by decide +kernel
theorem d_M_line_35 : decode b_M_line 35 = .ok (.iload_n 2, 1) := by decide +kernel
theorem d_M_line_36 : decode b_M_line 36 = .ok (.i2l, 1) := by decide +kernel
theorem d_M_line_37 : decode b_M_line 37 = .ok (.invokevirtual 69, 3) := by decide +kernel
theorem d_M_line_40 : decode b_M_line 40 = .ok (.aload_n 0, 1) := by decide +kernel
theorem d_M_line_41 : decode b_M_line 41 = .ok (.invokevirtual 58, 3) := by decide +kernel
theorem d_M_line_44 : decode b_M_line 44 = .ok (.ireturn, 1) := by decide +kernel
theorem d_M_curve_0 : decode b_M_curve 0 = .ok (.aload_n 0, 1) := by decide +kernel
theorem d_M_curve_1 : decode b_M_curve 1 = .ok (.invokevirtual 62, 3) := by decide +kernel
theorem d_M_curve_4 : decode b_M_curve 4 = .ok (.ifCond .ne 6, 3) := by decide +kernel
theorem d_M_curve_7 : decode b_M_curve 7 = .ok (.bipush (-2), 2) := by decide +kernel
theorem d_M_curve_9 : decode b_M_curve 9 = .ok (.ireturn, 1) := by decide +kernel
theorem d_M_curve_10 : decode b_M_curve 10 = .ok (.aload_n 0, 1) := by decide +kernel
theorem d_M_curve_11 : decode b_M_curve 11 = .ok (.getfield 16, 3) := by decide +kernel
theorem d_M_curve_14 : decode b_M_curve 14 = .ok (.aload_n 0, 1) := by decide +kernel
theorem d_M_curve_15 : decode b_M_curve 15 = .ok (.getfield 10, 3) := by decide +kernel
theorem d_M_curve_18 : decode b_M_curve 18 = .ok (.invokevirtual 50, 3) := by decide +kernel
theorem d_M_curve_21 : decode b_M_curve 21 = .ok (.aload_n 0, 1) := by decide +kernel
theorem d_M_curve_22 : decode b_M_curve 22 = .ok (.getfield 16, 3) := by decide +kernel
theorem d_M_curve_25 : decode b_M_curve 25 = .ok (.invokevirtual 66, 3) := by decide +kernel
theorem d_M_curve_28 : decode b_M_curve 28 = .ok (.aload_n 0, 1) := by decide +kernel
theorem d_M_curve_29 : decode b_M_curve 29 = .ok (.getfield 16, 3) := by decide +kernel
theorem d_M_curve_32 : decode b_M_curve 32 = .ok (.iconst 2, 1) := by decide +kernel
theorem d_M_curve_33 : decode b_M_curve 33 = .ok (.iload 5, 2) := by decide +kernel
theorem d_M_curve_35 : decode b_M_curve 35 = .ok (.i2l, 1) := by decide +kernel
theorem d_M_curve_36 : decode b_M_curve 36 = .ok (.iload 6, 2) := by decide +kernel
theorem d_M_curve_38 : decode b_M_curve 38 = .ok (.i2l, 1) := by decide +kernel
theorem d_M_curve_39 : decode b_M_curve 39 = .ok (.iload_n 1, 1) := by decide +kernel
theorem d_M_curve_40 : decode b_M_curve 40 = .ok (.i2l, 1) := by decide +kernel
theorem d_M_curve_41 : decode b_M_curve 41 = .ok (.iload_n 2, 1) := by decide +kernel
theorem d_M_curve_42 : decode b_M_curve 42 = .ok (.i2l, 1) := by decide +kernel
theorem d_M_curve_43 : decode b_M_curve 43 = .ok (.iload_n 3, 1) := by decide +kernel
theorem d_M_curve_44 : decode b_M_curve 44 = .ok (.i2l, 1) := by decide +kernel
theorem d_M_curve_45 : decode b_M_curve 45 = .ok (.iload 4, 2) := by decide +kernel
theorem d_M_curve_47 : decode b_M_curve 47 = .ok (.i2l, 1) := by decide +kernel
theorem d_M_curve_48 : decode b_M_curve 48 = .ok (.invokevirtual 73, 3) := by decide +kernel
theorem d_M_curve_51 : decode b_M_curve 51 = .ok (.aload_n 0, 1) := by decide +kernel
theorem d_M_curve_52 : decode b_M_curve 52 = .ok (.invokevirtual 58, 3) := by decide +kernel
theorem d_M_curve_55 : decode b_M_curve 55 = .ok (.ireturn, 1) := by decide +kernel
theorem d_M_close_0 : decode b_M_close 0 = .ok (.aload_n 0, 1) := by decide +kernel
theorem d_M_close_1 : decode b_M_close 1 = .ok (.getfield 10, 3) := by decide +kernel
theorem d_M_close_4 : decode b_M_close 4 = .ok (.getfield 42, 3) := by decide +kernel
theorem d_M_close_7 : decode b_M_close 7 = .ok (.ifCond .eq 24, 3) := by decide +kernel
theorem d_M_close_10 : decode b_M_close 10 = .ok (.aload_n 0, 1) := by decide +kernel
theorem d_M_close_11 : decode b_M_close 11 = .ok (.getfield 10, 3) := by decide +kernel
theorem d_M_close_14 : decode b_M_close 14 = .ok (.getfield 77, 3) := by decide +kernel
theorem d_M_close_17 : decode b_M_close 17 = .ok (.aload_n 0, 1) := by decide +kernel
theorem d_M_close_18 : decode b_M_close 18 = .ok (.getfield 10, 3) := by decide +kernel
theorem d_M_close_21 : decode b_M_close 21 = .ok (.getfield 42, 3) := by decide +kernel
theorem d_M_close_24 : decode b_M_close 24 = .ok (.iconst 1, 1) := by decide +kernel
theorem d_M_close_25 : decode b_M_close 25 = .ok (.isub, 1) := by decide +kernel
theorem d_M_close_26 : decode b_M_close 26 = .ok (.baload, 1) := by decide +kernel
theorem d_M_close_27 : decode b_M_close 27 = .ok (.iconst 3, 1) := by decide +kernel
theorem d_M_close_28 : decode b_M_close 28 = .ok (.if_icmp .ne 11, 3) := by decide +kernel
theorem d_M_close_31 : decode b_M_close 31 = .ok (.aload_n 0, 1) := by decide +kernel
theorem d_M_close_32 : decode b_M_close 32 = .ok (.getfield 10, 3) := by decide +kernel
theorem d_M_close_35 : decode b_M_close 35 = .ok (.getfield 42, 3) := by decide +kernel
theorem d_M_close_38 : decode b_M_close 38 = .ok (.ireturn, 1) := by decide +kernel
theorem d_M_close_39 : decode b_M_close 39 = .ok (.aload_n 0, 1) := by decide +kernel
theorem d_M_close_40 : decode b_M_close 40 = .ok (.getfield 16, 3) := by decide +kernel
theorem d_M_close_43 : decode b_M_close 43 = .ok (.aload_n 0, 1) := by decide +kernel
theorem d_M_close_44 : decode b_M_close 44 = .ok (.getfield 10, 3) := by decide +kernel
theorem d_M_close_47 : decode b_M_close 47 = .ok (.invokevirtual 50, 3) := by decide +kernel
theorem d_M_close_50 : decode b_M_close 50 = .ok (.aload_n 0, 1) := by decide +kernel
theorem d_M_close_51 : decode b_M_close 51 = .ok (.getfield 10, 3) := by decide +kernel
theorem d_M_close_54 : decode b_M_close 54 = .ok (.aload_n 0, 1) := by decide +kernel
theorem d_M_close_55 : decode b_M_close 55 = .ok (.getfield 10, 3) := by decide +kernel
theorem d_M_close_58 : decode b_M_close 58 = .ok (.getfield 42, 3) := by decide +kernel
theorem d_M_close_61 : decode b_M_close 61 = .ok (.iconst 1, 1) := by decide +kernel
theorem d_M_close_62 : decode b_M_close 62 = .ok (.isub, 1) := by decide +kernel
theorem d_M_close_63 : decode b_M_close 63 = .ok (.invokevirtual 81, 3) := by decide +kernel
theorem d_M_close_66 : decode b_M_close 66 = .ok (.istore_n 1, 1) := by decide +kernel
theorem d_M_close_67 : decode b_M_close 67 = .ok (.aload_n 0, 1) := by decide +kernel
theorem d_M_close_68 : decode b_M_close 68 = .ok (.getfield 16, 3) := by decide +kernel
theorem d_M_close_71 : decode b_M_close 71 = .ok (.iconst 3, 1) := by decide +kernel
theorem d_M_close_72 : decode b_M_close 72 = .ok (.aload_n 0, 1) := by decide +kernel
theorem d_M_close_73 : decode b_M_close 73 = .ok (.getfield 10, 3) := by decide +kernel
theorem d_M_close_76 : decode b_M_close 76 = .ok (.iload_n 1, 1) := by decide +kernel
theorem d_M_close_77 : decode b_M_close 77 = .ok (.iconst 0, 1) := by decide +kernel
theorem d_M_close_78 : decode b_M_close 78 = .ok (.invokevirtual 46, 3) := by decide +kernel
theorem d_M_close_81 : decode b_M_close 81 = .ok (.i2l, 1) := by decide +kernel
theorem d_M_close_82 : decode b_M_close 82 = .ok (.aload_n 0, 1) := by decide +kernel
theorem d_M_close_83 : decode b_M_close 83 = .ok (.getfield 10, 3) := by decide +kernel
theorem d_M_close_86 : decode b_M_close 86 = .ok (.iload_n 1, 1) := by decide +kernel
theorem d_M_close_87 : decode b_M_close 87 = .ok (.iconst 1, 1) := by decide +kernel
theorem d_M_close_88 : decode b_M_close 88 = .ok (.invokevirtual 46, 3) := by decide +kernel
theorem d_M_close_91 : decode b_M_close 91 = .ok (.i2l, 1) := by decide +kernel
theorem d_M_close_92 : decode b_M_close 92 = .ok (.invokevirtual 69, 3) := by decide +kernel
theorem d_M_close_95 : decode b_M_close 95 = .ok (.aload_n 0, 1) := by decide +kernel
theorem d_M_close_96 : decode b_M_close 96 = .ok (.invokevirtual 58, 3) := by decide +kernel
theorem d_M_close_99 : decode b_M_close 99 = .ok (.ireturn, 1) := by decide +kernel
theorem d_M_clear_0 : decode b_M_clear 0 = .ok (.aload_n 0, 1) := by decide +kernel
theorem d_M_clear_1 : decode b_M_clear 1 = .ok (.getfield 10, 3) := by decide +kernel
theorem d_M_clear_4 : decode b_M_clear 4 = .ok (.getfield 42, 3) := by decide +kernel
theorem d_M_clear_7 : decode b_M_clear 7 = .ok (.istore_n 1, 1) := by decide +kernel
theorem d_M_clear_8 : decode b_M_clear 8 = .ok (.aload_n 0, 1) := by decide +kernel
theorem d_M_clear_9 : decode b_M_clear 9 = .ok (.getfield 10, 3) := by decide +kernel
theorem d_M_clear_12 : decode b_M_clear 12 = .ok (.invokevirtual 85, 3) := by decide +kernel
theorem d_M_clear_15 : decode b_M_clear 15 = .ok (.iload_n 1, 1) := by decide +kernel
theorem d_M_clear_16 : decode b_M_clear 16 = .ok (.ireturn, 1) := by decide +kernel
theorem d_M_axes_0 : decode b_M_axes 0 = .ok (.iload_n 1, 1) := by decide +kernel
theorem d_M_axes_1 : decode b_M_axes 1 = .ok (.i2l, 1) := by decide +kernel
theorem d_M_axes_2 : decode b_M_axes 2 = .ok (.invokestatic 88, 3) := by decide +kernel
theorem d_M_axes_5 : decode b_M_axes 5 = .ok (.ifCond .ne 28, 3) := by decide +kernel
theorem d_M_axes_8 : decode b_M_axes 8 = .ok (.iload_n 2, 1) := by decide +kernel
theorem d_M_axes_9 : decode b_M_axes 9 = .ok (.i2l, 1) := by decide +kernel
theorem d_M_axes_10 : decode b_M_axes 10 = .ok (.invokestatic 88, 3) := by decide +kernel
theorem d_M_axes_13 : decode b_M_axes 13 = .ok (.ifCond .ne 20, 3) := by decide +kernel
theorem d_M_axes_16 : decode b_M_axes 16 = .ok (.iload_n 3, 1) := by decide +kernel
theorem d_M_axes_17 : decode b_M_axes 17 = .ok (.i2l, 1) := by decide +kernel
theorem d_M_axes_18 : decode b_M_axes 18 = .ok (.invokestatic 88, 3) := by decide +kernel
theorem d_M_axes_21 : decode b_M_axes 21 = .ok (.ifCond .ne 12, 3) := by decide +kernel
theorem d_M_axes_24 : decode b_M_axes 24 = .ok (.iload 4, 2) := by decide +kernel
theorem d_M_axes_26 : decode b_M_axes 26 = .ok (.i2l, 1) := by decide +kernel
theorem d_M_axes_27 : decode b_M_axes 27 = .ok (.invokestatic 88, 3) := by decide +kernel
theorem d_M_axes_30 : decode b_M_axes 30 = .ok (.ifCond .eq 5, 3) := by decide +kernel
theorem d_M_axes_33 : decode b_M_axes 33 = .ok (.iconst 0, 1) := by decide +kernel
theorem d_M_axes_34 : decode b_M_axes 34 = .ok (.ireturn, 1) := by decide +kernel
theorem d_M_axes_35 : decode b_M_axes 35 = .ok (.aload_n 0, 1) := by decide +kernel
theorem d_M_axes_36 : decode b_M_axes 36 = .ok (.getfield 19, 3) := by decide +kernel
theorem d_M_axes_39 : decode b_M_axes 39 = .ok (.iconst 0, 1) := by decide +kernel
theorem d_M_axes_40 : decode b_M_axes 40 = .ok (.iload_n 1, 1) := by decide +kernel
theorem d_M_axes_41 : decode b_M_axes 41 = .ok (.i2l, 1) := by decide +kernel
theorem d_M_axes_42 : decode b_M_axes 42 = .ok (.lastore, 1) := by decide +kernel
theorem d_M_axes_43 : decode b_M_axes 43 = .ok (.aload_n 0, 1) := by decide +kernel
theorem d_M_axes_44 : decode b_M_axes 44 = .ok (.getfield 19, 3) := by decide +kernel
theorem d_M_axes_47 : decode b_M_axes 47 = .ok (.iconst 1, 1) := by decide +kernel
theorem d_M_axes_48 : decode b_M_axes 48 = .ok (.iload_n 2, 1) := by decide +kernel
theorem d_M_axes_49 : decode b_M_axes 49 = .ok (.i2l, 1) := by decide +kernel
theorem d_M_axes_50 : decode b_M_axes 50 = .ok (.lastore, 1) := by decide +kernel
theorem d_M_axes_51 : decode b_M_axes 51 = .ok (.aload_n 0, 1) := by decide +kernel
theorem d_M_axes_52 : decode b_M_axes 52 = .ok (.getfield 19, 3) := by decide +kernel
theorem d_M_axes_55 : decode b_M_axes 55 = .ok (.iconst 2, 1) := by decide +kernel
theorem d_M_axes_56 : decode b_M_axes 56 = .ok (.iload_n 3, 1) := by decide +kernel
theorem d_M_axes_57 : decode b_M_axes 57 = .ok (.i2l, 1) := by decide +kernel
theorem d_M_axes_58 : decode b_M_axes 58 = .ok (.lastore, 1) := by decide +kernel
theorem d_M_axes_59 : decode b_M_axes 59 = .ok (.aload_n 0, 1) := by decide +kernel
theorem d_M_axes_60 : decode b_M_axes 60 = .ok (.getfield 19, 3) := by decide +kernel
theorem d_M_axes_63 : decode b_M_axes 63 = .ok (.iconst 3, 1) := by decide +kernel
theorem d_M_axes_64 : decode b_M_axes 64 = .ok (.iload 4, 2) := by decide +kernel
theorem d_M_axes_66 : decode b_M_axes 66 = .ok (.i2l, 1) := by decide +kernel
theorem d_M_axes_67 : decode b_M_axes 67 = .ok (.lastore, 1) := by decide +kernel
theorem d_M_axes_68 : decode b_M_axes 68 = .ok (.iconst 1, 1) := by decide +kernel
theorem d_M_axes_69 : decode b_M_axes 69 = .ok (.ireturn, 1) := by decide +kernel
theorem d_M_placeOf_0 : decode b_M_placeOf 0 = .ok (.lload_n 0, 1) := by decide +kernel
theorem d_M_placeOf_1 : decode b_M_placeOf 1 = .ok (.ldc2_w 92, 3) := by decide +kernel
theorem d_M_placeOf_4 : decode b_M_placeOf 4 = .ok (.invokestatic 94, 3) := by decide +kernel
theorem d_M_placeOf_7 : decode b_M_placeOf 7 = .ok (.ldc2_w 100, 3) := by decide +kernel
theorem d_M_placeOf_10 : decode b_M_placeOf 10 = .ok (.ladd, 1) := by decide +kernel
theorem d_M_placeOf_11 : decode b_M_placeOf 11 = .ok (.ldc2_w 102, 3) := by decide +kernel
theorem d_M_placeOf_14 : decode b_M_placeOf 14 = .ok (.invokestatic 104, 3) := by decide +kernel
theorem d_M_placeOf_17 : decode b_M_placeOf 17 = .ok (.lreturn, 1) := by decide +kernel
theorem d_M_quarter_0 : decode b_M_quarter 0 = .ok (.aload_n 0, 1) := by decide +kernel
theorem d_M_quarter_1 : decode b_M_quarter 1 = .ok (.getfield 23, 3) := by decide +kernel
theorem d_M_quarter_4 : decode b_M_quarter 4 = .ok (.iconst 0, 1) := by decide +kernel
theorem d_M_quarter_5 : decode b_M_quarter 5 = .ok (.ldc2_w 107, 3) := by decide +kernel
theorem d_M_quarter_8 : decode b_M_quarter 8 = .ok (.lastore, 1) := by decide +kernel
theorem d_M_quarter_9 : decode b_M_quarter 9 = .ok (.aload_n 0, 1) := by decide +kernel
theorem d_M_quarter_10 : decode b_M_quarter 10 = .ok (.getfield 23, 3) := by decide +kernel
theorem d_M_quarter_13 : decode b_M_quarter 13 = .ok (.iconst 1, 1) := by decide +kernel
theorem d_M_quarter_14 : decode b_M_quarter 14 = .ok (.lconst 0, 1) := by decide +kernel
theorem d_M_quarter_15 : decode b_M_quarter 15 = .ok (.lastore, 1) := by decide +kernel
theorem d_M_quarter_16 : decode b_M_quarter 16 = .ok (.aload_n 0, 1) := by decide +kernel
theorem d_M_quarter_17 : decode b_M_quarter 17 = .ok (.getfield 23, 3) := by decide +kernel
theorem d_M_quarter_20 : decode b_M_quarter 20 = .ok (.iconst 2, 1) := by decide +kernel
theorem d_M_quarter_21 : decode b_M_quarter 21 = .ok (.ldc2_w 107, 3) := by decide +kernel
theorem d_M_quarter_24 : decode b_M_quarter 24 = .ok (.lastore, 1) := by decide +kernel
theorem d_M_quarter_25 : decode b_M_quarter 25 = .ok (.aload_n 0, 1) := by decide +kernel
theorem d_M_quarter_26 : decode b_M_quarter 26 = .ok (.getfield 23, 3) := by decide +kernel
theorem d_M_quarter_29 : decode b_M_quarter 29 = .ok (.iconst 3, 1) := by decide +kernel
theorem d_M_quarter_30 : decode b_M_quarter 30 = .ok (.ldc2_w 109, 3) := by decide +kernel
theorem d_M_quarter_33 : decode b_M_quarter 33 = .ok (.lastore, 1) := by decide +kernel
theorem d_M_quarter_34 : decode b_M_quarter 34 = .ok (.aload_n 0, 1) := by decide +kernel
theorem d_M_quarter_35 : decode b_M_quarter 35 = .ok (.getfield 23, 3) := by decide +kernel
theorem d_M_quarter_38 : decode b_M_quarter 38 = .ok (.iconst 4, 1) := by decide +kernel
theorem d_M_quarter_39 : decode b_M_quarter 39 = .ok (.ldc2_w 109, 3) := by decide +kernel
theorem d_M_quarter_42 : decode b_M_quarter 42 = .ok (.lastore, 1) := by decide +kernel
theorem d_M_quarter_43 : decode b_M_quarter 43 = .ok (.aload_n 0, 1) := by decide +kernel
theorem d_M_quarter_44 : decode b_M_quarter 44 = .ok (.getfield 23, 3) := by decide +kernel
theorem d_M_quarter_47 : decode b_M_quarter 47 = .ok (.iconst 5, 1) := by decide +kernel
theorem d_M_quarter_48 : decode b_M_quarter 48 = .ok (.ldc2_w 107, 3) := by decide +kernel
theorem d_M_quarter_51 : decode b_M_quarter 51 = .ok (.lastore, 1) := by decide +kernel
theorem d_M_quarter_52 : decode b_M_quarter 52 = .ok (.aload_n 0, 1) := by decide +kernel
theorem d_M_quarter_53 : decode b_M_quarter 53 = .ok (.getfield 23, 3) := by decide +kernel
theorem d_M_quarter_56 : decode b_M_quarter 56 = .ok (.bipush 6, 2) := by decide +kernel
theorem d_M_quarter_58 : decode b_M_quarter 58 = .ok (.lconst 0, 1) := by decide +kernel
theorem d_M_quarter_59 : decode b_M_quarter 59 = .ok (.lastore, 1) := by decide +kernel
theorem d_M_quarter_60 : decode b_M_quarter 60 = .ok (.aload_n 0, 1) := by decide +kernel
theorem d_M_quarter_61 : decode b_M_quarter 61 = .ok (.getfield 23, 3) := by decide +kernel
theorem d_M_quarter_64 : decode b_M_quarter 64 = .ok (.bipush 7, 2) := by decide +kernel
theorem d_M_quarter_66 : decode b_M_quarter 66 = .ok (.ldc2_w 107, 3) := by decide +kernel
theorem d_M_quarter_69 : decode b_M_quarter 69 = .ok (.lastore, 1) := by decide +kernel
theorem d_M_quarter_70 : decode b_M_quarter 70 = .ok (.iconst 0, 1) := by decide +kernel
theorem d_M_quarter_71 : decode b_M_quarter 71 = .ok (.istore_n 3, 1) := by decide +kernel
theorem d_M_quarter_72 : decode b_M_quarter 72 = .ok (.iload_n 3, 1) := by decide +kernel
theorem d_M_quarter_73 : decode b_M_quarter 73 = .ok (.i2l, 1) := by decide +kernel
theorem d_M_quarter_74 : decode b_M_quarter 74 = .ok (.lload_n 1, 1) := by decide +kernel
theorem d_M_quarter_75 : decode b_M_quarter 75 = .ok (.ldc2_w 111, 3) := by decide +kernel
theorem d_M_quarter_78 : decode b_M_quarter 78 = .ok (.invokestatic 94, 3) := by decide +kernel
theorem d_M_quarter_81 : decode b_M_quarter 81 = .ok (.lcmp, 1) := by decide +kernel
theorem d_M_quarter_82 : decode b_M_quarter 82 = .ok (.ifCond .ge 62, 3) := by decide +kernel
theorem d_M_quarter_85 : decode b_M_quarter 85 = .ok (.iconst 0, 1) := by decide +kernel
theorem d_M_quarter_86 : decode b_M_quarter 86 = .ok (.istore 4, 2) := by decide +kernel
theorem d_M_quarter_88 : decode b_M_quarter 88 = .ok (.iload 4, 2) := by decide +kernel
theorem d_M_quarter_90 : decode b_M_quarter 90 = .ok (.bipush 8, 2) := by decide +kernel
theorem d_M_quarter_92 : decode b_M_quarter 92 = .ok (.if_icmp .ge 46, 3) := by decide +kernel
theorem d_M_quarter_95 : decode b_M_quarter 95 = .ok (.aload_n 0, 1) := by decide +kernel
theorem d_M_quarter_96 : decode b_M_quarter 96 = .ok (.getfield 23, 3) := by decide +kernel
theorem d_M_quarter_99 : decode b_M_quarter 99 = .ok (.iload 4, 2) := by decide +kernel
theorem d_M_quarter_101 : decode b_M_quarter 101 = .ok (.laload, 1) := by decide +kernel
theorem d_M_quarter_102 : decode b_M_quarter 102 = .ok (.lstore 5, 2) := by decide +kernel
theorem d_M_quarter_104 : decode b_M_quarter 104 = .ok (.aload_n 0, 1) := by decide +kernel
theorem d_M_quarter_105 : decode b_M_quarter 105 = .ok (.getfield 23, 3) := by decide +kernel
theorem d_M_quarter_108 : decode b_M_quarter 108 = .ok (.iload 4, 2) := by decide +kernel
theorem d_M_quarter_110 : decode b_M_quarter 110 = .ok (.aload_n 0, 1) := by decide +kernel
theorem d_M_quarter_111 : decode b_M_quarter 111 = .ok (.getfield 23, 3) := by decide +kernel
theorem d_M_quarter_114 : decode b_M_quarter 114 = .ok (.iload 4, 2) := by decide +kernel
theorem d_M_quarter_116 : decode b_M_quarter 116 = .ok (.iconst 1, 1) := by decide +kernel
theorem d_M_quarter_117 : decode b_M_quarter 117 = .ok (.iadd, 1) := by decide +kernel
theorem d_M_quarter_118 : decode b_M_quarter 118 = .ok (.laload, 1) := by decide +kernel
theorem d_M_quarter_119 : decode b_M_quarter 119 = .ok (.lneg, 1) := by decide +kernel
theorem d_M_quarter_120 : decode b_M_quarter 120 = .ok (.lastore, 1) := by decide +kernel
theorem d_M_quarter_121 : decode b_M_quarter 121 = .ok (.aload_n 0, 1) := by decide +kernel
theorem d_M_quarter_122 : decode b_M_quarter 122 = .ok (.getfield 23, 3) := by decide +kernel
theorem d_M_quarter_125 : decode b_M_quarter 125 = .ok (.iload 4, 2) := by decide +kernel
theorem d_M_quarter_127 : decode b_M_quarter 127 = .ok (.iconst 1, 1) := by decide +kernel
theorem d_M_quarter_128 : decode b_M_quarter 128 = .ok (.iadd, 1) := by decide +kernel
theorem d_M_quarter_129 : decode b_M_quarter 129 = .ok (.lload 5, 2) := by decide +kernel
theorem d_M_quarter_131 : decode b_M_quarter 131 = .ok (.lastore, 1) := by decide +kernel
theorem d_M_quarter_132 : decode b_M_quarter 132 = .ok (.iinc 4 2, 3) := by decide +kernel
theorem d_M_quarter_135 : decode b_M_quarter 135 = .ok (.goto (-47), 3) := by decide +kernel
theorem d_M_quarter_138 : decode b_M_quarter 138 = .ok (.iinc 3 1, 3) := by decide +kernel
theorem d_M_quarter_141 : decode b_M_quarter 141 = .ok (.goto (-69), 3) := by decide +kernel
theorem d_M_quarter_144 : decode b_M_quarter 144 = .ok (.return_, 1) := by decide +kernel
theorem d_M_mix_0 : decode b_M_mix 0 = .ok (.lload_n 0, 1) := by decide +kernel
theorem d_M_mix_1 : decode b_M_mix 1 = .ok (.lload_n 2, 1) := by decide +kernel
theorem d_M_mix_2 : decode b_M_mix 2 = .ok (.lload_n 0, 1) := by decide +kernel
theorem d_M_mix_3 : decode b_M_mix 3 = .ok (.lsub, 1) := by decide +kernel
theorem d_M_mix_4 : decode b_M_mix 4 = .ok (.lload 4, 2) := by decide +kernel
theorem d_M_mix_6 : decode b_M_mix 6 = .ok (.lmul, 1) := by decide +kernel
theorem d_M_mix_7 : decode b_M_mix 7 = .ok (.ldc2_w 113, 3) := by decide +kernel
theorem d_M_mix_10 : decode b_M_mix 10 = .ok (.ladd, 1) := by decide +kernel
theorem d_M_mix_11 : decode b_M_mix 11 = .ok (.ldc2_w 107, 3) := by decide +kernel
theorem d_M_mix_14 : decode b_M_mix 14 = .ok (.invokestatic 104, 3) := by decide +kernel
theorem d_M_mix_17 : decode b_M_mix 17 = .ok (.ladd, 1) := by decide +kernel
theorem d_M_mix_18 : decode b_M_mix 18 = .ok (.lreturn, 1) := by decide +kernel
theorem d_M_part_0 : decode b_M_part 0 = .ok (.iconst 0, 1) := by decide +kernel
theorem d_M_part_1 : decode b_M_part 1 = .ok (.istore_n 3, 1) := by decide +kernel
theorem d_M_part_2 : decode b_M_part 2 = .ok (.iload_n 3, 1) := by decide +kernel
theorem d_M_part_3 : decode b_M_part 3 = .ok (.bipush 8, 2) := by decide +kernel
theorem d_M_part_5 : decode b_M_part 5 = .ok (.if_icmp .ge 21, 3) := by decide +kernel
theorem d_M_part_8 : decode b_M_part 8 = .ok (.aload_n 0, 1) := by decide +kernel
theorem d_M_part_9 : decode b_M_part 9 = .ok (.getfield 32, 3) := by decide +kernel
theorem d_M_part_12 : decode b_M_part 12 = .ok (.iload_n 3, 1) := by decide +kernel
theorem d_M_part_13 : decode b_M_part 13 = .ok (.aload_n 0, 1) := by decide +kernel
theorem d_M_part_14 : decode b_M_part 14 = .ok (.getfield 23, 3) := by decide +kernel
theorem d_M_part_17 : decode b_M_part 17 = .ok (.iload_n 3, 1) := by decide +kernel
theorem d_M_part_18 : decode b_M_part 18 = .ok (.laload, 1) := by decide +kernel
theorem d_M_part_19 : decode b_M_part 19 = .ok (.lastore, 1) := by decide +kernel
theorem d_M_part_20 : decode b_M_part 20 = .ok (.iinc 3 1, 3) := by decide +kernel
theorem d_M_part_23 : decode b_M_part 23 = .ok (.goto (-21), 3) := by decide +kernel
theorem d_M_part_26 : decode b_M_part 26 = .ok (.iconst 0, 1) := by decide +kernel
theorem d_M_part_27 : decode b_M_part 27 = .ok (.istore_n 3, 1) := by decide +kernel
theorem d_M_part_28 : decode b_M_part 28 = .ok (.iload_n 3, 1) := by decide +kernel
theorem d_M_part_29 : decode b_M_part 29 = .ok (.iconst 4, 1) := by decide +kernel
theorem d_M_part_30 : decode b_M_part 30 = .ok (.if_icmp .ge 132, 3) := by decide +kernel
theorem d_M_part_33 : decode b_M_part 33 = .ok (.aload_n 0, 1) := by decide +kernel
theorem d_M_part_34 : decode b_M_part 34 = .ok (.getfield 26, 3) := by decide +kernel
theorem d_M_part_37 : decode b_M_part 37 = .ok (.iconst 2, 1) := by decide +kernel
theorem d_M_part_38 : decode b_M_part 38 = .ok (.iload_n 3, 1) := by decide +kernel
theorem d_M_part_39 : decode b_M_part 39 = .ok (.imul, 1) := by decide +kernel
theorem d_M_part_40 : decode b_M_part 40 = .ok (.aload_n 0, 1) := by decide +kernel
theorem d_M_part_41 : decode b_M_part 41 = .ok (.getfield 32, 3) := by decide +kernel
theorem d_M_part_44 : decode b_M_part 44 = .ok (.iconst 0, 1) := by decide +kernel
theorem d_M_part_45 : decode b_M_part 45 = .ok (.laload, 1) := by decide +kernel
theorem d_M_part_46 : decode b_M_part 46 = .ok (.lastore, 1) := by decide +kernel
theorem d_M_part_47 : decode b_M_part 47 = .ok (.aload_n 0, 1) := by decide +kernel
theorem d_M_part_48 : decode b_M_part 48 = .ok (.getfield 26, 3) := by decide +kernel
theorem d_M_part_51 : decode b_M_part 51 = .ok (.iconst 2, 1) := by decide +kernel
theorem d_M_part_52 : decode b_M_part 52 = .ok (.iload_n 3, 1) := by decide +kernel
theorem d_M_part_53 : decode b_M_part 53 = .ok (.imul, 1) := by decide +kernel
theorem d_M_part_54 : decode b_M_part 54 = .ok (.iconst 1, 1) := by decide +kernel
theorem d_M_part_55 : decode b_M_part 55 = .ok (.iadd, 1) := by decide +kernel
theorem d_M_part_56 : decode b_M_part 56 = .ok (.aload_n 0, 1) := by decide +kernel
theorem d_M_part_57 : decode b_M_part 57 = .ok (.getfield 32, 3) := by decide +kernel
theorem d_M_part_60 : decode b_M_part 60 = .ok (.iconst 1, 1) := by decide +kernel
theorem d_M_part_61 : decode b_M_part 61 = .ok (.laload, 1) := by decide +kernel
theorem d_M_part_62 : decode b_M_part 62 = .ok (.lastore, 1) := by decide +kernel
theorem d_M_part_63 : decode b_M_part 63 = .ok (.aload_n 0, 1) := by decide +kernel
theorem d_M_part_64 : decode b_M_part 64 = .ok (.getfield 29, 3) := by decide +kernel
theorem d_M_part_67 : decode b_M_part 67 = .ok (.bipush 6, 2) := by decide +kernel
theorem d_M_part_69 : decode b_M_part 69 = .ok (.iconst 2, 1) := by decide +kernel
theorem d_M_part_70 : decode b_M_part 70 = .ok (.iload_n 3, 1) := by decide +kernel
theorem d_M_part_71 : decode b_M_part 71 = .ok (.imul, 1) := by decide +kernel
theorem d_M_part_72 : decode b_M_part 72 = .ok (.isub, 1) := by decide +kernel
theorem d_M_part_73 : decode b_M_part 73 = .ok (.aload_n 0, 1) := by decide +kernel
theorem d_M_part_74 : decode b_M_part 74 = .ok (.getfield 32, 3) := by decide +kernel
theorem d_M_part_77 : decode b_M_part 77 = .ok (.bipush 6, 2) := by decide +kernel
theorem d_M_part_79 : decode b_M_part 79 = .ok (.iconst 2, 1) := by decide +kernel
theorem d_M_part_80 : decode b_M_part 80 = .ok (.iload_n 3, 1) := by decide +kernel
theorem d_M_part_81 : decode b_M_part 81 = .ok (.imul, 1) := by decide +kernel
theorem d_M_part_82 : decode b_M_part 82 = .ok (.isub, 1) := by decide +kernel
theorem d_M_part_83 : decode b_M_part 83 = .ok (.laload, 1) := by decide +kernel
theorem d_M_part_84 : decode b_M_part 84 = .ok (.lastore, 1) := by decide +kernel
theorem d_M_part_85 : decode b_M_part 85 = .ok (.aload_n 0, 1) := by decide +kernel
theorem d_M_part_86 : decode b_M_part 86 = .ok (.getfield 29, 3) := by decide +kernel
theorem d_M_part_89 : decode b_M_part 89 = .ok (.bipush 7, 2) := by decide +kernel
theorem d_M_part_91 : decode b_M_part 91 = .ok (.iconst 2, 1) := by decide +kernel
theorem d_M_part_92 : decode b_M_part 92 = .ok (.iload_n 3, 1) := by decide +kernel
theorem d_M_part_93 : decode b_M_part 93 = .ok (.imul, 1) := by decide +kernel
theorem d_M_part_94 : decode b_M_part 94 = .ok (.isub, 1) := by decide +kernel
theorem d_M_part_95 : decode b_M_part 95 = .ok (.aload_n 0, 1) := by decide +kernel
theorem d_M_part_96 : decode b_M_part 96 = .ok (.getfield 32, 3) := by decide +kernel
theorem d_M_part_99 : decode b_M_part 99 = .ok (.bipush 7, 2) := by decide +kernel
theorem d_M_part_101 : decode b_M_part 101 = .ok (.iconst 2, 1) := by decide +kernel
theorem d_M_part_102 : decode b_M_part 102 = .ok (.iload_n 3, 1) := by decide +kernel
theorem d_M_part_103 : decode b_M_part 103 = .ok (.imul, 1) := by decide +kernel
theorem d_M_part_104 : decode b_M_part 104 = .ok (.isub, 1) := by decide +kernel
theorem d_M_part_105 : decode b_M_part 105 = .ok (.laload, 1) := by decide +kernel
theorem d_M_part_106 : decode b_M_part 106 = .ok (.lastore, 1) := by decide +kernel
theorem d_M_part_107 : decode b_M_part 107 = .ok (.iconst 0, 1) := by decide +kernel
theorem d_M_part_108 : decode b_M_part 108 = .ok (.istore 4, 2) := by decide +kernel
theorem d_M_part_110 : decode b_M_part 110 = .ok (.iload 4, 2) := by decide +kernel
theorem d_M_part_112 : decode b_M_part 112 = .ok (.iconst 2, 1) := by decide +kernel
theorem d_M_part_113 : decode b_M_part 113 = .ok (.iadd, 1) := by decide +kernel
theorem d_M_part_114 : decode b_M_part 114 = .ok (.bipush 8, 2) := by decide +kernel
theorem d_M_part_116 : decode b_M_part 116 = .ok (.iconst 2, 1) := by decide +kernel
theorem d_M_part_117 : decode b_M_part 117 = .ok (.iload_n 3, 1) := by decide +kernel
theorem d_M_part_118 : decode b_M_part 118 = .ok (.imul, 1) := by decide +kernel
theorem d_M_part_119 : decode b_M_part 119 = .ok (.isub, 1) := by decide +kernel
theorem d_M_part_120 : decode b_M_part 120 = .ok (.if_icmp .ge 36, 3) := by decide +kernel
theorem d_M_part_123 : decode b_M_part 123 = .ok (.aload_n 0, 1) := by decide +kernel
theorem d_M_part_124 : decode b_M_part 124 = .ok (.getfield 32, 3) := by decide +kernel
theorem d_M_part_127 : decode b_M_part 127 = .ok (.iload 4, 2) := by decide +kernel
theorem d_M_part_129 : decode b_M_part 129 = .ok (.aload_n 0, 1) := by decide +kernel
theorem d_M_part_130 : decode b_M_part 130 = .ok (.getfield 32, 3) := by decide +kernel
theorem d_M_part_133 : decode b_M_part 133 = .ok (.iload 4, 2) := by decide +kernel
theorem d_M_part_135 : decode b_M_part 135 = .ok (.laload, 1) := by decide +kernel
theorem d_M_part_136 : decode b_M_part 136 = .ok (.aload_n 0, 1) := by decide +kernel
theorem d_M_part_137 : decode b_M_part 137 = .ok (.getfield 32, 3) := by decide +kernel
theorem d_M_part_140 : decode b_M_part 140 = .ok (.iload 4, 2) := by decide +kernel
theorem d_M_part_142 : decode b_M_part 142 = .ok (.iconst 2, 1) := by decide +kernel
theorem d_M_part_143 : decode b_M_part 143 = .ok (.iadd, 1) := by decide +kernel
theorem d_M_part_144 : decode b_M_part 144 = .ok (.laload, 1) := by decide +kernel
theorem d_M_part_145 : decode b_M_part 145 = .ok (.lload_n 1, 1) := by decide +kernel
theorem d_M_part_146 : decode b_M_part 146 = .ok (.invokestatic 115, 3) := by decide +kernel
theorem d_M_part_149 : decode b_M_part 149 = .ok (.lastore, 1) := by decide +kernel
theorem d_M_part_150 : decode b_M_part 150 = .ok (.iinc 4 1, 3) := by decide +kernel
theorem d_M_part_153 : decode b_M_part 153 = .ok (.goto (-43), 3) := by decide +kernel
theorem d_M_part_156 : decode b_M_part 156 = .ok (.iinc 3 1, 3) := by decide +kernel
theorem d_M_part_159 : decode b_M_part 159 = .ok (.goto (-131), 3) := by decide +kernel
theorem d_M_part_162 : decode b_M_part 162 = .ok (.return_, 1) := by decide +kernel
theorem d_M_cut_0 : decode b_M_cut 0 = .ok (.aload_n 0, 1) := by decide +kernel
theorem d_M_cut_1 : decode b_M_cut 1 = .ok (.lload_n 3, 1) := by decide +kernel
theorem d_M_cut_2 : decode b_M_cut 2 = .ok (.invokevirtual 119, 3) := by decide +kernel
theorem d_M_cut_5 : decode b_M_cut 5 = .ok (.iconst 0, 1) := by decide +kernel
theorem d_M_cut_6 : decode b_M_cut 6 = .ok (.istore 5, 2) := by decide +kernel
theorem d_M_cut_8 : decode b_M_cut 8 = .ok (.iload 5, 2) := by decide +kernel
theorem d_M_cut_10 : decode b_M_cut 10 = .ok (.bipush 8, 2) := by decide +kernel
theorem d_M_cut_12 : decode b_M_cut 12 = .ok (.if_icmp .ge 23, 3) := by decide +kernel
theorem d_M_cut_15 : decode b_M_cut 15 = .ok (.aload_n 0, 1) := by decide +kernel
theorem d_M_cut_16 : decode b_M_cut 16 = .ok (.getfield 23, 3) := by decide +kernel
theorem d_M_cut_19 : decode b_M_cut 19 = .ok (.iload 5, 2) := by decide +kernel
theorem d_M_cut_21 : decode b_M_cut 21 = .ok (.aload_n 0, 1) := by decide +kernel
theorem d_M_cut_22 : decode b_M_cut 22 = .ok (.getfield 26, 3) := by decide +kernel
theorem d_M_cut_25 : decode b_M_cut 25 = .ok (.iload 5, 2) := by decide +kernel
theorem d_M_cut_27 : decode b_M_cut 27 = .ok (.laload, 1) := by decide +kernel
theorem d_M_cut_28 : decode b_M_cut 28 = .ok (.lastore, 1) := by decide +kernel
theorem d_M_cut_29 : decode b_M_cut 29 = .ok (.iinc 5 1, 3) := by decide +kernel
theorem d_M_cut_32 : decode b_M_cut 32 = .ok (.goto (-24), 3) := by decide +kernel
theorem d_M_cut_35 : decode b_M_cut 35 = .ok (.lload_n 1, 1) := by decide +kernel
theorem d_M_cut_36 : decode b_M_cut 36 = .ok (.lconst 0, 1) := by decide +kernel
theorem d_M_cut_37 : decode b_M_cut 37 = .ok (.lcmp, 1) := by decide +kernel
theorem d_M_cut_38 : decode b_M_cut 38 = .ok (.ifCond .ne 4, 3) := by decide +kernel
theorem d_M_cut_41 : decode b_M_cut 41 = .ok (.return_, 1) := by decide +kernel
theorem d_M_cut_42 : decode b_M_cut 42 = .ok (.aload_n 0, 1) := by decide +kernel
theorem d_M_cut_43 : decode b_M_cut 43 = .ok (.ldc2_w 123, 3) := by decide +kernel
theorem d_M_cut_46 : decode b_M_cut 46 = .ok (.lload_n 1, 1) := by decide +kernel
theorem d_M_cut_47 : decode b_M_cut 47 = .ok (.lmul, 1) := by decide +kernel
theorem d_M_cut_48 : decode b_M_cut 48 = .ok (.ldc2_w 107, 3) := by decide +kernel
theorem d_M_cut_51 : decode b_M_cut 51 = .ok (.lmul, 1) := by decide +kernel
theorem d_M_cut_52 : decode b_M_cut 52 = .ok (.lload_n 3, 1) := by decide +kernel
theorem d_M_cut_53 : decode b_M_cut 53 = .ok (.ladd, 1) := by decide +kernel
theorem d_M_cut_54 : decode b_M_cut 54 = .ok (.ldc2_w 123, 3) := by decide +kernel
theorem d_M_cut_57 : decode b_M_cut 57 = .ok (.lload_n 3, 1) := by decide +kernel
theorem d_M_cut_58 : decode b_M_cut 58 = .ok (.lmul, 1) := by decide +kernel
theorem d_M_cut_59 : decode b_M_cut 59 = .ok (.invokestatic 104, 3) := by decide +kernel
theorem d_M_cut_62 : decode b_M_cut 62 = .ok (.invokevirtual 119, 3) := by decide +kernel
theorem d_M_cut_65 : decode b_M_cut 65 = .ok (.iconst 0, 1) := by decide +kernel
theorem d_M_cut_66 : decode b_M_cut 66 = .ok (.istore 5, 2) := by decide +kernel
theorem d_M_cut_68 : decode b_M_cut 68 = .ok (.iload 5, 2) := by decide +kernel
theorem d_M_cut_70 : decode b_M_cut 70 = .ok (.bipush 8, 2) := by decide +kernel
theorem d_M_cut_72 : decode b_M_cut 72 = .ok (.if_icmp .ge 23, 3) := by decide +kernel
theorem d_M_cut_75 : decode b_M_cut 75 = .ok (.aload_n 0, 1) := by decide +kernel
theorem d_M_cut_76 : decode b_M_cut 76 = .ok (.getfield 23, 3) := by decide +kernel
theorem d_M_cut_79 : decode b_M_cut 79 = .ok (.iload 5, 2) := by decide +kernel
theorem d_M_cut_81 : decode b_M_cut 81 = .ok (.aload_n 0, 1) := by decide +kernel
theorem d_M_cut_82 : decode b_M_cut 82 = .ok (.getfield 29, 3) := by decide +kernel
theorem d_M_cut_85 : decode b_M_cut 85 = .ok (.iload 5, 2) := by decide +kernel
theorem d_M_cut_87 : decode b_M_cut 87 = .ok (.laload, 1) := by decide +kernel
theorem d_M_cut_88 : decode b_M_cut 88 = .ok (.lastore, 1) := by decide +kernel
theorem d_M_cut_89 : decode b_M_cut 89 = .ok (.iinc 5 1, 3) := by decide +kernel
theorem d_M_cut_92 : decode b_M_cut 92 = .ok (.goto (-24), 3) := by decide +kernel
theorem d_M_cut_95 : decode b_M_cut 95 = .ok (.return_, 1) := by decide +kernel
theorem d_M_around_0 : decode b_M_around 0 = .ok (.lload_n 1, 1) := by decide +kernel
theorem d_M_around_1 : decode b_M_around 1 = .ok (.lload_n 3, 1) := by decide +kernel
theorem d_M_around_2 : decode b_M_around 2 = .ok (.aload_n 0, 1) := by decide +kernel
theorem d_M_around_3 : decode b_M_around 3 = .ok (.getfield 19, 3) := by decide +kernel
theorem d_M_around_6 : decode b_M_around 6 = .ok (.iload 7, 2) := by decide +kernel
theorem d_M_around_8 : decode b_M_around 8 = .ok (.laload, 1) := by decide +kernel
theorem d_M_around_9 : decode b_M_around 9 = .ok (.lmul, 1) := by decide +kernel
theorem d_M_around_10 : decode b_M_around 10 = .ok (.lload 5, 2) := by decide +kernel
theorem d_M_around_12 : decode b_M_around 12 = .ok (.aload_n 0, 1) := by decide +kernel
theorem d_M_around_13 : decode b_M_around 13 = .ok (.getfield 19, 3) := by decide +kernel
theorem d_M_around_16 : decode b_M_around 16 = .ok (.iconst 2, 1) := by decide +kernel
theorem d_M_around_17 : decode b_M_around 17 = .ok (.iload 7, 2) := by decide +kernel
theorem d_M_around_19 : decode b_M_around 19 = .ok (.iadd, 1) := by decide +kernel
theorem d_M_around_20 : decode b_M_around 20 = .ok (.laload, 1) := by decide +kernel
theorem d_M_around_21 : decode b_M_around 21 = .ok (.lmul, 1) := by decide +kernel
theorem d_M_around_22 : decode b_M_around 22 = .ok (.ladd, 1) := by decide +kernel
theorem d_M_around_23 : decode b_M_around 23 = .ok (.ldc2_w 113, 3) := by decide +kernel
theorem d_M_around_26 : decode b_M_around 26 = .ok (.ladd, 1) := by decide +kernel
theorem d_M_around_27 : decode b_M_around 27 = .ok (.ldc2_w 107, 3) := by decide +kernel
theorem d_M_around_30 : decode b_M_around 30 = .ok (.invokestatic 104, 3) := by decide +kernel
theorem d_M_around_33 : decode b_M_around 33 = .ok (.ladd, 1) := by decide +kernel
theorem d_M_around_34 : decode b_M_around 34 = .ok (.lreturn, 1) := by decide +kernel
theorem d_M_beginArc_0 : decode b_M_beginArc 0 = .ok (.aload_n 0, 1) := by decide +kernel
theorem d_M_beginArc_1 : decode b_M_beginArc 1 = .ok (.lload_n 1, 1) := by decide +kernel
theorem d_M_beginArc_2 : decode b_M_beginArc 2 = .ok (.lload 5, 2) := by decide +kernel
theorem d_M_beginArc_4 : decode b_M_beginArc 4 = .ok (.lload 7, 2) := by decide +kernel
theorem d_M_beginArc_6 : decode b_M_beginArc 6 = .ok (.iconst 0, 1) := by decide +kernel
theorem d_M_beginArc_7 : decode b_M_beginArc 7 = .ok (.invokevirtual 125, 3) := by decide +kernel
theorem d_M_beginArc_10 : decode b_M_beginArc 10 = .ok (.lstore 9, 2) := by decide +kernel
theorem d_M_beginArc_12 : decode b_M_beginArc 12 = .ok (.aload_n 0, 1) := by decide +kernel
theorem d_M_beginArc_13 : decode b_M_beginArc 13 = .ok (.lload_n 3, 1) := by decide +kernel
theorem d_M_beginArc_14 : decode b_M_beginArc 14 = .ok (.lload 5, 2) := by decide +kernel
theorem d_M_beginArc_16 : decode b_M_beginArc 16 = .ok (.lload 7, 2) := by decide +kernel
theorem d_M_beginArc_18 : decode b_M_beginArc 18 = .ok (.iconst 1, 1) := by decide +kernel
theorem d_M_beginArc_19 : decode b_M_beginArc 19 = .ok (.invokevirtual 125, 3) := by decide +kernel
theorem d_M_beginArc_22 : decode b_M_beginArc 22 = .ok (.lstore 11, 2) := by decide +kernel
theorem d_M_beginArc_24 : decode b_M_beginArc 24 = .ok (.aload_n 0, 1) := by decide +kernel
theorem d_M_beginArc_25 : decode b_M_beginArc 25 = .ok (.getfield 16, 3) := by decide +kernel
theorem d_M_beginArc_28 : decode b_M_beginArc 28 = .ok (.getfield 42, 3) := by decide +kernel
theorem d_M_beginArc_31 : decode b_M_beginArc 31 = .ok (.ifCond .ne 15, 3) := by decide +kernel
theorem d_M_beginArc_34 : decode b_M_beginArc 34 = .ok (.aload_n 0, 1) := by decide +kernel
theorem d_M_beginArc_35 : decode b_M_beginArc 35 = .ok (.getfield 16, 3) := by decide +kernel
theorem d_M_beginArc_38 : decode b_M_beginArc 38 = .ok (.lload 9, 2) := by decide +kernel
theorem d_M_beginArc_40 : decode b_M_beginArc 40 = .ok (.lload 11, 2) := by decide +kernel
theorem d_M_beginArc_42 : decode b_M_beginArc 42 = .ok (.invokevirtual 54, 3) := by decide +kernel
theorem d_M_beginArc_45 : decode b_M_beginArc 45 = .ok (.return_, 1) := by decide +kernel
theorem d_M_beginArc_46 : decode b_M_beginArc 46 = .ok (.aload_n 0, 1) := by decide +kernel
theorem d_M_beginArc_47 : decode b_M_beginArc 47 = .ok (.getfield 16, 3) := by decide +kernel
theorem d_M_beginArc_50 : decode b_M_beginArc 50 = .ok (.invokevirtual 66, 3) := by decide +kernel
theorem d_M_beginArc_53 : decode b_M_beginArc 53 = .ok (.aload_n 0, 1) := by decide +kernel
theorem d_M_beginArc_54 : decode b_M_beginArc 54 = .ok (.getfield 16, 3) := by decide +kernel
theorem d_M_beginArc_57 : decode b_M_beginArc 57 = .ok (.iconst 1, 1) := by decide +kernel
theorem d_M_beginArc_58 : decode b_M_beginArc 58 = .ok (.lload 9, 2) := by decide +kernel
theorem d_M_beginArc_60 : decode b_M_beginArc 60 = .ok (.lload 11, 2) := by decide +kernel
theorem d_M_beginArc_62 : decode b_M_beginArc 62 = .ok (.invokevirtual 69, 3) := by decide +kernel
theorem d_M_beginArc_65 : decode b_M_beginArc 65 = .ok (.return_, 1) := by decide +kernel
theorem d_M_addCurve_0 : decode b_M_addCurve 0 = .ok (.iload 5, 2) := by decide +kernel
theorem d_M_addCurve_2 : decode b_M_addCurve 2 = .ok (.ifCond .eq 7, 3) := by decide +kernel
theorem d_M_addCurve_5 : decode b_M_addCurve 5 = .ok (.iconst 4, 1) := by decide +kernel
theorem d_M_addCurve_6 : decode b_M_addCurve 6 = .ok (.goto 4, 3) := by decide +kernel
theorem d_M_addCurve_9 : decode b_M_addCurve 9 = .ok (.iconst 2, 1) := by decide +kernel
theorem d_M_addCurve_10 : decode b_M_addCurve 10 = .ok (.istore 6, 2) := by decide +kernel
theorem d_M_addCurve_12 : decode b_M_addCurve 12 = .ok (.iload 5, 2) := by decide +kernel
theorem d_M_addCurve_14 : decode b_M_addCurve 14 = .ok (.ifCond .eq 7, 3) := by decide +kernel
theorem d_M_addCurve_17 : decode b_M_addCurve 17 = .ok (.iconst 2, 1) := by decide +kernel
theorem d_M_addCurve_18 : decode b_M_addCurve 18 = .ok (.goto 4, 3) := by decide +kernel
theorem d_M_addCurve_21 : decode b_M_addCurve 21 = .ok (.iconst 4, 1) := by decide +kernel
theorem d_M_addCurve_22 : decode b_M_addCurve 22 = .ok (.istore 7, 2) := by decide +kernel
theorem d_M_addCurve_24 : decode b_M_addCurve 24 = .ok (.iload 5, 2) := by decide +kernel
theorem d_M_addCurve_26 : decode b_M_addCurve 26 = .ok (.ifCond .eq 7, 3) := by decide +kernel
theorem d_M_addCurve_29 : decode b_M_addCurve 29 = .ok (.iconst 0, 1) := by decide +kernel
theorem d_M_addCurve_30 : decode b_M_addCurve 30 = .ok (.goto 5, 3) := by decide +kernel
theorem d_M_addCurve_33 : decode b_M_addCurve 33 = .ok (.bipush 6, 2) := by decide +kernel
theorem d_M_addCurve_35 : decode b_M_addCurve 35 = .ok (.istore 8, 2) := by decide +kernel
theorem d_M_addCurve_37 : decode b_M_addCurve 37 = .ok (.aload_n 0, 1) := by decide +kernel
theorem d_M_addCurve_38 : decode b_M_addCurve 38 = .ok (.getfield 16, 3) := by decide +kernel
theorem d_M_addCurve_41 : decode b_M_addCurve 41 = .ok (.iconst 2, 1) := by decide +kernel
theorem d_M_addCurve_42 : decode b_M_addCurve 42 = .ok (.aload_n 0, 1) := by decide +kernel
theorem d_M_addCurve_43 : decode b_M_addCurve 43 = .ok (.lload_n 1, 1) := by decide +kernel
theorem d_M_addCurve_44 : decode b_M_addCurve 44 = .ok (.aload_n 0, 1) := by decide +kernel
theorem d_M_addCurve_45 : decode b_M_addCurve 45 = .ok (.getfield 23, 3) := by decide +kernel
theorem d_M_addCurve_48 : decode b_M_addCurve 48 = .ok (.iload 8, 2) := by decide +kernel
theorem d_M_addCurve_50 : decode b_M_addCurve 50 = .ok (.laload, 1) := by decide +kernel
theorem d_M_addCurve_51 : decode b_M_addCurve 51 = .ok (.aload_n 0, 1) := by decide +kernel
theorem d_M_addCurve_52 : decode b_M_addCurve 52 = .ok (.getfield 23, 3) := by decide +kernel
theorem d_M_addCurve_55 : decode b_M_addCurve 55 = .ok (.iload 8, 2) := by decide +kernel
theorem d_M_addCurve_57 : decode b_M_addCurve 57 = .ok (.iconst 1, 1) := by decide +kernel
theorem d_M_addCurve_58 : decode b_M_addCurve 58 = .ok (.iadd, 1) := by decide +kernel
theorem d_M_addCurve_59 : decode b_M_addCurve 59 = .ok (.laload, 1) := by decide +kernel
theorem d_M_addCurve_60 : decode b_M_addCurve 60 = .ok (.iconst 0, 1) := by decide +kernel
theorem d_M_addCurve_61 : decode b_M_addCurve 61 = .ok (.invokevirtual 125, 3) := by decide +kernel
theorem d_M_addCurve_64 : decode b_M_addCurve 64 = .ok (.aload_n 0, 1) := by decide +kernel
theorem d_M_addCurve_65 : decode b_M_addCurve 65 = .ok (.lload_n 3, 1) := by decide +kernel
theorem d_M_addCurve_66 : decode b_M_addCurve 66 = .ok (.aload_n 0, 1) := by decide +kernel
theorem d_M_addCurve_67 : decode b_M_addCurve 67 = .ok (.getfield 23, 3) := by decide +kernel
theorem d_M_addCurve_70 : decode b_M_addCurve 70 = .ok (.iload 8, 2) := by decide +kernel
theorem d_M_addCurve_72 : decode b_M_addCurve 72 = .ok (.laload, 1) := by decide +kernel
theorem d_M_addCurve_73 : decode b_M_addCurve 73 = .ok (.aload_n 0, 1) := by decide +kernel
theorem d_M_addCurve_74 : decode b_M_addCurve 74 = .ok (.getfield 23, 3) := by decide +kernel
theorem d_M_addCurve_77 : decode b_M_addCurve 77 = .ok (.iload 8, 2) := by decide +kernel
theorem d_M_addCurve_79 : decode b_M_addCurve 79 = .ok (.iconst 1, 1) := by decide +kernel
theorem d_M_addCurve_80 : decode b_M_addCurve 80 = .ok (.iadd, 1) := by decide +kernel
theorem d_M_addCurve_81 : decode b_M_addCurve 81 = .ok (.laload, 1) := by decide +kernel
theorem d_M_addCurve_82 : decode b_M_addCurve 82 = .ok (.iconst 1, 1) := by decide +kernel
theorem d_M_addCurve_83 : decode b_M_addCurve 83 = .ok (.invokevirtual 125, 3) := by decide +kernel
theorem d_M_addCurve_86 : decode b_M_addCurve 86 = .ok (.aload_n 0, 1) := by decide +kernel
theorem d_M_addCurve_87 : decode b_M_addCurve 87 = .ok (.lload_n 1, 1) := by decide +kernel
theorem d_M_addCurve_88 : decode b_M_addCurve 88 = .ok (.aload_n 0, 1) := by decide +kernel
theorem d_M_addCurve_89 : decode b_M_addCurve 89 = .ok (.getfield 23, 3) := by decide +kernel
theorem d_M_addCurve_92 : decode b_M_addCurve 92 = .ok (.iload 6, 2) := by decide +kernel
theorem d_M_addCurve_94 : decode b_M_addCurve 94 = .ok (.laload, 1) := by decide +kernel
theorem d_M_addCurve_95 : decode b_M_addCurve 95 = .ok (.aload_n 0, 1) := by decide +kernel
theorem d_M_addCurve_96 : decode b_M_addCurve 96 = .ok (.getfield 23, 3) := by decide +kernel
theorem d_M_addCurve_99 : decode b_M_addCurve 99 = .ok (.iload 6, 2) := by decide +kernel
theorem d_M_addCurve_101 : decode b_M_addCurve 101 = .ok (.iconst 1, 1) := by decide +kernel
theorem d_M_addCurve_102 : decode b_M_addCurve 102 = .ok (.iadd, 1) := by decide +kernel
theorem d_M_addCurve_103 : decode b_M_addCurve 103 = .ok (.laload, 1) := by decide +kernel
theorem d_M_addCurve_104 : decode b_M_addCurve 104 = .ok (.iconst 0, 1) := by decide +kernel
theorem d_M_addCurve_105 : decode b_M_addCurve 105 = .ok (.invokevirtual 125, 3) := by decide +kernel
theorem d_M_addCurve_108 : decode b_M_addCurve 108 = .ok (.aload_n 0, 1) := by decide +kernel
theorem d_M_addCurve_109 : decode b_M_addCurve 109 = .ok (.lload_n 3, 1) := by decide +kernel
theorem d_M_addCurve_110 : decode b_M_addCurve 110 = .ok (.aload_n 0, 1) := by decide +kernel
theorem d_M_addCurve_111 : decode b_M_addCurve 111 = .ok (.getfield 23, 3) := by decide +kernel
theorem d_M_addCurve_114 : decode b_M_addCurve 114 = .ok (.iload 6, 2) := by decide +kernel
theorem d_M_addCurve_116 : decode b_M_addCurve 116 = .ok (.laload, 1) := by decide +kernel
theorem d_M_addCurve_117 : decode b_M_addCurve 117 = .ok (.aload_n 0, 1) := by decide +kernel
theorem d_M_addCurve_118 : decode b_M_addCurve 118 = .ok (.getfield 23, 3) := by decide +kernel
theorem d_M_addCurve_121 : decode b_M_addCurve 121 = .ok (.iload 6, 2) := by decide +kernel
theorem d_M_addCurve_123 : decode b_M_addCurve 123 = .ok (.iconst 1, 1) := by decide +kernel
theorem d_M_addCurve_124 : decode b_M_addCurve 124 = .ok (.iadd, 1) := by decide +kernel
theorem d_M_addCurve_125 : decode b_M_addCurve 125 = .ok (.laload, 1) := by decide +kernel
theorem d_M_addCurve_126 : decode b_M_addCurve 126 = .ok (.iconst 1, 1) := by decide +kernel
theorem d_M_addCurve_127 : decode b_M_addCurve 127 = .ok (.invokevirtual 125, 3) := by decide +kernel
theorem d_M_addCurve_130 : decode b_M_addCurve 130 = .ok (.aload_n 0, 1) := by decide +kernel
theorem d_M_addCurve_131 : decode b_M_addCurve 131 = .ok (.lload_n 1, 1) := by decide +kernel
theorem d_M_addCurve_132 : decode b_M_addCurve 132 = .ok (.aload_n 0, 1) := by decide +kernel
theorem d_M_addCurve_133 : decode b_M_addCurve 133 = .ok (.getfield 23, 3) := by decide +kernel
theorem d_M_addCurve_136 : decode b_M_addCurve 136 = .ok (.iload 7, 2) := by decide +kernel
theorem d_M_addCurve_138 : decode b_M_addCurve 138 = .ok (.laload, 1) := by decide +kernel
theorem d_M_addCurve_139 : decode b_M_addCurve 139 = .ok (.aload_n 0, 1) := by decide +kernel
theorem d_M_addCurve_140 : decode b_M_addCurve 140 = .ok (.getfield 23, 3) := by decide +kernel
theorem d_M_addCurve_143 : decode b_M_addCurve 143 = .ok (.iload 7, 2) := by decide +kernel
theorem d_M_addCurve_145 : decode b_M_addCurve 145 = .ok (.iconst 1, 1) := by decide +kernel
theorem d_M_addCurve_146 : decode b_M_addCurve 146 = .ok (.iadd, 1) := by decide +kernel
theorem d_M_addCurve_147 : decode b_M_addCurve 147 = .ok (.laload, 1) := by decide +kernel
theorem d_M_addCurve_148 : decode b_M_addCurve 148 = .ok (.iconst 0, 1) := by decide +kernel
theorem d_M_addCurve_149 : decode b_M_addCurve 149 = .ok (.invokevirtual 125, 3) := by decide +kernel
theorem d_M_addCurve_152 : decode b_M_addCurve 152 = .ok (.aload_n 0, 1) := by decide +kernel
theorem d_M_addCurve_153 : decode b_M_addCurve 153 = .ok (.lload_n 3, 1) := by decide +kernel
theorem d_M_addCurve_154 : decode b_M_addCurve 154 = .ok (.aload_n 0, 1) := by decide +kernel
theorem d_M_addCurve_155 : decode b_M_addCurve 155 = .ok (.getfield 23, 3) := by decide +kernel
theorem d_M_addCurve_158 : decode b_M_addCurve 158 = .ok (.iload 7, 2) := by decide +kernel
theorem d_M_addCurve_160 : decode b_M_addCurve 160 = .ok (.laload, 1) := by decide +kernel
theorem d_M_addCurve_161 : decode b_M_addCurve 161 = .ok (.aload_n 0, 1) := by decide +kernel
theorem d_M_addCurve_162 : decode b_M_addCurve 162 = .ok (.getfield 23, 3) := by decide +kernel
theorem d_M_addCurve_165 : decode b_M_addCurve 165 = .ok (.iload 7, 2) := by decide +kernel
theorem d_M_addCurve_167 : decode b_M_addCurve 167 = .ok (.iconst 1, 1) := by decide +kernel
theorem d_M_addCurve_168 : decode b_M_addCurve 168 = .ok (.iadd, 1) := by decide +kernel
theorem d_M_addCurve_169 : decode b_M_addCurve 169 = .ok (.laload, 1) := by decide +kernel
theorem d_M_addCurve_170 : decode b_M_addCurve 170 = .ok (.iconst 1, 1) := by decide +kernel
theorem d_M_addCurve_171 : decode b_M_addCurve 171 = .ok (.invokevirtual 125, 3) := by decide +kernel
theorem d_M_addCurve_174 : decode b_M_addCurve 174 = .ok (.invokevirtual 73, 3) := by decide +kernel
theorem d_M_addCurve_177 : decode b_M_addCurve 177 = .ok (.return_, 1) := by decide +kernel
