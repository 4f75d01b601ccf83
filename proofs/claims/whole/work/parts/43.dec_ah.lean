theorem d_Arc_init_0 : decode b_Arc_init 0 = .ok (.aload_n 0, 1) := by decide +kernel
theorem d_Arc_init_1 : decode b_Arc_init 1 = .ok (.invokespecial 5, 3) := by decide +kernel
theorem d_Arc_init_4 : decode b_Arc_init 4 = .ok (.aload_n 0, 1) := by decide +kernel
theorem d_Arc_init_5 : decode b_Arc_init 5 = .ok (.bipush 124, 2) := by decide +kernel
theorem d_Arc_init_7 : decode b_Arc_init 7 = .ok (.newarray .int, 2) := by decide +kernel
theorem d_Arc_init_9 : decode b_Arc_init 9 = .ok (.putfield 11, 3) := by decide +kernel
theorem d_Arc_init_12 : decode b_Arc_init 12 = .ok (.aload_n 0, 1) := by decide +kernel
theorem d_Arc_init_13 : decode b_Arc_init 13 = .ok (.bipush 124, 2) := by decide +kernel
theorem d_Arc_init_15 : decode b_Arc_init 15 = .ok (.newarray .int, 2) := by decide +kernel
theorem d_Arc_init_17 : decode b_Arc_init 17 = .ok (.putfield 15, 3) := by decide +kernel
theorem d_Arc_init_20 : decode b_Arc_init 20 = .ok (.aload_n 0, 1) := by decide +kernel
theorem d_Arc_init_21 : decode b_Arc_init 21 = .ok (.iconst 4, 1) := by decide +kernel
theorem d_Arc_init_22 : decode b_Arc_init 22 = .ok (.newarray .int, 2) := by decide +kernel
theorem d_Arc_init_24 : decode b_Arc_init 24 = .ok (.putfield 18, 3) := by decide +kernel
theorem d_Arc_init_27 : decode b_Arc_init 27 = .ok (.aload_n 0, 1) := by decide +kernel
theorem d_Arc_init_28 : decode b_Arc_init 28 = .ok (.iconst 4, 1) := by decide +kernel
theorem d_Arc_init_29 : decode b_Arc_init 29 = .ok (.newarray .int, 2) := by decide +kernel
theorem d_Arc_init_31 : decode b_Arc_init 31 = .ok (.putfield 21, 3) := by decide +kernel
theorem d_Arc_init_34 : decode b_Arc_init 34 = .ok (.return_, 1) := by decide +kernel
theorem d_Arc_curveCount_0 : decode b_Arc_curveCount 0 = .ok (.aload_n 0, 1) := by decide +kernel
theorem d_Arc_curveCount_1 : decode b_Arc_curveCount 1 = .ok (.getfield 24, 3) := by decide +kernel
theorem d_Arc_curveCount_4 : decode b_Arc_curveCount 4 = .ok (.iconst 1, 1) := by decide +kernel
theorem d_Arc_curveCount_5 : decode b_Arc_curveCount 5 = .ok (.isub, 1) := by decide +kernel
theorem d_Arc_curveCount_6 : decode b_Arc_curveCount 6 = .ok (.iconst 3, 1) := by decide +kernel
theorem d_Arc_curveCount_7 : decode b_Arc_curveCount 7 = .ok (.idiv, 1) := by decide +kernel
theorem d_Arc_curveCount_8 : decode b_Arc_curveCount 8 = .ok (.ireturn, 1) := by decide +kernel
theorem d_Arc_reckon_0 : decode b_Arc_reckon 0 = .ok (.lload_n 1, 1) := by decide +kernel
theorem d_Arc_reckon_1 : decode b_Arc_reckon 1 = .ok (.ldc2_w 28, 3) := by decide +kernel
theorem d_Arc_reckon_4 : decode b_Arc_reckon 4 = .ok (.invokestatic 30, 3) := by decide +kernel
theorem d_Arc_reckon_7 : decode b_Arc_reckon 7 = .ok (.lstore 5, 2) := by decide +kernel
theorem d_Arc_reckon_9 : decode b_Arc_reckon 9 = .ok (.lload_n 3, 1) := by decide +kernel
theorem d_Arc_reckon_10 : decode b_Arc_reckon 10 = .ok (.ldc2_w 28, 3) := by decide +kernel
theorem d_Arc_reckon_13 : decode b_Arc_reckon 13 = .ok (.invokestatic 30, 3) := by decide +kernel
theorem d_Arc_reckon_16 : decode b_Arc_reckon 16 = .ok (.lstore 7, 2) := by decide +kernel
theorem d_Arc_reckon_18 : decode b_Arc_reckon 18 = .ok (.lload 5, 2) := by decide +kernel
theorem d_Arc_reckon_20 : decode b_Arc_reckon 20 = .ok (.lload_n 1, 1) := by decide +kernel
theorem d_Arc_reckon_21 : decode b_Arc_reckon 21 = .ok (.invokestatic 36, 3) := by decide +kernel
theorem d_Arc_reckon_24 : decode b_Arc_reckon 24 = .ok (.istore 9, 2) := by decide +kernel
theorem d_Arc_reckon_26 : decode b_Arc_reckon 26 = .ok (.lload 7, 2) := by decide +kernel
theorem d_Arc_reckon_28 : decode b_Arc_reckon 28 = .ok (.lload_n 3, 1) := by decide +kernel
theorem d_Arc_reckon_29 : decode b_Arc_reckon 29 = .ok (.invokestatic 36, 3) := by decide +kernel
theorem d_Arc_reckon_32 : decode b_Arc_reckon 32 = .ok (.istore 10, 2) := by decide +kernel
theorem d_Arc_reckon_34 : decode b_Arc_reckon 34 = .ok (.aload_n 0, 1) := by decide +kernel
theorem d_Arc_reckon_35 : decode b_Arc_reckon 35 = .ok (.iconst 0, 1) := by decide +kernel
theorem d_Arc_reckon_36 : decode b_Arc_reckon 36 = .ok (.putfield 24, 3) := by decide +kernel
theorem d_Arc_reckon_39 : decode b_Arc_reckon 39 = .ok (.iconst 0, 1) := by decide +kernel
theorem d_Arc_reckon_40 : decode b_Arc_reckon 40 = .ok (.istore 11, 2) := by decide +kernel
theorem d_Arc_reckon_42 : decode b_Arc_reckon 42 = .ok (.iload 11, 2) := by decide +kernel
theorem d_Arc_reckon_44 : decode b_Arc_reckon 44 = .ok (.bipush 41, 2) := by decide +kernel
theorem d_Arc_reckon_46 : decode b_Arc_reckon 46 = .ok (.if_icmp .ge 80, 3) := by decide +kernel
theorem d_Arc_reckon_49 : decode b_Arc_reckon 49 = .ok (.lload 5, 2) := by decide +kernel
theorem d_Arc_reckon_51 : decode b_Arc_reckon 51 = .ok (.iload 11, 2) := by decide +kernel
theorem d_Arc_reckon_53 : decode b_Arc_reckon 53 = .ok (.i2l, 1) := by decide +kernel
theorem d_Arc_reckon_54 : decode b_Arc_reckon 54 = .ok (.ladd, 1) := by decide +kernel
theorem d_Arc_reckon_55 : decode b_Arc_reckon 55 = .ok (.lload 7, 2) := by decide +kernel
theorem d_Arc_reckon_57 : decode b_Arc_reckon 57 = .ok (.lcmp, 1) := by decide +kernel
theorem d_Arc_reckon_58 : decode b_Arc_reckon 58 = .ok (.ifCond .gt 68, 3) := by decide +kernel
theorem d_Arc_reckon_61 : decode b_Arc_reckon 61 = .ok (.lload 5, 2) := by decide +kernel
theorem d_Arc_reckon_63 : decode b_Arc_reckon 63 = .ok (.iload 11, 2) := by decide +kernel
theorem d_Arc_reckon_65 : decode b_Arc_reckon 65 = .ok (.i2l, 1) := by decide +kernel
theorem d_Arc_reckon_66 : decode b_Arc_reckon 66 = .ok (.ladd, 1) := by decide +kernel
theorem d_Arc_reckon_67 : decode b_Arc_reckon 67 = .ok (.lstore 12, 2) := by decide +kernel
theorem d_Arc_reckon_69 : decode b_Arc_reckon 69 = .ok (.iload 11, 2) := by decide +kernel
theorem d_Arc_reckon_71 : decode b_Arc_reckon 71 = .ok (.ifCond .ne 8, 3) := by decide +kernel
theorem d_Arc_reckon_74 : decode b_Arc_reckon 74 = .ok (.iload 9, 2) := by decide +kernel
theorem d_Arc_reckon_76 : decode b_Arc_reckon 76 = .ok (.goto 4, 3) := by decide +kernel
theorem d_Arc_reckon_79 : decode b_Arc_reckon 79 = .ok (.iconst 0, 1) := by decide +kernel
theorem d_Arc_reckon_80 : decode b_Arc_reckon 80 = .ok (.istore 14, 2) := by decide +kernel
theorem d_Arc_reckon_82 : decode b_Arc_reckon 82 = .ok (.lload 12, 2) := by decide +kernel
theorem d_Arc_reckon_84 : decode b_Arc_reckon 84 = .ok (.lload 7, 2) := by decide +kernel
theorem d_Arc_reckon_86 : decode b_Arc_reckon 86 = .ok (.lcmp, 1) := by decide +kernel
theorem d_Arc_reckon_87 : decode b_Arc_reckon 87 = .ok (.ifCond .ne 8, 3) := by decide +kernel
theorem d_Arc_reckon_90 : decode b_Arc_reckon 90 = .ok (.iload 10, 2) := by decide +kernel
theorem d_Arc_reckon_92 : decode b_Arc_reckon 92 = .ok (.goto 5, 3) := by decide +kernel
theorem d_Arc_reckon_95 : decode b_Arc_reckon 95 = .ok (.ldc 40, 2) := by decide +kernel
theorem d_Arc_reckon_97 : decode b_Arc_reckon 97 = .ok (.istore 15, 2) := by decide +kernel
theorem d_Arc_reckon_99 : decode b_Arc_reckon 99 = .ok (.iload 14, 2) := by decide +kernel
theorem d_Arc_reckon_101 : decode b_Arc_reckon 101 = .ok (.iload 15, 2) := by decide +kernel
theorem d_Arc_reckon_103 : decode b_Arc_reckon 103 = .ok (.if_icmp .ge 17, 3) := by decide +kernel
theorem d_Arc_reckon_106 : decode b_Arc_reckon 106 = .ok (.aload_n 0, 1) := by decide +kernel
theorem d_Arc_reckon_107 : decode b_Arc_reckon 107 = .ok (.lload 12, 2) := by decide +kernel
theorem d_Arc_reckon_109 : decode b_Arc_reckon 109 = .ok (.iload 14, 2) := by decide +kernel
theorem d_Arc_reckon_111 : decode b_Arc_reckon 111 = .ok (.iload 15, 2) := by decide +kernel
theorem d_Arc_reckon_113 : decode b_Arc_reckon 113 = .ok (.invokevirtual 41, 3) := by decide +kernel
theorem d_Arc_reckon_116 : decode b_Arc_reckon 116 = .ok (.aload_n 0, 1) := by decide +kernel
theorem d_Arc_reckon_117 : decode b_Arc_reckon 117 = .ok (.invokevirtual 45, 3) := by decide +kernel
theorem d_Arc_reckon_120 : decode b_Arc_reckon 120 = .ok (.iinc 11 1, 3) := by decide +kernel
theorem d_Arc_reckon_123 : decode b_Arc_reckon 123 = .ok (.goto (-81), 3) := by decide +kernel
theorem d_Arc_reckon_126 : decode b_Arc_reckon 126 = .ok (.aload_n 0, 1) := by decide +kernel
theorem d_Arc_reckon_127 : decode b_Arc_reckon 127 = .ok (.getfield 24, 3) := by decide +kernel
theorem d_Arc_reckon_130 : decode b_Arc_reckon 130 = .ok (.ifCond .ne 31, 3) := by decide +kernel
theorem d_Arc_reckon_133 : decode b_Arc_reckon 133 = .ok (.aload_n 0, 1) := by decide +kernel
theorem d_Arc_reckon_134 : decode b_Arc_reckon 134 = .ok (.lload 5, 2) := by decide +kernel
theorem d_Arc_reckon_136 : decode b_Arc_reckon 136 = .ok (.invokevirtual 48, 3) := by decide +kernel
theorem d_Arc_reckon_139 : decode b_Arc_reckon 139 = .ok (.aload_n 0, 1) := by decide +kernel
theorem d_Arc_reckon_140 : decode b_Arc_reckon 140 = .ok (.iload 9, 2) := by decide +kernel
theorem d_Arc_reckon_142 : decode b_Arc_reckon 142 = .ok (.invokevirtual 52, 3) := by decide +kernel
theorem d_Arc_reckon_145 : decode b_Arc_reckon 145 = .ok (.aload_n 0, 1) := by decide +kernel
theorem d_Arc_reckon_146 : decode b_Arc_reckon 146 = .ok (.aload_n 0, 1) := by decide +kernel
theorem d_Arc_reckon_147 : decode b_Arc_reckon 147 = .ok (.getfield 18, 3) := by decide +kernel
theorem d_Arc_reckon_150 : decode b_Arc_reckon 150 = .ok (.iconst 0, 1) := by decide +kernel
theorem d_Arc_reckon_151 : decode b_Arc_reckon 151 = .ok (.iaload, 1) := by decide +kernel
theorem d_Arc_reckon_152 : decode b_Arc_reckon 152 = .ok (.aload_n 0, 1) := by decide +kernel
theorem d_Arc_reckon_153 : decode b_Arc_reckon 153 = .ok (.getfield 21, 3) := by decide +kernel
theorem d_Arc_reckon_156 : decode b_Arc_reckon 156 = .ok (.iconst 0, 1) := by decide +kernel
theorem d_Arc_reckon_157 : decode b_Arc_reckon 157 = .ok (.iaload, 1) := by decide +kernel
theorem d_Arc_reckon_158 : decode b_Arc_reckon 158 = .ok (.invokevirtual 56, 3) := by decide +kernel
theorem d_Arc_reckon_161 : decode b_Arc_reckon 161 = .ok (.return_, 1) := by decide +kernel
theorem d_Arc_turnRound_0 : decode b_Arc_turnRound 0 = .ok (.aload_n 0, 1) := by decide +kernel
theorem d_Arc_turnRound_1 : decode b_Arc_turnRound 1 = .ok (.getfield 11, 3) := by decide +kernel
theorem d_Arc_turnRound_4 : decode b_Arc_turnRound 4 = .ok (.iconst 0, 1) := by decide +kernel
theorem d_Arc_turnRound_5 : decode b_Arc_turnRound 5 = .ok (.aload_n 0, 1) := by decide +kernel
theorem d_Arc_turnRound_6 : decode b_Arc_turnRound 6 = .ok (.getfield 24, 3) := by decide +kernel
theorem d_Arc_turnRound_9 : decode b_Arc_turnRound 9 = .ok (.iconst 1, 1) := by decide +kernel
theorem d_Arc_turnRound_10 : decode b_Arc_turnRound 10 = .ok (.isub, 1) := by decide +kernel
theorem d_Arc_turnRound_11 : decode b_Arc_turnRound 11 = .ok (.invokestatic 60, 3) := by decide +kernel
theorem d_Arc_turnRound_14 : decode b_Arc_turnRound 14 = .ok (.aload_n 0, 1) := by decide +kernel
theorem d_Arc_turnRound_15 : decode b_Arc_turnRound 15 = .ok (.getfield 15, 3) := by decide +kernel
theorem d_Arc_turnRound_18 : decode b_Arc_turnRound 18 = .ok (.iconst 0, 1) := by decide +kernel
theorem d_Arc_turnRound_19 : decode b_Arc_turnRound 19 = .ok (.aload_n 0, 1) := by decide +kernel
theorem d_Arc_turnRound_20 : decode b_Arc_turnRound 20 = .ok (.getfield 24, 3) := by decide +kernel
theorem d_Arc_turnRound_23 : decode b_Arc_turnRound 23 = .ok (.iconst 1, 1) := by decide +kernel
theorem d_Arc_turnRound_24 : decode b_Arc_turnRound 24 = .ok (.isub, 1) := by decide +kernel
theorem d_Arc_turnRound_25 : decode b_Arc_turnRound 25 = .ok (.invokestatic 60, 3) := by decide +kernel
theorem d_Arc_turnRound_28 : decode b_Arc_turnRound 28 = .ok (.return_, 1) := by decide +kernel
theorem d_Arc_bringTo_0 : decode b_Arc_bringTo 0 = .ok (.iconst 0, 1) := by decide +kernel
theorem d_Arc_bringTo_1 : decode b_Arc_bringTo 1 = .ok (.istore 4, 2) := by decide +kernel
theorem d_Arc_bringTo_3 : decode b_Arc_bringTo 3 = .ok (.iload 4, 2) := by decide +kernel
theorem d_Arc_bringTo_5 : decode b_Arc_bringTo 5 = .ok (.aload_n 0, 1) := by decide +kernel
theorem d_Arc_bringTo_6 : decode b_Arc_bringTo 6 = .ok (.getfield 24, 3) := by decide +kernel
theorem d_Arc_bringTo_9 : decode b_Arc_bringTo 9 = .ok (.if_icmp .ge 87, 3) := by decide +kernel
theorem d_Arc_bringTo_12 : decode b_Arc_bringTo 12 = .ok (.iload_n 1, 1) := by decide +kernel
theorem d_Arc_bringTo_13 : decode b_Arc_bringTo 13 = .ok (.i2l, 1) := by decide +kernel
theorem d_Arc_bringTo_14 : decode b_Arc_bringTo 14 = .ok (.aload_n 3, 1) := by decide +kernel
theorem d_Arc_bringTo_15 : decode b_Arc_bringTo 15 = .ok (.aload_n 0, 1) := by decide +kernel
theorem d_Arc_bringTo_16 : decode b_Arc_bringTo 16 = .ok (.getfield 11, 3) := by decide +kernel
theorem d_Arc_bringTo_19 : decode b_Arc_bringTo 19 = .ok (.iload 4, 2) := by decide +kernel
theorem d_Arc_bringTo_21 : decode b_Arc_bringTo 21 = .ok (.iaload, 1) := by decide +kernel
theorem d_Arc_bringTo_22 : decode b_Arc_bringTo 22 = .ok (.aload_n 0, 1) := by decide +kernel
theorem d_Arc_bringTo_23 : decode b_Arc_bringTo 23 = .ok (.getfield 15, 3) := by decide +kernel
theorem d_Arc_bringTo_26 : decode b_Arc_bringTo 26 = .ok (.iload 4, 2) := by decide +kernel
theorem d_Arc_bringTo_28 : decode b_Arc_bringTo 28 = .ok (.iaload, 1) := by decide +kernel
theorem d_Arc_bringTo_29 : decode b_Arc_bringTo 29 = .ok (.invokevirtual 64, 3) := by decide +kernel
theorem d_Arc_bringTo_32 : decode b_Arc_bringTo 32 = .ok (.ladd, 1) := by decide +kernel
theorem d_Arc_bringTo_33 : decode b_Arc_bringTo 33 = .ok (.lstore 5, 2) := by decide +kernel
theorem d_Arc_bringTo_35 : decode b_Arc_bringTo 35 = .ok (.iload_n 2, 1) := by decide +kernel
theorem d_Arc_bringTo_36 : decode b_Arc_bringTo 36 = .ok (.i2l, 1) := by decide +kernel
theorem d_Arc_bringTo_37 : decode b_Arc_bringTo 37 = .ok (.aload_n 3, 1) := by decide +kernel
theorem d_Arc_bringTo_38 : decode b_Arc_bringTo 38 = .ok (.aload_n 0, 1) := by decide +kernel
theorem d_Arc_bringTo_39 : decode b_Arc_bringTo 39 = .ok (.getfield 11, 3) := by decide +kernel
theorem d_Arc_bringTo_42 : decode b_Arc_bringTo 42 = .ok (.iload 4, 2) := by decide +kernel
theorem d_Arc_bringTo_44 : decode b_Arc_bringTo 44 = .ok (.iaload, 1) := by decide +kernel
theorem d_Arc_bringTo_45 : decode b_Arc_bringTo 45 = .ok (.aload_n 0, 1) := by decide +kernel
theorem d_Arc_bringTo_46 : decode b_Arc_bringTo 46 = .ok (.getfield 15, 3) := by decide +kernel
theorem d_Arc_bringTo_49 : decode b_Arc_bringTo 49 = .ok (.iload 4, 2) := by decide +kernel
theorem d_Arc_bringTo_51 : decode b_Arc_bringTo 51 = .ok (.iaload, 1) := by decide +kernel
theorem d_Arc_bringTo_52 : decode b_Arc_bringTo 52 = .ok (.invokevirtual 70, 3) := by decide +kernel
theorem d_Arc_bringTo_55 : decode b_Arc_bringTo 55 = .ok (.ladd, 1) := by decide +kernel
theorem d_Arc_bringTo_56 : decode b_Arc_bringTo 56 = .ok (.lstore 7, 2) := by decide +kernel
theorem d_Arc_bringTo_58 : decode b_Arc_bringTo 58 = .ok (.lload 5, 2) := by decide +kernel
theorem d_Arc_bringTo_60 : decode b_Arc_bringTo 60 = .ok (.lload 7, 2) := by decide +kernel
theorem d_Arc_bringTo_62 : decode b_Arc_bringTo 62 = .ok (.invokestatic 73, 3) := by decide +kernel
theorem d_Arc_bringTo_65 : decode b_Arc_bringTo 65 = .ok (.ifCond .eq 5, 3) := by decide +kernel
theorem d_Arc_bringTo_68 : decode b_Arc_bringTo 68 = .ok (.iconst 0, 1) := by decide +kernel
theorem d_Arc_bringTo_69 : decode b_Arc_bringTo 69 = .ok (.ireturn, 1) := by decide +kernel
theorem d_Arc_bringTo_70 : decode b_Arc_bringTo 70 = .ok (.aload_n 0, 1) := by decide +kernel
theorem d_Arc_bringTo_71 : decode b_Arc_bringTo 71 = .ok (.getfield 11, 3) := by decide +kernel
theorem d_Arc_bringTo_74 : decode b_Arc_bringTo 74 = .ok (.iload 4, 2) := by decide +kernel
theorem d_Arc_bringTo_76 : decode b_Arc_bringTo 76 = .ok (.lload 5, 2) := by decide +kernel
theorem d_Arc_bringTo_78 : decode b_Arc_bringTo 78 = .ok (.l2i, 1) := by decide +kernel
theorem d_Arc_bringTo_79 : decode b_Arc_bringTo 79 = .ok (.iastore, 1) := by decide +kernel
theorem d_Arc_bringTo_80 : decode b_Arc_bringTo 80 = .ok (.aload_n 0, 1) := by decide +kernel
theorem d_Arc_bringTo_81 : decode b_Arc_bringTo 81 = .ok (.getfield 15, 3) := by decide +kernel
theorem d_Arc_bringTo_84 : decode b_Arc_bringTo 84 = .ok (.iload 4, 2) := by decide +kernel
theorem d_Arc_bringTo_86 : decode b_Arc_bringTo 86 = .ok (.lload 7, 2) := by decide +kernel
theorem d_Arc_bringTo_88 : decode b_Arc_bringTo 88 = .ok (.l2i, 1) := by decide +kernel
theorem d_Arc_bringTo_89 : decode b_Arc_bringTo 89 = .ok (.iastore, 1) := by decide +kernel
theorem d_Arc_bringTo_90 : decode b_Arc_bringTo 90 = .ok (.iinc 4 1, 3) := by decide +kernel
theorem d_Arc_bringTo_93 : decode b_Arc_bringTo 93 = .ok (.goto (-90), 3) := by decide +kernel
theorem d_Arc_bringTo_96 : decode b_Arc_bringTo 96 = .ok (.iconst 1, 1) := by decide +kernel
theorem d_Arc_bringTo_97 : decode b_Arc_bringTo 97 = .ok (.ireturn, 1) := by decide +kernel
theorem d_Arc_addCurvesTo_0 : decode b_Arc_addCurvesTo 0 = .ok (.iconst 1, 1) := by decide +kernel
theorem d_Arc_addCurvesTo_1 : decode b_Arc_addCurvesTo 1 = .ok (.istore_n 2, 1) := by decide +kernel
theorem d_Arc_addCurvesTo_2 : decode b_Arc_addCurvesTo 2 = .ok (.iload_n 2, 1) := by decide +kernel
theorem d_Arc_addCurvesTo_3 : decode b_Arc_addCurvesTo 3 = .ok (.iconst 2, 1) := by decide +kernel
theorem d_Arc_addCurvesTo_4 : decode b_Arc_addCurvesTo 4 = .ok (.iadd, 1) := by decide +kernel
theorem d_Arc_addCurvesTo_5 : decode b_Arc_addCurvesTo 5 = .ok (.aload_n 0, 1) := by decide +kernel
theorem d_Arc_addCurvesTo_6 : decode b_Arc_addCurvesTo 6 = .ok (.getfield 24, 3) := by decide +kernel
theorem d_Arc_addCurvesTo_9 : decode b_Arc_addCurvesTo 9 = .ok (.if_icmp .ge 57, 3) := by decide +kernel
theorem d_Arc_addCurvesTo_12 : decode b_Arc_addCurvesTo 12 = .ok (.aload_n 1, 1) := by decide +kernel
theorem d_Arc_addCurvesTo_13 : decode b_Arc_addCurvesTo 13 = .ok (.aload_n 0, 1) := by decide +kernel
theorem d_Arc_addCurvesTo_14 : decode b_Arc_addCurvesTo 14 = .ok (.getfield 11, 3) := by decide +kernel
theorem d_Arc_addCurvesTo_17 : decode b_Arc_addCurvesTo 17 = .ok (.iload_n 2, 1) := by decide +kernel
theorem d_Arc_addCurvesTo_18 : decode b_Arc_addCurvesTo 18 = .ok (.iaload, 1) := by decide +kernel
theorem d_Arc_addCurvesTo_19 : decode b_Arc_addCurvesTo 19 = .ok (.aload_n 0, 1) := by decide +kernel
theorem d_Arc_addCurvesTo_20 : decode b_Arc_addCurvesTo 20 = .ok (.getfield 15, 3) := by decide +kernel
theorem d_Arc_addCurvesTo_23 : decode b_Arc_addCurvesTo 23 = .ok (.iload_n 2, 1) := by decide +kernel
theorem d_Arc_addCurvesTo_24 : decode b_Arc_addCurvesTo 24 = .ok (.iaload, 1) := by decide +kernel
theorem d_Arc_addCurvesTo_25 : decode b_Arc_addCurvesTo 25 = .ok (.aload_n 0, 1) := by decide +kernel
theorem d_Arc_addCurvesTo_26 : decode b_Arc_addCurvesTo 26 = .ok (.getfield 11, 3) := by decide +kernel
theorem d_Arc_addCurvesTo_29 : decode b_Arc_addCurvesTo 29 = .ok (.iload_n 2, 1) := by decide +kernel
theorem d_Arc_addCurvesTo_30 : decode b_Arc_addCurvesTo 30 = .ok (.iconst 1, 1) := by decide +kernel
theorem d_Arc_addCurvesTo_31 : decode b_Arc_addCurvesTo 31 = .ok (.iadd, 1) := by decide +kernel
theorem d_Arc_addCurvesTo_32 : decode b_Arc_addCurvesTo 32 = .ok (.iaload, 1) := by decide +kernel
theorem d_Arc_addCurvesTo_33 : decode b_Arc_addCurvesTo 33 = .ok (.aload_n 0, 1) := by decide +kernel
theorem d_Arc_addCurvesTo_34 : decode b_Arc_addCurvesTo 34 = .ok (.getfield 15, 3) := by decide +kernel
theorem d_Arc_addCurvesTo_37 : decode b_Arc_addCurvesTo 37 = .ok (.iload_n 2, 1) := by decide +kernel
theorem d_Arc_addCurvesTo_38 : decode b_Arc_addCurvesTo 38 = .ok (.iconst 1, 1) := by decide +kernel
theorem d_Arc_addCurvesTo_39 : decode b_Arc_addCurvesTo 39 = .ok (.iadd, 1) := by decide +kernel
theorem d_Arc_addCurvesTo_40 : decode b_Arc_addCurvesTo 40 = .ok (.iaload, 1) := by decide +kernel
theorem d_Arc_addCurvesTo_41 : decode b_Arc_addCurvesTo 41 = .ok (.aload_n 0, 1) := by decide +kernel
theorem d_Arc_addCurvesTo_42 : decode b_Arc_addCurvesTo 42 = .ok (.getfield 11, 3) := by decide +kernel
theorem d_Arc_addCurvesTo_45 : decode b_Arc_addCurvesTo 45 = .ok (.iload_n 2, 1) := by decide +kernel
theorem d_Arc_addCurvesTo_46 : decode b_Arc_addCurvesTo 46 = .ok (.iconst 2, 1) := by decide +kernel
theorem d_Arc_addCurvesTo_47 : decode b_Arc_addCurvesTo 47 = .ok (.iadd, 1) := by decide +kernel
theorem d_Arc_addCurvesTo_48 : decode b_Arc_addCurvesTo 48 = .ok (.iaload, 1) := by decide +kernel
theorem d_Arc_addCurvesTo_49 : decode b_Arc_addCurvesTo 49 = .ok (.aload_n 0, 1) := by decide +kernel
theorem d_Arc_addCurvesTo_50 : decode b_Arc_addCurvesTo 50 = .ok (.getfield 15, 3) := by decide +kernel
theorem d_Arc_addCurvesTo_53 : decode b_Arc_addCurvesTo 53 = .ok (.iload_n 2, 1) := by decide +kernel
theorem d_Arc_addCurvesTo_54 : decode b_Arc_addCurvesTo 54 = .ok (.iconst 2, 1) := by decide +kernel
theorem d_Arc_addCurvesTo_55 : decode b_Arc_addCurvesTo 55 = .ok (.iadd, 1) := by decide +kernel
theorem d_Arc_addCurvesTo_56 : decode b_Arc_addCurvesTo 56 = .ok (.iaload, 1) := by decide +kernel
theorem d_Arc_addCurvesTo_57 : decode b_Arc_addCurvesTo 57 = .ok (.invokevirtual 77, 3) := by decide +kernel
theorem d_Arc_addCurvesTo_60 : decode b_Arc_addCurvesTo 60 = .ok (.iinc 2 3, 3) := by decide +kernel
theorem d_Arc_addCurvesTo_63 : decode b_Arc_addCurvesTo 63 = .ok (.goto (-61), 3) := by decide +kernel
theorem d_Arc_addCurvesTo_66 : decode b_Arc_addCurvesTo 66 = .ok (.return_, 1) := by decide +kernel
theorem d_Arc_placeIn_0 : decode b_Arc_placeIn 0 = .ok (.lload_n 2, 1) := by decide +kernel
theorem d_Arc_placeIn_1 : decode b_Arc_placeIn 1 = .ok (.lload_n 0, 1) := by decide +kernel
theorem d_Arc_placeIn_2 : decode b_Arc_placeIn 2 = .ok (.ldc2_w 28, 3) := by decide +kernel
theorem d_Arc_placeIn_5 : decode b_Arc_placeIn 5 = .ok (.lmul, 1) := by decide +kernel
theorem d_Arc_placeIn_6 : decode b_Arc_placeIn 6 = .ok (.lsub, 1) := by decide +kernel
theorem d_Arc_placeIn_7 : decode b_Arc_placeIn 7 = .ok (.ldc2_w 83, 3) := by decide +kernel
theorem d_Arc_placeIn_10 : decode b_Arc_placeIn 10 = .ok (.ladd, 1) := by decide +kernel
theorem d_Arc_placeIn_11 : decode b_Arc_placeIn 11 = .ok (.ldc2_w 85, 3) := by decide +kernel
theorem d_Arc_placeIn_14 : decode b_Arc_placeIn 14 = .ok (.ldiv, 1) := by decide +kernel
theorem d_Arc_placeIn_15 : decode b_Arc_placeIn 15 = .ok (.l2i, 1) := by decide +kernel
theorem d_Arc_placeIn_16 : decode b_Arc_placeIn 16 = .ok (.ireturn, 1) := by decide +kernel
theorem d_Arc_takePart_0 : decode b_Arc_takePart 0 = .ok (.aload_n 0, 1) := by decide +kernel
theorem d_Arc_takePart_1 : decode b_Arc_takePart 1 = .ok (.lload_n 1, 1) := by decide +kernel
theorem d_Arc_takePart_2 : decode b_Arc_takePart 2 = .ok (.invokevirtual 48, 3) := by decide +kernel
theorem d_Arc_takePart_5 : decode b_Arc_takePart 5 = .ok (.aload_n 0, 1) := by decide +kernel
theorem d_Arc_takePart_6 : decode b_Arc_takePart 6 = .ok (.iload 4, 2) := by decide +kernel
theorem d_Arc_takePart_8 : decode b_Arc_takePart 8 = .ok (.invokevirtual 87, 3) := by decide +kernel
theorem d_Arc_takePart_11 : decode b_Arc_takePart 11 = .ok (.iload_n 3, 1) := by decide +kernel
theorem d_Arc_takePart_12 : decode b_Arc_takePart 12 = .ok (.ifCond .le 31, 3) := by decide +kernel
theorem d_Arc_takePart_15 : decode b_Arc_takePart 15 = .ok (.iload 4, 2) := by decide +kernel
theorem d_Arc_takePart_17 : decode b_Arc_takePart 17 = .ok (.ifCond .le 26, 3) := by decide +kernel
theorem d_Arc_takePart_20 : decode b_Arc_takePart 20 = .ok (.aload_n 0, 1) := by decide +kernel
theorem d_Arc_takePart_21 : decode b_Arc_takePart 21 = .ok (.ldc2_w 90, 3) := by decide +kernel
theorem d_Arc_takePart_24 : decode b_Arc_takePart 24 = .ok (.iload_n 3, 1) := by decide +kernel
theorem d_Arc_takePart_25 : decode b_Arc_takePart 25 = .ok (.i2l, 1) := by decide +kernel
theorem d_Arc_takePart_26 : decode b_Arc_takePart 26 = .ok (.lmul, 1) := by decide +kernel
theorem d_Arc_takePart_27 : decode b_Arc_takePart 27 = .ok (.iload 4, 2) := by decide +kernel
theorem d_Arc_takePart_29 : decode b_Arc_takePart 29 = .ok (.i2l, 1) := by decide +kernel
theorem d_Arc_takePart_30 : decode b_Arc_takePart 30 = .ok (.ladd, 1) := by decide +kernel
theorem d_Arc_takePart_31 : decode b_Arc_takePart 31 = .ok (.ldc2_w 92, 3) := by decide +kernel
theorem d_Arc_takePart_34 : decode b_Arc_takePart 34 = .ok (.iload 4, 2) := by decide +kernel
theorem d_Arc_takePart_36 : decode b_Arc_takePart 36 = .ok (.i2l, 1) := by decide +kernel
theorem d_Arc_takePart_37 : decode b_Arc_takePart 37 = .ok (.lmul, 1) := by decide +kernel
theorem d_Arc_takePart_38 : decode b_Arc_takePart 38 = .ok (.ldiv, 1) := by decide +kernel
theorem d_Arc_takePart_39 : decode b_Arc_takePart 39 = .ok (.l2i, 1) := by decide +kernel
theorem d_Arc_takePart_40 : decode b_Arc_takePart 40 = .ok (.invokevirtual 52, 3) := by decide +kernel
theorem d_Arc_takePart_43 : decode b_Arc_takePart 43 = .ok (.return_, 1) := by decide +kernel
theorem d_Arc_takeQuarter_0 : decode b_Arc_takeQuarter 0 = .ok (.iconst 0, 1) := by decide +kernel
theorem d_Arc_takeQuarter_1 : decode b_Arc_takeQuarter 1 = .ok (.istore_n 3, 1) := by decide +kernel
theorem d_Arc_takeQuarter_2 : decode b_Arc_takeQuarter 2 = .ok (.iload_n 3, 1) := by decide +kernel
theorem d_Arc_takeQuarter_3 : decode b_Arc_takeQuarter 3 = .ok (.iconst 4, 1) := by decide +kernel
theorem d_Arc_takeQuarter_4 : decode b_Arc_takeQuarter 4 = .ok (.if_icmp .ge 37, 3) := by decide +kernel
theorem d_Arc_takeQuarter_7 : decode b_Arc_takeQuarter 7 = .ok (.aload_n 0, 1) := by decide +kernel
theorem d_Arc_takeQuarter_8 : decode b_Arc_takeQuarter 8 = .ok (.getfield 18, 3) := by decide +kernel
theorem d_Arc_takeQuarter_11 : decode b_Arc_takeQuarter 11 = .ok (.iload_n 3, 1) := by decide +kernel
theorem d_Arc_takeQuarter_12 : decode b_Arc_takeQuarter 12 = .ok (.getstatic 94, 3) := by decide +kernel
theorem d_Arc_takeQuarter_15 : decode b_Arc_takeQuarter 15 = .ok (.iconst 2, 1) := by decide +kernel
theorem d_Arc_takeQuarter_16 : decode b_Arc_takeQuarter 16 = .ok (.iload_n 3, 1) := by decide +kernel
theorem d_Arc_takeQuarter_17 : decode b_Arc_takeQuarter 17 = .ok (.imul, 1) := by decide +kernel
theorem d_Arc_takeQuarter_18 : decode b_Arc_takeQuarter 18 = .ok (.iaload, 1) := by decide +kernel
theorem d_Arc_takeQuarter_19 : decode b_Arc_takeQuarter 19 = .ok (.iastore, 1) := by decide +kernel
theorem d_Arc_takeQuarter_20 : decode b_Arc_takeQuarter 20 = .ok (.aload_n 0, 1) := by decide +kernel
theorem d_Arc_takeQuarter_21 : decode b_Arc_takeQuarter 21 = .ok (.getfield 21, 3) := by decide +kernel
theorem d_Arc_takeQuarter_24 : decode b_Arc_takeQuarter 24 = .ok (.iload_n 3, 1) := by decide +kernel
theorem d_Arc_takeQuarter_25 : decode b_Arc_takeQuarter 25 = .ok (.getstatic 94, 3) := by decide +kernel
theorem d_Arc_takeQuarter_28 : decode b_Arc_takeQuarter 28 = .ok (.iconst 2, 1) := by decide +kernel
theorem d_Arc_takeQuarter_29 : decode b_Arc_takeQuarter 29 = .ok (.iload_n 3, 1) := by decide +kernel
theorem d_Arc_takeQuarter_30 : decode b_Arc_takeQuarter 30 = .ok (.imul, 1) := by decide +kernel
theorem d_Arc_takeQuarter_31 : decode b_Arc_takeQuarter 31 = .ok (.iconst 1, 1) := by decide +kernel
theorem d_Arc_takeQuarter_32 : decode b_Arc_takeQuarter 32 = .ok (.iadd, 1) := by decide +kernel
theorem d_Arc_takeQuarter_33 : decode b_Arc_takeQuarter 33 = .ok (.iaload, 1) := by decide +kernel
theorem d_Arc_takeQuarter_34 : decode b_Arc_takeQuarter 34 = .ok (.iastore, 1) := by decide +kernel
theorem d_Arc_takeQuarter_35 : decode b_Arc_takeQuarter 35 = .ok (.iinc 3 1, 3) := by decide +kernel
theorem d_Arc_takeQuarter_38 : decode b_Arc_takeQuarter 38 = .ok (.goto (-36), 3) := by decide +kernel
theorem d_Arc_takeQuarter_41 : decode b_Arc_takeQuarter 41 = .ok (.lload_n 1, 1) := by decide +kernel
theorem d_Arc_takeQuarter_42 : decode b_Arc_takeQuarter 42 = .ok (.ldc2_w 97, 3) := by decide +kernel
theorem d_Arc_takeQuarter_45 : decode b_Arc_takeQuarter 45 = .ok (.invokestatic 99, 3) := by decide +kernel
theorem d_Arc_takeQuarter_48 : decode b_Arc_takeQuarter 48 = .ok (.l2i, 1) := by decide +kernel
theorem d_Arc_takeQuarter_49 : decode b_Arc_takeQuarter 49 = .ok (.istore_n 3, 1) := by decide +kernel
theorem d_Arc_takeQuarter_50 : decode b_Arc_takeQuarter 50 = .ok (.iconst 0, 1) := by decide +kernel
theorem d_Arc_takeQuarter_51 : decode b_Arc_takeQuarter 51 = .ok (.istore 4, 2) := by decide +kernel
theorem d_Arc_takeQuarter_53 : decode b_Arc_takeQuarter 53 = .ok (.iload 4, 2) := by decide +kernel
theorem d_Arc_takeQuarter_55 : decode b_Arc_takeQuarter 55 = .ok (.iload_n 3, 1) := by decide +kernel
theorem d_Arc_takeQuarter_56 : decode b_Arc_takeQuarter 56 = .ok (.if_icmp .ge 13, 3) := by decide +kernel
theorem d_Arc_takeQuarter_59 : decode b_Arc_takeQuarter 59 = .ok (.aload_n 0, 1) := by decide +kernel
theorem d_Arc_takeQuarter_60 : decode b_Arc_takeQuarter 60 = .ok (.invokevirtual 102, 3) := by decide +kernel
theorem d_Arc_takeQuarter_63 : decode b_Arc_takeQuarter 63 = .ok (.iinc 4 1, 3) := by decide +kernel
theorem d_Arc_takeQuarter_66 : decode b_Arc_takeQuarter 66 = .ok (.goto (-13), 3) := by decide +kernel
theorem d_Arc_takeQuarter_69 : decode b_Arc_takeQuarter 69 = .ok (.return_, 1) := by decide +kernel
theorem d_Arc_turnQuarter_0 : decode b_Arc_turnQuarter 0 = .ok (.iconst 0, 1) := by decide +kernel
theorem d_Arc_turnQuarter_1 : decode b_Arc_turnQuarter 1 = .ok (.istore_n 1, 1) := by decide +kernel
theorem d_Arc_turnQuarter_2 : decode b_Arc_turnQuarter 2 = .ok (.iload_n 1, 1) := by decide +kernel
theorem d_Arc_turnQuarter_3 : decode b_Arc_turnQuarter 3 = .ok (.iconst 4, 1) := by decide +kernel
theorem d_Arc_turnQuarter_4 : decode b_Arc_turnQuarter 4 = .ok (.if_icmp .ge 36, 3) := by decide +kernel
theorem d_Arc_turnQuarter_7 : decode b_Arc_turnQuarter 7 = .ok (.aload_n 0, 1) := by decide +kernel
theorem d_Arc_turnQuarter_8 : decode b_Arc_turnQuarter 8 = .ok (.getfield 18, 3) := by decide +kernel
theorem d_Arc_turnQuarter_11 : decode b_Arc_turnQuarter 11 = .ok (.iload_n 1, 1) := by decide +kernel
theorem d_Arc_turnQuarter_12 : decode b_Arc_turnQuarter 12 = .ok (.iaload, 1) := by decide +kernel
theorem d_Arc_turnQuarter_13 : decode b_Arc_turnQuarter 13 = .ok (.istore_n 2, 1) := by decide +kernel
theorem d_Arc_turnQuarter_14 : decode b_Arc_turnQuarter 14 = .ok (.aload_n 0, 1) := by decide +kernel
theorem d_Arc_turnQuarter_15 : decode b_Arc_turnQuarter 15 = .ok (.getfield 18, 3) := by decide +kernel
theorem d_Arc_turnQuarter_18 : decode b_Arc_turnQuarter 18 = .ok (.iload_n 1, 1) := by decide +kernel
theorem d_Arc_turnQuarter_19 : decode b_Arc_turnQuarter 19 = .ok (.aload_n 0, 1) := by decide +kernel
theorem d_Arc_turnQuarter_20 : decode b_Arc_turnQuarter 20 = .ok (.getfield 21, 3) := by decide +kernel
theorem d_Arc_turnQuarter_23 : decode b_Arc_turnQuarter 23 = .ok (.iload_n 1, 1) := by decide +kernel
theorem d_Arc_turnQuarter_24 : decode b_Arc_turnQuarter 24 = .ok (.iaload, 1) := by decide +kernel
theorem d_Arc_turnQuarter_25 : decode b_Arc_turnQuarter 25 = .ok (.ineg, 1) := by decide +kernel
theorem d_Arc_turnQuarter_26 : decode b_Arc_turnQuarter 26 = .ok (.iastore, 1) := by decide +kernel
theorem d_Arc_turnQuarter_27 : decode b_Arc_turnQuarter 27 = .ok (.aload_n 0, 1) := by decide +kernel
theorem d_Arc_turnQuarter_28 : decode b_Arc_turnQuarter 28 = .ok (.getfield 21, 3) := by decide +kernel
theorem d_Arc_turnQuarter_31 : decode b_Arc_turnQuarter 31 = .ok (.iload_n 1, 1) := by decide +kernel
theorem d_Arc_turnQuarter_32 : decode b_Arc_turnQuarter 32 = .ok (.iload_n 2, 1) := by decide +kernel
theorem d_Arc_turnQuarter_33 : decode b_Arc_turnQuarter 33 = .ok (.iastore, 1) := by decide +kernel
theorem d_Arc_turnQuarter_34 : decode b_Arc_turnQuarter 34 = .ok (.iinc 1 1, 3) := by decide +kernel
theorem d_Arc_turnQuarter_37 : decode b_Arc_turnQuarter 37 = .ok (.goto (-35), 3) := by decide +kernel
theorem d_Arc_turnQuarter_40 : decode b_Arc_turnQuarter 40 = .ok (.return_, 1) := by decide +kernel
theorem d_Arc_keepBefore_0 : decode b_Arc_keepBefore 0 = .ok (.iconst 1, 1) := by decide +kernel
theorem d_Arc_keepBefore_1 : decode b_Arc_keepBefore 1 = .ok (.istore_n 2, 1) := by decide +kernel
theorem d_Arc_keepBefore_2 : decode b_Arc_keepBefore 2 = .ok (.iload_n 2, 1) := by decide +kernel
theorem d_Arc_keepBefore_3 : decode b_Arc_keepBefore 3 = .ok (.iconst 3, 1) := by decide +kernel
theorem d_Arc_keepBefore_4 : decode b_Arc_keepBefore 4 = .ok (.if_icmp .gt 70, 3) := by decide +kernel
theorem d_Arc_keepBefore_7 : decode b_Arc_keepBefore 7 = .ok (.iconst 3, 1) := by decide +kernel
theorem d_Arc_keepBefore_8 : decode b_Arc_keepBefore 8 = .ok (.istore_n 3, 1) := by decide +kernel
theorem d_Arc_keepBefore_9 : decode b_Arc_keepBefore 9 = .ok (.iload_n 3, 1) := by decide +kernel
theorem d_Arc_keepBefore_10 : decode b_Arc_keepBefore 10 = .ok (.iload_n 2, 1) := by decide +kernel
theorem d_Arc_keepBefore_11 : decode b_Arc_keepBefore 11 = .ok (.if_icmp .lt 57, 3) := by decide +kernel
theorem d_Arc_keepBefore_14 : decode b_Arc_keepBefore 14 = .ok (.aload_n 0, 1) := by decide +kernel
theorem d_Arc_keepBefore_15 : decode b_Arc_keepBefore 15 = .ok (.getfield 18, 3) := by decide +kernel
theorem d_Arc_keepBefore_18 : decode b_Arc_keepBefore 18 = .ok (.iload_n 3, 1) := by decide +kernel
theorem d_Arc_keepBefore_19 : decode b_Arc_keepBefore 19 = .ok (.aload_n 0, 1) := by decide +kernel
theorem d_Arc_keepBefore_20 : decode b_Arc_keepBefore 20 = .ok (.getfield 18, 3) := by decide +kernel
theorem d_Arc_keepBefore_23 : decode b_Arc_keepBefore 23 = .ok (.iload_n 3, 1) := by decide +kernel
theorem d_Arc_keepBefore_24 : decode b_Arc_keepBefore 24 = .ok (.iconst 1, 1) := by decide +kernel
theorem d_Arc_keepBefore_25 : decode b_Arc_keepBefore 25 = .ok (.isub, 1) := by decide +kernel
theorem d_Arc_keepBefore_26 : decode b_Arc_keepBefore 26 = .ok (.iaload, 1) := by decide +kernel
theorem d_Arc_keepBefore_27 : decode b_Arc_keepBefore 27 = .ok (.aload_n 0, 1) := by decide +kernel
theorem d_Arc_keepBefore_28 : decode b_Arc_keepBefore 28 = .ok (.getfield 18, 3) := by decide +kernel
theorem d_Arc_keepBefore_31 : decode b_Arc_keepBefore 31 = .ok (.iload_n 3, 1) := by decide +kernel
theorem d_Arc_keepBefore_32 : decode b_Arc_keepBefore 32 = .ok (.iaload, 1) := by decide +kernel
theorem d_Arc_keepBefore_33 : decode b_Arc_keepBefore 33 = .ok (.iload_n 1, 1) := by decide +kernel
theorem d_Arc_keepBefore_34 : decode b_Arc_keepBefore 34 = .ok (.invokestatic 105, 3) := by decide +kernel
theorem d_Arc_keepBefore_37 : decode b_Arc_keepBefore 37 = .ok (.iastore, 1) := by decide +kernel
theorem d_Arc_keepBefore_38 : decode b_Arc_keepBefore 38 = .ok (.aload_n 0, 1) := by decide +kernel
theorem d_Arc_keepBefore_39 : decode b_Arc_keepBefore 39 = .ok (.getfield 21, 3) := by decide +kernel
theorem d_Arc_keepBefore_42 : decode b_Arc_keepBefore 42 = .ok (.iload_n 3, 1) := by decide +kernel
theorem d_Arc_keepBefore_43 : decode b_Arc_keepBefore 43 = .ok (.aload_n 0, 1) := by decide +kernel
theorem d_Arc_keepBefore_44 : decode b_Arc_keepBefore 44 = .ok (.getfield 21, 3) := by decide +kernel
theorem d_Arc_keepBefore_47 : decode b_Arc_keepBefore 47 = .ok (.iload_n 3, 1) := by decide +kernel
theorem d_Arc_keepBefore_48 : decode b_Arc_keepBefore 48 = .ok (.iconst 1, 1) := by decide +kernel
theorem d_Arc_keepBefore_49 : decode b_Arc_keepBefore 49 = .ok (.isub, 1) := by decide +kernel
theorem d_Arc_keepBefore_50 : decode b_Arc_keepBefore 50 = .ok (.iaload, 1) := by decide +kernel
theorem d_Arc_keepBefore_51 : decode b_Arc_keepBefore 51 = .ok (.aload_n 0, 1) := by decide +kernel
theorem d_Arc_keepBefore_52 : decode b_Arc_keepBefore 52 = .ok (.getfield 21, 3) := by decide +kernel
theorem d_Arc_keepBefore_55 : decode b_Arc_keepBefore 55 = .ok (.iload_n 3, 1) := by decide +kernel
theorem d_Arc_keepBefore_56 : decode b_Arc_keepBefore 56 = .ok (.iaload, 1) := by decide +kernel
theorem d_Arc_keepBefore_57 : decode b_Arc_keepBefore 57 = .ok (.iload_n 1, 1) := by decide +kernel
theorem d_Arc_keepBefore_58 : decode b_Arc_keepBefore 58 = .ok (.invokestatic 105, 3) := by decide +kernel
theorem d_Arc_keepBefore_61 : decode b_Arc_keepBefore 61 = .ok (.iastore, 1) := by decide +kernel
theorem d_Arc_keepBefore_62 : decode b_Arc_keepBefore 62 = .ok (.iinc 3 (-1), 3) := by decide +kernel
theorem d_Arc_keepBefore_65 : decode b_Arc_keepBefore 65 = .ok (.goto (-56), 3) := by decide +kernel
theorem d_Arc_keepBefore_68 : decode b_Arc_keepBefore 68 = .ok (.iinc 2 1, 3) := by decide +kernel
theorem d_Arc_keepBefore_71 : decode b_Arc_keepBefore 71 = .ok (.goto (-69), 3) := by decide +kernel
theorem d_Arc_keepBefore_74 : decode b_Arc_keepBefore 74 = .ok (.return_, 1) := by decide +kernel
theorem d_Arc_keepBehind_0 : decode b_Arc_keepBehind 0 = .ok (.iconst 1, 1) := by decide +kernel
theorem d_Arc_keepBehind_1 : decode b_Arc_keepBehind 1 = .ok (.istore_n 2, 1) := by decide +kernel
theorem d_Arc_keepBehind_2 : decode b_Arc_keepBehind 2 = .ok (.iload_n 2, 1) := by decide +kernel
theorem d_Arc_keepBehind_3 : decode b_Arc_keepBehind 3 = .ok (.iconst 3, 1) := by decide +kernel
theorem d_Arc_keepBehind_4 : decode b_Arc_keepBehind 4 = .ok (.if_icmp .gt 72, 3) := by decide +kernel
theorem d_Arc_keepBehind_7 : decode b_Arc_keepBehind 7 = .ok (.iconst 0, 1) := by decide +kernel
theorem d_Arc_keepBehind_8 : decode b_Arc_keepBehind 8 = .ok (.istore_n 3, 1) := by decide +kernel
theorem d_Arc_keepBehind_9 : decode b_Arc_keepBehind 9 = .ok (.iload_n 3, 1) := by decide +kernel
theorem d_Arc_keepBehind_10 : decode b_Arc_keepBehind 10 = .ok (.iconst 3, 1) := by decide +kernel
theorem d_Arc_keepBehind_11 : decode b_Arc_keepBehind 11 = .ok (.iload_n 2, 1) := by decide +kernel
theorem d_Arc_keepBehind_12 : decode b_Arc_keepBehind 12 = .ok (.isub, 1) := by decide +kernel
theorem d_Arc_keepBehind_13 : decode b_Arc_keepBehind 13 = .ok (.if_icmp .gt 57, 3) := by decide +kernel
theorem d_Arc_keepBehind_16 : decode b_Arc_keepBehind 16 = .ok (.aload_n 0, 1) := by decide +kernel
theorem d_Arc_keepBehind_17 : decode b_Arc_keepBehind 17 = .ok (.getfield 18, 3) := by decide +kernel
theorem d_Arc_keepBehind_20 : decode b_Arc_keepBehind 20 = .ok (.iload_n 3, 1) := by decide +kernel
theorem d_Arc_keepBehind_21 : decode b_Arc_keepBehind 21 = .ok (.aload_n 0, 1) := by decide +kernel
theorem d_Arc_keepBehind_22 : decode b_Arc_keepBehind 22 = .ok (.getfield 18, 3) := by decide +kernel
theorem d_Arc_keepBehind_25 : decode b_Arc_keepBehind 25 = .ok (.iload_n 3, 1) := by decide +kernel
theorem d_Arc_keepBehind_26 : decode b_Arc_keepBehind 26 = .ok (.iaload, 1) := by decide +kernel
theorem d_Arc_keepBehind_27 : decode b_Arc_keepBehind 27 = .ok (.aload_n 0, 1) := by decide +kernel
theorem d_Arc_keepBehind_28 : decode b_Arc_keepBehind 28 = .ok (.getfield 18, 3) := by decide +kernel
theorem d_Arc_keepBehind_31 : decode b_Arc_keepBehind 31 = .ok (.iload_n 3, 1) := by decide +kernel
theorem d_Arc_keepBehind_32 : decode b_Arc_keepBehind 32 = .ok (.iconst 1, 1) := by decide +kernel
theorem d_Arc_keepBehind_33 : decode b_Arc_keepBehind 33 = .ok (.iadd, 1) := by decide +kernel
theorem d_Arc_keepBehind_34 : decode b_Arc_keepBehind 34 = .ok (.iaload, 1) := by decide +kernel
theorem d_Arc_keepBehind_35 : decode b_Arc_keepBehind 35 = .ok (.iload_n 1, 1) := by decide +kernel
theorem d_Arc_keepBehind_36 : decode b_Arc_keepBehind 36 = .ok (.invokestatic 105, 3) := by decide +kernel
theorem d_Arc_keepBehind_39 : decode b_Arc_keepBehind 39 = .ok (.iastore, 1) := by decide +kernel
theorem d_Arc_keepBehind_40 : decode b_Arc_keepBehind 40 = .ok (.aload_n 0, 1) := by decide +kernel
theorem d_Arc_keepBehind_41 : decode b_Arc_keepBehind 41 = .ok (.getfield 21, 3) := by decide +kernel
theorem d_Arc_keepBehind_44 : decode b_Arc_keepBehind 44 = .ok (.iload_n 3, 1) := by decide +kernel
theorem d_Arc_keepBehind_45 : decode b_Arc_keepBehind 45 = .ok (.aload_n 0, 1) := by decide +kernel
theorem d_Arc_keepBehind_46 : decode b_Arc_keepBehind 46 = .ok (.getfield 21, 3) := by decide +kernel
theorem d_Arc_keepBehind_49 : decode b_Arc_keepBehind 49 = .ok (.iload_n 3, 1) := by decide +kernel
theorem d_Arc_keepBehind_50 : decode b_Arc_keepBehind 50 = .ok (.iaload, 1) := by decide +kernel
theorem d_Arc_keepBehind_51 : decode b_Arc_keepBehind 51 = .ok (.aload_n 0, 1) := by decide +kernel
theorem d_Arc_keepBehind_52 : decode b_Arc_keepBehind 52 = .ok (.getfield 21, 3) := by decide +kernel
theorem d_Arc_keepBehind_55 : decode b_Arc_keepBehind 55 = .ok (.iload_n 3, 1) := by decide +kernel
theorem d_Arc_keepBehind_56 : decode b_Arc_keepBehind 56 = .ok (.iconst 1, 1) := by decide +kernel
theorem d_Arc_keepBehind_57 : decode b_Arc_keepBehind 57 = .ok (.iadd, 1) := by decide +kernel
theorem d_Arc_keepBehind_58 : decode b_Arc_keepBehind 58 = .ok (.iaload, 1) := by decide +kernel
theorem d_Arc_keepBehind_59 : decode b_Arc_keepBehind 59 = .ok (.iload_n 1, 1) := by decide +kernel
theorem d_Arc_keepBehind_60 : decode b_Arc_keepBehind 60 = .ok (.invokestatic 105, 3) := by decide +kernel
theorem d_Arc_keepBehind_63 : decode b_Arc_keepBehind 63 = .ok (.iastore, 1) := by decide +kernel
theorem d_Arc_keepBehind_64 : decode b_Arc_keepBehind 64 = .ok (.iinc 3 1, 3) := by decide +kernel
theorem d_Arc_keepBehind_67 : decode b_Arc_keepBehind 67 = .ok (.goto (-58), 3) := by decide +kernel
theorem d_Arc_keepBehind_70 : decode b_Arc_keepBehind 70 = .ok (.iinc 2 1, 3) := by decide +kernel
theorem d_Arc_keepBehind_73 : decode b_Arc_keepBehind 73 = .ok (.goto (-71), 3) := by decide +kernel
theorem d_Arc_keepBehind_76 : decode b_Arc_keepBehind 76 = .ok (.return_, 1) := by decide +kernel
theorem d_Arc_mix_0 : decode b_Arc_mix 0 = .ok (.iload_n 0, 1) := by decide +kernel
theorem d_Arc_mix_1 : decode b_Arc_mix 1 = .ok (.iload_n 1, 1) := by decide +kernel
theorem d_Arc_mix_2 : decode b_Arc_mix 2 = .ok (.iload_n 0, 1) := by decide +kernel
theorem d_Arc_mix_3 : decode b_Arc_mix 3 = .ok (.isub, 1) := by decide +kernel
theorem d_Arc_mix_4 : decode b_Arc_mix 4 = .ok (.i2l, 1) := by decide +kernel
theorem d_Arc_mix_5 : decode b_Arc_mix 5 = .ok (.iload_n 2, 1) := by decide +kernel
theorem d_Arc_mix_6 : decode b_Arc_mix 6 = .ok (.i2l, 1) := by decide +kernel
theorem d_Arc_mix_7 : decode b_Arc_mix 7 = .ok (.lmul, 1) := by decide +kernel
theorem d_Arc_mix_8 : decode b_Arc_mix 8 = .ok (.ldc2_w 109, 3) := by decide +kernel
theorem d_Arc_mix_11 : decode b_Arc_mix 11 = .ok (.ladd, 1) := by decide +kernel
theorem d_Arc_mix_12 : decode b_Arc_mix 12 = .ok (.bipush 16, 2) := by decide +kernel
theorem d_Arc_mix_14 : decode b_Arc_mix 14 = .ok (.lshr, 1) := by decide +kernel
theorem d_Arc_mix_15 : decode b_Arc_mix 15 = .ok (.l2i, 1) := by decide +kernel
theorem d_Arc_mix_16 : decode b_Arc_mix 16 = .ok (.iadd, 1) := by decide +kernel
theorem d_Arc_mix_17 : decode b_Arc_mix 17 = .ok (.ireturn, 1) := by decide +kernel
theorem d_Arc_addTaken_0 : decode b_Arc_addTaken 0 = .ok (.aload_n 0, 1) := by decide +kernel
theorem d_Arc_addTaken_1 : decode b_Arc_addTaken 1 = .ok (.getfield 24, 3) := by decide +kernel
theorem d_Arc_addTaken_4 : decode b_Arc_addTaken 4 = .ok (.ifCond .ne 7, 3) := by decide +kernel
theorem d_Arc_addTaken_7 : decode b_Arc_addTaken 7 = .ok (.iconst 0, 1) := by decide +kernel
theorem d_Arc_addTaken_8 : decode b_Arc_addTaken 8 = .ok (.goto 4, 3) := by decide +kernel
theorem d_Arc_addTaken_11 : decode b_Arc_addTaken 11 = .ok (.iconst 1, 1) := by decide +kernel
theorem d_Arc_addTaken_12 : decode b_Arc_addTaken 12 = .ok (.istore_n 1, 1) := by decide +kernel
theorem d_Arc_addTaken_13 : decode b_Arc_addTaken 13 = .ok (.iload_n 1, 1) := by decide +kernel
theorem d_Arc_addTaken_14 : decode b_Arc_addTaken 14 = .ok (.iconst 4, 1) := by decide +kernel
theorem d_Arc_addTaken_15 : decode b_Arc_addTaken 15 = .ok (.if_icmp .ge 25, 3) := by decide +kernel
theorem d_Arc_addTaken_18 : decode b_Arc_addTaken 18 = .ok (.aload_n 0, 1) := by decide +kernel
theorem d_Arc_addTaken_19 : decode b_Arc_addTaken 19 = .ok (.aload_n 0, 1) := by decide +kernel
theorem d_Arc_addTaken_20 : decode b_Arc_addTaken 20 = .ok (.getfield 18, 3) := by decide +kernel
theorem d_Arc_addTaken_23 : decode b_Arc_addTaken 23 = .ok (.iload_n 1, 1) := by decide +kernel
theorem d_Arc_addTaken_24 : decode b_Arc_addTaken 24 = .ok (.iaload, 1) := by decide +kernel
theorem d_Arc_addTaken_25 : decode b_Arc_addTaken 25 = .ok (.aload_n 0, 1) := by decide +kernel
theorem d_Arc_addTaken_26 : decode b_Arc_addTaken 26 = .ok (.getfield 21, 3) := by decide +kernel
theorem d_Arc_addTaken_29 : decode b_Arc_addTaken 29 = .ok (.iload_n 1, 1) := by decide +kernel
theorem d_Arc_addTaken_30 : decode b_Arc_addTaken 30 = .ok (.iaload, 1) := by decide +kernel
theorem d_Arc_addTaken_31 : decode b_Arc_addTaken 31 = .ok (.invokevirtual 56, 3) := by decide +kernel
theorem d_Arc_addTaken_34 : decode b_Arc_addTaken 34 = .ok (.iinc 1 1, 3) := by decide +kernel
theorem d_Arc_addTaken_37 : decode b_Arc_addTaken 37 = .ok (.goto (-24), 3) := by decide +kernel
theorem d_Arc_addTaken_40 : decode b_Arc_addTaken 40 = .ok (.return_, 1) := by decide +kernel
theorem d_Arc_addPoint_0 : decode b_Arc_addPoint 0 = .ok (.aload_n 0, 1) := by decide +kernel
theorem d_Arc_addPoint_1 : decode b_Arc_addPoint 1 = .ok (.getfield 24, 3) := by decide +kernel
theorem d_Arc_addPoint_4 : decode b_Arc_addPoint 4 = .ok (.bipush 124, 2) := by decide +kernel
theorem d_Arc_addPoint_6 : decode b_Arc_addPoint 6 = .ok (.if_icmp .ge 33, 3) := by decide +kernel
theorem d_Arc_addPoint_9 : decode b_Arc_addPoint 9 = .ok (.aload_n 0, 1) := by decide +kernel
theorem d_Arc_addPoint_10 : decode b_Arc_addPoint 10 = .ok (.getfield 11, 3) := by decide +kernel
theorem d_Arc_addPoint_13 : decode b_Arc_addPoint 13 = .ok (.aload_n 0, 1) := by decide +kernel
theorem d_Arc_addPoint_14 : decode b_Arc_addPoint 14 = .ok (.getfield 24, 3) := by decide +kernel
theorem d_Arc_addPoint_17 : decode b_Arc_addPoint 17 = .ok (.iload_n 1, 1) := by decide +kernel
theorem d_Arc_addPoint_18 : decode b_Arc_addPoint 18 = .ok (.iastore, 1) := by decide +kernel
theorem d_Arc_addPoint_19 : decode b_Arc_addPoint 19 = .ok (.aload_n 0, 1) := by decide +kernel
theorem d_Arc_addPoint_20 : decode b_Arc_addPoint 20 = .ok (.getfield 15, 3) := by decide +kernel
theorem d_Arc_addPoint_23 : decode b_Arc_addPoint 23 = .ok (.aload_n 0, 1) := by decide +kernel
theorem d_Arc_addPoint_24 : decode b_Arc_addPoint 24 = .ok (.getfield 24, 3) := by decide +kernel
theorem d_Arc_addPoint_27 : decode b_Arc_addPoint 27 = .ok (.iload_n 2, 1) := by decide +kernel
theorem d_Arc_addPoint_28 : decode b_Arc_addPoint 28 = .ok (.iastore, 1) := by decide +kernel
theorem d_Arc_addPoint_29 : decode b_Arc_addPoint 29 = .ok (.aload_n 0, 1) := by decide +kernel
theorem d_Arc_addPoint_30 : decode b_Arc_addPoint 30 = .ok (.dup, 1) := by decide +kernel
theorem d_Arc_addPoint_31 : decode b_Arc_addPoint 31 = .ok (.getfield 24, 3) := by decide +kernel
theorem d_Arc_addPoint_34 : decode b_Arc_addPoint 34 = .ok (.iconst 1, 1) := by decide +kernel
theorem d_Arc_addPoint_35 : decode b_Arc_addPoint 35 = .ok (.iadd, 1) := by decide +kernel
theorem d_Arc_addPoint_36 : decode b_Arc_addPoint 36 = .ok (.putfield 24, 3) := by decide +kernel
theorem d_Arc_addPoint_39 : decode b_Arc_addPoint 39 = .ok (.return_, 1) := by decide +kernel
theorem d_Halving_init_0 : decode b_Halving_init 0 = .ok (.aload_n 0, 1) := by decide +kernel
theorem d_Halving_init_1 : decode b_Halving_init 1 = .ok (.invokespecial 1, 3) := by decide +kernel
theorem d_Halving_init_4 : decode b_Halving_init 4 = .ok (.aload_n 0, 1) := by decide +kernel
theorem d_Halving_init_5 : decode b_Halving_init 5 = .ok (.bipush 88, 2) := by decide +kernel
theorem d_Halving_init_7 : decode b_Halving_init 7 = .ok (.newarray .int, 2) := by decide +kernel
theorem d_Halving_init_9 : decode b_Halving_init 9 = .ok (.putfield 9, 3) := by decide +kernel
theorem d_Halving_init_12 : decode b_Halving_init 12 = .ok (.aload_n 0, 1) := by decide +kernel
theorem d_Halving_init_13 : decode b_Halving_init 13 = .ok (.bipush 11, 2) := by decide +kernel
theorem d_Halving_init_15 : decode b_Halving_init 15 = .ok (.newarray .int, 2) := by decide +kernel
theorem d_Halving_init_17 : decode b_Halving_init 17 = .ok (.putfield 13, 3) := by decide +kernel
theorem d_Halving_init_20 : decode b_Halving_init 20 = .ok (.return_, 1) := by decide +kernel
theorem d_Halving_take_0 : decode b_Halving_take 0 = .ok (.aload_n 0, 1) := by decide +kernel
theorem d_Halving_take_1 : decode b_Halving_take 1 = .ok (.getfield 13, 3) := by decide +kernel
theorem d_Halving_take_4 : decode b_Halving_take 4 = .ok (.iconst 0, 1) := by decide +kernel
theorem d_Halving_take_5 : decode b_Halving_take 5 = .ok (.iconst 0, 1) := by decide +kernel
theorem d_Halving_take_6 : decode b_Halving_take 6 = .ok (.iastore, 1) := by decide +kernel
theorem d_Halving_take_7 : decode b_Halving_take 7 = .ok (.iload_n 2, 1) := by decide +kernel
theorem d_Halving_take_8 : decode b_Halving_take 8 = .ok (.iconst 1, 1) := by decide +kernel
theorem d_Halving_take_9 : decode b_Halving_take 9 = .ok (.isub, 1) := by decide +kernel
theorem d_Halving_take_10 : decode b_Halving_take 10 = .ok (.iconst 0, 1) := by decide +kernel
theorem d_Halving_take_11 : decode b_Halving_take 11 = .ok (.invokestatic 16, 3) := by decide +kernel
theorem d_Halving_take_14 : decode b_Halving_take 14 = .ok (.istore_n 3, 1) := by decide +kernel
theorem d_Halving_take_15 : decode b_Halving_take 15 = .ok (.iconst 0, 1) := by decide +kernel
theorem d_Halving_take_16 : decode b_Halving_take 16 = .ok (.istore 4, 2) := by decide +kernel
theorem d_Halving_take_18 : decode b_Halving_take 18 = .ok (.iload 4, 2) := by decide +kernel
theorem d_Halving_take_20 : decode b_Halving_take 20 = .ok (.iconst 4, 1) := by decide +kernel
theorem d_Halving_take_21 : decode b_Halving_take 21 = .ok (.if_icmp .ge 58, 3) := by decide +kernel
theorem d_Halving_take_24 : decode b_Halving_take 24 = .ok (.iload_n 3, 1) := by decide +kernel
theorem d_Halving_take_25 : decode b_Halving_take 25 = .ok (.iload 4, 2) := by decide +kernel
theorem d_Halving_take_27 : decode b_Halving_take 27 = .ok (.iadd, 1) := by decide +kernel
theorem d_Halving_take_28 : decode b_Halving_take 28 = .ok (.aload_n 1, 1) := by decide +kernel
theorem d_Halving_take_29 : decode b_Halving_take 29 = .ok (.getfield 22, 3) := by decide +kernel
theorem d_Halving_take_32 : decode b_Halving_take 32 = .ok (.if_icmp .ge 47, 3) := by decide +kernel
theorem d_Halving_take_35 : decode b_Halving_take 35 = .ok (.aload_n 0, 1) := by decide +kernel
theorem d_Halving_take_36 : decode b_Halving_take 36 = .ok (.getfield 9, 3) := by decide +kernel
theorem d_Halving_take_39 : decode b_Halving_take 39 = .ok (.iconst 2, 1) := by decide +kernel
theorem d_Halving_take_40 : decode b_Halving_take 40 = .ok (.iload 4, 2) := by decide +kernel
theorem d_Halving_take_42 : decode b_Halving_take 42 = .ok (.imul, 1) := by decide +kernel
theorem d_Halving_take_43 : decode b_Halving_take 43 = .ok (.aload_n 1, 1) := by decide +kernel
theorem d_Halving_take_44 : decode b_Halving_take 44 = .ok (.getfield 28, 3) := by decide +kernel
theorem d_Halving_take_47 : decode b_Halving_take 47 = .ok (.iload_n 3, 1) := by decide +kernel
theorem d_Halving_take_48 : decode b_Halving_take 48 = .ok (.iload 4, 2) := by decide +kernel
theorem d_Halving_take_50 : decode b_Halving_take 50 = .ok (.iadd, 1) := by decide +kernel
theorem d_Halving_take_51 : decode b_Halving_take 51 = .ok (.iaload, 1) := by decide +kernel
theorem d_Halving_take_52 : decode b_Halving_take 52 = .ok (.iastore, 1) := by decide +kernel
theorem d_Halving_take_53 : decode b_Halving_take 53 = .ok (.aload_n 0, 1) := by decide +kernel
theorem d_Halving_take_54 : decode b_Halving_take 54 = .ok (.getfield 9, 3) := by decide +kernel
theorem d_Halving_take_57 : decode b_Halving_take 57 = .ok (.iconst 2, 1) := by decide +kernel
theorem d_Halving_take_58 : decode b_Halving_take 58 = .ok (.iload 4, 2) := by decide +kernel
theorem d_Halving_take_60 : decode b_Halving_take 60 = .ok (.imul, 1) := by decide +kernel
theorem d_Halving_take_61 : decode b_Halving_take 61 = .ok (.iconst 1, 1) := by decide +kernel
theorem d_Halving_take_62 : decode b_Halving_take 62 = .ok (.iadd, 1) := by decide +kernel
theorem d_Halving_take_63 : decode b_Halving_take 63 = .ok (.aload_n 1, 1) := by decide +kernel
theorem d_Halving_take_64 : decode b_Halving_take 64 = .ok (.getfield 31, 3) := by decide +kernel
theorem d_Halving_take_67 : decode b_Halving_take 67 = .ok (.iload_n 3, 1) := by decide +kernel
theorem d_Halving_take_68 : decode b_Halving_take 68 = .ok (.iload 4, 2) := by decide +kernel
theorem d_Halving_take_70 : decode b_Halving_take 70 = .ok (.iadd, 1) := by decide +kernel
theorem d_Halving_take_71 : decode b_Halving_take 71 = .ok (.iaload, 1) := by decide +kernel
theorem d_Halving_take_72 : decode b_Halving_take 72 = .ok (.iastore, 1) := by decide +kernel
theorem d_Halving_take_73 : decode b_Halving_take 73 = .ok (.iinc 4 1, 3) := by decide +kernel
theorem d_Halving_take_76 : decode b_Halving_take 76 = .ok (.goto (-58), 3) := by decide +kernel
theorem d_Halving_take_79 : decode b_Halving_take 79 = .ok (.return_, 1) := by decide +kernel
theorem d_Halving_addLinesTo_0 : decode b_Halving_addLinesTo 0 = .ok (.iconst 1, 1) := by decide +kernel
theorem d_Halving_addLinesTo_1 : decode b_Halving_addLinesTo 1 = .ok (.istore_n 3, 1) := by decide +kernel
theorem d_Halving_addLinesTo_2 : decode b_Halving_addLinesTo 2 = .ok (.iconst 0, 1) := by decide +kernel
theorem d_Halving_addLinesTo_3 : decode b_Halving_addLinesTo 3 = .ok (.istore 4, 2) := by decide +kernel
theorem d_Halving_addLinesTo_5 : decode b_Halving_addLinesTo 5 = .ok (.iload 4, 2) := by decide +kernel
theorem d_Halving_addLinesTo_7 : decode b_Halving_addLinesTo 7 = .ok (.sipush 2047, 3) := by decide +kernel
theorem d_Halving_addLinesTo_10 : decode b_Halving_addLinesTo 10 = .ok (.if_icmp .ge 98, 3) := by decide +kernel
theorem d_Halving_addLinesTo_13 : decode b_Halving_addLinesTo 13 = .ok (.iload_n 3, 1) := by decide +kernel
theorem d_Halving_addLinesTo_14 : decode b_Halving_addLinesTo 14 = .ok (.ifCond .le 94, 3) := by decide +kernel
theorem d_Halving_addLinesTo_17 : decode b_Halving_addLinesTo 17 = .ok (.iload_n 3, 1) := by decide +kernel
theorem d_Halving_addLinesTo_18 : decode b_Halving_addLinesTo 18 = .ok (.iconst 1, 1) := by decide +kernel
theorem d_Halving_addLinesTo_19 : decode b_Halving_addLinesTo 19 = .ok (.isub, 1) := by decide +kernel
theorem d_Halving_addLinesTo_20 : decode b_Halving_addLinesTo 20 = .ok (.istore 5, 2) := by decide +kernel
theorem d_Halving_addLinesTo_22 : decode b_Halving_addLinesTo 22 = .ok (.aload_n 0, 1) := by decide +kernel
theorem d_Halving_addLinesTo_23 : decode b_Halving_addLinesTo 23 = .ok (.getfield 13, 3) := by decide +kernel
theorem d_Halving_addLinesTo_26 : decode b_Halving_addLinesTo 26 = .ok (.iload 5, 2) := by decide +kernel
theorem d_Halving_addLinesTo_28 : decode b_Halving_addLinesTo 28 = .ok (.iaload, 1) := by decide +kernel
theorem d_Halving_addLinesTo_29 : decode b_Halving_addLinesTo 29 = .ok (.bipush 10, 2) := by decide +kernel
theorem d_Halving_addLinesTo_31 : decode b_Halving_addLinesTo 31 = .ok (.if_icmp .ge 25, 3) := by decide +kernel
theorem d_Halving_addLinesTo_34 : decode b_Halving_addLinesTo 34 = .ok (.aload_n 0, 1) := by decide +kernel
theorem d_Halving_addLinesTo_35 : decode b_Halving_addLinesTo 35 = .ok (.iload 5, 2) := by decide +kernel
theorem d_Halving_addLinesTo_37 : decode b_Halving_addLinesTo 37 = .ok (.iload_n 2, 1) := by decide +kernel
theorem d_Halving_addLinesTo_38 : decode b_Halving_addLinesTo 38 = .ok (.invokevirtual 34, 3) := by decide +kernel
theorem d_Halving_addLinesTo_41 : decode b_Halving_addLinesTo 41 = .ok (.ifCond .ne 15, 3) := by decide +kernel
theorem d_Halving_addLinesTo_44 : decode b_Halving_addLinesTo 44 = .ok (.aload_n 0, 1) := by decide +kernel
theorem d_Halving_addLinesTo_45 : decode b_Halving_addLinesTo 45 = .ok (.iload 5, 2) := by decide +kernel
theorem d_Halving_addLinesTo_47 : decode b_Halving_addLinesTo 47 = .ok (.invokevirtual 38, 3) := by decide +kernel
theorem d_Halving_addLinesTo_50 : decode b_Halving_addLinesTo 50 = .ok (.iinc 3 1, 3) := by decide +kernel
theorem d_Halving_addLinesTo_53 : decode b_Halving_addLinesTo 53 = .ok (.goto 49, 3) := by decide +kernel
theorem d_Halving_addLinesTo_56 : decode b_Halving_addLinesTo 56 = .ok (.aload_n 1, 1) := by decide +kernel
theorem d_Halving_addLinesTo_57 : decode b_Halving_addLinesTo 57 = .ok (.iconst 1, 1) := by decide +kernel
theorem d_Halving_addLinesTo_58 : decode b_Halving_addLinesTo 58 = .ok (.invokevirtual 42, 3) := by decide +kernel
theorem d_Halving_addLinesTo_61 : decode b_Halving_addLinesTo 61 = .ok (.ifCond .eq 39, 3) := by decide +kernel
theorem d_Halving_addLinesTo_64 : decode b_Halving_addLinesTo 64 = .ok (.aload_n 1, 1) := by decide +kernel
theorem d_Halving_addLinesTo_65 : decode b_Halving_addLinesTo 65 = .ok (.aload_n 0, 1) := by decide +kernel
theorem d_Halving_addLinesTo_66 : decode b_Halving_addLinesTo 66 = .ok (.getfield 9, 3) := by decide +kernel
theorem d_Halving_addLinesTo_69 : decode b_Halving_addLinesTo 69 = .ok (.bipush 8, 2) := by decide +kernel
theorem d_Halving_addLinesTo_71 : decode b_Halving_addLinesTo 71 = .ok (.iload 5, 2) := by decide +kernel
theorem d_Halving_addLinesTo_73 : decode b_Halving_addLinesTo 73 = .ok (.imul, 1) := by decide +kernel
theorem d_Halving_addLinesTo_74 : decode b_Halving_addLinesTo 74 = .ok (.bipush 6, 2) := by decide +kernel
theorem d_Halving_addLinesTo_76 : decode b_Halving_addLinesTo 76 = .ok (.iadd, 1) := by decide +kernel
theorem d_Halving_addLinesTo_77 : decode b_Halving_addLinesTo 77 = .ok (.iaload, 1) := by decide +kernel
theorem d_Halving_addLinesTo_78 : decode b_Halving_addLinesTo 78 = .ok (.aload_n 0, 1) := by decide +kernel
theorem d_Halving_addLinesTo_79 : decode b_Halving_addLinesTo 79 = .ok (.getfield 9, 3) := by decide +kernel
theorem d_Halving_addLinesTo_82 : decode b_Halving_addLinesTo 82 = .ok (.bipush 8, 2) := by decide +kernel
theorem d_Halving_addLinesTo_84 : decode b_Halving_addLinesTo 84 = .ok (.iload 5, 2) := by decide +kernel
theorem d_Halving_addLinesTo_86 : decode b_Halving_addLinesTo 86 = .ok (.imul, 1) := by decide +kernel
theorem d_Halving_addLinesTo_87 : decode b_Halving_addLinesTo 87 = .ok (.bipush 7, 2) := by decide +kernel
theorem d_Halving_addLinesTo_89 : decode b_Halving_addLinesTo 89 = .ok (.iadd, 1) := by decide +kernel
theorem d_Halving_addLinesTo_90 : decode b_Halving_addLinesTo 90 = .ok (.iaload, 1) := by decide +kernel
theorem d_Halving_addLinesTo_91 : decode b_Halving_addLinesTo 91 = .ok (.invokevirtual 46, 3) := by decide +kernel
theorem d_Halving_addLinesTo_94 : decode b_Halving_addLinesTo 94 = .ok (.iinc 3 (-1), 3) := by decide +kernel
theorem d_Halving_addLinesTo_97 : decode b_Halving_addLinesTo 97 = .ok (.goto 5, 3) := by decide +kernel
theorem d_Halving_addLinesTo_100 : decode b_Halving_addLinesTo 100 = .ok (.iconst 0, 1) := by decide +kernel
theorem d_Halving_addLinesTo_101 : decode b_Halving_addLinesTo 101 = .ok (.ireturn, 1) := by decide +kernel
theorem d_Halving_addLinesTo_102 : decode b_Halving_addLinesTo 102 = .ok (.iinc 4 1, 3) := by decide +kernel
theorem d_Halving_addLinesTo_105 : decode b_Halving_addLinesTo 105 = .ok (.goto (-100), 3) := by decide +kernel
theorem d_Halving_addLinesTo_108 : decode b_Halving_addLinesTo 108 = .ok (.iconst 1, 1) := by decide +kernel
theorem d_Halving_addLinesTo_109 : decode b_Halving_addLinesTo 109 = .ok (.ireturn, 1) := by decide +kernel
theorem d_Halving_isFlat_0 : decode b_Halving_isFlat 0 = .ok (.bipush 8, 2) := by decide +kernel
theorem d_Halving_isFlat_2 : decode b_Halving_isFlat 2 = .ok (.iload_n 1, 1) := by decide +kernel
theorem d_Halving_isFlat_3 : decode b_Halving_isFlat 3 = .ok (.imul, 1) := by decide +kernel
theorem d_Halving_isFlat_4 : decode b_Halving_isFlat 4 = .ok (.istore_n 3, 1) := by decide +kernel
theorem d_Halving_isFlat_5 : decode b_Halving_isFlat 5 = .ok (.aload_n 0, 1) := by decide +kernel
theorem d_Halving_isFlat_6 : decode b_Halving_isFlat 6 = .ok (.iload_n 3, 1) := by decide +kernel
theorem d_Halving_isFlat_7 : decode b_Halving_isFlat 7 = .ok (.iload_n 2, 1) := by decide +kernel
theorem d_Halving_isFlat_8 : decode b_Halving_isFlat 8 = .ok (.invokevirtual 50, 3) := by decide +kernel
theorem d_Halving_isFlat_11 : decode b_Halving_isFlat 11 = .ok (.ifCond .eq 18, 3) := by decide +kernel
theorem d_Halving_isFlat_14 : decode b_Halving_isFlat 14 = .ok (.aload_n 0, 1) := by decide +kernel
theorem d_Halving_isFlat_15 : decode b_Halving_isFlat 15 = .ok (.iload_n 3, 1) := by decide +kernel
theorem d_Halving_isFlat_16 : decode b_Halving_isFlat 16 = .ok (.iconst 1, 1) := by decide +kernel
theorem d_Halving_isFlat_17 : decode b_Halving_isFlat 17 = .ok (.iadd, 1) := by decide +kernel
theorem d_Halving_isFlat_18 : decode b_Halving_isFlat 18 = .ok (.iload_n 2, 1) := by decide +kernel
theorem d_Halving_isFlat_19 : decode b_Halving_isFlat 19 = .ok (.invokevirtual 50, 3) := by decide +kernel
theorem d_Halving_isFlat_22 : decode b_Halving_isFlat 22 = .ok (.ifCond .eq 7, 3) := by decide +kernel
theorem d_Halving_isFlat_25 : decode b_Halving_isFlat 25 = .ok (.iconst 1, 1) := by decide +kernel
theorem d_Halving_isFlat_26 : decode b_Halving_isFlat 26 = .ok (.goto 4, 3) := by decide +kernel
theorem d_Halving_isFlat_29 : decode b_Halving_isFlat 29 = .ok (.iconst 0, 1) := by decide +kernel
theorem d_Halving_isFlat_30 : decode b_Halving_isFlat 30 = .ok (.ireturn, 1) := by decide +kernel
theorem d_Halving_isFlatAlong_0 : decode b_Halving_isFlatAlong 0 = .ok (.aload_n 0, 1) := by decide +kernel
theorem d_Halving_isFlatAlong_1 : decode b_Halving_isFlatAlong 1 = .ok (.iload_n 1, 1) := by decide +kernel
theorem d_Halving_isFlatAlong_2 : decode b_Halving_isFlatAlong 2 = .ok (.iload_n 2, 1) := by decide +kernel
theorem d_Halving_isFlatAlong_3 : decode b_Halving_isFlatAlong 3 = .ok (.invokevirtual 53, 3) := by decide +kernel
theorem d_Halving_isFlatAlong_6 : decode b_Halving_isFlatAlong 6 = .ok (.ifCond .eq 18, 3) := by decide +kernel
theorem d_Halving_isFlatAlong_9 : decode b_Halving_isFlatAlong 9 = .ok (.aload_n 0, 1) := by decide +kernel
theorem d_Halving_isFlatAlong_10 : decode b_Halving_isFlatAlong 10 = .ok (.iload_n 1, 1) := by decide +kernel
theorem d_Halving_isFlatAlong_11 : decode b_Halving_isFlatAlong 11 = .ok (.iconst 2, 1) := by decide +kernel
theorem d_Halving_isFlatAlong_12 : decode b_Halving_isFlatAlong 12 = .ok (.iadd, 1) := by decide +kernel
theorem d_Halving_isFlatAlong_13 : decode b_Halving_isFlatAlong 13 = .ok (.iload_n 2, 1) := by decide +kernel
theorem d_Halving_isFlatAlong_14 : decode b_Halving_isFlatAlong 14 = .ok (.invokevirtual 53, 3) := by decide +kernel
theorem d_Halving_isFlatAlong_17 : decode b_Halving_isFlatAlong 17 = .ok (.ifCond .eq 7, 3) := by decide +kernel
theorem d_Halving_isFlatAlong_20 : decode b_Halving_isFlatAlong 20 = .ok (.iconst 1, 1) := by decide +kernel
theorem d_Halving_isFlatAlong_21 : decode b_Halving_isFlatAlong 21 = .ok (.goto 4, 3) := by decide +kernel
theorem d_Halving_isFlatAlong_24 : decode b_Halving_isFlatAlong 24 = .ok (.iconst 0, 1) := by decide +kernel
theorem d_Halving_isFlatAlong_25 : decode b_Halving_isFlatAlong 25 = .ok (.ireturn, 1) := by decide +kernel
theorem d_Halving_isStraight_0 : decode b_Halving_isStraight 0 = .ok (.aload_n 0, 1) := by decide +kernel
theorem d_Halving_isStraight_1 : decode b_Halving_isStraight 1 = .ok (.getfield 9, 3) := by decide +kernel
theorem d_Halving_isStraight_4 : decode b_Halving_isStraight 4 = .ok (.iload_n 1, 1) := by decide +kernel
theorem d_Halving_isStraight_5 : decode b_Halving_isStraight 5 = .ok (.iaload, 1) := by decide +kernel
theorem d_Halving_isStraight_6 : decode b_Halving_isStraight 6 = .ok (.i2l, 1) := by decide +kernel
theorem d_Halving_isStraight_7 : decode b_Halving_isStraight 7 = .ok (.ldc2_w 56, 3) := by decide +kernel
theorem d_Halving_isStraight_10 : decode b_Halving_isStraight 10 = .ok (.aload_n 0, 1) := by decide +kernel
theorem d_Halving_isStraight_11 : decode b_Halving_isStraight 11 = .ok (.getfield 9, 3) := by decide +kernel
theorem d_Halving_isStraight_14 : decode b_Halving_isStraight 14 = .ok (.iload_n 1, 1) := by decide +kernel
theorem d_Halving_isStraight_15 : decode b_Halving_isStraight 15 = .ok (.iconst 2, 1) := by decide +kernel
theorem d_Halving_isStraight_16 : decode b_Halving_isStraight 16 = .ok (.iadd, 1) := by decide +kernel
theorem d_Halving_isStraight_17 : decode b_Halving_isStraight 17 = .ok (.iaload, 1) := by decide +kernel
theorem d_Halving_isStraight_18 : decode b_Halving_isStraight 18 = .ok (.i2l, 1) := by decide +kernel
theorem d_Halving_isStraight_19 : decode b_Halving_isStraight 19 = .ok (.lmul, 1) := by decide +kernel
theorem d_Halving_isStraight_20 : decode b_Halving_isStraight 20 = .ok (.lsub, 1) := by decide +kernel
theorem d_Halving_isStraight_21 : decode b_Halving_isStraight 21 = .ok (.aload_n 0, 1) := by decide +kernel
theorem d_Halving_isStraight_22 : decode b_Halving_isStraight 22 = .ok (.getfield 9, 3) := by decide +kernel
theorem d_Halving_isStraight_25 : decode b_Halving_isStraight 25 = .ok (.iload_n 1, 1) := by decide +kernel
theorem d_Halving_isStraight_26 : decode b_Halving_isStraight 26 = .ok (.iconst 4, 1) := by decide +kernel
theorem d_Halving_isStraight_27 : decode b_Halving_isStraight 27 = .ok (.iadd, 1) := by decide +kernel
theorem d_Halving_isStraight_28 : decode b_Halving_isStraight 28 = .ok (.iaload, 1) := by decide +kernel
theorem d_Halving_isStraight_29 : decode b_Halving_isStraight 29 = .ok (.i2l, 1) := by decide +kernel
theorem d_Halving_isStraight_30 : decode b_Halving_isStraight 30 = .ok (.ladd, 1) := by decide +kernel
theorem d_Halving_isStraight_31 : decode b_Halving_isStraight 31 = .ok (.lstore_n 3, 1) := by decide +kernel
theorem d_Halving_isStraight_32 : decode b_Halving_isStraight 32 = .ok (.ldc2_w 58, 3) := by decide +kernel
theorem d_Halving_isStraight_35 : decode b_Halving_isStraight 35 = .ok (.lload_n 3, 1) := by decide +kernel
theorem d_Halving_isStraight_36 : decode b_Halving_isStraight 36 = .ok (.invokestatic 60, 3) := by decide +kernel
theorem d_Halving_isStraight_39 : decode b_Halving_isStraight 39 = .ok (.lmul, 1) := by decide +kernel
theorem d_Halving_isStraight_40 : decode b_Halving_isStraight 40 = .ok (.ldc2_w 56, 3) := by decide +kernel
theorem d_Halving_isStraight_43 : decode b_Halving_isStraight 43 = .ok (.iload_n 2, 1) := by decide +kernel
theorem d_Halving_isStraight_44 : decode b_Halving_isStraight 44 = .ok (.i2l, 1) := by decide +kernel
theorem d_Halving_isStraight_45 : decode b_Halving_isStraight 45 = .ok (.lmul, 1) := by decide +kernel
theorem d_Halving_isStraight_46 : decode b_Halving_isStraight 46 = .ok (.lcmp, 1) := by decide +kernel
theorem d_Halving_isStraight_47 : decode b_Halving_isStraight 47 = .ok (.ifCond .gt 7, 3) := by decide +kernel
theorem d_Halving_isStraight_50 : decode b_Halving_isStraight 50 = .ok (.iconst 1, 1) := by decide +kernel
theorem d_Halving_isStraight_51 : decode b_Halving_isStraight 51 = .ok (.goto 4, 3) := by decide +kernel
theorem d_Halving_isStraight_54 : decode b_Halving_isStraight 54 = .ok (.iconst 0, 1) := by decide +kernel
theorem d_Halving_isStraight_55 : decode b_Halving_isStraight 55 = .ok (.ireturn, 1) := by decide +kernel
theorem d_Halving_halve_0 : decode b_Halving_halve 0 = .ok (.aload_n 0, 1) := by decide +kernel
theorem d_Halving_halve_1 : decode b_Halving_halve 1 = .ok (.bipush 8, 2) := by decide +kernel
theorem d_Halving_halve_3 : decode b_Halving_halve 3 = .ok (.iload_n 1, 1) := by decide +kernel
theorem d_Halving_halve_4 : decode b_Halving_halve 4 = .ok (.imul, 1) := by decide +kernel
theorem d_Halving_halve_5 : decode b_Halving_halve 5 = .ok (.invokevirtual 64, 3) := by decide +kernel
theorem d_Halving_halve_8 : decode b_Halving_halve 8 = .ok (.aload_n 0, 1) := by decide +kernel
theorem d_Halving_halve_9 : decode b_Halving_halve 9 = .ok (.bipush 8, 2) := by decide +kernel
theorem d_Halving_halve_11 : decode b_Halving_halve 11 = .ok (.iload_n 1, 1) := by decide +kernel
theorem d_Halving_halve_12 : decode b_Halving_halve 12 = .ok (.imul, 1) := by decide +kernel
theorem d_Halving_halve_13 : decode b_Halving_halve 13 = .ok (.iconst 1, 1) := by decide +kernel
theorem d_Halving_halve_14 : decode b_Halving_halve 14 = .ok (.iadd, 1) := by decide +kernel
theorem d_Halving_halve_15 : decode b_Halving_halve 15 = .ok (.invokevirtual 64, 3) := by decide +kernel
theorem d_Halving_halve_18 : decode b_Halving_halve 18 = .ok (.aload_n 0, 1) := by decide +kernel
theorem d_Halving_halve_19 : decode b_Halving_halve 19 = .ok (.getfield 13, 3) := by decide +kernel
theorem d_Halving_halve_22 : decode b_Halving_halve 22 = .ok (.iload_n 1, 1) := by decide +kernel
theorem d_Halving_halve_23 : decode b_Halving_halve 23 = .ok (.dup2, 1) := by decide +kernel
theorem d_Halving_halve_24 : decode b_Halving_halve 24 = .ok (.iaload, 1) := by decide +kernel
theorem d_Halving_halve_25 : decode b_Halving_halve 25 = .ok (.iconst 1, 1) := by decide +kernel
theorem d_Halving_halve_26 : decode b_Halving_halve 26 = .ok (.iadd, 1) := by decide +kernel
theorem d_Halving_halve_27 : decode b_Halving_halve 27 = .ok (.iastore, 1) := by decide +kernel
theorem d_Halving_halve_28 : decode b_Halving_halve 28 = .ok (.aload_n 0, 1) := by decide +kernel
theorem d_Halving_halve_29 : decode b_Halving_halve 29 = .ok (.getfield 13, 3) := by decide +kernel
theorem d_Halving_halve_32 : decode b_Halving_halve 32 = .ok (.iload_n 1, 1) := by decide +kernel
theorem d_Halving_halve_33 : decode b_Halving_halve 33 = .ok (.iconst 1, 1) := by decide +kernel
theorem d_Halving_halve_34 : decode b_Halving_halve 34 = .ok (.iadd, 1) := by decide +kernel
theorem d_Halving_halve_35 : decode b_Halving_halve 35 = .ok (.aload_n 0, 1) := by decide +kernel
theorem d_Halving_halve_36 : decode b_Halving_halve 36 = .ok (.getfield 13, 3) := by decide +kernel
theorem d_Halving_halve_39 : decode b_Halving_halve 39 = .ok (.iload_n 1, 1) := by decide +kernel
theorem d_Halving_halve_40 : decode b_Halving_halve 40 = .ok (.iaload, 1) := by decide +kernel
theorem d_Halving_halve_41 : decode b_Halving_halve 41 = .ok (.iastore, 1) := by decide +kernel
theorem d_Halving_halve_42 : decode b_Halving_halve 42 = .ok (.return_, 1) := by decide +kernel
theorem d_Halving_halveAlong_0 : decode b_Halving_halveAlong 0 = .ok (.aload_n 0, 1) := by decide +kernel
theorem d_Halving_halveAlong_1 : decode b_Halving_halveAlong 1 = .ok (.getfield 9, 3) := by decide +kernel
theorem d_Halving_halveAlong_4 : decode b_Halving_halveAlong 4 = .ok (.iload_n 1, 1) := by decide +kernel
theorem d_Halving_halveAlong_5 : decode b_Halving_halveAlong 5 = .ok (.iaload, 1) := by decide +kernel
theorem d_Halving_halveAlong_6 : decode b_Halving_halveAlong 6 = .ok (.istore_n 2, 1) := by decide +kernel
theorem d_Halving_halveAlong_7 : decode b_Halving_halveAlong 7 = .ok (.aload_n 0, 1) := by decide +kernel
theorem d_Halving_halveAlong_8 : decode b_Halving_halveAlong 8 = .ok (.getfield 9, 3) := by decide +kernel
theorem d_Halving_halveAlong_11 : decode b_Halving_halveAlong 11 = .ok (.iload_n 1, 1) := by decide +kernel
theorem d_Halving_halveAlong_12 : decode b_Halving_halveAlong 12 = .ok (.bipush 6, 2) := by decide +kernel
theorem d_Halving_halveAlong_14 : decode b_Halving_halveAlong 14 = .ok (.iadd, 1) := by decide +kernel
theorem d_Halving_halveAlong_15 : decode b_Halving_halveAlong 15 = .ok (.iaload, 1) := by decide +kernel
theorem d_Halving_halveAlong_16 : decode b_Halving_halveAlong 16 = .ok (.istore_n 3, 1) := by decide +kernel
theorem d_Halving_halveAlong_17 : decode b_Halving_halveAlong 17 = .ok (.iload_n 2, 1) := by decide +kernel
theorem d_Halving_halveAlong_18 : decode b_Halving_halveAlong 18 = .ok (.aload_n 0, 1) := by decide +kernel
theorem d_Halving_halveAlong_19 : decode b_Halving_halveAlong 19 = .ok (.getfield 9, 3) := by decide +kernel
theorem d_Halving_halveAlong_22 : decode b_Halving_halveAlong 22 = .ok (.iload_n 1, 1) := by decide +kernel
theorem d_Halving_halveAlong_23 : decode b_Halving_halveAlong 23 = .ok (.iconst 2, 1) := by decide +kernel
theorem d_Halving_halveAlong_24 : decode b_Halving_halveAlong 24 = .ok (.iadd, 1) := by decide +kernel
theorem d_Halving_halveAlong_25 : decode b_Halving_halveAlong 25 = .ok (.iaload, 1) := by decide +kernel
theorem d_Halving_halveAlong_26 : decode b_Halving_halveAlong 26 = .ok (.iadd, 1) := by decide +kernel
theorem d_Halving_halveAlong_27 : decode b_Halving_halveAlong 27 = .ok (.iconst 1, 1) := by decide +kernel
theorem d_Halving_halveAlong_28 : decode b_Halving_halveAlong 28 = .ok (.ishr, 1) := by decide +kernel
theorem d_Halving_halveAlong_29 : decode b_Halving_halveAlong 29 = .ok (.istore 4, 2) := by decide +kernel
theorem d_Halving_halveAlong_31 : decode b_Halving_halveAlong 31 = .ok (.aload_n 0, 1) := by decide +kernel
theorem d_Halving_halveAlong_32 : decode b_Halving_halveAlong 32 = .ok (.getfield 9, 3) := by decide +kernel
theorem d_Halving_halveAlong_35 : decode b_Halving_halveAlong 35 = .ok (.iload_n 1, 1) := by decide +kernel
theorem d_Halving_halveAlong_36 : decode b_Halving_halveAlong 36 = .ok (.iconst 2, 1) := by decide +kernel
theorem d_Halving_halveAlong_37 : decode b_Halving_halveAlong 37 = .ok (.iadd, 1) := by decide +kernel
theorem d_Halving_halveAlong_38 : decode b_Halving_halveAlong 38 = .ok (.iaload, 1) := by decide +kernel
theorem d_Halving_halveAlong_39 : decode b_Halving_halveAlong 39 = .ok (.aload_n 0, 1) := by decide +kernel
theorem d_Halving_halveAlong_40 : decode b_Halving_halveAlong 40 = .ok (.getfield 9, 3) := by decide +kernel
theorem d_Halving_halveAlong_43 : decode b_Halving_halveAlong 43 = .ok (.iload_n 1, 1) := by decide +kernel
theorem d_Halving_halveAlong_44 : decode b_Halving_halveAlong 44 = .ok (.iconst 4, 1) := by decide +kernel
theorem d_Halving_halveAlong_45 : decode b_Halving_halveAlong 45 = .ok (.iadd, 1) := by decide +kernel
theorem d_Halving_halveAlong_46 : decode b_Halving_halveAlong 46 = .ok (.iaload, 1) := by decide +kernel
theorem d_Halving_halveAlong_47 : decode b_Halving_halveAlong 47 = .ok (.iadd, 1) := by decide +kernel
theorem d_Halving_halveAlong_48 : decode b_Halving_halveAlong 48 = .ok (.iconst 1, 1) := by decide +kernel
theorem d_Halving_halveAlong_49 : decode b_Halving_halveAlong 49 = .ok (.ishr, 1) := by decide +kernel
theorem d_Halving_halveAlong_50 : decode b_Halving_halveAlong 50 = .ok (.istore 5, 2) := by decide +kernel
theorem d_Halving_halveAlong_52 : decode b_Halving_halveAlong 52 = .ok (.aload_n 0, 1) := by decide +kernel
theorem d_Halving_halveAlong_53 : decode b_Halving_halveAlong 53 = .ok (.getfield 9, 3) := by decide +kernel
theorem d_Halving_halveAlong_56 : decode b_Halving_halveAlong 56 = .ok (.iload_n 1, 1) := by decide +kernel
theorem d_Halving_halveAlong_57 : decode b_Halving_halveAlong 57 = .ok (.iconst 4, 1) := by decide +kernel
theorem d_Halving_halveAlong_58 : decode b_Halving_halveAlong 58 = .ok (.iadd, 1) := by decide +kernel
theorem d_Halving_halveAlong_59 : decode b_Halving_halveAlong 59 = .ok (.iaload, 1) := by decide +kernel
theorem d_Halving_halveAlong_60 : decode b_Halving_halveAlong 60 = .ok (.iload_n 3, 1) := by decide +kernel
theorem d_Halving_halveAlong_61 : decode b_Halving_halveAlong 61 = .ok (.iadd, 1) := by decide +kernel
theorem d_Halving_halveAlong_62 : decode b_Halving_halveAlong 62 = .ok (.iconst 1, 1) := by decide +kernel
theorem d_Halving_halveAlong_63 : decode b_Halving_halveAlong 63 = .ok (.ishr, 1) := by decide +kernel
theorem d_Halving_halveAlong_64 : decode b_Halving_halveAlong 64 = .ok (.istore 6, 2) := by decide +kernel
theorem d_Halving_halveAlong_66 : decode b_Halving_halveAlong 66 = .ok (.iload 4, 2) := by decide +kernel
theorem d_Halving_halveAlong_68 : decode b_Halving_halveAlong 68 = .ok (.iload 5, 2) := by decide +kernel
theorem d_Halving_halveAlong_70 : decode b_Halving_halveAlong 70 = .ok (.iadd, 1) := by decide +kernel
theorem d_Halving_halveAlong_71 : decode b_Halving_halveAlong 71 = .ok (.iconst 1, 1) := by decide +kernel
theorem d_Halving_halveAlong_72 : decode b_Halving_halveAlong 72 = .ok (.ishr, 1) := by decide +kernel
theorem d_Halving_halveAlong_73 : decode b_Halving_halveAlong 73 = .ok (.istore 7, 2) := by decide +kernel
theorem d_Halving_halveAlong_75 : decode b_Halving_halveAlong 75 = .ok (.iload 5, 2) := by decide +kernel
theorem d_Halving_halveAlong_77 : decode b_Halving_halveAlong 77 = .ok (.iload 6, 2) := by decide +kernel
theorem d_Halving_halveAlong_79 : decode b_Halving_halveAlong 79 = .ok (.iadd, 1) := by decide +kernel
theorem d_Halving_halveAlong_80 : decode b_Halving_halveAlong 80 = .ok (.iconst 1, 1) := by decide +kernel
theorem d_Halving_halveAlong_81 : decode b_Halving_halveAlong 81 = .ok (.ishr, 1) := by decide +kernel
theorem d_Halving_halveAlong_82 : decode b_Halving_halveAlong 82 = .ok (.istore 8, 2) := by decide +kernel
theorem d_Halving_halveAlong_84 : decode b_Halving_halveAlong 84 = .ok (.iload 7, 2) := by decide +kernel
theorem d_Halving_halveAlong_86 : decode b_Halving_halveAlong 86 = .ok (.iload 8, 2) := by decide +kernel
theorem d_Halving_halveAlong_88 : decode b_Halving_halveAlong 88 = .ok (.iadd, 1) := by decide +kernel
theorem d_Halving_halveAlong_89 : decode b_Halving_halveAlong 89 = .ok (.iconst 1, 1) := by decide +kernel
theorem d_Halving_halveAlong_90 : decode b_Halving_halveAlong 90 = .ok (.ishr, 1) := by decide +kernel
theorem d_Halving_halveAlong_91 : decode b_Halving_halveAlong 91 = .ok (.istore 9, 2) := by decide +kernel
theorem d_Halving_halveAlong_93 : decode b_Halving_halveAlong 93 = .ok (.aload_n 0, 1) := by decide +kernel
theorem d_Halving_halveAlong_94 : decode b_Halving_halveAlong 94 = .ok (.iload_n 1, 1) := by decide +kernel
theorem d_Halving_halveAlong_95 : decode b_Halving_halveAlong 95 = .ok (.bipush 8, 2) := by decide +kernel
theorem d_Halving_halveAlong_97 : decode b_Halving_halveAlong 97 = .ok (.iadd, 1) := by decide +kernel
theorem d_Halving_halveAlong_98 : decode b_Halving_halveAlong 98 = .ok (.iload_n 2, 1) := by decide +kernel
theorem d_Halving_halveAlong_99 : decode b_Halving_halveAlong 99 = .ok (.iload 4, 2) := by decide +kernel
theorem d_Halving_halveAlong_101 : decode b_Halving_halveAlong 101 = .ok (.iload 7, 2) := by decide +kernel
theorem d_Halving_halveAlong_103 : decode b_Halving_halveAlong 103 = .ok (.iload 9, 2) := by decide +kernel
theorem d_Halving_halveAlong_105 : decode b_Halving_halveAlong 105 = .ok (.invokevirtual 67, 3) := by decide +kernel
theorem d_Halving_halveAlong_108 : decode b_Halving_halveAlong 108 = .ok (.aload_n 0, 1) := by decide +kernel
theorem d_Halving_halveAlong_109 : decode b_Halving_halveAlong 109 = .ok (.iload_n 1, 1) := by decide +kernel
theorem d_Halving_halveAlong_110 : decode b_Halving_halveAlong 110 = .ok (.iload 9, 2) := by decide +kernel
theorem d_Halving_halveAlong_112 : decode b_Halving_halveAlong 112 = .ok (.iload 8, 2) := by decide +kernel
theorem d_Halving_halveAlong_114 : decode b_Halving_halveAlong 114 = .ok (.iload 6, 2) := by decide +kernel
theorem d_Halving_halveAlong_116 : decode b_Halving_halveAlong 116 = .ok (.iload_n 3, 1) := by decide +kernel
theorem d_Halving_halveAlong_117 : decode b_Halving_halveAlong 117 = .ok (.invokevirtual 67, 3) := by decide +kernel
theorem d_Halving_halveAlong_120 : decode b_Halving_halveAlong 120 = .ok (.return_, 1) := by decide +kernel
theorem d_Halving_setPiece_0 : decode b_Halving_setPiece 0 = .ok (.aload_n 0, 1) := by decide +kernel
theorem d_Halving_setPiece_1 : decode b_Halving_setPiece 1 = .ok (.getfield 9, 3) := by decide +kernel
theorem d_Halving_setPiece_4 : decode b_Halving_setPiece 4 = .ok (.iload_n 1, 1) := by decide +kernel
theorem d_Halving_setPiece_5 : decode b_Halving_setPiece 5 = .ok (.iload_n 2, 1) := by decide +kernel
theorem d_Halving_setPiece_6 : decode b_Halving_setPiece 6 = .ok (.iastore, 1) := by decide +kernel
theorem d_Halving_setPiece_7 : decode b_Halving_setPiece 7 = .ok (.aload_n 0, 1) := by decide +kernel
theorem d_Halving_setPiece_8 : decode b_Halving_setPiece 8 = .ok (.getfield 9, 3) := by decide +kernel
theorem d_Halving_setPiece_11 : decode b_Halving_setPiece 11 = .ok (.iload_n 1, 1) := by decide +kernel
theorem d_Halving_setPiece_12 : decode b_Halving_setPiece 12 = .ok (.iconst 2, 1) := by decide +kernel
theorem d_Halving_setPiece_13 : decode b_Halving_setPiece 13 = .ok (.iadd, 1) := by decide +kernel
theorem d_Halving_setPiece_14 : decode b_Halving_setPiece 14 = .ok (.iload_n 3, 1) := by decide +kernel
theorem d_Halving_setPiece_15 : decode b_Halving_setPiece 15 = .ok (.iastore, 1) := by decide +kernel
theorem d_Halving_setPiece_16 : decode b_Halving_setPiece 16 = .ok (.aload_n 0, 1) := by decide +kernel
theorem d_Halving_setPiece_17 : decode b_Halving_setPiece 17 = .ok (.getfield 9, 3) := by decide +kernel
theorem d_Halving_setPiece_20 : decode b_Halving_setPiece 20 = .ok (.iload_n 1, 1) := by decide +kernel
theorem d_Halving_setPiece_21 : decode b_Halving_setPiece 21 = .ok (.iconst 4, 1) := by decide +kernel
theorem d_Halving_setPiece_22 : decode b_Halving_setPiece 22 = .ok (.iadd, 1) := by decide +kernel
theorem d_Halving_setPiece_23 : decode b_Halving_setPiece 23 = .ok (.iload 4, 2) := by decide +kernel
theorem d_Halving_setPiece_25 : decode b_Halving_setPiece 25 = .ok (.iastore, 1) := by decide +kernel
theorem d_Halving_setPiece_26 : decode b_Halving_setPiece 26 = .ok (.aload_n 0, 1) := by decide +kernel
theorem d_Halving_setPiece_27 : decode b_Halving_setPiece 27 = .ok (.getfield 9, 3) := by decide +kernel
theorem d_Halving_setPiece_30 : decode b_Halving_setPiece 30 = .ok (.iload_n 1, 1) := by decide +kernel
theorem d_Halving_setPiece_31 : decode b_Halving_setPiece 31 = .ok (.bipush 6, 2) := by decide +kernel
theorem d_Halving_setPiece_33 : decode b_Halving_setPiece 33 = .ok (.iadd, 1) := by decide +kernel
theorem d_Halving_setPiece_34 : decode b_Halving_setPiece 34 = .ok (.iload 5, 2) := by decide +kernel
theorem d_Halving_setPiece_36 : decode b_Halving_setPiece 36 = .ok (.iastore, 1) := by decide +kernel
theorem d_Halving_setPiece_37 : decode b_Halving_setPiece 37 = .ok (.return_, 1) := by decide +kernel
