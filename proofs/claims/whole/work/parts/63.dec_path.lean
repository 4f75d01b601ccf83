theorem d_Path_init_0 : decode b_Path_init 0 = .ok (.aload_n 0, 1) := by decide +kernel
theorem d_Path_init_1 : decode b_Path_init 1 = .ok (.invokespecial 3, 3) := by decide +kernel
theorem d_Path_init_4 : decode b_Path_init 4 = .ok (.aload_n 0, 1) := by decide +kernel
theorem d_Path_init_5 : decode b_Path_init 5 = .ok (.sipush 3000, 3) := by decide +kernel
theorem d_Path_init_8 : decode b_Path_init 8 = .ok (.newarray .int, 2) := by decide +kernel
theorem d_Path_init_10 : decode b_Path_init 10 = .ok (.putfield 9, 3) := by decide +kernel
theorem d_Path_init_13 : decode b_Path_init 13 = .ok (.aload_n 0, 1) := by decide +kernel
theorem d_Path_init_14 : decode b_Path_init 14 = .ok (.sipush 3000, 3) := by decide +kernel
theorem d_Path_init_17 : decode b_Path_init 17 = .ok (.newarray .int, 2) := by decide +kernel
theorem d_Path_init_19 : decode b_Path_init 19 = .ok (.putfield 15, 3) := by decide +kernel
theorem d_Path_init_22 : decode b_Path_init 22 = .ok (.aload_n 0, 1) := by decide +kernel
theorem d_Path_init_23 : decode b_Path_init 23 = .ok (.sipush 9000, 3) := by decide +kernel
theorem d_Path_init_26 : decode b_Path_init 26 = .ok (.newarray .int, 2) := by decide +kernel
theorem d_Path_init_28 : decode b_Path_init 28 = .ok (.putfield 18, 3) := by decide +kernel
theorem d_Path_init_31 : decode b_Path_init 31 = .ok (.aload_n 0, 1) := by decide +kernel
theorem d_Path_init_32 : decode b_Path_init 32 = .ok (.sipush 9000, 3) := by decide +kernel
theorem d_Path_init_35 : decode b_Path_init 35 = .ok (.newarray .int, 2) := by decide +kernel
theorem d_Path_init_37 : decode b_Path_init 37 = .ok (.putfield 21, 3) := by decide +kernel
theorem d_Path_init_40 : decode b_Path_init 40 = .ok (.return_, 1) := by decide +kernel
theorem d_Path_isEmpty_0 : decode b_Path_isEmpty 0 = .ok (.aload_n 0, 1) := by decide +kernel
theorem d_Path_isEmpty_1 : decode b_Path_isEmpty 1 = .ok (.getfield 24, 3) := by decide +kernel
theorem d_Path_isEmpty_4 : decode b_Path_isEmpty 4 = .ok (.ifCond .ne 7, 3) := by decide +kernel
theorem d_Path_isEmpty_7 : decode b_Path_isEmpty 7 = .ok (.iconst 1, 1) := by decide +kernel
theorem d_Path_isEmpty_8 : decode b_Path_isEmpty 8 = .ok (.goto 4, 3) := by decide +kernel
theorem d_Path_isEmpty_11 : decode b_Path_isEmpty 11 = .ok (.iconst 0, 1) := by decide +kernel
theorem d_Path_isEmpty_12 : decode b_Path_isEmpty 12 = .ok (.ireturn, 1) := by decide +kernel
theorem d_Path_hasPart_0 : decode b_Path_hasPart 0 = .ok (.iload_n 1, 1) := by decide +kernel
theorem d_Path_hasPart_1 : decode b_Path_hasPart 1 = .ok (.ifCond .lt 15, 3) := by decide +kernel
theorem d_Path_hasPart_4 : decode b_Path_hasPart 4 = .ok (.iload_n 1, 1) := by decide +kernel
theorem d_Path_hasPart_5 : decode b_Path_hasPart 5 = .ok (.aload_n 0, 1) := by decide +kernel
theorem d_Path_hasPart_6 : decode b_Path_hasPart 6 = .ok (.getfield 24, 3) := by decide +kernel
theorem d_Path_hasPart_9 : decode b_Path_hasPart 9 = .ok (.if_icmp .ge 7, 3) := by decide +kernel
theorem d_Path_hasPart_12 : decode b_Path_hasPart 12 = .ok (.iconst 1, 1) := by decide +kernel
theorem d_Path_hasPart_13 : decode b_Path_hasPart 13 = .ok (.goto 4, 3) := by decide +kernel
theorem d_Path_hasPart_16 : decode b_Path_hasPart 16 = .ok (.iconst 0, 1) := by decide +kernel
theorem d_Path_hasPart_17 : decode b_Path_hasPart 17 = .ok (.ireturn, 1) := by decide +kernel
theorem d_Path_onlyBegan_0 : decode b_Path_onlyBegan 0 = .ok (.aload_n 0, 1) := by decide +kernel
theorem d_Path_onlyBegan_1 : decode b_Path_onlyBegan 1 = .ok (.getfield 24, 3) := by decide +kernel
theorem d_Path_onlyBegan_4 : decode b_Path_onlyBegan 4 = .ok (.ifCond .le 21, 3) := by decide +kernel
theorem d_Path_onlyBegan_7 : decode b_Path_onlyBegan 7 = .ok (.aload_n 0, 1) := by decide +kernel
theorem d_Path_onlyBegan_8 : decode b_Path_onlyBegan 8 = .ok (.getfield 9, 3) := by decide +kernel
theorem d_Path_onlyBegan_11 : decode b_Path_onlyBegan 11 = .ok (.aload_n 0, 1) := by decide +kernel
theorem d_Path_onlyBegan_12 : decode b_Path_onlyBegan 12 = .ok (.getfield 24, 3) := by decide +kernel
theorem d_Path_onlyBegan_15 : decode b_Path_onlyBegan 15 = .ok (.iconst 1, 1) := by decide +kernel
theorem d_Path_onlyBegan_16 : decode b_Path_onlyBegan 16 = .ok (.isub, 1) := by decide +kernel
theorem d_Path_onlyBegan_17 : decode b_Path_onlyBegan 17 = .ok (.iaload, 1) := by decide +kernel
theorem d_Path_onlyBegan_18 : decode b_Path_onlyBegan 18 = .ok (.ifCond .ne 7, 3) := by decide +kernel
theorem d_Path_onlyBegan_21 : decode b_Path_onlyBegan 21 = .ok (.iconst 1, 1) := by decide +kernel
theorem d_Path_onlyBegan_22 : decode b_Path_onlyBegan 22 = .ok (.goto 4, 3) := by decide +kernel
theorem d_Path_onlyBegan_25 : decode b_Path_onlyBegan 25 = .ok (.iconst 0, 1) := by decide +kernel
theorem d_Path_onlyBegan_26 : decode b_Path_onlyBegan 26 = .ok (.ireturn, 1) := by decide +kernel
theorem d_Path_isClosed_0 : decode b_Path_isClosed 0 = .ok (.aload_n 0, 1) := by decide +kernel
theorem d_Path_isClosed_1 : decode b_Path_isClosed 1 = .ok (.getfield 24, 3) := by decide +kernel
theorem d_Path_isClosed_4 : decode b_Path_isClosed 4 = .ok (.ifCond .le 22, 3) := by decide +kernel
theorem d_Path_isClosed_7 : decode b_Path_isClosed 7 = .ok (.aload_n 0, 1) := by decide +kernel
theorem d_Path_isClosed_8 : decode b_Path_isClosed 8 = .ok (.getfield 9, 3) := by decide +kernel
theorem d_Path_isClosed_11 : decode b_Path_isClosed 11 = .ok (.aload_n 0, 1) := by decide +kernel
theorem d_Path_isClosed_12 : decode b_Path_isClosed 12 = .ok (.getfield 24, 3) := by decide +kernel
theorem d_Path_isClosed_15 : decode b_Path_isClosed 15 = .ok (.iconst 1, 1) := by decide +kernel
theorem d_Path_isClosed_16 : decode b_Path_isClosed 16 = .ok (.isub, 1) := by decide +kernel
theorem d_Path_isClosed_17 : decode b_Path_isClosed 17 = .ok (.iaload, 1) := by decide +kernel
theorem d_Path_isClosed_18 : decode b_Path_isClosed 18 = .ok (.iconst 3, 1) := by decide +kernel
theorem d_Path_isClosed_19 : decode b_Path_isClosed 19 = .ok (.if_icmp .ne 7, 3) := by decide +kernel
theorem d_Path_isClosed_22 : decode b_Path_isClosed 22 = .ok (.iconst 1, 1) := by decide +kernel
theorem d_Path_isClosed_23 : decode b_Path_isClosed 23 = .ok (.goto 4, 3) := by decide +kernel
theorem d_Path_isClosed_26 : decode b_Path_isClosed 26 = .ok (.iconst 0, 1) := by decide +kernel
theorem d_Path_isClosed_27 : decode b_Path_isClosed 27 = .ok (.ireturn, 1) := by decide +kernel
theorem d_Path_takes_0 : decode b_Path_takes 0 = .ok (.aload_n 0, 1) := by decide +kernel
theorem d_Path_takes_1 : decode b_Path_takes 1 = .ok (.getfield 24, 3) := by decide +kernel
theorem d_Path_takes_4 : decode b_Path_takes 4 = .ok (.iload_n 1, 1) := by decide +kernel
theorem d_Path_takes_5 : decode b_Path_takes 5 = .ok (.iadd, 1) := by decide +kernel
theorem d_Path_takes_6 : decode b_Path_takes 6 = .ok (.sipush 3000, 3) := by decide +kernel
theorem d_Path_takes_9 : decode b_Path_takes 9 = .ok (.if_icmp .gt 7, 3) := by decide +kernel
theorem d_Path_takes_12 : decode b_Path_takes 12 = .ok (.iconst 1, 1) := by decide +kernel
theorem d_Path_takes_13 : decode b_Path_takes 13 = .ok (.goto 4, 3) := by decide +kernel
theorem d_Path_takes_16 : decode b_Path_takes 16 = .ok (.iconst 0, 1) := by decide +kernel
theorem d_Path_takes_17 : decode b_Path_takes 17 = .ok (.ireturn, 1) := by decide +kernel
theorem d_Path_takesSegments_0 : decode b_Path_takesSegments 0 = .ok (.aload_n 0, 1) := by decide +kernel
theorem d_Path_takesSegments_1 : decode b_Path_takesSegments 1 = .ok (.aload_n 0, 1) := by decide +kernel
theorem d_Path_takesSegments_2 : decode b_Path_takesSegments 2 = .ok (.invokevirtual 28, 3) := by decide +kernel
theorem d_Path_takesSegments_5 : decode b_Path_takesSegments 5 = .ok (.ifCond .eq 9, 3) := by decide +kernel
theorem d_Path_takesSegments_8 : decode b_Path_takesSegments 8 = .ok (.iload_n 1, 1) := by decide +kernel
theorem d_Path_takesSegments_9 : decode b_Path_takesSegments 9 = .ok (.iconst 1, 1) := by decide +kernel
theorem d_Path_takesSegments_10 : decode b_Path_takesSegments 10 = .ok (.iadd, 1) := by decide +kernel
theorem d_Path_takesSegments_11 : decode b_Path_takesSegments 11 = .ok (.goto 4, 3) := by decide +kernel
theorem d_Path_takesSegments_14 : decode b_Path_takesSegments 14 = .ok (.iload_n 1, 1) := by decide +kernel
theorem d_Path_takesSegments_15 : decode b_Path_takesSegments 15 = .ok (.invokevirtual 32, 3) := by decide +kernel
theorem d_Path_takesSegments_18 : decode b_Path_takesSegments 18 = .ok (.ireturn, 1) := by decide +kernel
theorem d_Path_pointOf_0 : decode b_Path_pointOf 0 = .ok (.aload_n 0, 1) := by decide +kernel
theorem d_Path_pointOf_1 : decode b_Path_pointOf 1 = .ok (.getfield 9, 3) := by decide +kernel
theorem d_Path_pointOf_4 : decode b_Path_pointOf 4 = .ok (.iload_n 1, 1) := by decide +kernel
theorem d_Path_pointOf_5 : decode b_Path_pointOf 5 = .ok (.iaload, 1) := by decide +kernel
theorem d_Path_pointOf_6 : decode b_Path_pointOf 6 = .ok (.iconst 2, 1) := by decide +kernel
theorem d_Path_pointOf_7 : decode b_Path_pointOf 7 = .ok (.if_icmp .ne 14, 3) := by decide +kernel
theorem d_Path_pointOf_10 : decode b_Path_pointOf 10 = .ok (.aload_n 0, 1) := by decide +kernel
theorem d_Path_pointOf_11 : decode b_Path_pointOf 11 = .ok (.getfield 15, 3) := by decide +kernel
theorem d_Path_pointOf_14 : decode b_Path_pointOf 14 = .ok (.iload_n 1, 1) := by decide +kernel
theorem d_Path_pointOf_15 : decode b_Path_pointOf 15 = .ok (.iaload, 1) := by decide +kernel
theorem d_Path_pointOf_16 : decode b_Path_pointOf 16 = .ok (.iconst 2, 1) := by decide +kernel
theorem d_Path_pointOf_17 : decode b_Path_pointOf 17 = .ok (.iadd, 1) := by decide +kernel
theorem d_Path_pointOf_18 : decode b_Path_pointOf 18 = .ok (.goto 9, 3) := by decide +kernel
theorem d_Path_pointOf_21 : decode b_Path_pointOf 21 = .ok (.aload_n 0, 1) := by decide +kernel
theorem d_Path_pointOf_22 : decode b_Path_pointOf 22 = .ok (.getfield 15, 3) := by decide +kernel
theorem d_Path_pointOf_25 : decode b_Path_pointOf 25 = .ok (.iload_n 1, 1) := by decide +kernel
theorem d_Path_pointOf_26 : decode b_Path_pointOf 26 = .ok (.iaload, 1) := by decide +kernel
theorem d_Path_pointOf_27 : decode b_Path_pointOf 27 = .ok (.ireturn, 1) := by decide +kernel
theorem d_Path_latestPoint_0 : decode b_Path_latestPoint 0 = .ok (.aload_n 0, 1) := by decide +kernel
theorem d_Path_latestPoint_1 : decode b_Path_latestPoint 1 = .ok (.aload_n 0, 1) := by decide +kernel
theorem d_Path_latestPoint_2 : decode b_Path_latestPoint 2 = .ok (.getfield 24, 3) := by decide +kernel
theorem d_Path_latestPoint_5 : decode b_Path_latestPoint 5 = .ok (.iconst 1, 1) := by decide +kernel
theorem d_Path_latestPoint_6 : decode b_Path_latestPoint 6 = .ok (.isub, 1) := by decide +kernel
theorem d_Path_latestPoint_7 : decode b_Path_latestPoint 7 = .ok (.invokevirtual 36, 3) := by decide +kernel
theorem d_Path_latestPoint_10 : decode b_Path_latestPoint 10 = .ok (.ireturn, 1) := by decide +kernel
theorem d_Path_coordinate_0 : decode b_Path_coordinate 0 = .ok (.iload_n 2, 1) := by decide +kernel
theorem d_Path_coordinate_1 : decode b_Path_coordinate 1 = .ok (.ifCond .ne 12, 3) := by decide +kernel
theorem d_Path_coordinate_4 : decode b_Path_coordinate 4 = .ok (.aload_n 0, 1) := by decide +kernel
theorem d_Path_coordinate_5 : decode b_Path_coordinate 5 = .ok (.getfield 18, 3) := by decide +kernel
theorem d_Path_coordinate_8 : decode b_Path_coordinate 8 = .ok (.iload_n 1, 1) := by decide +kernel
theorem d_Path_coordinate_9 : decode b_Path_coordinate 9 = .ok (.iaload, 1) := by decide +kernel
theorem d_Path_coordinate_10 : decode b_Path_coordinate 10 = .ok (.goto 9, 3) := by decide +kernel
theorem d_Path_coordinate_13 : decode b_Path_coordinate 13 = .ok (.aload_n 0, 1) := by decide +kernel
theorem d_Path_coordinate_14 : decode b_Path_coordinate 14 = .ok (.getfield 21, 3) := by decide +kernel
theorem d_Path_coordinate_17 : decode b_Path_coordinate 17 = .ok (.iload_n 1, 1) := by decide +kernel
theorem d_Path_coordinate_18 : decode b_Path_coordinate 18 = .ok (.iaload, 1) := by decide +kernel
theorem d_Path_coordinate_19 : decode b_Path_coordinate 19 = .ok (.ireturn, 1) := by decide +kernel
theorem d_Path_makeEmpty_0 : decode b_Path_makeEmpty 0 = .ok (.aload_n 0, 1) := by decide +kernel
theorem d_Path_makeEmpty_1 : decode b_Path_makeEmpty 1 = .ok (.iconst 0, 1) := by decide +kernel
theorem d_Path_makeEmpty_2 : decode b_Path_makeEmpty 2 = .ok (.putfield 24, 3) := by decide +kernel
theorem d_Path_makeEmpty_5 : decode b_Path_makeEmpty 5 = .ok (.aload_n 0, 1) := by decide +kernel
theorem d_Path_makeEmpty_6 : decode b_Path_makeEmpty 6 = .ok (.iconst 0, 1) := by decide +kernel
theorem d_Path_makeEmpty_7 : decode b_Path_makeEmpty 7 = .ok (.putfield 40, 3) := by decide +kernel
theorem d_Path_makeEmpty_10 : decode b_Path_makeEmpty 10 = .ok (.aload_n 0, 1) := by decide +kernel
theorem d_Path_makeEmpty_11 : decode b_Path_makeEmpty 11 = .ok (.iconst 0, 1) := by decide +kernel
theorem d_Path_makeEmpty_12 : decode b_Path_makeEmpty 12 = .ok (.putfield 43, 3) := by decide +kernel
theorem d_Path_makeEmpty_15 : decode b_Path_makeEmpty 15 = .ok (.return_, 1) := by decide +kernel
theorem d_Path_replaceBeginning_0 : decode b_Path_replaceBeginning 0 = .ok (.aload_n 0, 1) := by decide +kernel
theorem d_Path_replaceBeginning_1 : decode b_Path_replaceBeginning 1 = .ok (.getfield 18, 3) := by decide +kernel
theorem d_Path_replaceBeginning_4 : decode b_Path_replaceBeginning 4 = .ok (.aload_n 0, 1) := by decide +kernel
theorem d_Path_replaceBeginning_5 : decode b_Path_replaceBeginning 5 = .ok (.getfield 43, 3) := by decide +kernel
theorem d_Path_replaceBeginning_8 : decode b_Path_replaceBeginning 8 = .ok (.iload_n 1, 1) := by decide +kernel
theorem d_Path_replaceBeginning_9 : decode b_Path_replaceBeginning 9 = .ok (.iastore, 1) := by decide +kernel
theorem d_Path_replaceBeginning_10 : decode b_Path_replaceBeginning 10 = .ok (.aload_n 0, 1) := by decide +kernel
theorem d_Path_replaceBeginning_11 : decode b_Path_replaceBeginning 11 = .ok (.getfield 21, 3) := by decide +kernel
theorem d_Path_replaceBeginning_14 : decode b_Path_replaceBeginning 14 = .ok (.aload_n 0, 1) := by decide +kernel
theorem d_Path_replaceBeginning_15 : decode b_Path_replaceBeginning 15 = .ok (.getfield 43, 3) := by decide +kernel
theorem d_Path_replaceBeginning_18 : decode b_Path_replaceBeginning 18 = .ok (.iload_n 2, 1) := by decide +kernel
theorem d_Path_replaceBeginning_19 : decode b_Path_replaceBeginning 19 = .ok (.iastore, 1) := by decide +kernel
theorem d_Path_replaceBeginning_20 : decode b_Path_replaceBeginning 20 = .ok (.return_, 1) := by decide +kernel
theorem d_Path_addBeginning_0 : decode b_Path_addBeginning 0 = .ok (.aload_n 0, 1) := by decide +kernel
theorem d_Path_addBeginning_1 : decode b_Path_addBeginning 1 = .ok (.aload_n 0, 1) := by decide +kernel
theorem d_Path_addBeginning_2 : decode b_Path_addBeginning 2 = .ok (.getfield 40, 3) := by decide +kernel
theorem d_Path_addBeginning_5 : decode b_Path_addBeginning 5 = .ok (.putfield 43, 3) := by decide +kernel
theorem d_Path_addBeginning_8 : decode b_Path_addBeginning 8 = .ok (.aload_n 0, 1) := by decide +kernel
theorem d_Path_addBeginning_9 : decode b_Path_addBeginning 9 = .ok (.iconst 0, 1) := by decide +kernel
theorem d_Path_addBeginning_10 : decode b_Path_addBeginning 10 = .ok (.aload_n 0, 1) := by decide +kernel
theorem d_Path_addBeginning_11 : decode b_Path_addBeginning 11 = .ok (.getfield 40, 3) := by decide +kernel
theorem d_Path_addBeginning_14 : decode b_Path_addBeginning 14 = .ok (.invokevirtual 46, 3) := by decide +kernel
theorem d_Path_addBeginning_17 : decode b_Path_addBeginning 17 = .ok (.aload_n 0, 1) := by decide +kernel
theorem d_Path_addBeginning_18 : decode b_Path_addBeginning 18 = .ok (.iload_n 1, 1) := by decide +kernel
theorem d_Path_addBeginning_19 : decode b_Path_addBeginning 19 = .ok (.iload_n 2, 1) := by decide +kernel
theorem d_Path_addBeginning_20 : decode b_Path_addBeginning 20 = .ok (.invokevirtual 50, 3) := by decide +kernel
theorem d_Path_addBeginning_23 : decode b_Path_addBeginning 23 = .ok (.return_, 1) := by decide +kernel
theorem d_Path_addLine_0 : decode b_Path_addLine 0 = .ok (.aload_n 0, 1) := by decide +kernel
theorem d_Path_addLine_1 : decode b_Path_addLine 1 = .ok (.iconst 1, 1) := by decide +kernel
theorem d_Path_addLine_2 : decode b_Path_addLine 2 = .ok (.aload_n 0, 1) := by decide +kernel
theorem d_Path_addLine_3 : decode b_Path_addLine 3 = .ok (.getfield 40, 3) := by decide +kernel
theorem d_Path_addLine_6 : decode b_Path_addLine 6 = .ok (.invokevirtual 46, 3) := by decide +kernel
theorem d_Path_addLine_9 : decode b_Path_addLine 9 = .ok (.aload_n 0, 1) := by decide +kernel
theorem d_Path_addLine_10 : decode b_Path_addLine 10 = .ok (.iload_n 1, 1) := by decide +kernel
theorem d_Path_addLine_11 : decode b_Path_addLine 11 = .ok (.iload_n 2, 1) := by decide +kernel
theorem d_Path_addLine_12 : decode b_Path_addLine 12 = .ok (.invokevirtual 50, 3) := by decide +kernel
theorem d_Path_addLine_15 : decode b_Path_addLine 15 = .ok (.return_, 1) := by decide +kernel
theorem d_Path_addCurve_0 : decode b_Path_addCurve 0 = .ok (.aload_n 0, 1) := by decide +kernel
theorem d_Path_addCurve_1 : decode b_Path_addCurve 1 = .ok (.iconst 2, 1) := by decide +kernel
theorem d_Path_addCurve_2 : decode b_Path_addCurve 2 = .ok (.aload_n 0, 1) := by decide +kernel
theorem d_Path_addCurve_3 : decode b_Path_addCurve 3 = .ok (.getfield 40, 3) := by decide +kernel
theorem d_Path_addCurve_6 : decode b_Path_addCurve 6 = .ok (.invokevirtual 46, 3) := by decide +kernel
theorem d_Path_addCurve_9 : decode b_Path_addCurve 9 = .ok (.aload_n 0, 1) := by decide +kernel
theorem d_Path_addCurve_10 : decode b_Path_addCurve 10 = .ok (.iload_n 1, 1) := by decide +kernel
theorem d_Path_addCurve_11 : decode b_Path_addCurve 11 = .ok (.iload_n 2, 1) := by decide +kernel
theorem d_Path_addCurve_12 : decode b_Path_addCurve 12 = .ok (.invokevirtual 50, 3) := by decide +kernel
theorem d_Path_addCurve_15 : decode b_Path_addCurve 15 = .ok (.aload_n 0, 1) := by decide +kernel
theorem d_Path_addCurve_16 : decode b_Path_addCurve 16 = .ok (.iload_n 3, 1) := by decide +kernel
theorem d_Path_addCurve_17 : decode b_Path_addCurve 17 = .ok (.iload 4, 2) := by decide +kernel
theorem d_Path_addCurve_19 : decode b_Path_addCurve 19 = .ok (.invokevirtual 50, 3) := by decide +kernel
theorem d_Path_addCurve_22 : decode b_Path_addCurve 22 = .ok (.aload_n 0, 1) := by decide +kernel
theorem d_Path_addCurve_23 : decode b_Path_addCurve 23 = .ok (.iload 5, 2) := by decide +kernel
theorem d_Path_addCurve_25 : decode b_Path_addCurve 25 = .ok (.iload 6, 2) := by decide +kernel
theorem d_Path_addCurve_27 : decode b_Path_addCurve 27 = .ok (.invokevirtual 50, 3) := by decide +kernel
theorem d_Path_addCurve_30 : decode b_Path_addCurve 30 = .ok (.return_, 1) := by decide +kernel
theorem d_Path_addClosing_0 : decode b_Path_addClosing 0 = .ok (.aload_n 0, 1) := by decide +kernel
theorem d_Path_addClosing_1 : decode b_Path_addClosing 1 = .ok (.iconst 3, 1) := by decide +kernel
theorem d_Path_addClosing_2 : decode b_Path_addClosing 2 = .ok (.aload_n 0, 1) := by decide +kernel
theorem d_Path_addClosing_3 : decode b_Path_addClosing 3 = .ok (.getfield 43, 3) := by decide +kernel
theorem d_Path_addClosing_6 : decode b_Path_addClosing 6 = .ok (.invokevirtual 46, 3) := by decide +kernel
theorem d_Path_addClosing_9 : decode b_Path_addClosing 9 = .ok (.return_, 1) := by decide +kernel
theorem d_Path_goOn_0 : decode b_Path_goOn 0 = .ok (.aload_n 0, 1) := by decide +kernel
theorem d_Path_goOn_1 : decode b_Path_goOn 1 = .ok (.invokevirtual 28, 3) := by decide +kernel
theorem d_Path_goOn_4 : decode b_Path_goOn 4 = .ok (.ifCond .eq 25, 3) := by decide +kernel
theorem d_Path_goOn_7 : decode b_Path_goOn 7 = .ok (.aload_n 0, 1) := by decide +kernel
theorem d_Path_goOn_8 : decode b_Path_goOn 8 = .ok (.aload_n 0, 1) := by decide +kernel
theorem d_Path_goOn_9 : decode b_Path_goOn 9 = .ok (.getfield 18, 3) := by decide +kernel
theorem d_Path_goOn_12 : decode b_Path_goOn 12 = .ok (.aload_n 0, 1) := by decide +kernel
theorem d_Path_goOn_13 : decode b_Path_goOn 13 = .ok (.getfield 43, 3) := by decide +kernel
theorem d_Path_goOn_16 : decode b_Path_goOn 16 = .ok (.iaload, 1) := by decide +kernel
theorem d_Path_goOn_17 : decode b_Path_goOn 17 = .ok (.aload_n 0, 1) := by decide +kernel
theorem d_Path_goOn_18 : decode b_Path_goOn 18 = .ok (.getfield 21, 3) := by decide +kernel
theorem d_Path_goOn_21 : decode b_Path_goOn 21 = .ok (.aload_n 0, 1) := by decide +kernel
theorem d_Path_goOn_22 : decode b_Path_goOn 22 = .ok (.getfield 43, 3) := by decide +kernel
theorem d_Path_goOn_25 : decode b_Path_goOn 25 = .ok (.iaload, 1) := by decide +kernel
theorem d_Path_goOn_26 : decode b_Path_goOn 26 = .ok (.invokevirtual 53, 3) := by decide +kernel
theorem d_Path_goOn_29 : decode b_Path_goOn 29 = .ok (.return_, 1) := by decide +kernel
theorem d_Path_turnSubpaths_0 : decode b_Path_turnSubpaths 0 = .ok (.iconst 0, 1) := by decide +kernel
theorem d_Path_turnSubpaths_1 : decode b_Path_turnSubpaths 1 = .ok (.istore_n 1, 1) := by decide +kernel
theorem d_Path_turnSubpaths_2 : decode b_Path_turnSubpaths 2 = .ok (.iconst 1, 1) := by decide +kernel
theorem d_Path_turnSubpaths_3 : decode b_Path_turnSubpaths 3 = .ok (.istore_n 2, 1) := by decide +kernel
theorem d_Path_turnSubpaths_4 : decode b_Path_turnSubpaths 4 = .ok (.iload_n 2, 1) := by decide +kernel
theorem d_Path_turnSubpaths_5 : decode b_Path_turnSubpaths 5 = .ok (.aload_n 0, 1) := by decide +kernel
theorem d_Path_turnSubpaths_6 : decode b_Path_turnSubpaths 6 = .ok (.getfield 24, 3) := by decide +kernel
theorem d_Path_turnSubpaths_9 : decode b_Path_turnSubpaths 9 = .ok (.if_icmp .gt 34, 3) := by decide +kernel
theorem d_Path_turnSubpaths_12 : decode b_Path_turnSubpaths 12 = .ok (.iload_n 2, 1) := by decide +kernel
theorem d_Path_turnSubpaths_13 : decode b_Path_turnSubpaths 13 = .ok (.aload_n 0, 1) := by decide +kernel
theorem d_Path_turnSubpaths_14 : decode b_Path_turnSubpaths 14 = .ok (.getfield 24, 3) := by decide +kernel
theorem d_Path_turnSubpaths_17 : decode b_Path_turnSubpaths 17 = .ok (.if_icmp .eq 12, 3) := by decide +kernel
theorem d_Path_turnSubpaths_20 : decode b_Path_turnSubpaths 20 = .ok (.aload_n 0, 1) := by decide +kernel
theorem d_Path_turnSubpaths_21 : decode b_Path_turnSubpaths 21 = .ok (.getfield 9, 3) := by decide +kernel
theorem d_Path_turnSubpaths_24 : decode b_Path_turnSubpaths 24 = .ok (.iload_n 2, 1) := by decide +kernel
theorem d_Path_turnSubpaths_25 : decode b_Path_turnSubpaths 25 = .ok (.iaload, 1) := by decide +kernel
theorem d_Path_turnSubpaths_26 : decode b_Path_turnSubpaths 26 = .ok (.ifCond .ne 11, 3) := by decide +kernel
theorem d_Path_turnSubpaths_29 : decode b_Path_turnSubpaths 29 = .ok (.aload_n 0, 1) := by decide +kernel
theorem d_Path_turnSubpaths_30 : decode b_Path_turnSubpaths 30 = .ok (.iload_n 1, 1) := by decide +kernel
theorem d_Path_turnSubpaths_31 : decode b_Path_turnSubpaths 31 = .ok (.iload_n 2, 1) := by decide +kernel
theorem d_Path_turnSubpaths_32 : decode b_Path_turnSubpaths 32 = .ok (.invokevirtual 56, 3) := by decide +kernel
theorem d_Path_turnSubpaths_35 : decode b_Path_turnSubpaths 35 = .ok (.iload_n 2, 1) := by decide +kernel
theorem d_Path_turnSubpaths_36 : decode b_Path_turnSubpaths 36 = .ok (.istore_n 1, 1) := by decide +kernel
theorem d_Path_turnSubpaths_37 : decode b_Path_turnSubpaths 37 = .ok (.iinc 2 1, 3) := by decide +kernel
theorem d_Path_turnSubpaths_40 : decode b_Path_turnSubpaths 40 = .ok (.goto (-36), 3) := by decide +kernel
theorem d_Path_turnSubpaths_43 : decode b_Path_turnSubpaths 43 = .ok (.return_, 1) := by decide +kernel
theorem d_Path_turnSubpath_0 : decode b_Path_turnSubpath 0 = .ok (.aload_n 0, 1) := by decide +kernel
theorem d_Path_turnSubpath_1 : decode b_Path_turnSubpath 1 = .ok (.getfield 9, 3) := by decide +kernel
theorem d_Path_turnSubpath_4 : decode b_Path_turnSubpath 4 = .ok (.iload_n 2, 1) := by decide +kernel
theorem d_Path_turnSubpath_5 : decode b_Path_turnSubpath 5 = .ok (.iconst 1, 1) := by decide +kernel
theorem d_Path_turnSubpath_6 : decode b_Path_turnSubpath 6 = .ok (.isub, 1) := by decide +kernel
theorem d_Path_turnSubpath_7 : decode b_Path_turnSubpath 7 = .ok (.iaload, 1) := by decide +kernel
theorem d_Path_turnSubpath_8 : decode b_Path_turnSubpath 8 = .ok (.iconst 3, 1) := by decide +kernel
theorem d_Path_turnSubpath_9 : decode b_Path_turnSubpath 9 = .ok (.if_icmp .ne 9, 3) := by decide +kernel
theorem d_Path_turnSubpath_12 : decode b_Path_turnSubpath 12 = .ok (.iload_n 2, 1) := by decide +kernel
theorem d_Path_turnSubpath_13 : decode b_Path_turnSubpath 13 = .ok (.iconst 2, 1) := by decide +kernel
theorem d_Path_turnSubpath_14 : decode b_Path_turnSubpath 14 = .ok (.isub, 1) := by decide +kernel
theorem d_Path_turnSubpath_15 : decode b_Path_turnSubpath 15 = .ok (.goto 6, 3) := by decide +kernel
theorem d_Path_turnSubpath_18 : decode b_Path_turnSubpath 18 = .ok (.iload_n 2, 1) := by decide +kernel
theorem d_Path_turnSubpath_19 : decode b_Path_turnSubpath 19 = .ok (.iconst 1, 1) := by decide +kernel
theorem d_Path_turnSubpath_20 : decode b_Path_turnSubpath 20 = .ok (.isub, 1) := by decide +kernel
theorem d_Path_turnSubpath_21 : decode b_Path_turnSubpath 21 = .ok (.istore_n 3, 1) := by decide +kernel
theorem d_Path_turnSubpath_22 : decode b_Path_turnSubpath 22 = .ok (.aload_n 0, 1) := by decide +kernel
theorem d_Path_turnSubpath_23 : decode b_Path_turnSubpath 23 = .ok (.getfield 15, 3) := by decide +kernel
theorem d_Path_turnSubpath_26 : decode b_Path_turnSubpath 26 = .ok (.iload_n 1, 1) := by decide +kernel
theorem d_Path_turnSubpath_27 : decode b_Path_turnSubpath 27 = .ok (.iaload, 1) := by decide +kernel
theorem d_Path_turnSubpath_28 : decode b_Path_turnSubpath 28 = .ok (.istore 4, 2) := by decide +kernel
theorem d_Path_turnSubpath_30 : decode b_Path_turnSubpath 30 = .ok (.aload_n 0, 1) := by decide +kernel
theorem d_Path_turnSubpath_31 : decode b_Path_turnSubpath 31 = .ok (.iload_n 3, 1) := by decide +kernel
theorem d_Path_turnSubpath_32 : decode b_Path_turnSubpath 32 = .ok (.invokevirtual 36, 3) := by decide +kernel
theorem d_Path_turnSubpath_35 : decode b_Path_turnSubpath 35 = .ok (.istore 5, 2) := by decide +kernel
theorem d_Path_turnSubpath_37 : decode b_Path_turnSubpath 37 = .ok (.aload_n 0, 1) := by decide +kernel
theorem d_Path_turnSubpath_38 : decode b_Path_turnSubpath 38 = .ok (.getfield 18, 3) := by decide +kernel
theorem d_Path_turnSubpath_41 : decode b_Path_turnSubpath 41 = .ok (.iload 4, 2) := by decide +kernel
theorem d_Path_turnSubpath_43 : decode b_Path_turnSubpath 43 = .ok (.iload 5, 2) := by decide +kernel
theorem d_Path_turnSubpath_45 : decode b_Path_turnSubpath 45 = .ok (.invokestatic 59, 3) := by decide +kernel
theorem d_Path_turnSubpath_48 : decode b_Path_turnSubpath 48 = .ok (.aload_n 0, 1) := by decide +kernel
theorem d_Path_turnSubpath_49 : decode b_Path_turnSubpath 49 = .ok (.getfield 21, 3) := by decide +kernel
theorem d_Path_turnSubpath_52 : decode b_Path_turnSubpath 52 = .ok (.iload 4, 2) := by decide +kernel
theorem d_Path_turnSubpath_54 : decode b_Path_turnSubpath 54 = .ok (.iload 5, 2) := by decide +kernel
theorem d_Path_turnSubpath_56 : decode b_Path_turnSubpath 56 = .ok (.invokestatic 59, 3) := by decide +kernel
theorem d_Path_turnSubpath_59 : decode b_Path_turnSubpath 59 = .ok (.aload_n 0, 1) := by decide +kernel
theorem d_Path_turnSubpath_60 : decode b_Path_turnSubpath 60 = .ok (.getfield 9, 3) := by decide +kernel
theorem d_Path_turnSubpath_63 : decode b_Path_turnSubpath 63 = .ok (.iload_n 1, 1) := by decide +kernel
theorem d_Path_turnSubpath_64 : decode b_Path_turnSubpath 64 = .ok (.iconst 1, 1) := by decide +kernel
theorem d_Path_turnSubpath_65 : decode b_Path_turnSubpath 65 = .ok (.iadd, 1) := by decide +kernel
theorem d_Path_turnSubpath_66 : decode b_Path_turnSubpath 66 = .ok (.iload_n 3, 1) := by decide +kernel
theorem d_Path_turnSubpath_67 : decode b_Path_turnSubpath 67 = .ok (.invokestatic 59, 3) := by decide +kernel
theorem d_Path_turnSubpath_70 : decode b_Path_turnSubpath 70 = .ok (.iload 4, 2) := by decide +kernel
theorem d_Path_turnSubpath_72 : decode b_Path_turnSubpath 72 = .ok (.iconst 1, 1) := by decide +kernel
theorem d_Path_turnSubpath_73 : decode b_Path_turnSubpath 73 = .ok (.iadd, 1) := by decide +kernel
theorem d_Path_turnSubpath_74 : decode b_Path_turnSubpath 74 = .ok (.istore 6, 2) := by decide +kernel
theorem d_Path_turnSubpath_76 : decode b_Path_turnSubpath 76 = .ok (.iload_n 1, 1) := by decide +kernel
theorem d_Path_turnSubpath_77 : decode b_Path_turnSubpath 77 = .ok (.iconst 1, 1) := by decide +kernel
theorem d_Path_turnSubpath_78 : decode b_Path_turnSubpath 78 = .ok (.iadd, 1) := by decide +kernel
theorem d_Path_turnSubpath_79 : decode b_Path_turnSubpath 79 = .ok (.istore 7, 2) := by decide +kernel
theorem d_Path_turnSubpath_81 : decode b_Path_turnSubpath 81 = .ok (.iload 7, 2) := by decide +kernel
theorem d_Path_turnSubpath_83 : decode b_Path_turnSubpath 83 = .ok (.iload_n 3, 1) := by decide +kernel
theorem d_Path_turnSubpath_84 : decode b_Path_turnSubpath 84 = .ok (.if_icmp .gt 39, 3) := by decide +kernel
theorem d_Path_turnSubpath_87 : decode b_Path_turnSubpath 87 = .ok (.aload_n 0, 1) := by decide +kernel
theorem d_Path_turnSubpath_88 : decode b_Path_turnSubpath 88 = .ok (.getfield 15, 3) := by decide +kernel
theorem d_Path_turnSubpath_91 : decode b_Path_turnSubpath 91 = .ok (.iload 7, 2) := by decide +kernel
theorem d_Path_turnSubpath_93 : decode b_Path_turnSubpath 93 = .ok (.iload 6, 2) := by decide +kernel
theorem d_Path_turnSubpath_95 : decode b_Path_turnSubpath 95 = .ok (.iastore, 1) := by decide +kernel
theorem d_Path_turnSubpath_96 : decode b_Path_turnSubpath 96 = .ok (.iload 6, 2) := by decide +kernel
theorem d_Path_turnSubpath_98 : decode b_Path_turnSubpath 98 = .ok (.aload_n 0, 1) := by decide +kernel
theorem d_Path_turnSubpath_99 : decode b_Path_turnSubpath 99 = .ok (.getfield 9, 3) := by decide +kernel
theorem d_Path_turnSubpath_102 : decode b_Path_turnSubpath 102 = .ok (.iload 7, 2) := by decide +kernel
theorem d_Path_turnSubpath_104 : decode b_Path_turnSubpath 104 = .ok (.iaload, 1) := by decide +kernel
theorem d_Path_turnSubpath_105 : decode b_Path_turnSubpath 105 = .ok (.iconst 2, 1) := by decide +kernel
theorem d_Path_turnSubpath_106 : decode b_Path_turnSubpath 106 = .ok (.if_icmp .ne 7, 3) := by decide +kernel
theorem d_Path_turnSubpath_109 : decode b_Path_turnSubpath 109 = .ok (.iconst 3, 1) := by decide +kernel
theorem d_Path_turnSubpath_110 : decode b_Path_turnSubpath 110 = .ok (.goto 4, 3) := by decide +kernel
theorem d_Path_turnSubpath_113 : decode b_Path_turnSubpath 113 = .ok (.iconst 1, 1) := by decide +kernel
theorem d_Path_turnSubpath_114 : decode b_Path_turnSubpath 114 = .ok (.iadd, 1) := by decide +kernel
theorem d_Path_turnSubpath_115 : decode b_Path_turnSubpath 115 = .ok (.istore 6, 2) := by decide +kernel
theorem d_Path_turnSubpath_117 : decode b_Path_turnSubpath 117 = .ok (.iinc 7 1, 3) := by decide +kernel
theorem d_Path_turnSubpath_120 : decode b_Path_turnSubpath 120 = .ok (.goto (-39), 3) := by decide +kernel
theorem d_Path_turnSubpath_123 : decode b_Path_turnSubpath 123 = .ok (.return_, 1) := by decide +kernel
theorem d_Path_addPart_0 : decode b_Path_addPart 0 = .ok (.aload_n 0, 1) := by decide +kernel
theorem d_Path_addPart_1 : decode b_Path_addPart 1 = .ok (.getfield 24, 3) := by decide +kernel
theorem d_Path_addPart_4 : decode b_Path_addPart 4 = .ok (.sipush 3000, 3) := by decide +kernel
theorem d_Path_addPart_7 : decode b_Path_addPart 7 = .ok (.if_icmp .ge 33, 3) := by decide +kernel
theorem d_Path_addPart_10 : decode b_Path_addPart 10 = .ok (.aload_n 0, 1) := by decide +kernel
theorem d_Path_addPart_11 : decode b_Path_addPart 11 = .ok (.getfield 9, 3) := by decide +kernel
theorem d_Path_addPart_14 : decode b_Path_addPart 14 = .ok (.aload_n 0, 1) := by decide +kernel
theorem d_Path_addPart_15 : decode b_Path_addPart 15 = .ok (.getfield 24, 3) := by decide +kernel
theorem d_Path_addPart_18 : decode b_Path_addPart 18 = .ok (.iload_n 1, 1) := by decide +kernel
theorem d_Path_addPart_19 : decode b_Path_addPart 19 = .ok (.iastore, 1) := by decide +kernel
theorem d_Path_addPart_20 : decode b_Path_addPart 20 = .ok (.aload_n 0, 1) := by decide +kernel
theorem d_Path_addPart_21 : decode b_Path_addPart 21 = .ok (.getfield 15, 3) := by decide +kernel
theorem d_Path_addPart_24 : decode b_Path_addPart 24 = .ok (.aload_n 0, 1) := by decide +kernel
theorem d_Path_addPart_25 : decode b_Path_addPart 25 = .ok (.getfield 24, 3) := by decide +kernel
theorem d_Path_addPart_28 : decode b_Path_addPart 28 = .ok (.iload_n 2, 1) := by decide +kernel
theorem d_Path_addPart_29 : decode b_Path_addPart 29 = .ok (.iastore, 1) := by decide +kernel
theorem d_Path_addPart_30 : decode b_Path_addPart 30 = .ok (.aload_n 0, 1) := by decide +kernel
theorem d_Path_addPart_31 : decode b_Path_addPart 31 = .ok (.dup, 1) := by decide +kernel
theorem d_Path_addPart_32 : decode b_Path_addPart 32 = .ok (.getfield 24, 3) := by decide +kernel
theorem d_Path_addPart_35 : decode b_Path_addPart 35 = .ok (.iconst 1, 1) := by decide +kernel
theorem d_Path_addPart_36 : decode b_Path_addPart 36 = .ok (.iadd, 1) := by decide +kernel
theorem d_Path_addPart_37 : decode b_Path_addPart 37 = .ok (.putfield 24, 3) := by decide +kernel
theorem d_Path_addPart_40 : decode b_Path_addPart 40 = .ok (.return_, 1) := by decide +kernel
theorem d_Path_addPoint_0 : decode b_Path_addPoint 0 = .ok (.aload_n 0, 1) := by decide +kernel
theorem d_Path_addPoint_1 : decode b_Path_addPoint 1 = .ok (.getfield 40, 3) := by decide +kernel
theorem d_Path_addPoint_4 : decode b_Path_addPoint 4 = .ok (.sipush 9000, 3) := by decide +kernel
theorem d_Path_addPoint_7 : decode b_Path_addPoint 7 = .ok (.if_icmp .ge 33, 3) := by decide +kernel
theorem d_Path_addPoint_10 : decode b_Path_addPoint 10 = .ok (.aload_n 0, 1) := by decide +kernel
theorem d_Path_addPoint_11 : decode b_Path_addPoint 11 = .ok (.getfield 18, 3) := by decide +kernel
theorem d_Path_addPoint_14 : decode b_Path_addPoint 14 = .ok (.aload_n 0, 1) := by decide +kernel
theorem d_Path_addPoint_15 : decode b_Path_addPoint 15 = .ok (.getfield 40, 3) := by decide +kernel
theorem d_Path_addPoint_18 : decode b_Path_addPoint 18 = .ok (.iload_n 1, 1) := by decide +kernel
theorem d_Path_addPoint_19 : decode b_Path_addPoint 19 = .ok (.iastore, 1) := by decide +kernel
theorem d_Path_addPoint_20 : decode b_Path_addPoint 20 = .ok (.aload_n 0, 1) := by decide +kernel
theorem d_Path_addPoint_21 : decode b_Path_addPoint 21 = .ok (.getfield 21, 3) := by decide +kernel
theorem d_Path_addPoint_24 : decode b_Path_addPoint 24 = .ok (.aload_n 0, 1) := by decide +kernel
theorem d_Path_addPoint_25 : decode b_Path_addPoint 25 = .ok (.getfield 40, 3) := by decide +kernel
theorem d_Path_addPoint_28 : decode b_Path_addPoint 28 = .ok (.iload_n 2, 1) := by decide +kernel
theorem d_Path_addPoint_29 : decode b_Path_addPoint 29 = .ok (.iastore, 1) := by decide +kernel
theorem d_Path_addPoint_30 : decode b_Path_addPoint 30 = .ok (.aload_n 0, 1) := by decide +kernel
theorem d_Path_addPoint_31 : decode b_Path_addPoint 31 = .ok (.dup, 1) := by decide +kernel
theorem d_Path_addPoint_32 : decode b_Path_addPoint 32 = .ok (.getfield 40, 3) := by decide +kernel
theorem d_Path_addPoint_35 : decode b_Path_addPoint 35 = .ok (.iconst 1, 1) := by decide +kernel
theorem d_Path_addPoint_36 : decode b_Path_addPoint 36 = .ok (.iadd, 1) := by decide +kernel
theorem d_Path_addPoint_37 : decode b_Path_addPoint 37 = .ok (.putfield 40, 3) := by decide +kernel
theorem d_Path_addPoint_40 : decode b_Path_addPoint 40 = .ok (.return_, 1) := by decide +kernel
