theorem d_MPath_init_0 : decode b_MPath_init 0 = .ok (.aload_n 0, 1) := by decide +kernel
theorem d_MPath_init_1 : decode b_MPath_init 1 = .ok (.invokespecial 3, 3) := by decide +kernel
theorem d_MPath_init_4 : decode b_MPath_init 4 = .ok (.aload_n 0, 1) := by decide +kernel
theorem d_MPath_init_5 : decode b_MPath_init 5 = .ok (.sipush 3000, 3) := by decide +kernel
theorem d_MPath_init_8 : decode b_MPath_init 8 = .ok (.newarray .byte, 2) := by decide +kernel
theorem d_MPath_init_10 : decode b_MPath_init 10 = .ok (.putfield 9, 3) := by decide +kernel
theorem d_MPath_init_13 : decode b_MPath_init 13 = .ok (.aload_n 0, 1) := by decide +kernel
theorem d_MPath_init_14 : decode b_MPath_init 14 = .ok (.sipush 18000, 3) := by decide +kernel
theorem d_MPath_init_17 : decode b_MPath_init 17 = .ok (.newarray .int, 2) := by decide +kernel
theorem d_MPath_init_19 : decode b_MPath_init 19 = .ok (.putfield 15, 3) := by decide +kernel
theorem d_MPath_init_22 : decode b_MPath_init 22 = .ok (.return_, 1) := by decide +kernel
theorem d_MPath_empty_0 : decode b_MPath_empty 0 = .ok (.aload_n 0, 1) := by decide +kernel
theorem d_MPath_empty_1 : decode b_MPath_empty 1 = .ok (.iconst 0, 1) := by decide +kernel
theorem d_MPath_empty_2 : decode b_MPath_empty 2 = .ok (.putfield 19, 3) := by decide +kernel
theorem d_MPath_empty_5 : decode b_MPath_empty 5 = .ok (.aload_n 0, 1) := by decide +kernel
theorem d_MPath_empty_6 : decode b_MPath_empty 6 = .ok (.iconst 0, 1) := by decide +kernel
theorem d_MPath_empty_7 : decode b_MPath_empty 7 = .ok (.putfield 23, 3) := by decide +kernel
theorem d_MPath_empty_10 : decode b_MPath_empty 10 = .ok (.aload_n 0, 1) := by decide +kernel
theorem d_MPath_empty_11 : decode b_MPath_empty 11 = .ok (.iconst 0, 1) := by decide +kernel
theorem d_MPath_empty_12 : decode b_MPath_empty 12 = .ok (.putfield 27, 3) := by decide +kernel
theorem d_MPath_empty_15 : decode b_MPath_empty 15 = .ok (.return_, 1) := by decide +kernel
theorem d_MPath_copy_0 : decode b_MPath_copy 0 = .ok (.aload_n 0, 1) := by decide +kernel
theorem d_MPath_copy_1 : decode b_MPath_copy 1 = .ok (.invokevirtual 30, 3) := by decide +kernel
theorem d_MPath_copy_4 : decode b_MPath_copy 4 = .ok (.aload_n 0, 1) := by decide +kernel
theorem d_MPath_copy_5 : decode b_MPath_copy 5 = .ok (.aload_n 1, 1) := by decide +kernel
theorem d_MPath_copy_6 : decode b_MPath_copy 6 = .ok (.getfield 19, 3) := by decide +kernel
theorem d_MPath_copy_9 : decode b_MPath_copy 9 = .ok (.putfield 19, 3) := by decide +kernel
theorem d_MPath_copy_12 : decode b_MPath_copy 12 = .ok (.iconst 0, 1) := by decide +kernel
theorem d_MPath_copy_13 : decode b_MPath_copy 13 = .ok (.istore_n 2, 1) := by decide +kernel
theorem d_MPath_copy_14 : decode b_MPath_copy 14 = .ok (.iload_n 2, 1) := by decide +kernel
theorem d_MPath_copy_15 : decode b_MPath_copy 15 = .ok (.aload_n 0, 1) := by decide +kernel
theorem d_MPath_copy_16 : decode b_MPath_copy 16 = .ok (.getfield 19, 3) := by decide +kernel
theorem d_MPath_copy_19 : decode b_MPath_copy 19 = .ok (.if_icmp .ge 21, 3) := by decide +kernel
theorem d_MPath_copy_22 : decode b_MPath_copy 22 = .ok (.aload_n 0, 1) := by decide +kernel
theorem d_MPath_copy_23 : decode b_MPath_copy 23 = .ok (.getfield 9, 3) := by decide +kernel
theorem d_MPath_copy_26 : decode b_MPath_copy 26 = .ok (.iload_n 2, 1) := by decide +kernel
theorem d_MPath_copy_27 : decode b_MPath_copy 27 = .ok (.aload_n 1, 1) := by decide +kernel
theorem d_MPath_copy_28 : decode b_MPath_copy 28 = .ok (.getfield 9, 3) := by decide +kernel
theorem d_MPath_copy_31 : decode b_MPath_copy 31 = .ok (.iload_n 2, 1) := by decide +kernel
theorem d_MPath_copy_32 : decode b_MPath_copy 32 = .ok (.baload, 1) := by decide +kernel
theorem d_MPath_copy_33 : decode b_MPath_copy 33 = .ok (.bastore, 1) := by decide +kernel
theorem d_MPath_copy_34 : decode b_MPath_copy 34 = .ok (.iinc 2 1, 3) := by decide +kernel
theorem d_MPath_copy_37 : decode b_MPath_copy 37 = .ok (.goto (-23), 3) := by decide +kernel
theorem d_MPath_copy_40 : decode b_MPath_copy 40 = .ok (.iconst 0, 1) := by decide +kernel
theorem d_MPath_copy_41 : decode b_MPath_copy 41 = .ok (.istore_n 2, 1) := by decide +kernel
theorem d_MPath_copy_42 : decode b_MPath_copy 42 = .ok (.iload_n 2, 1) := by decide +kernel
theorem d_MPath_copy_43 : decode b_MPath_copy 43 = .ok (.bipush 6, 2) := by decide +kernel
theorem d_MPath_copy_45 : decode b_MPath_copy 45 = .ok (.aload_n 0, 1) := by decide +kernel
theorem d_MPath_copy_46 : decode b_MPath_copy 46 = .ok (.getfield 19, 3) := by decide +kernel
theorem d_MPath_copy_49 : decode b_MPath_copy 49 = .ok (.imul, 1) := by decide +kernel
theorem d_MPath_copy_50 : decode b_MPath_copy 50 = .ok (.if_icmp .ge 21, 3) := by decide +kernel
theorem d_MPath_copy_53 : decode b_MPath_copy 53 = .ok (.aload_n 0, 1) := by decide +kernel
theorem d_MPath_copy_54 : decode b_MPath_copy 54 = .ok (.getfield 15, 3) := by decide +kernel
theorem d_MPath_copy_57 : decode b_MPath_copy 57 = .ok (.iload_n 2, 1) := by decide +kernel
theorem d_MPath_copy_58 : decode b_MPath_copy 58 = .ok (.aload_n 1, 1) := by decide +kernel
theorem d_MPath_copy_59 : decode b_MPath_copy 59 = .ok (.getfield 15, 3) := by decide +kernel
theorem d_MPath_copy_62 : decode b_MPath_copy 62 = .ok (.iload_n 2, 1) := by decide +kernel
theorem d_MPath_copy_63 : decode b_MPath_copy 63 = .ok (.iaload, 1) := by decide +kernel
theorem d_MPath_copy_64 : decode b_MPath_copy 64 = .ok (.iastore, 1) := by decide +kernel
theorem d_MPath_copy_65 : decode b_MPath_copy 65 = .ok (.iinc 2 1, 3) := by decide +kernel
theorem d_MPath_copy_68 : decode b_MPath_copy 68 = .ok (.goto (-26), 3) := by decide +kernel
theorem d_MPath_copy_71 : decode b_MPath_copy 71 = .ok (.return_, 1) := by decide +kernel
theorem d_MPath_get_0 : decode b_MPath_get 0 = .ok (.aload_n 0, 1) := by decide +kernel
theorem d_MPath_get_1 : decode b_MPath_get 1 = .ok (.getfield 15, 3) := by decide +kernel
theorem d_MPath_get_4 : decode b_MPath_get 4 = .ok (.bipush 6, 2) := by decide +kernel
theorem d_MPath_get_6 : decode b_MPath_get 6 = .ok (.iload_n 1, 1) := by decide +kernel
theorem d_MPath_get_7 : decode b_MPath_get 7 = .ok (.imul, 1) := by decide +kernel
theorem d_MPath_get_8 : decode b_MPath_get 8 = .ok (.iload_n 2, 1) := by decide +kernel
theorem d_MPath_get_9 : decode b_MPath_get 9 = .ok (.iadd, 1) := by decide +kernel
theorem d_MPath_get_10 : decode b_MPath_get 10 = .ok (.iaload, 1) := by decide +kernel
theorem d_MPath_get_11 : decode b_MPath_get 11 = .ok (.ireturn, 1) := by decide +kernel
theorem d_MPath_isFar_0 : decode b_MPath_isFar 0 = .ok (.lload_n 0, 1) := by decide +kernel
theorem d_MPath_isFar_1 : decode b_MPath_isFar 1 = .ok (.ldc2_w 33, 3) := by decide +kernel
theorem d_MPath_isFar_4 : decode b_MPath_isFar 4 = .ok (.lcmp, 1) := by decide +kernel
theorem d_MPath_isFar_5 : decode b_MPath_isFar 5 = .ok (.ifCond .lt 11, 3) := by decide +kernel
theorem d_MPath_isFar_8 : decode b_MPath_isFar 8 = .ok (.lload_n 0, 1) := by decide +kernel
theorem d_MPath_isFar_9 : decode b_MPath_isFar 9 = .ok (.ldc2_w 35, 3) := by decide +kernel
theorem d_MPath_isFar_12 : decode b_MPath_isFar 12 = .ok (.lcmp, 1) := by decide +kernel
theorem d_MPath_isFar_13 : decode b_MPath_isFar 13 = .ok (.ifCond .le 7, 3) := by decide +kernel
theorem d_MPath_isFar_16 : decode b_MPath_isFar 16 = .ok (.iconst 1, 1) := by decide +kernel
theorem d_MPath_isFar_17 : decode b_MPath_isFar 17 = .ok (.goto 4, 3) := by decide +kernel
theorem d_MPath_isFar_20 : decode b_MPath_isFar 20 = .ok (.iconst 0, 1) := by decide +kernel
theorem d_MPath_isFar_21 : decode b_MPath_isFar 21 = .ok (.ireturn, 1) := by decide +kernel
theorem d_MPath_add_0 : decode b_MPath_add 0 = .ok (.aload_n 0, 1) := by decide +kernel
theorem d_MPath_add_1 : decode b_MPath_add 1 = .ok (.aload_n 0, 1) := by decide +kernel
theorem d_MPath_add_2 : decode b_MPath_add 2 = .ok (.getfield 27, 3) := by decide +kernel
theorem d_MPath_add_5 : decode b_MPath_add 5 = .ok (.ifCond .ne 50, 3) := by decide +kernel
theorem d_MPath_add_8 : decode b_MPath_add 8 = .ok (.lload_n 2, 1) := by decide +kernel
theorem d_MPath_add_9 : decode b_MPath_add 9 = .ok (.invokestatic 37, 3) := by decide +kernel
theorem d_MPath_add_12 : decode b_MPath_add 12 = .ok (.ifCond .ne 43, 3) := by decide +kernel
theorem d_MPath_add_15 : decode b_MPath_add 15 = .ok (.lload 4, 2) := by decide +kernel
theorem d_MPath_add_17 : decode b_MPath_add 17 = .ok (.invokestatic 37, 3) := by decide +kernel
theorem d_MPath_add_20 : decode b_MPath_add 20 = .ok (.ifCond .ne 35, 3) := by decide +kernel
theorem d_MPath_add_23 : decode b_MPath_add 23 = .ok (.lload 6, 2) := by decide +kernel
theorem d_MPath_add_25 : decode b_MPath_add 25 = .ok (.invokestatic 37, 3) := by decide +kernel
theorem d_MPath_add_28 : decode b_MPath_add 28 = .ok (.ifCond .ne 27, 3) := by decide +kernel
theorem d_MPath_add_31 : decode b_MPath_add 31 = .ok (.lload 8, 2) := by decide +kernel
theorem d_MPath_add_33 : decode b_MPath_add 33 = .ok (.invokestatic 37, 3) := by decide +kernel
theorem d_MPath_add_36 : decode b_MPath_add 36 = .ok (.ifCond .ne 19, 3) := by decide +kernel
theorem d_MPath_add_39 : decode b_MPath_add 39 = .ok (.lload 10, 2) := by decide +kernel
theorem d_MPath_add_41 : decode b_MPath_add 41 = .ok (.invokestatic 37, 3) := by decide +kernel
theorem d_MPath_add_44 : decode b_MPath_add 44 = .ok (.ifCond .ne 11, 3) := by decide +kernel
theorem d_MPath_add_47 : decode b_MPath_add 47 = .ok (.lload 12, 2) := by decide +kernel
theorem d_MPath_add_49 : decode b_MPath_add 49 = .ok (.invokestatic 37, 3) := by decide +kernel
theorem d_MPath_add_52 : decode b_MPath_add 52 = .ok (.ifCond .eq 7, 3) := by decide +kernel
theorem d_MPath_add_55 : decode b_MPath_add 55 = .ok (.iconst 1, 1) := by decide +kernel
theorem d_MPath_add_56 : decode b_MPath_add 56 = .ok (.goto 4, 3) := by decide +kernel
theorem d_MPath_add_59 : decode b_MPath_add 59 = .ok (.iconst 0, 1) := by decide +kernel
theorem d_MPath_add_60 : decode b_MPath_add 60 = .ok (.putfield 27, 3) := by decide +kernel
theorem d_MPath_add_63 : decode b_MPath_add 63 = .ok (.aload_n 0, 1) := by decide +kernel
theorem d_MPath_add_64 : decode b_MPath_add 64 = .ok (.getfield 19, 3) := by decide +kernel
theorem d_MPath_add_67 : decode b_MPath_add 67 = .ok (.sipush 3000, 3) := by decide +kernel
theorem d_MPath_add_70 : decode b_MPath_add 70 = .ok (.if_icmp .ne 9, 3) := by decide +kernel
theorem d_MPath_add_73 : decode b_MPath_add 73 = .ok (.aload_n 0, 1) := by decide +kernel
theorem d_MPath_add_74 : decode b_MPath_add 74 = .ok (.iconst 1, 1) := by decide +kernel
theorem d_MPath_add_75 : decode b_MPath_add 75 = .ok (.putfield 23, 3) := by decide +kernel
theorem d_MPath_add_78 : decode b_MPath_add 78 = .ok (.return_, 1) := by decide +kernel
theorem d_MPath_add_79 : decode b_MPath_add 79 = .ok (.aload_n 0, 1) := by decide +kernel
theorem d_MPath_add_80 : decode b_MPath_add 80 = .ok (.getfield 9, 3) := by decide +kernel
theorem d_MPath_add_83 : decode b_MPath_add 83 = .ok (.aload_n 0, 1) := by decide +kernel
theorem d_MPath_add_84 : decode b_MPath_add 84 = .ok (.getfield 19, 3) := by decide +kernel
theorem d_MPath_add_87 : decode b_MPath_add 87 = .ok (.iload_n 1, 1) := by decide +kernel
theorem d_MPath_add_88 : decode b_MPath_add 88 = .ok (.i2b, 1) := by decide +kernel
theorem d_MPath_add_89 : decode b_MPath_add 89 = .ok (.bastore, 1) := by decide +kernel
theorem d_MPath_add_90 : decode b_MPath_add 90 = .ok (.aload_n 0, 1) := by decide +kernel
theorem d_MPath_add_91 : decode b_MPath_add 91 = .ok (.getfield 15, 3) := by decide +kernel
theorem d_MPath_add_94 : decode b_MPath_add 94 = .ok (.bipush 6, 2) := by decide +kernel
theorem d_MPath_add_96 : decode b_MPath_add 96 = .ok (.aload_n 0, 1) := by decide +kernel
theorem d_MPath_add_97 : decode b_MPath_add 97 = .ok (.getfield 19, 3) := by decide +kernel
theorem d_MPath_add_100 : decode b_MPath_add 100 = .ok (.imul, 1) := by decide +kernel
theorem d_MPath_add_101 : decode b_MPath_add 101 = .ok (.lload_n 2, 1) := by decide +kernel
theorem d_MPath_add_102 : decode b_MPath_add 102 = .ok (.l2i, 1) := by decide +kernel
theorem d_MPath_add_103 : decode b_MPath_add 103 = .ok (.iastore, 1) := by decide +kernel
theorem d_MPath_add_104 : decode b_MPath_add 104 = .ok (.aload_n 0, 1) := by decide +kernel
theorem d_MPath_add_105 : decode b_MPath_add 105 = .ok (.getfield 15, 3) := by decide +kernel
theorem d_MPath_add_108 : decode b_MPath_add 108 = .ok (.bipush 6, 2) := by decide +kernel
theorem d_MPath_add_110 : decode b_MPath_add 110 = .ok (.aload_n 0, 1) := by decide +kernel
theorem d_MPath_add_111 : decode b_MPath_add 111 = .ok (.getfield 19, 3) := by decide +kernel
theorem d_MPath_add_114 : decode b_MPath_add 114 = .ok (.imul, 1) := by decide +kernel
theorem d_MPath_add_115 : decode b_MPath_add 115 = .ok (.iconst 1, 1) := by decide +kernel
theorem d_MPath_add_116 : decode b_MPath_add 116 = .ok (.iadd, 1) := by decide +kernel
theorem d_MPath_add_117 : decode b_MPath_add 117 = .ok (.lload 4, 2) := by decide +kernel
theorem d_MPath_add_119 : decode b_MPath_add 119 = .ok (.l2i, 1) := by decide +kernel
theorem d_MPath_add_120 : decode b_MPath_add 120 = .ok (.iastore, 1) := by decide +kernel
theorem d_MPath_add_121 : decode b_MPath_add 121 = .ok (.aload_n 0, 1) := by decide +kernel
theorem d_MPath_add_122 : decode b_MPath_add 122 = .ok (.getfield 15, 3) := by decide +kernel
theorem d_MPath_add_125 : decode b_MPath_add 125 = .ok (.bipush 6, 2) := by decide +kernel
theorem d_MPath_add_127 : decode b_MPath_add 127 = .ok (.aload_n 0, 1) := by decide +kernel
theorem d_MPath_add_128 : decode b_MPath_add 128 = .ok (.getfield 19, 3) := by decide +kernel
theorem d_MPath_add_131 : decode b_MPath_add 131 = .ok (.imul, 1) := by decide +kernel
theorem d_MPath_add_132 : decode b_MPath_add 132 = .ok (.iconst 2, 1) := by decide +kernel
theorem d_MPath_add_133 : decode b_MPath_add 133 = .ok (.iadd, 1) := by decide +kernel
theorem d_MPath_add_134 : decode b_MPath_add 134 = .ok (.lload 6, 2) := by decide +kernel
theorem d_MPath_add_136 : decode b_MPath_add 136 = .ok (.l2i, 1) := by decide +kernel
theorem d_MPath_add_137 : decode b_MPath_add 137 = .ok (.iastore, 1) := by decide +kernel
theorem d_MPath_add_138 : decode b_MPath_add 138 = .ok (.aload_n 0, 1) := by decide +kernel
theorem d_MPath_add_139 : decode b_MPath_add 139 = .ok (.getfield 15, 3) := by decide +kernel
theorem d_MPath_add_142 : decode b_MPath_add 142 = .ok (.bipush 6, 2) := by decide +kernel
theorem d_MPath_add_144 : decode b_MPath_add 144 = .ok (.aload_n 0, 1) := by decide +kernel
theorem d_MPath_add_145 : decode b_MPath_add 145 = .ok (.getfield 19, 3) := by decide +kernel
theorem d_MPath_add_148 : decode b_MPath_add 148 = .ok (.imul, 1) := by decide +kernel
theorem d_MPath_add_149 : decode b_MPath_add 149 = .ok (.iconst 3, 1) := by decide +kernel
theorem d_MPath_add_150 : decode b_MPath_add 150 = .ok (.iadd, 1) := by decide +kernel
theorem d_MPath_add_151 : decode b_MPath_add 151 = .ok (.lload 8, 2) := by decide +kernel
theorem d_MPath_add_153 : decode b_MPath_add 153 = .ok (.l2i, 1) := by decide +kernel
theorem d_MPath_add_154 : decode b_MPath_add 154 = .ok (.iastore, 1) := by decide +kernel
theorem d_MPath_add_155 : decode b_MPath_add 155 = .ok (.aload_n 0, 1) := by decide +kernel
theorem d_MPath_add_156 : decode b_MPath_add 156 = .ok (.getfield 15, 3) := by decide +kernel
theorem d_MPath_add_159 : decode b_MPath_add 159 = .ok (.bipush 6, 2) := by decide +kernel
theorem d_MPath_add_161 : decode b_MPath_add 161 = .ok (.aload_n 0, 1) := by decide +kernel
theorem d_MPath_add_162 : decode b_MPath_add 162 = .ok (.getfield 19, 3) := by decide +kernel
theorem d_MPath_add_165 : decode b_MPath_add 165 = .ok (.imul, 1) := by decide +kernel
theorem d_MPath_add_166 : decode b_MPath_add 166 = .ok (.iconst 4, 1) := by decide +kernel
theorem d_MPath_add_167 : decode b_MPath_add 167 = .ok (.iadd, 1) := by decide +kernel
theorem d_MPath_add_168 : decode b_MPath_add 168 = .ok (.lload 10, 2) := by decide +kernel
theorem d_MPath_add_170 : decode b_MPath_add 170 = .ok (.l2i, 1) := by decide +kernel
theorem d_MPath_add_171 : decode b_MPath_add 171 = .ok (.iastore, 1) := by decide +kernel
theorem d_MPath_add_172 : decode b_MPath_add 172 = .ok (.aload_n 0, 1) := by decide +kernel
theorem d_MPath_add_173 : decode b_MPath_add 173 = .ok (.getfield 15, 3) := by decide +kernel
theorem d_MPath_add_176 : decode b_MPath_add 176 = .ok (.bipush 6, 2) := by decide +kernel
theorem d_MPath_add_178 : decode b_MPath_add 178 = .ok (.aload_n 0, 1) := by decide +kernel
theorem d_MPath_add_179 : decode b_MPath_add 179 = .ok (.getfield 19, 3) := by decide +kernel
theorem d_MPath_add_182 : decode b_MPath_add 182 = .ok (.imul, 1) := by decide +kernel
theorem d_MPath_add_183 : decode b_MPath_add 183 = .ok (.iconst 5, 1) := by decide +kernel
theorem d_MPath_add_184 : decode b_MPath_add 184 = .ok (.iadd, 1) := by decide +kernel
theorem d_MPath_add_185 : decode b_MPath_add 185 = .ok (.lload 12, 2) := by decide +kernel
theorem d_MPath_add_187 : decode b_MPath_add 187 = .ok (.l2i, 1) := by decide +kernel
theorem d_MPath_add_188 : decode b_MPath_add 188 = .ok (.iastore, 1) := by decide +kernel
theorem d_MPath_add_189 : decode b_MPath_add 189 = .ok (.aload_n 0, 1) := by decide +kernel
theorem d_MPath_add_190 : decode b_MPath_add 190 = .ok (.dup, 1) := by decide +kernel
theorem d_MPath_add_191 : decode b_MPath_add 191 = .ok (.getfield 19, 3) := by decide +kernel
theorem d_MPath_add_194 : decode b_MPath_add 194 = .ok (.iconst 1, 1) := by decide +kernel
theorem d_MPath_add_195 : decode b_MPath_add 195 = .ok (.iadd, 1) := by decide +kernel
theorem d_MPath_add_196 : decode b_MPath_add 196 = .ok (.putfield 19, 3) := by decide +kernel
theorem d_MPath_add_199 : decode b_MPath_add 199 = .ok (.return_, 1) := by decide +kernel
theorem d_MPath_addPoint_0 : decode b_MPath_addPoint 0 = .ok (.aload_n 0, 1) := by decide +kernel
theorem d_MPath_addPoint_1 : decode b_MPath_addPoint 1 = .ok (.iload_n 1, 1) := by decide +kernel
theorem d_MPath_addPoint_2 : decode b_MPath_addPoint 2 = .ok (.lload_n 2, 1) := by decide +kernel
theorem d_MPath_addPoint_3 : decode b_MPath_addPoint 3 = .ok (.lload 4, 2) := by decide +kernel
theorem d_MPath_addPoint_5 : decode b_MPath_addPoint 5 = .ok (.lconst 0, 1) := by decide +kernel
theorem d_MPath_addPoint_6 : decode b_MPath_addPoint 6 = .ok (.lconst 0, 1) := by decide +kernel
theorem d_MPath_addPoint_7 : decode b_MPath_addPoint 7 = .ok (.lconst 0, 1) := by decide +kernel
theorem d_MPath_addPoint_8 : decode b_MPath_addPoint 8 = .ok (.lconst 0, 1) := by decide +kernel
theorem d_MPath_addPoint_9 : decode b_MPath_addPoint 9 = .ok (.invokevirtual 41, 3) := by decide +kernel
theorem d_MPath_addPoint_12 : decode b_MPath_addPoint 12 = .ok (.return_, 1) := by decide +kernel
theorem d_MPath_first_0 : decode b_MPath_first 0 = .ok (.iload_n 1, 1) := by decide +kernel
theorem d_MPath_first_1 : decode b_MPath_first 1 = .ok (.istore_n 2, 1) := by decide +kernel
theorem d_MPath_first_2 : decode b_MPath_first 2 = .ok (.aload_n 0, 1) := by decide +kernel
theorem d_MPath_first_3 : decode b_MPath_first 3 = .ok (.getfield 9, 3) := by decide +kernel
theorem d_MPath_first_6 : decode b_MPath_first 6 = .ok (.iload_n 2, 1) := by decide +kernel
theorem d_MPath_first_7 : decode b_MPath_first 7 = .ok (.baload, 1) := by decide +kernel
theorem d_MPath_first_8 : decode b_MPath_first 8 = .ok (.ifCond .eq 9, 3) := by decide +kernel
theorem d_MPath_first_11 : decode b_MPath_first 11 = .ok (.iinc 2 (-1), 3) := by decide +kernel
theorem d_MPath_first_14 : decode b_MPath_first 14 = .ok (.goto (-12), 3) := by decide +kernel
theorem d_MPath_first_17 : decode b_MPath_first 17 = .ok (.iload_n 2, 1) := by decide +kernel
theorem d_MPath_first_18 : decode b_MPath_first 18 = .ok (.ireturn, 1) := by decide +kernel
theorem d_MPath_open_0 : decode b_MPath_open 0 = .ok (.aload_n 0, 1) := by decide +kernel
theorem d_MPath_open_1 : decode b_MPath_open 1 = .ok (.getfield 19, 3) := by decide +kernel
theorem d_MPath_open_4 : decode b_MPath_open 4 = .ok (.ifCond .le 47, 3) := by decide +kernel
theorem d_MPath_open_7 : decode b_MPath_open 7 = .ok (.aload_n 0, 1) := by decide +kernel
theorem d_MPath_open_8 : decode b_MPath_open 8 = .ok (.getfield 9, 3) := by decide +kernel
theorem d_MPath_open_11 : decode b_MPath_open 11 = .ok (.aload_n 0, 1) := by decide +kernel
theorem d_MPath_open_12 : decode b_MPath_open 12 = .ok (.getfield 19, 3) := by decide +kernel
theorem d_MPath_open_15 : decode b_MPath_open 15 = .ok (.iconst 1, 1) := by decide +kernel
theorem d_MPath_open_16 : decode b_MPath_open 16 = .ok (.isub, 1) := by decide +kernel
theorem d_MPath_open_17 : decode b_MPath_open 17 = .ok (.baload, 1) := by decide +kernel
theorem d_MPath_open_18 : decode b_MPath_open 18 = .ok (.iconst 3, 1) := by decide +kernel
theorem d_MPath_open_19 : decode b_MPath_open 19 = .ok (.if_icmp .ne 32, 3) := by decide +kernel
theorem d_MPath_open_22 : decode b_MPath_open 22 = .ok (.aload_n 0, 1) := by decide +kernel
theorem d_MPath_open_23 : decode b_MPath_open 23 = .ok (.iconst 0, 1) := by decide +kernel
theorem d_MPath_open_24 : decode b_MPath_open 24 = .ok (.aload_n 0, 1) := by decide +kernel
theorem d_MPath_open_25 : decode b_MPath_open 25 = .ok (.aload_n 0, 1) := by decide +kernel
theorem d_MPath_open_26 : decode b_MPath_open 26 = .ok (.getfield 19, 3) := by decide +kernel
theorem d_MPath_open_29 : decode b_MPath_open 29 = .ok (.iconst 1, 1) := by decide +kernel
theorem d_MPath_open_30 : decode b_MPath_open 30 = .ok (.isub, 1) := by decide +kernel
theorem d_MPath_open_31 : decode b_MPath_open 31 = .ok (.iconst 0, 1) := by decide +kernel
theorem d_MPath_open_32 : decode b_MPath_open 32 = .ok (.invokevirtual 45, 3) := by decide +kernel
theorem d_MPath_open_35 : decode b_MPath_open 35 = .ok (.i2l, 1) := by decide +kernel
theorem d_MPath_open_36 : decode b_MPath_open 36 = .ok (.aload_n 0, 1) := by decide +kernel
theorem d_MPath_open_37 : decode b_MPath_open 37 = .ok (.aload_n 0, 1) := by decide +kernel
theorem d_MPath_open_38 : decode b_MPath_open 38 = .ok (.getfield 19, 3) := by decide +kernel
theorem d_MPath_open_41 : decode b_MPath_open 41 = .ok (.iconst 1, 1) := by decide +kernel
theorem d_MPath_open_42 : decode b_MPath_open 42 = .ok (.isub, 1) := by decide +kernel
theorem d_MPath_open_43 : decode b_MPath_open 43 = .ok (.iconst 1, 1) := by decide +kernel
theorem d_MPath_open_44 : decode b_MPath_open 44 = .ok (.invokevirtual 45, 3) := by decide +kernel
theorem d_MPath_open_47 : decode b_MPath_open 47 = .ok (.i2l, 1) := by decide +kernel
theorem d_MPath_open_48 : decode b_MPath_open 48 = .ok (.invokevirtual 49, 3) := by decide +kernel
theorem d_MPath_open_51 : decode b_MPath_open 51 = .ok (.return_, 1) := by decide +kernel
theorem d_MPath_begin_0 : decode b_MPath_begin 0 = .ok (.aload_n 0, 1) := by decide +kernel
theorem d_MPath_begin_1 : decode b_MPath_begin 1 = .ok (.getfield 19, 3) := by decide +kernel
theorem d_MPath_begin_4 : decode b_MPath_begin 4 = .ok (.ifCond .le 27, 3) := by decide +kernel
theorem d_MPath_begin_7 : decode b_MPath_begin 7 = .ok (.aload_n 0, 1) := by decide +kernel
theorem d_MPath_begin_8 : decode b_MPath_begin 8 = .ok (.getfield 9, 3) := by decide +kernel
theorem d_MPath_begin_11 : decode b_MPath_begin 11 = .ok (.aload_n 0, 1) := by decide +kernel
theorem d_MPath_begin_12 : decode b_MPath_begin 12 = .ok (.getfield 19, 3) := by decide +kernel
theorem d_MPath_begin_15 : decode b_MPath_begin 15 = .ok (.iconst 1, 1) := by decide +kernel
theorem d_MPath_begin_16 : decode b_MPath_begin 16 = .ok (.isub, 1) := by decide +kernel
theorem d_MPath_begin_17 : decode b_MPath_begin 17 = .ok (.baload, 1) := by decide +kernel
theorem d_MPath_begin_18 : decode b_MPath_begin 18 = .ok (.ifCond .ne 13, 3) := by decide +kernel
theorem d_MPath_begin_21 : decode b_MPath_begin 21 = .ok (.aload_n 0, 1) := by decide +kernel
theorem d_MPath_begin_22 : decode b_MPath_begin 22 = .ok (.dup, 1) := by decide +kernel
theorem d_MPath_begin_23 : decode b_MPath_begin 23 = .ok (.getfield 19, 3) := by decide +kernel
theorem d_MPath_begin_26 : decode b_MPath_begin 26 = .ok (.iconst 1, 1) := by decide +kernel
theorem d_MPath_begin_27 : decode b_MPath_begin 27 = .ok (.isub, 1) := by decide +kernel
theorem d_MPath_begin_28 : decode b_MPath_begin 28 = .ok (.putfield 19, 3) := by decide +kernel
theorem d_MPath_begin_31 : decode b_MPath_begin 31 = .ok (.aload_n 0, 1) := by decide +kernel
theorem d_MPath_begin_32 : decode b_MPath_begin 32 = .ok (.iconst 0, 1) := by decide +kernel
theorem d_MPath_begin_33 : decode b_MPath_begin 33 = .ok (.lload_n 1, 1) := by decide +kernel
theorem d_MPath_begin_34 : decode b_MPath_begin 34 = .ok (.lload_n 3, 1) := by decide +kernel
theorem d_MPath_begin_35 : decode b_MPath_begin 35 = .ok (.invokevirtual 49, 3) := by decide +kernel
theorem d_MPath_begin_38 : decode b_MPath_begin 38 = .ok (.return_, 1) := by decide +kernel
