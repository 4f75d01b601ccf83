theorem d_M_from_0 : decode b_M_from 0 = .ok (.lload_n 0, 1) := by decide +kernel
theorem d_M_from_1 : decode b_M_from 1 = .ok (.lload_n 2, 1) := by decide +kernel
theorem d_M_from_2 : decode b_M_from 2 = .ok (.ldc2_w 92, 3) := by decide +kernel
theorem d_M_from_5 : decode b_M_from 5 = .ok (.invokestatic 104, 3) := by decide +kernel
theorem d_M_from_8 : decode b_M_from 8 = .ok (.lcmp, 1) := by decide +kernel
theorem d_M_from_9 : decode b_M_from 9 = .ok (.ifCond .ne 10, 3) := by decide +kernel
theorem d_M_from_12 : decode b_M_from 12 = .ok (.lload_n 2, 1) := by decide +kernel
theorem d_M_from_13 : decode b_M_from 13 = .ok (.invokestatic 129, 3) := by decide +kernel
theorem d_M_from_16 : decode b_M_from 16 = .ok (.goto 4, 3) := by decide +kernel
theorem d_M_from_19 : decode b_M_from 19 = .ok (.lconst 0, 1) := by decide +kernel
theorem d_M_from_20 : decode b_M_from 20 = .ok (.lreturn, 1) := by decide +kernel
theorem d_M_to_0 : decode b_M_to 0 = .ok (.lload_n 0, 1) := by decide +kernel
theorem d_M_to_1 : decode b_M_to 1 = .ok (.lload_n 2, 1) := by decide +kernel
theorem d_M_to_2 : decode b_M_to 2 = .ok (.ldc2_w 92, 3) := by decide +kernel
theorem d_M_to_5 : decode b_M_to 5 = .ok (.invokestatic 104, 3) := by decide +kernel
theorem d_M_to_8 : decode b_M_to 8 = .ok (.lcmp, 1) := by decide +kernel
theorem d_M_to_9 : decode b_M_to 9 = .ok (.ifCond .ne 10, 3) := by decide +kernel
theorem d_M_to_12 : decode b_M_to 12 = .ok (.lload_n 2, 1) := by decide +kernel
theorem d_M_to_13 : decode b_M_to 13 = .ok (.invokestatic 129, 3) := by decide +kernel
theorem d_M_to_16 : decode b_M_to 16 = .ok (.goto 6, 3) := by decide +kernel
theorem d_M_to_19 : decode b_M_to 19 = .ok (.ldc2_w 107, 3) := by decide +kernel
theorem d_M_to_22 : decode b_M_to 22 = .ok (.lreturn, 1) := by decide +kernel
theorem d_M_addArc_0 : decode b_M_addArc 0 = .ok (.lload 5, 2) := by decide +kernel
theorem d_M_addArc_2 : decode b_M_addArc 2 = .ok (.ldc2_w 92, 3) := by decide +kernel
theorem d_M_addArc_5 : decode b_M_addArc 5 = .ok (.invokestatic 104, 3) := by decide +kernel
theorem d_M_addArc_8 : decode b_M_addArc 8 = .ok (.lstore 10, 2) := by decide +kernel
theorem d_M_addArc_10 : decode b_M_addArc 10 = .ok (.lload 7, 2) := by decide +kernel
theorem d_M_addArc_12 : decode b_M_addArc 12 = .ok (.ldc2_w 92, 3) := by decide +kernel
theorem d_M_addArc_15 : decode b_M_addArc 15 = .ok (.invokestatic 104, 3) := by decide +kernel
theorem d_M_addArc_18 : decode b_M_addArc 18 = .ok (.lstore 12, 2) := by decide +kernel
theorem d_M_addArc_20 : decode b_M_addArc 20 = .ok (.iconst 0, 1) := by decide +kernel
theorem d_M_addArc_21 : decode b_M_addArc 21 = .ok (.istore 14, 2) := by decide +kernel
theorem d_M_addArc_23 : decode b_M_addArc 23 = .ok (.lload 10, 2) := by decide +kernel
theorem d_M_addArc_25 : decode b_M_addArc 25 = .ok (.lstore 15, 2) := by decide +kernel
theorem d_M_addArc_27 : decode b_M_addArc 27 = .ok (.lload 15, 2) := by decide +kernel
theorem d_M_addArc_29 : decode b_M_addArc 29 = .ok (.lload 12, 2) := by decide +kernel
theorem d_M_addArc_31 : decode b_M_addArc 31 = .ok (.lcmp, 1) := by decide +kernel
theorem d_M_addArc_32 : decode b_M_addArc 32 = .ok (.ifCond .gt 131, 3) := by decide +kernel
theorem d_M_addArc_35 : decode b_M_addArc 35 = .ok (.iload 9, 2) := by decide +kernel
theorem d_M_addArc_37 : decode b_M_addArc 37 = .ok (.ifCond .eq 14, 3) := by decide +kernel
theorem d_M_addArc_40 : decode b_M_addArc 40 = .ok (.lload 10, 2) := by decide +kernel
theorem d_M_addArc_42 : decode b_M_addArc 42 = .ok (.lload 12, 2) := by decide +kernel
theorem d_M_addArc_44 : decode b_M_addArc 44 = .ok (.ladd, 1) := by decide +kernel
theorem d_M_addArc_45 : decode b_M_addArc 45 = .ok (.lload 15, 2) := by decide +kernel
theorem d_M_addArc_47 : decode b_M_addArc 47 = .ok (.lsub, 1) := by decide +kernel
theorem d_M_addArc_48 : decode b_M_addArc 48 = .ok (.goto 5, 3) := by decide +kernel
theorem d_M_addArc_51 : decode b_M_addArc 51 = .ok (.lload 15, 2) := by decide +kernel
theorem d_M_addArc_53 : decode b_M_addArc 53 = .ok (.lstore 17, 2) := by decide +kernel
theorem d_M_addArc_55 : decode b_M_addArc 55 = .ok (.lload 17, 2) := by decide +kernel
theorem d_M_addArc_57 : decode b_M_addArc 57 = .ok (.lload 5, 2) := by decide +kernel
theorem d_M_addArc_59 : decode b_M_addArc 59 = .ok (.invokestatic 133, 3) := by decide +kernel
theorem d_M_addArc_62 : decode b_M_addArc 62 = .ok (.lload 17, 2) := by decide +kernel
theorem d_M_addArc_64 : decode b_M_addArc 64 = .ok (.lload 7, 2) := by decide +kernel
theorem d_M_addArc_66 : decode b_M_addArc 66 = .ok (.invokestatic 136, 3) := by decide +kernel
theorem d_M_addArc_69 : decode b_M_addArc 69 = .ok (.lcmp, 1) := by decide +kernel
theorem d_M_addArc_70 : decode b_M_addArc 70 = .ok (.ifCond .ne 6, 3) := by decide +kernel
theorem d_M_addArc_73 : decode b_M_addArc 73 = .ok (.goto 81, 3) := by decide +kernel
theorem d_M_addArc_76 : decode b_M_addArc 76 = .ok (.aload_n 0, 1) := by decide +kernel
theorem d_M_addArc_77 : decode b_M_addArc 77 = .ok (.lload 17, 2) := by decide +kernel
theorem d_M_addArc_79 : decode b_M_addArc 79 = .ok (.invokevirtual 139, 3) := by decide +kernel
theorem d_M_addArc_82 : decode b_M_addArc 82 = .ok (.aload_n 0, 1) := by decide +kernel
theorem d_M_addArc_83 : decode b_M_addArc 83 = .ok (.lload 17, 2) := by decide +kernel
theorem d_M_addArc_85 : decode b_M_addArc 85 = .ok (.lload 5, 2) := by decide +kernel
theorem d_M_addArc_87 : decode b_M_addArc 87 = .ok (.invokestatic 133, 3) := by decide +kernel
theorem d_M_addArc_90 : decode b_M_addArc 90 = .ok (.lload 17, 2) := by decide +kernel
theorem d_M_addArc_92 : decode b_M_addArc 92 = .ok (.lload 7, 2) := by decide +kernel
theorem d_M_addArc_94 : decode b_M_addArc 94 = .ok (.invokestatic 136, 3) := by decide +kernel
theorem d_M_addArc_97 : decode b_M_addArc 97 = .ok (.invokevirtual 142, 3) := by decide +kernel
theorem d_M_addArc_100 : decode b_M_addArc 100 = .ok (.iload 14, 2) := by decide +kernel
theorem d_M_addArc_102 : decode b_M_addArc 102 = .ok (.ifCond .ne 41, 3) := by decide +kernel
theorem d_M_addArc_105 : decode b_M_addArc 105 = .ok (.aload_n 0, 1) := by decide +kernel
theorem d_M_addArc_106 : decode b_M_addArc 106 = .ok (.lload_n 1, 1) := by decide +kernel
theorem d_M_addArc_107 : decode b_M_addArc 107 = .ok (.lload_n 3, 1) := by decide +kernel
theorem d_M_addArc_108 : decode b_M_addArc 108 = .ok (.aload_n 0, 1) := by decide +kernel
theorem d_M_addArc_109 : decode b_M_addArc 109 = .ok (.getfield 23, 3) := by decide +kernel
theorem d_M_addArc_112 : decode b_M_addArc 112 = .ok (.iload 9, 2) := by decide +kernel
theorem d_M_addArc_114 : decode b_M_addArc 114 = .ok (.ifCond .eq 8, 3) := by decide +kernel
theorem d_M_addArc_117 : decode b_M_addArc 117 = .ok (.bipush 6, 2) := by decide +kernel
theorem d_M_addArc_119 : decode b_M_addArc 119 = .ok (.goto 4, 3) := by decide +kernel
theorem d_M_addArc_122 : decode b_M_addArc 122 = .ok (.iconst 0, 1) := by decide +kernel
theorem d_M_addArc_123 : decode b_M_addArc 123 = .ok (.laload, 1) := by decide +kernel
theorem d_M_addArc_124 : decode b_M_addArc 124 = .ok (.aload_n 0, 1) := by decide +kernel
theorem d_M_addArc_125 : decode b_M_addArc 125 = .ok (.getfield 23, 3) := by decide +kernel
theorem d_M_addArc_128 : decode b_M_addArc 128 = .ok (.iload 9, 2) := by decide +kernel
theorem d_M_addArc_130 : decode b_M_addArc 130 = .ok (.ifCond .eq 8, 3) := by decide +kernel
theorem d_M_addArc_133 : decode b_M_addArc 133 = .ok (.bipush 7, 2) := by decide +kernel
theorem d_M_addArc_135 : decode b_M_addArc 135 = .ok (.goto 4, 3) := by decide +kernel
theorem d_M_addArc_138 : decode b_M_addArc 138 = .ok (.iconst 1, 1) := by decide +kernel
theorem d_M_addArc_139 : decode b_M_addArc 139 = .ok (.laload, 1) := by decide +kernel
theorem d_M_addArc_140 : decode b_M_addArc 140 = .ok (.invokevirtual 145, 3) := by decide +kernel
theorem d_M_addArc_143 : decode b_M_addArc 143 = .ok (.iconst 1, 1) := by decide +kernel
theorem d_M_addArc_144 : decode b_M_addArc 144 = .ok (.istore 14, 2) := by decide +kernel
theorem d_M_addArc_146 : decode b_M_addArc 146 = .ok (.aload_n 0, 1) := by decide +kernel
theorem d_M_addArc_147 : decode b_M_addArc 147 = .ok (.lload_n 1, 1) := by decide +kernel
theorem d_M_addArc_148 : decode b_M_addArc 148 = .ok (.lload_n 3, 1) := by decide +kernel
theorem d_M_addArc_149 : decode b_M_addArc 149 = .ok (.iload 9, 2) := by decide +kernel
theorem d_M_addArc_151 : decode b_M_addArc 151 = .ok (.invokevirtual 149, 3) := by decide +kernel
theorem d_M_addArc_154 : decode b_M_addArc 154 = .ok (.lload 15, 2) := by decide +kernel
theorem d_M_addArc_156 : decode b_M_addArc 156 = .ok (.lconst 1, 1) := by decide +kernel
theorem d_M_addArc_157 : decode b_M_addArc 157 = .ok (.ladd, 1) := by decide +kernel
theorem d_M_addArc_158 : decode b_M_addArc 158 = .ok (.lstore 15, 2) := by decide +kernel
theorem d_M_addArc_160 : decode b_M_addArc 160 = .ok (.goto (-133), 3) := by decide +kernel
theorem d_M_addArc_163 : decode b_M_addArc 163 = .ok (.iload 14, 2) := by decide +kernel
theorem d_M_addArc_165 : decode b_M_addArc 165 = .ok (.ifCond .eq 4, 3) := by decide +kernel
theorem d_M_addArc_168 : decode b_M_addArc 168 = .ok (.return_, 1) := by decide +kernel
theorem d_M_addArc_169 : decode b_M_addArc 169 = .ok (.iload 9, 2) := by decide +kernel
theorem d_M_addArc_171 : decode b_M_addArc 171 = .ok (.ifCond .eq 8, 3) := by decide +kernel
theorem d_M_addArc_174 : decode b_M_addArc 174 = .ok (.lload 7, 2) := by decide +kernel
theorem d_M_addArc_176 : decode b_M_addArc 176 = .ok (.goto 5, 3) := by decide +kernel
theorem d_M_addArc_179 : decode b_M_addArc 179 = .ok (.lload 5, 2) := by decide +kernel
theorem d_M_addArc_181 : decode b_M_addArc 181 = .ok (.lstore 15, 2) := by decide +kernel
theorem d_M_addArc_183 : decode b_M_addArc 183 = .ok (.aload_n 0, 1) := by decide +kernel
theorem d_M_addArc_184 : decode b_M_addArc 184 = .ok (.lload 15, 2) := by decide +kernel
theorem d_M_addArc_186 : decode b_M_addArc 186 = .ok (.ldc2_w 92, 3) := by decide +kernel
theorem d_M_addArc_189 : decode b_M_addArc 189 = .ok (.invokestatic 104, 3) := by decide +kernel
theorem d_M_addArc_192 : decode b_M_addArc 192 = .ok (.invokevirtual 139, 3) := by decide +kernel
theorem d_M_addArc_195 : decode b_M_addArc 195 = .ok (.aload_n 0, 1) := by decide +kernel
theorem d_M_addArc_196 : decode b_M_addArc 196 = .ok (.lload 15, 2) := by decide +kernel
theorem d_M_addArc_198 : decode b_M_addArc 198 = .ok (.invokestatic 129, 3) := by decide +kernel
theorem d_M_addArc_201 : decode b_M_addArc 201 = .ok (.invokevirtual 119, 3) := by decide +kernel
theorem d_M_addArc_204 : decode b_M_addArc 204 = .ok (.aload_n 0, 1) := by decide +kernel
theorem d_M_addArc_205 : decode b_M_addArc 205 = .ok (.lload_n 1, 1) := by decide +kernel
theorem d_M_addArc_206 : decode b_M_addArc 206 = .ok (.lload_n 3, 1) := by decide +kernel
theorem d_M_addArc_207 : decode b_M_addArc 207 = .ok (.aload_n 0, 1) := by decide +kernel
theorem d_M_addArc_208 : decode b_M_addArc 208 = .ok (.getfield 26, 3) := by decide +kernel
theorem d_M_addArc_211 : decode b_M_addArc 211 = .ok (.bipush 6, 2) := by decide +kernel
theorem d_M_addArc_213 : decode b_M_addArc 213 = .ok (.laload, 1) := by decide +kernel
theorem d_M_addArc_214 : decode b_M_addArc 214 = .ok (.aload_n 0, 1) := by decide +kernel
theorem d_M_addArc_215 : decode b_M_addArc 215 = .ok (.getfield 26, 3) := by decide +kernel
theorem d_M_addArc_218 : decode b_M_addArc 218 = .ok (.bipush 7, 2) := by decide +kernel
theorem d_M_addArc_220 : decode b_M_addArc 220 = .ok (.laload, 1) := by decide +kernel
theorem d_M_addArc_221 : decode b_M_addArc 221 = .ok (.invokevirtual 145, 3) := by decide +kernel
theorem d_M_addArc_224 : decode b_M_addArc 224 = .ok (.return_, 1) := by decide +kernel
theorem d_M_arc_0 : decode b_M_arc 0 = .ok (.iload 5, 2) := by decide +kernel
theorem d_M_arc_2 : decode b_M_arc 2 = .ok (.ifCond .eq 11, 3) := by decide +kernel
theorem d_M_arc_5 : decode b_M_arc 5 = .ok (.iload 5, 2) := by decide +kernel
theorem d_M_arc_7 : decode b_M_arc 7 = .ok (.iconst 1, 1) := by decide +kernel
theorem d_M_arc_8 : decode b_M_arc 8 = .ok (.if_icmp .eq 5, 3) := by decide +kernel
theorem d_M_arc_11 : decode b_M_arc 11 = .ok (.iconst (-1), 1) := by decide +kernel
theorem d_M_arc_12 : decode b_M_arc 12 = .ok (.ireturn, 1) := by decide +kernel
theorem d_M_arc_13 : decode b_M_arc 13 = .ok (.iload 4, 2) := by decide +kernel
theorem d_M_arc_15 : decode b_M_arc 15 = .ok (.i2l, 1) := by decide +kernel
theorem d_M_arc_16 : decode b_M_arc 16 = .ok (.lstore 6, 2) := by decide +kernel
theorem d_M_arc_18 : decode b_M_arc 18 = .ok (.iload 5, 2) := by decide +kernel
theorem d_M_arc_20 : decode b_M_arc 20 = .ok (.ifCond .ne 36, 3) := by decide +kernel
theorem d_M_arc_23 : decode b_M_arc 23 = .ok (.iload 4, 2) := by decide +kernel
theorem d_M_arc_25 : decode b_M_arc 25 = .ok (.iload_n 3, 1) := by decide +kernel
theorem d_M_arc_26 : decode b_M_arc 26 = .ok (.if_icmp .ge 30, 3) := by decide +kernel
theorem d_M_arc_29 : decode b_M_arc 29 = .ok (.lload 6, 2) := by decide +kernel
theorem d_M_arc_31 : decode b_M_arc 31 = .ok (.ldc2_w 153, 3) := by decide +kernel
theorem d_M_arc_34 : decode b_M_arc 34 = .ok (.iload_n 3, 1) := by decide +kernel
theorem d_M_arc_35 : decode b_M_arc 35 = .ok (.i2l, 1) := by decide +kernel
theorem d_M_arc_36 : decode b_M_arc 36 = .ok (.iload 4, 2) := by decide +kernel
theorem d_M_arc_38 : decode b_M_arc 38 = .ok (.i2l, 1) := by decide +kernel
theorem d_M_arc_39 : decode b_M_arc 39 = .ok (.lsub, 1) := by decide +kernel
theorem d_M_arc_40 : decode b_M_arc 40 = .ok (.ldc2_w 153, 3) := by decide +kernel
theorem d_M_arc_43 : decode b_M_arc 43 = .ok (.ladd, 1) := by decide +kernel
theorem d_M_arc_44 : decode b_M_arc 44 = .ok (.lconst 1, 1) := by decide +kernel
theorem d_M_arc_45 : decode b_M_arc 45 = .ok (.lsub, 1) := by decide +kernel
theorem d_M_arc_46 : decode b_M_arc 46 = .ok (.ldc2_w 153, 3) := by decide +kernel
theorem d_M_arc_49 : decode b_M_arc 49 = .ok (.invokestatic 104, 3) := by decide +kernel
theorem d_M_arc_52 : decode b_M_arc 52 = .ok (.lmul, 1) := by decide +kernel
theorem d_M_arc_53 : decode b_M_arc 53 = .ok (.ladd, 1) := by decide +kernel
theorem d_M_arc_54 : decode b_M_arc 54 = .ok (.lstore 6, 2) := by decide +kernel
theorem d_M_arc_56 : decode b_M_arc 56 = .ok (.iload 5, 2) := by decide +kernel
theorem d_M_arc_58 : decode b_M_arc 58 = .ok (.iconst 1, 1) := by decide +kernel
theorem d_M_arc_59 : decode b_M_arc 59 = .ok (.if_icmp .ne 36, 3) := by decide +kernel
theorem d_M_arc_62 : decode b_M_arc 62 = .ok (.iload 4, 2) := by decide +kernel
theorem d_M_arc_64 : decode b_M_arc 64 = .ok (.iload_n 3, 1) := by decide +kernel
theorem d_M_arc_65 : decode b_M_arc 65 = .ok (.if_icmp .le 30, 3) := by decide +kernel
theorem d_M_arc_68 : decode b_M_arc 68 = .ok (.lload 6, 2) := by decide +kernel
theorem d_M_arc_70 : decode b_M_arc 70 = .ok (.ldc2_w 153, 3) := by decide +kernel
theorem d_M_arc_73 : decode b_M_arc 73 = .ok (.iload 4, 2) := by decide +kernel
theorem d_M_arc_75 : decode b_M_arc 75 = .ok (.i2l, 1) := by decide +kernel
theorem d_M_arc_76 : decode b_M_arc 76 = .ok (.iload_n 3, 1) := by decide +kernel
theorem d_M_arc_77 : decode b_M_arc 77 = .ok (.i2l, 1) := by decide +kernel
theorem d_M_arc_78 : decode b_M_arc 78 = .ok (.lsub, 1) := by decide +kernel
theorem d_M_arc_79 : decode b_M_arc 79 = .ok (.ldc2_w 153, 3) := by decide +kernel
theorem d_M_arc_82 : decode b_M_arc 82 = .ok (.ladd, 1) := by decide +kernel
theorem d_M_arc_83 : decode b_M_arc 83 = .ok (.lconst 1, 1) := by decide +kernel
theorem d_M_arc_84 : decode b_M_arc 84 = .ok (.lsub, 1) := by decide +kernel
theorem d_M_arc_85 : decode b_M_arc 85 = .ok (.ldc2_w 153, 3) := by decide +kernel
theorem d_M_arc_88 : decode b_M_arc 88 = .ok (.invokestatic 104, 3) := by decide +kernel
theorem d_M_arc_91 : decode b_M_arc 91 = .ok (.lmul, 1) := by decide +kernel
theorem d_M_arc_92 : decode b_M_arc 92 = .ok (.lsub, 1) := by decide +kernel
theorem d_M_arc_93 : decode b_M_arc 93 = .ok (.lstore 6, 2) := by decide +kernel
theorem d_M_arc_95 : decode b_M_arc 95 = .ok (.iload_n 1, 1) := by decide +kernel
theorem d_M_arc_96 : decode b_M_arc 96 = .ok (.i2l, 1) := by decide +kernel
theorem d_M_arc_97 : decode b_M_arc 97 = .ok (.invokestatic 88, 3) := by decide +kernel
theorem d_M_arc_100 : decode b_M_arc 100 = .ok (.ifCond .ne 35, 3) := by decide +kernel
theorem d_M_arc_103 : decode b_M_arc 103 = .ok (.iload_n 2, 1) := by decide +kernel
theorem d_M_arc_104 : decode b_M_arc 104 = .ok (.i2l, 1) := by decide +kernel
theorem d_M_arc_105 : decode b_M_arc 105 = .ok (.invokestatic 88, 3) := by decide +kernel
theorem d_M_arc_108 : decode b_M_arc 108 = .ok (.ifCond .ne 27, 3) := by decide +kernel
theorem d_M_arc_111 : decode b_M_arc 111 = .ok (.lload 6, 2) := by decide +kernel
theorem d_M_arc_113 : decode b_M_arc 113 = .ok (.iload_n 3, 1) := by decide +kernel
theorem d_M_arc_114 : decode b_M_arc 114 = .ok (.i2l, 1) := by decide +kernel
theorem d_M_arc_115 : decode b_M_arc 115 = .ok (.lsub, 1) := by decide +kernel
theorem d_M_arc_116 : decode b_M_arc 116 = .ok (.ldc2_w 155, 3) := by decide +kernel
theorem d_M_arc_119 : decode b_M_arc 119 = .ok (.lcmp, 1) := by decide +kernel
theorem d_M_arc_120 : decode b_M_arc 120 = .ok (.ifCond .gt 15, 3) := by decide +kernel
theorem d_M_arc_123 : decode b_M_arc 123 = .ok (.iload_n 3, 1) := by decide +kernel
theorem d_M_arc_124 : decode b_M_arc 124 = .ok (.i2l, 1) := by decide +kernel
theorem d_M_arc_125 : decode b_M_arc 125 = .ok (.lload 6, 2) := by decide +kernel
theorem d_M_arc_127 : decode b_M_arc 127 = .ok (.lsub, 1) := by decide +kernel
theorem d_M_arc_128 : decode b_M_arc 128 = .ok (.ldc2_w 155, 3) := by decide +kernel
theorem d_M_arc_131 : decode b_M_arc 131 = .ok (.lcmp, 1) := by decide +kernel
theorem d_M_arc_132 : decode b_M_arc 132 = .ok (.ifCond .le 6, 3) := by decide +kernel
theorem d_M_arc_135 : decode b_M_arc 135 = .ok (.bipush (-4), 2) := by decide +kernel
theorem d_M_arc_137 : decode b_M_arc 137 = .ok (.ireturn, 1) := by decide +kernel
theorem d_M_arc_138 : decode b_M_arc 138 = .ok (.aload_n 0, 1) := by decide +kernel
theorem d_M_arc_139 : decode b_M_arc 139 = .ok (.getfield 16, 3) := by decide +kernel
theorem d_M_arc_142 : decode b_M_arc 142 = .ok (.aload_n 0, 1) := by decide +kernel
theorem d_M_arc_143 : decode b_M_arc 143 = .ok (.getfield 10, 3) := by decide +kernel
theorem d_M_arc_146 : decode b_M_arc 146 = .ok (.invokevirtual 50, 3) := by decide +kernel
theorem d_M_arc_149 : decode b_M_arc 149 = .ok (.iload 5, 2) := by decide +kernel
theorem d_M_arc_151 : decode b_M_arc 151 = .ok (.ifCond .ne 19, 3) := by decide +kernel
theorem d_M_arc_154 : decode b_M_arc 154 = .ok (.aload_n 0, 1) := by decide +kernel
theorem d_M_arc_155 : decode b_M_arc 155 = .ok (.iload_n 1, 1) := by decide +kernel
theorem d_M_arc_156 : decode b_M_arc 156 = .ok (.i2l, 1) := by decide +kernel
theorem d_M_arc_157 : decode b_M_arc 157 = .ok (.iload_n 2, 1) := by decide +kernel
theorem d_M_arc_158 : decode b_M_arc 158 = .ok (.i2l, 1) := by decide +kernel
theorem d_M_arc_159 : decode b_M_arc 159 = .ok (.iload_n 3, 1) := by decide +kernel
theorem d_M_arc_160 : decode b_M_arc 160 = .ok (.i2l, 1) := by decide +kernel
theorem d_M_arc_161 : decode b_M_arc 161 = .ok (.lload 6, 2) := by decide +kernel
theorem d_M_arc_163 : decode b_M_arc 163 = .ok (.iconst 0, 1) := by decide +kernel
theorem d_M_arc_164 : decode b_M_arc 164 = .ok (.invokevirtual 157, 3) := by decide +kernel
theorem d_M_arc_167 : decode b_M_arc 167 = .ok (.goto 16, 3) := by decide +kernel
theorem d_M_arc_170 : decode b_M_arc 170 = .ok (.aload_n 0, 1) := by decide +kernel
theorem d_M_arc_171 : decode b_M_arc 171 = .ok (.iload_n 1, 1) := by decide +kernel
theorem d_M_arc_172 : decode b_M_arc 172 = .ok (.i2l, 1) := by decide +kernel
theorem d_M_arc_173 : decode b_M_arc 173 = .ok (.iload_n 2, 1) := by decide +kernel
theorem d_M_arc_174 : decode b_M_arc 174 = .ok (.i2l, 1) := by decide +kernel
theorem d_M_arc_175 : decode b_M_arc 175 = .ok (.lload 6, 2) := by decide +kernel
theorem d_M_arc_177 : decode b_M_arc 177 = .ok (.iload_n 3, 1) := by decide +kernel
theorem d_M_arc_178 : decode b_M_arc 178 = .ok (.i2l, 1) := by decide +kernel
theorem d_M_arc_179 : decode b_M_arc 179 = .ok (.iconst 1, 1) := by decide +kernel
theorem d_M_arc_180 : decode b_M_arc 180 = .ok (.invokevirtual 157, 3) := by decide +kernel
theorem d_M_arc_183 : decode b_M_arc 183 = .ok (.aload_n 0, 1) := by decide +kernel
theorem d_M_arc_184 : decode b_M_arc 184 = .ok (.invokevirtual 58, 3) := by decide +kernel
theorem d_M_arc_187 : decode b_M_arc 187 = .ok (.ireturn, 1) := by decide +kernel
theorem d_M_shift_0 : decode b_M_shift 0 = .ok (.aload_n 0, 1) := by decide +kernel
theorem d_M_shift_1 : decode b_M_shift 1 = .ok (.getfield 16, 3) := by decide +kernel
theorem d_M_shift_4 : decode b_M_shift 4 = .ok (.invokevirtual 85, 3) := by decide +kernel
theorem d_M_shift_7 : decode b_M_shift 7 = .ok (.iconst 0, 1) := by decide +kernel
theorem d_M_shift_8 : decode b_M_shift 8 = .ok (.istore_n 3, 1) := by decide +kernel
theorem d_M_shift_9 : decode b_M_shift 9 = .ok (.iload_n 3, 1) := by decide +kernel
theorem d_M_shift_10 : decode b_M_shift 10 = .ok (.aload_n 0, 1) := by decide +kernel
theorem d_M_shift_11 : decode b_M_shift 11 = .ok (.getfield 10, 3) := by decide +kernel
theorem d_M_shift_14 : decode b_M_shift 14 = .ok (.getfield 42, 3) := by decide +kernel
theorem d_M_shift_17 : decode b_M_shift 17 = .ok (.if_icmp .ge 159, 3) := by decide +kernel
theorem d_M_shift_20 : decode b_M_shift 20 = .ok (.aload_n 0, 1) := by decide +kernel
theorem d_M_shift_21 : decode b_M_shift 21 = .ok (.getfield 10, 3) := by decide +kernel
theorem d_M_shift_24 : decode b_M_shift 24 = .ok (.getfield 77, 3) := by decide +kernel
theorem d_M_shift_27 : decode b_M_shift 27 = .ok (.iload_n 3, 1) := by decide +kernel
theorem d_M_shift_28 : decode b_M_shift 28 = .ok (.baload, 1) := by decide +kernel
theorem d_M_shift_29 : decode b_M_shift 29 = .ok (.iconst 2, 1) := by decide +kernel
theorem d_M_shift_30 : decode b_M_shift 30 = .ok (.if_icmp .ne 7, 3) := by decide +kernel
theorem d_M_shift_33 : decode b_M_shift 33 = .ok (.iconst 1, 1) := by decide +kernel
theorem d_M_shift_34 : decode b_M_shift 34 = .ok (.goto 4, 3) := by decide +kernel
theorem d_M_shift_37 : decode b_M_shift 37 = .ok (.iconst 0, 1) := by decide +kernel
theorem d_M_shift_38 : decode b_M_shift 38 = .ok (.istore 4, 2) := by decide +kernel
theorem d_M_shift_40 : decode b_M_shift 40 = .ok (.aload_n 0, 1) := by decide +kernel
theorem d_M_shift_41 : decode b_M_shift 41 = .ok (.getfield 16, 3) := by decide +kernel
theorem d_M_shift_44 : decode b_M_shift 44 = .ok (.aload_n 0, 1) := by decide +kernel
theorem d_M_shift_45 : decode b_M_shift 45 = .ok (.getfield 10, 3) := by decide +kernel
theorem d_M_shift_48 : decode b_M_shift 48 = .ok (.getfield 77, 3) := by decide +kernel
theorem d_M_shift_51 : decode b_M_shift 51 = .ok (.iload_n 3, 1) := by decide +kernel
theorem d_M_shift_52 : decode b_M_shift 52 = .ok (.baload, 1) := by decide +kernel
theorem d_M_shift_53 : decode b_M_shift 53 = .ok (.aload_n 0, 1) := by decide +kernel
theorem d_M_shift_54 : decode b_M_shift 54 = .ok (.getfield 10, 3) := by decide +kernel
theorem d_M_shift_57 : decode b_M_shift 57 = .ok (.iload_n 3, 1) := by decide +kernel
theorem d_M_shift_58 : decode b_M_shift 58 = .ok (.iconst 0, 1) := by decide +kernel
theorem d_M_shift_59 : decode b_M_shift 59 = .ok (.invokevirtual 46, 3) := by decide +kernel
theorem d_M_shift_62 : decode b_M_shift 62 = .ok (.i2l, 1) := by decide +kernel
theorem d_M_shift_63 : decode b_M_shift 63 = .ok (.iload_n 1, 1) := by decide +kernel
theorem d_M_shift_64 : decode b_M_shift 64 = .ok (.i2l, 1) := by decide +kernel
theorem d_M_shift_65 : decode b_M_shift 65 = .ok (.ladd, 1) := by decide +kernel
theorem d_M_shift_66 : decode b_M_shift 66 = .ok (.aload_n 0, 1) := by decide +kernel
theorem d_M_shift_67 : decode b_M_shift 67 = .ok (.getfield 10, 3) := by decide +kernel
theorem d_M_shift_70 : decode b_M_shift 70 = .ok (.iload_n 3, 1) := by decide +kernel
theorem d_M_shift_71 : decode b_M_shift 71 = .ok (.iconst 1, 1) := by decide +kernel
theorem d_M_shift_72 : decode b_M_shift 72 = .ok (.invokevirtual 46, 3) := by decide +kernel
theorem d_M_shift_75 : decode b_M_shift 75 = .ok (.i2l, 1) := by decide +kernel
theorem d_M_shift_76 : decode b_M_shift 76 = .ok (.iload_n 2, 1) := by decide +kernel
theorem d_M_shift_77 : decode b_M_shift 77 = .ok (.i2l, 1) := by decide +kernel
theorem d_M_shift_78 : decode b_M_shift 78 = .ok (.ladd, 1) := by decide +kernel
theorem d_M_shift_79 : decode b_M_shift 79 = .ok (.iload 4, 2) := by decide +kernel
theorem d_M_shift_81 : decode b_M_shift 81 = .ok (.ifCond .eq 19, 3) := by decide +kernel
theorem d_M_shift_84 : decode b_M_shift 84 = .ok (.aload_n 0, 1) := by decide +kernel
theorem d_M_shift_85 : decode b_M_shift 85 = .ok (.getfield 10, 3) := by decide +kernel
theorem d_M_shift_88 : decode b_M_shift 88 = .ok (.iload_n 3, 1) := by decide +kernel
theorem d_M_shift_89 : decode b_M_shift 89 = .ok (.iconst 2, 1) := by decide +kernel
theorem d_M_shift_90 : decode b_M_shift 90 = .ok (.invokevirtual 46, 3) := by decide +kernel
theorem d_M_shift_93 : decode b_M_shift 93 = .ok (.i2l, 1) := by decide +kernel
theorem d_M_shift_94 : decode b_M_shift 94 = .ok (.iload_n 1, 1) := by decide +kernel
theorem d_M_shift_95 : decode b_M_shift 95 = .ok (.i2l, 1) := by decide +kernel
theorem d_M_shift_96 : decode b_M_shift 96 = .ok (.ladd, 1) := by decide +kernel
theorem d_M_shift_97 : decode b_M_shift 97 = .ok (.goto 4, 3) := by decide +kernel
theorem d_M_shift_100 : decode b_M_shift 100 = .ok (.lconst 0, 1) := by decide +kernel
theorem d_M_shift_101 : decode b_M_shift 101 = .ok (.iload 4, 2) := by decide +kernel
theorem d_M_shift_103 : decode b_M_shift 103 = .ok (.ifCond .eq 19, 3) := by decide +kernel
theorem d_M_shift_106 : decode b_M_shift 106 = .ok (.aload_n 0, 1) := by decide +kernel
theorem d_M_shift_107 : decode b_M_shift 107 = .ok (.getfield 10, 3) := by decide +kernel
theorem d_M_shift_110 : decode b_M_shift 110 = .ok (.iload_n 3, 1) := by decide +kernel
theorem d_M_shift_111 : decode b_M_shift 111 = .ok (.iconst 3, 1) := by decide +kernel
theorem d_M_shift_112 : decode b_M_shift 112 = .ok (.invokevirtual 46, 3) := by decide +kernel
theorem d_M_shift_115 : decode b_M_shift 115 = .ok (.i2l, 1) := by decide +kernel
theorem d_M_shift_116 : decode b_M_shift 116 = .ok (.iload_n 2, 1) := by decide +kernel
theorem d_M_shift_117 : decode b_M_shift 117 = .ok (.i2l, 1) := by decide +kernel
theorem d_M_shift_118 : decode b_M_shift 118 = .ok (.ladd, 1) := by decide +kernel
theorem d_M_shift_119 : decode b_M_shift 119 = .ok (.goto 4, 3) := by decide +kernel
theorem d_M_shift_122 : decode b_M_shift 122 = .ok (.lconst 0, 1) := by decide +kernel
theorem d_M_shift_123 : decode b_M_shift 123 = .ok (.iload 4, 2) := by decide +kernel
theorem d_M_shift_125 : decode b_M_shift 125 = .ok (.ifCond .eq 19, 3) := by decide +kernel
theorem d_M_shift_128 : decode b_M_shift 128 = .ok (.aload_n 0, 1) := by decide +kernel
theorem d_M_shift_129 : decode b_M_shift 129 = .ok (.getfield 10, 3) := by decide +kernel
theorem d_M_shift_132 : decode b_M_shift 132 = .ok (.iload_n 3, 1) := by decide +kernel
theorem d_M_shift_133 : decode b_M_shift 133 = .ok (.iconst 4, 1) := by decide +kernel
theorem d_M_shift_134 : decode b_M_shift 134 = .ok (.invokevirtual 46, 3) := by decide +kernel
theorem d_M_shift_137 : decode b_M_shift 137 = .ok (.i2l, 1) := by decide +kernel
theorem d_M_shift_138 : decode b_M_shift 138 = .ok (.iload_n 1, 1) := by decide +kernel
theorem d_M_shift_139 : decode b_M_shift 139 = .ok (.i2l, 1) := by decide +kernel
theorem d_M_shift_140 : decode b_M_shift 140 = .ok (.ladd, 1) := by decide +kernel
theorem d_M_shift_141 : decode b_M_shift 141 = .ok (.goto 4, 3) := by decide +kernel
theorem d_M_shift_144 : decode b_M_shift 144 = .ok (.lconst 0, 1) := by decide +kernel
theorem d_M_shift_145 : decode b_M_shift 145 = .ok (.iload 4, 2) := by decide +kernel
theorem d_M_shift_147 : decode b_M_shift 147 = .ok (.ifCond .eq 19, 3) := by decide +kernel
theorem d_M_shift_150 : decode b_M_shift 150 = .ok (.aload_n 0, 1) := by decide +kernel
theorem d_M_shift_151 : decode b_M_shift 151 = .ok (.getfield 10, 3) := by decide +kernel
theorem d_M_shift_154 : decode b_M_shift 154 = .ok (.iload_n 3, 1) := by decide +kernel
theorem d_M_shift_155 : decode b_M_shift 155 = .ok (.iconst 5, 1) := by decide +kernel
theorem d_M_shift_156 : decode b_M_shift 156 = .ok (.invokevirtual 46, 3) := by decide +kernel
theorem d_M_shift_159 : decode b_M_shift 159 = .ok (.i2l, 1) := by decide +kernel
theorem d_M_shift_160 : decode b_M_shift 160 = .ok (.iload_n 2, 1) := by decide +kernel
theorem d_M_shift_161 : decode b_M_shift 161 = .ok (.i2l, 1) := by decide +kernel
theorem d_M_shift_162 : decode b_M_shift 162 = .ok (.ladd, 1) := by decide +kernel
theorem d_M_shift_163 : decode b_M_shift 163 = .ok (.goto 4, 3) := by decide +kernel
theorem d_M_shift_166 : decode b_M_shift 166 = .ok (.lconst 0, 1) := by decide +kernel
theorem d_M_shift_167 : decode b_M_shift 167 = .ok (.invokevirtual 73, 3) := by decide +kernel
theorem d_M_shift_170 : decode b_M_shift 170 = .ok (.iinc 3 1, 3) := by decide +kernel
theorem d_M_shift_173 : decode b_M_shift 173 = .ok (.goto (-164), 3) := by decide +kernel
theorem d_M_shift_176 : decode b_M_shift 176 = .ok (.aload_n 0, 1) := by decide +kernel
theorem d_M_shift_177 : decode b_M_shift 177 = .ok (.invokevirtual 58, 3) := by decide +kernel
theorem d_M_shift_180 : decode b_M_shift 180 = .ok (.ireturn, 1) := by decide +kernel
theorem d_M_reverse_0 : decode b_M_reverse 0 = .ok (.aload_n 0, 1) := by decide +kernel
theorem d_M_reverse_1 : decode b_M_reverse 1 = .ok (.getfield 16, 3) := by decide +kernel
theorem d_M_reverse_4 : decode b_M_reverse 4 = .ok (.invokevirtual 85, 3) := by decide +kernel
theorem d_M_reverse_7 : decode b_M_reverse 7 = .ok (.iconst 0, 1) := by decide +kernel
theorem d_M_reverse_8 : decode b_M_reverse 8 = .ok (.istore_n 1, 1) := by decide +kernel
theorem d_M_reverse_9 : decode b_M_reverse 9 = .ok (.iload_n 1, 1) := by decide +kernel
theorem d_M_reverse_10 : decode b_M_reverse 10 = .ok (.aload_n 0, 1) := by decide +kernel
theorem d_M_reverse_11 : decode b_M_reverse 11 = .ok (.getfield 10, 3) := by decide +kernel
theorem d_M_reverse_14 : decode b_M_reverse 14 = .ok (.getfield 42, 3) := by decide +kernel
theorem d_M_reverse_17 : decode b_M_reverse 17 = .ok (.if_icmp .ge 47, 3) := by decide +kernel
theorem d_M_reverse_20 : decode b_M_reverse 20 = .ok (.iload_n 1, 1) := by decide +kernel
theorem d_M_reverse_21 : decode b_M_reverse 21 = .ok (.iconst 1, 1) := by decide +kernel
theorem d_M_reverse_22 : decode b_M_reverse 22 = .ok (.iadd, 1) := by decide +kernel
theorem d_M_reverse_23 : decode b_M_reverse 23 = .ok (.istore_n 2, 1) := by decide +kernel
theorem d_M_reverse_24 : decode b_M_reverse 24 = .ok (.iload_n 2, 1) := by decide +kernel
theorem d_M_reverse_25 : decode b_M_reverse 25 = .ok (.aload_n 0, 1) := by decide +kernel
theorem d_M_reverse_26 : decode b_M_reverse 26 = .ok (.getfield 10, 3) := by decide +kernel
theorem d_M_reverse_29 : decode b_M_reverse 29 = .ok (.getfield 42, 3) := by decide +kernel
theorem d_M_reverse_32 : decode b_M_reverse 32 = .ok (.if_icmp .ge 21, 3) := by decide +kernel
theorem d_M_reverse_35 : decode b_M_reverse 35 = .ok (.aload_n 0, 1) := by decide +kernel
theorem d_M_reverse_36 : decode b_M_reverse 36 = .ok (.getfield 10, 3) := by decide +kernel
theorem d_M_reverse_39 : decode b_M_reverse 39 = .ok (.getfield 77, 3) := by decide +kernel
theorem d_M_reverse_42 : decode b_M_reverse 42 = .ok (.iload_n 2, 1) := by decide +kernel
theorem d_M_reverse_43 : decode b_M_reverse 43 = .ok (.baload, 1) := by decide +kernel
theorem d_M_reverse_44 : decode b_M_reverse 44 = .ok (.ifCond .eq 9, 3) := by decide +kernel
theorem d_M_reverse_47 : decode b_M_reverse 47 = .ok (.iinc 2 1, 3) := by decide +kernel
theorem d_M_reverse_50 : decode b_M_reverse 50 = .ok (.goto (-26), 3) := by decide +kernel
theorem d_M_reverse_53 : decode b_M_reverse 53 = .ok (.aload_n 0, 1) := by decide +kernel
theorem d_M_reverse_54 : decode b_M_reverse 54 = .ok (.iload_n 1, 1) := by decide +kernel
theorem d_M_reverse_55 : decode b_M_reverse 55 = .ok (.iload_n 2, 1) := by decide +kernel
theorem d_M_reverse_56 : decode b_M_reverse 56 = .ok (.invokevirtual 161, 3) := by decide +kernel
theorem d_M_reverse_59 : decode b_M_reverse 59 = .ok (.iload_n 2, 1) := by decide +kernel
theorem d_M_reverse_60 : decode b_M_reverse 60 = .ok (.istore_n 1, 1) := by decide +kernel
theorem d_M_reverse_61 : decode b_M_reverse 61 = .ok (.goto (-52), 3) := by decide +kernel
theorem d_M_reverse_64 : decode b_M_reverse 64 = .ok (.aload_n 0, 1) := by decide +kernel
theorem d_M_reverse_65 : decode b_M_reverse 65 = .ok (.invokevirtual 58, 3) := by decide +kernel
theorem d_M_reverse_68 : decode b_M_reverse 68 = .ok (.ireturn, 1) := by decide +kernel
theorem d_M_turn_0 : decode b_M_turn 0 = .ok (.aload_n 0, 1) := by decide +kernel
theorem d_M_turn_1 : decode b_M_turn 1 = .ok (.getfield 10, 3) := by decide +kernel
theorem d_M_turn_4 : decode b_M_turn 4 = .ok (.getfield 77, 3) := by decide +kernel
theorem d_M_turn_7 : decode b_M_turn 7 = .ok (.iload_n 2, 1) := by decide +kernel
theorem d_M_turn_8 : decode b_M_turn 8 = .ok (.iconst 1, 1) := by decide +kernel
theorem d_M_turn_9 : decode b_M_turn 9 = .ok (.isub, 1) := by decide +kernel
theorem d_M_turn_10 : decode b_M_turn 10 = .ok (.baload, 1) := by decide +kernel
theorem d_M_turn_11 : decode b_M_turn 11 = .ok (.iconst 3, 1) := by decide +kernel
theorem d_M_turn_12 : decode b_M_turn 12 = .ok (.if_icmp .ne 7, 3) := by decide +kernel
theorem d_M_turn_15 : decode b_M_turn 15 = .ok (.iconst 1, 1) := by decide +kernel
theorem d_M_turn_16 : decode b_M_turn 16 = .ok (.goto 4, 3) := by decide +kernel
theorem d_M_turn_19 : decode b_M_turn 19 = .ok (.iconst 0, 1) := by decide +kernel
theorem d_M_turn_20 : decode b_M_turn 20 = .ok (.istore_n 3, 1) := by decide +kernel
theorem d_M_turn_21 : decode b_M_turn 21 = .ok (.iload_n 3, 1) := by decide +kernel
theorem d_M_turn_22 : decode b_M_turn 22 = .ok (.ifCond .eq 9, 3) := by decide +kernel
theorem d_M_turn_25 : decode b_M_turn 25 = .ok (.iload_n 2, 1) := by decide +kernel
theorem d_M_turn_26 : decode b_M_turn 26 = .ok (.iconst 2, 1) := by decide +kernel
theorem d_M_turn_27 : decode b_M_turn 27 = .ok (.isub, 1) := by decide +kernel
theorem d_M_turn_28 : decode b_M_turn 28 = .ok (.goto 6, 3) := by decide +kernel
theorem d_M_turn_31 : decode b_M_turn 31 = .ok (.iload_n 2, 1) := by decide +kernel
theorem d_M_turn_32 : decode b_M_turn 32 = .ok (.iconst 1, 1) := by decide +kernel
theorem d_M_turn_33 : decode b_M_turn 33 = .ok (.isub, 1) := by decide +kernel
theorem d_M_turn_34 : decode b_M_turn 34 = .ok (.istore 4, 2) := by decide +kernel
theorem d_M_turn_36 : decode b_M_turn 36 = .ok (.aload_n 0, 1) := by decide +kernel
theorem d_M_turn_37 : decode b_M_turn 37 = .ok (.getfield 16, 3) := by decide +kernel
theorem d_M_turn_40 : decode b_M_turn 40 = .ok (.iconst 0, 1) := by decide +kernel
theorem d_M_turn_41 : decode b_M_turn 41 = .ok (.aload_n 0, 1) := by decide +kernel
theorem d_M_turn_42 : decode b_M_turn 42 = .ok (.getfield 10, 3) := by decide +kernel
theorem d_M_turn_45 : decode b_M_turn 45 = .ok (.iload 4, 2) := by decide +kernel
theorem d_M_turn_47 : decode b_M_turn 47 = .ok (.iconst 0, 1) := by decide +kernel
theorem d_M_turn_48 : decode b_M_turn 48 = .ok (.invokevirtual 46, 3) := by decide +kernel
theorem d_M_turn_51 : decode b_M_turn 51 = .ok (.i2l, 1) := by decide +kernel
theorem d_M_turn_52 : decode b_M_turn 52 = .ok (.aload_n 0, 1) := by decide +kernel
theorem d_M_turn_53 : decode b_M_turn 53 = .ok (.getfield 10, 3) := by decide +kernel
theorem d_M_turn_56 : decode b_M_turn 56 = .ok (.iload 4, 2) := by decide +kernel
theorem d_M_turn_58 : decode b_M_turn 58 = .ok (.iconst 1, 1) := by decide +kernel
theorem d_M_turn_59 : decode b_M_turn 59 = .ok (.invokevirtual 46, 3) := by decide +kernel
theorem d_M_turn_62 : decode b_M_turn 62 = .ok (.i2l, 1) := by decide +kernel
theorem d_M_turn_63 : decode b_M_turn 63 = .ok (.invokevirtual 69, 3) := by decide +kernel
theorem d_M_turn_66 : decode b_M_turn 66 = .ok (.iload 4, 2) := by decide +kernel
theorem d_M_turn_68 : decode b_M_turn 68 = .ok (.istore 5, 2) := by decide +kernel
theorem d_M_turn_70 : decode b_M_turn 70 = .ok (.iload 5, 2) := by decide +kernel
theorem d_M_turn_72 : decode b_M_turn 72 = .ok (.iload_n 1, 1) := by decide +kernel
theorem d_M_turn_73 : decode b_M_turn 73 = .ok (.if_icmp .le 153, 3) := by decide +kernel
theorem d_M_turn_76 : decode b_M_turn 76 = .ok (.aload_n 0, 1) := by decide +kernel
theorem d_M_turn_77 : decode b_M_turn 77 = .ok (.getfield 10, 3) := by decide +kernel
theorem d_M_turn_80 : decode b_M_turn 80 = .ok (.getfield 77, 3) := by decide +kernel
theorem d_M_turn_83 : decode b_M_turn 83 = .ok (.iload 5, 2) := by decide +kernel
theorem d_M_turn_85 : decode b_M_turn 85 = .ok (.baload, 1) := by decide +kernel
theorem d_M_turn_86 : decode b_M_turn 86 = .ok (.iconst 2, 1) := by decide +kernel
theorem d_M_turn_87 : decode b_M_turn 87 = .ok (.if_icmp .ne 7, 3) := by decide +kernel
theorem d_M_turn_90 : decode b_M_turn 90 = .ok (.iconst 1, 1) := by decide +kernel
theorem d_M_turn_91 : decode b_M_turn 91 = .ok (.goto 4, 3) := by decide +kernel
theorem d_M_turn_94 : decode b_M_turn 94 = .ok (.iconst 0, 1) := by decide +kernel
theorem d_M_turn_95 : decode b_M_turn 95 = .ok (.istore 6, 2) := by decide +kernel
theorem d_M_turn_97 : decode b_M_turn 97 = .ok (.aload_n 0, 1) := by decide +kernel
theorem d_M_turn_98 : decode b_M_turn 98 = .ok (.getfield 16, 3) := by decide +kernel
theorem d_M_turn_101 : decode b_M_turn 101 = .ok (.aload_n 0, 1) := by decide +kernel
theorem d_M_turn_102 : decode b_M_turn 102 = .ok (.getfield 10, 3) := by decide +kernel
theorem d_M_turn_105 : decode b_M_turn 105 = .ok (.getfield 77, 3) := by decide +kernel
theorem d_M_turn_108 : decode b_M_turn 108 = .ok (.iload 5, 2) := by decide +kernel
theorem d_M_turn_110 : decode b_M_turn 110 = .ok (.baload, 1) := by decide +kernel
theorem d_M_turn_111 : decode b_M_turn 111 = .ok (.aload_n 0, 1) := by decide +kernel
theorem d_M_turn_112 : decode b_M_turn 112 = .ok (.getfield 10, 3) := by decide +kernel
theorem d_M_turn_115 : decode b_M_turn 115 = .ok (.iload 5, 2) := by decide +kernel
theorem d_M_turn_117 : decode b_M_turn 117 = .ok (.iconst 1, 1) := by decide +kernel
theorem d_M_turn_118 : decode b_M_turn 118 = .ok (.isub, 1) := by decide +kernel
theorem d_M_turn_119 : decode b_M_turn 119 = .ok (.iconst 0, 1) := by decide +kernel
theorem d_M_turn_120 : decode b_M_turn 120 = .ok (.invokevirtual 46, 3) := by decide +kernel
theorem d_M_turn_123 : decode b_M_turn 123 = .ok (.i2l, 1) := by decide +kernel
theorem d_M_turn_124 : decode b_M_turn 124 = .ok (.aload_n 0, 1) := by decide +kernel
theorem d_M_turn_125 : decode b_M_turn 125 = .ok (.getfield 10, 3) := by decide +kernel
theorem d_M_turn_128 : decode b_M_turn 128 = .ok (.iload 5, 2) := by decide +kernel
theorem d_M_turn_130 : decode b_M_turn 130 = .ok (.iconst 1, 1) := by decide +kernel
theorem d_M_turn_131 : decode b_M_turn 131 = .ok (.isub, 1) := by decide +kernel
theorem d_M_turn_132 : decode b_M_turn 132 = .ok (.iconst 1, 1) := by decide +kernel
theorem d_M_turn_133 : decode b_M_turn 133 = .ok (.invokevirtual 46, 3) := by decide +kernel
theorem d_M_turn_136 : decode b_M_turn 136 = .ok (.i2l, 1) := by decide +kernel
theorem d_M_turn_137 : decode b_M_turn 137 = .ok (.iload 6, 2) := by decide +kernel
theorem d_M_turn_139 : decode b_M_turn 139 = .ok (.ifCond .eq 17, 3) := by decide +kernel
theorem d_M_turn_142 : decode b_M_turn 142 = .ok (.aload_n 0, 1) := by decide +kernel
theorem d_M_turn_143 : decode b_M_turn 143 = .ok (.getfield 10, 3) := by decide +kernel
theorem d_M_turn_146 : decode b_M_turn 146 = .ok (.iload 5, 2) := by decide +kernel
theorem d_M_turn_148 : decode b_M_turn 148 = .ok (.iconst 4, 1) := by decide +kernel
theorem d_M_turn_149 : decode b_M_turn 149 = .ok (.invokevirtual 46, 3) := by decide +kernel
theorem d_M_turn_152 : decode b_M_turn 152 = .ok (.i2l, 1) := by decide +kernel
theorem d_M_turn_153 : decode b_M_turn 153 = .ok (.goto 4, 3) := by decide +kernel
theorem d_M_turn_156 : decode b_M_turn 156 = .ok (.lconst 0, 1) := by decide +kernel
theorem d_M_turn_157 : decode b_M_turn 157 = .ok (.iload 6, 2) := by decide +kernel
theorem d_M_turn_159 : decode b_M_turn 159 = .ok (.ifCond .eq 17, 3) := by decide +kernel
theorem d_M_turn_162 : decode b_M_turn 162 = .ok (.aload_n 0, 1) := by decide +kernel
theorem d_M_turn_163 : decode b_M_turn 163 = .ok (.getfield 10, 3) := by decide +kernel
theorem d_M_turn_166 : decode b_M_turn 166 = .ok (.iload 5, 2) := by decide +kernel
theorem d_M_turn_168 : decode b_M_turn 168 = .ok (.iconst 5, 1) := by decide +kernel
theorem d_M_turn_169 : decode b_M_turn 169 = .ok (.invokevirtual 46, 3) := by decide +kernel
theorem d_M_turn_172 : decode b_M_turn 172 = .ok (.i2l, 1) := by decide +kernel
theorem d_M_turn_173 : decode b_M_turn 173 = .ok (.goto 4, 3) := by decide +kernel
theorem d_M_turn_176 : decode b_M_turn 176 = .ok (.lconst 0, 1) := by decide +kernel
theorem d_M_turn_177 : decode b_M_turn 177 = .ok (.iload 6, 2) := by decide +kernel
theorem d_M_turn_179 : decode b_M_turn 179 = .ok (.ifCond .eq 17, 3) := by decide +kernel
theorem d_M_turn_182 : decode b_M_turn 182 = .ok (.aload_n 0, 1) := by decide +kernel
theorem d_M_turn_183 : decode b_M_turn 183 = .ok (.getfield 10, 3) := by decide +kernel
theorem d_M_turn_186 : decode b_M_turn 186 = .ok (.iload 5, 2) := by decide +kernel
theorem d_M_turn_188 : decode b_M_turn 188 = .ok (.iconst 2, 1) := by decide +kernel
theorem d_M_turn_189 : decode b_M_turn 189 = .ok (.invokevirtual 46, 3) := by decide +kernel
theorem d_M_turn_192 : decode b_M_turn 192 = .ok (.i2l, 1) := by decide +kernel
theorem d_M_turn_193 : decode b_M_turn 193 = .ok (.goto 4, 3) := by decide +kernel
theorem d_M_turn_196 : decode b_M_turn 196 = .ok (.lconst 0, 1) := by decide +kernel
theorem d_M_turn_197 : decode b_M_turn 197 = .ok (.iload 6, 2) := by decide +kernel
theorem d_M_turn_199 : decode b_M_turn 199 = .ok (.ifCond .eq 17, 3) := by decide +kernel
theorem d_M_turn_202 : decode b_M_turn 202 = .ok (.aload_n 0, 1) := by decide +kernel
theorem d_M_turn_203 : decode b_M_turn 203 = .ok (.getfield 10, 3) := by decide +kernel
theorem d_M_turn_206 : decode b_M_turn 206 = .ok (.iload 5, 2) := by decide +kernel
theorem d_M_turn_208 : decode b_M_turn 208 = .ok (.iconst 3, 1) := by decide +kernel
theorem d_M_turn_209 : decode b_M_turn 209 = .ok (.invokevirtual 46, 3) := by decide +kernel
theorem d_M_turn_212 : decode b_M_turn 212 = .ok (.i2l, 1) := by decide +kernel
theorem d_M_turn_213 : decode b_M_turn 213 = .ok (.goto 4, 3) := by decide +kernel
theorem d_M_turn_216 : decode b_M_turn 216 = .ok (.lconst 0, 1) := by decide +kernel
theorem d_M_turn_217 : decode b_M_turn 217 = .ok (.invokevirtual 73, 3) := by decide +kernel
theorem d_M_turn_220 : decode b_M_turn 220 = .ok (.iinc 5 (-1), 3) := by decide +kernel
theorem d_M_turn_223 : decode b_M_turn 223 = .ok (.goto (-153), 3) := by decide +kernel
theorem d_M_turn_226 : decode b_M_turn 226 = .ok (.iload_n 3, 1) := by decide +kernel
theorem d_M_turn_227 : decode b_M_turn 227 = .ok (.ifCond .eq 33, 3) := by decide +kernel
theorem d_M_turn_230 : decode b_M_turn 230 = .ok (.aload_n 0, 1) := by decide +kernel
theorem d_M_turn_231 : decode b_M_turn 231 = .ok (.getfield 16, 3) := by decide +kernel
theorem d_M_turn_234 : decode b_M_turn 234 = .ok (.iconst 3, 1) := by decide +kernel
theorem d_M_turn_235 : decode b_M_turn 235 = .ok (.aload_n 0, 1) := by decide +kernel
theorem d_M_turn_236 : decode b_M_turn 236 = .ok (.getfield 10, 3) := by decide +kernel
theorem d_M_turn_239 : decode b_M_turn 239 = .ok (.iload 4, 2) := by decide +kernel
theorem d_M_turn_241 : decode b_M_turn 241 = .ok (.iconst 0, 1) := by decide +kernel
theorem d_M_turn_242 : decode b_M_turn 242 = .ok (.invokevirtual 46, 3) := by decide +kernel
theorem d_M_turn_245 : decode b_M_turn 245 = .ok (.i2l, 1) := by decide +kernel
theorem d_M_turn_246 : decode b_M_turn 246 = .ok (.aload_n 0, 1) := by decide +kernel
theorem d_M_turn_247 : decode b_M_turn 247 = .ok (.getfield 10, 3) := by decide +kernel
theorem d_M_turn_250 : decode b_M_turn 250 = .ok (.iload 4, 2) := by decide +kernel
theorem d_M_turn_252 : decode b_M_turn 252 = .ok (.iconst 1, 1) := by decide +kernel
theorem d_M_turn_253 : decode b_M_turn 253 = .ok (.invokevirtual 46, 3) := by decide +kernel
theorem d_M_turn_256 : decode b_M_turn 256 = .ok (.i2l, 1) := by decide +kernel
theorem d_M_turn_257 : decode b_M_turn 257 = .ok (.invokevirtual 69, 3) := by decide +kernel
theorem d_M_turn_260 : decode b_M_turn 260 = .ok (.return_, 1) := by decide +kernel
theorem d_M_isStraight_0 : decode b_M_isStraight 0 = .ok (.ldc2_w 165, 3) := by decide +kernel
theorem d_M_isStraight_3 : decode b_M_isStraight 3 = .ok (.lload_n 0, 1) := by decide +kernel
theorem d_M_isStraight_4 : decode b_M_isStraight 4 = .ok (.ldc2_w 123, 3) := by decide +kernel
theorem d_M_isStraight_7 : decode b_M_isStraight 7 = .ok (.lload_n 2, 1) := by decide +kernel
theorem d_M_isStraight_8 : decode b_M_isStraight 8 = .ok (.lmul, 1) := by decide +kernel
theorem d_M_isStraight_9 : decode b_M_isStraight 9 = .ok (.lsub, 1) := by decide +kernel
theorem d_M_isStraight_10 : decode b_M_isStraight 10 = .ok (.lload 4, 2) := by decide +kernel
theorem d_M_isStraight_12 : decode b_M_isStraight 12 = .ok (.ladd, 1) := by decide +kernel
theorem d_M_isStraight_13 : decode b_M_isStraight 13 = .ok (.invokestatic 167, 3) := by decide +kernel
theorem d_M_isStraight_16 : decode b_M_isStraight 16 = .ok (.lmul, 1) := by decide +kernel
theorem d_M_isStraight_17 : decode b_M_isStraight 17 = .ok (.ldc2_w 123, 3) := by decide +kernel
theorem d_M_isStraight_20 : decode b_M_isStraight 20 = .ok (.iload 6, 2) := by decide +kernel
theorem d_M_isStraight_22 : decode b_M_isStraight 22 = .ok (.i2l, 1) := by decide +kernel
theorem d_M_isStraight_23 : decode b_M_isStraight 23 = .ok (.lmul, 1) := by decide +kernel
theorem d_M_isStraight_24 : decode b_M_isStraight 24 = .ok (.lcmp, 1) := by decide +kernel
theorem d_M_isStraight_25 : decode b_M_isStraight 25 = .ok (.ifCond .gt 7, 3) := by decide +kernel
theorem d_M_isStraight_28 : decode b_M_isStraight 28 = .ok (.iconst 1, 1) := by decide +kernel
theorem d_M_isStraight_29 : decode b_M_isStraight 29 = .ok (.goto 4, 3) := by decide +kernel
theorem d_M_isStraight_32 : decode b_M_isStraight 32 = .ok (.iconst 0, 1) := by decide +kernel
theorem d_M_isStraight_33 : decode b_M_isStraight 33 = .ok (.ireturn, 1) := by decide +kernel
theorem d_M_lay_0 : decode b_M_lay 0 = .ok (.iload 18, 2) := by decide +kernel
theorem d_M_lay_2 : decode b_M_lay 2 = .ok (.bipush 10, 2) := by decide +kernel
theorem d_M_lay_4 : decode b_M_lay 4 = .ok (.if_icmp .eq 57, 3) := by decide +kernel
theorem d_M_lay_7 : decode b_M_lay 7 = .ok (.lload_n 1, 1) := by decide +kernel
theorem d_M_lay_8 : decode b_M_lay 8 = .ok (.lload 5, 2) := by decide +kernel
theorem d_M_lay_10 : decode b_M_lay 10 = .ok (.lload 9, 2) := by decide +kernel
theorem d_M_lay_12 : decode b_M_lay 12 = .ok (.iload 17, 2) := by decide +kernel
theorem d_M_lay_14 : decode b_M_lay 14 = .ok (.invokestatic 170, 3) := by decide +kernel
theorem d_M_lay_17 : decode b_M_lay 17 = .ok (.ifCond .eq 54, 3) := by decide +kernel
theorem d_M_lay_20 : decode b_M_lay 20 = .ok (.lload_n 3, 1) := by decide +kernel
theorem d_M_lay_21 : decode b_M_lay 21 = .ok (.lload 7, 2) := by decide +kernel
theorem d_M_lay_23 : decode b_M_lay 23 = .ok (.lload 11, 2) := by decide +kernel
theorem d_M_lay_25 : decode b_M_lay 25 = .ok (.iload 17, 2) := by decide +kernel
theorem d_M_lay_27 : decode b_M_lay 27 = .ok (.invokestatic 170, 3) := by decide +kernel
theorem d_M_lay_30 : decode b_M_lay 30 = .ok (.ifCond .eq 41, 3) := by decide +kernel
theorem d_M_lay_33 : decode b_M_lay 33 = .ok (.lload 5, 2) := by decide +kernel
theorem d_M_lay_35 : decode b_M_lay 35 = .ok (.lload 9, 2) := by decide +kernel
theorem d_M_lay_37 : decode b_M_lay 37 = .ok (.lload 13, 2) := by decide +kernel
theorem d_M_lay_39 : decode b_M_lay 39 = .ok (.iload 17, 2) := by decide +kernel
theorem d_M_lay_41 : decode b_M_lay 41 = .ok (.invokestatic 170, 3) := by decide +kernel
theorem d_M_lay_44 : decode b_M_lay 44 = .ok (.ifCond .eq 27, 3) := by decide +kernel
theorem d_M_lay_47 : decode b_M_lay 47 = .ok (.lload 7, 2) := by decide +kernel
theorem d_M_lay_49 : decode b_M_lay 49 = .ok (.lload 11, 2) := by decide +kernel
theorem d_M_lay_51 : decode b_M_lay 51 = .ok (.lload 15, 2) := by decide +kernel
theorem d_M_lay_53 : decode b_M_lay 53 = .ok (.iload 17, 2) := by decide +kernel
theorem d_M_lay_55 : decode b_M_lay 55 = .ok (.invokestatic 170, 3) := by decide +kernel
theorem d_M_lay_58 : decode b_M_lay 58 = .ok (.ifCond .eq 13, 3) := by decide +kernel
theorem d_M_lay_61 : decode b_M_lay 61 = .ok (.aload_n 0, 1) := by decide +kernel
theorem d_M_lay_62 : decode b_M_lay 62 = .ok (.iconst 1, 1) := by decide +kernel
theorem d_M_lay_63 : decode b_M_lay 63 = .ok (.lload 13, 2) := by decide +kernel
theorem d_M_lay_65 : decode b_M_lay 65 = .ok (.lload 15, 2) := by decide +kernel
theorem d_M_lay_67 : decode b_M_lay 67 = .ok (.invokevirtual 69, 3) := by decide +kernel
theorem d_M_lay_70 : decode b_M_lay 70 = .ok (.return_, 1) := by decide +kernel
theorem d_M_lay_71 : decode b_M_lay 71 = .ok (.lload_n 1, 1) := by decide +kernel
theorem d_M_lay_72 : decode b_M_lay 72 = .ok (.lload 5, 2) := by decide +kernel
theorem d_M_lay_74 : decode b_M_lay 74 = .ok (.ladd, 1) := by decide +kernel
theorem d_M_lay_75 : decode b_M_lay 75 = .ok (.iconst 1, 1) := by decide +kernel
theorem d_M_lay_76 : decode b_M_lay 76 = .ok (.lshr, 1) := by decide +kernel
theorem d_M_lay_77 : decode b_M_lay 77 = .ok (.lstore 19, 2) := by decide +kernel
theorem d_M_lay_79 : decode b_M_lay 79 = .ok (.lload_n 3, 1) := by decide +kernel
theorem d_M_lay_80 : decode b_M_lay 80 = .ok (.lload 7, 2) := by decide +kernel
theorem d_M_lay_82 : decode b_M_lay 82 = .ok (.ladd, 1) := by decide +kernel
theorem d_M_lay_83 : decode b_M_lay 83 = .ok (.iconst 1, 1) := by decide +kernel
theorem d_M_lay_84 : decode b_M_lay 84 = .ok (.lshr, 1) := by decide +kernel
theorem d_M_lay_85 : decode b_M_lay 85 = .ok (.lstore 21, 2) := by decide +kernel
theorem d_M_lay_87 : decode b_M_lay 87 = .ok (.lload 5, 2) := by decide +kernel
theorem d_M_lay_89 : decode b_M_lay 89 = .ok (.lload 9, 2) := by decide +kernel
theorem d_M_lay_91 : decode b_M_lay 91 = .ok (.ladd, 1) := by decide +kernel
theorem d_M_lay_92 : decode b_M_lay 92 = .ok (.iconst 1, 1) := by decide +kernel
theorem d_M_lay_93 : decode b_M_lay 93 = .ok (.lshr, 1) := by decide +kernel
theorem d_M_lay_94 : decode b_M_lay 94 = .ok (.lstore 23, 2) := by decide +kernel
theorem d_M_lay_96 : decode b_M_lay 96 = .ok (.lload 7, 2) := by decide +kernel
theorem d_M_lay_98 : decode b_M_lay 98 = .ok (.lload 11, 2) := by decide +kernel
theorem d_M_lay_100 : decode b_M_lay 100 = .ok (.ladd, 1) := by decide +kernel
theorem d_M_lay_101 : decode b_M_lay 101 = .ok (.iconst 1, 1) := by decide +kernel
theorem d_M_lay_102 : decode b_M_lay 102 = .ok (.lshr, 1) := by decide +kernel
theorem d_M_lay_103 : decode b_M_lay 103 = .ok (.lstore 25, 2) := by decide +kernel
theorem d_M_lay_105 : decode b_M_lay 105 = .ok (.lload 9, 2) := by decide +kernel
theorem d_M_lay_107 : decode b_M_lay 107 = .ok (.lload 13, 2) := by decide +kernel
theorem d_M_lay_109 : decode b_M_lay 109 = .ok (.ladd, 1) := by decide +kernel
theorem d_M_lay_110 : decode b_M_lay 110 = .ok (.iconst 1, 1) := by decide +kernel
theorem d_M_lay_111 : decode b_M_lay 111 = .ok (.lshr, 1) := by decide +kernel
theorem d_M_lay_112 : decode b_M_lay 112 = .ok (.lstore 27, 2) := by decide +kernel
theorem d_M_lay_114 : decode b_M_lay 114 = .ok (.lload 11, 2) := by decide +kernel
theorem d_M_lay_116 : decode b_M_lay 116 = .ok (.lload 15, 2) := by decide +kernel
theorem d_M_lay_118 : decode b_M_lay 118 = .ok (.ladd, 1) := by decide +kernel
theorem d_M_lay_119 : decode b_M_lay 119 = .ok (.iconst 1, 1) := by decide +kernel
theorem d_M_lay_120 : decode b_M_lay 120 = .ok (.lshr, 1) := by decide +kernel
theorem d_M_lay_121 : decode b_M_lay 121 = .ok (.lstore 29, 2) := by decide +kernel
theorem d_M_lay_123 : decode b_M_lay 123 = .ok (.lload 19, 2) := by decide +kernel
theorem d_M_lay_125 : decode b_M_lay 125 = .ok (.lload 23, 2) := by decide +kernel
theorem d_M_lay_127 : decode b_M_lay 127 = .ok (.ladd, 1) := by decide +kernel
theorem d_M_lay_128 : decode b_M_lay 128 = .ok (.iconst 1, 1) := by decide +kernel
theorem d_M_lay_129 : decode b_M_lay 129 = .ok (.lshr, 1) := by decide +kernel
theorem d_M_lay_130 : decode b_M_lay 130 = .ok (.lstore 31, 2) := by decide +kernel
theorem d_M_lay_132 : decode b_M_lay 132 = .ok (.lload 21, 2) := by decide +kernel
theorem d_M_lay_134 : decode b_M_lay 134 = .ok (.lload 25, 2) := by decide +kernel
theorem d_M_lay_136 : decode b_M_lay 136 = .ok (.ladd, 1) := by decide +kernel
theorem d_M_lay_137 : decode b_M_lay 137 = .ok (.iconst 1, 1) := by decide +kernel
theorem d_M_lay_138 : decode b_M_lay 138 = .ok (.lshr, 1) := by decide +kernel
theorem d_M_lay_139 : decode b_M_lay 139 = .ok (.lstore 33, 2) := by decide +kernel
theorem d_M_lay_141 : decode b_M_lay 141 = .ok (.lload 23, 2) := by decide +kernel
theorem d_M_lay_143 : decode b_M_lay 143 = .ok (.lload 27, 2) := by decide +kernel
theorem d_M_lay_145 : decode b_M_lay 145 = .ok (.ladd, 1) := by decide +kernel
theorem d_M_lay_146 : decode b_M_lay 146 = .ok (.iconst 1, 1) := by decide +kernel
theorem d_M_lay_147 : decode b_M_lay 147 = .ok (.lshr, 1) := by decide +kernel
theorem d_M_lay_148 : decode b_M_lay 148 = .ok (.lstore 35, 2) := by decide +kernel
theorem d_M_lay_150 : decode b_M_lay 150 = .ok (.lload 25, 2) := by decide +kernel
theorem d_M_lay_152 : decode b_M_lay 152 = .ok (.lload 29, 2) := by decide +kernel
theorem d_M_lay_154 : decode b_M_lay 154 = .ok (.ladd, 1) := by decide +kernel
theorem d_M_lay_155 : decode b_M_lay 155 = .ok (.iconst 1, 1) := by decide +kernel
theorem d_M_lay_156 : decode b_M_lay 156 = .ok (.lshr, 1) := by decide +kernel
theorem d_M_lay_157 : decode b_M_lay 157 = .ok (.lstore 37, 2) := by decide +kernel
theorem d_M_lay_159 : decode b_M_lay 159 = .ok (.lload 31, 2) := by decide +kernel
theorem d_M_lay_161 : decode b_M_lay 161 = .ok (.lload 35, 2) := by decide +kernel
theorem d_M_lay_163 : decode b_M_lay 163 = .ok (.ladd, 1) := by decide +kernel
theorem d_M_lay_164 : decode b_M_lay 164 = .ok (.iconst 1, 1) := by decide +kernel
theorem d_M_lay_165 : decode b_M_lay 165 = .ok (.lshr, 1) := by decide +kernel
theorem d_M_lay_166 : decode b_M_lay 166 = .ok (.lstore 39, 2) := by decide +kernel
theorem d_M_lay_168 : decode b_M_lay 168 = .ok (.lload 33, 2) := by decide +kernel
theorem d_M_lay_170 : decode b_M_lay 170 = .ok (.lload 37, 2) := by decide +kernel
theorem d_M_lay_172 : decode b_M_lay 172 = .ok (.ladd, 1) := by decide +kernel
theorem d_M_lay_173 : decode b_M_lay 173 = .ok (.iconst 1, 1) := by decide +kernel
theorem d_M_lay_174 : decode b_M_lay 174 = .ok (.lshr, 1) := by decide +kernel
theorem d_M_lay_175 : decode b_M_lay 175 = .ok (.lstore 41, 2) := by decide +kernel
theorem d_M_lay_177 : decode b_M_lay 177 = .ok (.aload_n 0, 1) := by decide +kernel
theorem d_M_lay_178 : decode b_M_lay 178 = .ok (.lload_n 1, 1) := by decide +kernel
theorem d_M_lay_179 : decode b_M_lay 179 = .ok (.lload_n 3, 1) := by decide +kernel
theorem d_M_lay_180 : decode b_M_lay 180 = .ok (.lload 19, 2) := by decide +kernel
theorem d_M_lay_182 : decode b_M_lay 182 = .ok (.lload 21, 2) := by decide +kernel
theorem d_M_lay_184 : decode b_M_lay 184 = .ok (.lload 31, 2) := by decide +kernel
theorem d_M_lay_186 : decode b_M_lay 186 = .ok (.lload 33, 2) := by decide +kernel
theorem d_M_lay_188 : decode b_M_lay 188 = .ok (.lload 39, 2) := by decide +kernel
theorem d_M_lay_190 : decode b_M_lay 190 = .ok (.lload 41, 2) := by decide +kernel
theorem d_M_lay_192 : decode b_M_lay 192 = .ok (.iload 17, 2) := by decide +kernel
theorem d_M_lay_194 : decode b_M_lay 194 = .ok (.iload 18, 2) := by decide +kernel
theorem d_M_lay_196 : decode b_M_lay 196 = .ok (.iconst 1, 1) := by decide +kernel
theorem d_M_lay_197 : decode b_M_lay 197 = .ok (.iadd, 1) := by decide +kernel
theorem d_M_lay_198 : decode b_M_lay 198 = .ok (.invokestatic 174, 3) := by decide +kernel
theorem d_M_lay_201 : decode b_M_lay 201 = .ok (.aload_n 0, 1) := by decide +kernel
theorem d_M_lay_202 : decode b_M_lay 202 = .ok (.lload 39, 2) := by decide +kernel
theorem d_M_lay_204 : decode b_M_lay 204 = .ok (.lload 41, 2) := by decide +kernel
theorem d_M_lay_206 : decode b_M_lay 206 = .ok (.lload 35, 2) := by decide +kernel
theorem d_M_lay_208 : decode b_M_lay 208 = .ok (.lload 37, 2) := by decide +kernel
theorem d_M_lay_210 : decode b_M_lay 210 = .ok (.lload 27, 2) := by decide +kernel
theorem d_M_lay_212 : decode b_M_lay 212 = .ok (.lload 29, 2) := by decide +kernel
theorem d_M_lay_214 : decode b_M_lay 214 = .ok (.lload 13, 2) := by decide +kernel
theorem d_M_lay_216 : decode b_M_lay 216 = .ok (.lload 15, 2) := by decide +kernel
theorem d_M_lay_218 : decode b_M_lay 218 = .ok (.iload 17, 2) := by decide +kernel
theorem d_M_lay_220 : decode b_M_lay 220 = .ok (.iload 18, 2) := by decide +kernel
theorem d_M_lay_222 : decode b_M_lay 222 = .ok (.iconst 1, 1) := by decide +kernel
theorem d_M_lay_223 : decode b_M_lay 223 = .ok (.iadd, 1) := by decide +kernel
theorem d_M_lay_224 : decode b_M_lay 224 = .ok (.invokestatic 174, 3) := by decide +kernel
theorem d_M_lay_227 : decode b_M_lay 227 = .ok (.return_, 1) := by decide +kernel
theorem d_M_flatten_0 : decode b_M_flatten 0 = .ok (.iload_n 1, 1) := by decide +kernel
theorem d_M_flatten_1 : decode b_M_flatten 1 = .ok (.iconst 1, 1) := by decide +kernel
theorem d_M_flatten_2 : decode b_M_flatten 2 = .ok (.if_icmp .lt 9, 3) := by decide +kernel
theorem d_M_flatten_5 : decode b_M_flatten 5 = .ok (.iload_n 1, 1) := by decide +kernel
theorem d_M_flatten_6 : decode b_M_flatten 6 = .ok (.ldc 178, 2) := by decide +kernel
theorem d_M_flatten_8 : decode b_M_flatten 8 = .ok (.if_icmp .le 5, 3) := by decide +kernel
theorem d_M_flatten_11 : decode b_M_flatten 11 = .ok (.iconst (-1), 1) := by decide +kernel
theorem d_M_flatten_12 : decode b_M_flatten 12 = .ok (.ireturn, 1) := by decide +kernel
theorem d_M_flatten_13 : decode b_M_flatten 13 = .ok (.aload_n 0, 1) := by decide +kernel
theorem d_M_flatten_14 : decode b_M_flatten 14 = .ok (.getfield 16, 3) := by decide +kernel
theorem d_M_flatten_17 : decode b_M_flatten 17 = .ok (.invokevirtual 85, 3) := by decide +kernel
theorem d_M_flatten_20 : decode b_M_flatten 20 = .ok (.iconst 0, 1) := by decide +kernel
theorem d_M_flatten_21 : decode b_M_flatten 21 = .ok (.istore_n 2, 1) := by decide +kernel
theorem d_M_flatten_22 : decode b_M_flatten 22 = .ok (.iload_n 2, 1) := by decide +kernel
theorem d_M_flatten_23 : decode b_M_flatten 23 = .ok (.aload_n 0, 1) := by decide +kernel
theorem d_M_flatten_24 : decode b_M_flatten 24 = .ok (.getfield 10, 3) := by decide +kernel
theorem d_M_flatten_27 : decode b_M_flatten 27 = .ok (.getfield 42, 3) := by decide +kernel
theorem d_M_flatten_30 : decode b_M_flatten 30 = .ok (.if_icmp .ge 154, 3) := by decide +kernel
theorem d_M_flatten_33 : decode b_M_flatten 33 = .ok (.aload_n 0, 1) := by decide +kernel
theorem d_M_flatten_34 : decode b_M_flatten 34 = .ok (.getfield 10, 3) := by decide +kernel
theorem d_M_flatten_37 : decode b_M_flatten 37 = .ok (.getfield 77, 3) := by decide +kernel
theorem d_M_flatten_40 : decode b_M_flatten 40 = .ok (.iload_n 2, 1) := by decide +kernel
theorem d_M_flatten_41 : decode b_M_flatten 41 = .ok (.baload, 1) := by decide +kernel
theorem d_M_flatten_42 : decode b_M_flatten 42 = .ok (.iconst 2, 1) := by decide +kernel
theorem d_M_flatten_43 : decode b_M_flatten 43 = .ok (.if_icmp .ne 99, 3) := by decide +kernel
theorem d_M_flatten_46 : decode b_M_flatten 46 = .ok (.aload_n 0, 1) := by decide +kernel
theorem d_M_flatten_47 : decode b_M_flatten 47 = .ok (.getfield 16, 3) := by decide +kernel
theorem d_M_flatten_50 : decode b_M_flatten 50 = .ok (.aload_n 0, 1) := by decide +kernel
theorem d_M_flatten_51 : decode b_M_flatten 51 = .ok (.getfield 10, 3) := by decide +kernel
theorem d_M_flatten_54 : decode b_M_flatten 54 = .ok (.iload_n 2, 1) := by decide +kernel
theorem d_M_flatten_55 : decode b_M_flatten 55 = .ok (.iconst 1, 1) := by decide +kernel
theorem d_M_flatten_56 : decode b_M_flatten 56 = .ok (.isub, 1) := by decide +kernel
theorem d_M_flatten_57 : decode b_M_flatten 57 = .ok (.iconst 0, 1) := by decide +kernel
theorem d_M_flatten_58 : decode b_M_flatten 58 = .ok (.invokevirtual 46, 3) := by decide +kernel
theorem d_M_flatten_61 : decode b_M_flatten 61 = .ok (.i2l, 1) := by decide +kernel
theorem d_M_flatten_62 : decode b_M_flatten 62 = .ok (.aload_n 0, 1) := by decide +kernel
theorem d_M_flatten_63 : decode b_M_flatten 63 = .ok (.getfield 10, 3) := by decide +kernel
theorem d_M_flatten_66 : decode b_M_flatten 66 = .ok (.iload_n 2, 1) := by decide +kernel
theorem d_M_flatten_67 : decode b_M_flatten 67 = .ok (.iconst 1, 1) := by decide +kernel
theorem d_M_flatten_68 : decode b_M_flatten 68 = .ok (.isub, 1) := by decide +kernel
theorem d_M_flatten_69 : decode b_M_flatten 69 = .ok (.iconst 1, 1) := by decide +kernel
theorem d_M_flatten_70 : decode b_M_flatten 70 = .ok (.invokevirtual 46, 3) := by decide +kernel
theorem d_M_flatten_73 : decode b_M_flatten 73 = .ok (.i2l, 1) := by decide +kernel
theorem d_M_flatten_74 : decode b_M_flatten 74 = .ok (.aload_n 0, 1) := by decide +kernel
theorem d_M_flatten_75 : decode b_M_flatten 75 = .ok (.getfield 10, 3) := by decide +kernel
theorem d_M_flatten_78 : decode b_M_flatten 78 = .ok (.iload_n 2, 1) := by decide +kernel
theorem d_M_flatten_79 : decode b_M_flatten 79 = .ok (.iconst 2, 1) := by decide +kernel
theorem d_M_flatten_80 : decode b_M_flatten 80 = .ok (.invokevirtual 46, 3) := by decide +kernel
theorem d_M_flatten_83 : decode b_M_flatten 83 = .ok (.i2l, 1) := by decide +kernel
theorem d_M_flatten_84 : decode b_M_flatten 84 = .ok (.aload_n 0, 1) := by decide +kernel
theorem d_M_flatten_85 : decode b_M_flatten 85 = .ok (.getfield 10, 3) := by decide +kernel
theorem d_M_flatten_88 : decode b_M_flatten 88 = .ok (.iload_n 2, 1) := by decide +kernel
theorem d_M_flatten_89 : decode b_M_flatten 89 = .ok (.iconst 3, 1) := by decide +kernel
theorem d_M_flatten_90 : decode b_M_flatten 90 = .ok (.invokevirtual 46, 3) := by decide +kernel
theorem d_M_flatten_93 : decode b_M_flatten 93 = .ok (.i2l, 1) := by decide +kernel
theorem d_M_flatten_94 : decode b_M_flatten 94 = .ok (.aload_n 0, 1) := by decide +kernel
theorem d_M_flatten_95 : decode b_M_flatten 95 = .ok (.getfield 10, 3) := by decide +kernel
theorem d_M_flatten_98 : decode b_M_flatten 98 = .ok (.iload_n 2, 1) := by decide +kernel
theorem d_M_flatten_99 : decode b_M_flatten 99 = .ok (.iconst 4, 1) := by decide +kernel
theorem d_M_flatten_100 : decode b_M_flatten 100 = .ok (.invokevirtual 46, 3) := by decide +kernel
theorem d_M_flatten_103 : decode b_M_flatten 103 = .ok (.i2l, 1) := by decide +kernel
theorem d_M_flatten_104 : decode b_M_flatten 104 = .ok (.aload_n 0, 1) := by decide +kernel
theorem d_M_flatten_105 : decode b_M_flatten 105 = .ok (.getfield 10, 3) := by decide +kernel
theorem d_M_flatten_108 : decode b_M_flatten 108 = .ok (.iload_n 2, 1) := by decide +kernel
theorem d_M_flatten_109 : decode b_M_flatten 109 = .ok (.iconst 5, 1) := by decide +kernel
theorem d_M_flatten_110 : decode b_M_flatten 110 = .ok (.invokevirtual 46, 3) := by decide +kernel
theorem d_M_flatten_113 : decode b_M_flatten 113 = .ok (.i2l, 1) := by decide +kernel
theorem d_M_flatten_114 : decode b_M_flatten 114 = .ok (.aload_n 0, 1) := by decide +kernel
theorem d_M_flatten_115 : decode b_M_flatten 115 = .ok (.getfield 10, 3) := by decide +kernel
theorem d_M_flatten_118 : decode b_M_flatten 118 = .ok (.iload_n 2, 1) := by decide +kernel
theorem d_M_flatten_119 : decode b_M_flatten 119 = .ok (.iconst 0, 1) := by decide +kernel
theorem d_M_flatten_120 : decode b_M_flatten 120 = .ok (.invokevirtual 46, 3) := by decide +kernel
theorem d_M_flatten_123 : decode b_M_flatten 123 = .ok (.i2l, 1) := by decide +kernel
theorem d_M_flatten_124 : decode b_M_flatten 124 = .ok (.aload_n 0, 1) := by decide +kernel
theorem d_M_flatten_125 : decode b_M_flatten 125 = .ok (.getfield 10, 3) := by decide +kernel
theorem d_M_flatten_128 : decode b_M_flatten 128 = .ok (.iload_n 2, 1) := by decide +kernel
theorem d_M_flatten_129 : decode b_M_flatten 129 = .ok (.iconst 1, 1) := by decide +kernel
theorem d_M_flatten_130 : decode b_M_flatten 130 = .ok (.invokevirtual 46, 3) := by decide +kernel
theorem d_M_flatten_133 : decode b_M_flatten 133 = .ok (.i2l, 1) := by decide +kernel
theorem d_M_flatten_134 : decode b_M_flatten 134 = .ok (.iload_n 1, 1) := by decide +kernel
theorem d_M_flatten_135 : decode b_M_flatten 135 = .ok (.iconst 0, 1) := by decide +kernel
theorem d_M_flatten_136 : decode b_M_flatten 136 = .ok (.invokestatic 174, 3) := by decide +kernel
theorem d_M_flatten_139 : decode b_M_flatten 139 = .ok (.goto 39, 3) := by decide +kernel
theorem d_M_flatten_142 : decode b_M_flatten 142 = .ok (.aload_n 0, 1) := by decide +kernel
theorem d_M_flatten_143 : decode b_M_flatten 143 = .ok (.getfield 16, 3) := by decide +kernel
theorem d_M_flatten_146 : decode b_M_flatten 146 = .ok (.aload_n 0, 1) := by decide +kernel
theorem d_M_flatten_147 : decode b_M_flatten 147 = .ok (.getfield 10, 3) := by decide +kernel
theorem d_M_flatten_150 : decode b_M_flatten 150 = .ok (.getfield 77, 3) := by decide +kernel
theorem d_M_flatten_153 : decode b_M_flatten 153 = .ok (.iload_n 2, 1) := by decide +kernel
theorem d_M_flatten_154 : decode b_M_flatten 154 = .ok (.baload, 1) := by decide +kernel
theorem d_M_flatten_155 : decode b_M_flatten 155 = .ok (.aload_n 0, 1) := by decide +kernel
theorem d_M_flatten_156 : decode b_M_flatten 156 = .ok (.getfield 10, 3) := by decide +kernel
theorem d_M_flatten_159 : decode b_M_flatten 159 = .ok (.iload_n 2, 1) := by decide +kernel
theorem d_M_flatten_160 : decode b_M_flatten 160 = .ok (.iconst 0, 1) := by decide +kernel
theorem d_M_flatten_161 : decode b_M_flatten 161 = .ok (.invokevirtual 46, 3) := by decide +kernel
theorem d_M_flatten_164 : decode b_M_flatten 164 = .ok (.i2l, 1) := by decide +kernel
theorem d_M_flatten_165 : decode b_M_flatten 165 = .ok (.aload_n 0, 1) := by decide +kernel
theorem d_M_flatten_166 : decode b_M_flatten 166 = .ok (.getfield 10, 3) := by decide +kernel
theorem d_M_flatten_169 : decode b_M_flatten 169 = .ok (.iload_n 2, 1) := by decide +kernel
theorem d_M_flatten_170 : decode b_M_flatten 170 = .ok (.iconst 1, 1) := by decide +kernel
theorem d_M_flatten_171 : decode b_M_flatten 171 = .ok (.invokevirtual 46, 3) := by decide +kernel
theorem d_M_flatten_174 : decode b_M_flatten 174 = .ok (.i2l, 1) := by decide +kernel
theorem d_M_flatten_175 : decode b_M_flatten 175 = .ok (.invokevirtual 69, 3) := by decide +kernel
theorem d_M_flatten_178 : decode b_M_flatten 178 = .ok (.iinc 2 1, 3) := by decide +kernel
theorem d_M_flatten_181 : decode b_M_flatten 181 = .ok (.goto (-159), 3) := by decide +kernel
theorem d_M_flatten_184 : decode b_M_flatten 184 = .ok (.aload_n 0, 1) := by decide +kernel
theorem d_M_flatten_185 : decode b_M_flatten 185 = .ok (.invokevirtual 58, 3) := by decide +kernel
theorem d_M_flatten_188 : decode b_M_flatten 188 = .ok (.ireturn, 1) := by decide +kernel
theorem d_M_parts_0 : decode b_M_parts 0 = .ok (.aload_n 0, 1) := by decide +kernel
theorem d_M_parts_1 : decode b_M_parts 1 = .ok (.getfield 10, 3) := by decide +kernel
theorem d_M_parts_4 : decode b_M_parts 4 = .ok (.getfield 42, 3) := by decide +kernel
theorem d_M_parts_7 : decode b_M_parts 7 = .ok (.ireturn, 1) := by decide +kernel
theorem d_M_kind_0 : decode b_M_kind 0 = .ok (.iload_n 1, 1) := by decide +kernel
theorem d_M_kind_1 : decode b_M_kind 1 = .ok (.ifCond .lt 26, 3) := by decide +kernel
theorem d_M_kind_4 : decode b_M_kind 4 = .ok (.iload_n 1, 1) := by decide +kernel
theorem d_M_kind_5 : decode b_M_kind 5 = .ok (.aload_n 0, 1) := by decide +kernel
theorem d_M_kind_6 : decode b_M_kind 6 = .ok (.getfield 10, 3) := by decide +kernel
theorem d_M_kind_9 : decode b_M_kind 9 = .ok (.getfield 42, 3) := by decide +kernel
theorem d_M_kind_12 : decode b_M_kind 12 = .ok (.if_icmp .ge 15, 3) := by decide +kernel
theorem d_M_kind_15 : decode b_M_kind 15 = .ok (.aload_n 0, 1) := by decide +kernel
theorem d_M_kind_16 : decode b_M_kind 16 = .ok (.getfield 10, 3) := by decide +kernel
theorem d_M_kind_19 : decode b_M_kind 19 = .ok (.getfield 77, 3) := by decide +kernel
theorem d_M_kind_22 : decode b_M_kind 22 = .ok (.iload_n 1, 1) := by decide +kernel
theorem d_M_kind_23 : decode b_M_kind 23 = .ok (.baload, 1) := by decide +kernel
theorem d_M_kind_24 : decode b_M_kind 24 = .ok (.goto 4, 3) := by decide +kernel
theorem d_M_kind_27 : decode b_M_kind 27 = .ok (.iconst (-1), 1) := by decide +kernel
theorem d_M_kind_28 : decode b_M_kind 28 = .ok (.ireturn, 1) := by decide +kernel
theorem d_M_place_0 : decode b_M_place 0 = .ok (.iload_n 1, 1) := by decide +kernel
theorem d_M_place_1 : decode b_M_place 1 = .ok (.ifCond .lt 41, 3) := by decide +kernel
theorem d_M_place_4 : decode b_M_place 4 = .ok (.iload_n 1, 1) := by decide +kernel
theorem d_M_place_5 : decode b_M_place 5 = .ok (.aload_n 0, 1) := by decide +kernel
theorem d_M_place_6 : decode b_M_place 6 = .ok (.getfield 10, 3) := by decide +kernel
theorem d_M_place_9 : decode b_M_place 9 = .ok (.getfield 42, 3) := by decide +kernel
theorem d_M_place_12 : decode b_M_place 12 = .ok (.if_icmp .ge 30, 3) := by decide +kernel
theorem d_M_place_15 : decode b_M_place 15 = .ok (.iload_n 2, 1) := by decide +kernel
theorem d_M_place_16 : decode b_M_place 16 = .ok (.ifCond .lt 26, 3) := by decide +kernel
theorem d_M_place_19 : decode b_M_place 19 = .ok (.iload_n 2, 1) := by decide +kernel
theorem d_M_place_20 : decode b_M_place 20 = .ok (.iconst 5, 1) := by decide +kernel
theorem d_M_place_21 : decode b_M_place 21 = .ok (.if_icmp .gt 21, 3) := by decide +kernel
theorem d_M_place_24 : decode b_M_place 24 = .ok (.iload_n 2, 1) := by decide +kernel
theorem d_M_place_25 : decode b_M_place 25 = .ok (.iconst 1, 1) := by decide +kernel
theorem d_M_place_26 : decode b_M_place 26 = .ok (.if_icmp .le 18, 3) := by decide +kernel
theorem d_M_place_29 : decode b_M_place 29 = .ok (.aload_n 0, 1) := by decide +kernel
theorem d_M_place_30 : decode b_M_place 30 = .ok (.getfield 10, 3) := by decide +kernel
theorem d_M_place_33 : decode b_M_place 33 = .ok (.getfield 77, 3) := by decide +kernel
theorem d_M_place_36 : decode b_M_place 36 = .ok (.iload_n 1, 1) := by decide +kernel
theorem d_M_place_37 : decode b_M_place 37 = .ok (.baload, 1) := by decide +kernel
theorem d_M_place_38 : decode b_M_place 38 = .ok (.iconst 2, 1) := by decide +kernel
theorem d_M_place_39 : decode b_M_place 39 = .ok (.if_icmp .eq 5, 3) := by decide +kernel
theorem d_M_place_42 : decode b_M_place 42 = .ok (.iconst 0, 1) := by decide +kernel
theorem d_M_place_43 : decode b_M_place 43 = .ok (.ireturn, 1) := by decide +kernel
theorem d_M_place_44 : decode b_M_place 44 = .ok (.aload_n 0, 1) := by decide +kernel
theorem d_M_place_45 : decode b_M_place 45 = .ok (.getfield 10, 3) := by decide +kernel
theorem d_M_place_48 : decode b_M_place 48 = .ok (.iload_n 1, 1) := by decide +kernel
theorem d_M_place_49 : decode b_M_place 49 = .ok (.iload_n 2, 1) := by decide +kernel
theorem d_M_place_50 : decode b_M_place 50 = .ok (.invokevirtual 46, 3) := by decide +kernel
theorem d_M_place_53 : decode b_M_place 53 = .ok (.ireturn, 1) := by decide +kernel
theorem d_M_bound_0 : decode b_M_bound 0 = .ok (.aload_n 0, 1) := by decide +kernel
theorem d_M_bound_1 : decode b_M_bound 1 = .ok (.getfield 10, 3) := by decide +kernel
theorem d_M_bound_4 : decode b_M_bound 4 = .ok (.getfield 42, 3) := by decide +kernel
theorem d_M_bound_7 : decode b_M_bound 7 = .ok (.ifCond .eq 12, 3) := by decide +kernel
theorem d_M_bound_10 : decode b_M_bound 10 = .ok (.iload_n 1, 1) := by decide +kernel
theorem d_M_bound_11 : decode b_M_bound 11 = .ok (.ifCond .lt 8, 3) := by decide +kernel
theorem d_M_bound_14 : decode b_M_bound 14 = .ok (.iload_n 1, 1) := by decide +kernel
theorem d_M_bound_15 : decode b_M_bound 15 = .ok (.iconst 3, 1) := by decide +kernel
theorem d_M_bound_16 : decode b_M_bound 16 = .ok (.if_icmp .le 5, 3) := by decide +kernel
theorem d_M_bound_19 : decode b_M_bound 19 = .ok (.iconst 0, 1) := by decide +kernel
theorem d_M_bound_20 : decode b_M_bound 20 = .ok (.ireturn, 1) := by decide +kernel
theorem d_M_bound_21 : decode b_M_bound 21 = .ok (.aload_n 0, 1) := by decide +kernel
theorem d_M_bound_22 : decode b_M_bound 22 = .ok (.getfield 10, 3) := by decide +kernel
theorem d_M_bound_25 : decode b_M_bound 25 = .ok (.iconst 0, 1) := by decide +kernel
theorem d_M_bound_26 : decode b_M_bound 26 = .ok (.iload_n 1, 1) := by decide +kernel
theorem d_M_bound_27 : decode b_M_bound 27 = .ok (.iconst 2, 1) := by decide +kernel
theorem d_M_bound_28 : decode b_M_bound 28 = .ok (.irem, 1) := by decide +kernel
theorem d_M_bound_29 : decode b_M_bound 29 = .ok (.invokevirtual 46, 3) := by decide +kernel
theorem d_M_bound_32 : decode b_M_bound 32 = .ok (.istore_n 2, 1) := by decide +kernel
theorem d_M_bound_33 : decode b_M_bound 33 = .ok (.iconst 0, 1) := by decide +kernel
theorem d_M_bound_34 : decode b_M_bound 34 = .ok (.istore_n 3, 1) := by decide +kernel
theorem d_M_bound_35 : decode b_M_bound 35 = .ok (.iload_n 3, 1) := by decide +kernel
theorem d_M_bound_36 : decode b_M_bound 36 = .ok (.aload_n 0, 1) := by decide +kernel
theorem d_M_bound_37 : decode b_M_bound 37 = .ok (.getfield 10, 3) := by decide +kernel
theorem d_M_bound_40 : decode b_M_bound 40 = .ok (.getfield 42, 3) := by decide +kernel
theorem d_M_bound_43 : decode b_M_bound 43 = .ok (.if_icmp .ge 89, 3) := by decide +kernel
theorem d_M_bound_46 : decode b_M_bound 46 = .ok (.iload_n 1, 1) := by decide +kernel
theorem d_M_bound_47 : decode b_M_bound 47 = .ok (.iconst 2, 1) := by decide +kernel
theorem d_M_bound_48 : decode b_M_bound 48 = .ok (.irem, 1) := by decide +kernel
theorem d_M_bound_49 : decode b_M_bound 49 = .ok (.istore 4, 2) := by decide +kernel
theorem d_M_bound_51 : decode b_M_bound 51 = .ok (.iload 4, 2) := by decide +kernel
theorem d_M_bound_53 : decode b_M_bound 53 = .ok (.aload_n 0, 1) := by decide +kernel
theorem d_M_bound_54 : decode b_M_bound 54 = .ok (.getfield 10, 3) := by decide +kernel
theorem d_M_bound_57 : decode b_M_bound 57 = .ok (.getfield 77, 3) := by decide +kernel
theorem d_M_bound_60 : decode b_M_bound 60 = .ok (.iload_n 3, 1) := by decide +kernel
theorem d_M_bound_61 : decode b_M_bound 61 = .ok (.baload, 1) := by decide +kernel
theorem d_M_bound_62 : decode b_M_bound 62 = .ok (.iconst 2, 1) := by decide +kernel
theorem d_M_bound_63 : decode b_M_bound 63 = .ok (.if_icmp .ne 8, 3) := by decide +kernel
theorem d_M_bound_66 : decode b_M_bound 66 = .ok (.bipush 6, 2) := by decide +kernel
theorem d_M_bound_68 : decode b_M_bound 68 = .ok (.goto 4, 3) := by decide +kernel
theorem d_M_bound_71 : decode b_M_bound 71 = .ok (.iconst 2, 1) := by decide +kernel
theorem d_M_bound_72 : decode b_M_bound 72 = .ok (.if_icmp .ge 54, 3) := by decide +kernel
theorem d_M_bound_75 : decode b_M_bound 75 = .ok (.aload_n 0, 1) := by decide +kernel
theorem d_M_bound_76 : decode b_M_bound 76 = .ok (.getfield 10, 3) := by decide +kernel
theorem d_M_bound_79 : decode b_M_bound 79 = .ok (.iload_n 3, 1) := by decide +kernel
theorem d_M_bound_80 : decode b_M_bound 80 = .ok (.iload 4, 2) := by decide +kernel
theorem d_M_bound_82 : decode b_M_bound 82 = .ok (.invokevirtual 46, 3) := by decide +kernel
theorem d_M_bound_85 : decode b_M_bound 85 = .ok (.istore 5, 2) := by decide +kernel
theorem d_M_bound_87 : decode b_M_bound 87 = .ok (.iload_n 1, 1) := by decide +kernel
theorem d_M_bound_88 : decode b_M_bound 88 = .ok (.iconst 2, 1) := by decide +kernel
theorem d_M_bound_89 : decode b_M_bound 89 = .ok (.if_icmp .ge 18, 3) := by decide +kernel
theorem d_M_bound_92 : decode b_M_bound 92 = .ok (.iload 5, 2) := by decide +kernel
theorem d_M_bound_94 : decode b_M_bound 94 = .ok (.iload_n 2, 1) := by decide +kernel
theorem d_M_bound_95 : decode b_M_bound 95 = .ok (.if_icmp .ge 8, 3) := by decide +kernel
theorem d_M_bound_98 : decode b_M_bound 98 = .ok (.iload 5, 2) := by decide +kernel
theorem d_M_bound_100 : decode b_M_bound 100 = .ok (.goto 19, 3) := by decide +kernel
theorem d_M_bound_103 : decode b_M_bound 103 = .ok (.iload_n 2, 1) := by decide +kernel
theorem d_M_bound_104 : decode b_M_bound 104 = .ok (.goto 15, 3) := by decide +kernel
theorem d_M_bound_107 : decode b_M_bound 107 = .ok (.iload 5, 2) := by decide +kernel
theorem d_M_bound_109 : decode b_M_bound 109 = .ok (.iload_n 2, 1) := by decide +kernel
theorem d_M_bound_110 : decode b_M_bound 110 = .ok (.if_icmp .le 8, 3) := by decide +kernel
theorem d_M_bound_113 : decode b_M_bound 113 = .ok (.iload 5, 2) := by decide +kernel
theorem d_M_bound_115 : decode b_M_bound 115 = .ok (.goto 4, 3) := by decide +kernel
theorem d_M_bound_118 : decode b_M_bound 118 = .ok (.iload_n 2, 1) := by decide +kernel
theorem d_M_bound_119 : decode b_M_bound 119 = .ok (.istore_n 2, 1) := by decide +kernel
theorem d_M_bound_120 : decode b_M_bound 120 = .ok (.iinc 4 2, 3) := by decide +kernel
theorem d_M_bound_123 : decode b_M_bound 123 = .ok (.goto (-72), 3) := by decide +kernel
theorem d_M_bound_126 : decode b_M_bound 126 = .ok (.iinc 3 1, 3) := by decide +kernel
theorem d_M_bound_129 : decode b_M_bound 129 = .ok (.goto (-94), 3) := by decide +kernel
theorem d_M_bound_132 : decode b_M_bound 132 = .ok (.iload_n 2, 1) := by decide +kernel
theorem d_M_bound_133 : decode b_M_bound 133 = .ok (.ireturn, 1) := by decide +kernel
