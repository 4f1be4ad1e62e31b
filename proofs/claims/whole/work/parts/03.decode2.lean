theorem dX9_sampleOf_15 : decode cX9_sampleOf 15 = .ok (.lload_n 3, 1) := by decide +kernel
theorem dX9_sampleOf_16 : decode cX9_sampleOf 16 = .ok (.l2i, 1) := by decide +kernel
theorem dX9_sampleOf_17 : decode cX9_sampleOf 17 = .ok (.ldc 128, 2) := by decide +kernel
theorem dX9_sampleOf_19 : decode cX9_sampleOf 19 = .ok (.if_icmp .ne 26, 3) := by decide +kernel
theorem dX9_sampleOf_22 : decode cX9_sampleOf 22 = .ok (.aload_n 0, 1) := by decide +kernel
theorem dX9_sampleOf_23 : decode cX9_sampleOf 23 = .ok (.getfield 129, 3) := by decide +kernel
theorem dX9_sampleOf_26 : decode cX9_sampleOf 26 = .ok (.ifCond .ne 7, 3) := by decide +kernel
theorem dX9_sampleOf_29 : decode cX9_sampleOf 29 = .ok (.lconst 0, 1) := by decide +kernel
theorem dX9_sampleOf_30 : decode cX9_sampleOf 30 = .ok (.goto 14, 3) := by decide +kernel
theorem dX9_sampleOf_33 : decode cX9_sampleOf 33 = .ok (.aload_n 0, 1) := by decide +kernel
theorem dX9_sampleOf_34 : decode cX9_sampleOf 34 = .ok (.getfield 42, 3) := by decide +kernel
theorem dX9_sampleOf_37 : decode cX9_sampleOf 37 = .ok (.aload_n 0, 1) := by decide +kernel
theorem dX9_sampleOf_38 : decode cX9_sampleOf 38 = .ok (.getfield 129, 3) := by decide +kernel
theorem dX9_sampleOf_41 : decode cX9_sampleOf 41 = .ok (.iconst 1, 1) := by decide +kernel
theorem dX9_sampleOf_42 : decode cX9_sampleOf 42 = .ok (.isub, 1) := by decide +kernel
theorem dX9_sampleOf_43 : decode cX9_sampleOf 43 = .ok (.laload, 1) := by decide +kernel
theorem dX9_sampleOf_44 : decode cX9_sampleOf 44 = .ok (.lreturn, 1) := by decide +kernel
theorem dX9_sampleOf_45 : decode cX9_sampleOf 45 = .ok (.lload_n 3, 1) := by decide +kernel
theorem dX9_sampleOf_46 : decode cX9_sampleOf 46 = .ok (.l2i, 1) := by decide +kernel
theorem dX9_sampleOf_47 : decode cX9_sampleOf 47 = .ok (.invokestatic 132, 3) := by decide +kernel
theorem dX9_sampleOf_50 : decode cX9_sampleOf 50 = .ok (.f2l, 1) := by decide +kernel
theorem dX9_sampleOf_51 : decode cX9_sampleOf 51 = .ok (.lstore 5, 2) := by decide +kernel
theorem dX9_sampleOf_53 : decode cX9_sampleOf 53 = .ok (.goto 46, 3) := by decide +kernel
theorem dX9_sampleOf_56 : decode cX9_sampleOf 56 = .ok (.iload_n 2, 1) := by decide +kernel
theorem dX9_sampleOf_57 : decode cX9_sampleOf 57 = .ok (.iconst 5, 1) := by decide +kernel
theorem dX9_sampleOf_58 : decode cX9_sampleOf 58 = .ok (.if_icmp .ne 41, 3) := by decide +kernel
theorem dX9_sampleOf_61 : decode cX9_sampleOf 61 = .ok (.lload_n 3, 1) := by decide +kernel
theorem dX9_sampleOf_62 : decode cX9_sampleOf 62 = .ok (.ldc2_w 118, 3) := by decide +kernel
theorem dX9_sampleOf_65 : decode cX9_sampleOf 65 = .ok (.lcmp, 1) := by decide +kernel
theorem dX9_sampleOf_66 : decode cX9_sampleOf 66 = .ok (.ifCond .ne 26, 3) := by decide +kernel
theorem dX9_sampleOf_69 : decode cX9_sampleOf 69 = .ok (.aload_n 0, 1) := by decide +kernel
theorem dX9_sampleOf_70 : decode cX9_sampleOf 70 = .ok (.getfield 129, 3) := by decide +kernel
theorem dX9_sampleOf_73 : decode cX9_sampleOf 73 = .ok (.ifCond .ne 7, 3) := by decide +kernel
theorem dX9_sampleOf_76 : decode cX9_sampleOf 76 = .ok (.lconst 0, 1) := by decide +kernel
theorem dX9_sampleOf_77 : decode cX9_sampleOf 77 = .ok (.goto 14, 3) := by decide +kernel
theorem dX9_sampleOf_80 : decode cX9_sampleOf 80 = .ok (.aload_n 0, 1) := by decide +kernel
theorem dX9_sampleOf_81 : decode cX9_sampleOf 81 = .ok (.getfield 42, 3) := by decide +kernel
theorem dX9_sampleOf_84 : decode cX9_sampleOf 84 = .ok (.aload_n 0, 1) := by decide +kernel
theorem dX9_sampleOf_85 : decode cX9_sampleOf 85 = .ok (.getfield 129, 3) := by decide +kernel
theorem dX9_sampleOf_88 : decode cX9_sampleOf 88 = .ok (.iconst 1, 1) := by decide +kernel
theorem dX9_sampleOf_89 : decode cX9_sampleOf 89 = .ok (.isub, 1) := by decide +kernel
theorem dX9_sampleOf_90 : decode cX9_sampleOf 90 = .ok (.laload, 1) := by decide +kernel
theorem dX9_sampleOf_91 : decode cX9_sampleOf 91 = .ok (.lreturn, 1) := by decide +kernel
theorem dX9_sampleOf_92 : decode cX9_sampleOf 92 = .ok (.lload_n 3, 1) := by decide +kernel
theorem dX9_sampleOf_93 : decode cX9_sampleOf 93 = .ok (.invokestatic 138, 3) := by decide +kernel
theorem dX9_sampleOf_96 : decode cX9_sampleOf 96 = .ok (.d2l, 1) := by decide +kernel
theorem dX9_sampleOf_97 : decode cX9_sampleOf 97 = .ok (.lstore 5, 2) := by decide +kernel
theorem dX9_sampleOf_99 : decode cX9_sampleOf 99 = .ok (.lload 5, 2) := by decide +kernel
theorem dX9_sampleOf_101 : decode cX9_sampleOf 101 = .ok (.ldc2_w 144, 3) := by decide +kernel
theorem dX9_sampleOf_104 : decode cX9_sampleOf 104 = .ok (.lcmp, 1) := by decide +kernel
theorem dX9_sampleOf_105 : decode cX9_sampleOf 105 = .ok (.ifCond .le 9, 3) := by decide +kernel
theorem dX9_sampleOf_108 : decode cX9_sampleOf 108 = .ok (.ldc2_w 144, 3) := by decide +kernel
theorem dX9_sampleOf_111 : decode cX9_sampleOf 111 = .ok (.goto 20, 3) := by decide +kernel
theorem dX9_sampleOf_114 : decode cX9_sampleOf 114 = .ok (.lload 5, 2) := by decide +kernel
theorem dX9_sampleOf_116 : decode cX9_sampleOf 116 = .ok (.ldc2_w 146, 3) := by decide +kernel
theorem dX9_sampleOf_119 : decode cX9_sampleOf 119 = .ok (.lcmp, 1) := by decide +kernel
theorem dX9_sampleOf_120 : decode cX9_sampleOf 120 = .ok (.ifCond .ge 9, 3) := by decide +kernel
theorem dX9_sampleOf_123 : decode cX9_sampleOf 123 = .ok (.ldc2_w 146, 3) := by decide +kernel
theorem dX9_sampleOf_126 : decode cX9_sampleOf 126 = .ok (.goto 5, 3) := by decide +kernel
theorem dX9_sampleOf_129 : decode cX9_sampleOf 129 = .ok (.lload 5, 2) := by decide +kernel
theorem dX9_sampleOf_131 : decode cX9_sampleOf 131 = .ok (.lreturn, 1) := by decide +kernel
theorem dX9_sample_0 : decode cX9_sample 0 = .ok (.iload_n 1, 1) := by decide +kernel
theorem dX9_sample_1 : decode cX9_sample 1 = .ok (.invokestatic 102, 3) := by decide +kernel
theorem dX9_sample_4 : decode cX9_sample 4 = .ok (.ifCond .ne 5, 3) := by decide +kernel
theorem dX9_sample_7 : decode cX9_sample 7 = .ok (.lconst 0, 1) := by decide +kernel
theorem dX9_sample_8 : decode cX9_sample 8 = .ok (.lreturn, 1) := by decide +kernel
theorem dX9_sample_9 : decode cX9_sample 9 = .ok (.aload_n 0, 1) := by decide +kernel
theorem dX9_sample_10 : decode cX9_sample 10 = .ok (.iload_n 1, 1) := by decide +kernel
theorem dX9_sample_11 : decode cX9_sample 11 = .ok (.aload_n 0, 1) := by decide +kernel
theorem dX9_sample_12 : decode cX9_sample 12 = .ok (.getfield 13, 3) := by decide +kernel
theorem dX9_sample_15 : decode cX9_sample 15 = .ok (.iload_n 1, 1) := by decide +kernel
theorem dX9_sample_16 : decode cX9_sample 16 = .ok (.iaload, 1) := by decide +kernel
theorem dX9_sample_17 : decode cX9_sample 17 = .ok (.iload_n 2, 1) := by decide +kernel
theorem dX9_sample_18 : decode cX9_sample 18 = .ok (.invokevirtual 120, 3) := by decide +kernel
theorem dX9_sample_21 : decode cX9_sample 21 = .ok (.istore_n 3, 1) := by decide +kernel
theorem dX9_sample_22 : decode cX9_sample 22 = .ok (.iload_n 3, 1) := by decide +kernel
theorem dX9_sample_23 : decode cX9_sample 23 = .ok (.ifCond .le 12, 3) := by decide +kernel
theorem dX9_sample_26 : decode cX9_sample 26 = .ok (.aload_n 0, 1) := by decide +kernel
theorem dX9_sample_27 : decode cX9_sample 27 = .ok (.iload_n 3, 1) := by decide +kernel
theorem dX9_sample_28 : decode cX9_sample 28 = .ok (.invokevirtual 106, 3) := by decide +kernel
theorem dX9_sample_31 : decode cX9_sample 31 = .ok (.istore 4, 2) := by decide +kernel
theorem dX9_sample_33 : decode cX9_sample 33 = .ok (.lconst 0, 1) := by decide +kernel
theorem dX9_sample_34 : decode cX9_sample 34 = .ok (.lreturn, 1) := by decide +kernel
theorem dX9_sample_35 : decode cX9_sample 35 = .ok (.aload_n 0, 1) := by decide +kernel
theorem dX9_sample_36 : decode cX9_sample 36 = .ok (.bipush 60, 2) := by decide +kernel
theorem dX9_sample_38 : decode cX9_sample 38 = .ok (.iload_n 1, 1) := by decide +kernel
theorem dX9_sample_39 : decode cX9_sample 39 = .ok (.imul, 1) := by decide +kernel
theorem dX9_sample_40 : decode cX9_sample 40 = .ok (.iload_n 2, 1) := by decide +kernel
theorem dX9_sample_41 : decode cX9_sample 41 = .ok (.iadd, 1) := by decide +kernel
theorem dX9_sample_42 : decode cX9_sample 42 = .ok (.aload_n 0, 1) := by decide +kernel
theorem dX9_sample_43 : decode cX9_sample 43 = .ok (.getfield 13, 3) := by decide +kernel
theorem dX9_sample_46 : decode cX9_sample 46 = .ok (.iload_n 1, 1) := by decide +kernel
theorem dX9_sample_47 : decode cX9_sample 47 = .ok (.iaload, 1) := by decide +kernel
theorem dX9_sample_48 : decode cX9_sample 48 = .ok (.invokevirtual 148, 3) := by decide +kernel
theorem dX9_sample_51 : decode cX9_sample 51 = .ok (.lreturn, 1) := by decide +kernel
theorem dX9_stage_0 : decode cX9_stage 0 = .ok (.iload_n 1, 1) := by decide +kernel
theorem dX9_stage_1 : decode cX9_stage 1 = .ok (.tableswitch 138 0 3 #[31, 52, 78, 104], 31) := by decide +kernel
theorem dX9_stage_32 : decode cX9_stage 32 = .ok (.lload_n 2, 1) := by decide +kernel
theorem dX9_stage_33 : decode cX9_stage 33 = .ok (.lconst 0, 1) := by decide +kernel
theorem dX9_stage_34 : decode cX9_stage 34 = .ok (.lcmp, 1) := by decide +kernel
theorem dX9_stage_35 : decode cX9_stage 35 = .ok (.ifCond .ne 12, 3) := by decide +kernel
theorem dX9_stage_38 : decode cX9_stage 38 = .ok (.iload 4, 2) := by decide +kernel
theorem dX9_stage_40 : decode cX9_stage 40 = .ok (.ifCond .ne 7, 3) := by decide +kernel
theorem dX9_stage_43 : decode cX9_stage 43 = .ok (.iconst 1, 1) := by decide +kernel
theorem dX9_stage_44 : decode cX9_stage 44 = .ok (.goto 4, 3) := by decide +kernel
theorem dX9_stage_47 : decode cX9_stage 47 = .ok (.iconst 0, 1) := by decide +kernel
theorem dX9_stage_48 : decode cX9_stage 48 = .ok (.istore 5, 2) := by decide +kernel
theorem dX9_stage_50 : decode cX9_stage 50 = .ok (.goto 127, 3) := by decide +kernel
theorem dX9_stage_53 : decode cX9_stage 53 = .ok (.lload_n 2, 1) := by decide +kernel
theorem dX9_stage_54 : decode cX9_stage 54 = .ok (.lconst 0, 1) := by decide +kernel
theorem dX9_stage_55 : decode cX9_stage 55 = .ok (.ldc2_w 152, 3) := by decide +kernel
theorem dX9_stage_58 : decode cX9_stage 58 = .ok (.invokestatic 98, 3) := by decide +kernel
theorem dX9_stage_61 : decode cX9_stage 61 = .ok (.ifCond .eq 12, 3) := by decide +kernel
theorem dX9_stage_64 : decode cX9_stage 64 = .ok (.iload 4, 2) := by decide +kernel
theorem dX9_stage_66 : decode cX9_stage 66 = .ok (.ifCond .ne 7, 3) := by decide +kernel
theorem dX9_stage_69 : decode cX9_stage 69 = .ok (.iconst 1, 1) := by decide +kernel
theorem dX9_stage_70 : decode cX9_stage 70 = .ok (.goto 4, 3) := by decide +kernel
theorem dX9_stage_73 : decode cX9_stage 73 = .ok (.iconst 0, 1) := by decide +kernel
theorem dX9_stage_74 : decode cX9_stage 74 = .ok (.istore 5, 2) := by decide +kernel
theorem dX9_stage_76 : decode cX9_stage 76 = .ok (.goto 101, 3) := by decide +kernel
theorem dX9_stage_79 : decode cX9_stage 79 = .ok (.lload_n 2, 1) := by decide +kernel
theorem dX9_stage_80 : decode cX9_stage 80 = .ok (.lconst 1, 1) := by decide +kernel
theorem dX9_stage_81 : decode cX9_stage 81 = .ok (.ldc2_w 154, 3) := by decide +kernel
theorem dX9_stage_84 : decode cX9_stage 84 = .ok (.invokestatic 98, 3) := by decide +kernel
theorem dX9_stage_87 : decode cX9_stage 87 = .ok (.ifCond .eq 12, 3) := by decide +kernel
theorem dX9_stage_90 : decode cX9_stage 90 = .ok (.iload 4, 2) := by decide +kernel
theorem dX9_stage_92 : decode cX9_stage 92 = .ok (.ifCond .ne 7, 3) := by decide +kernel
theorem dX9_stage_95 : decode cX9_stage 95 = .ok (.iconst 1, 1) := by decide +kernel
theorem dX9_stage_96 : decode cX9_stage 96 = .ok (.goto 4, 3) := by decide +kernel
theorem dX9_stage_99 : decode cX9_stage 99 = .ok (.iconst 0, 1) := by decide +kernel
theorem dX9_stage_100 : decode cX9_stage 100 = .ok (.istore 5, 2) := by decide +kernel
theorem dX9_stage_102 : decode cX9_stage 102 = .ok (.goto 75, 3) := by decide +kernel
theorem dX9_stage_105 : decode cX9_stage 105 = .ok (.lload_n 2, 1) := by decide +kernel
theorem dX9_stage_106 : decode cX9_stage 106 = .ok (.lconst 1, 1) := by decide +kernel
theorem dX9_stage_107 : decode cX9_stage 107 = .ok (.ldc2_w 154, 3) := by decide +kernel
theorem dX9_stage_110 : decode cX9_stage 110 = .ok (.invokestatic 98, 3) := by decide +kernel
theorem dX9_stage_113 : decode cX9_stage 113 = .ok (.ifCond .eq 20, 3) := by decide +kernel
theorem dX9_stage_116 : decode cX9_stage 116 = .ok (.iload 4, 2) := by decide +kernel
theorem dX9_stage_118 : decode cX9_stage 118 = .ok (.i2l, 1) := by decide +kernel
theorem dX9_stage_119 : decode cX9_stage 119 = .ok (.lconst 0, 1) := by decide +kernel
theorem dX9_stage_120 : decode cX9_stage 120 = .ok (.ldc2_w 152, 3) := by decide +kernel
theorem dX9_stage_123 : decode cX9_stage 123 = .ok (.invokestatic 98, 3) := by decide +kernel
theorem dX9_stage_126 : decode cX9_stage 126 = .ok (.ifCond .eq 7, 3) := by decide +kernel
theorem dX9_stage_129 : decode cX9_stage 129 = .ok (.iconst 1, 1) := by decide +kernel
theorem dX9_stage_130 : decode cX9_stage 130 = .ok (.goto 4, 3) := by decide +kernel
theorem dX9_stage_133 : decode cX9_stage 133 = .ok (.iconst 0, 1) := by decide +kernel
theorem dX9_stage_134 : decode cX9_stage 134 = .ok (.istore 5, 2) := by decide +kernel
theorem dX9_stage_136 : decode cX9_stage 136 = .ok (.goto 41, 3) := by decide +kernel
theorem dX9_stage_139 : decode cX9_stage 139 = .ok (.iload_n 1, 1) := by decide +kernel
theorem dX9_stage_140 : decode cX9_stage 140 = .ok (.iconst 4, 1) := by decide +kernel
theorem dX9_stage_141 : decode cX9_stage 141 = .ok (.if_icmp .ne 33, 3) := by decide +kernel
theorem dX9_stage_144 : decode cX9_stage 144 = .ok (.lload_n 2, 1) := by decide +kernel
theorem dX9_stage_145 : decode cX9_stage 145 = .ok (.lconst 0, 1) := by decide +kernel
theorem dX9_stage_146 : decode cX9_stage 146 = .ok (.ldc2_w 152, 3) := by decide +kernel
theorem dX9_stage_149 : decode cX9_stage 149 = .ok (.invokestatic 98, 3) := by decide +kernel
theorem dX9_stage_152 : decode cX9_stage 152 = .ok (.ifCond .eq 22, 3) := by decide +kernel
theorem dX9_stage_155 : decode cX9_stage 155 = .ok (.iload 4, 2) := by decide +kernel
theorem dX9_stage_157 : decode cX9_stage 157 = .ok (.i2l, 1) := by decide +kernel
theorem dX9_stage_158 : decode cX9_stage 158 = .ok (.ldc2_w 156, 3) := by decide +kernel
theorem dX9_stage_161 : decode cX9_stage 161 = .ok (.ldc2_w 158, 3) := by decide +kernel
theorem dX9_stage_164 : decode cX9_stage 164 = .ok (.invokestatic 98, 3) := by decide +kernel
theorem dX9_stage_167 : decode cX9_stage 167 = .ok (.ifCond .eq 7, 3) := by decide +kernel
theorem dX9_stage_170 : decode cX9_stage 170 = .ok (.iconst 1, 1) := by decide +kernel
theorem dX9_stage_171 : decode cX9_stage 171 = .ok (.goto 4, 3) := by decide +kernel
theorem dX9_stage_174 : decode cX9_stage 174 = .ok (.iconst 0, 1) := by decide +kernel
theorem dX9_stage_175 : decode cX9_stage 175 = .ok (.istore 5, 2) := by decide +kernel
theorem dX9_stage_177 : decode cX9_stage 177 = .ok (.iload 5, 2) := by decide +kernel
theorem dX9_stage_179 : decode cX9_stage 179 = .ok (.ifCond .ne 6, 3) := by decide +kernel
theorem dX9_stage_182 : decode cX9_stage 182 = .ok (.bipush (-2), 2) := by decide +kernel
theorem dX9_stage_184 : decode cX9_stage 184 = .ok (.ireturn, 1) := by decide +kernel
theorem dX9_stage_185 : decode cX9_stage 185 = .ok (.aload_n 0, 1) := by decide +kernel
theorem dX9_stage_186 : decode cX9_stage 186 = .ok (.getfield 129, 3) := by decide +kernel
theorem dX9_stage_189 : decode cX9_stage 189 = .ok (.ifCond .le 6, 3) := by decide +kernel
theorem dX9_stage_192 : decode cX9_stage 192 = .ok (.bipush (-3), 2) := by decide +kernel
theorem dX9_stage_194 : decode cX9_stage 194 = .ok (.ireturn, 1) := by decide +kernel
theorem dX9_stage_195 : decode cX9_stage 195 = .ok (.aload_n 0, 1) := by decide +kernel
theorem dX9_stage_196 : decode cX9_stage 196 = .ok (.getfield 160, 3) := by decide +kernel
theorem dX9_stage_199 : decode cX9_stage 199 = .ok (.iconst 5, 1) := by decide +kernel
theorem dX9_stage_200 : decode cX9_stage 200 = .ok (.if_icmp .ne 6, 3) := by decide +kernel
theorem dX9_stage_203 : decode cX9_stage 203 = .ok (.bipush (-4), 2) := by decide +kernel
theorem dX9_stage_205 : decode cX9_stage 205 = .ok (.ireturn, 1) := by decide +kernel
theorem dX9_stage_206 : decode cX9_stage 206 = .ok (.aload_n 0, 1) := by decide +kernel
theorem dX9_stage_207 : decode cX9_stage 207 = .ok (.getfield 27, 3) := by decide +kernel
theorem dX9_stage_210 : decode cX9_stage 210 = .ok (.aload_n 0, 1) := by decide +kernel
theorem dX9_stage_211 : decode cX9_stage 211 = .ok (.getfield 160, 3) := by decide +kernel
theorem dX9_stage_214 : decode cX9_stage 214 = .ok (.iload_n 1, 1) := by decide +kernel
theorem dX9_stage_215 : decode cX9_stage 215 = .ok (.iastore, 1) := by decide +kernel
theorem dX9_stage_216 : decode cX9_stage 216 = .ok (.aload_n 0, 1) := by decide +kernel
theorem dX9_stage_217 : decode cX9_stage 217 = .ok (.getfield 30, 3) := by decide +kernel
theorem dX9_stage_220 : decode cX9_stage 220 = .ok (.aload_n 0, 1) := by decide +kernel
theorem dX9_stage_221 : decode cX9_stage 221 = .ok (.getfield 160, 3) := by decide +kernel
theorem dX9_stage_224 : decode cX9_stage 224 = .ok (.lload_n 2, 1) := by decide +kernel
theorem dX9_stage_225 : decode cX9_stage 225 = .ok (.lastore, 1) := by decide +kernel
theorem dX9_stage_226 : decode cX9_stage 226 = .ok (.aload_n 0, 1) := by decide +kernel
theorem dX9_stage_227 : decode cX9_stage 227 = .ok (.getfield 33, 3) := by decide +kernel
theorem dX9_stage_230 : decode cX9_stage 230 = .ok (.aload_n 0, 1) := by decide +kernel
theorem dX9_stage_231 : decode cX9_stage 231 = .ok (.getfield 160, 3) := by decide +kernel
theorem dX9_stage_234 : decode cX9_stage 234 = .ok (.iload 4, 2) := by decide +kernel
theorem dX9_stage_236 : decode cX9_stage 236 = .ok (.iastore, 1) := by decide +kernel
theorem dX9_stage_237 : decode cX9_stage 237 = .ok (.iconst 0, 1) := by decide +kernel
theorem dX9_stage_238 : decode cX9_stage 238 = .ok (.istore 6, 2) := by decide +kernel
theorem dX9_stage_240 : decode cX9_stage 240 = .ok (.iload 6, 2) := by decide +kernel
theorem dX9_stage_242 : decode cX9_stage 242 = .ok (.bipush 6, 2) := by decide +kernel
theorem dX9_stage_244 : decode cX9_stage 244 = .ok (.if_icmp .ge 25, 3) := by decide +kernel
theorem dX9_stage_247 : decode cX9_stage 247 = .ok (.aload_n 0, 1) := by decide +kernel
theorem dX9_stage_248 : decode cX9_stage 248 = .ok (.getfield 39, 3) := by decide +kernel
theorem dX9_stage_251 : decode cX9_stage 251 = .ok (.bipush 6, 2) := by decide +kernel
theorem dX9_stage_253 : decode cX9_stage 253 = .ok (.aload_n 0, 1) := by decide +kernel
theorem dX9_stage_254 : decode cX9_stage 254 = .ok (.getfield 160, 3) := by decide +kernel
theorem dX9_stage_257 : decode cX9_stage 257 = .ok (.imul, 1) := by decide +kernel
theorem dX9_stage_258 : decode cX9_stage 258 = .ok (.iload 6, 2) := by decide +kernel
theorem dX9_stage_260 : decode cX9_stage 260 = .ok (.iadd, 1) := by decide +kernel
theorem dX9_stage_261 : decode cX9_stage 261 = .ok (.lconst 0, 1) := by decide +kernel
theorem dX9_stage_262 : decode cX9_stage 262 = .ok (.lastore, 1) := by decide +kernel
theorem dX9_stage_263 : decode cX9_stage 263 = .ok (.iinc 6 1, 3) := by decide +kernel
theorem dX9_stage_266 : decode cX9_stage 266 = .ok (.goto (-26), 3) := by decide +kernel
theorem dX9_stage_269 : decode cX9_stage 269 = .ok (.aload_n 0, 1) := by decide +kernel
theorem dX9_stage_270 : decode cX9_stage 270 = .ok (.dup, 1) := by decide +kernel
theorem dX9_stage_271 : decode cX9_stage 271 = .ok (.getfield 160, 3) := by decide +kernel
theorem dX9_stage_274 : decode cX9_stage 274 = .ok (.iconst 1, 1) := by decide +kernel
theorem dX9_stage_275 : decode cX9_stage 275 = .ok (.iadd, 1) := by decide +kernel
theorem dX9_stage_276 : decode cX9_stage 276 = .ok (.putfield 160, 3) := by decide +kernel
theorem dX9_stage_279 : decode cX9_stage 279 = .ok (.aload_n 0, 1) := by decide +kernel
theorem dX9_stage_280 : decode cX9_stage 280 = .ok (.getfield 160, 3) := by decide +kernel
theorem dX9_stage_283 : decode cX9_stage 283 = .ok (.iconst 1, 1) := by decide +kernel
theorem dX9_stage_284 : decode cX9_stage 284 = .ok (.isub, 1) := by decide +kernel
theorem dX9_stage_285 : decode cX9_stage 285 = .ok (.ireturn, 1) := by decide +kernel
theorem dX9_isSample_0 : decode cX9_isSample 0 = .ok (.lload_n 0, 1) := by decide +kernel
theorem dX9_isSample_1 : decode cX9_isSample 1 = .ok (.ldc2_w 146, 3) := by decide +kernel
theorem dX9_isSample_4 : decode cX9_isSample 4 = .ok (.ldc2_w 144, 3) := by decide +kernel
theorem dX9_isSample_7 : decode cX9_isSample 7 = .ok (.invokestatic 98, 3) := by decide +kernel
theorem dX9_isSample_10 : decode cX9_isSample 10 = .ok (.ireturn, 1) := by decide +kernel
theorem dX9_levels_0 : decode cX9_levels 0 = .ok (.iload_n 1, 1) := by decide +kernel
theorem dX9_levels_1 : decode cX9_levels 1 = .ok (.i2l, 1) := by decide +kernel
theorem dX9_levels_2 : decode cX9_levels 2 = .ok (.ldc2_w 163, 3) := by decide +kernel
theorem dX9_levels_5 : decode cX9_levels 5 = .ok (.ldc2_w 165, 3) := by decide +kernel
theorem dX9_levels_8 : decode cX9_levels 8 = .ok (.invokestatic 98, 3) := by decide +kernel
theorem dX9_levels_11 : decode cX9_levels 11 = .ok (.ifCond .eq 37, 3) := by decide +kernel
theorem dX9_levels_14 : decode cX9_levels 14 = .ok (.lload_n 2, 1) := by decide +kernel
theorem dX9_levels_15 : decode cX9_levels 15 = .ok (.invokestatic 167, 3) := by decide +kernel
theorem dX9_levels_18 : decode cX9_levels 18 = .ok (.ifCond .eq 30, 3) := by decide +kernel
theorem dX9_levels_21 : decode cX9_levels 21 = .ok (.lload 4, 2) := by decide +kernel
theorem dX9_levels_23 : decode cX9_levels 23 = .ok (.lconst 1, 1) := by decide +kernel
theorem dX9_levels_24 : decode cX9_levels 24 = .ok (.ldc2_w 171, 3) := by decide +kernel
theorem dX9_levels_27 : decode cX9_levels 27 = .ok (.invokestatic 98, 3) := by decide +kernel
theorem dX9_levels_30 : decode cX9_levels 30 = .ok (.ifCond .eq 18, 3) := by decide +kernel
theorem dX9_levels_33 : decode cX9_levels 33 = .ok (.lload_n 2, 1) := by decide +kernel
theorem dX9_levels_34 : decode cX9_levels 34 = .ok (.iload_n 1, 1) := by decide +kernel
theorem dX9_levels_35 : decode cX9_levels 35 = .ok (.iconst 1, 1) := by decide +kernel
theorem dX9_levels_36 : decode cX9_levels 36 = .ok (.isub, 1) := by decide +kernel
theorem dX9_levels_37 : decode cX9_levels 37 = .ok (.i2l, 1) := by decide +kernel
theorem dX9_levels_38 : decode cX9_levels 38 = .ok (.lload 4, 2) := by decide +kernel
theorem dX9_levels_40 : decode cX9_levels 40 = .ok (.lmul, 1) := by decide +kernel
theorem dX9_levels_41 : decode cX9_levels 41 = .ok (.ladd, 1) := by decide +kernel
theorem dX9_levels_42 : decode cX9_levels 42 = .ok (.invokestatic 167, 3) := by decide +kernel
theorem dX9_levels_45 : decode cX9_levels 45 = .ok (.ifCond .ne 6, 3) := by decide +kernel
theorem dX9_levels_48 : decode cX9_levels 48 = .ok (.bipush (-2), 2) := by decide +kernel
theorem dX9_levels_50 : decode cX9_levels 50 = .ok (.ireturn, 1) := by decide +kernel
theorem dX9_levels_51 : decode cX9_levels 51 = .ok (.aload_n 0, 1) := by decide +kernel
theorem dX9_levels_52 : decode cX9_levels 52 = .ok (.getfield 129, 3) := by decide +kernel
theorem dX9_levels_55 : decode cX9_levels 55 = .ok (.ifCond .le 6, 3) := by decide +kernel
theorem dX9_levels_58 : decode cX9_levels 58 = .ok (.bipush (-3), 2) := by decide +kernel
theorem dX9_levels_60 : decode cX9_levels 60 = .ok (.ireturn, 1) := by decide +kernel
theorem dX9_levels_61 : decode cX9_levels 61 = .ok (.aload_n 0, 1) := by decide +kernel
theorem dX9_levels_62 : decode cX9_levels 62 = .ok (.iload_n 1, 1) := by decide +kernel
theorem dX9_levels_63 : decode cX9_levels 63 = .ok (.putfield 87, 3) := by decide +kernel
theorem dX9_levels_66 : decode cX9_levels 66 = .ok (.iconst 0, 1) := by decide +kernel
theorem dX9_levels_67 : decode cX9_levels 67 = .ok (.istore 6, 2) := by decide +kernel
theorem dX9_levels_69 : decode cX9_levels 69 = .ok (.iload 6, 2) := by decide +kernel
theorem dX9_levels_71 : decode cX9_levels 71 = .ok (.iload_n 1, 1) := by decide +kernel
theorem dX9_levels_72 : decode cX9_levels 72 = .ok (.if_icmp .ge 24, 3) := by decide +kernel
theorem dX9_levels_75 : decode cX9_levels 75 = .ok (.aload_n 0, 1) := by decide +kernel
theorem dX9_levels_76 : decode cX9_levels 76 = .ok (.getfield 36, 3) := by decide +kernel
theorem dX9_levels_79 : decode cX9_levels 79 = .ok (.iload 6, 2) := by decide +kernel
theorem dX9_levels_81 : decode cX9_levels 81 = .ok (.lload_n 2, 1) := by decide +kernel
theorem dX9_levels_82 : decode cX9_levels 82 = .ok (.iload 6, 2) := by decide +kernel
theorem dX9_levels_84 : decode cX9_levels 84 = .ok (.i2l, 1) := by decide +kernel
theorem dX9_levels_85 : decode cX9_levels 85 = .ok (.lload 4, 2) := by decide +kernel
theorem dX9_levels_87 : decode cX9_levels 87 = .ok (.lmul, 1) := by decide +kernel
theorem dX9_levels_88 : decode cX9_levels 88 = .ok (.ladd, 1) := by decide +kernel
theorem dX9_levels_89 : decode cX9_levels 89 = .ok (.lastore, 1) := by decide +kernel
theorem dX9_levels_90 : decode cX9_levels 90 = .ok (.iinc 6 1, 3) := by decide +kernel
theorem dX9_levels_93 : decode cX9_levels 93 = .ok (.goto (-24), 3) := by decide +kernel
theorem dX9_levels_96 : decode cX9_levels 96 = .ok (.iconst 1, 1) := by decide +kernel
theorem dX9_levels_97 : decode cX9_levels 97 = .ok (.ireturn, 1) := by decide +kernel
theorem dX9_level_0 : decode cX9_level 0 = .ok (.iload_n 1, 1) := by decide +kernel
theorem dX9_level_1 : decode cX9_level 1 = .ok (.i2l, 1) := by decide +kernel
theorem dX9_level_2 : decode cX9_level 2 = .ok (.lconst 0, 1) := by decide +kernel
theorem dX9_level_3 : decode cX9_level 3 = .ok (.aload_n 0, 1) := by decide +kernel
theorem dX9_level_4 : decode cX9_level 4 = .ok (.getfield 87, 3) := by decide +kernel
theorem dX9_level_7 : decode cX9_level 7 = .ok (.iconst 1, 1) := by decide +kernel
theorem dX9_level_8 : decode cX9_level 8 = .ok (.isub, 1) := by decide +kernel
theorem dX9_level_9 : decode cX9_level 9 = .ok (.i2l, 1) := by decide +kernel
theorem dX9_level_10 : decode cX9_level 10 = .ok (.invokestatic 98, 3) := by decide +kernel
theorem dX9_level_13 : decode cX9_level 13 = .ok (.ifCond .eq 50, 3) := by decide +kernel
theorem dX9_level_16 : decode cX9_level 16 = .ok (.lload_n 2, 1) := by decide +kernel
theorem dX9_level_17 : decode cX9_level 17 = .ok (.invokestatic 167, 3) := by decide +kernel
theorem dX9_level_20 : decode cX9_level 20 = .ok (.ifCond .eq 43, 3) := by decide +kernel
theorem dX9_level_23 : decode cX9_level 23 = .ok (.iload_n 1, 1) := by decide +kernel
theorem dX9_level_24 : decode cX9_level 24 = .ok (.ifCond .le 16, 3) := by decide +kernel
theorem dX9_level_27 : decode cX9_level 27 = .ok (.aload_n 0, 1) := by decide +kernel
theorem dX9_level_28 : decode cX9_level 28 = .ok (.getfield 36, 3) := by decide +kernel
theorem dX9_level_31 : decode cX9_level 31 = .ok (.iload_n 1, 1) := by decide +kernel
theorem dX9_level_32 : decode cX9_level 32 = .ok (.iconst 1, 1) := by decide +kernel
theorem dX9_level_33 : decode cX9_level 33 = .ok (.isub, 1) := by decide +kernel
theorem dX9_level_34 : decode cX9_level 34 = .ok (.laload, 1) := by decide +kernel
theorem dX9_level_35 : decode cX9_level 35 = .ok (.lload_n 2, 1) := by decide +kernel
theorem dX9_level_36 : decode cX9_level 36 = .ok (.lcmp, 1) := by decide +kernel
theorem dX9_level_37 : decode cX9_level 37 = .ok (.ifCond .ge 26, 3) := by decide +kernel
theorem dX9_level_40 : decode cX9_level 40 = .ok (.iload_n 1, 1) := by decide +kernel
theorem dX9_level_41 : decode cX9_level 41 = .ok (.iconst 1, 1) := by decide +kernel
theorem dX9_level_42 : decode cX9_level 42 = .ok (.iadd, 1) := by decide +kernel
theorem dX9_level_43 : decode cX9_level 43 = .ok (.aload_n 0, 1) := by decide +kernel
theorem dX9_level_44 : decode cX9_level 44 = .ok (.getfield 87, 3) := by decide +kernel
theorem dX9_level_47 : decode cX9_level 47 = .ok (.if_icmp .ge 19, 3) := by decide +kernel
theorem dX9_level_50 : decode cX9_level 50 = .ok (.aload_n 0, 1) := by decide +kernel
theorem dX9_level_51 : decode cX9_level 51 = .ok (.getfield 36, 3) := by decide +kernel
theorem dX9_level_54 : decode cX9_level 54 = .ok (.iload_n 1, 1) := by decide +kernel
theorem dX9_level_55 : decode cX9_level 55 = .ok (.iconst 1, 1) := by decide +kernel
theorem dX9_level_56 : decode cX9_level 56 = .ok (.iadd, 1) := by decide +kernel
theorem dX9_level_57 : decode cX9_level 57 = .ok (.laload, 1) := by decide +kernel
theorem dX9_level_58 : decode cX9_level 58 = .ok (.lload_n 2, 1) := by decide +kernel
theorem dX9_level_59 : decode cX9_level 59 = .ok (.lcmp, 1) := by decide +kernel
theorem dX9_level_60 : decode cX9_level 60 = .ok (.ifCond .gt 6, 3) := by decide +kernel
theorem dX9_level_63 : decode cX9_level 63 = .ok (.bipush (-2), 2) := by decide +kernel
theorem dX9_level_65 : decode cX9_level 65 = .ok (.ireturn, 1) := by decide +kernel
theorem dX9_level_66 : decode cX9_level 66 = .ok (.aload_n 0, 1) := by decide +kernel
theorem dX9_level_67 : decode cX9_level 67 = .ok (.getfield 129, 3) := by decide +kernel
theorem dX9_level_70 : decode cX9_level 70 = .ok (.ifCond .le 6, 3) := by decide +kernel
theorem dX9_level_73 : decode cX9_level 73 = .ok (.bipush (-3), 2) := by decide +kernel
theorem dX9_level_75 : decode cX9_level 75 = .ok (.ireturn, 1) := by decide +kernel
theorem dX9_level_76 : decode cX9_level 76 = .ok (.aload_n 0, 1) := by decide +kernel
theorem dX9_level_77 : decode cX9_level 77 = .ok (.getfield 36, 3) := by decide +kernel
theorem dX9_level_80 : decode cX9_level 80 = .ok (.iload_n 1, 1) := by decide +kernel
theorem dX9_level_81 : decode cX9_level 81 = .ok (.lload_n 2, 1) := by decide +kernel
theorem dX9_level_82 : decode cX9_level 82 = .ok (.lastore, 1) := by decide +kernel
theorem dX9_level_83 : decode cX9_level 83 = .ok (.iconst 1, 1) := by decide +kernel
theorem dX9_level_84 : decode cX9_level 84 = .ok (.ireturn, 1) := by decide +kernel
theorem dX9_lot_0 : decode cX9_lot 0 = .ok (.iload_n 1, 1) := by decide +kernel
theorem dX9_lot_1 : decode cX9_lot 1 = .ok (.i2l, 1) := by decide +kernel
theorem dX9_lot_2 : decode cX9_lot 2 = .ok (.lconst 0, 1) := by decide +kernel
theorem dX9_lot_3 : decode cX9_lot 3 = .ok (.ldc2_w 171, 3) := by decide +kernel
theorem dX9_lot_6 : decode cX9_lot 6 = .ok (.invokestatic 98, 3) := by decide +kernel
theorem dX9_lot_9 : decode cX9_lot 9 = .ok (.ifCond .ne 6, 3) := by decide +kernel
theorem dX9_lot_12 : decode cX9_lot 12 = .ok (.bipush (-2), 2) := by decide +kernel
theorem dX9_lot_14 : decode cX9_lot 14 = .ok (.ireturn, 1) := by decide +kernel
theorem dX9_lot_15 : decode cX9_lot 15 = .ok (.aload_n 0, 1) := by decide +kernel
theorem dX9_lot_16 : decode cX9_lot 16 = .ok (.getfield 129, 3) := by decide +kernel
theorem dX9_lot_19 : decode cX9_lot 19 = .ok (.ifCond .le 6, 3) := by decide +kernel
theorem dX9_lot_22 : decode cX9_lot 22 = .ok (.bipush (-3), 2) := by decide +kernel
theorem dX9_lot_24 : decode cX9_lot 24 = .ok (.ireturn, 1) := by decide +kernel
theorem dX9_lot_25 : decode cX9_lot 25 = .ok (.aload_n 0, 1) := by decide +kernel
theorem dX9_lot_26 : decode cX9_lot 26 = .ok (.iload_n 1, 1) := by decide +kernel
theorem dX9_lot_27 : decode cX9_lot 27 = .ok (.putfield 173, 3) := by decide +kernel
theorem dX9_lot_30 : decode cX9_lot 30 = .ok (.aload_n 0, 1) := by decide +kernel
theorem dX9_lot_31 : decode cX9_lot 31 = .ok (.lload_n 2, 1) := by decide +kernel
theorem dX9_lot_32 : decode cX9_lot 32 = .ok (.putfield 176, 3) := by decide +kernel
theorem dX9_lot_35 : decode cX9_lot 35 = .ok (.aload_n 0, 1) := by decide +kernel
theorem dX9_lot_36 : decode cX9_lot 36 = .ok (.lload_n 2, 1) := by decide +kernel
theorem dX9_lot_37 : decode cX9_lot 37 = .ok (.putfield 180, 3) := by decide +kernel
theorem dX9_lot_40 : decode cX9_lot 40 = .ok (.iconst 1, 1) := by decide +kernel
theorem dX9_lot_41 : decode cX9_lot 41 = .ok (.ireturn, 1) := by decide +kernel
theorem dX9_take_0 : decode cX9_take 0 = .ok (.iconst 0, 1) := by decide +kernel
theorem dX9_take_1 : decode cX9_take 1 = .ok (.istore_n 1, 1) := by decide +kernel
theorem dX9_take_2 : decode cX9_take 2 = .ok (.iload_n 1, 1) := by decide +kernel
theorem dX9_take_3 : decode cX9_take 3 = .ok (.bipush 30, 2) := by decide +kernel
theorem dX9_take_5 : decode cX9_take 5 = .ok (.if_icmp .ge 21, 3) := by decide +kernel
theorem dX9_take_8 : decode cX9_take 8 = .ok (.aload_n 0, 1) := by decide +kernel
theorem dX9_take_9 : decode cX9_take 9 = .ok (.getfield 51, 3) := by decide +kernel
theorem dX9_take_12 : decode cX9_take 12 = .ok (.iload_n 1, 1) := by decide +kernel
theorem dX9_take_13 : decode cX9_take 13 = .ok (.aload_n 0, 1) := by decide +kernel
theorem dX9_take_14 : decode cX9_take 14 = .ok (.getfield 39, 3) := by decide +kernel
theorem dX9_take_17 : decode cX9_take 17 = .ok (.iload_n 1, 1) := by decide +kernel
theorem dX9_take_18 : decode cX9_take 18 = .ok (.laload, 1) := by decide +kernel
theorem dX9_take_19 : decode cX9_take 19 = .ok (.lastore, 1) := by decide +kernel
theorem dX9_take_20 : decode cX9_take 20 = .ok (.iinc 1 1, 3) := by decide +kernel
theorem dX9_take_23 : decode cX9_take 23 = .ok (.goto (-21), 3) := by decide +kernel
theorem dX9_take_26 : decode cX9_take 26 = .ok (.aload_n 0, 1) := by decide +kernel
theorem dX9_take_27 : decode cX9_take 27 = .ok (.aload_n 0, 1) := by decide +kernel
theorem dX9_take_28 : decode cX9_take 28 = .ok (.getfield 180, 3) := by decide +kernel
theorem dX9_take_31 : decode cX9_take 31 = .ok (.putfield 183, 3) := by decide +kernel
theorem dX9_take_34 : decode cX9_take 34 = .ok (.return_, 1) := by decide +kernel
theorem dX9_rest_0 : decode cX9_rest 0 = .ok (.iconst 0, 1) := by decide +kernel
theorem dX9_rest_1 : decode cX9_rest 1 = .ok (.istore_n 1, 1) := by decide +kernel
theorem dX9_rest_2 : decode cX9_rest 2 = .ok (.iload_n 1, 1) := by decide +kernel
theorem dX9_rest_3 : decode cX9_rest 3 = .ok (.bipush 30, 2) := by decide +kernel
theorem dX9_rest_5 : decode cX9_rest 5 = .ok (.if_icmp .ge 16, 3) := by decide +kernel
theorem dX9_rest_8 : decode cX9_rest 8 = .ok (.aload_n 0, 1) := by decide +kernel
theorem dX9_rest_9 : decode cX9_rest 9 = .ok (.getfield 51, 3) := by decide +kernel
theorem dX9_rest_12 : decode cX9_rest 12 = .ok (.iload_n 1, 1) := by decide +kernel
theorem dX9_rest_13 : decode cX9_rest 13 = .ok (.lconst 0, 1) := by decide +kernel
theorem dX9_rest_14 : decode cX9_rest 14 = .ok (.lastore, 1) := by decide +kernel
theorem dX9_rest_15 : decode cX9_rest 15 = .ok (.iinc 1 1, 3) := by decide +kernel
theorem dX9_rest_18 : decode cX9_rest 18 = .ok (.goto (-16), 3) := by decide +kernel
theorem dX9_rest_21 : decode cX9_rest 21 = .ok (.aload_n 0, 1) := by decide +kernel
theorem dX9_rest_22 : decode cX9_rest 22 = .ok (.aload_n 0, 1) := by decide +kernel
theorem dX9_rest_23 : decode cX9_rest 23 = .ok (.getfield 176, 3) := by decide +kernel
theorem dX9_rest_26 : decode cX9_rest 26 = .ok (.putfield 183, 3) := by decide +kernel
theorem dX9_rest_29 : decode cX9_rest 29 = .ok (.return_, 1) := by decide +kernel
theorem dX9_lay_0 : decode cX9_lay 0 = .ok (.iconst 0, 1) := by decide +kernel
theorem dX9_lay_1 : decode cX9_lay 1 = .ok (.istore_n 1, 1) := by decide +kernel
theorem dX9_lay_2 : decode cX9_lay 2 = .ok (.iload_n 1, 1) := by decide +kernel
theorem dX9_lay_3 : decode cX9_lay 3 = .ok (.bipush 30, 2) := by decide +kernel
theorem dX9_lay_5 : decode cX9_lay 5 = .ok (.if_icmp .ge 21, 3) := by decide +kernel
theorem dX9_lay_8 : decode cX9_lay 8 = .ok (.aload_n 0, 1) := by decide +kernel
theorem dX9_lay_9 : decode cX9_lay 9 = .ok (.getfield 39, 3) := by decide +kernel
theorem dX9_lay_12 : decode cX9_lay 12 = .ok (.iload_n 1, 1) := by decide +kernel
theorem dX9_lay_13 : decode cX9_lay 13 = .ok (.aload_n 0, 1) := by decide +kernel
theorem dX9_lay_14 : decode cX9_lay 14 = .ok (.getfield 51, 3) := by decide +kernel
theorem dX9_lay_17 : decode cX9_lay 17 = .ok (.iload_n 1, 1) := by decide +kernel
theorem dX9_lay_18 : decode cX9_lay 18 = .ok (.laload, 1) := by decide +kernel
theorem dX9_lay_19 : decode cX9_lay 19 = .ok (.lastore, 1) := by decide +kernel
theorem dX9_lay_20 : decode cX9_lay 20 = .ok (.iinc 1 1, 3) := by decide +kernel
theorem dX9_lay_23 : decode cX9_lay 23 = .ok (.goto (-21), 3) := by decide +kernel
theorem dX9_lay_26 : decode cX9_lay 26 = .ok (.aload_n 0, 1) := by decide +kernel
theorem dX9_lay_27 : decode cX9_lay 27 = .ok (.aload_n 0, 1) := by decide +kernel
theorem dX9_lay_28 : decode cX9_lay 28 = .ok (.getfield 183, 3) := by decide +kernel
theorem dX9_lay_31 : decode cX9_lay 31 = .ok (.putfield 180, 3) := by decide +kernel
theorem dX9_lay_34 : decode cX9_lay 34 = .ok (.return_, 1) := by decide +kernel
theorem dX9_writes_0 : decode cX9_writes 0 = .ok (.aload_n 0, 1) := by decide +kernel
theorem dX9_writes_1 : decode cX9_writes 1 = .ok (.getfield 54, 3) := by decide +kernel
theorem dX9_writes_4 : decode cX9_writes 4 = .ok (.aload_n 0, 1) := by decide +kernel
theorem dX9_writes_5 : decode cX9_writes 5 = .ok (.getfield 186, 3) := by decide +kernel
theorem dX9_writes_8 : decode cX9_writes 8 = .ok (.iload_n 1, 1) := by decide +kernel
theorem dX9_writes_9 : decode cX9_writes 9 = .ok (.iastore, 1) := by decide +kernel
theorem dX9_writes_10 : decode cX9_writes 10 = .ok (.aload_n 0, 1) := by decide +kernel
theorem dX9_writes_11 : decode cX9_writes 11 = .ok (.dup, 1) := by decide +kernel
theorem dX9_writes_12 : decode cX9_writes 12 = .ok (.getfield 186, 3) := by decide +kernel
theorem dX9_writes_15 : decode cX9_writes 15 = .ok (.iconst 1, 1) := by decide +kernel
theorem dX9_writes_16 : decode cX9_writes 16 = .ok (.iadd, 1) := by decide +kernel
theorem dX9_writes_17 : decode cX9_writes 17 = .ok (.putfield 186, 3) := by decide +kernel
theorem dX9_writes_20 : decode cX9_writes 20 = .ok (.return_, 1) := by decide +kernel
theorem dX9_plain_0 : decode cX9_plain 0 = .ok (.aload_n 0, 1) := by decide +kernel
theorem dX9_plain_1 : decode cX9_plain 1 = .ok (.bipush 10, 2) := by decide +kernel
theorem dX9_plain_3 : decode cX9_plain 3 = .ok (.invokevirtual 189, 3) := by decide +kernel
theorem dX9_plain_6 : decode cX9_plain 6 = .ok (.aload_n 0, 1) := by decide +kernel
theorem dX9_plain_7 : decode cX9_plain 7 = .ok (.getfield 51, 3) := by decide +kernel
theorem dX9_plain_10 : decode cX9_plain 10 = .ok (.bipush 6, 2) := by decide +kernel
theorem dX9_plain_12 : decode cX9_plain 12 = .ok (.iload_n 1, 1) := by decide +kernel
theorem dX9_plain_13 : decode cX9_plain 13 = .ok (.imul, 1) := by decide +kernel
theorem dX9_plain_14 : decode cX9_plain 14 = .ok (.iconst 2, 1) := by decide +kernel
theorem dX9_plain_15 : decode cX9_plain 15 = .ok (.iadd, 1) := by decide +kernel
theorem dX9_plain_16 : decode cX9_plain 16 = .ok (.dup2, 1) := by decide +kernel
theorem dX9_plain_17 : decode cX9_plain 17 = .ok (.laload, 1) := by decide +kernel
theorem dX9_plain_18 : decode cX9_plain 18 = .ok (.lload_n 2, 1) := by decide +kernel
theorem dX9_plain_19 : decode cX9_plain 19 = .ok (.ladd, 1) := by decide +kernel
theorem dX9_plain_20 : decode cX9_plain 20 = .ok (.lastore, 1) := by decide +kernel
theorem dX9_plain_21 : decode cX9_plain 21 = .ok (.aload_n 0, 1) := by decide +kernel
theorem dX9_plain_22 : decode cX9_plain 22 = .ok (.getfield 51, 3) := by decide +kernel
theorem dX9_plain_25 : decode cX9_plain 25 = .ok (.bipush 6, 2) := by decide +kernel
theorem dX9_plain_27 : decode cX9_plain 27 = .ok (.iload_n 1, 1) := by decide +kernel
theorem dX9_plain_28 : decode cX9_plain 28 = .ok (.imul, 1) := by decide +kernel
theorem dX9_plain_29 : decode cX9_plain 29 = .ok (.iconst 3, 1) := by decide +kernel
theorem dX9_plain_30 : decode cX9_plain 30 = .ok (.iadd, 1) := by decide +kernel
theorem dX9_plain_31 : decode cX9_plain 31 = .ok (.dup2, 1) := by decide +kernel
theorem dX9_plain_32 : decode cX9_plain 32 = .ok (.laload, 1) := by decide +kernel
theorem dX9_plain_33 : decode cX9_plain 33 = .ok (.lload 4, 2) := by decide +kernel
theorem dX9_plain_35 : decode cX9_plain 35 = .ok (.ladd, 1) := by decide +kernel
theorem dX9_plain_36 : decode cX9_plain 36 = .ok (.lastore, 1) := by decide +kernel
theorem dX9_plain_37 : decode cX9_plain 37 = .ok (.aload_n 0, 1) := by decide +kernel
theorem dX9_plain_38 : decode cX9_plain 38 = .ok (.getfield 51, 3) := by decide +kernel
theorem dX9_plain_41 : decode cX9_plain 41 = .ok (.bipush 6, 2) := by decide +kernel
theorem dX9_plain_43 : decode cX9_plain 43 = .ok (.iload_n 1, 1) := by decide +kernel
theorem dX9_plain_44 : decode cX9_plain 44 = .ok (.imul, 1) := by decide +kernel
theorem dX9_plain_45 : decode cX9_plain 45 = .ok (.dup2, 1) := by decide +kernel
theorem dX9_plain_46 : decode cX9_plain 46 = .ok (.laload, 1) := by decide +kernel
theorem dX9_plain_47 : decode cX9_plain 47 = .ok (.lload_n 2, 1) := by decide +kernel
theorem dX9_plain_48 : decode cX9_plain 48 = .ok (.lload 4, 2) := by decide +kernel
theorem dX9_plain_50 : decode cX9_plain 50 = .ok (.lsub, 1) := by decide +kernel
theorem dX9_plain_51 : decode cX9_plain 51 = .ok (.ladd, 1) := by decide +kernel
theorem dX9_plain_52 : decode cX9_plain 52 = .ok (.lastore, 1) := by decide +kernel
theorem dX9_plain_53 : decode cX9_plain 53 = .ok (.return_, 1) := by decide +kernel
theorem dX9_leaky_0 : decode cX9_leaky 0 = .ok (.aload_n 0, 1) := by decide +kernel
theorem dX9_leaky_1 : decode cX9_leaky 1 = .ok (.bipush 11, 2) := by decide +kernel
theorem dX9_leaky_3 : decode cX9_leaky 3 = .ok (.invokevirtual 189, 3) := by decide +kernel
theorem dX9_leaky_6 : decode cX9_leaky 6 = .ok (.aload_n 0, 1) := by decide +kernel
theorem dX9_leaky_7 : decode cX9_leaky 7 = .ok (.getfield 51, 3) := by decide +kernel
theorem dX9_leaky_10 : decode cX9_leaky 10 = .ok (.bipush 6, 2) := by decide +kernel
theorem dX9_leaky_12 : decode cX9_leaky 12 = .ok (.iload_n 1, 1) := by decide +kernel
theorem dX9_leaky_13 : decode cX9_leaky 13 = .ok (.imul, 1) := by decide +kernel
theorem dX9_leaky_14 : decode cX9_leaky 14 = .ok (.laload, 1) := by decide +kernel
theorem dX9_leaky_15 : decode cX9_leaky 15 = .ok (.aload_n 0, 1) := by decide +kernel
theorem dX9_leaky_16 : decode cX9_leaky 16 = .ok (.getfield 30, 3) := by decide +kernel
theorem dX9_leaky_19 : decode cX9_leaky 19 = .ok (.iload_n 1, 1) := by decide +kernel
theorem dX9_leaky_20 : decode cX9_leaky 20 = .ok (.laload, 1) := by decide +kernel
theorem dX9_leaky_21 : decode cX9_leaky 21 = .ok (.lmul, 1) := by decide +kernel
theorem dX9_leaky_22 : decode cX9_leaky 22 = .ok (.ldc2_w 152, 3) := by decide +kernel
theorem dX9_leaky_25 : decode cX9_leaky 25 = .ok (.ldiv, 1) := by decide +kernel
theorem dX9_leaky_26 : decode cX9_leaky 26 = .ok (.lstore 6, 2) := by decide +kernel
theorem dX9_leaky_28 : decode cX9_leaky 28 = .ok (.aload_n 0, 1) := by decide +kernel
theorem dX9_leaky_29 : decode cX9_leaky 29 = .ok (.getfield 51, 3) := by decide +kernel
theorem dX9_leaky_32 : decode cX9_leaky 32 = .ok (.bipush 6, 2) := by decide +kernel
theorem dX9_leaky_34 : decode cX9_leaky 34 = .ok (.iload_n 1, 1) := by decide +kernel
theorem dX9_leaky_35 : decode cX9_leaky 35 = .ok (.imul, 1) := by decide +kernel
theorem dX9_leaky_36 : decode cX9_leaky 36 = .ok (.iconst 4, 1) := by decide +kernel
theorem dX9_leaky_37 : decode cX9_leaky 37 = .ok (.iadd, 1) := by decide +kernel
theorem dX9_leaky_38 : decode cX9_leaky 38 = .ok (.dup2, 1) := by decide +kernel
theorem dX9_leaky_39 : decode cX9_leaky 39 = .ok (.laload, 1) := by decide +kernel
theorem dX9_leaky_40 : decode cX9_leaky 40 = .ok (.lload 6, 2) := by decide +kernel
theorem dX9_leaky_42 : decode cX9_leaky 42 = .ok (.ladd, 1) := by decide +kernel
theorem dX9_leaky_43 : decode cX9_leaky 43 = .ok (.lastore, 1) := by decide +kernel
theorem dX9_leaky_44 : decode cX9_leaky 44 = .ok (.aload_n 0, 1) := by decide +kernel
theorem dX9_leaky_45 : decode cX9_leaky 45 = .ok (.getfield 51, 3) := by decide +kernel
theorem dX9_leaky_48 : decode cX9_leaky 48 = .ok (.bipush 6, 2) := by decide +kernel
theorem dX9_leaky_50 : decode cX9_leaky 50 = .ok (.iload_n 1, 1) := by decide +kernel
theorem dX9_leaky_51 : decode cX9_leaky 51 = .ok (.imul, 1) := by decide +kernel
theorem dX9_leaky_52 : decode cX9_leaky 52 = .ok (.dup2, 1) := by decide +kernel
theorem dX9_leaky_53 : decode cX9_leaky 53 = .ok (.laload, 1) := by decide +kernel
theorem dX9_leaky_54 : decode cX9_leaky 54 = .ok (.lload 6, 2) := by decide +kernel
theorem dX9_leaky_56 : decode cX9_leaky 56 = .ok (.lsub, 1) := by decide +kernel
theorem dX9_leaky_57 : decode cX9_leaky 57 = .ok (.lastore, 1) := by decide +kernel
theorem dX9_leaky_58 : decode cX9_leaky 58 = .ok (.aload_n 0, 1) := by decide +kernel
theorem dX9_leaky_59 : decode cX9_leaky 59 = .ok (.iload_n 1, 1) := by decide +kernel
theorem dX9_leaky_60 : decode cX9_leaky 60 = .ok (.lload_n 2, 1) := by decide +kernel
theorem dX9_leaky_61 : decode cX9_leaky 61 = .ok (.lload 4, 2) := by decide +kernel
theorem dX9_leaky_63 : decode cX9_leaky 63 = .ok (.invokevirtual 193, 3) := by decide +kernel
theorem dX9_leaky_66 : decode cX9_leaky 66 = .ok (.return_, 1) := by decide +kernel
theorem dX9_bounded_0 : decode cX9_bounded 0 = .ok (.aload_n 0, 1) := by decide +kernel
theorem dX9_bounded_1 : decode cX9_bounded 1 = .ok (.bipush 12, 2) := by decide +kernel
theorem dX9_bounded_3 : decode cX9_bounded 3 = .ok (.invokevirtual 189, 3) := by decide +kernel
theorem dX9_bounded_6 : decode cX9_bounded 6 = .ok (.aload_n 0, 1) := by decide +kernel
theorem dX9_bounded_7 : decode cX9_bounded 7 = .ok (.iload_n 1, 1) := by decide +kernel
theorem dX9_bounded_8 : decode cX9_bounded 8 = .ok (.lload_n 2, 1) := by decide +kernel
theorem dX9_bounded_9 : decode cX9_bounded 9 = .ok (.lload 4, 2) := by decide +kernel
theorem dX9_bounded_11 : decode cX9_bounded 11 = .ok (.invokevirtual 193, 3) := by decide +kernel
theorem dX9_bounded_14 : decode cX9_bounded 14 = .ok (.aload_n 0, 1) := by decide +kernel
theorem dX9_bounded_15 : decode cX9_bounded 15 = .ok (.getfield 51, 3) := by decide +kernel
theorem dX9_bounded_18 : decode cX9_bounded 18 = .ok (.bipush 6, 2) := by decide +kernel
theorem dX9_bounded_20 : decode cX9_bounded 20 = .ok (.iload_n 1, 1) := by decide +kernel
theorem dX9_bounded_21 : decode cX9_bounded 21 = .ok (.imul, 1) := by decide +kernel
theorem dX9_bounded_22 : decode cX9_bounded 22 = .ok (.laload, 1) := by decide +kernel
theorem dX9_bounded_23 : decode cX9_bounded 23 = .ok (.lstore 6, 2) := by decide +kernel
theorem dX9_bounded_25 : decode cX9_bounded 25 = .ok (.lload 6, 2) := by decide +kernel
theorem dX9_bounded_27 : decode cX9_bounded 27 = .ok (.aload_n 0, 1) := by decide +kernel
theorem dX9_bounded_28 : decode cX9_bounded 28 = .ok (.getfield 30, 3) := by decide +kernel
theorem dX9_bounded_31 : decode cX9_bounded 31 = .ok (.iload_n 1, 1) := by decide +kernel
theorem dX9_bounded_32 : decode cX9_bounded 32 = .ok (.laload, 1) := by decide +kernel
theorem dX9_bounded_33 : decode cX9_bounded 33 = .ok (.lcmp, 1) := by decide +kernel
theorem dX9_bounded_34 : decode cX9_bounded 34 = .ok (.ifCond .le 12, 3) := by decide +kernel
theorem dX9_bounded_37 : decode cX9_bounded 37 = .ok (.aload_n 0, 1) := by decide +kernel
theorem dX9_bounded_38 : decode cX9_bounded 38 = .ok (.getfield 30, 3) := by decide +kernel
theorem dX9_bounded_41 : decode cX9_bounded 41 = .ok (.iload_n 1, 1) := by decide +kernel
theorem dX9_bounded_42 : decode cX9_bounded 42 = .ok (.laload, 1) := by decide +kernel
theorem dX9_bounded_43 : decode cX9_bounded 43 = .ok (.goto 28, 3) := by decide +kernel
theorem dX9_bounded_46 : decode cX9_bounded 46 = .ok (.lload 6, 2) := by decide +kernel
theorem dX9_bounded_48 : decode cX9_bounded 48 = .ok (.aload_n 0, 1) := by decide +kernel
theorem dX9_bounded_49 : decode cX9_bounded 49 = .ok (.getfield 30, 3) := by decide +kernel
theorem dX9_bounded_52 : decode cX9_bounded 52 = .ok (.iload_n 1, 1) := by decide +kernel
theorem dX9_bounded_53 : decode cX9_bounded 53 = .ok (.laload, 1) := by decide +kernel
theorem dX9_bounded_54 : decode cX9_bounded 54 = .ok (.lneg, 1) := by decide +kernel
theorem dX9_bounded_55 : decode cX9_bounded 55 = .ok (.lcmp, 1) := by decide +kernel
theorem dX9_bounded_56 : decode cX9_bounded 56 = .ok (.ifCond .ge 13, 3) := by decide +kernel
theorem dX9_bounded_59 : decode cX9_bounded 59 = .ok (.aload_n 0, 1) := by decide +kernel
theorem dX9_bounded_60 : decode cX9_bounded 60 = .ok (.getfield 30, 3) := by decide +kernel
theorem dX9_bounded_63 : decode cX9_bounded 63 = .ok (.iload_n 1, 1) := by decide +kernel
theorem dX9_bounded_64 : decode cX9_bounded 64 = .ok (.laload, 1) := by decide +kernel
theorem dX9_bounded_65 : decode cX9_bounded 65 = .ok (.lneg, 1) := by decide +kernel
theorem dX9_bounded_66 : decode cX9_bounded 66 = .ok (.goto 5, 3) := by decide +kernel
theorem dX9_bounded_69 : decode cX9_bounded 69 = .ok (.lload 6, 2) := by decide +kernel
theorem dX9_bounded_71 : decode cX9_bounded 71 = .ok (.lstore 8, 2) := by decide +kernel
theorem dX9_bounded_73 : decode cX9_bounded 73 = .ok (.aload_n 0, 1) := by decide +kernel
theorem dX9_bounded_74 : decode cX9_bounded 74 = .ok (.getfield 51, 3) := by decide +kernel
theorem dX9_bounded_77 : decode cX9_bounded 77 = .ok (.bipush 6, 2) := by decide +kernel
theorem dX9_bounded_79 : decode cX9_bounded 79 = .ok (.iload_n 1, 1) := by decide +kernel
theorem dX9_bounded_80 : decode cX9_bounded 80 = .ok (.imul, 1) := by decide +kernel
theorem dX9_bounded_81 : decode cX9_bounded 81 = .ok (.iconst 5, 1) := by decide +kernel
theorem dX9_bounded_82 : decode cX9_bounded 82 = .ok (.iadd, 1) := by decide +kernel
theorem dX9_bounded_83 : decode cX9_bounded 83 = .ok (.dup2, 1) := by decide +kernel
theorem dX9_bounded_84 : decode cX9_bounded 84 = .ok (.laload, 1) := by decide +kernel
theorem dX9_bounded_85 : decode cX9_bounded 85 = .ok (.lload 6, 2) := by decide +kernel
theorem dX9_bounded_87 : decode cX9_bounded 87 = .ok (.lload 8, 2) := by decide +kernel
theorem dX9_bounded_89 : decode cX9_bounded 89 = .ok (.lsub, 1) := by decide +kernel
theorem dX9_bounded_90 : decode cX9_bounded 90 = .ok (.ladd, 1) := by decide +kernel
theorem dX9_bounded_91 : decode cX9_bounded 91 = .ok (.lastore, 1) := by decide +kernel
theorem dX9_bounded_92 : decode cX9_bounded 92 = .ok (.aload_n 0, 1) := by decide +kernel
theorem dX9_bounded_93 : decode cX9_bounded 93 = .ok (.getfield 51, 3) := by decide +kernel
theorem dX9_bounded_96 : decode cX9_bounded 96 = .ok (.bipush 6, 2) := by decide +kernel
theorem dX9_bounded_98 : decode cX9_bounded 98 = .ok (.iload_n 1, 1) := by decide +kernel
theorem dX9_bounded_99 : decode cX9_bounded 99 = .ok (.imul, 1) := by decide +kernel
theorem dX9_bounded_100 : decode cX9_bounded 100 = .ok (.lload 8, 2) := by decide +kernel
theorem dX9_bounded_102 : decode cX9_bounded 102 = .ok (.lastore, 1) := by decide +kernel
theorem dX9_bounded_103 : decode cX9_bounded 103 = .ok (.return_, 1) := by decide +kernel
theorem dX9_takes_0 : decode cX9_takes 0 = .ok (.aload_n 0, 1) := by decide +kernel
theorem dX9_takes_1 : decode cX9_takes 1 = .ok (.getfield 27, 3) := by decide +kernel
theorem dX9_takes_4 : decode cX9_takes 4 = .ok (.iload_n 1, 1) := by decide +kernel
theorem dX9_takes_5 : decode cX9_takes 5 = .ok (.iaload, 1) := by decide +kernel
theorem dX9_takes_6 : decode cX9_takes 6 = .ok (.tableswitch 139 0 3 #[30, 41, 52, 63], 30) := by decide +kernel
theorem dX9_takes_36 : decode cX9_takes 36 = .ok (.aload_n 0, 1) := by decide +kernel
theorem dX9_takes_37 : decode cX9_takes 37 = .ok (.iload_n 1, 1) := by decide +kernel
theorem dX9_takes_38 : decode cX9_takes 38 = .ok (.lload_n 2, 1) := by decide +kernel
theorem dX9_takes_39 : decode cX9_takes 39 = .ok (.lload 4, 2) := by decide +kernel
theorem dX9_takes_41 : decode cX9_takes 41 = .ok (.invokevirtual 193, 3) := by decide +kernel
theorem dX9_takes_44 : decode cX9_takes 44 = .ok (.goto 126, 3) := by decide +kernel
theorem dX9_takes_47 : decode cX9_takes 47 = .ok (.aload_n 0, 1) := by decide +kernel
theorem dX9_takes_48 : decode cX9_takes 48 = .ok (.iload_n 1, 1) := by decide +kernel
theorem dX9_takes_49 : decode cX9_takes 49 = .ok (.lload_n 2, 1) := by decide +kernel
theorem dX9_takes_50 : decode cX9_takes 50 = .ok (.lload 4, 2) := by decide +kernel
theorem dX9_takes_52 : decode cX9_takes 52 = .ok (.invokevirtual 197, 3) := by decide +kernel
theorem dX9_takes_55 : decode cX9_takes 55 = .ok (.goto 115, 3) := by decide +kernel
theorem dX9_takes_58 : decode cX9_takes 58 = .ok (.aload_n 0, 1) := by decide +kernel
theorem dX9_takes_59 : decode cX9_takes 59 = .ok (.iload_n 1, 1) := by decide +kernel
theorem dX9_takes_60 : decode cX9_takes 60 = .ok (.lload_n 2, 1) := by decide +kernel
theorem dX9_takes_61 : decode cX9_takes 61 = .ok (.lload 4, 2) := by decide +kernel
theorem dX9_takes_63 : decode cX9_takes 63 = .ok (.invokevirtual 200, 3) := by decide +kernel
theorem dX9_takes_66 : decode cX9_takes 66 = .ok (.goto 104, 3) := by decide +kernel
theorem dX9_takes_69 : decode cX9_takes 69 = .ok (.aload_n 0, 1) := by decide +kernel
theorem dX9_takes_70 : decode cX9_takes 70 = .ok (.bipush 13, 2) := by decide +kernel
theorem dX9_takes_72 : decode cX9_takes 72 = .ok (.invokevirtual 189, 3) := by decide +kernel
theorem dX9_takes_75 : decode cX9_takes 75 = .ok (.aload_n 0, 1) := by decide +kernel
theorem dX9_takes_76 : decode cX9_takes 76 = .ok (.iload_n 1, 1) := by decide +kernel
theorem dX9_takes_77 : decode cX9_takes 77 = .ok (.lload_n 2, 1) := by decide +kernel
theorem dX9_takes_78 : decode cX9_takes 78 = .ok (.aload_n 0, 1) := by decide +kernel
theorem dX9_takes_79 : decode cX9_takes 79 = .ok (.getfield 51, 3) := by decide +kernel
theorem dX9_takes_82 : decode cX9_takes 82 = .ok (.bipush 6, 2) := by decide +kernel
theorem dX9_takes_84 : decode cX9_takes 84 = .ok (.iload_n 1, 1) := by decide +kernel
theorem dX9_takes_85 : decode cX9_takes 85 = .ok (.imul, 1) := by decide +kernel
theorem dX9_takes_86 : decode cX9_takes 86 = .ok (.iconst 1, 1) := by decide +kernel
theorem dX9_takes_87 : decode cX9_takes 87 = .ok (.iadd, 1) := by decide +kernel
theorem dX9_takes_88 : decode cX9_takes 88 = .ok (.laload, 1) := by decide +kernel
theorem dX9_takes_89 : decode cX9_takes 89 = .ok (.aload_n 0, 1) := by decide +kernel
theorem dX9_takes_90 : decode cX9_takes 90 = .ok (.getfield 33, 3) := by decide +kernel
theorem dX9_takes_93 : decode cX9_takes 93 = .ok (.iload_n 1, 1) := by decide +kernel
theorem dX9_takes_94 : decode cX9_takes 94 = .ok (.iaload, 1) := by decide +kernel
theorem dX9_takes_95 : decode cX9_takes 95 = .ok (.i2l, 1) := by decide +kernel
theorem dX9_takes_96 : decode cX9_takes 96 = .ok (.lmul, 1) := by decide +kernel
theorem dX9_takes_97 : decode cX9_takes 97 = .ok (.ldc2_w 152, 3) := by decide +kernel
theorem dX9_takes_100 : decode cX9_takes 100 = .ok (.ldiv, 1) := by decide +kernel
theorem dX9_takes_101 : decode cX9_takes 101 = .ok (.lsub, 1) := by decide +kernel
theorem dX9_takes_102 : decode cX9_takes 102 = .ok (.lload 4, 2) := by decide +kernel
theorem dX9_takes_104 : decode cX9_takes 104 = .ok (.invokevirtual 200, 3) := by decide +kernel
theorem dX9_takes_107 : decode cX9_takes 107 = .ok (.aload_n 0, 1) := by decide +kernel
theorem dX9_takes_108 : decode cX9_takes 108 = .ok (.getfield 51, 3) := by decide +kernel
theorem dX9_takes_111 : decode cX9_takes 111 = .ok (.bipush 6, 2) := by decide +kernel
theorem dX9_takes_113 : decode cX9_takes 113 = .ok (.iload_n 1, 1) := by decide +kernel
theorem dX9_takes_114 : decode cX9_takes 114 = .ok (.imul, 1) := by decide +kernel
theorem dX9_takes_115 : decode cX9_takes 115 = .ok (.iconst 1, 1) := by decide +kernel
theorem dX9_takes_116 : decode cX9_takes 116 = .ok (.iadd, 1) := by decide +kernel
theorem dX9_takes_117 : decode cX9_takes 117 = .ok (.dup2, 1) := by decide +kernel
theorem dX9_takes_118 : decode cX9_takes 118 = .ok (.laload, 1) := by decide +kernel
theorem dX9_takes_119 : decode cX9_takes 119 = .ok (.aload_n 0, 1) := by decide +kernel
theorem dX9_takes_120 : decode cX9_takes 120 = .ok (.getfield 51, 3) := by decide +kernel
theorem dX9_takes_123 : decode cX9_takes 123 = .ok (.bipush 6, 2) := by decide +kernel
theorem dX9_takes_125 : decode cX9_takes 125 = .ok (.iload_n 1, 1) := by decide +kernel
theorem dX9_takes_126 : decode cX9_takes 126 = .ok (.imul, 1) := by decide +kernel
theorem dX9_takes_127 : decode cX9_takes 127 = .ok (.laload, 1) := by decide +kernel
theorem dX9_takes_128 : decode cX9_takes 128 = .ok (.aload_n 0, 1) := by decide +kernel
theorem dX9_takes_129 : decode cX9_takes 129 = .ok (.getfield 33, 3) := by decide +kernel
theorem dX9_takes_132 : decode cX9_takes 132 = .ok (.iload_n 1, 1) := by decide +kernel
theorem dX9_takes_133 : decode cX9_takes 133 = .ok (.iaload, 1) := by decide +kernel
theorem dX9_takes_134 : decode cX9_takes 134 = .ok (.i2l, 1) := by decide +kernel
theorem dX9_takes_135 : decode cX9_takes 135 = .ok (.lmul, 1) := by decide +kernel
theorem dX9_takes_136 : decode cX9_takes 136 = .ok (.ldc2_w 152, 3) := by decide +kernel
theorem dX9_takes_139 : decode cX9_takes 139 = .ok (.ldiv, 1) := by decide +kernel
theorem dX9_takes_140 : decode cX9_takes 140 = .ok (.ladd, 1) := by decide +kernel
theorem dX9_takes_141 : decode cX9_takes 141 = .ok (.lastore, 1) := by decide +kernel
theorem dX9_takes_142 : decode cX9_takes 142 = .ok (.goto 28, 3) := by decide +kernel
theorem dX9_takes_145 : decode cX9_takes 145 = .ok (.aload_n 0, 1) := by decide +kernel
theorem dX9_takes_146 : decode cX9_takes 146 = .ok (.bipush 14, 2) := by decide +kernel
theorem dX9_takes_148 : decode cX9_takes 148 = .ok (.invokevirtual 189, 3) := by decide +kernel
theorem dX9_takes_151 : decode cX9_takes 151 = .ok (.aload_n 0, 1) := by decide +kernel
theorem dX9_takes_152 : decode cX9_takes 152 = .ok (.iload_n 1, 1) := by decide +kernel
theorem dX9_takes_153 : decode cX9_takes 153 = .ok (.lload_n 2, 1) := by decide +kernel
theorem dX9_takes_154 : decode cX9_takes 154 = .ok (.aload_n 0, 1) := by decide +kernel
theorem dX9_takes_155 : decode cX9_takes 155 = .ok (.getfield 33, 3) := by decide +kernel
theorem dX9_takes_158 : decode cX9_takes 158 = .ok (.iload_n 1, 1) := by decide +kernel
theorem dX9_takes_159 : decode cX9_takes 159 = .ok (.iaload, 1) := by decide +kernel
theorem dX9_takes_160 : decode cX9_takes 160 = .ok (.i2l, 1) := by decide +kernel
theorem dX9_takes_161 : decode cX9_takes 161 = .ok (.lload 6, 2) := by decide +kernel
theorem dX9_takes_163 : decode cX9_takes 163 = .ok (.lmul, 1) := by decide +kernel
theorem dX9_takes_164 : decode cX9_takes 164 = .ok (.ladd, 1) := by decide +kernel
theorem dX9_takes_165 : decode cX9_takes 165 = .ok (.lload 4, 2) := by decide +kernel
theorem dX9_takes_167 : decode cX9_takes 167 = .ok (.invokevirtual 197, 3) := by decide +kernel
theorem dX9_takes_170 : decode cX9_takes 170 = .ok (.return_, 1) := by decide +kernel
theorem dX9_nearest_0 : decode cX9_nearest 0 = .ok (.iconst 0, 1) := by decide +kernel
theorem dX9_nearest_1 : decode cX9_nearest 1 = .ok (.istore_n 3, 1) := by decide +kernel
theorem dX9_nearest_2 : decode cX9_nearest 2 = .ok (.iconst 1, 1) := by decide +kernel
theorem dX9_nearest_3 : decode cX9_nearest 3 = .ok (.istore 4, 2) := by decide +kernel
theorem dX9_nearest_5 : decode cX9_nearest 5 = .ok (.iload 4, 2) := by decide +kernel
theorem dX9_nearest_7 : decode cX9_nearest 7 = .ok (.aload_n 0, 1) := by decide +kernel
theorem dX9_nearest_8 : decode cX9_nearest 8 = .ok (.getfield 87, 3) := by decide +kernel
theorem dX9_nearest_11 : decode cX9_nearest 11 = .ok (.if_icmp .ge 71, 3) := by decide +kernel
theorem dX9_nearest_14 : decode cX9_nearest 14 = .ok (.lload_n 1, 1) := by decide +kernel
theorem dX9_nearest_15 : decode cX9_nearest 15 = .ok (.aload_n 0, 1) := by decide +kernel
theorem dX9_nearest_16 : decode cX9_nearest 16 = .ok (.getfield 36, 3) := by decide +kernel
theorem dX9_nearest_19 : decode cX9_nearest 19 = .ok (.iload_n 3, 1) := by decide +kernel
theorem dX9_nearest_20 : decode cX9_nearest 20 = .ok (.laload, 1) := by decide +kernel
theorem dX9_nearest_21 : decode cX9_nearest 21 = .ok (.lsub, 1) := by decide +kernel
theorem dX9_nearest_22 : decode cX9_nearest 22 = .ok (.lstore 5, 2) := by decide +kernel
theorem dX9_nearest_24 : decode cX9_nearest 24 = .ok (.lload_n 1, 1) := by decide +kernel
theorem dX9_nearest_25 : decode cX9_nearest 25 = .ok (.aload_n 0, 1) := by decide +kernel
theorem dX9_nearest_26 : decode cX9_nearest 26 = .ok (.getfield 36, 3) := by decide +kernel
theorem dX9_nearest_29 : decode cX9_nearest 29 = .ok (.iload 4, 2) := by decide +kernel
theorem dX9_nearest_31 : decode cX9_nearest 31 = .ok (.laload, 1) := by decide +kernel
theorem dX9_nearest_32 : decode cX9_nearest 32 = .ok (.lsub, 1) := by decide +kernel
theorem dX9_nearest_33 : decode cX9_nearest 33 = .ok (.lstore 7, 2) := by decide +kernel
theorem dX9_nearest_35 : decode cX9_nearest 35 = .ok (.lload 7, 2) := by decide +kernel
theorem dX9_nearest_37 : decode cX9_nearest 37 = .ok (.lconst 0, 1) := by decide +kernel
theorem dX9_nearest_38 : decode cX9_nearest 38 = .ok (.lcmp, 1) := by decide +kernel
theorem dX9_nearest_39 : decode cX9_nearest 39 = .ok (.ifCond .ge 9, 3) := by decide +kernel
theorem dX9_nearest_42 : decode cX9_nearest 42 = .ok (.lload 7, 2) := by decide +kernel
theorem dX9_nearest_44 : decode cX9_nearest 44 = .ok (.lneg, 1) := by decide +kernel
theorem dX9_nearest_45 : decode cX9_nearest 45 = .ok (.goto 5, 3) := by decide +kernel
theorem dX9_nearest_48 : decode cX9_nearest 48 = .ok (.lload 7, 2) := by decide +kernel
theorem dX9_nearest_50 : decode cX9_nearest 50 = .ok (.lload 5, 2) := by decide +kernel
theorem dX9_nearest_52 : decode cX9_nearest 52 = .ok (.lconst 0, 1) := by decide +kernel
theorem dX9_nearest_53 : decode cX9_nearest 53 = .ok (.lcmp, 1) := by decide +kernel
theorem dX9_nearest_54 : decode cX9_nearest 54 = .ok (.ifCond .ge 9, 3) := by decide +kernel
theorem dX9_nearest_57 : decode cX9_nearest 57 = .ok (.lload 5, 2) := by decide +kernel
theorem dX9_nearest_59 : decode cX9_nearest 59 = .ok (.lneg, 1) := by decide +kernel
theorem dX9_nearest_60 : decode cX9_nearest 60 = .ok (.goto 5, 3) := by decide +kernel
theorem dX9_nearest_63 : decode cX9_nearest 63 = .ok (.lload 5, 2) := by decide +kernel
theorem dX9_nearest_65 : decode cX9_nearest 65 = .ok (.lcmp, 1) := by decide +kernel
theorem dX9_nearest_66 : decode cX9_nearest 66 = .ok (.ifCond .gt 8, 3) := by decide +kernel
theorem dX9_nearest_69 : decode cX9_nearest 69 = .ok (.iload 4, 2) := by decide +kernel
theorem dX9_nearest_71 : decode cX9_nearest 71 = .ok (.goto 4, 3) := by decide +kernel
theorem dX9_nearest_74 : decode cX9_nearest 74 = .ok (.iload_n 3, 1) := by decide +kernel
theorem dX9_nearest_75 : decode cX9_nearest 75 = .ok (.istore_n 3, 1) := by decide +kernel
theorem dX9_nearest_76 : decode cX9_nearest 76 = .ok (.iinc 4 1, 3) := by decide +kernel
theorem dX9_nearest_79 : decode cX9_nearest 79 = .ok (.goto (-74), 3) := by decide +kernel
theorem dX9_nearest_82 : decode cX9_nearest 82 = .ok (.iload_n 3, 1) := by decide +kernel
theorem dX9_nearest_83 : decode cX9_nearest 83 = .ok (.ireturn, 1) := by decide +kernel
theorem dX9_tries_0 : decode cX9_tries 0 = .ok (.aload_n 0, 1) := by decide +kernel
theorem dX9_tries_1 : decode cX9_tries 1 = .ok (.iconst 0, 1) := by decide +kernel
theorem dX9_tries_2 : decode cX9_tries 2 = .ok (.putfield 186, 3) := by decide +kernel
theorem dX9_tries_5 : decode cX9_tries 5 = .ok (.lconst 0, 1) := by decide +kernel
theorem dX9_tries_6 : decode cX9_tries 6 = .ok (.lstore_n 3, 1) := by decide +kernel
theorem dX9_tries_7 : decode cX9_tries 7 = .ok (.aload_n 0, 1) := by decide +kernel
theorem dX9_tries_8 : decode cX9_tries 8 = .ok (.getfield 173, 3) := by decide +kernel
theorem dX9_tries_11 : decode cX9_tries 11 = .ok (.ifCond .le 45, 3) := by decide +kernel
theorem dX9_tries_14 : decode cX9_tries 14 = .ok (.aload_n 0, 1) := by decide +kernel
theorem dX9_tries_15 : decode cX9_tries 15 = .ok (.ldc2_w 203, 3) := by decide +kernel
theorem dX9_tries_18 : decode cX9_tries 18 = .ok (.aload_n 0, 1) := by decide +kernel
theorem dX9_tries_19 : decode cX9_tries 19 = .ok (.getfield 183, 3) := by decide +kernel
theorem dX9_tries_22 : decode cX9_tries 22 = .ok (.lmul, 1) := by decide +kernel
theorem dX9_tries_23 : decode cX9_tries 23 = .ok (.ldc2_w 205, 3) := by decide +kernel
theorem dX9_tries_26 : decode cX9_tries 26 = .ok (.ladd, 1) := by decide +kernel
theorem dX9_tries_27 : decode cX9_tries 27 = .ok (.putfield 183, 3) := by decide +kernel
theorem dX9_tries_30 : decode cX9_tries 30 = .ok (.aload_n 0, 1) := by decide +kernel
theorem dX9_tries_31 : decode cX9_tries 31 = .ok (.getfield 183, 3) := by decide +kernel
theorem dX9_tries_34 : decode cX9_tries 34 = .ok (.bipush 33, 2) := by decide +kernel
theorem dX9_tries_36 : decode cX9_tries 36 = .ok (.lushr, 1) := by decide +kernel
theorem dX9_tries_37 : decode cX9_tries 37 = .ok (.ldc2_w 163, 3) := by decide +kernel
theorem dX9_tries_40 : decode cX9_tries 40 = .ok (.aload_n 0, 1) := by decide +kernel
theorem dX9_tries_41 : decode cX9_tries 41 = .ok (.getfield 173, 3) := by decide +kernel
theorem dX9_tries_44 : decode cX9_tries 44 = .ok (.i2l, 1) := by decide +kernel
theorem dX9_tries_45 : decode cX9_tries 45 = .ok (.lmul, 1) := by decide +kernel
theorem dX9_tries_46 : decode cX9_tries 46 = .ok (.lconst 1, 1) := by decide +kernel
theorem dX9_tries_47 : decode cX9_tries 47 = .ok (.ladd, 1) := by decide +kernel
theorem dX9_tries_48 : decode cX9_tries 48 = .ok (.lrem, 1) := by decide +kernel
theorem dX9_tries_49 : decode cX9_tries 49 = .ok (.aload_n 0, 1) := by decide +kernel
theorem dX9_tries_50 : decode cX9_tries 50 = .ok (.getfield 173, 3) := by decide +kernel
theorem dX9_tries_53 : decode cX9_tries 53 = .ok (.i2l, 1) := by decide +kernel
theorem dX9_tries_54 : decode cX9_tries 54 = .ok (.lsub, 1) := by decide +kernel
theorem dX9_tries_55 : decode cX9_tries 55 = .ok (.lstore_n 3, 1) := by decide +kernel
theorem dX9_tries_56 : decode cX9_tries 56 = .ok (.aload_n 0, 1) := by decide +kernel
theorem dX9_tries_57 : decode cX9_tries 57 = .ok (.getfield 160, 3) := by decide +kernel
theorem dX9_tries_60 : decode cX9_tries 60 = .ok (.ifCond .ne 7, 3) := by decide +kernel
theorem dX9_tries_63 : decode cX9_tries 63 = .ok (.lload_n 1, 1) := by decide +kernel
theorem dX9_tries_64 : decode cX9_tries 64 = .ok (.goto 18, 3) := by decide +kernel
theorem dX9_tries_67 : decode cX9_tries 67 = .ok (.aload_n 0, 1) := by decide +kernel
theorem dX9_tries_68 : decode cX9_tries 68 = .ok (.getfield 51, 3) := by decide +kernel
theorem dX9_tries_71 : decode cX9_tries 71 = .ok (.bipush 6, 2) := by decide +kernel
theorem dX9_tries_73 : decode cX9_tries 73 = .ok (.aload_n 0, 1) := by decide +kernel
theorem dX9_tries_74 : decode cX9_tries 74 = .ok (.getfield 160, 3) := by decide +kernel
theorem dX9_tries_77 : decode cX9_tries 77 = .ok (.imul, 1) := by decide +kernel
theorem dX9_tries_78 : decode cX9_tries 78 = .ok (.bipush 6, 2) := by decide +kernel
theorem dX9_tries_80 : decode cX9_tries 80 = .ok (.isub, 1) := by decide +kernel
theorem dX9_tries_81 : decode cX9_tries 81 = .ok (.laload, 1) := by decide +kernel
theorem dX9_tries_82 : decode cX9_tries 82 = .ok (.lstore 5, 2) := by decide +kernel
theorem dX9_tries_84 : decode cX9_tries 84 = .ok (.aload_n 0, 1) := by decide +kernel
theorem dX9_tries_85 : decode cX9_tries 85 = .ok (.aload_n 0, 1) := by decide +kernel
theorem dX9_tries_86 : decode cX9_tries 86 = .ok (.lload 5, 2) := by decide +kernel
theorem dX9_tries_88 : decode cX9_tries 88 = .ok (.lload_n 3, 1) := by decide +kernel
theorem dX9_tries_89 : decode cX9_tries 89 = .ok (.ladd, 1) := by decide +kernel
theorem dX9_tries_90 : decode cX9_tries 90 = .ok (.invokevirtual 207, 3) := by decide +kernel
theorem dX9_tries_93 : decode cX9_tries 93 = .ok (.putfield 211, 3) := by decide +kernel
theorem dX9_tries_96 : decode cX9_tries 96 = .ok (.lload_n 1, 1) := by decide +kernel
theorem dX9_tries_97 : decode cX9_tries 97 = .ok (.lstore 7, 2) := by decide +kernel
theorem dX9_tries_99 : decode cX9_tries 99 = .ok (.iconst 0, 1) := by decide +kernel
theorem dX9_tries_100 : decode cX9_tries 100 = .ok (.istore 9, 2) := by decide +kernel
theorem dX9_tries_102 : decode cX9_tries 102 = .ok (.iload 9, 2) := by decide +kernel
theorem dX9_tries_104 : decode cX9_tries 104 = .ok (.aload_n 0, 1) := by decide +kernel
theorem dX9_tries_105 : decode cX9_tries 105 = .ok (.getfield 160, 3) := by decide +kernel
theorem dX9_tries_108 : decode cX9_tries 108 = .ok (.if_icmp .ge 79, 3) := by decide +kernel
theorem dX9_tries_111 : decode cX9_tries 111 = .ok (.aload_n 0, 1) := by decide +kernel
theorem dX9_tries_112 : decode cX9_tries 112 = .ok (.iload 9, 2) := by decide +kernel
theorem dX9_tries_114 : decode cX9_tries 114 = .ok (.lload 7, 2) := by decide +kernel
theorem dX9_tries_116 : decode cX9_tries 116 = .ok (.aload_n 0, 1) := by decide +kernel
theorem dX9_tries_117 : decode cX9_tries 117 = .ok (.getfield 36, 3) := by decide +kernel
theorem dX9_tries_120 : decode cX9_tries 120 = .ok (.aload_n 0, 1) := by decide +kernel
theorem dX9_tries_121 : decode cX9_tries 121 = .ok (.getfield 211, 3) := by decide +kernel
theorem dX9_tries_124 : decode cX9_tries 124 = .ok (.laload, 1) := by decide +kernel
theorem dX9_tries_125 : decode cX9_tries 125 = .ok (.lload_n 1, 1) := by decide +kernel
theorem dX9_tries_126 : decode cX9_tries 126 = .ok (.invokevirtual 214, 3) := by decide +kernel
theorem dX9_tries_129 : decode cX9_tries 129 = .ok (.aload_n 0, 1) := by decide +kernel
theorem dX9_tries_130 : decode cX9_tries 130 = .ok (.getfield 51, 3) := by decide +kernel
theorem dX9_tries_133 : decode cX9_tries 133 = .ok (.bipush 6, 2) := by decide +kernel
theorem dX9_tries_135 : decode cX9_tries 135 = .ok (.iload 9, 2) := by decide +kernel
theorem dX9_tries_137 : decode cX9_tries 137 = .ok (.imul, 1) := by decide +kernel
theorem dX9_tries_138 : decode cX9_tries 138 = .ok (.laload, 1) := by decide +kernel
theorem dX9_tries_139 : decode cX9_tries 139 = .ok (.lstore 7, 2) := by decide +kernel
theorem dX9_tries_141 : decode cX9_tries 141 = .ok (.lload 7, 2) := by decide +kernel
theorem dX9_tries_143 : decode cX9_tries 143 = .ok (.ldc2_w 218, 3) := by decide +kernel
theorem dX9_tries_146 : decode cX9_tries 146 = .ok (.ldc2_w 220, 3) := by decide +kernel
theorem dX9_tries_149 : decode cX9_tries 149 = .ok (.invokestatic 98, 3) := by decide +kernel
theorem dX9_tries_152 : decode cX9_tries 152 = .ok (.ifCond .eq 27, 3) := by decide +kernel
theorem dX9_tries_155 : decode cX9_tries 155 = .ok (.aload_n 0, 1) := by decide +kernel
theorem dX9_tries_156 : decode cX9_tries 156 = .ok (.getfield 51, 3) := by decide +kernel
theorem dX9_tries_159 : decode cX9_tries 159 = .ok (.bipush 6, 2) := by decide +kernel
theorem dX9_tries_161 : decode cX9_tries 161 = .ok (.iload 9, 2) := by decide +kernel
theorem dX9_tries_163 : decode cX9_tries 163 = .ok (.imul, 1) := by decide +kernel
theorem dX9_tries_164 : decode cX9_tries 164 = .ok (.iconst 1, 1) := by decide +kernel
theorem dX9_tries_165 : decode cX9_tries 165 = .ok (.iadd, 1) := by decide +kernel
theorem dX9_tries_166 : decode cX9_tries 166 = .ok (.laload, 1) := by decide +kernel
theorem dX9_tries_167 : decode cX9_tries 167 = .ok (.ldc2_w 218, 3) := by decide +kernel
theorem dX9_tries_170 : decode cX9_tries 170 = .ok (.ldc2_w 220, 3) := by decide +kernel
theorem dX9_tries_173 : decode cX9_tries 173 = .ok (.invokestatic 98, 3) := by decide +kernel
theorem dX9_tries_176 : decode cX9_tries 176 = .ok (.ifCond .ne 5, 3) := by decide +kernel
theorem dX9_tries_179 : decode cX9_tries 179 = .ok (.iconst 0, 1) := by decide +kernel
theorem dX9_tries_180 : decode cX9_tries 180 = .ok (.ireturn, 1) := by decide +kernel
theorem dX9_tries_181 : decode cX9_tries 181 = .ok (.iinc 9 1, 3) := by decide +kernel
theorem dX9_tries_184 : decode cX9_tries 184 = .ok (.goto (-82), 3) := by decide +kernel
theorem dX9_tries_187 : decode cX9_tries 187 = .ok (.iconst 1, 1) := by decide +kernel
theorem dX9_tries_188 : decode cX9_tries 188 = .ok (.ireturn, 1) := by decide +kernel
theorem dX9_does_0 : decode cX9_does 0 = .ok (.aload_n 0, 1) := by decide +kernel
theorem dX9_does_1 : decode cX9_does 1 = .ok (.getfield 129, 3) := by decide +kernel
theorem dX9_does_4 : decode cX9_does 4 = .ok (.sipush 300, 3) := by decide +kernel
theorem dX9_does_7 : decode cX9_does 7 = .ok (.if_icmp .ne 6, 3) := by decide +kernel
theorem dX9_does_10 : decode cX9_does 10 = .ok (.bipush (-4), 2) := by decide +kernel
theorem dX9_does_12 : decode cX9_does 12 = .ok (.ireturn, 1) := by decide +kernel
theorem dX9_does_13 : decode cX9_does 13 = .ok (.aload_n 0, 1) := by decide +kernel
theorem dX9_does_14 : decode cX9_does 14 = .ok (.invokevirtual 222, 3) := by decide +kernel
theorem dX9_does_17 : decode cX9_does 17 = .ok (.aload_n 0, 1) := by decide +kernel
theorem dX9_does_18 : decode cX9_does 18 = .ok (.lload_n 1, 1) := by decide +kernel
theorem dX9_does_19 : decode cX9_does 19 = .ok (.invokevirtual 225, 3) := by decide +kernel
theorem dX9_does_22 : decode cX9_does 22 = .ok (.ifCond .ne 6, 3) := by decide +kernel
theorem dX9_does_25 : decode cX9_does 25 = .ok (.bipush (-6), 2) := by decide +kernel
theorem dX9_does_27 : decode cX9_does 27 = .ok (.ireturn, 1) := by decide +kernel
theorem dX9_does_28 : decode cX9_does 28 = .ok (.aload_n 0, 1) := by decide +kernel
theorem dX9_does_29 : decode cX9_does 29 = .ok (.invokevirtual 228, 3) := by decide +kernel
theorem dX9_does_32 : decode cX9_does 32 = .ok (.aload_n 0, 1) := by decide +kernel
theorem dX9_does_33 : decode cX9_does 33 = .ok (.getfield 42, 3) := by decide +kernel
theorem dX9_does_36 : decode cX9_does 36 = .ok (.aload_n 0, 1) := by decide +kernel
theorem dX9_does_37 : decode cX9_does 37 = .ok (.getfield 129, 3) := by decide +kernel
theorem dX9_does_40 : decode cX9_does 40 = .ok (.lload_n 1, 1) := by decide +kernel
theorem dX9_does_41 : decode cX9_does 41 = .ok (.lastore, 1) := by decide +kernel
theorem dX9_does_42 : decode cX9_does 42 = .ok (.aload_n 0, 1) := by decide +kernel
theorem dX9_does_43 : decode cX9_does 43 = .ok (.getfield 45, 3) := by decide +kernel
theorem dX9_does_46 : decode cX9_does 46 = .ok (.bipush 7, 2) := by decide +kernel
theorem dX9_does_48 : decode cX9_does 48 = .ok (.aload_n 0, 1) := by decide +kernel
theorem dX9_does_49 : decode cX9_does 49 = .ok (.getfield 129, 3) := by decide +kernel
theorem dX9_does_52 : decode cX9_does 52 = .ok (.imul, 1) := by decide +kernel
theorem dX9_does_53 : decode cX9_does 53 = .ok (.lload_n 1, 1) := by decide +kernel
theorem dX9_does_54 : decode cX9_does 54 = .ok (.lastore, 1) := by decide +kernel
theorem dX9_does_55 : decode cX9_does 55 = .ok (.aload_n 0, 1) := by decide +kernel
theorem dX9_does_56 : decode cX9_does 56 = .ok (.getfield 45, 3) := by decide +kernel
theorem dX9_does_59 : decode cX9_does 59 = .ok (.bipush 7, 2) := by decide +kernel
theorem dX9_does_61 : decode cX9_does 61 = .ok (.aload_n 0, 1) := by decide +kernel
theorem dX9_does_62 : decode cX9_does 62 = .ok (.getfield 129, 3) := by decide +kernel
theorem dX9_does_65 : decode cX9_does 65 = .ok (.imul, 1) := by decide +kernel
theorem dX9_does_66 : decode cX9_does 66 = .ok (.iconst 1, 1) := by decide +kernel
theorem dX9_does_67 : decode cX9_does 67 = .ok (.iadd, 1) := by decide +kernel
theorem dX9_does_68 : decode cX9_does 68 = .ok (.aload_n 0, 1) := by decide +kernel
theorem dX9_does_69 : decode cX9_does 69 = .ok (.getfield 36, 3) := by decide +kernel
theorem dX9_does_72 : decode cX9_does 72 = .ok (.aload_n 0, 1) := by decide +kernel
theorem dX9_does_73 : decode cX9_does 73 = .ok (.getfield 211, 3) := by decide +kernel
theorem dX9_does_76 : decode cX9_does 76 = .ok (.laload, 1) := by decide +kernel
theorem dX9_does_77 : decode cX9_does 77 = .ok (.lastore, 1) := by decide +kernel
theorem dX9_does_78 : decode cX9_does 78 = .ok (.iconst 0, 1) := by decide +kernel
theorem dX9_does_79 : decode cX9_does 79 = .ok (.istore_n 3, 1) := by decide +kernel
theorem dX9_does_80 : decode cX9_does 80 = .ok (.iload_n 3, 1) := by decide +kernel
theorem dX9_does_81 : decode cX9_does 81 = .ok (.iconst 5, 1) := by decide +kernel
theorem dX9_does_82 : decode cX9_does 82 = .ok (.if_icmp .ge 46, 3) := by decide +kernel
theorem dX9_does_85 : decode cX9_does 85 = .ok (.aload_n 0, 1) := by decide +kernel
theorem dX9_does_86 : decode cX9_does 86 = .ok (.getfield 45, 3) := by decide +kernel
theorem dX9_does_89 : decode cX9_does 89 = .ok (.bipush 7, 2) := by decide +kernel
theorem dX9_does_91 : decode cX9_does 91 = .ok (.aload_n 0, 1) := by decide +kernel
theorem dX9_does_92 : decode cX9_does 92 = .ok (.getfield 129, 3) := by decide +kernel
theorem dX9_does_95 : decode cX9_does 95 = .ok (.imul, 1) := by decide +kernel
theorem dX9_does_96 : decode cX9_does 96 = .ok (.iconst 2, 1) := by decide +kernel
theorem dX9_does_97 : decode cX9_does 97 = .ok (.iadd, 1) := by decide +kernel
theorem dX9_does_98 : decode cX9_does 98 = .ok (.iload_n 3, 1) := by decide +kernel
theorem dX9_does_99 : decode cX9_does 99 = .ok (.iadd, 1) := by decide +kernel
theorem dX9_does_100 : decode cX9_does 100 = .ok (.iload_n 3, 1) := by decide +kernel
theorem dX9_does_101 : decode cX9_does 101 = .ok (.aload_n 0, 1) := by decide +kernel
theorem dX9_does_102 : decode cX9_does 102 = .ok (.getfield 160, 3) := by decide +kernel
theorem dX9_does_105 : decode cX9_does 105 = .ok (.if_icmp .ge 15, 3) := by decide +kernel
theorem dX9_does_108 : decode cX9_does 108 = .ok (.aload_n 0, 1) := by decide +kernel
theorem dX9_does_109 : decode cX9_does 109 = .ok (.getfield 39, 3) := by decide +kernel
theorem dX9_does_112 : decode cX9_does 112 = .ok (.bipush 6, 2) := by decide +kernel
theorem dX9_does_114 : decode cX9_does 114 = .ok (.iload_n 3, 1) := by decide +kernel
theorem dX9_does_115 : decode cX9_does 115 = .ok (.imul, 1) := by decide +kernel
theorem dX9_does_116 : decode cX9_does 116 = .ok (.laload, 1) := by decide +kernel
theorem dX9_does_117 : decode cX9_does 117 = .ok (.goto 4, 3) := by decide +kernel
theorem dX9_does_120 : decode cX9_does 120 = .ok (.lconst 0, 1) := by decide +kernel
theorem dX9_does_121 : decode cX9_does 121 = .ok (.lastore, 1) := by decide +kernel
theorem dX9_does_122 : decode cX9_does 122 = .ok (.iinc 3 1, 3) := by decide +kernel
theorem dX9_does_125 : decode cX9_does 125 = .ok (.goto (-45), 3) := by decide +kernel
theorem dX9_does_128 : decode cX9_does 128 = .ok (.aload_n 0, 1) := by decide +kernel
theorem dX9_does_129 : decode cX9_does 129 = .ok (.aload_n 0, 1) := by decide +kernel
theorem dX9_does_130 : decode cX9_does 130 = .ok (.getfield 186, 3) := by decide +kernel
theorem dX9_does_133 : decode cX9_does 133 = .ok (.putfield 231, 3) := by decide +kernel
theorem dX9_does_136 : decode cX9_does 136 = .ok (.iconst 0, 1) := by decide +kernel
theorem dX9_does_137 : decode cX9_does 137 = .ok (.istore_n 3, 1) := by decide +kernel
theorem dX9_does_138 : decode cX9_does 138 = .ok (.iload_n 3, 1) := by decide +kernel
theorem dX9_does_139 : decode cX9_does 139 = .ok (.aload_n 0, 1) := by decide +kernel
theorem dX9_does_140 : decode cX9_does 140 = .ok (.getfield 231, 3) := by decide +kernel
theorem dX9_does_143 : decode cX9_does 143 = .ok (.if_icmp .ge 21, 3) := by decide +kernel
theorem dX9_does_146 : decode cX9_does 146 = .ok (.aload_n 0, 1) := by decide +kernel
theorem dX9_does_147 : decode cX9_does 147 = .ok (.getfield 48, 3) := by decide +kernel
theorem dX9_does_150 : decode cX9_does 150 = .ok (.iload_n 3, 1) := by decide +kernel
theorem dX9_does_151 : decode cX9_does 151 = .ok (.aload_n 0, 1) := by decide +kernel
theorem dX9_does_152 : decode cX9_does 152 = .ok (.getfield 54, 3) := by decide +kernel
theorem dX9_does_155 : decode cX9_does 155 = .ok (.iload_n 3, 1) := by decide +kernel
theorem dX9_does_156 : decode cX9_does 156 = .ok (.iaload, 1) := by decide +kernel
theorem dX9_does_157 : decode cX9_does 157 = .ok (.iastore, 1) := by decide +kernel
theorem dX9_does_158 : decode cX9_does 158 = .ok (.iinc 3 1, 3) := by decide +kernel
theorem dX9_does_161 : decode cX9_does 161 = .ok (.goto (-23), 3) := by decide +kernel
theorem dX9_does_164 : decode cX9_does 164 = .ok (.aload_n 0, 1) := by decide +kernel
theorem dX9_does_165 : decode cX9_does 165 = .ok (.dup, 1) := by decide +kernel
theorem dX9_does_166 : decode cX9_does 166 = .ok (.getfield 129, 3) := by decide +kernel
theorem dX9_does_169 : decode cX9_does 169 = .ok (.iconst 1, 1) := by decide +kernel
theorem dX9_does_170 : decode cX9_does 170 = .ok (.iadd, 1) := by decide +kernel
theorem dX9_does_171 : decode cX9_does 171 = .ok (.putfield 129, 3) := by decide +kernel
theorem dX9_does_174 : decode cX9_does 174 = .ok (.aload_n 0, 1) := by decide +kernel
theorem dX9_does_175 : decode cX9_does 175 = .ok (.getfield 211, 3) := by decide +kernel
theorem dX9_does_178 : decode cX9_does 178 = .ok (.ireturn, 1) := by decide +kernel
theorem dX9_step_0 : decode cX9_step 0 = .ok (.lload_n 1, 1) := by decide +kernel
theorem dX9_step_1 : decode cX9_step 1 = .ok (.invokestatic 167, 3) := by decide +kernel
theorem dX9_step_4 : decode cX9_step 4 = .ok (.ifCond .eq 11, 3) := by decide +kernel
theorem dX9_step_7 : decode cX9_step 7 = .ok (.aload_n 0, 1) := by decide +kernel
theorem dX9_step_8 : decode cX9_step 8 = .ok (.lload_n 1, 1) := by decide +kernel
theorem dX9_step_9 : decode cX9_step 9 = .ok (.invokevirtual 234, 3) := by decide +kernel
theorem dX9_step_12 : decode cX9_step 12 = .ok (.goto 5, 3) := by decide +kernel
theorem dX9_step_15 : decode cX9_step 15 = .ok (.bipush (-2), 2) := by decide +kernel
theorem dX9_step_17 : decode cX9_step 17 = .ok (.ireturn, 1) := by decide +kernel
theorem dX9_run_0 : decode cX9_run 0 = .ok (.iload_n 1, 1) := by decide +kernel
theorem dX9_run_1 : decode cX9_run 1 = .ok (.invokestatic 102, 3) := by decide +kernel
theorem dX9_run_4 : decode cX9_run 4 = .ok (.ifCond .eq 15, 3) := by decide +kernel
theorem dX9_run_7 : decode cX9_run 7 = .ok (.iload_n 3, 1) := by decide +kernel
theorem dX9_run_8 : decode cX9_run 8 = .ok (.i2l, 1) := by decide +kernel
theorem dX9_run_9 : decode cX9_run 9 = .ok (.lconst 1, 1) := by decide +kernel
theorem dX9_run_10 : decode cX9_run 10 = .ok (.ldc2_w 237, 3) := by decide +kernel
theorem dX9_run_13 : decode cX9_run 13 = .ok (.invokestatic 98, 3) := by decide +kernel
theorem dX9_run_16 : decode cX9_run 16 = .ok (.ifCond .ne 6, 3) := by decide +kernel
theorem dX9_run_19 : decode cX9_run 19 = .ok (.bipush (-2), 2) := by decide +kernel
theorem dX9_run_21 : decode cX9_run 21 = .ok (.ireturn, 1) := by decide +kernel
theorem dX9_run_22 : decode cX9_run 22 = .ok (.iconst 0, 1) := by decide +kernel
theorem dX9_run_23 : decode cX9_run 23 = .ok (.istore 4, 2) := by decide +kernel
theorem dX9_run_25 : decode cX9_run 25 = .ok (.iload 4, 2) := by decide +kernel
theorem dX9_run_27 : decode cX9_run 27 = .ok (.iload_n 3, 1) := by decide +kernel
theorem dX9_run_28 : decode cX9_run 28 = .ok (.if_icmp .ge 71, 3) := by decide +kernel
theorem dX9_run_31 : decode cX9_run 31 = .ok (.aload_n 0, 1) := by decide +kernel
theorem dX9_run_32 : decode cX9_run 32 = .ok (.iload_n 1, 1) := by decide +kernel
theorem dX9_run_33 : decode cX9_run 33 = .ok (.aload_n 0, 1) := by decide +kernel
theorem dX9_run_34 : decode cX9_run 34 = .ok (.getfield 13, 3) := by decide +kernel
theorem dX9_run_37 : decode cX9_run 37 = .ok (.iload_n 1, 1) := by decide +kernel
theorem dX9_run_38 : decode cX9_run 38 = .ok (.iaload, 1) := by decide +kernel
theorem dX9_run_39 : decode cX9_run 39 = .ok (.iload_n 2, 1) := by decide +kernel
theorem dX9_run_40 : decode cX9_run 40 = .ok (.iload 4, 2) := by decide +kernel
theorem dX9_run_42 : decode cX9_run 42 = .ok (.iadd, 1) := by decide +kernel
theorem dX9_run_43 : decode cX9_run 43 = .ok (.invokevirtual 120, 3) := by decide +kernel
theorem dX9_run_46 : decode cX9_run 46 = .ok (.istore 5, 2) := by decide +kernel
theorem dX9_run_48 : decode cX9_run 48 = .ok (.iload 5, 2) := by decide +kernel
theorem dX9_run_50 : decode cX9_run 50 = .ok (.ifCond .le 10, 3) := by decide +kernel
theorem dX9_run_53 : decode cX9_run 53 = .ok (.aload_n 0, 1) := by decide +kernel
theorem dX9_run_54 : decode cX9_run 54 = .ok (.iload 5, 2) := by decide +kernel
theorem dX9_run_56 : decode cX9_run 56 = .ok (.invokevirtual 106, 3) := by decide +kernel
theorem dX9_run_59 : decode cX9_run 59 = .ok (.ireturn, 1) := by decide +kernel
theorem dX9_run_60 : decode cX9_run 60 = .ok (.aload_n 0, 1) := by decide +kernel
theorem dX9_run_61 : decode cX9_run 61 = .ok (.aload_n 0, 1) := by decide +kernel
theorem dX9_run_62 : decode cX9_run 62 = .ok (.bipush 60, 2) := by decide +kernel
theorem dX9_run_64 : decode cX9_run 64 = .ok (.iload_n 1, 1) := by decide +kernel
theorem dX9_run_65 : decode cX9_run 65 = .ok (.imul, 1) := by decide +kernel
theorem dX9_run_66 : decode cX9_run 66 = .ok (.iload_n 2, 1) := by decide +kernel
theorem dX9_run_67 : decode cX9_run 67 = .ok (.iadd, 1) := by decide +kernel
theorem dX9_run_68 : decode cX9_run 68 = .ok (.iload 4, 2) := by decide +kernel
theorem dX9_run_70 : decode cX9_run 70 = .ok (.iadd, 1) := by decide +kernel
theorem dX9_run_71 : decode cX9_run 71 = .ok (.aload_n 0, 1) := by decide +kernel
theorem dX9_run_72 : decode cX9_run 72 = .ok (.getfield 13, 3) := by decide +kernel
theorem dX9_run_75 : decode cX9_run 75 = .ok (.iload_n 1, 1) := by decide +kernel
theorem dX9_run_76 : decode cX9_run 76 = .ok (.iaload, 1) := by decide +kernel
theorem dX9_run_77 : decode cX9_run 77 = .ok (.invokevirtual 148, 3) := by decide +kernel
theorem dX9_run_80 : decode cX9_run 80 = .ok (.invokevirtual 234, 3) := by decide +kernel
theorem dX9_run_83 : decode cX9_run 83 = .ok (.istore 6, 2) := by decide +kernel
theorem dX9_run_85 : decode cX9_run 85 = .ok (.iload 6, 2) := by decide +kernel
theorem dX9_run_87 : decode cX9_run 87 = .ok (.ifCond .ge 6, 3) := by decide +kernel
theorem dX9_run_90 : decode cX9_run 90 = .ok (.iload 6, 2) := by decide +kernel
theorem dX9_run_92 : decode cX9_run 92 = .ok (.ireturn, 1) := by decide +kernel
theorem dX9_run_93 : decode cX9_run 93 = .ok (.iinc 4 1, 3) := by decide +kernel
theorem dX9_run_96 : decode cX9_run 96 = .ok (.goto (-71), 3) := by decide +kernel
theorem dX9_run_99 : decode cX9_run 99 = .ok (.aload_n 0, 1) := by decide +kernel
theorem dX9_run_100 : decode cX9_run 100 = .ok (.getfield 129, 3) := by decide +kernel
theorem dX9_run_103 : decode cX9_run 103 = .ok (.ireturn, 1) := by decide +kernel
theorem dX9_undo_0 : decode cX9_undo 0 = .ok (.iload_n 1, 1) := by decide +kernel
theorem dX9_undo_1 : decode cX9_undo 1 = .ok (.i2l, 1) := by decide +kernel
theorem dX9_undo_2 : decode cX9_undo 2 = .ok (.lconst 0, 1) := by decide +kernel
theorem dX9_undo_3 : decode cX9_undo 3 = .ok (.aload_n 0, 1) := by decide +kernel
theorem dX9_undo_4 : decode cX9_undo 4 = .ok (.getfield 129, 3) := by decide +kernel
theorem dX9_undo_7 : decode cX9_undo 7 = .ok (.i2l, 1) := by decide +kernel
theorem dX9_undo_8 : decode cX9_undo 8 = .ok (.invokestatic 98, 3) := by decide +kernel
theorem dX9_undo_11 : decode cX9_undo 11 = .ok (.ifCond .ne 6, 3) := by decide +kernel
theorem dX9_undo_14 : decode cX9_undo 14 = .ok (.bipush (-2), 2) := by decide +kernel
theorem dX9_undo_16 : decode cX9_undo 16 = .ok (.ireturn, 1) := by decide +kernel
theorem dX9_undo_17 : decode cX9_undo 17 = .ok (.aload_n 0, 1) := by decide +kernel
theorem dX9_undo_18 : decode cX9_undo 18 = .ok (.dup, 1) := by decide +kernel
theorem dX9_undo_19 : decode cX9_undo 19 = .ok (.getfield 129, 3) := by decide +kernel
theorem dX9_undo_22 : decode cX9_undo 22 = .ok (.iload_n 1, 1) := by decide +kernel
theorem dX9_undo_23 : decode cX9_undo 23 = .ok (.isub, 1) := by decide +kernel
theorem dX9_undo_24 : decode cX9_undo 24 = .ok (.putfield 129, 3) := by decide +kernel
theorem dX9_undo_27 : decode cX9_undo 27 = .ok (.aload_n 0, 1) := by decide +kernel
theorem dX9_undo_28 : decode cX9_undo 28 = .ok (.invokevirtual 239, 3) := by decide +kernel
theorem dX9_undo_31 : decode cX9_undo 31 = .ok (.iconst 0, 1) := by decide +kernel
theorem dX9_undo_32 : decode cX9_undo 32 = .ok (.istore_n 2, 1) := by decide +kernel
theorem dX9_undo_33 : decode cX9_undo 33 = .ok (.iload_n 2, 1) := by decide +kernel
theorem dX9_undo_34 : decode cX9_undo 34 = .ok (.aload_n 0, 1) := by decide +kernel
theorem dX9_undo_35 : decode cX9_undo 35 = .ok (.getfield 129, 3) := by decide +kernel
theorem dX9_undo_38 : decode cX9_undo 38 = .ok (.if_icmp .ge 20, 3) := by decide +kernel
theorem dX9_undo_41 : decode cX9_undo 41 = .ok (.aload_n 0, 1) := by decide +kernel
theorem dX9_undo_42 : decode cX9_undo 42 = .ok (.aload_n 0, 1) := by decide +kernel
theorem dX9_undo_43 : decode cX9_undo 43 = .ok (.getfield 42, 3) := by decide +kernel
theorem dX9_undo_46 : decode cX9_undo 46 = .ok (.iload_n 2, 1) := by decide +kernel
theorem dX9_undo_47 : decode cX9_undo 47 = .ok (.laload, 1) := by decide +kernel
theorem dX9_undo_48 : decode cX9_undo 48 = .ok (.invokevirtual 225, 3) := by decide +kernel
theorem dX9_undo_51 : decode cX9_undo 51 = .ok (.istore_n 3, 1) := by decide +kernel
theorem dX9_undo_52 : decode cX9_undo 52 = .ok (.iinc 2 1, 3) := by decide +kernel
theorem dX9_undo_55 : decode cX9_undo 55 = .ok (.goto (-22), 3) := by decide +kernel
theorem dX9_undo_58 : decode cX9_undo 58 = .ok (.aload_n 0, 1) := by decide +kernel
theorem dX9_undo_59 : decode cX9_undo 59 = .ok (.invokevirtual 228, 3) := by decide +kernel
theorem dX9_undo_62 : decode cX9_undo 62 = .ok (.aload_n 0, 1) := by decide +kernel
theorem dX9_undo_63 : decode cX9_undo 63 = .ok (.getfield 129, 3) := by decide +kernel
theorem dX9_undo_66 : decode cX9_undo 66 = .ok (.ireturn, 1) := by decide +kernel
theorem dX9_clear_0 : decode cX9_clear 0 = .ok (.aload_n 0, 1) := by decide +kernel
theorem dX9_clear_1 : decode cX9_clear 1 = .ok (.getfield 129, 3) := by decide +kernel
theorem dX9_clear_4 : decode cX9_clear 4 = .ok (.istore_n 1, 1) := by decide +kernel
theorem dX9_clear_5 : decode cX9_clear 5 = .ok (.aload_n 0, 1) := by decide +kernel
theorem dX9_clear_6 : decode cX9_clear 6 = .ok (.iconst 0, 1) := by decide +kernel
theorem dX9_clear_7 : decode cX9_clear 7 = .ok (.putfield 129, 3) := by decide +kernel
theorem dX9_clear_10 : decode cX9_clear 10 = .ok (.aload_n 0, 1) := by decide +kernel
theorem dX9_clear_11 : decode cX9_clear 11 = .ok (.iconst 0, 1) := by decide +kernel
theorem dX9_clear_12 : decode cX9_clear 12 = .ok (.putfield 160, 3) := by decide +kernel
theorem dX9_clear_15 : decode cX9_clear 15 = .ok (.aload_n 0, 1) := by decide +kernel
theorem dX9_clear_16 : decode cX9_clear 16 = .ok (.invokevirtual 239, 3) := by decide +kernel
theorem dX9_clear_19 : decode cX9_clear 19 = .ok (.aload_n 0, 1) := by decide +kernel
theorem dX9_clear_20 : decode cX9_clear 20 = .ok (.invokevirtual 228, 3) := by decide +kernel
theorem dX9_clear_23 : decode cX9_clear 23 = .ok (.iload_n 1, 1) := by decide +kernel
theorem dX9_clear_24 : decode cX9_clear 24 = .ok (.ireturn, 1) := by decide +kernel
theorem dX9_stageAt_0 : decode cX9_stageAt 0 = .ok (.iload_n 1, 1) := by decide +kernel
theorem dX9_stageAt_1 : decode cX9_stageAt 1 = .ok (.i2l, 1) := by decide +kernel
theorem dX9_stageAt_2 : decode cX9_stageAt 2 = .ok (.lconst 0, 1) := by decide +kernel
theorem dX9_stageAt_3 : decode cX9_stageAt 3 = .ok (.aload_n 0, 1) := by decide +kernel
theorem dX9_stageAt_4 : decode cX9_stageAt 4 = .ok (.getfield 160, 3) := by decide +kernel
theorem dX9_stageAt_7 : decode cX9_stageAt 7 = .ok (.iconst 1, 1) := by decide +kernel
theorem dX9_stageAt_8 : decode cX9_stageAt 8 = .ok (.isub, 1) := by decide +kernel
theorem dX9_stageAt_9 : decode cX9_stageAt 9 = .ok (.i2l, 1) := by decide +kernel
theorem dX9_stageAt_10 : decode cX9_stageAt 10 = .ok (.invokestatic 98, 3) := by decide +kernel
theorem dX9_stageAt_13 : decode cX9_stageAt 13 = .ok (.ifCond .eq 15, 3) := by decide +kernel
theorem dX9_stageAt_16 : decode cX9_stageAt 16 = .ok (.iload_n 2, 1) := by decide +kernel
theorem dX9_stageAt_17 : decode cX9_stageAt 17 = .ok (.i2l, 1) := by decide +kernel
theorem dX9_stageAt_18 : decode cX9_stageAt 18 = .ok (.lconst 0, 1) := by decide +kernel
theorem dX9_stageAt_19 : decode cX9_stageAt 19 = .ok (.ldc2_w 242, 3) := by decide +kernel
theorem dX9_stageAt_22 : decode cX9_stageAt 22 = .ok (.invokestatic 98, 3) := by decide +kernel
theorem dX9_stageAt_25 : decode cX9_stageAt 25 = .ok (.ifCond .ne 7, 3) := by decide +kernel
theorem dX9_stageAt_28 : decode cX9_stageAt 28 = .ok (.ldc2_w 244, 3) := by decide +kernel
theorem dX9_stageAt_31 : decode cX9_stageAt 31 = .ok (.lreturn, 1) := by decide +kernel
theorem dX9_stageAt_32 : decode cX9_stageAt 32 = .ok (.iload_n 2, 1) := by decide +kernel
theorem dX9_stageAt_33 : decode cX9_stageAt 33 = .ok (.bipush 6, 2) := by decide +kernel
theorem dX9_stageAt_35 : decode cX9_stageAt 35 = .ok (.if_icmp .ne 13, 3) := by decide +kernel
theorem dX9_stageAt_38 : decode cX9_stageAt 38 = .ok (.aload_n 0, 1) := by decide +kernel
theorem dX9_stageAt_39 : decode cX9_stageAt 39 = .ok (.getfield 27, 3) := by decide +kernel
theorem dX9_stageAt_42 : decode cX9_stageAt 42 = .ok (.iload_n 1, 1) := by decide +kernel
theorem dX9_stageAt_43 : decode cX9_stageAt 43 = .ok (.iaload, 1) := by decide +kernel
theorem dX9_stageAt_44 : decode cX9_stageAt 44 = .ok (.i2l, 1) := by decide +kernel
theorem dX9_stageAt_45 : decode cX9_stageAt 45 = .ok (.goto 14, 3) := by decide +kernel
theorem dX9_stageAt_48 : decode cX9_stageAt 48 = .ok (.aload_n 0, 1) := by decide +kernel
theorem dX9_stageAt_49 : decode cX9_stageAt 49 = .ok (.getfield 39, 3) := by decide +kernel
theorem dX9_stageAt_52 : decode cX9_stageAt 52 = .ok (.bipush 6, 2) := by decide +kernel
theorem dX9_stageAt_54 : decode cX9_stageAt 54 = .ok (.iload_n 1, 1) := by decide +kernel
theorem dX9_stageAt_55 : decode cX9_stageAt 55 = .ok (.imul, 1) := by decide +kernel
theorem dX9_stageAt_56 : decode cX9_stageAt 56 = .ok (.iload_n 2, 1) := by decide +kernel
theorem dX9_stageAt_57 : decode cX9_stageAt 57 = .ok (.iadd, 1) := by decide +kernel
theorem dX9_stageAt_58 : decode cX9_stageAt 58 = .ok (.laload, 1) := by decide +kernel
theorem dX9_stageAt_59 : decode cX9_stageAt 59 = .ok (.lreturn, 1) := by decide +kernel
theorem dX9_levelAt_0 : decode cX9_levelAt 0 = .ok (.iload_n 1, 1) := by decide +kernel
theorem dX9_levelAt_1 : decode cX9_levelAt 1 = .ok (.i2l, 1) := by decide +kernel
theorem dX9_levelAt_2 : decode cX9_levelAt 2 = .ok (.lconst 0, 1) := by decide +kernel
theorem dX9_levelAt_3 : decode cX9_levelAt 3 = .ok (.aload_n 0, 1) := by decide +kernel
theorem dX9_levelAt_4 : decode cX9_levelAt 4 = .ok (.getfield 87, 3) := by decide +kernel
theorem dX9_levelAt_7 : decode cX9_levelAt 7 = .ok (.iconst 1, 1) := by decide +kernel
theorem dX9_levelAt_8 : decode cX9_levelAt 8 = .ok (.isub, 1) := by decide +kernel
theorem dX9_levelAt_9 : decode cX9_levelAt 9 = .ok (.i2l, 1) := by decide +kernel
theorem dX9_levelAt_10 : decode cX9_levelAt 10 = .ok (.invokestatic 98, 3) := by decide +kernel
theorem dX9_levelAt_13 : decode cX9_levelAt 13 = .ok (.ifCond .eq 12, 3) := by decide +kernel
theorem dX9_levelAt_16 : decode cX9_levelAt 16 = .ok (.aload_n 0, 1) := by decide +kernel
theorem dX9_levelAt_17 : decode cX9_levelAt 17 = .ok (.getfield 36, 3) := by decide +kernel
theorem dX9_levelAt_20 : decode cX9_levelAt 20 = .ok (.iload_n 1, 1) := by decide +kernel
theorem dX9_levelAt_21 : decode cX9_levelAt 21 = .ok (.laload, 1) := by decide +kernel
theorem dX9_levelAt_22 : decode cX9_levelAt 22 = .ok (.goto 6, 3) := by decide +kernel
theorem dX9_levelAt_25 : decode cX9_levelAt 25 = .ok (.ldc2_w 244, 3) := by decide +kernel
theorem dX9_levelAt_28 : decode cX9_levelAt 28 = .ok (.lreturn, 1) := by decide +kernel
theorem dX9_isRecord_0 : decode cX9_isRecord 0 = .ok (.iload_n 1, 1) := by decide +kernel
theorem dX9_isRecord_1 : decode cX9_isRecord 1 = .ok (.i2l, 1) := by decide +kernel
theorem dX9_isRecord_2 : decode cX9_isRecord 2 = .ok (.lconst 0, 1) := by decide +kernel
theorem dX9_isRecord_3 : decode cX9_isRecord 3 = .ok (.aload_n 0, 1) := by decide +kernel
theorem dX9_isRecord_4 : decode cX9_isRecord 4 = .ok (.getfield 129, 3) := by decide +kernel
theorem dX9_isRecord_7 : decode cX9_isRecord 7 = .ok (.iconst 1, 1) := by decide +kernel
theorem dX9_isRecord_8 : decode cX9_isRecord 8 = .ok (.isub, 1) := by decide +kernel
theorem dX9_isRecord_9 : decode cX9_isRecord 9 = .ok (.i2l, 1) := by decide +kernel
theorem dX9_isRecord_10 : decode cX9_isRecord 10 = .ok (.invokestatic 98, 3) := by decide +kernel
theorem dX9_isRecord_13 : decode cX9_isRecord 13 = .ok (.ifCond .eq 23, 3) := by decide +kernel
theorem dX9_isRecord_16 : decode cX9_isRecord 16 = .ok (.iload_n 2, 1) := by decide +kernel
theorem dX9_isRecord_17 : decode cX9_isRecord 17 = .ok (.i2l, 1) := by decide +kernel
theorem dX9_isRecord_18 : decode cX9_isRecord 18 = .ok (.lconst 0, 1) := by decide +kernel
theorem dX9_isRecord_19 : decode cX9_isRecord 19 = .ok (.iconst 1, 1) := by decide +kernel
theorem dX9_isRecord_20 : decode cX9_isRecord 20 = .ok (.aload_n 0, 1) := by decide +kernel
theorem dX9_isRecord_21 : decode cX9_isRecord 21 = .ok (.getfield 160, 3) := by decide +kernel
theorem dX9_isRecord_24 : decode cX9_isRecord 24 = .ok (.iadd, 1) := by decide +kernel
theorem dX9_isRecord_25 : decode cX9_isRecord 25 = .ok (.i2l, 1) := by decide +kernel
theorem dX9_isRecord_26 : decode cX9_isRecord 26 = .ok (.invokestatic 98, 3) := by decide +kernel
theorem dX9_isRecord_29 : decode cX9_isRecord 29 = .ok (.ifCond .eq 7, 3) := by decide +kernel
theorem dX9_isRecord_32 : decode cX9_isRecord 32 = .ok (.iconst 1, 1) := by decide +kernel
theorem dX9_isRecord_33 : decode cX9_isRecord 33 = .ok (.goto 4, 3) := by decide +kernel
theorem dX9_isRecord_36 : decode cX9_isRecord 36 = .ok (.iconst 0, 1) := by decide +kernel
theorem dX9_isRecord_37 : decode cX9_isRecord 37 = .ok (.ireturn, 1) := by decide +kernel
theorem dX9_record_0 : decode cX9_record 0 = .ok (.aload_n 0, 1) := by decide +kernel
theorem dX9_record_1 : decode cX9_record 1 = .ok (.iload_n 1, 1) := by decide +kernel
theorem dX9_record_2 : decode cX9_record 2 = .ok (.iload_n 2, 1) := by decide +kernel
theorem dX9_record_3 : decode cX9_record 3 = .ok (.invokevirtual 246, 3) := by decide +kernel
theorem dX9_record_6 : decode cX9_record 6 = .ok (.ifCond .eq 17, 3) := by decide +kernel
theorem dX9_record_9 : decode cX9_record 9 = .ok (.aload_n 0, 1) := by decide +kernel
theorem dX9_record_10 : decode cX9_record 10 = .ok (.getfield 45, 3) := by decide +kernel
theorem dX9_record_13 : decode cX9_record 13 = .ok (.bipush 7, 2) := by decide +kernel
theorem dX9_record_15 : decode cX9_record 15 = .ok (.iload_n 1, 1) := by decide +kernel
theorem dX9_record_16 : decode cX9_record 16 = .ok (.imul, 1) := by decide +kernel
theorem dX9_record_17 : decode cX9_record 17 = .ok (.iload_n 2, 1) := by decide +kernel
theorem dX9_record_18 : decode cX9_record 18 = .ok (.iadd, 1) := by decide +kernel
theorem dX9_record_19 : decode cX9_record 19 = .ok (.laload, 1) := by decide +kernel
theorem dX9_record_20 : decode cX9_record 20 = .ok (.goto 6, 3) := by decide +kernel
theorem dX9_record_23 : decode cX9_record 23 = .ok (.ldc2_w 244, 3) := by decide +kernel
theorem dX9_record_26 : decode cX9_record 26 = .ok (.lreturn, 1) := by decide +kernel
theorem dX9_forge_0 : decode cX9_forge 0 = .ok (.aload_n 0, 1) := by decide +kernel
theorem dX9_forge_1 : decode cX9_forge 1 = .ok (.iload_n 1, 1) := by decide +kernel
theorem dX9_forge_2 : decode cX9_forge 2 = .ok (.iload_n 2, 1) := by decide +kernel
theorem dX9_forge_3 : decode cX9_forge 3 = .ok (.invokevirtual 246, 3) := by decide +kernel
theorem dX9_forge_6 : decode cX9_forge 6 = .ok (.ifCond .eq 14, 3) := by decide +kernel
theorem dX9_forge_9 : decode cX9_forge 9 = .ok (.iload_n 2, 1) := by decide +kernel
theorem dX9_forge_10 : decode cX9_forge 10 = .ok (.ifCond .ne 13, 3) := by decide +kernel
theorem dX9_forge_13 : decode cX9_forge 13 = .ok (.lload_n 3, 1) := by decide +kernel
theorem dX9_forge_14 : decode cX9_forge 14 = .ok (.invokestatic 167, 3) := by decide +kernel
theorem dX9_forge_17 : decode cX9_forge 17 = .ok (.ifCond .ne 6, 3) := by decide +kernel
theorem dX9_forge_20 : decode cX9_forge 20 = .ok (.bipush (-2), 2) := by decide +kernel
theorem dX9_forge_22 : decode cX9_forge 22 = .ok (.ireturn, 1) := by decide +kernel
theorem dX9_forge_23 : decode cX9_forge 23 = .ok (.aload_n 0, 1) := by decide +kernel
theorem dX9_forge_24 : decode cX9_forge 24 = .ok (.getfield 45, 3) := by decide +kernel
theorem dX9_forge_27 : decode cX9_forge 27 = .ok (.bipush 7, 2) := by decide +kernel
theorem dX9_forge_29 : decode cX9_forge 29 = .ok (.iload_n 1, 1) := by decide +kernel
theorem dX9_forge_30 : decode cX9_forge 30 = .ok (.imul, 1) := by decide +kernel
theorem dX9_forge_31 : decode cX9_forge 31 = .ok (.iload_n 2, 1) := by decide +kernel
theorem dX9_forge_32 : decode cX9_forge 32 = .ok (.iadd, 1) := by decide +kernel
theorem dX9_forge_33 : decode cX9_forge 33 = .ok (.lload_n 3, 1) := by decide +kernel
theorem dX9_forge_34 : decode cX9_forge 34 = .ok (.lastore, 1) := by decide +kernel
theorem dX9_forge_35 : decode cX9_forge 35 = .ok (.iconst 1, 1) := by decide +kernel
theorem dX9_forge_36 : decode cX9_forge 36 = .ok (.ireturn, 1) := by decide +kernel
theorem dX9_check_0 : decode cX9_check 0 = .ok (.aload_n 0, 1) := by decide +kernel
theorem dX9_check_1 : decode cX9_check 1 = .ok (.invokevirtual 239, 3) := by decide +kernel
theorem dX9_check_4 : decode cX9_check 4 = .ok (.iconst 0, 1) := by decide +kernel
theorem dX9_check_5 : decode cX9_check 5 = .ok (.istore_n 1, 1) := by decide +kernel
theorem dX9_check_6 : decode cX9_check 6 = .ok (.iload_n 1, 1) := by decide +kernel
theorem dX9_check_7 : decode cX9_check 7 = .ok (.aload_n 0, 1) := by decide +kernel
theorem dX9_check_8 : decode cX9_check 8 = .ok (.getfield 129, 3) := by decide +kernel
theorem dX9_check_11 : decode cX9_check 11 = .ok (.if_icmp .ge 95, 3) := by decide +kernel
theorem dX9_check_14 : decode cX9_check 14 = .ok (.aload_n 0, 1) := by decide +kernel
theorem dX9_check_15 : decode cX9_check 15 = .ok (.aload_n 0, 1) := by decide +kernel
theorem dX9_check_16 : decode cX9_check 16 = .ok (.getfield 45, 3) := by decide +kernel
theorem dX9_check_19 : decode cX9_check 19 = .ok (.bipush 7, 2) := by decide +kernel
theorem dX9_check_21 : decode cX9_check 21 = .ok (.iload_n 1, 1) := by decide +kernel
theorem dX9_check_22 : decode cX9_check 22 = .ok (.imul, 1) := by decide +kernel
theorem dX9_check_23 : decode cX9_check 23 = .ok (.laload, 1) := by decide +kernel
theorem dX9_check_24 : decode cX9_check 24 = .ok (.invokevirtual 225, 3) := by decide +kernel
theorem dX9_check_27 : decode cX9_check 27 = .ok (.ifCond .eq 27, 3) := by decide +kernel
theorem dX9_check_30 : decode cX9_check 30 = .ok (.aload_n 0, 1) := by decide +kernel
theorem dX9_check_31 : decode cX9_check 31 = .ok (.getfield 36, 3) := by decide +kernel
theorem dX9_check_34 : decode cX9_check 34 = .ok (.aload_n 0, 1) := by decide +kernel
theorem dX9_check_35 : decode cX9_check 35 = .ok (.getfield 211, 3) := by decide +kernel
theorem dX9_check_38 : decode cX9_check 38 = .ok (.laload, 1) := by decide +kernel
theorem dX9_check_39 : decode cX9_check 39 = .ok (.aload_n 0, 1) := by decide +kernel
theorem dX9_check_40 : decode cX9_check 40 = .ok (.getfield 45, 3) := by decide +kernel
theorem dX9_check_43 : decode cX9_check 43 = .ok (.bipush 7, 2) := by decide +kernel
theorem dX9_check_45 : decode cX9_check 45 = .ok (.iload_n 1, 1) := by decide +kernel
theorem dX9_check_46 : decode cX9_check 46 = .ok (.imul, 1) := by decide +kernel
theorem dX9_check_47 : decode cX9_check 47 = .ok (.iconst 1, 1) := by decide +kernel
theorem dX9_check_48 : decode cX9_check 48 = .ok (.iadd, 1) := by decide +kernel
theorem dX9_check_49 : decode cX9_check 49 = .ok (.laload, 1) := by decide +kernel
theorem dX9_check_50 : decode cX9_check 50 = .ok (.lcmp, 1) := by decide +kernel
theorem dX9_check_51 : decode cX9_check 51 = .ok (.ifCond .eq 5, 3) := by decide +kernel
theorem dX9_check_54 : decode cX9_check 54 = .ok (.iload_n 1, 1) := by decide +kernel
theorem dX9_check_55 : decode cX9_check 55 = .ok (.ireturn, 1) := by decide +kernel
theorem dX9_check_56 : decode cX9_check 56 = .ok (.iconst 0, 1) := by decide +kernel
theorem dX9_check_57 : decode cX9_check 57 = .ok (.istore_n 2, 1) := by decide +kernel
theorem dX9_check_58 : decode cX9_check 58 = .ok (.iload_n 2, 1) := by decide +kernel
theorem dX9_check_59 : decode cX9_check 59 = .ok (.aload_n 0, 1) := by decide +kernel
theorem dX9_check_60 : decode cX9_check 60 = .ok (.getfield 160, 3) := by decide +kernel
theorem dX9_check_63 : decode cX9_check 63 = .ok (.if_icmp .ge 37, 3) := by decide +kernel
theorem dX9_check_66 : decode cX9_check 66 = .ok (.aload_n 0, 1) := by decide +kernel
theorem dX9_check_67 : decode cX9_check 67 = .ok (.getfield 51, 3) := by decide +kernel
theorem dX9_check_70 : decode cX9_check 70 = .ok (.bipush 6, 2) := by decide +kernel
theorem dX9_check_72 : decode cX9_check 72 = .ok (.iload_n 2, 1) := by decide +kernel
theorem dX9_check_73 : decode cX9_check 73 = .ok (.imul, 1) := by decide +kernel
theorem dX9_check_74 : decode cX9_check 74 = .ok (.laload, 1) := by decide +kernel
theorem dX9_check_75 : decode cX9_check 75 = .ok (.aload_n 0, 1) := by decide +kernel
theorem dX9_check_76 : decode cX9_check 76 = .ok (.getfield 45, 3) := by decide +kernel
theorem dX9_check_79 : decode cX9_check 79 = .ok (.bipush 7, 2) := by decide +kernel
theorem dX9_check_81 : decode cX9_check 81 = .ok (.iload_n 1, 1) := by decide +kernel
theorem dX9_check_82 : decode cX9_check 82 = .ok (.imul, 1) := by decide +kernel
theorem dX9_check_83 : decode cX9_check 83 = .ok (.iconst 2, 1) := by decide +kernel
theorem dX9_check_84 : decode cX9_check 84 = .ok (.iadd, 1) := by decide +kernel
theorem dX9_check_85 : decode cX9_check 85 = .ok (.iload_n 2, 1) := by decide +kernel
theorem dX9_check_86 : decode cX9_check 86 = .ok (.iadd, 1) := by decide +kernel
theorem dX9_check_87 : decode cX9_check 87 = .ok (.laload, 1) := by decide +kernel
theorem dX9_check_88 : decode cX9_check 88 = .ok (.lcmp, 1) := by decide +kernel
theorem dX9_check_89 : decode cX9_check 89 = .ok (.ifCond .eq 5, 3) := by decide +kernel
theorem dX9_check_92 : decode cX9_check 92 = .ok (.iload_n 1, 1) := by decide +kernel
theorem dX9_check_93 : decode cX9_check 93 = .ok (.ireturn, 1) := by decide +kernel
theorem dX9_check_94 : decode cX9_check 94 = .ok (.iinc 2 1, 3) := by decide +kernel
theorem dX9_check_97 : decode cX9_check 97 = .ok (.goto (-39), 3) := by decide +kernel
theorem dX9_check_100 : decode cX9_check 100 = .ok (.iinc 1 1, 3) := by decide +kernel
theorem dX9_check_103 : decode cX9_check 103 = .ok (.goto (-97), 3) := by decide +kernel
theorem dX9_check_106 : decode cX9_check 106 = .ok (.iconst (-1), 1) := by decide +kernel
theorem dX9_check_107 : decode cX9_check 107 = .ok (.ireturn, 1) := by decide +kernel
theorem dX9_read_0 : decode cX9_read 0 = .ok (.iload_n 1, 1) := by decide +kernel
theorem dX9_read_1 : decode cX9_read 1 = .ok (.i2l, 1) := by decide +kernel
theorem dX9_read_2 : decode cX9_read 2 = .ok (.lconst 0, 1) := by decide +kernel
theorem dX9_read_3 : decode cX9_read 3 = .ok (.aload_n 0, 1) := by decide +kernel
theorem dX9_read_4 : decode cX9_read 4 = .ok (.getfield 129, 3) := by decide +kernel
theorem dX9_read_7 : decode cX9_read 7 = .ok (.iconst 1, 1) := by decide +kernel
theorem dX9_read_8 : decode cX9_read 8 = .ok (.isub, 1) := by decide +kernel
theorem dX9_read_9 : decode cX9_read 9 = .ok (.i2l, 1) := by decide +kernel
theorem dX9_read_10 : decode cX9_read 10 = .ok (.invokestatic 98, 3) := by decide +kernel
theorem dX9_read_13 : decode cX9_read 13 = .ok (.ifCond .ne 5, 3) := by decide +kernel
theorem dX9_read_16 : decode cX9_read 16 = .ok (.lconst 0, 1) := by decide +kernel
theorem dX9_read_17 : decode cX9_read 17 = .ok (.lreturn, 1) := by decide +kernel
theorem dX9_read_18 : decode cX9_read 18 = .ok (.lconst 0, 1) := by decide +kernel
theorem dX9_read_19 : decode cX9_read 19 = .ok (.lstore_n 2, 1) := by decide +kernel
theorem dX9_read_20 : decode cX9_read 20 = .ok (.iconst 0, 1) := by decide +kernel
theorem dX9_read_21 : decode cX9_read 21 = .ok (.istore 4, 2) := by decide +kernel
theorem dX9_read_23 : decode cX9_read 23 = .ok (.iload 4, 2) := by decide +kernel
theorem dX9_read_25 : decode cX9_read 25 = .ok (.bipush 8, 2) := by decide +kernel
theorem dX9_read_27 : decode cX9_read 27 = .ok (.if_icmp .ge 41, 3) := by decide +kernel
theorem dX9_read_30 : decode cX9_read 30 = .ok (.iload 4, 2) := by decide +kernel
theorem dX9_read_32 : decode cX9_read 32 = .ok (.iload_n 1, 1) := by decide +kernel
theorem dX9_read_33 : decode cX9_read 33 = .ok (.if_icmp .gt 35, 3) := by decide +kernel
theorem dX9_read_36 : decode cX9_read 36 = .ok (.lload_n 2, 1) := by decide +kernel
theorem dX9_read_37 : decode cX9_read 37 = .ok (.aload_n 0, 1) := by decide +kernel
theorem dX9_read_38 : decode cX9_read 38 = .ok (.getfield 57, 3) := by decide +kernel
theorem dX9_read_41 : decode cX9_read 41 = .ok (.iload 4, 2) := by decide +kernel
theorem dX9_read_43 : decode cX9_read 43 = .ok (.iaload, 1) := by decide +kernel
theorem dX9_read_44 : decode cX9_read 44 = .ok (.i2l, 1) := by decide +kernel
theorem dX9_read_45 : decode cX9_read 45 = .ok (.aload_n 0, 1) := by decide +kernel
theorem dX9_read_46 : decode cX9_read 46 = .ok (.getfield 45, 3) := by decide +kernel
theorem dX9_read_49 : decode cX9_read 49 = .ok (.bipush 7, 2) := by decide +kernel
theorem dX9_read_51 : decode cX9_read 51 = .ok (.iload_n 1, 1) := by decide +kernel
theorem dX9_read_52 : decode cX9_read 52 = .ok (.iload 4, 2) := by decide +kernel
theorem dX9_read_54 : decode cX9_read 54 = .ok (.isub, 1) := by decide +kernel
theorem dX9_read_55 : decode cX9_read 55 = .ok (.imul, 1) := by decide +kernel
theorem dX9_read_56 : decode cX9_read 56 = .ok (.iconst 1, 1) := by decide +kernel
theorem dX9_read_57 : decode cX9_read 57 = .ok (.iadd, 1) := by decide +kernel
theorem dX9_read_58 : decode cX9_read 58 = .ok (.laload, 1) := by decide +kernel
theorem dX9_read_59 : decode cX9_read 59 = .ok (.lmul, 1) := by decide +kernel
theorem dX9_read_60 : decode cX9_read 60 = .ok (.ladd, 1) := by decide +kernel
theorem dX9_read_61 : decode cX9_read 61 = .ok (.lstore_n 2, 1) := by decide +kernel
theorem dX9_read_62 : decode cX9_read 62 = .ok (.iinc 4 1, 3) := by decide +kernel
theorem dX9_read_65 : decode cX9_read 65 = .ok (.goto (-42), 3) := by decide +kernel
theorem dX9_read_68 : decode cX9_read 68 = .ok (.lload_n 2, 1) := by decide +kernel
theorem dX9_read_69 : decode cX9_read 69 = .ok (.lreturn, 1) := by decide +kernel
theorem dX9_weight_0 : decode cX9_weight 0 = .ok (.iload_n 1, 1) := by decide +kernel
theorem dX9_weight_1 : decode cX9_weight 1 = .ok (.i2l, 1) := by decide +kernel
theorem dX9_weight_2 : decode cX9_weight 2 = .ok (.lconst 0, 1) := by decide +kernel
theorem dX9_weight_3 : decode cX9_weight 3 = .ok (.ldc2_w 250, 3) := by decide +kernel
theorem dX9_weight_6 : decode cX9_weight 6 = .ok (.invokestatic 98, 3) := by decide +kernel
theorem dX9_weight_9 : decode cX9_weight 9 = .ok (.ifCond .ne 6, 3) := by decide +kernel
theorem dX9_weight_12 : decode cX9_weight 12 = .ok (.ldc 252, 2) := by decide +kernel
theorem dX9_weight_14 : decode cX9_weight 14 = .ok (.ireturn, 1) := by decide +kernel
theorem dX9_weight_15 : decode cX9_weight 15 = .ok (.aload_n 0, 1) := by decide +kernel
theorem dX9_weight_16 : decode cX9_weight 16 = .ok (.getfield 57, 3) := by decide +kernel
theorem dX9_weight_19 : decode cX9_weight 19 = .ok (.iload_n 1, 1) := by decide +kernel
theorem dX9_weight_20 : decode cX9_weight 20 = .ok (.iaload, 1) := by decide +kernel
theorem dX9_weight_21 : decode cX9_weight 21 = .ok (.istore_n 3, 1) := by decide +kernel
theorem dX9_weight_22 : decode cX9_weight 22 = .ok (.aload_n 0, 1) := by decide +kernel
theorem dX9_weight_23 : decode cX9_weight 23 = .ok (.getfield 57, 3) := by decide +kernel
theorem dX9_weight_26 : decode cX9_weight 26 = .ok (.iload_n 1, 1) := by decide +kernel
theorem dX9_weight_27 : decode cX9_weight 27 = .ok (.iload_n 2, 1) := by decide +kernel
theorem dX9_weight_28 : decode cX9_weight 28 = .ok (.iastore, 1) := by decide +kernel
theorem dX9_weight_29 : decode cX9_weight 29 = .ok (.iload_n 3, 1) := by decide +kernel
theorem dX9_weight_30 : decode cX9_weight 30 = .ok (.ireturn, 1) := by decide +kernel
theorem dX9_sums_0 : decode cX9_sums 0 = .ok (.iload_n 1, 1) := by decide +kernel
theorem dX9_sums_1 : decode cX9_sums 1 = .ok (.i2l, 1) := by decide +kernel
theorem dX9_sums_2 : decode cX9_sums 2 = .ok (.lconst 1, 1) := by decide +kernel
theorem dX9_sums_3 : decode cX9_sums 3 = .ok (.ldc2_w 253, 3) := by decide +kernel
theorem dX9_sums_6 : decode cX9_sums 6 = .ok (.invokestatic 98, 3) := by decide +kernel
theorem dX9_sums_9 : decode cX9_sums 9 = .ok (.ifCond .eq 19, 3) := by decide +kernel
theorem dX9_sums_12 : decode cX9_sums 12 = .ok (.iload_n 2, 1) := by decide +kernel
theorem dX9_sums_13 : decode cX9_sums 13 = .ok (.i2l, 1) := by decide +kernel
theorem dX9_sums_14 : decode cX9_sums 14 = .ok (.lconst 0, 1) := by decide +kernel
theorem dX9_sums_15 : decode cX9_sums 15 = .ok (.aload_n 0, 1) := by decide +kernel
theorem dX9_sums_16 : decode cX9_sums 16 = .ok (.getfield 129, 3) := by decide +kernel
theorem dX9_sums_19 : decode cX9_sums 19 = .ok (.iconst 1, 1) := by decide +kernel
theorem dX9_sums_20 : decode cX9_sums 20 = .ok (.isub, 1) := by decide +kernel
theorem dX9_sums_21 : decode cX9_sums 21 = .ok (.i2l, 1) := by decide +kernel
theorem dX9_sums_22 : decode cX9_sums 22 = .ok (.invokestatic 98, 3) := by decide +kernel
theorem dX9_sums_25 : decode cX9_sums 25 = .ok (.ifCond .ne 5, 3) := by decide +kernel
theorem dX9_sums_28 : decode cX9_sums 28 = .ok (.lconst 0, 1) := by decide +kernel
theorem dX9_sums_29 : decode cX9_sums 29 = .ok (.lreturn, 1) := by decide +kernel
theorem dX9_sums_30 : decode cX9_sums 30 = .ok (.iconst 0, 1) := by decide +kernel
theorem dX9_sums_31 : decode cX9_sums 31 = .ok (.istore_n 3, 1) := by decide +kernel
theorem dX9_sums_32 : decode cX9_sums 32 = .ok (.iload_n 3, 1) := by decide +kernel
theorem dX9_sums_33 : decode cX9_sums 33 = .ok (.iconst 5, 1) := by decide +kernel
theorem dX9_sums_34 : decode cX9_sums 34 = .ok (.if_icmp .ge 16, 3) := by decide +kernel
theorem dX9_sums_37 : decode cX9_sums 37 = .ok (.aload_n 0, 1) := by decide +kernel
theorem dX9_sums_38 : decode cX9_sums 38 = .ok (.getfield 60, 3) := by decide +kernel
theorem dX9_sums_41 : decode cX9_sums 41 = .ok (.iload_n 3, 1) := by decide +kernel
theorem dX9_sums_42 : decode cX9_sums 42 = .ok (.lconst 0, 1) := by decide +kernel
theorem dX9_sums_43 : decode cX9_sums 43 = .ok (.lastore, 1) := by decide +kernel
theorem dX9_sums_44 : decode cX9_sums 44 = .ok (.iinc 3 1, 3) := by decide +kernel
theorem dX9_sums_47 : decode cX9_sums 47 = .ok (.goto (-15), 3) := by decide +kernel
theorem dX9_sums_50 : decode cX9_sums 50 = .ok (.iconst 0, 1) := by decide +kernel
theorem dX9_sums_51 : decode cX9_sums 51 = .ok (.istore_n 3, 1) := by decide +kernel
theorem dX9_sums_52 : decode cX9_sums 52 = .ok (.iload_n 3, 1) := by decide +kernel
theorem dX9_sums_53 : decode cX9_sums 53 = .ok (.iload_n 2, 1) := by decide +kernel
theorem dX9_sums_54 : decode cX9_sums 54 = .ok (.if_icmp .gt 60, 3) := by decide +kernel
theorem dX9_sums_57 : decode cX9_sums 57 = .ok (.aload_n 0, 1) := by decide +kernel
theorem dX9_sums_58 : decode cX9_sums 58 = .ok (.getfield 60, 3) := by decide +kernel
theorem dX9_sums_61 : decode cX9_sums 61 = .ok (.iconst 0, 1) := by decide +kernel
theorem dX9_sums_62 : decode cX9_sums 62 = .ok (.aload_n 0, 1) := by decide +kernel
theorem dX9_sums_63 : decode cX9_sums 63 = .ok (.getfield 45, 3) := by decide +kernel
theorem dX9_sums_66 : decode cX9_sums 66 = .ok (.bipush 7, 2) := by decide +kernel
theorem dX9_sums_68 : decode cX9_sums 68 = .ok (.iload_n 3, 1) := by decide +kernel
theorem dX9_sums_69 : decode cX9_sums 69 = .ok (.imul, 1) := by decide +kernel
theorem dX9_sums_70 : decode cX9_sums 70 = .ok (.iconst 1, 1) := by decide +kernel
theorem dX9_sums_71 : decode cX9_sums 71 = .ok (.iadd, 1) := by decide +kernel
theorem dX9_sums_72 : decode cX9_sums 72 = .ok (.laload, 1) := by decide +kernel
theorem dX9_sums_73 : decode cX9_sums 73 = .ok (.lastore, 1) := by decide +kernel
theorem dX9_sums_74 : decode cX9_sums 74 = .ok (.iconst 1, 1) := by decide +kernel
theorem dX9_sums_75 : decode cX9_sums 75 = .ok (.istore 4, 2) := by decide +kernel
theorem dX9_sums_77 : decode cX9_sums 77 = .ok (.iload 4, 2) := by decide +kernel
theorem dX9_sums_79 : decode cX9_sums 79 = .ok (.iload_n 1, 1) := by decide +kernel
theorem dX9_sums_80 : decode cX9_sums 80 = .ok (.if_icmp .gt 28, 3) := by decide +kernel
theorem dX9_sums_83 : decode cX9_sums 83 = .ok (.aload_n 0, 1) := by decide +kernel
theorem dX9_sums_84 : decode cX9_sums 84 = .ok (.getfield 60, 3) := by decide +kernel
theorem dX9_sums_87 : decode cX9_sums 87 = .ok (.iload 4, 2) := by decide +kernel
theorem dX9_sums_89 : decode cX9_sums 89 = .ok (.dup2, 1) := by decide +kernel
theorem dX9_sums_90 : decode cX9_sums 90 = .ok (.laload, 1) := by decide +kernel
theorem dX9_sums_91 : decode cX9_sums 91 = .ok (.aload_n 0, 1) := by decide +kernel
theorem dX9_sums_92 : decode cX9_sums 92 = .ok (.getfield 60, 3) := by decide +kernel
theorem dX9_sums_95 : decode cX9_sums 95 = .ok (.iload 4, 2) := by decide +kernel
theorem dX9_sums_97 : decode cX9_sums 97 = .ok (.iconst 1, 1) := by decide +kernel
theorem dX9_sums_98 : decode cX9_sums 98 = .ok (.isub, 1) := by decide +kernel
theorem dX9_sums_99 : decode cX9_sums 99 = .ok (.laload, 1) := by decide +kernel
theorem dX9_sums_100 : decode cX9_sums 100 = .ok (.ladd, 1) := by decide +kernel
theorem dX9_sums_101 : decode cX9_sums 101 = .ok (.lastore, 1) := by decide +kernel
theorem dX9_sums_102 : decode cX9_sums 102 = .ok (.iinc 4 1, 3) := by decide +kernel
theorem dX9_sums_105 : decode cX9_sums 105 = .ok (.goto (-28), 3) := by decide +kernel
theorem dX9_sums_108 : decode cX9_sums 108 = .ok (.iinc 3 1, 3) := by decide +kernel
theorem dX9_sums_111 : decode cX9_sums 111 = .ok (.goto (-59), 3) := by decide +kernel
theorem dX9_sums_114 : decode cX9_sums 114 = .ok (.aload_n 0, 1) := by decide +kernel
theorem dX9_sums_115 : decode cX9_sums 115 = .ok (.getfield 60, 3) := by decide +kernel
theorem dX9_sums_118 : decode cX9_sums 118 = .ok (.iload_n 1, 1) := by decide +kernel
theorem dX9_sums_119 : decode cX9_sums 119 = .ok (.laload, 1) := by decide +kernel
theorem dX9_sums_120 : decode cX9_sums 120 = .ok (.lreturn, 1) := by decide +kernel
theorem dX9_trace_0 : decode cX9_trace 0 = .ok (.iload_n 1, 1) := by decide +kernel
theorem dX9_trace_1 : decode cX9_trace 1 = .ok (.i2l, 1) := by decide +kernel
theorem dX9_trace_2 : decode cX9_trace 2 = .ok (.lconst 0, 1) := by decide +kernel
theorem dX9_trace_3 : decode cX9_trace 3 = .ok (.aload_n 0, 1) := by decide +kernel
theorem dX9_trace_4 : decode cX9_trace 4 = .ok (.getfield 231, 3) := by decide +kernel
theorem dX9_trace_7 : decode cX9_trace 7 = .ok (.iconst 1, 1) := by decide +kernel
theorem dX9_trace_8 : decode cX9_trace 8 = .ok (.isub, 1) := by decide +kernel
theorem dX9_trace_9 : decode cX9_trace 9 = .ok (.i2l, 1) := by decide +kernel
theorem dX9_trace_10 : decode cX9_trace 10 = .ok (.invokestatic 98, 3) := by decide +kernel
theorem dX9_trace_13 : decode cX9_trace 13 = .ok (.ifCond .eq 12, 3) := by decide +kernel
theorem dX9_trace_16 : decode cX9_trace 16 = .ok (.aload_n 0, 1) := by decide +kernel
theorem dX9_trace_17 : decode cX9_trace 17 = .ok (.getfield 48, 3) := by decide +kernel
theorem dX9_trace_20 : decode cX9_trace 20 = .ok (.iload_n 1, 1) := by decide +kernel
theorem dX9_trace_21 : decode cX9_trace 21 = .ok (.iaload, 1) := by decide +kernel
theorem dX9_trace_22 : decode cX9_trace 22 = .ok (.goto 4, 3) := by decide +kernel
theorem dX9_trace_25 : decode cX9_trace 25 = .ok (.iconst (-1), 1) := by decide +kernel
theorem dX9_trace_26 : decode cX9_trace 26 = .ok (.ireturn, 1) := by decide +kernel
theorem dX9_stands_0 : decode cX9_stands 0 = .ok (.iconst 0, 1) := by decide +kernel
theorem dX9_stands_1 : decode cX9_stands 1 = .ok (.istore_n 2, 1) := by decide +kernel
theorem dX9_stands_2 : decode cX9_stands 2 = .ok (.iload_n 2, 1) := by decide +kernel
theorem dX9_stands_3 : decode cX9_stands 3 = .ok (.iconst 5, 1) := by decide +kernel
theorem dX9_stands_4 : decode cX9_stands 4 = .ok (.if_icmp .ge 81, 3) := by decide +kernel
theorem dX9_stands_7 : decode cX9_stands 7 = .ok (.aload_n 0, 1) := by decide +kernel
theorem dX9_stands_8 : decode cX9_stands 8 = .ok (.getfield 63, 3) := by decide +kernel
theorem dX9_stands_11 : decode cX9_stands 11 = .ok (.bipush 12, 2) := by decide +kernel
theorem dX9_stands_13 : decode cX9_stands 13 = .ok (.iload_n 1, 1) := by decide +kernel
theorem dX9_stands_14 : decode cX9_stands 14 = .ok (.imul, 1) := by decide +kernel
theorem dX9_stands_15 : decode cX9_stands 15 = .ok (.iconst 2, 1) := by decide +kernel
theorem dX9_stands_16 : decode cX9_stands 16 = .ok (.iload_n 2, 1) := by decide +kernel
theorem dX9_stands_17 : decode cX9_stands 17 = .ok (.imul, 1) := by decide +kernel
theorem dX9_stands_18 : decode cX9_stands 18 = .ok (.iadd, 1) := by decide +kernel
theorem dX9_stands_19 : decode cX9_stands 19 = .ok (.iload_n 2, 1) := by decide +kernel
theorem dX9_stands_20 : decode cX9_stands 20 = .ok (.aload_n 0, 1) := by decide +kernel
theorem dX9_stands_21 : decode cX9_stands 21 = .ok (.getfield 160, 3) := by decide +kernel
theorem dX9_stands_24 : decode cX9_stands 24 = .ok (.if_icmp .ge 15, 3) := by decide +kernel
theorem dX9_stands_27 : decode cX9_stands 27 = .ok (.aload_n 0, 1) := by decide +kernel
theorem dX9_stands_28 : decode cX9_stands 28 = .ok (.getfield 51, 3) := by decide +kernel
theorem dX9_stands_31 : decode cX9_stands 31 = .ok (.bipush 6, 2) := by decide +kernel
theorem dX9_stands_33 : decode cX9_stands 33 = .ok (.iload_n 2, 1) := by decide +kernel
theorem dX9_stands_34 : decode cX9_stands 34 = .ok (.imul, 1) := by decide +kernel
theorem dX9_stands_35 : decode cX9_stands 35 = .ok (.laload, 1) := by decide +kernel
theorem dX9_stands_36 : decode cX9_stands 36 = .ok (.goto 4, 3) := by decide +kernel
theorem dX9_stands_39 : decode cX9_stands 39 = .ok (.lconst 0, 1) := by decide +kernel
theorem dX9_stands_40 : decode cX9_stands 40 = .ok (.lastore, 1) := by decide +kernel
theorem dX9_stands_41 : decode cX9_stands 41 = .ok (.aload_n 0, 1) := by decide +kernel
theorem dX9_stands_42 : decode cX9_stands 42 = .ok (.getfield 63, 3) := by decide +kernel
theorem dX9_stands_45 : decode cX9_stands 45 = .ok (.bipush 12, 2) := by decide +kernel
theorem dX9_stands_47 : decode cX9_stands 47 = .ok (.iload_n 1, 1) := by decide +kernel
theorem dX9_stands_48 : decode cX9_stands 48 = .ok (.imul, 1) := by decide +kernel
theorem dX9_stands_49 : decode cX9_stands 49 = .ok (.iconst 2, 1) := by decide +kernel
theorem dX9_stands_50 : decode cX9_stands 50 = .ok (.iload_n 2, 1) := by decide +kernel
theorem dX9_stands_51 : decode cX9_stands 51 = .ok (.imul, 1) := by decide +kernel
theorem dX9_stands_52 : decode cX9_stands 52 = .ok (.iadd, 1) := by decide +kernel
theorem dX9_stands_53 : decode cX9_stands 53 = .ok (.iconst 1, 1) := by decide +kernel
theorem dX9_stands_54 : decode cX9_stands 54 = .ok (.iadd, 1) := by decide +kernel
theorem dX9_stands_55 : decode cX9_stands 55 = .ok (.iload_n 2, 1) := by decide +kernel
theorem dX9_stands_56 : decode cX9_stands 56 = .ok (.aload_n 0, 1) := by decide +kernel
theorem dX9_stands_57 : decode cX9_stands 57 = .ok (.getfield 160, 3) := by decide +kernel
theorem dX9_stands_60 : decode cX9_stands 60 = .ok (.if_icmp .ge 17, 3) := by decide +kernel
theorem dX9_stands_63 : decode cX9_stands 63 = .ok (.aload_n 0, 1) := by decide +kernel
theorem dX9_stands_64 : decode cX9_stands 64 = .ok (.getfield 51, 3) := by decide +kernel
theorem dX9_stands_67 : decode cX9_stands 67 = .ok (.bipush 6, 2) := by decide +kernel
theorem dX9_stands_69 : decode cX9_stands 69 = .ok (.iload_n 2, 1) := by decide +kernel
theorem dX9_stands_70 : decode cX9_stands 70 = .ok (.imul, 1) := by decide +kernel
theorem dX9_stands_71 : decode cX9_stands 71 = .ok (.iconst 1, 1) := by decide +kernel
theorem dX9_stands_72 : decode cX9_stands 72 = .ok (.iadd, 1) := by decide +kernel
theorem dX9_stands_73 : decode cX9_stands 73 = .ok (.laload, 1) := by decide +kernel
theorem dX9_stands_74 : decode cX9_stands 74 = .ok (.goto 4, 3) := by decide +kernel
theorem dX9_stands_77 : decode cX9_stands 77 = .ok (.lconst 0, 1) := by decide +kernel
theorem dX9_stands_78 : decode cX9_stands 78 = .ok (.lastore, 1) := by decide +kernel
theorem dX9_stands_79 : decode cX9_stands 79 = .ok (.iinc 2 1, 3) := by decide +kernel
theorem dX9_stands_82 : decode cX9_stands 82 = .ok (.goto (-80), 3) := by decide +kernel
theorem dX9_stands_85 : decode cX9_stands 85 = .ok (.aload_n 0, 1) := by decide +kernel
theorem dX9_stands_86 : decode cX9_stands 86 = .ok (.getfield 63, 3) := by decide +kernel
theorem dX9_stands_89 : decode cX9_stands 89 = .ok (.bipush 12, 2) := by decide +kernel
theorem dX9_stands_91 : decode cX9_stands 91 = .ok (.iload_n 1, 1) := by decide +kernel
theorem dX9_stands_92 : decode cX9_stands 92 = .ok (.imul, 1) := by decide +kernel
theorem dX9_stands_93 : decode cX9_stands 93 = .ok (.bipush 10, 2) := by decide +kernel
theorem dX9_stands_95 : decode cX9_stands 95 = .ok (.iadd, 1) := by decide +kernel
theorem dX9_stands_96 : decode cX9_stands 96 = .ok (.aload_n 0, 1) := by decide +kernel
theorem dX9_stands_97 : decode cX9_stands 97 = .ok (.getfield 173, 3) := by decide +kernel
theorem dX9_stands_100 : decode cX9_stands 100 = .ok (.ifCond .le 10, 3) := by decide +kernel
theorem dX9_stands_103 : decode cX9_stands 103 = .ok (.aload_n 0, 1) := by decide +kernel
theorem dX9_stands_104 : decode cX9_stands 104 = .ok (.getfield 183, 3) := by decide +kernel
theorem dX9_stands_107 : decode cX9_stands 107 = .ok (.goto 4, 3) := by decide +kernel
theorem dX9_stands_110 : decode cX9_stands 110 = .ok (.lconst 0, 1) := by decide +kernel
theorem dX9_stands_111 : decode cX9_stands 111 = .ok (.lastore, 1) := by decide +kernel
theorem dX9_stands_112 : decode cX9_stands 112 = .ok (.aload_n 0, 1) := by decide +kernel
theorem dX9_stands_113 : decode cX9_stands 113 = .ok (.getfield 63, 3) := by decide +kernel
theorem dX9_stands_116 : decode cX9_stands 116 = .ok (.bipush 12, 2) := by decide +kernel
theorem dX9_stands_118 : decode cX9_stands 118 = .ok (.iload_n 1, 1) := by decide +kernel
theorem dX9_stands_119 : decode cX9_stands 119 = .ok (.imul, 1) := by decide +kernel
theorem dX9_stands_120 : decode cX9_stands 120 = .ok (.bipush 11, 2) := by decide +kernel
theorem dX9_stands_122 : decode cX9_stands 122 = .ok (.iadd, 1) := by decide +kernel
theorem dX9_stands_123 : decode cX9_stands 123 = .ok (.iload_n 1, 1) := by decide +kernel
theorem dX9_stands_124 : decode cX9_stands 124 = .ok (.ifCond .le 15, 3) := by decide +kernel
theorem dX9_stands_127 : decode cX9_stands 127 = .ok (.aload_n 0, 1) := by decide +kernel
theorem dX9_stands_128 : decode cX9_stands 128 = .ok (.getfield 36, 3) := by decide +kernel
theorem dX9_stands_131 : decode cX9_stands 131 = .ok (.aload_n 0, 1) := by decide +kernel
theorem dX9_stands_132 : decode cX9_stands 132 = .ok (.getfield 211, 3) := by decide +kernel
theorem dX9_stands_135 : decode cX9_stands 135 = .ok (.laload, 1) := by decide +kernel
theorem dX9_stands_136 : decode cX9_stands 136 = .ok (.goto 4, 3) := by decide +kernel
theorem dX9_stands_139 : decode cX9_stands 139 = .ok (.lconst 0, 1) := by decide +kernel
theorem dX9_stands_140 : decode cX9_stands 140 = .ok (.lastore, 1) := by decide +kernel
theorem dX9_stands_141 : decode cX9_stands 141 = .ok (.return_, 1) := by decide +kernel
theorem dX9_isAlike_0 : decode cX9_isAlike 0 = .ok (.iconst 1, 1) := by decide +kernel
theorem dX9_isAlike_1 : decode cX9_isAlike 1 = .ok (.istore_n 3, 1) := by decide +kernel
theorem dX9_isAlike_2 : decode cX9_isAlike 2 = .ok (.iconst 0, 1) := by decide +kernel
theorem dX9_isAlike_3 : decode cX9_isAlike 3 = .ok (.istore 4, 2) := by decide +kernel
theorem dX9_isAlike_5 : decode cX9_isAlike 5 = .ok (.iload 4, 2) := by decide +kernel
theorem dX9_isAlike_7 : decode cX9_isAlike 7 = .ok (.bipush 11, 2) := by decide +kernel
theorem dX9_isAlike_9 : decode cX9_isAlike 9 = .ok (.if_icmp .ge 45, 3) := by decide +kernel
theorem dX9_isAlike_12 : decode cX9_isAlike 12 = .ok (.iload_n 3, 1) := by decide +kernel
theorem dX9_isAlike_13 : decode cX9_isAlike 13 = .ok (.aload_n 0, 1) := by decide +kernel
theorem dX9_isAlike_14 : decode cX9_isAlike 14 = .ok (.getfield 63, 3) := by decide +kernel
theorem dX9_isAlike_17 : decode cX9_isAlike 17 = .ok (.bipush 12, 2) := by decide +kernel
theorem dX9_isAlike_19 : decode cX9_isAlike 19 = .ok (.iload_n 1, 1) := by decide +kernel
theorem dX9_isAlike_20 : decode cX9_isAlike 20 = .ok (.imul, 1) := by decide +kernel
theorem dX9_isAlike_21 : decode cX9_isAlike 21 = .ok (.iload 4, 2) := by decide +kernel
theorem dX9_isAlike_23 : decode cX9_isAlike 23 = .ok (.iadd, 1) := by decide +kernel
theorem dX9_isAlike_24 : decode cX9_isAlike 24 = .ok (.laload, 1) := by decide +kernel
theorem dX9_isAlike_25 : decode cX9_isAlike 25 = .ok (.aload_n 0, 1) := by decide +kernel
theorem dX9_isAlike_26 : decode cX9_isAlike 26 = .ok (.getfield 63, 3) := by decide +kernel
theorem dX9_isAlike_29 : decode cX9_isAlike 29 = .ok (.bipush 12, 2) := by decide +kernel
theorem dX9_isAlike_31 : decode cX9_isAlike 31 = .ok (.iload_n 2, 1) := by decide +kernel
theorem dX9_isAlike_32 : decode cX9_isAlike 32 = .ok (.imul, 1) := by decide +kernel
theorem dX9_isAlike_33 : decode cX9_isAlike 33 = .ok (.iload 4, 2) := by decide +kernel
theorem dX9_isAlike_35 : decode cX9_isAlike 35 = .ok (.iadd, 1) := by decide +kernel
theorem dX9_isAlike_36 : decode cX9_isAlike 36 = .ok (.laload, 1) := by decide +kernel
theorem dX9_isAlike_37 : decode cX9_isAlike 37 = .ok (.lcmp, 1) := by decide +kernel
theorem dX9_isAlike_38 : decode cX9_isAlike 38 = .ok (.ifCond .ne 7, 3) := by decide +kernel
theorem dX9_isAlike_41 : decode cX9_isAlike 41 = .ok (.iconst 1, 1) := by decide +kernel
theorem dX9_isAlike_42 : decode cX9_isAlike 42 = .ok (.goto 4, 3) := by decide +kernel
theorem dX9_isAlike_45 : decode cX9_isAlike 45 = .ok (.iconst 0, 1) := by decide +kernel
theorem dX9_isAlike_46 : decode cX9_isAlike 46 = .ok (.iand, 1) := by decide +kernel
theorem dX9_isAlike_47 : decode cX9_isAlike 47 = .ok (.istore_n 3, 1) := by decide +kernel
theorem dX9_isAlike_48 : decode cX9_isAlike 48 = .ok (.iinc 4 1, 3) := by decide +kernel
theorem dX9_isAlike_51 : decode cX9_isAlike 51 = .ok (.goto (-46), 3) := by decide +kernel
theorem dX9_isAlike_54 : decode cX9_isAlike 54 = .ok (.iload_n 3, 1) := by decide +kernel
theorem dX9_isAlike_55 : decode cX9_isAlike 55 = .ok (.ireturn, 1) := by decide +kernel
theorem dX9_hold_0 : decode cX9_hold 0 = .ok (.lload_n 1, 1) := by decide +kernel
theorem dX9_hold_1 : decode cX9_hold 1 = .ok (.invokestatic 167, 3) := by decide +kernel
theorem dX9_hold_4 : decode cX9_hold 4 = .ok (.ifCond .eq 15, 3) := by decide +kernel
theorem dX9_hold_7 : decode cX9_hold 7 = .ok (.iload_n 3, 1) := by decide +kernel
theorem dX9_hold_8 : decode cX9_hold 8 = .ok (.i2l, 1) := by decide +kernel
theorem dX9_hold_9 : decode cX9_hold 9 = .ok (.lconst 1, 1) := by decide +kernel
theorem dX9_hold_10 : decode cX9_hold 10 = .ok (.ldc2_w 255, 3) := by decide +kernel
theorem dX9_hold_13 : decode cX9_hold 13 = .ok (.invokestatic 98, 3) := by decide +kernel
theorem dX9_hold_16 : decode cX9_hold 16 = .ok (.ifCond .ne 6, 3) := by decide +kernel
theorem dX9_hold_19 : decode cX9_hold 19 = .ok (.bipush (-2), 2) := by decide +kernel
theorem dX9_hold_21 : decode cX9_hold 21 = .ok (.ireturn, 1) := by decide +kernel
theorem dX9_hold_22 : decode cX9_hold 22 = .ok (.aload_n 0, 1) := by decide +kernel
theorem dX9_hold_23 : decode cX9_hold 23 = .ok (.invokevirtual 222, 3) := by decide +kernel
theorem dX9_hold_26 : decode cX9_hold 26 = .ok (.aload_n 0, 1) := by decide +kernel
theorem dX9_hold_27 : decode cX9_hold 27 = .ok (.iconst 0, 1) := by decide +kernel
theorem dX9_hold_28 : decode cX9_hold 28 = .ok (.invokevirtual 257, 3) := by decide +kernel
theorem dX9_hold_31 : decode cX9_hold 31 = .ok (.iconst 1, 1) := by decide +kernel
theorem dX9_hold_32 : decode cX9_hold 32 = .ok (.istore 4, 2) := by decide +kernel
theorem dX9_hold_34 : decode cX9_hold 34 = .ok (.iload 4, 2) := by decide +kernel
theorem dX9_hold_36 : decode cX9_hold 36 = .ok (.iload_n 3, 1) := by decide +kernel
theorem dX9_hold_37 : decode cX9_hold 37 = .ok (.if_icmp .gt 125, 3) := by decide +kernel
theorem dX9_hold_40 : decode cX9_hold 40 = .ok (.aload_n 0, 1) := by decide +kernel
theorem dX9_hold_41 : decode cX9_hold 41 = .ok (.lload_n 1, 1) := by decide +kernel
theorem dX9_hold_42 : decode cX9_hold 42 = .ok (.invokevirtual 225, 3) := by decide +kernel
theorem dX9_hold_45 : decode cX9_hold 45 = .ok (.ifCond .ne 6, 3) := by decide +kernel
theorem dX9_hold_48 : decode cX9_hold 48 = .ok (.bipush (-6), 2) := by decide +kernel
theorem dX9_hold_50 : decode cX9_hold 50 = .ok (.ireturn, 1) := by decide +kernel
theorem dX9_hold_51 : decode cX9_hold 51 = .ok (.aload_n 0, 1) := by decide +kernel
theorem dX9_hold_52 : decode cX9_hold 52 = .ok (.iload 4, 2) := by decide +kernel
theorem dX9_hold_54 : decode cX9_hold 54 = .ok (.invokevirtual 257, 3) := by decide +kernel
theorem dX9_hold_57 : decode cX9_hold 57 = .ok (.iconst 0, 1) := by decide +kernel
theorem dX9_hold_58 : decode cX9_hold 58 = .ok (.istore 5, 2) := by decide +kernel
theorem dX9_hold_60 : decode cX9_hold 60 = .ok (.iload 5, 2) := by decide +kernel
theorem dX9_hold_62 : decode cX9_hold 62 = .ok (.iload 4, 2) := by decide +kernel
theorem dX9_hold_64 : decode cX9_hold 64 = .ok (.if_icmp .ge 92, 3) := by decide +kernel
theorem dX9_hold_67 : decode cX9_hold 67 = .ok (.aload_n 0, 1) := by decide +kernel
theorem dX9_hold_68 : decode cX9_hold 68 = .ok (.iload 5, 2) := by decide +kernel
theorem dX9_hold_70 : decode cX9_hold 70 = .ok (.iload 4, 2) := by decide +kernel
theorem dX9_hold_72 : decode cX9_hold 72 = .ok (.invokevirtual 260, 3) := by decide +kernel
theorem dX9_hold_75 : decode cX9_hold 75 = .ok (.ifCond .eq 75, 3) := by decide +kernel
theorem dX9_hold_78 : decode cX9_hold 78 = .ok (.aload_n 0, 1) := by decide +kernel
theorem dX9_hold_79 : decode cX9_hold 79 = .ok (.getfield 66, 3) := by decide +kernel
theorem dX9_hold_82 : decode cX9_hold 82 = .ok (.iconst 0, 1) := by decide +kernel
theorem dX9_hold_83 : decode cX9_hold 83 = .ok (.iload 5, 2) := by decide +kernel
theorem dX9_hold_85 : decode cX9_hold 85 = .ok (.i2l, 1) := by decide +kernel
theorem dX9_hold_86 : decode cX9_hold 86 = .ok (.lastore, 1) := by decide +kernel
theorem dX9_hold_87 : decode cX9_hold 87 = .ok (.aload_n 0, 1) := by decide +kernel
theorem dX9_hold_88 : decode cX9_hold 88 = .ok (.getfield 66, 3) := by decide +kernel
theorem dX9_hold_91 : decode cX9_hold 91 = .ok (.iconst 1, 1) := by decide +kernel
theorem dX9_hold_92 : decode cX9_hold 92 = .ok (.iload 4, 2) := by decide +kernel
theorem dX9_hold_94 : decode cX9_hold 94 = .ok (.iload 5, 2) := by decide +kernel
theorem dX9_hold_96 : decode cX9_hold 96 = .ok (.isub, 1) := by decide +kernel
theorem dX9_hold_97 : decode cX9_hold 97 = .ok (.i2l, 1) := by decide +kernel
theorem dX9_hold_98 : decode cX9_hold 98 = .ok (.lastore, 1) := by decide +kernel
theorem dX9_hold_99 : decode cX9_hold 99 = .ok (.aload_n 0, 1) := by decide +kernel
theorem dX9_hold_100 : decode cX9_hold 100 = .ok (.getfield 66, 3) := by decide +kernel
theorem dX9_hold_103 : decode cX9_hold 103 = .ok (.iconst 2, 1) := by decide +kernel
theorem dX9_hold_104 : decode cX9_hold 104 = .ok (.lconst 0, 1) := by decide +kernel
theorem dX9_hold_105 : decode cX9_hold 105 = .ok (.lastore, 1) := by decide +kernel
theorem dX9_hold_106 : decode cX9_hold 106 = .ok (.iload 5, 2) := by decide +kernel
theorem dX9_hold_108 : decode cX9_hold 108 = .ok (.iconst 1, 1) := by decide +kernel
theorem dX9_hold_109 : decode cX9_hold 109 = .ok (.iadd, 1) := by decide +kernel
theorem dX9_hold_110 : decode cX9_hold 110 = .ok (.istore 6, 2) := by decide +kernel
theorem dX9_hold_112 : decode cX9_hold 112 = .ok (.iload 6, 2) := by decide +kernel
theorem dX9_hold_114 : decode cX9_hold 114 = .ok (.iload 4, 2) := by decide +kernel
theorem dX9_hold_116 : decode cX9_hold 116 = .ok (.if_icmp .gt 31, 3) := by decide +kernel
theorem dX9_hold_119 : decode cX9_hold 119 = .ok (.aload_n 0, 1) := by decide +kernel
theorem dX9_hold_120 : decode cX9_hold 120 = .ok (.getfield 66, 3) := by decide +kernel
theorem dX9_hold_123 : decode cX9_hold 123 = .ok (.iconst 2, 1) := by decide +kernel
theorem dX9_hold_124 : decode cX9_hold 124 = .ok (.dup2, 1) := by decide +kernel
theorem dX9_hold_125 : decode cX9_hold 125 = .ok (.laload, 1) := by decide +kernel
theorem dX9_hold_126 : decode cX9_hold 126 = .ok (.aload_n 0, 1) := by decide +kernel
theorem dX9_hold_127 : decode cX9_hold 127 = .ok (.getfield 63, 3) := by decide +kernel
theorem dX9_hold_130 : decode cX9_hold 130 = .ok (.bipush 12, 2) := by decide +kernel
theorem dX9_hold_132 : decode cX9_hold 132 = .ok (.iload 6, 2) := by decide +kernel
theorem dX9_hold_134 : decode cX9_hold 134 = .ok (.imul, 1) := by decide +kernel
theorem dX9_hold_135 : decode cX9_hold 135 = .ok (.bipush 11, 2) := by decide +kernel
theorem dX9_hold_137 : decode cX9_hold 137 = .ok (.iadd, 1) := by decide +kernel
theorem dX9_hold_138 : decode cX9_hold 138 = .ok (.laload, 1) := by decide +kernel
theorem dX9_hold_139 : decode cX9_hold 139 = .ok (.ladd, 1) := by decide +kernel
theorem dX9_hold_140 : decode cX9_hold 140 = .ok (.lastore, 1) := by decide +kernel
theorem dX9_hold_141 : decode cX9_hold 141 = .ok (.iinc 6 1, 3) := by decide +kernel
theorem dX9_hold_144 : decode cX9_hold 144 = .ok (.goto (-32), 3) := by decide +kernel
theorem dX9_hold_147 : decode cX9_hold 147 = .ok (.iload 5, 2) := by decide +kernel
theorem dX9_hold_149 : decode cX9_hold 149 = .ok (.ireturn, 1) := by decide +kernel
theorem dX9_hold_150 : decode cX9_hold 150 = .ok (.iinc 5 1, 3) := by decide +kernel
theorem dX9_hold_153 : decode cX9_hold 153 = .ok (.goto (-93), 3) := by decide +kernel
theorem dX9_hold_156 : decode cX9_hold 156 = .ok (.iinc 4 1, 3) := by decide +kernel
theorem dX9_hold_159 : decode cX9_hold 159 = .ok (.goto (-125), 3) := by decide +kernel
theorem dX9_hold_162 : decode cX9_hold 162 = .ok (.bipush (-5), 2) := by decide +kernel
theorem dX9_hold_164 : decode cX9_hold 164 = .ok (.ireturn, 1) := by decide +kernel
theorem dX9_held_0 : decode cX9_held 0 = .ok (.iload_n 1, 1) := by decide +kernel
theorem dX9_held_1 : decode cX9_held 1 = .ok (.i2l, 1) := by decide +kernel
theorem dX9_held_2 : decode cX9_held 2 = .ok (.lconst 0, 1) := by decide +kernel
theorem dX9_held_3 : decode cX9_held 3 = .ok (.ldc2_w 163, 3) := by decide +kernel
theorem dX9_held_6 : decode cX9_held 6 = .ok (.invokestatic 98, 3) := by decide +kernel
theorem dX9_held_9 : decode cX9_held 9 = .ok (.ifCond .eq 12, 3) := by decide +kernel
theorem dX9_held_12 : decode cX9_held 12 = .ok (.aload_n 0, 1) := by decide +kernel
theorem dX9_held_13 : decode cX9_held 13 = .ok (.getfield 66, 3) := by decide +kernel
theorem dX9_held_16 : decode cX9_held 16 = .ok (.iload_n 1, 1) := by decide +kernel
theorem dX9_held_17 : decode cX9_held 17 = .ok (.laload, 1) := by decide +kernel
theorem dX9_held_18 : decode cX9_held 18 = .ok (.goto 6, 3) := by decide +kernel
theorem dX9_held_21 : decode cX9_held 21 = .ok (.ldc2_w 244, 3) := by decide +kernel
theorem dX9_held_24 : decode cX9_held 24 = .ok (.lreturn, 1) := by decide +kernel
theorem dX9_tellRow_0 : decode cX9_tellRow 0 = .ok (.iconst 1, 1) := by decide +kernel
theorem dX9_tellRow_1 : decode cX9_tellRow 1 = .ok (.istore 4, 2) := by decide +kernel
theorem dX9_tellRow_3 : decode cX9_tellRow 3 = .ok (.iload_n 1, 1) := by decide +kernel
theorem dX9_tellRow_4 : decode cX9_tellRow 4 = .ok (.istore 5, 2) := by decide +kernel
theorem dX9_tellRow_6 : decode cX9_tellRow 6 = .ok (.aload_n 0, 1) := by decide +kernel
theorem dX9_tellRow_7 : decode cX9_tellRow 7 = .ok (.getfield 75, 3) := by decide +kernel
theorem dX9_tellRow_10 : decode cX9_tellRow 10 = .ok (.iload 5, 2) := by decide +kernel
theorem dX9_tellRow_12 : decode cX9_tellRow 12 = .ok (.iaload, 1) := by decide +kernel
theorem dX9_tellRow_13 : decode cX9_tellRow 13 = .ok (.iconst (-1), 1) := by decide +kernel
theorem dX9_tellRow_14 : decode cX9_tellRow 14 = .ok (.if_icmp .eq 18, 3) := by decide +kernel
theorem dX9_tellRow_17 : decode cX9_tellRow 17 = .ok (.iinc 4 1, 3) := by decide +kernel
theorem dX9_tellRow_20 : decode cX9_tellRow 20 = .ok (.aload_n 0, 1) := by decide +kernel
theorem dX9_tellRow_21 : decode cX9_tellRow 21 = .ok (.getfield 75, 3) := by decide +kernel
theorem dX9_tellRow_24 : decode cX9_tellRow 24 = .ok (.iload 5, 2) := by decide +kernel
theorem dX9_tellRow_26 : decode cX9_tellRow 26 = .ok (.iaload, 1) := by decide +kernel
theorem dX9_tellRow_27 : decode cX9_tellRow 27 = .ok (.istore 5, 2) := by decide +kernel
theorem dX9_tellRow_29 : decode cX9_tellRow 29 = .ok (.goto (-23), 3) := by decide +kernel
theorem dX9_tellRow_32 : decode cX9_tellRow 32 = .ok (.aload_n 0, 1) := by decide +kernel
theorem dX9_tellRow_33 : decode cX9_tellRow 33 = .ok (.iload 4, 2) := by decide +kernel
theorem dX9_tellRow_35 : decode cX9_tellRow 35 = .ok (.putfield 263, 3) := by decide +kernel
theorem dX9_tellRow_38 : decode cX9_tellRow 38 = .ok (.aload_n 0, 1) := by decide +kernel
theorem dX9_tellRow_39 : decode cX9_tellRow 39 = .ok (.getfield 81, 3) := by decide +kernel
theorem dX9_tellRow_42 : decode cX9_tellRow 42 = .ok (.iload 4, 2) := by decide +kernel
theorem dX9_tellRow_44 : decode cX9_tellRow 44 = .ok (.iconst 1, 1) := by decide +kernel
theorem dX9_tellRow_45 : decode cX9_tellRow 45 = .ok (.isub, 1) := by decide +kernel
theorem dX9_tellRow_46 : decode cX9_tellRow 46 = .ok (.lload_n 2, 1) := by decide +kernel
theorem dX9_tellRow_47 : decode cX9_tellRow 47 = .ok (.lastore, 1) := by decide +kernel
theorem dX9_tellRow_48 : decode cX9_tellRow 48 = .ok (.iload_n 1, 1) := by decide +kernel
theorem dX9_tellRow_49 : decode cX9_tellRow 49 = .ok (.istore 5, 2) := by decide +kernel
theorem dX9_tellRow_51 : decode cX9_tellRow 51 = .ok (.iload 4, 2) := by decide +kernel
theorem dX9_tellRow_53 : decode cX9_tellRow 53 = .ok (.iconst 2, 1) := by decide +kernel
theorem dX9_tellRow_54 : decode cX9_tellRow 54 = .ok (.isub, 1) := by decide +kernel
theorem dX9_tellRow_55 : decode cX9_tellRow 55 = .ok (.istore 6, 2) := by decide +kernel
theorem dX9_tellRow_57 : decode cX9_tellRow 57 = .ok (.iload 6, 2) := by decide +kernel
theorem dX9_tellRow_59 : decode cX9_tellRow 59 = .ok (.ifCond .lt 32, 3) := by decide +kernel
theorem dX9_tellRow_62 : decode cX9_tellRow 62 = .ok (.aload_n 0, 1) := by decide +kernel
theorem dX9_tellRow_63 : decode cX9_tellRow 63 = .ok (.getfield 81, 3) := by decide +kernel
theorem dX9_tellRow_66 : decode cX9_tellRow 66 = .ok (.iload 6, 2) := by decide +kernel
theorem dX9_tellRow_68 : decode cX9_tellRow 68 = .ok (.aload_n 0, 1) := by decide +kernel
theorem dX9_tellRow_69 : decode cX9_tellRow 69 = .ok (.getfield 78, 3) := by decide +kernel
theorem dX9_tellRow_72 : decode cX9_tellRow 72 = .ok (.iload 5, 2) := by decide +kernel
theorem dX9_tellRow_74 : decode cX9_tellRow 74 = .ok (.laload, 1) := by decide +kernel
theorem dX9_tellRow_75 : decode cX9_tellRow 75 = .ok (.lastore, 1) := by decide +kernel
theorem dX9_tellRow_76 : decode cX9_tellRow 76 = .ok (.aload_n 0, 1) := by decide +kernel
theorem dX9_tellRow_77 : decode cX9_tellRow 77 = .ok (.getfield 75, 3) := by decide +kernel
theorem dX9_tellRow_80 : decode cX9_tellRow 80 = .ok (.iload 5, 2) := by decide +kernel
theorem dX9_tellRow_82 : decode cX9_tellRow 82 = .ok (.iaload, 1) := by decide +kernel
theorem dX9_tellRow_83 : decode cX9_tellRow 83 = .ok (.istore 5, 2) := by decide +kernel
theorem dX9_tellRow_85 : decode cX9_tellRow 85 = .ok (.iinc 6 (-1), 3) := by decide +kernel
theorem dX9_tellRow_88 : decode cX9_tellRow 88 = .ok (.goto (-31), 3) := by decide +kernel
theorem dX9_tellRow_91 : decode cX9_tellRow 91 = .ok (.return_, 1) := by decide +kernel
theorem dX9_mayReach_0 : decode cX9_mayReach 0 = .ok (.aload_n 0, 1) := by decide +kernel
theorem dX9_mayReach_1 : decode cX9_mayReach 1 = .ok (.getfield 160, 3) := by decide +kernel
theorem dX9_mayReach_4 : decode cX9_mayReach 4 = .ok (.i2l, 1) := by decide +kernel
theorem dX9_mayReach_5 : decode cX9_mayReach 5 = .ok (.lconst 1, 1) := by decide +kernel
theorem dX9_mayReach_6 : decode cX9_mayReach 6 = .ok (.ldc2_w 163, 3) := by decide +kernel
theorem dX9_mayReach_9 : decode cX9_mayReach 9 = .ok (.invokestatic 98, 3) := by decide +kernel
theorem dX9_mayReach_12 : decode cX9_mayReach 12 = .ok (.ifCond .eq 14, 3) := by decide +kernel
theorem dX9_mayReach_15 : decode cX9_mayReach 15 = .ok (.aload_n 0, 1) := by decide +kernel
theorem dX9_mayReach_16 : decode cX9_mayReach 16 = .ok (.getfield 173, 3) := by decide +kernel
theorem dX9_mayReach_19 : decode cX9_mayReach 19 = .ok (.ifCond .ne 7, 3) := by decide +kernel
theorem dX9_mayReach_22 : decode cX9_mayReach 22 = .ok (.iconst 1, 1) := by decide +kernel
theorem dX9_mayReach_23 : decode cX9_mayReach 23 = .ok (.goto 4, 3) := by decide +kernel
theorem dX9_mayReach_26 : decode cX9_mayReach 26 = .ok (.iconst 0, 1) := by decide +kernel
theorem dX9_mayReach_27 : decode cX9_mayReach 27 = .ok (.istore_n 1, 1) := by decide +kernel
theorem dX9_mayReach_28 : decode cX9_mayReach 28 = .ok (.iconst 0, 1) := by decide +kernel
theorem dX9_mayReach_29 : decode cX9_mayReach 29 = .ok (.istore_n 2, 1) := by decide +kernel
theorem dX9_mayReach_30 : decode cX9_mayReach 30 = .ok (.iload_n 2, 1) := by decide +kernel
theorem dX9_mayReach_31 : decode cX9_mayReach 31 = .ok (.aload_n 0, 1) := by decide +kernel
theorem dX9_mayReach_32 : decode cX9_mayReach 32 = .ok (.getfield 160, 3) := by decide +kernel
theorem dX9_mayReach_35 : decode cX9_mayReach 35 = .ok (.if_icmp .ge 27, 3) := by decide +kernel
theorem dX9_mayReach_38 : decode cX9_mayReach 38 = .ok (.iload_n 1, 1) := by decide +kernel
theorem dX9_mayReach_39 : decode cX9_mayReach 39 = .ok (.aload_n 0, 1) := by decide +kernel
theorem dX9_mayReach_40 : decode cX9_mayReach 40 = .ok (.getfield 27, 3) := by decide +kernel
theorem dX9_mayReach_43 : decode cX9_mayReach 43 = .ok (.iload_n 2, 1) := by decide +kernel
theorem dX9_mayReach_44 : decode cX9_mayReach 44 = .ok (.iaload, 1) := by decide +kernel
theorem dX9_mayReach_45 : decode cX9_mayReach 45 = .ok (.iconst 3, 1) := by decide +kernel
theorem dX9_mayReach_46 : decode cX9_mayReach 46 = .ok (.if_icmp .eq 7, 3) := by decide +kernel
theorem dX9_mayReach_49 : decode cX9_mayReach 49 = .ok (.iconst 1, 1) := by decide +kernel
theorem dX9_mayReach_50 : decode cX9_mayReach 50 = .ok (.goto 4, 3) := by decide +kernel
theorem dX9_mayReach_53 : decode cX9_mayReach 53 = .ok (.iconst 0, 1) := by decide +kernel
theorem dX9_mayReach_54 : decode cX9_mayReach 54 = .ok (.iand, 1) := by decide +kernel
theorem dX9_mayReach_55 : decode cX9_mayReach 55 = .ok (.istore_n 1, 1) := by decide +kernel
theorem dX9_mayReach_56 : decode cX9_mayReach 56 = .ok (.iinc 2 1, 3) := by decide +kernel
theorem dX9_mayReach_59 : decode cX9_mayReach 59 = .ok (.goto (-29), 3) := by decide +kernel
theorem dX9_mayReach_62 : decode cX9_mayReach 62 = .ok (.iload_n 1, 1) := by decide +kernel
theorem dX9_mayReach_63 : decode cX9_mayReach 63 = .ok (.ireturn, 1) := by decide +kernel
theorem dX9_reach_0 : decode cX9_reach 0 = .ok (.lload_n 1, 1) := by decide +kernel
theorem dX9_reach_1 : decode cX9_reach 1 = .ok (.invokestatic 167, 3) := by decide +kernel
theorem dX9_reach_4 : decode cX9_reach 4 = .ok (.ifCond .eq 35, 3) := by decide +kernel
theorem dX9_reach_7 : decode cX9_reach 7 = .ok (.lload_n 3, 1) := by decide +kernel
theorem dX9_reach_8 : decode cX9_reach 8 = .ok (.invokestatic 167, 3) := by decide +kernel
theorem dX9_reach_11 : decode cX9_reach 11 = .ok (.ifCond .eq 28, 3) := by decide +kernel
theorem dX9_reach_14 : decode cX9_reach 14 = .ok (.lload_n 3, 1) := by decide +kernel
theorem dX9_reach_15 : decode cX9_reach 15 = .ok (.lload_n 1, 1) := by decide +kernel
theorem dX9_reach_16 : decode cX9_reach 16 = .ok (.lsub, 1) := by decide +kernel
theorem dX9_reach_17 : decode cX9_reach 17 = .ok (.lconst 0, 1) := by decide +kernel
theorem dX9_reach_18 : decode cX9_reach 18 = .ok (.ldc2_w 242, 3) := by decide +kernel
theorem dX9_reach_21 : decode cX9_reach 21 = .ok (.invokestatic 98, 3) := by decide +kernel
theorem dX9_reach_24 : decode cX9_reach 24 = .ok (.ifCond .eq 15, 3) := by decide +kernel
theorem dX9_reach_27 : decode cX9_reach 27 = .ok (.lload 5, 2) := by decide +kernel
theorem dX9_reach_29 : decode cX9_reach 29 = .ok (.lconst 1, 1) := by decide +kernel
theorem dX9_reach_30 : decode cX9_reach 30 = .ok (.ldc2_w 154, 3) := by decide +kernel
theorem dX9_reach_33 : decode cX9_reach 33 = .ok (.invokestatic 98, 3) := by decide +kernel
theorem dX9_reach_36 : decode cX9_reach 36 = .ok (.ifCond .ne 6, 3) := by decide +kernel
theorem dX9_reach_39 : decode cX9_reach 39 = .ok (.bipush (-2), 2) := by decide +kernel
theorem dX9_reach_41 : decode cX9_reach 41 = .ok (.ireturn, 1) := by decide +kernel
theorem dX9_reach_42 : decode cX9_reach 42 = .ok (.aload_n 0, 1) := by decide +kernel
theorem dX9_reach_43 : decode cX9_reach 43 = .ok (.invokevirtual 266, 3) := by decide +kernel
theorem dX9_reach_46 : decode cX9_reach 46 = .ok (.ifCond .ne 6, 3) := by decide +kernel
theorem dX9_reach_49 : decode cX9_reach 49 = .ok (.bipush (-7), 2) := by decide +kernel
theorem dX9_reach_51 : decode cX9_reach 51 = .ok (.ireturn, 1) := by decide +kernel
theorem dX9_reach_52 : decode cX9_reach 52 = .ok (.aload_n 0, 1) := by decide +kernel
theorem dX9_reach_53 : decode cX9_reach 53 = .ok (.iconst 0, 1) := by decide +kernel
theorem dX9_reach_54 : decode cX9_reach 54 = .ok (.putfield 263, 3) := by decide +kernel
theorem dX9_reach_57 : decode cX9_reach 57 = .ok (.aload_n 0, 1) := by decide +kernel
theorem dX9_reach_58 : decode cX9_reach 58 = .ok (.iconst 1, 1) := by decide +kernel
theorem dX9_reach_59 : decode cX9_reach 59 = .ok (.putfield 270, 3) := by decide +kernel
theorem dX9_reach_62 : decode cX9_reach 62 = .ok (.aload_n 0, 1) := by decide +kernel
theorem dX9_reach_63 : decode cX9_reach 63 = .ok (.getfield 69, 3) := by decide +kernel
theorem dX9_reach_66 : decode cX9_reach 66 = .ok (.iconst 0, 1) := by decide +kernel
theorem dX9_reach_67 : decode cX9_reach 67 = .ok (.aload_n 0, 1) := by decide +kernel
theorem dX9_reach_68 : decode cX9_reach 68 = .ok (.getfield 39, 3) := by decide +kernel
theorem dX9_reach_71 : decode cX9_reach 71 = .ok (.iconst 0, 1) := by decide +kernel
theorem dX9_reach_72 : decode cX9_reach 72 = .ok (.laload, 1) := by decide +kernel
theorem dX9_reach_73 : decode cX9_reach 73 = .ok (.lastore, 1) := by decide +kernel
theorem dX9_reach_74 : decode cX9_reach 74 = .ok (.aload_n 0, 1) := by decide +kernel
theorem dX9_reach_75 : decode cX9_reach 75 = .ok (.getfield 72, 3) := by decide +kernel
theorem dX9_reach_78 : decode cX9_reach 78 = .ok (.iconst 0, 1) := by decide +kernel
theorem dX9_reach_79 : decode cX9_reach 79 = .ok (.aload_n 0, 1) := by decide +kernel
theorem dX9_reach_80 : decode cX9_reach 80 = .ok (.getfield 160, 3) := by decide +kernel
theorem dX9_reach_83 : decode cX9_reach 83 = .ok (.iconst 1, 1) := by decide +kernel
theorem dX9_reach_84 : decode cX9_reach 84 = .ok (.if_icmp .le 13, 3) := by decide +kernel
theorem dX9_reach_87 : decode cX9_reach 87 = .ok (.aload_n 0, 1) := by decide +kernel
theorem dX9_reach_88 : decode cX9_reach 88 = .ok (.getfield 39, 3) := by decide +kernel
theorem dX9_reach_91 : decode cX9_reach 91 = .ok (.bipush 6, 2) := by decide +kernel
theorem dX9_reach_93 : decode cX9_reach 93 = .ok (.laload, 1) := by decide +kernel
theorem dX9_reach_94 : decode cX9_reach 94 = .ok (.goto 4, 3) := by decide +kernel
theorem dX9_reach_97 : decode cX9_reach 97 = .ok (.lconst 0, 1) := by decide +kernel
theorem dX9_reach_98 : decode cX9_reach 98 = .ok (.lastore, 1) := by decide +kernel
theorem dX9_reach_99 : decode cX9_reach 99 = .ok (.aload_n 0, 1) := by decide +kernel
theorem dX9_reach_100 : decode cX9_reach 100 = .ok (.getfield 75, 3) := by decide +kernel
theorem dX9_reach_103 : decode cX9_reach 103 = .ok (.iconst 0, 1) := by decide +kernel
theorem dX9_reach_104 : decode cX9_reach 104 = .ok (.iconst (-1), 1) := by decide +kernel
theorem dX9_reach_105 : decode cX9_reach 105 = .ok (.iastore, 1) := by decide +kernel
theorem dX9_reach_106 : decode cX9_reach 106 = .ok (.iconst 0, 1) := by decide +kernel
theorem dX9_reach_107 : decode cX9_reach 107 = .ok (.istore 7, 2) := by decide +kernel
theorem dX9_reach_109 : decode cX9_reach 109 = .ok (.iload 7, 2) := by decide +kernel
theorem dX9_reach_111 : decode cX9_reach 111 = .ok (.aload_n 0, 1) := by decide +kernel
theorem dX9_reach_112 : decode cX9_reach 112 = .ok (.getfield 270, 3) := by decide +kernel
theorem dX9_reach_115 : decode cX9_reach 115 = .ok (.if_icmp .ge 254, 3) := by decide +kernel
theorem dX9_reach_118 : decode cX9_reach 118 = .ok (.lload_n 1, 1) := by decide +kernel
theorem dX9_reach_119 : decode cX9_reach 119 = .ok (.lstore 8, 2) := by decide +kernel
theorem dX9_reach_121 : decode cX9_reach 121 = .ok (.lload 8, 2) := by decide +kernel
theorem dX9_reach_123 : decode cX9_reach 123 = .ok (.lload_n 3, 1) := by decide +kernel
theorem dX9_reach_124 : decode cX9_reach 124 = .ok (.lcmp, 1) := by decide +kernel
theorem dX9_reach_125 : decode cX9_reach 125 = .ok (.ifCond .gt 238, 3) := by decide +kernel
theorem dX9_reach_128 : decode cX9_reach 128 = .ok (.aload_n 0, 1) := by decide +kernel
theorem dX9_reach_129 : decode cX9_reach 129 = .ok (.invokevirtual 222, 3) := by decide +kernel
theorem dX9_reach_132 : decode cX9_reach 132 = .ok (.aload_n 0, 1) := by decide +kernel
theorem dX9_reach_133 : decode cX9_reach 133 = .ok (.getfield 51, 3) := by decide +kernel
theorem dX9_reach_136 : decode cX9_reach 136 = .ok (.iconst 0, 1) := by decide +kernel
theorem dX9_reach_137 : decode cX9_reach 137 = .ok (.aload_n 0, 1) := by decide +kernel
theorem dX9_reach_138 : decode cX9_reach 138 = .ok (.getfield 69, 3) := by decide +kernel
theorem dX9_reach_141 : decode cX9_reach 141 = .ok (.iload 7, 2) := by decide +kernel
theorem dX9_reach_143 : decode cX9_reach 143 = .ok (.laload, 1) := by decide +kernel
theorem dX9_reach_144 : decode cX9_reach 144 = .ok (.lastore, 1) := by decide +kernel
theorem dX9_reach_145 : decode cX9_reach 145 = .ok (.aload_n 0, 1) := by decide +kernel
theorem dX9_reach_146 : decode cX9_reach 146 = .ok (.getfield 51, 3) := by decide +kernel
theorem dX9_reach_149 : decode cX9_reach 149 = .ok (.bipush 6, 2) := by decide +kernel
theorem dX9_reach_151 : decode cX9_reach 151 = .ok (.aload_n 0, 1) := by decide +kernel
theorem dX9_reach_152 : decode cX9_reach 152 = .ok (.getfield 72, 3) := by decide +kernel
theorem dX9_reach_155 : decode cX9_reach 155 = .ok (.iload 7, 2) := by decide +kernel
theorem dX9_reach_157 : decode cX9_reach 157 = .ok (.laload, 1) := by decide +kernel
theorem dX9_reach_158 : decode cX9_reach 158 = .ok (.lastore, 1) := by decide +kernel
theorem dX9_reach_159 : decode cX9_reach 159 = .ok (.aload_n 0, 1) := by decide +kernel
theorem dX9_reach_160 : decode cX9_reach 160 = .ok (.lload 8, 2) := by decide +kernel
theorem dX9_reach_162 : decode cX9_reach 162 = .ok (.invokevirtual 225, 3) := by decide +kernel
theorem dX9_reach_165 : decode cX9_reach 165 = .ok (.ifCond .ne 6, 3) := by decide +kernel
theorem dX9_reach_168 : decode cX9_reach 168 = .ok (.bipush (-6), 2) := by decide +kernel
theorem dX9_reach_170 : decode cX9_reach 170 = .ok (.ireturn, 1) := by decide +kernel
theorem dX9_reach_171 : decode cX9_reach 171 = .ok (.aload_n 0, 1) := by decide +kernel
theorem dX9_reach_172 : decode cX9_reach 172 = .ok (.getfield 51, 3) := by decide +kernel
theorem dX9_reach_175 : decode cX9_reach 175 = .ok (.iconst 0, 1) := by decide +kernel
theorem dX9_reach_176 : decode cX9_reach 176 = .ok (.laload, 1) := by decide +kernel
theorem dX9_reach_177 : decode cX9_reach 177 = .ok (.lstore 10, 2) := by decide +kernel
theorem dX9_reach_179 : decode cX9_reach 179 = .ok (.aload_n 0, 1) := by decide +kernel
theorem dX9_reach_180 : decode cX9_reach 180 = .ok (.getfield 160, 3) := by decide +kernel
