theorem dX12_writeBarrier_30 : decode cX12_writeBarrier 30 = .ok (.bipush 10, 2) := by decide +kernel
theorem dX12_writeBarrier_32 : decode cX12_writeBarrier 32 = .ok (.iaload, 1) := by decide +kernel
theorem dX12_writeBarrier_33 : decode cX12_writeBarrier 33 = .ok (.ifCond .ne 7, 3) := by decide +kernel
theorem dX12_writeBarrier_36 : decode cX12_writeBarrier 36 = .ok (.iconst 1, 1) := by decide +kernel
theorem dX12_writeBarrier_37 : decode cX12_writeBarrier 37 = .ok (.goto 4, 3) := by decide +kernel
theorem dX12_writeBarrier_40 : decode cX12_writeBarrier 40 = .ok (.iconst 0, 1) := by decide +kernel
theorem dX12_writeBarrier_41 : decode cX12_writeBarrier 41 = .ok (.iconst 2, 1) := by decide +kernel
theorem dX12_writeBarrier_42 : decode cX12_writeBarrier 42 = .ok (.invokevirtual 60, 3) := by decide +kernel
theorem dX12_writeBarrier_45 : decode cX12_writeBarrier 45 = .ok (.ifCond .eq 5, 3) := by decide +kernel
theorem dX12_writeBarrier_48 : decode cX12_writeBarrier 48 = .ok (.iconst 0, 1) := by decide +kernel
theorem dX12_writeBarrier_49 : decode cX12_writeBarrier 49 = .ok (.ireturn, 1) := by decide +kernel
theorem dX12_writeBarrier_50 : decode cX12_writeBarrier 50 = .ok (.aload_n 0, 1) := by decide +kernel
theorem dX12_writeBarrier_51 : decode cX12_writeBarrier 51 = .ok (.invokevirtual 229, 3) := by decide +kernel
theorem dX12_writeBarrier_54 : decode cX12_writeBarrier 54 = .ok (.aload_n 0, 1) := by decide +kernel
theorem dX12_writeBarrier_55 : decode cX12_writeBarrier 55 = .ok (.iload_n 1, 1) := by decide +kernel
theorem dX12_writeBarrier_56 : decode cX12_writeBarrier 56 = .ok (.invokevirtual 247, 3) := by decide +kernel
theorem dX12_writeBarrier_59 : decode cX12_writeBarrier 59 = .ok (.aload_n 0, 1) := by decide +kernel
theorem dX12_writeBarrier_60 : decode cX12_writeBarrier 60 = .ok (.invokevirtual 244, 3) := by decide +kernel
theorem dX12_writeBarrier_63 : decode cX12_writeBarrier 63 = .ok (.ireturn, 1) := by decide +kernel
theorem dX12_commit_0 : decode cX12_commit 0 = .ok (.aload_n 0, 1) := by decide +kernel
theorem dX12_commit_1 : decode cX12_commit 1 = .ok (.invokevirtual 250, 3) := by decide +kernel
theorem dX12_commit_4 : decode cX12_commit 4 = .ok (.istore_n 1, 1) := by decide +kernel
theorem dX12_commit_5 : decode cX12_commit 5 = .ok (.iconst 0, 1) := by decide +kernel
theorem dX12_commit_6 : decode cX12_commit 6 = .ok (.istore_n 2, 1) := by decide +kernel
theorem dX12_commit_7 : decode cX12_commit 7 = .ok (.iload_n 2, 1) := by decide +kernel
theorem dX12_commit_8 : decode cX12_commit 8 = .ok (.bipush 48, 2) := by decide +kernel
theorem dX12_commit_10 : decode cX12_commit 10 = .ok (.if_icmp .ge 46, 3) := by decide +kernel
theorem dX12_commit_13 : decode cX12_commit 13 = .ok (.aload_n 0, 1) := by decide +kernel
theorem dX12_commit_14 : decode cX12_commit 14 = .ok (.getfield 7, 3) := by decide +kernel
theorem dX12_commit_17 : decode cX12_commit 17 = .ok (.bipush 10, 2) := by decide +kernel
theorem dX12_commit_19 : decode cX12_commit 19 = .ok (.iaload, 1) := by decide +kernel
theorem dX12_commit_20 : decode cX12_commit 20 = .ok (.iload_n 2, 1) := by decide +kernel
theorem dX12_commit_21 : decode cX12_commit 21 = .ok (.bipush 8, 2) := by decide +kernel
theorem dX12_commit_23 : decode cX12_commit 23 = .ok (.idiv, 1) := by decide +kernel
theorem dX12_commit_24 : decode cX12_commit 24 = .ok (.invokestatic 68, 3) := by decide +kernel
theorem dX12_commit_27 : decode cX12_commit 27 = .ok (.ifCond .eq 23, 3) := by decide +kernel
theorem dX12_commit_30 : decode cX12_commit 30 = .ok (.aload_n 0, 1) := by decide +kernel
theorem dX12_commit_31 : decode cX12_commit 31 = .ok (.getfield 7, 3) := by decide +kernel
theorem dX12_commit_34 : decode cX12_commit 34 = .ok (.sipush 272, 3) := by decide +kernel
theorem dX12_commit_37 : decode cX12_commit 37 = .ok (.iload_n 2, 1) := by decide +kernel
theorem dX12_commit_38 : decode cX12_commit 38 = .ok (.iadd, 1) := by decide +kernel
theorem dX12_commit_39 : decode cX12_commit 39 = .ok (.aload_n 0, 1) := by decide +kernel
theorem dX12_commit_40 : decode cX12_commit 40 = .ok (.getfield 7, 3) := by decide +kernel
theorem dX12_commit_43 : decode cX12_commit 43 = .ok (.sipush 224, 3) := by decide +kernel
theorem dX12_commit_46 : decode cX12_commit 46 = .ok (.iload_n 2, 1) := by decide +kernel
theorem dX12_commit_47 : decode cX12_commit 47 = .ok (.iadd, 1) := by decide +kernel
theorem dX12_commit_48 : decode cX12_commit 48 = .ok (.iaload, 1) := by decide +kernel
theorem dX12_commit_49 : decode cX12_commit 49 = .ok (.iastore, 1) := by decide +kernel
theorem dX12_commit_50 : decode cX12_commit 50 = .ok (.iinc 2 1, 3) := by decide +kernel
theorem dX12_commit_53 : decode cX12_commit 53 = .ok (.goto (-46), 3) := by decide +kernel
theorem dX12_commit_56 : decode cX12_commit 56 = .ok (.iconst 0, 1) := by decide +kernel
theorem dX12_commit_57 : decode cX12_commit 57 = .ok (.istore_n 2, 1) := by decide +kernel
theorem dX12_commit_58 : decode cX12_commit 58 = .ok (.iload_n 2, 1) := by decide +kernel
theorem dX12_commit_59 : decode cX12_commit 59 = .ok (.aload_n 0, 1) := by decide +kernel
theorem dX12_commit_60 : decode cX12_commit 60 = .ok (.getfield 7, 3) := by decide +kernel
theorem dX12_commit_63 : decode cX12_commit 63 = .ok (.iconst 3, 1) := by decide +kernel
theorem dX12_commit_64 : decode cX12_commit 64 = .ok (.iaload, 1) := by decide +kernel
theorem dX12_commit_65 : decode cX12_commit 65 = .ok (.if_icmp .ge 38, 3) := by decide +kernel
theorem dX12_commit_68 : decode cX12_commit 68 = .ok (.aload_n 0, 1) := by decide +kernel
theorem dX12_commit_69 : decode cX12_commit 69 = .ok (.getfield 7, 3) := by decide +kernel
theorem dX12_commit_72 : decode cX12_commit 72 = .ok (.bipush 10, 2) := by decide +kernel
theorem dX12_commit_74 : decode cX12_commit 74 = .ok (.iaload, 1) := by decide +kernel
theorem dX12_commit_75 : decode cX12_commit 75 = .ok (.iload_n 2, 1) := by decide +kernel
theorem dX12_commit_76 : decode cX12_commit 76 = .ok (.invokestatic 68, 3) := by decide +kernel
theorem dX12_commit_79 : decode cX12_commit 79 = .ok (.ifCond .eq 18, 3) := by decide +kernel
theorem dX12_commit_82 : decode cX12_commit 82 = .ok (.aload_n 0, 1) := by decide +kernel
theorem dX12_commit_83 : decode cX12_commit 83 = .ok (.getfield 7, 3) := by decide +kernel
theorem dX12_commit_86 : decode cX12_commit 86 = .ok (.bipush 26, 2) := by decide +kernel
theorem dX12_commit_88 : decode cX12_commit 88 = .ok (.iload_n 2, 1) := by decide +kernel
theorem dX12_commit_89 : decode cX12_commit 89 = .ok (.iadd, 1) := by decide +kernel
theorem dX12_commit_90 : decode cX12_commit 90 = .ok (.aload_n 0, 1) := by decide +kernel
theorem dX12_commit_91 : decode cX12_commit 91 = .ok (.getfield 7, 3) := by decide +kernel
theorem dX12_commit_94 : decode cX12_commit 94 = .ok (.iconst 4, 1) := by decide +kernel
theorem dX12_commit_95 : decode cX12_commit 95 = .ok (.iaload, 1) := by decide +kernel
theorem dX12_commit_96 : decode cX12_commit 96 = .ok (.iastore, 1) := by decide +kernel
theorem dX12_commit_97 : decode cX12_commit 97 = .ok (.iinc 2 1, 3) := by decide +kernel
theorem dX12_commit_100 : decode cX12_commit 100 = .ok (.goto (-42), 3) := by decide +kernel
theorem dX12_commit_103 : decode cX12_commit 103 = .ok (.bipush 31, 2) := by decide +kernel
theorem dX12_commit_105 : decode cX12_commit 105 = .ok (.istore_n 2, 1) := by decide +kernel
theorem dX12_commit_106 : decode cX12_commit 106 = .ok (.iload_n 2, 1) := by decide +kernel
theorem dX12_commit_107 : decode cX12_commit 107 = .ok (.iconst 4, 1) := by decide +kernel
theorem dX12_commit_108 : decode cX12_commit 108 = .ok (.if_icmp .lt 31, 3) := by decide +kernel
theorem dX12_commit_111 : decode cX12_commit 111 = .ok (.aload_n 0, 1) := by decide +kernel
theorem dX12_commit_112 : decode cX12_commit 112 = .ok (.getfield 7, 3) := by decide +kernel
theorem dX12_commit_115 : decode cX12_commit 115 = .ok (.sipush 576, 3) := by decide +kernel
theorem dX12_commit_118 : decode cX12_commit 118 = .ok (.iload_n 2, 1) := by decide +kernel
theorem dX12_commit_119 : decode cX12_commit 119 = .ok (.iadd, 1) := by decide +kernel
theorem dX12_commit_120 : decode cX12_commit 120 = .ok (.aload_n 0, 1) := by decide +kernel
theorem dX12_commit_121 : decode cX12_commit 121 = .ok (.getfield 7, 3) := by decide +kernel
theorem dX12_commit_124 : decode cX12_commit 124 = .ok (.sipush 576, 3) := by decide +kernel
theorem dX12_commit_127 : decode cX12_commit 127 = .ok (.iload_n 2, 1) := by decide +kernel
theorem dX12_commit_128 : decode cX12_commit 128 = .ok (.iadd, 1) := by decide +kernel
theorem dX12_commit_129 : decode cX12_commit 129 = .ok (.iconst 4, 1) := by decide +kernel
theorem dX12_commit_130 : decode cX12_commit 130 = .ok (.isub, 1) := by decide +kernel
theorem dX12_commit_131 : decode cX12_commit 131 = .ok (.iaload, 1) := by decide +kernel
theorem dX12_commit_132 : decode cX12_commit 132 = .ok (.iastore, 1) := by decide +kernel
theorem dX12_commit_133 : decode cX12_commit 133 = .ok (.iinc 2 (-1), 3) := by decide +kernel
theorem dX12_commit_136 : decode cX12_commit 136 = .ok (.goto (-30), 3) := by decide +kernel
theorem dX12_commit_139 : decode cX12_commit 139 = .ok (.aload_n 0, 1) := by decide +kernel
theorem dX12_commit_140 : decode cX12_commit 140 = .ok (.getfield 7, 3) := by decide +kernel
theorem dX12_commit_143 : decode cX12_commit 143 = .ok (.sipush 576, 3) := by decide +kernel
theorem dX12_commit_146 : decode cX12_commit 146 = .ok (.aload_n 0, 1) := by decide +kernel
theorem dX12_commit_147 : decode cX12_commit 147 = .ok (.getfield 7, 3) := by decide +kernel
theorem dX12_commit_150 : decode cX12_commit 150 = .ok (.bipush 10, 2) := by decide +kernel
theorem dX12_commit_152 : decode cX12_commit 152 = .ok (.iaload, 1) := by decide +kernel
theorem dX12_commit_153 : decode cX12_commit 153 = .ok (.iastore, 1) := by decide +kernel
theorem dX12_commit_154 : decode cX12_commit 154 = .ok (.aload_n 0, 1) := by decide +kernel
theorem dX12_commit_155 : decode cX12_commit 155 = .ok (.getfield 7, 3) := by decide +kernel
theorem dX12_commit_158 : decode cX12_commit 158 = .ok (.sipush 577, 3) := by decide +kernel
theorem dX12_commit_161 : decode cX12_commit 161 = .ok (.aload_n 0, 1) := by decide +kernel
theorem dX12_commit_162 : decode cX12_commit 162 = .ok (.getfield 7, 3) := by decide +kernel
theorem dX12_commit_165 : decode cX12_commit 165 = .ok (.iconst 4, 1) := by decide +kernel
theorem dX12_commit_166 : decode cX12_commit 166 = .ok (.iaload, 1) := by decide +kernel
theorem dX12_commit_167 : decode cX12_commit 167 = .ok (.iastore, 1) := by decide +kernel
theorem dX12_commit_168 : decode cX12_commit 168 = .ok (.aload_n 0, 1) := by decide +kernel
theorem dX12_commit_169 : decode cX12_commit 169 = .ok (.getfield 7, 3) := by decide +kernel
theorem dX12_commit_172 : decode cX12_commit 172 = .ok (.sipush 578, 3) := by decide +kernel
theorem dX12_commit_175 : decode cX12_commit 175 = .ok (.aload_n 0, 1) := by decide +kernel
theorem dX12_commit_176 : decode cX12_commit 176 = .ok (.getfield 7, 3) := by decide +kernel
theorem dX12_commit_179 : decode cX12_commit 179 = .ok (.bipush 11, 2) := by decide +kernel
theorem dX12_commit_181 : decode cX12_commit 181 = .ok (.iaload, 1) := by decide +kernel
theorem dX12_commit_182 : decode cX12_commit 182 = .ok (.iastore, 1) := by decide +kernel
theorem dX12_commit_183 : decode cX12_commit 183 = .ok (.aload_n 0, 1) := by decide +kernel
theorem dX12_commit_184 : decode cX12_commit 184 = .ok (.getfield 7, 3) := by decide +kernel
theorem dX12_commit_187 : decode cX12_commit 187 = .ok (.bipush 10, 2) := by decide +kernel
theorem dX12_commit_189 : decode cX12_commit 189 = .ok (.iconst 0, 1) := by decide +kernel
theorem dX12_commit_190 : decode cX12_commit 190 = .ok (.iastore, 1) := by decide +kernel
theorem dX12_commit_191 : decode cX12_commit 191 = .ok (.aload_n 0, 1) := by decide +kernel
theorem dX12_commit_192 : decode cX12_commit 192 = .ok (.getfield 7, 3) := by decide +kernel
theorem dX12_commit_195 : decode cX12_commit 195 = .ok (.sipush 579, 3) := by decide +kernel
theorem dX12_commit_198 : decode cX12_commit 198 = .ok (.aload_n 0, 1) := by decide +kernel
theorem dX12_commit_199 : decode cX12_commit 199 = .ok (.invokevirtual 250, 3) := by decide +kernel
theorem dX12_commit_202 : decode cX12_commit 202 = .ok (.iload_n 1, 1) := by decide +kernel
theorem dX12_commit_203 : decode cX12_commit 203 = .ok (.isub, 1) := by decide +kernel
theorem dX12_commit_204 : decode cX12_commit 204 = .ok (.iastore, 1) := by decide +kernel
theorem dX12_commit_205 : decode cX12_commit 205 = .ok (.aload_n 0, 1) := by decide +kernel
theorem dX12_commit_206 : decode cX12_commit 206 = .ok (.getfield 7, 3) := by decide +kernel
theorem dX12_commit_209 : decode cX12_commit 209 = .ok (.bipush 13, 2) := by decide +kernel
theorem dX12_commit_211 : decode cX12_commit 211 = .ok (.iaload, 1) := by decide +kernel
theorem dX12_commit_212 : decode cX12_commit 212 = .ok (.bipush 8, 2) := by decide +kernel
theorem dX12_commit_214 : decode cX12_commit 214 = .ok (.if_icmp .ge 14, 3) := by decide +kernel
theorem dX12_commit_217 : decode cX12_commit 217 = .ok (.aload_n 0, 1) := by decide +kernel
theorem dX12_commit_218 : decode cX12_commit 218 = .ok (.getfield 7, 3) := by decide +kernel
theorem dX12_commit_221 : decode cX12_commit 221 = .ok (.bipush 13, 2) := by decide +kernel
theorem dX12_commit_223 : decode cX12_commit 223 = .ok (.dup2, 1) := by decide +kernel
theorem dX12_commit_224 : decode cX12_commit 224 = .ok (.iaload, 1) := by decide +kernel
theorem dX12_commit_225 : decode cX12_commit 225 = .ok (.iconst 1, 1) := by decide +kernel
theorem dX12_commit_226 : decode cX12_commit 226 = .ok (.iadd, 1) := by decide +kernel
theorem dX12_commit_227 : decode cX12_commit 227 = .ok (.iastore, 1) := by decide +kernel
theorem dX12_commit_228 : decode cX12_commit 228 = .ok (.aload_n 0, 1) := by decide +kernel
theorem dX12_commit_229 : decode cX12_commit 229 = .ok (.getfield 7, 3) := by decide +kernel
theorem dX12_commit_232 : decode cX12_commit 232 = .ok (.bipush 8, 2) := by decide +kernel
theorem dX12_commit_234 : decode cX12_commit 234 = .ok (.dup2, 1) := by decide +kernel
theorem dX12_commit_235 : decode cX12_commit 235 = .ok (.iaload, 1) := by decide +kernel
theorem dX12_commit_236 : decode cX12_commit 236 = .ok (.iconst 1, 1) := by decide +kernel
theorem dX12_commit_237 : decode cX12_commit 237 = .ok (.iadd, 1) := by decide +kernel
theorem dX12_commit_238 : decode cX12_commit 238 = .ok (.iastore, 1) := by decide +kernel
theorem dX12_commit_239 : decode cX12_commit 239 = .ok (.aload_n 0, 1) := by decide +kernel
theorem dX12_commit_240 : decode cX12_commit 240 = .ok (.getfield 7, 3) := by decide +kernel
theorem dX12_commit_243 : decode cX12_commit 243 = .ok (.sipush 579, 3) := by decide +kernel
theorem dX12_commit_246 : decode cX12_commit 246 = .ok (.iaload, 1) := by decide +kernel
theorem dX12_commit_247 : decode cX12_commit 247 = .ok (.ireturn, 1) := by decide +kernel
theorem dX12_commitBarrier_0 : decode cX12_commitBarrier 0 = .ok (.aload_n 0, 1) := by decide +kernel
theorem dX12_commitBarrier_1 : decode cX12_commitBarrier 1 = .ok (.aload_n 0, 1) := by decide +kernel
theorem dX12_commitBarrier_2 : decode cX12_commitBarrier 2 = .ok (.getfield 7, 3) := by decide +kernel
theorem dX12_commitBarrier_5 : decode cX12_commitBarrier 5 = .ok (.bipush 10, 2) := by decide +kernel
theorem dX12_commitBarrier_7 : decode cX12_commitBarrier 7 = .ok (.iaload, 1) := by decide +kernel
theorem dX12_commitBarrier_8 : decode cX12_commitBarrier 8 = .ok (.ifCond .ne 7, 3) := by decide +kernel
theorem dX12_commitBarrier_11 : decode cX12_commitBarrier 11 = .ok (.iconst 1, 1) := by decide +kernel
theorem dX12_commitBarrier_12 : decode cX12_commitBarrier 12 = .ok (.goto 4, 3) := by decide +kernel
theorem dX12_commitBarrier_15 : decode cX12_commitBarrier 15 = .ok (.iconst 0, 1) := by decide +kernel
theorem dX12_commitBarrier_16 : decode cX12_commitBarrier 16 = .ok (.iconst 1, 1) := by decide +kernel
theorem dX12_commitBarrier_17 : decode cX12_commitBarrier 17 = .ok (.invokevirtual 60, 3) := by decide +kernel
theorem dX12_commitBarrier_20 : decode cX12_commitBarrier 20 = .ok (.ifCond .ne 23, 3) := by decide +kernel
theorem dX12_commitBarrier_23 : decode cX12_commitBarrier 23 = .ok (.aload_n 0, 1) := by decide +kernel
theorem dX12_commitBarrier_24 : decode cX12_commitBarrier 24 = .ok (.aload_n 0, 1) := by decide +kernel
theorem dX12_commitBarrier_25 : decode cX12_commitBarrier 25 = .ok (.invokevirtual 244, 3) := by decide +kernel
theorem dX12_commitBarrier_28 : decode cX12_commitBarrier 28 = .ok (.ifCond .le 7, 3) := by decide +kernel
theorem dX12_commitBarrier_31 : decode cX12_commitBarrier 31 = .ok (.iconst 1, 1) := by decide +kernel
theorem dX12_commitBarrier_32 : decode cX12_commitBarrier 32 = .ok (.goto 4, 3) := by decide +kernel
theorem dX12_commitBarrier_35 : decode cX12_commitBarrier 35 = .ok (.iconst 0, 1) := by decide +kernel
theorem dX12_commitBarrier_36 : decode cX12_commitBarrier 36 = .ok (.iconst 2, 1) := by decide +kernel
theorem dX12_commitBarrier_37 : decode cX12_commitBarrier 37 = .ok (.invokevirtual 60, 3) := by decide +kernel
theorem dX12_commitBarrier_40 : decode cX12_commitBarrier 40 = .ok (.ifCond .eq 5, 3) := by decide +kernel
theorem dX12_commitBarrier_43 : decode cX12_commitBarrier 43 = .ok (.iconst 0, 1) := by decide +kernel
theorem dX12_commitBarrier_44 : decode cX12_commitBarrier 44 = .ok (.ireturn, 1) := by decide +kernel
theorem dX12_commitBarrier_45 : decode cX12_commitBarrier 45 = .ok (.aload_n 0, 1) := by decide +kernel
theorem dX12_commitBarrier_46 : decode cX12_commitBarrier 46 = .ok (.invokevirtual 229, 3) := by decide +kernel
theorem dX12_commitBarrier_49 : decode cX12_commitBarrier 49 = .ok (.aload_n 0, 1) := by decide +kernel
theorem dX12_commitBarrier_50 : decode cX12_commitBarrier 50 = .ok (.invokevirtual 253, 3) := by decide +kernel
theorem dX12_commitBarrier_53 : decode cX12_commitBarrier 53 = .ok (.ireturn, 1) := by decide +kernel
theorem dX12_abandon_0 : decode cX12_abandon 0 = .ok (.aload_n 0, 1) := by decide +kernel
theorem dX12_abandon_1 : decode cX12_abandon 1 = .ok (.invokevirtual 250, 3) := by decide +kernel
theorem dX12_abandon_4 : decode cX12_abandon 4 = .ok (.istore_n 1, 1) := by decide +kernel
theorem dX12_abandon_5 : decode cX12_abandon 5 = .ok (.aload_n 0, 1) := by decide +kernel
theorem dX12_abandon_6 : decode cX12_abandon 6 = .ok (.getfield 7, 3) := by decide +kernel
theorem dX12_abandon_9 : decode cX12_abandon 9 = .ok (.bipush 10, 2) := by decide +kernel
theorem dX12_abandon_11 : decode cX12_abandon 11 = .ok (.iconst 0, 1) := by decide +kernel
theorem dX12_abandon_12 : decode cX12_abandon 12 = .ok (.iastore, 1) := by decide +kernel
theorem dX12_abandon_13 : decode cX12_abandon 13 = .ok (.aload_n 0, 1) := by decide +kernel
theorem dX12_abandon_14 : decode cX12_abandon 14 = .ok (.invokevirtual 250, 3) := by decide +kernel
theorem dX12_abandon_17 : decode cX12_abandon 17 = .ok (.iload_n 1, 1) := by decide +kernel
theorem dX12_abandon_18 : decode cX12_abandon 18 = .ok (.isub, 1) := by decide +kernel
theorem dX12_abandon_19 : decode cX12_abandon 19 = .ok (.ireturn, 1) := by decide +kernel
theorem dX12_abandonBarrier_0 : decode cX12_abandonBarrier 0 = .ok (.aload_n 0, 1) := by decide +kernel
theorem dX12_abandonBarrier_1 : decode cX12_abandonBarrier 1 = .ok (.aload_n 0, 1) := by decide +kernel
theorem dX12_abandonBarrier_2 : decode cX12_abandonBarrier 2 = .ok (.getfield 7, 3) := by decide +kernel
theorem dX12_abandonBarrier_5 : decode cX12_abandonBarrier 5 = .ok (.bipush 10, 2) := by decide +kernel
theorem dX12_abandonBarrier_7 : decode cX12_abandonBarrier 7 = .ok (.iaload, 1) := by decide +kernel
theorem dX12_abandonBarrier_8 : decode cX12_abandonBarrier 8 = .ok (.ifCond .ne 7, 3) := by decide +kernel
theorem dX12_abandonBarrier_11 : decode cX12_abandonBarrier 11 = .ok (.iconst 1, 1) := by decide +kernel
theorem dX12_abandonBarrier_12 : decode cX12_abandonBarrier 12 = .ok (.goto 4, 3) := by decide +kernel
theorem dX12_abandonBarrier_15 : decode cX12_abandonBarrier 15 = .ok (.iconst 0, 1) := by decide +kernel
theorem dX12_abandonBarrier_16 : decode cX12_abandonBarrier 16 = .ok (.iconst 1, 1) := by decide +kernel
theorem dX12_abandonBarrier_17 : decode cX12_abandonBarrier 17 = .ok (.invokevirtual 60, 3) := by decide +kernel
theorem dX12_abandonBarrier_20 : decode cX12_abandonBarrier 20 = .ok (.ifCond .eq 5, 3) := by decide +kernel
theorem dX12_abandonBarrier_23 : decode cX12_abandonBarrier 23 = .ok (.iconst 0, 1) := by decide +kernel
theorem dX12_abandonBarrier_24 : decode cX12_abandonBarrier 24 = .ok (.ireturn, 1) := by decide +kernel
theorem dX12_abandonBarrier_25 : decode cX12_abandonBarrier 25 = .ok (.aload_n 0, 1) := by decide +kernel
theorem dX12_abandonBarrier_26 : decode cX12_abandonBarrier 26 = .ok (.invokevirtual 229, 3) := by decide +kernel
theorem dX12_abandonBarrier_29 : decode cX12_abandonBarrier 29 = .ok (.aload_n 0, 1) := by decide +kernel
theorem dX12_abandonBarrier_30 : decode cX12_abandonBarrier 30 = .ok (.invokevirtual 256, 3) := by decide +kernel
theorem dX12_abandonBarrier_33 : decode cX12_abandonBarrier 33 = .ok (.ireturn, 1) := by decide +kernel
theorem dX12_restored_0 : decode cX12_restored 0 = .ok (.aload_n 0, 1) := by decide +kernel
theorem dX12_restored_1 : decode cX12_restored 1 = .ok (.getfield 7, 3) := by decide +kernel
theorem dX12_restored_4 : decode cX12_restored 4 = .ok (.bipush 26, 2) := by decide +kernel
theorem dX12_restored_6 : decode cX12_restored 6 = .ok (.iload_n 1, 1) := by decide +kernel
theorem dX12_restored_7 : decode cX12_restored 7 = .ok (.bipush 8, 2) := by decide +kernel
theorem dX12_restored_9 : decode cX12_restored 9 = .ok (.idiv, 1) := by decide +kernel
theorem dX12_restored_10 : decode cX12_restored 10 = .ok (.iadd, 1) := by decide +kernel
theorem dX12_restored_11 : decode cX12_restored 11 = .ok (.iaload, 1) := by decide +kernel
theorem dX12_restored_12 : decode cX12_restored 12 = .ok (.iconst (-1), 1) := by decide +kernel
theorem dX12_restored_13 : decode cX12_restored 13 = .ok (.if_icmp .eq 17, 3) := by decide +kernel
theorem dX12_restored_16 : decode cX12_restored 16 = .ok (.aload_n 0, 1) := by decide +kernel
theorem dX12_restored_17 : decode cX12_restored 17 = .ok (.getfield 7, 3) := by decide +kernel
theorem dX12_restored_20 : decode cX12_restored 20 = .ok (.sipush 272, 3) := by decide +kernel
theorem dX12_restored_23 : decode cX12_restored 23 = .ok (.iload_n 1, 1) := by decide +kernel
theorem dX12_restored_24 : decode cX12_restored 24 = .ok (.iadd, 1) := by decide +kernel
theorem dX12_restored_25 : decode cX12_restored 25 = .ok (.iaload, 1) := by decide +kernel
theorem dX12_restored_26 : decode cX12_restored 26 = .ok (.iconst (-1), 1) := by decide +kernel
theorem dX12_restored_27 : decode cX12_restored 27 = .ok (.if_icmp .ne 7, 3) := by decide +kernel
theorem dX12_restored_30 : decode cX12_restored 30 = .ok (.iconst 0, 1) := by decide +kernel
theorem dX12_restored_31 : decode cX12_restored 31 = .ok (.goto 22, 3) := by decide +kernel
theorem dX12_restored_34 : decode cX12_restored 34 = .ok (.aload_n 0, 1) := by decide +kernel
theorem dX12_restored_35 : decode cX12_restored 35 = .ok (.getfield 7, 3) := by decide +kernel
theorem dX12_restored_38 : decode cX12_restored 38 = .ok (.sipush 368, 3) := by decide +kernel
theorem dX12_restored_41 : decode cX12_restored 41 = .ok (.aload_n 0, 1) := by decide +kernel
theorem dX12_restored_42 : decode cX12_restored 42 = .ok (.getfield 7, 3) := by decide +kernel
theorem dX12_restored_45 : decode cX12_restored 45 = .ok (.sipush 272, 3) := by decide +kernel
theorem dX12_restored_48 : decode cX12_restored 48 = .ok (.iload_n 1, 1) := by decide +kernel
theorem dX12_restored_49 : decode cX12_restored 49 = .ok (.iadd, 1) := by decide +kernel
theorem dX12_restored_50 : decode cX12_restored 50 = .ok (.iaload, 1) := by decide +kernel
theorem dX12_restored_51 : decode cX12_restored 51 = .ok (.iadd, 1) := by decide +kernel
theorem dX12_restored_52 : decode cX12_restored 52 = .ok (.iaload, 1) := by decide +kernel
theorem dX12_restored_53 : decode cX12_restored 53 = .ok (.ireturn, 1) := by decide +kernel
theorem dX12_restore_0 : decode cX12_restore 0 = .ok (.bipush 8, 2) := by decide +kernel
theorem dX12_restore_2 : decode cX12_restore 2 = .ok (.iload_n 1, 1) := by decide +kernel
theorem dX12_restore_3 : decode cX12_restore 3 = .ok (.imul, 1) := by decide +kernel
theorem dX12_restore_4 : decode cX12_restore 4 = .ok (.istore_n 2, 1) := by decide +kernel
theorem dX12_restore_5 : decode cX12_restore 5 = .ok (.iload_n 2, 1) := by decide +kernel
theorem dX12_restore_6 : decode cX12_restore 6 = .ok (.bipush 8, 2) := by decide +kernel
theorem dX12_restore_8 : decode cX12_restore 8 = .ok (.iload_n 1, 1) := by decide +kernel
theorem dX12_restore_9 : decode cX12_restore 9 = .ok (.imul, 1) := by decide +kernel
theorem dX12_restore_10 : decode cX12_restore 10 = .ok (.aload_n 0, 1) := by decide +kernel
theorem dX12_restore_11 : decode cX12_restore 11 = .ok (.getfield 7, 3) := by decide +kernel
theorem dX12_restore_14 : decode cX12_restore 14 = .ok (.bipush 20, 2) := by decide +kernel
theorem dX12_restore_16 : decode cX12_restore 16 = .ok (.iload_n 1, 1) := by decide +kernel
theorem dX12_restore_17 : decode cX12_restore 17 = .ok (.iadd, 1) := by decide +kernel
theorem dX12_restore_18 : decode cX12_restore 18 = .ok (.iaload, 1) := by decide +kernel
theorem dX12_restore_19 : decode cX12_restore 19 = .ok (.iadd, 1) := by decide +kernel
theorem dX12_restore_20 : decode cX12_restore 20 = .ok (.if_icmp .ge 89, 3) := by decide +kernel
theorem dX12_restore_23 : decode cX12_restore 23 = .ok (.aload_n 0, 1) := by decide +kernel
theorem dX12_restore_24 : decode cX12_restore 24 = .ok (.getfield 7, 3) := by decide +kernel
theorem dX12_restore_27 : decode cX12_restore 27 = .ok (.sipush 128, 3) := by decide +kernel
theorem dX12_restore_30 : decode cX12_restore 30 = .ok (.iload_n 2, 1) := by decide +kernel
theorem dX12_restore_31 : decode cX12_restore 31 = .ok (.iadd, 1) := by decide +kernel
theorem dX12_restore_32 : decode cX12_restore 32 = .ok (.iaload, 1) := by decide +kernel
theorem dX12_restore_33 : decode cX12_restore 33 = .ok (.iconst (-1), 1) := by decide +kernel
theorem dX12_restore_34 : decode cX12_restore 34 = .ok (.if_icmp .eq 8, 3) := by decide +kernel
theorem dX12_restore_37 : decode cX12_restore 37 = .ok (.aload_n 0, 1) := by decide +kernel
theorem dX12_restore_38 : decode cX12_restore 38 = .ok (.iload_n 2, 1) := by decide +kernel
theorem dX12_restore_39 : decode cX12_restore 39 = .ok (.invokevirtual 199, 3) := by decide +kernel
theorem dX12_restore_42 : decode cX12_restore 42 = .ok (.aload_n 0, 1) := by decide +kernel
theorem dX12_restore_43 : decode cX12_restore 43 = .ok (.getfield 7, 3) := by decide +kernel
theorem dX12_restore_46 : decode cX12_restore 46 = .ok (.sipush 176, 3) := by decide +kernel
theorem dX12_restore_49 : decode cX12_restore 49 = .ok (.iload_n 2, 1) := by decide +kernel
theorem dX12_restore_50 : decode cX12_restore 50 = .ok (.iadd, 1) := by decide +kernel
theorem dX12_restore_51 : decode cX12_restore 51 = .ok (.iconst 0, 1) := by decide +kernel
theorem dX12_restore_52 : decode cX12_restore 52 = .ok (.iastore, 1) := by decide +kernel
theorem dX12_restore_53 : decode cX12_restore 53 = .ok (.aload_n 0, 1) := by decide +kernel
theorem dX12_restore_54 : decode cX12_restore 54 = .ok (.getfield 7, 3) := by decide +kernel
theorem dX12_restore_57 : decode cX12_restore 57 = .ok (.bipush 80, 2) := by decide +kernel
theorem dX12_restore_59 : decode cX12_restore 59 = .ok (.iload_n 2, 1) := by decide +kernel
theorem dX12_restore_60 : decode cX12_restore 60 = .ok (.iadd, 1) := by decide +kernel
theorem dX12_restore_61 : decode cX12_restore 61 = .ok (.aload_n 0, 1) := by decide +kernel
theorem dX12_restore_62 : decode cX12_restore 62 = .ok (.getfield 7, 3) := by decide +kernel
theorem dX12_restore_65 : decode cX12_restore 65 = .ok (.bipush 26, 2) := by decide +kernel
theorem dX12_restore_67 : decode cX12_restore 67 = .ok (.iload_n 1, 1) := by decide +kernel
theorem dX12_restore_68 : decode cX12_restore 68 = .ok (.iadd, 1) := by decide +kernel
theorem dX12_restore_69 : decode cX12_restore 69 = .ok (.iaload, 1) := by decide +kernel
theorem dX12_restore_70 : decode cX12_restore 70 = .ok (.iconst (-1), 1) := by decide +kernel
theorem dX12_restore_71 : decode cX12_restore 71 = .ok (.if_icmp .ne 7, 3) := by decide +kernel
theorem dX12_restore_74 : decode cX12_restore 74 = .ok (.iconst (-1), 1) := by decide +kernel
theorem dX12_restore_75 : decode cX12_restore 75 = .ok (.goto 13, 3) := by decide +kernel
theorem dX12_restore_78 : decode cX12_restore 78 = .ok (.aload_n 0, 1) := by decide +kernel
theorem dX12_restore_79 : decode cX12_restore 79 = .ok (.getfield 7, 3) := by decide +kernel
theorem dX12_restore_82 : decode cX12_restore 82 = .ok (.sipush 272, 3) := by decide +kernel
theorem dX12_restore_85 : decode cX12_restore 85 = .ok (.iload_n 2, 1) := by decide +kernel
theorem dX12_restore_86 : decode cX12_restore 86 = .ok (.iadd, 1) := by decide +kernel
theorem dX12_restore_87 : decode cX12_restore 87 = .ok (.iaload, 1) := by decide +kernel
theorem dX12_restore_88 : decode cX12_restore 88 = .ok (.iastore, 1) := by decide +kernel
theorem dX12_restore_89 : decode cX12_restore 89 = .ok (.aload_n 0, 1) := by decide +kernel
theorem dX12_restore_90 : decode cX12_restore 90 = .ok (.getfield 7, 3) := by decide +kernel
theorem dX12_restore_93 : decode cX12_restore 93 = .ok (.bipush 32, 2) := by decide +kernel
theorem dX12_restore_95 : decode cX12_restore 95 = .ok (.iload_n 2, 1) := by decide +kernel
theorem dX12_restore_96 : decode cX12_restore 96 = .ok (.iadd, 1) := by decide +kernel
theorem dX12_restore_97 : decode cX12_restore 97 = .ok (.aload_n 0, 1) := by decide +kernel
theorem dX12_restore_98 : decode cX12_restore 98 = .ok (.iload_n 2, 1) := by decide +kernel
theorem dX12_restore_99 : decode cX12_restore 99 = .ok (.invokevirtual 259, 3) := by decide +kernel
theorem dX12_restore_102 : decode cX12_restore 102 = .ok (.iastore, 1) := by decide +kernel
theorem dX12_restore_103 : decode cX12_restore 103 = .ok (.iinc 2 1, 3) := by decide +kernel
theorem dX12_restore_106 : decode cX12_restore 106 = .ok (.goto (-101), 3) := by decide +kernel
theorem dX12_restore_109 : decode cX12_restore 109 = .ok (.return_, 1) := by decide +kernel
theorem dX12_checkpointed_0 : decode cX12_checkpointed 0 = .ok (.iconst 0, 1) := by decide +kernel
theorem dX12_checkpointed_1 : decode cX12_checkpointed 1 = .ok (.istore_n 1, 1) := by decide +kernel
theorem dX12_checkpointed_2 : decode cX12_checkpointed 2 = .ok (.iconst 0, 1) := by decide +kernel
theorem dX12_checkpointed_3 : decode cX12_checkpointed 3 = .ok (.istore_n 2, 1) := by decide +kernel
theorem dX12_checkpointed_4 : decode cX12_checkpointed 4 = .ok (.iload_n 2, 1) := by decide +kernel
theorem dX12_checkpointed_5 : decode cX12_checkpointed 5 = .ok (.aload_n 0, 1) := by decide +kernel
theorem dX12_checkpointed_6 : decode cX12_checkpointed 6 = .ok (.getfield 7, 3) := by decide +kernel
theorem dX12_checkpointed_9 : decode cX12_checkpointed 9 = .ok (.iconst 3, 1) := by decide +kernel
theorem dX12_checkpointed_10 : decode cX12_checkpointed 10 = .ok (.iaload, 1) := by decide +kernel
theorem dX12_checkpointed_11 : decode cX12_checkpointed 11 = .ok (.if_icmp .ge 32, 3) := by decide +kernel
theorem dX12_checkpointed_14 : decode cX12_checkpointed 14 = .ok (.iload_n 1, 1) := by decide +kernel
theorem dX12_checkpointed_15 : decode cX12_checkpointed 15 = .ok (.aload_n 0, 1) := by decide +kernel
theorem dX12_checkpointed_16 : decode cX12_checkpointed 16 = .ok (.getfield 7, 3) := by decide +kernel
theorem dX12_checkpointed_19 : decode cX12_checkpointed 19 = .ok (.bipush 26, 2) := by decide +kernel
theorem dX12_checkpointed_21 : decode cX12_checkpointed 21 = .ok (.iload_n 2, 1) := by decide +kernel
theorem dX12_checkpointed_22 : decode cX12_checkpointed 22 = .ok (.iadd, 1) := by decide +kernel
theorem dX12_checkpointed_23 : decode cX12_checkpointed 23 = .ok (.iaload, 1) := by decide +kernel
theorem dX12_checkpointed_24 : decode cX12_checkpointed 24 = .ok (.iconst (-1), 1) := by decide +kernel
theorem dX12_checkpointed_25 : decode cX12_checkpointed 25 = .ok (.if_icmp .eq 9, 3) := by decide +kernel
theorem dX12_checkpointed_28 : decode cX12_checkpointed 28 = .ok (.iconst 1, 1) := by decide +kernel
theorem dX12_checkpointed_29 : decode cX12_checkpointed 29 = .ok (.iload_n 2, 1) := by decide +kernel
theorem dX12_checkpointed_30 : decode cX12_checkpointed 30 = .ok (.ishl, 1) := by decide +kernel
theorem dX12_checkpointed_31 : decode cX12_checkpointed 31 = .ok (.goto 4, 3) := by decide +kernel
theorem dX12_checkpointed_34 : decode cX12_checkpointed 34 = .ok (.iconst 0, 1) := by decide +kernel
theorem dX12_checkpointed_35 : decode cX12_checkpointed 35 = .ok (.ior, 1) := by decide +kernel
theorem dX12_checkpointed_36 : decode cX12_checkpointed 36 = .ok (.istore_n 1, 1) := by decide +kernel
theorem dX12_checkpointed_37 : decode cX12_checkpointed 37 = .ok (.iinc 2 1, 3) := by decide +kernel
theorem dX12_checkpointed_40 : decode cX12_checkpointed 40 = .ok (.goto (-36), 3) := by decide +kernel
theorem dX12_checkpointed_43 : decode cX12_checkpointed 43 = .ok (.iload_n 1, 1) := by decide +kernel
theorem dX12_checkpointed_44 : decode cX12_checkpointed 44 = .ok (.ireturn, 1) := by decide +kernel
theorem dX12_crashes_0 : decode cX12_crashes 0 = .ok (.aload_n 0, 1) := by decide +kernel
theorem dX12_crashes_1 : decode cX12_crashes 1 = .ok (.getfield 7, 3) := by decide +kernel
theorem dX12_crashes_4 : decode cX12_crashes 4 = .ok (.bipush 10, 2) := by decide +kernel
theorem dX12_crashes_6 : decode cX12_crashes 6 = .ok (.iconst 0, 1) := by decide +kernel
theorem dX12_crashes_7 : decode cX12_crashes 7 = .ok (.iastore, 1) := by decide +kernel
theorem dX12_crashes_8 : decode cX12_crashes 8 = .ok (.iconst 0, 1) := by decide +kernel
theorem dX12_crashes_9 : decode cX12_crashes 9 = .ok (.istore_n 1, 1) := by decide +kernel
theorem dX12_crashes_10 : decode cX12_crashes 10 = .ok (.iload_n 1, 1) := by decide +kernel
theorem dX12_crashes_11 : decode cX12_crashes 11 = .ok (.aload_n 0, 1) := by decide +kernel
theorem dX12_crashes_12 : decode cX12_crashes 12 = .ok (.getfield 7, 3) := by decide +kernel
theorem dX12_crashes_15 : decode cX12_crashes 15 = .ok (.iconst 3, 1) := by decide +kernel
theorem dX12_crashes_16 : decode cX12_crashes 16 = .ok (.iaload, 1) := by decide +kernel
theorem dX12_crashes_17 : decode cX12_crashes 17 = .ok (.if_icmp .ge 14, 3) := by decide +kernel
theorem dX12_crashes_20 : decode cX12_crashes 20 = .ok (.aload_n 0, 1) := by decide +kernel
theorem dX12_crashes_21 : decode cX12_crashes 21 = .ok (.iload_n 1, 1) := by decide +kernel
theorem dX12_crashes_22 : decode cX12_crashes 22 = .ok (.invokevirtual 262, 3) := by decide +kernel
theorem dX12_crashes_25 : decode cX12_crashes 25 = .ok (.iinc 1 1, 3) := by decide +kernel
theorem dX12_crashes_28 : decode cX12_crashes 28 = .ok (.goto (-18), 3) := by decide +kernel
theorem dX12_crashes_31 : decode cX12_crashes 31 = .ok (.aload_n 0, 1) := by decide +kernel
theorem dX12_crashes_32 : decode cX12_crashes 32 = .ok (.getfield 7, 3) := by decide +kernel
theorem dX12_crashes_35 : decode cX12_crashes 35 = .ok (.bipush 12, 2) := by decide +kernel
theorem dX12_crashes_37 : decode cX12_crashes 37 = .ok (.iconst 0, 1) := by decide +kernel
theorem dX12_crashes_38 : decode cX12_crashes 38 = .ok (.iastore, 1) := by decide +kernel
theorem dX12_crashes_39 : decode cX12_crashes 39 = .ok (.aload_n 0, 1) := by decide +kernel
theorem dX12_crashes_40 : decode cX12_crashes 40 = .ok (.getfield 7, 3) := by decide +kernel
theorem dX12_crashes_43 : decode cX12_crashes 43 = .ok (.bipush 9, 2) := by decide +kernel
theorem dX12_crashes_45 : decode cX12_crashes 45 = .ok (.dup2, 1) := by decide +kernel
theorem dX12_crashes_46 : decode cX12_crashes 46 = .ok (.iaload, 1) := by decide +kernel
theorem dX12_crashes_47 : decode cX12_crashes 47 = .ok (.iconst 1, 1) := by decide +kernel
theorem dX12_crashes_48 : decode cX12_crashes 48 = .ok (.iadd, 1) := by decide +kernel
theorem dX12_crashes_49 : decode cX12_crashes 49 = .ok (.iastore, 1) := by decide +kernel
theorem dX12_crashes_50 : decode cX12_crashes 50 = .ok (.return_, 1) := by decide +kernel
theorem dX12_crash_0 : decode cX12_crash 0 = .ok (.aload_n 0, 1) := by decide +kernel
theorem dX12_crash_1 : decode cX12_crash 1 = .ok (.iconst 0, 1) := by decide +kernel
theorem dX12_crash_2 : decode cX12_crash 2 = .ok (.putfield 49, 3) := by decide +kernel
theorem dX12_crash_5 : decode cX12_crash 5 = .ok (.aload_n 0, 1) := by decide +kernel
theorem dX12_crash_6 : decode cX12_crash 6 = .ok (.invokevirtual 229, 3) := by decide +kernel
theorem dX12_crash_9 : decode cX12_crash 9 = .ok (.aload_n 0, 1) := by decide +kernel
theorem dX12_crash_10 : decode cX12_crash 10 = .ok (.invokevirtual 265, 3) := by decide +kernel
theorem dX12_crash_13 : decode cX12_crash 13 = .ok (.aload_n 0, 1) := by decide +kernel
theorem dX12_crash_14 : decode cX12_crash 14 = .ok (.invokevirtual 268, 3) := by decide +kernel
theorem dX12_crash_17 : decode cX12_crash 17 = .ok (.ireturn, 1) := by decide +kernel
theorem dX12_lostOf_0 : decode cX12_lostOf 0 = .ok (.iconst 0, 1) := by decide +kernel
theorem dX12_lostOf_1 : decode cX12_lostOf 1 = .ok (.istore_n 2, 1) := by decide +kernel
theorem dX12_lostOf_2 : decode cX12_lostOf 2 = .ok (.iconst 0, 1) := by decide +kernel
theorem dX12_lostOf_3 : decode cX12_lostOf 3 = .ok (.istore_n 3, 1) := by decide +kernel
theorem dX12_lostOf_4 : decode cX12_lostOf 4 = .ok (.iload_n 3, 1) := by decide +kernel
theorem dX12_lostOf_5 : decode cX12_lostOf 5 = .ok (.aload_n 0, 1) := by decide +kernel
theorem dX12_lostOf_6 : decode cX12_lostOf 6 = .ok (.getfield 7, 3) := by decide +kernel
theorem dX12_lostOf_9 : decode cX12_lostOf 9 = .ok (.bipush 20, 2) := by decide +kernel
theorem dX12_lostOf_11 : decode cX12_lostOf 11 = .ok (.iload_n 1, 1) := by decide +kernel
theorem dX12_lostOf_12 : decode cX12_lostOf 12 = .ok (.iadd, 1) := by decide +kernel
theorem dX12_lostOf_13 : decode cX12_lostOf 13 = .ok (.iaload, 1) := by decide +kernel
theorem dX12_lostOf_14 : decode cX12_lostOf 14 = .ok (.if_icmp .ge 46, 3) := by decide +kernel
theorem dX12_lostOf_17 : decode cX12_lostOf 17 = .ok (.iload_n 2, 1) := by decide +kernel
theorem dX12_lostOf_18 : decode cX12_lostOf 18 = .ok (.aload_n 0, 1) := by decide +kernel
theorem dX12_lostOf_19 : decode cX12_lostOf 19 = .ok (.getfield 7, 3) := by decide +kernel
theorem dX12_lostOf_22 : decode cX12_lostOf 22 = .ok (.bipush 32, 2) := by decide +kernel
theorem dX12_lostOf_24 : decode cX12_lostOf 24 = .ok (.bipush 8, 2) := by decide +kernel
theorem dX12_lostOf_26 : decode cX12_lostOf 26 = .ok (.iload_n 1, 1) := by decide +kernel
theorem dX12_lostOf_27 : decode cX12_lostOf 27 = .ok (.imul, 1) := by decide +kernel
theorem dX12_lostOf_28 : decode cX12_lostOf 28 = .ok (.iadd, 1) := by decide +kernel
theorem dX12_lostOf_29 : decode cX12_lostOf 29 = .ok (.iload_n 3, 1) := by decide +kernel
theorem dX12_lostOf_30 : decode cX12_lostOf 30 = .ok (.iadd, 1) := by decide +kernel
theorem dX12_lostOf_31 : decode cX12_lostOf 31 = .ok (.iaload, 1) := by decide +kernel
theorem dX12_lostOf_32 : decode cX12_lostOf 32 = .ok (.aload_n 0, 1) := by decide +kernel
theorem dX12_lostOf_33 : decode cX12_lostOf 33 = .ok (.bipush 8, 2) := by decide +kernel
theorem dX12_lostOf_35 : decode cX12_lostOf 35 = .ok (.iload_n 1, 1) := by decide +kernel
theorem dX12_lostOf_36 : decode cX12_lostOf 36 = .ok (.imul, 1) := by decide +kernel
theorem dX12_lostOf_37 : decode cX12_lostOf 37 = .ok (.iload_n 3, 1) := by decide +kernel
theorem dX12_lostOf_38 : decode cX12_lostOf 38 = .ok (.iadd, 1) := by decide +kernel
theorem dX12_lostOf_39 : decode cX12_lostOf 39 = .ok (.invokevirtual 259, 3) := by decide +kernel
theorem dX12_lostOf_42 : decode cX12_lostOf 42 = .ok (.if_icmp .eq 9, 3) := by decide +kernel
theorem dX12_lostOf_45 : decode cX12_lostOf 45 = .ok (.iconst 1, 1) := by decide +kernel
theorem dX12_lostOf_46 : decode cX12_lostOf 46 = .ok (.iload_n 3, 1) := by decide +kernel
theorem dX12_lostOf_47 : decode cX12_lostOf 47 = .ok (.ishl, 1) := by decide +kernel
theorem dX12_lostOf_48 : decode cX12_lostOf 48 = .ok (.goto 4, 3) := by decide +kernel
theorem dX12_lostOf_51 : decode cX12_lostOf 51 = .ok (.iconst 0, 1) := by decide +kernel
theorem dX12_lostOf_52 : decode cX12_lostOf 52 = .ok (.ior, 1) := by decide +kernel
theorem dX12_lostOf_53 : decode cX12_lostOf 53 = .ok (.istore_n 2, 1) := by decide +kernel
theorem dX12_lostOf_54 : decode cX12_lostOf 54 = .ok (.iinc 3 1, 3) := by decide +kernel
theorem dX12_lostOf_57 : decode cX12_lostOf 57 = .ok (.goto (-53), 3) := by decide +kernel
theorem dX12_lostOf_60 : decode cX12_lostOf 60 = .ok (.iload_n 2, 1) := by decide +kernel
theorem dX12_lostOf_61 : decode cX12_lostOf 61 = .ok (.ireturn, 1) := by decide +kernel
theorem dX12_rollback_0 : decode cX12_rollback 0 = .ok (.aload_n 0, 1) := by decide +kernel
theorem dX12_rollback_1 : decode cX12_rollback 1 = .ok (.iload_n 1, 1) := by decide +kernel
theorem dX12_rollback_2 : decode cX12_rollback 2 = .ok (.invokevirtual 271, 3) := by decide +kernel
theorem dX12_rollback_5 : decode cX12_rollback 5 = .ok (.ifCond .ne 48, 3) := by decide +kernel
theorem dX12_rollback_8 : decode cX12_rollback 8 = .ok (.aload_n 0, 1) := by decide +kernel
theorem dX12_rollback_9 : decode cX12_rollback 9 = .ok (.aload_n 0, 1) := by decide +kernel
theorem dX12_rollback_10 : decode cX12_rollback 10 = .ok (.getfield 7, 3) := by decide +kernel
theorem dX12_rollback_13 : decode cX12_rollback 13 = .ok (.bipush 26, 2) := by decide +kernel
theorem dX12_rollback_15 : decode cX12_rollback 15 = .ok (.iload_n 1, 1) := by decide +kernel
theorem dX12_rollback_16 : decode cX12_rollback 16 = .ok (.iadd, 1) := by decide +kernel
theorem dX12_rollback_17 : decode cX12_rollback 17 = .ok (.iaload, 1) := by decide +kernel
theorem dX12_rollback_18 : decode cX12_rollback 18 = .ok (.iconst (-1), 1) := by decide +kernel
theorem dX12_rollback_19 : decode cX12_rollback 19 = .ok (.if_icmp .ne 7, 3) := by decide +kernel
theorem dX12_rollback_22 : decode cX12_rollback 22 = .ok (.iconst 1, 1) := by decide +kernel
theorem dX12_rollback_23 : decode cX12_rollback 23 = .ok (.goto 4, 3) := by decide +kernel
theorem dX12_rollback_26 : decode cX12_rollback 26 = .ok (.iconst 0, 1) := by decide +kernel
theorem dX12_rollback_27 : decode cX12_rollback 27 = .ok (.iconst 2, 1) := by decide +kernel
theorem dX12_rollback_28 : decode cX12_rollback 28 = .ok (.invokevirtual 60, 3) := by decide +kernel
theorem dX12_rollback_31 : decode cX12_rollback 31 = .ok (.ifCond .ne 22, 3) := by decide +kernel
theorem dX12_rollback_34 : decode cX12_rollback 34 = .ok (.aload_n 0, 1) := by decide +kernel
theorem dX12_rollback_35 : decode cX12_rollback 35 = .ok (.aload_n 0, 1) := by decide +kernel
theorem dX12_rollback_36 : decode cX12_rollback 36 = .ok (.getfield 7, 3) := by decide +kernel
theorem dX12_rollback_39 : decode cX12_rollback 39 = .ok (.bipush 10, 2) := by decide +kernel
theorem dX12_rollback_41 : decode cX12_rollback 41 = .ok (.iaload, 1) := by decide +kernel
theorem dX12_rollback_42 : decode cX12_rollback 42 = .ok (.iload_n 1, 1) := by decide +kernel
theorem dX12_rollback_43 : decode cX12_rollback 43 = .ok (.invokestatic 68, 3) := by decide +kernel
theorem dX12_rollback_46 : decode cX12_rollback 46 = .ok (.iconst 3, 1) := by decide +kernel
theorem dX12_rollback_47 : decode cX12_rollback 47 = .ok (.invokevirtual 60, 3) := by decide +kernel
theorem dX12_rollback_50 : decode cX12_rollback 50 = .ok (.ifCond .eq 5, 3) := by decide +kernel
theorem dX12_rollback_53 : decode cX12_rollback 53 = .ok (.iconst 0, 1) := by decide +kernel
theorem dX12_rollback_54 : decode cX12_rollback 54 = .ok (.ireturn, 1) := by decide +kernel
theorem dX12_rollback_55 : decode cX12_rollback 55 = .ok (.aload_n 0, 1) := by decide +kernel
theorem dX12_rollback_56 : decode cX12_rollback 56 = .ok (.invokevirtual 229, 3) := by decide +kernel
theorem dX12_rollback_59 : decode cX12_rollback 59 = .ok (.aload_n 0, 1) := by decide +kernel
theorem dX12_rollback_60 : decode cX12_rollback 60 = .ok (.iload_n 1, 1) := by decide +kernel
theorem dX12_rollback_61 : decode cX12_rollback 61 = .ok (.invokevirtual 274, 3) := by decide +kernel
theorem dX12_rollback_64 : decode cX12_rollback 64 = .ok (.istore_n 2, 1) := by decide +kernel
theorem dX12_rollback_65 : decode cX12_rollback 65 = .ok (.aload_n 0, 1) := by decide +kernel
theorem dX12_rollback_66 : decode cX12_rollback 66 = .ok (.iload_n 1, 1) := by decide +kernel
theorem dX12_rollback_67 : decode cX12_rollback 67 = .ok (.invokevirtual 262, 3) := by decide +kernel
theorem dX12_rollback_70 : decode cX12_rollback 70 = .ok (.iload_n 2, 1) := by decide +kernel
theorem dX12_rollback_71 : decode cX12_rollback 71 = .ok (.ireturn, 1) := by decide +kernel
theorem dX12_isStuckOut_0 : decode cX12_isStuckOut 0 = .ok (.aload_n 0, 1) := by decide +kernel
theorem dX12_isStuckOut_1 : decode cX12_isStuckOut 1 = .ok (.getfield 7, 3) := by decide +kernel
theorem dX12_isStuckOut_4 : decode cX12_isStuckOut 4 = .ok (.sipush 176, 3) := by decide +kernel
theorem dX12_isStuckOut_7 : decode cX12_isStuckOut 7 = .ok (.iload_n 1, 1) := by decide +kernel
theorem dX12_isStuckOut_8 : decode cX12_isStuckOut 8 = .ok (.iadd, 1) := by decide +kernel
theorem dX12_isStuckOut_9 : decode cX12_isStuckOut 9 = .ok (.iaload, 1) := by decide +kernel
theorem dX12_isStuckOut_10 : decode cX12_isStuckOut 10 = .ok (.iconst 1, 1) := by decide +kernel
theorem dX12_isStuckOut_11 : decode cX12_isStuckOut 11 = .ok (.if_icmp .ne 15, 3) := by decide +kernel
theorem dX12_isStuckOut_14 : decode cX12_isStuckOut 14 = .ok (.aload_n 0, 1) := by decide +kernel
theorem dX12_isStuckOut_15 : decode cX12_isStuckOut 15 = .ok (.invokevirtual 186, 3) := by decide +kernel
theorem dX12_isStuckOut_18 : decode cX12_isStuckOut 18 = .ok (.iconst (-1), 1) := by decide +kernel
theorem dX12_isStuckOut_19 : decode cX12_isStuckOut 19 = .ok (.if_icmp .ne 7, 3) := by decide +kernel
theorem dX12_isStuckOut_22 : decode cX12_isStuckOut 22 = .ok (.iconst 1, 1) := by decide +kernel
theorem dX12_isStuckOut_23 : decode cX12_isStuckOut 23 = .ok (.goto 4, 3) := by decide +kernel
theorem dX12_isStuckOut_26 : decode cX12_isStuckOut 26 = .ok (.iconst 0, 1) := by decide +kernel
theorem dX12_isStuckOut_27 : decode cX12_isStuckOut 27 = .ok (.ireturn, 1) := by decide +kernel
theorem dX12_evictPage_0 : decode cX12_evictPage 0 = .ok (.aload_n 0, 1) := by decide +kernel
theorem dX12_evictPage_1 : decode cX12_evictPage 1 = .ok (.iload_n 1, 1) := by decide +kernel
theorem dX12_evictPage_2 : decode cX12_evictPage 2 = .ok (.iload_n 2, 1) := by decide +kernel
theorem dX12_evictPage_3 : decode cX12_evictPage 3 = .ok (.invokevirtual 219, 3) := by decide +kernel
theorem dX12_evictPage_6 : decode cX12_evictPage 6 = .ok (.ifCond .eq 5, 3) := by decide +kernel
theorem dX12_evictPage_9 : decode cX12_evictPage 9 = .ok (.iconst 0, 1) := by decide +kernel
theorem dX12_evictPage_10 : decode cX12_evictPage 10 = .ok (.ireturn, 1) := by decide +kernel
theorem dX12_evictPage_11 : decode cX12_evictPage 11 = .ok (.iload_n 1, 1) := by decide +kernel
theorem dX12_evictPage_12 : decode cX12_evictPage 12 = .ok (.iload_n 2, 1) := by decide +kernel
theorem dX12_evictPage_13 : decode cX12_evictPage 13 = .ok (.invokestatic 222, 3) := by decide +kernel
theorem dX12_evictPage_16 : decode cX12_evictPage 16 = .ok (.istore_n 3, 1) := by decide +kernel
theorem dX12_evictPage_17 : decode cX12_evictPage 17 = .ok (.aload_n 0, 1) := by decide +kernel
theorem dX12_evictPage_18 : decode cX12_evictPage 18 = .ok (.aload_n 0, 1) := by decide +kernel
theorem dX12_evictPage_19 : decode cX12_evictPage 19 = .ok (.getfield 7, 3) := by decide +kernel
theorem dX12_evictPage_22 : decode cX12_evictPage 22 = .ok (.sipush 128, 3) := by decide +kernel
theorem dX12_evictPage_25 : decode cX12_evictPage 25 = .ok (.iload_n 3, 1) := by decide +kernel
theorem dX12_evictPage_26 : decode cX12_evictPage 26 = .ok (.iadd, 1) := by decide +kernel
theorem dX12_evictPage_27 : decode cX12_evictPage 27 = .ok (.iaload, 1) := by decide +kernel
theorem dX12_evictPage_28 : decode cX12_evictPage 28 = .ok (.iconst (-1), 1) := by decide +kernel
theorem dX12_evictPage_29 : decode cX12_evictPage 29 = .ok (.if_icmp .ne 7, 3) := by decide +kernel
theorem dX12_evictPage_32 : decode cX12_evictPage 32 = .ok (.iconst 1, 1) := by decide +kernel
theorem dX12_evictPage_33 : decode cX12_evictPage 33 = .ok (.goto 4, 3) := by decide +kernel
theorem dX12_evictPage_36 : decode cX12_evictPage 36 = .ok (.iconst 0, 1) := by decide +kernel
theorem dX12_evictPage_37 : decode cX12_evictPage 37 = .ok (.iconst 2, 1) := by decide +kernel
theorem dX12_evictPage_38 : decode cX12_evictPage 38 = .ok (.invokevirtual 60, 3) := by decide +kernel
theorem dX12_evictPage_41 : decode cX12_evictPage 41 = .ok (.ifCond .ne 16, 3) := by decide +kernel
theorem dX12_evictPage_44 : decode cX12_evictPage 44 = .ok (.aload_n 0, 1) := by decide +kernel
theorem dX12_evictPage_45 : decode cX12_evictPage 45 = .ok (.aload_n 0, 1) := by decide +kernel
theorem dX12_evictPage_46 : decode cX12_evictPage 46 = .ok (.iload_n 3, 1) := by decide +kernel
theorem dX12_evictPage_47 : decode cX12_evictPage 47 = .ok (.invokevirtual 277, 3) := by decide +kernel
theorem dX12_evictPage_50 : decode cX12_evictPage 50 = .ok (.iconst 3, 1) := by decide +kernel
theorem dX12_evictPage_51 : decode cX12_evictPage 51 = .ok (.invokevirtual 60, 3) := by decide +kernel
theorem dX12_evictPage_54 : decode cX12_evictPage 54 = .ok (.ifCond .eq 5, 3) := by decide +kernel
theorem dX12_evictPage_57 : decode cX12_evictPage 57 = .ok (.iconst 0, 1) := by decide +kernel
theorem dX12_evictPage_58 : decode cX12_evictPage 58 = .ok (.ireturn, 1) := by decide +kernel
theorem dX12_evictPage_59 : decode cX12_evictPage 59 = .ok (.aload_n 0, 1) := by decide +kernel
theorem dX12_evictPage_60 : decode cX12_evictPage 60 = .ok (.invokevirtual 229, 3) := by decide +kernel
theorem dX12_evictPage_63 : decode cX12_evictPage 63 = .ok (.aload_n 0, 1) := by decide +kernel
theorem dX12_evictPage_64 : decode cX12_evictPage 64 = .ok (.iload_n 3, 1) := by decide +kernel
theorem dX12_evictPage_65 : decode cX12_evictPage 65 = .ok (.invokevirtual 208, 3) := by decide +kernel
theorem dX12_evictPage_68 : decode cX12_evictPage 68 = .ok (.aload_n 0, 1) := by decide +kernel
theorem dX12_evictPage_69 : decode cX12_evictPage 69 = .ok (.getfield 7, 3) := by decide +kernel
theorem dX12_evictPage_72 : decode cX12_evictPage 72 = .ok (.bipush 80, 2) := by decide +kernel
theorem dX12_evictPage_74 : decode cX12_evictPage 74 = .ok (.iload_n 3, 1) := by decide +kernel
theorem dX12_evictPage_75 : decode cX12_evictPage 75 = .ok (.iadd, 1) := by decide +kernel
theorem dX12_evictPage_76 : decode cX12_evictPage 76 = .ok (.iaload, 1) := by decide +kernel
theorem dX12_evictPage_77 : decode cX12_evictPage 77 = .ok (.ireturn, 1) := by decide +kernel
theorem dX12_operation_0 : decode cX12_operation 0 = .ok (.aload_n 0, 1) := by decide +kernel
theorem dX12_operation_1 : decode cX12_operation 1 = .ok (.ldc_w 280, 3) := by decide +kernel
theorem dX12_operation_4 : decode cX12_operation 4 = .ok (.invokevirtual 136, 3) := by decide +kernel
theorem dX12_operation_7 : decode cX12_operation 7 = .ok (.ifCond .eq 5, 3) := by decide +kernel
theorem dX12_operation_10 : decode cX12_operation 10 = .ok (.iconst 0, 1) := by decide +kernel
theorem dX12_operation_11 : decode cX12_operation 11 = .ok (.ireturn, 1) := by decide +kernel
theorem dX12_operation_12 : decode cX12_operation 12 = .ok (.aload_n 0, 1) := by decide +kernel
theorem dX12_operation_13 : decode cX12_operation 13 = .ok (.ldc_w 282, 3) := by decide +kernel
theorem dX12_operation_16 : decode cX12_operation 16 = .ok (.invokevirtual 136, 3) := by decide +kernel
theorem dX12_operation_19 : decode cX12_operation 19 = .ok (.ifCond .eq 5, 3) := by decide +kernel
theorem dX12_operation_22 : decode cX12_operation 22 = .ok (.iconst 1, 1) := by decide +kernel
theorem dX12_operation_23 : decode cX12_operation 23 = .ok (.ireturn, 1) := by decide +kernel
theorem dX12_operation_24 : decode cX12_operation 24 = .ok (.aload_n 0, 1) := by decide +kernel
theorem dX12_operation_25 : decode cX12_operation 25 = .ok (.ldc_w 283, 3) := by decide +kernel
theorem dX12_operation_28 : decode cX12_operation 28 = .ok (.invokevirtual 136, 3) := by decide +kernel
theorem dX12_operation_31 : decode cX12_operation 31 = .ok (.ifCond .eq 5, 3) := by decide +kernel
theorem dX12_operation_34 : decode cX12_operation 34 = .ok (.iconst 2, 1) := by decide +kernel
theorem dX12_operation_35 : decode cX12_operation 35 = .ok (.ireturn, 1) := by decide +kernel
theorem dX12_operation_36 : decode cX12_operation 36 = .ok (.aload_n 0, 1) := by decide +kernel
theorem dX12_operation_37 : decode cX12_operation 37 = .ok (.ldc_w 285, 3) := by decide +kernel
theorem dX12_operation_40 : decode cX12_operation 40 = .ok (.invokevirtual 136, 3) := by decide +kernel
theorem dX12_operation_43 : decode cX12_operation 43 = .ok (.ifCond .eq 5, 3) := by decide +kernel
theorem dX12_operation_46 : decode cX12_operation 46 = .ok (.iconst 3, 1) := by decide +kernel
theorem dX12_operation_47 : decode cX12_operation 47 = .ok (.ireturn, 1) := by decide +kernel
theorem dX12_operation_48 : decode cX12_operation 48 = .ok (.aload_n 0, 1) := by decide +kernel
theorem dX12_operation_49 : decode cX12_operation 49 = .ok (.ldc_w 286, 3) := by decide +kernel
theorem dX12_operation_52 : decode cX12_operation 52 = .ok (.invokevirtual 136, 3) := by decide +kernel
theorem dX12_operation_55 : decode cX12_operation 55 = .ok (.ifCond .eq 5, 3) := by decide +kernel
theorem dX12_operation_58 : decode cX12_operation 58 = .ok (.iconst 4, 1) := by decide +kernel
theorem dX12_operation_59 : decode cX12_operation 59 = .ok (.ireturn, 1) := by decide +kernel
theorem dX12_operation_60 : decode cX12_operation 60 = .ok (.aload_n 0, 1) := by decide +kernel
theorem dX12_operation_61 : decode cX12_operation 61 = .ok (.ldc_w 287, 3) := by decide +kernel
theorem dX12_operation_64 : decode cX12_operation 64 = .ok (.invokevirtual 136, 3) := by decide +kernel
theorem dX12_operation_67 : decode cX12_operation 67 = .ok (.ifCond .eq 5, 3) := by decide +kernel
theorem dX12_operation_70 : decode cX12_operation 70 = .ok (.iconst 5, 1) := by decide +kernel
theorem dX12_operation_71 : decode cX12_operation 71 = .ok (.ireturn, 1) := by decide +kernel
theorem dX12_operation_72 : decode cX12_operation 72 = .ok (.aload_n 0, 1) := by decide +kernel
theorem dX12_operation_73 : decode cX12_operation 73 = .ok (.ldc_w 288, 3) := by decide +kernel
theorem dX12_operation_76 : decode cX12_operation 76 = .ok (.invokevirtual 136, 3) := by decide +kernel
theorem dX12_operation_79 : decode cX12_operation 79 = .ok (.ifCond .eq 6, 3) := by decide +kernel
theorem dX12_operation_82 : decode cX12_operation 82 = .ok (.bipush 6, 2) := by decide +kernel
theorem dX12_operation_84 : decode cX12_operation 84 = .ok (.ireturn, 1) := by decide +kernel
theorem dX12_operation_85 : decode cX12_operation 85 = .ok (.aload_n 0, 1) := by decide +kernel
theorem dX12_operation_86 : decode cX12_operation 86 = .ok (.ldc_w 290, 3) := by decide +kernel
theorem dX12_operation_89 : decode cX12_operation 89 = .ok (.invokevirtual 136, 3) := by decide +kernel
theorem dX12_operation_92 : decode cX12_operation 92 = .ok (.ifCond .eq 8, 3) := by decide +kernel
theorem dX12_operation_95 : decode cX12_operation 95 = .ok (.bipush 7, 2) := by decide +kernel
theorem dX12_operation_97 : decode cX12_operation 97 = .ok (.goto 19, 3) := by decide +kernel
theorem dX12_operation_100 : decode cX12_operation 100 = .ok (.aload_n 0, 1) := by decide +kernel
theorem dX12_operation_101 : decode cX12_operation 101 = .ok (.ldc_w 292, 3) := by decide +kernel
theorem dX12_operation_104 : decode cX12_operation 104 = .ok (.invokevirtual 136, 3) := by decide +kernel
theorem dX12_operation_107 : decode cX12_operation 107 = .ok (.ifCond .eq 8, 3) := by decide +kernel
theorem dX12_operation_110 : decode cX12_operation 110 = .ok (.bipush 8, 2) := by decide +kernel
theorem dX12_operation_112 : decode cX12_operation 112 = .ok (.goto 4, 3) := by decide +kernel
theorem dX12_operation_115 : decode cX12_operation 115 = .ok (.iconst (-1), 1) := by decide +kernel
theorem dX12_operation_116 : decode cX12_operation 116 = .ok (.ireturn, 1) := by decide +kernel
theorem dX12_numbersOf_0 : decode cX12_numbersOf 0 = .ok (.iload_n 0, 1) := by decide +kernel
theorem dX12_numbersOf_1 : decode cX12_numbersOf 1 = .ok (.tableswitch 57 0 8 #[53, 51, 55, 55, 57, 57, 57, 55, 53], 51) := by decide +kernel
theorem dX12_numbersOf_52 : decode cX12_numbersOf 52 = .ok (.iconst 3, 1) := by decide +kernel
theorem dX12_numbersOf_53 : decode cX12_numbersOf 53 = .ok (.ireturn, 1) := by decide +kernel
theorem dX12_numbersOf_54 : decode cX12_numbersOf 54 = .ok (.iconst 2, 1) := by decide +kernel
theorem dX12_numbersOf_55 : decode cX12_numbersOf 55 = .ok (.ireturn, 1) := by decide +kernel
theorem dX12_numbersOf_56 : decode cX12_numbersOf 56 = .ok (.iconst 1, 1) := by decide +kernel
theorem dX12_numbersOf_57 : decode cX12_numbersOf 57 = .ok (.ireturn, 1) := by decide +kernel
theorem dX12_numbersOf_58 : decode cX12_numbersOf 58 = .ok (.iconst 0, 1) := by decide +kernel
theorem dX12_numbersOf_59 : decode cX12_numbersOf 59 = .ok (.ireturn, 1) := by decide +kernel
theorem dX12_doesAccess_0 : decode cX12_doesAccess 0 = .ok (.aload_n 0, 1) := by decide +kernel
theorem dX12_doesAccess_1 : decode cX12_doesAccess 1 = .ok (.aload_n 0, 1) := by decide +kernel
theorem dX12_doesAccess_2 : decode cX12_doesAccess 2 = .ok (.getfield 30, 3) := by decide +kernel
theorem dX12_doesAccess_5 : decode cX12_doesAccess 5 = .ok (.iconst 0, 1) := by decide +kernel
theorem dX12_doesAccess_6 : decode cX12_doesAccess 6 = .ok (.iaload, 1) := by decide +kernel
theorem dX12_doesAccess_7 : decode cX12_doesAccess 7 = .ok (.aload_n 0, 1) := by decide +kernel
theorem dX12_doesAccess_8 : decode cX12_doesAccess 8 = .ok (.getfield 30, 3) := by decide +kernel
theorem dX12_doesAccess_11 : decode cX12_doesAccess 11 = .ok (.iconst 1, 1) := by decide +kernel
theorem dX12_doesAccess_12 : decode cX12_doesAccess 12 = .ok (.iaload, 1) := by decide +kernel
theorem dX12_doesAccess_13 : decode cX12_doesAccess 13 = .ok (.invokevirtual 64, 3) := by decide +kernel
theorem dX12_doesAccess_16 : decode cX12_doesAccess 16 = .ok (.ifCond .ne 5, 3) := by decide +kernel
theorem dX12_doesAccess_19 : decode cX12_doesAccess 19 = .ok (.iconst 0, 1) := by decide +kernel
theorem dX12_doesAccess_20 : decode cX12_doesAccess 20 = .ok (.ireturn, 1) := by decide +kernel
theorem dX12_doesAccess_21 : decode cX12_doesAccess 21 = .ok (.aload_n 0, 1) := by decide +kernel
theorem dX12_doesAccess_22 : decode cX12_doesAccess 22 = .ok (.getfield 30, 3) := by decide +kernel
theorem dX12_doesAccess_25 : decode cX12_doesAccess 25 = .ok (.iconst 0, 1) := by decide +kernel
theorem dX12_doesAccess_26 : decode cX12_doesAccess 26 = .ok (.iaload, 1) := by decide +kernel
theorem dX12_doesAccess_27 : decode cX12_doesAccess 27 = .ok (.aload_n 0, 1) := by decide +kernel
theorem dX12_doesAccess_28 : decode cX12_doesAccess 28 = .ok (.getfield 30, 3) := by decide +kernel
theorem dX12_doesAccess_31 : decode cX12_doesAccess 31 = .ok (.iconst 1, 1) := by decide +kernel
theorem dX12_doesAccess_32 : decode cX12_doesAccess 32 = .ok (.iaload, 1) := by decide +kernel
theorem dX12_doesAccess_33 : decode cX12_doesAccess 33 = .ok (.invokestatic 222, 3) := by decide +kernel
theorem dX12_doesAccess_36 : decode cX12_doesAccess 36 = .ok (.istore_n 2, 1) := by decide +kernel
theorem dX12_doesAccess_37 : decode cX12_doesAccess 37 = .ok (.aload_n 0, 1) := by decide +kernel
theorem dX12_doesAccess_38 : decode cX12_doesAccess 38 = .ok (.iload_n 2, 1) := by decide +kernel
theorem dX12_doesAccess_39 : decode cX12_doesAccess 39 = .ok (.iload_n 1, 1) := by decide +kernel
theorem dX12_doesAccess_40 : decode cX12_doesAccess 40 = .ok (.invokevirtual 225, 3) := by decide +kernel
theorem dX12_doesAccess_43 : decode cX12_doesAccess 43 = .ok (.ifCond .eq 5, 3) := by decide +kernel
theorem dX12_doesAccess_46 : decode cX12_doesAccess 46 = .ok (.iconst 0, 1) := by decide +kernel
theorem dX12_doesAccess_47 : decode cX12_doesAccess 47 = .ok (.ireturn, 1) := by decide +kernel
theorem dX12_doesAccess_48 : decode cX12_doesAccess 48 = .ok (.iload_n 1, 1) := by decide +kernel
theorem dX12_doesAccess_49 : decode cX12_doesAccess 49 = .ok (.ifCond .eq 17, 3) := by decide +kernel
theorem dX12_doesAccess_52 : decode cX12_doesAccess 52 = .ok (.aload_n 0, 1) := by decide +kernel
theorem dX12_doesAccess_53 : decode cX12_doesAccess 53 = .ok (.iload_n 2, 1) := by decide +kernel
theorem dX12_doesAccess_54 : decode cX12_doesAccess 54 = .ok (.aload_n 0, 1) := by decide +kernel
theorem dX12_doesAccess_55 : decode cX12_doesAccess 55 = .ok (.getfield 30, 3) := by decide +kernel
theorem dX12_doesAccess_58 : decode cX12_doesAccess 58 = .ok (.iconst 2, 1) := by decide +kernel
theorem dX12_doesAccess_59 : decode cX12_doesAccess 59 = .ok (.iaload, 1) := by decide +kernel
theorem dX12_doesAccess_60 : decode cX12_doesAccess 60 = .ok (.invokevirtual 232, 3) := by decide +kernel
theorem dX12_doesAccess_63 : decode cX12_doesAccess 63 = .ok (.goto 8, 3) := by decide +kernel
theorem dX12_doesAccess_66 : decode cX12_doesAccess 66 = .ok (.aload_n 0, 1) := by decide +kernel
theorem dX12_doesAccess_67 : decode cX12_doesAccess 67 = .ok (.iload_n 2, 1) := by decide +kernel
theorem dX12_doesAccess_68 : decode cX12_doesAccess 68 = .ok (.invokevirtual 212, 3) := by decide +kernel
theorem dX12_doesAccess_71 : decode cX12_doesAccess 71 = .ok (.iconst 1, 1) := by decide +kernel
theorem dX12_doesAccess_72 : decode cX12_doesAccess 72 = .ok (.ireturn, 1) := by decide +kernel
theorem dX12_doesEvict_0 : decode cX12_doesEvict 0 = .ok (.aload_n 0, 1) := by decide +kernel
theorem dX12_doesEvict_1 : decode cX12_doesEvict 1 = .ok (.aload_n 0, 1) := by decide +kernel
theorem dX12_doesEvict_2 : decode cX12_doesEvict 2 = .ok (.getfield 30, 3) := by decide +kernel
theorem dX12_doesEvict_5 : decode cX12_doesEvict 5 = .ok (.iconst 0, 1) := by decide +kernel
theorem dX12_doesEvict_6 : decode cX12_doesEvict 6 = .ok (.iaload, 1) := by decide +kernel
theorem dX12_doesEvict_7 : decode cX12_doesEvict 7 = .ok (.aload_n 0, 1) := by decide +kernel
theorem dX12_doesEvict_8 : decode cX12_doesEvict 8 = .ok (.getfield 30, 3) := by decide +kernel
theorem dX12_doesEvict_11 : decode cX12_doesEvict 11 = .ok (.iconst 1, 1) := by decide +kernel
theorem dX12_doesEvict_12 : decode cX12_doesEvict 12 = .ok (.iaload, 1) := by decide +kernel
theorem dX12_doesEvict_13 : decode cX12_doesEvict 13 = .ok (.invokevirtual 64, 3) := by decide +kernel
theorem dX12_doesEvict_16 : decode cX12_doesEvict 16 = .ok (.ifCond .ne 5, 3) := by decide +kernel
theorem dX12_doesEvict_19 : decode cX12_doesEvict 19 = .ok (.iconst 0, 1) := by decide +kernel
theorem dX12_doesEvict_20 : decode cX12_doesEvict 20 = .ok (.ireturn, 1) := by decide +kernel
theorem dX12_doesEvict_21 : decode cX12_doesEvict 21 = .ok (.aload_n 0, 1) := by decide +kernel
theorem dX12_doesEvict_22 : decode cX12_doesEvict 22 = .ok (.getfield 30, 3) := by decide +kernel
theorem dX12_doesEvict_25 : decode cX12_doesEvict 25 = .ok (.iconst 0, 1) := by decide +kernel
theorem dX12_doesEvict_26 : decode cX12_doesEvict 26 = .ok (.iaload, 1) := by decide +kernel
theorem dX12_doesEvict_27 : decode cX12_doesEvict 27 = .ok (.aload_n 0, 1) := by decide +kernel
theorem dX12_doesEvict_28 : decode cX12_doesEvict 28 = .ok (.getfield 30, 3) := by decide +kernel
theorem dX12_doesEvict_31 : decode cX12_doesEvict 31 = .ok (.iconst 1, 1) := by decide +kernel
theorem dX12_doesEvict_32 : decode cX12_doesEvict 32 = .ok (.iaload, 1) := by decide +kernel
theorem dX12_doesEvict_33 : decode cX12_doesEvict 33 = .ok (.invokestatic 222, 3) := by decide +kernel
theorem dX12_doesEvict_36 : decode cX12_doesEvict 36 = .ok (.istore_n 1, 1) := by decide +kernel
theorem dX12_doesEvict_37 : decode cX12_doesEvict 37 = .ok (.aload_n 0, 1) := by decide +kernel
theorem dX12_doesEvict_38 : decode cX12_doesEvict 38 = .ok (.getfield 7, 3) := by decide +kernel
theorem dX12_doesEvict_41 : decode cX12_doesEvict 41 = .ok (.sipush 128, 3) := by decide +kernel
theorem dX12_doesEvict_44 : decode cX12_doesEvict 44 = .ok (.iload_n 1, 1) := by decide +kernel
theorem dX12_doesEvict_45 : decode cX12_doesEvict 45 = .ok (.iadd, 1) := by decide +kernel
theorem dX12_doesEvict_46 : decode cX12_doesEvict 46 = .ok (.iaload, 1) := by decide +kernel
theorem dX12_doesEvict_47 : decode cX12_doesEvict 47 = .ok (.iconst (-1), 1) := by decide +kernel
theorem dX12_doesEvict_48 : decode cX12_doesEvict 48 = .ok (.if_icmp .eq 11, 3) := by decide +kernel
theorem dX12_doesEvict_51 : decode cX12_doesEvict 51 = .ok (.aload_n 0, 1) := by decide +kernel
theorem dX12_doesEvict_52 : decode cX12_doesEvict 52 = .ok (.iload_n 1, 1) := by decide +kernel
theorem dX12_doesEvict_53 : decode cX12_doesEvict 53 = .ok (.invokevirtual 277, 3) := by decide +kernel
theorem dX12_doesEvict_56 : decode cX12_doesEvict 56 = .ok (.ifCond .eq 5, 3) := by decide +kernel
theorem dX12_doesEvict_59 : decode cX12_doesEvict 59 = .ok (.iconst 0, 1) := by decide +kernel
theorem dX12_doesEvict_60 : decode cX12_doesEvict 60 = .ok (.ireturn, 1) := by decide +kernel
theorem dX12_doesEvict_61 : decode cX12_doesEvict 61 = .ok (.aload_n 0, 1) := by decide +kernel
theorem dX12_doesEvict_62 : decode cX12_doesEvict 62 = .ok (.iload_n 1, 1) := by decide +kernel
theorem dX12_doesEvict_63 : decode cX12_doesEvict 63 = .ok (.invokevirtual 208, 3) := by decide +kernel
theorem dX12_doesEvict_66 : decode cX12_doesEvict 66 = .ok (.iconst 1, 1) := by decide +kernel
theorem dX12_doesEvict_67 : decode cX12_doesEvict 67 = .ok (.ireturn, 1) := by decide +kernel
theorem dX12_does_0 : decode cX12_does 0 = .ok (.aload_n 0, 1) := by decide +kernel
theorem dX12_does_1 : decode cX12_does 1 = .ok (.getfield 30, 3) := by decide +kernel
theorem dX12_does_4 : decode cX12_does 4 = .ok (.iconst 0, 1) := by decide +kernel
theorem dX12_does_5 : decode cX12_does 5 = .ok (.iaload, 1) := by decide +kernel
theorem dX12_does_6 : decode cX12_does 6 = .ok (.istore_n 2, 1) := by decide +kernel
theorem dX12_does_7 : decode cX12_does 7 = .ok (.aload_n 0, 1) := by decide +kernel
theorem dX12_does_8 : decode cX12_does 8 = .ok (.getfield 7, 3) := by decide +kernel
theorem dX12_does_11 : decode cX12_does 11 = .ok (.bipush 10, 2) := by decide +kernel
theorem dX12_does_13 : decode cX12_does 13 = .ok (.iaload, 1) := by decide +kernel
theorem dX12_does_14 : decode cX12_does 14 = .ok (.ifCond .eq 7, 3) := by decide +kernel
theorem dX12_does_17 : decode cX12_does 17 = .ok (.iconst 1, 1) := by decide +kernel
theorem dX12_does_18 : decode cX12_does 18 = .ok (.goto 4, 3) := by decide +kernel
theorem dX12_does_21 : decode cX12_does 21 = .ok (.iconst 0, 1) := by decide +kernel
theorem dX12_does_22 : decode cX12_does 22 = .ok (.istore_n 3, 1) := by decide +kernel
theorem dX12_does_23 : decode cX12_does 23 = .ok (.iload_n 1, 1) := by decide +kernel
theorem dX12_does_24 : decode cX12_does 24 = .ok (.tableswitch 197 0 7 #[48, 54, 60, 81, 106, 130, 147, 153], 48) := by decide +kernel
theorem dX12_does_72 : decode cX12_does 72 = .ok (.aload_n 0, 1) := by decide +kernel
theorem dX12_does_73 : decode cX12_does 73 = .ok (.iconst 0, 1) := by decide +kernel
theorem dX12_does_74 : decode cX12_does 74 = .ok (.invokevirtual 293, 3) := by decide +kernel
theorem dX12_does_77 : decode cX12_does 77 = .ok (.ireturn, 1) := by decide +kernel
theorem dX12_does_78 : decode cX12_does 78 = .ok (.aload_n 0, 1) := by decide +kernel
theorem dX12_does_79 : decode cX12_does 79 = .ok (.iconst 1, 1) := by decide +kernel
theorem dX12_does_80 : decode cX12_does 80 = .ok (.invokevirtual 293, 3) := by decide +kernel
theorem dX12_does_83 : decode cX12_does 83 = .ok (.ireturn, 1) := by decide +kernel
theorem dX12_does_84 : decode cX12_does 84 = .ok (.aload_n 0, 1) := by decide +kernel
theorem dX12_does_85 : decode cX12_does 85 = .ok (.iload_n 2, 1) := by decide +kernel
theorem dX12_does_86 : decode cX12_does 86 = .ok (.invokevirtual 238, 3) := by decide +kernel
theorem dX12_does_89 : decode cX12_does 89 = .ok (.ifCond .ne 7, 3) := by decide +kernel
theorem dX12_does_92 : decode cX12_does 92 = .ok (.iload_n 3, 1) := by decide +kernel
theorem dX12_does_93 : decode cX12_does 93 = .ok (.ifCond .eq 5, 3) := by decide +kernel
theorem dX12_does_96 : decode cX12_does 96 = .ok (.iconst 0, 1) := by decide +kernel
theorem dX12_does_97 : decode cX12_does 97 = .ok (.ireturn, 1) := by decide +kernel
theorem dX12_does_98 : decode cX12_does 98 = .ok (.aload_n 0, 1) := by decide +kernel
theorem dX12_does_99 : decode cX12_does 99 = .ok (.iload_n 2, 1) := by decide +kernel
theorem dX12_does_100 : decode cX12_does 100 = .ok (.invokevirtual 241, 3) := by decide +kernel
theorem dX12_does_103 : decode cX12_does 103 = .ok (.iconst 1, 1) := by decide +kernel
theorem dX12_does_104 : decode cX12_does 104 = .ok (.ireturn, 1) := by decide +kernel
theorem dX12_does_105 : decode cX12_does 105 = .ok (.iload_n 2, 1) := by decide +kernel
theorem dX12_does_106 : decode cX12_does 106 = .ok (.i2l, 1) := by decide +kernel
theorem dX12_does_107 : decode cX12_does 107 = .ok (.lconst 1, 1) := by decide +kernel
theorem dX12_does_108 : decode cX12_does 108 = .ok (.ldc2_w 107, 3) := by decide +kernel
theorem dX12_does_111 : decode cX12_does 111 = .ok (.invokestatic 52, 3) := by decide +kernel
theorem dX12_does_114 : decode cX12_does 114 = .ok (.ifCond .eq 7, 3) := by decide +kernel
theorem dX12_does_117 : decode cX12_does 117 = .ok (.iload_n 3, 1) := by decide +kernel
theorem dX12_does_118 : decode cX12_does 118 = .ok (.ifCond .ne 5, 3) := by decide +kernel
theorem dX12_does_121 : decode cX12_does 121 = .ok (.iconst 0, 1) := by decide +kernel
theorem dX12_does_122 : decode cX12_does 122 = .ok (.ireturn, 1) := by decide +kernel
theorem dX12_does_123 : decode cX12_does 123 = .ok (.aload_n 0, 1) := by decide +kernel
theorem dX12_does_124 : decode cX12_does 124 = .ok (.iload_n 2, 1) := by decide +kernel
theorem dX12_does_125 : decode cX12_does 125 = .ok (.invokevirtual 247, 3) := by decide +kernel
theorem dX12_does_128 : decode cX12_does 128 = .ok (.iconst 1, 1) := by decide +kernel
theorem dX12_does_129 : decode cX12_does 129 = .ok (.ireturn, 1) := by decide +kernel
theorem dX12_does_130 : decode cX12_does 130 = .ok (.iload_n 3, 1) := by decide +kernel
theorem dX12_does_131 : decode cX12_does 131 = .ok (.ifCond .eq 21, 3) := by decide +kernel
theorem dX12_does_134 : decode cX12_does 134 = .ok (.aload_n 0, 1) := by decide +kernel
theorem dX12_does_135 : decode cX12_does 135 = .ok (.invokevirtual 244, 3) := by decide +kernel
theorem dX12_does_138 : decode cX12_does 138 = .ok (.ifCond .ne 14, 3) := by decide +kernel
theorem dX12_does_141 : decode cX12_does 141 = .ok (.aload_n 0, 1) := by decide +kernel
theorem dX12_does_142 : decode cX12_does 142 = .ok (.invokevirtual 253, 3) := by decide +kernel
theorem dX12_does_145 : decode cX12_does 145 = .ok (.ifCond .lt 7, 3) := by decide +kernel
theorem dX12_does_148 : decode cX12_does 148 = .ok (.iconst 1, 1) := by decide +kernel
theorem dX12_does_149 : decode cX12_does 149 = .ok (.goto 4, 3) := by decide +kernel
theorem dX12_does_152 : decode cX12_does 152 = .ok (.iconst 0, 1) := by decide +kernel
theorem dX12_does_153 : decode cX12_does 153 = .ok (.ireturn, 1) := by decide +kernel
theorem dX12_does_154 : decode cX12_does 154 = .ok (.iload_n 3, 1) := by decide +kernel
theorem dX12_does_155 : decode cX12_does 155 = .ok (.ifCond .eq 14, 3) := by decide +kernel
theorem dX12_does_158 : decode cX12_does 158 = .ok (.aload_n 0, 1) := by decide +kernel
theorem dX12_does_159 : decode cX12_does 159 = .ok (.invokevirtual 256, 3) := by decide +kernel
theorem dX12_does_162 : decode cX12_does 162 = .ok (.ifCond .lt 7, 3) := by decide +kernel
theorem dX12_does_165 : decode cX12_does 165 = .ok (.iconst 1, 1) := by decide +kernel
theorem dX12_does_166 : decode cX12_does 166 = .ok (.goto 4, 3) := by decide +kernel
theorem dX12_does_169 : decode cX12_does 169 = .ok (.iconst 0, 1) := by decide +kernel
theorem dX12_does_170 : decode cX12_does 170 = .ok (.ireturn, 1) := by decide +kernel
theorem dX12_does_171 : decode cX12_does 171 = .ok (.aload_n 0, 1) := by decide +kernel
theorem dX12_does_172 : decode cX12_does 172 = .ok (.invokevirtual 265, 3) := by decide +kernel
theorem dX12_does_175 : decode cX12_does 175 = .ok (.iconst 1, 1) := by decide +kernel
theorem dX12_does_176 : decode cX12_does 176 = .ok (.ireturn, 1) := by decide +kernel
theorem dX12_does_177 : decode cX12_does 177 = .ok (.aload_n 0, 1) := by decide +kernel
theorem dX12_does_178 : decode cX12_does 178 = .ok (.iload_n 2, 1) := by decide +kernel
theorem dX12_does_179 : decode cX12_does 179 = .ok (.invokevirtual 56, 3) := by decide +kernel
theorem dX12_does_182 : decode cX12_does 182 = .ok (.ifCond .eq 30, 3) := by decide +kernel
theorem dX12_does_185 : decode cX12_does 185 = .ok (.aload_n 0, 1) := by decide +kernel
theorem dX12_does_186 : decode cX12_does 186 = .ok (.getfield 7, 3) := by decide +kernel
theorem dX12_does_189 : decode cX12_does 189 = .ok (.bipush 26, 2) := by decide +kernel
theorem dX12_does_191 : decode cX12_does 191 = .ok (.iload_n 2, 1) := by decide +kernel
theorem dX12_does_192 : decode cX12_does 192 = .ok (.iadd, 1) := by decide +kernel
theorem dX12_does_193 : decode cX12_does 193 = .ok (.iaload, 1) := by decide +kernel
theorem dX12_does_194 : decode cX12_does 194 = .ok (.iconst (-1), 1) := by decide +kernel
theorem dX12_does_195 : decode cX12_does 195 = .ok (.if_icmp .eq 17, 3) := by decide +kernel
theorem dX12_does_198 : decode cX12_does 198 = .ok (.aload_n 0, 1) := by decide +kernel
theorem dX12_does_199 : decode cX12_does 199 = .ok (.getfield 7, 3) := by decide +kernel
theorem dX12_does_202 : decode cX12_does 202 = .ok (.bipush 10, 2) := by decide +kernel
theorem dX12_does_204 : decode cX12_does 204 = .ok (.iaload, 1) := by decide +kernel
theorem dX12_does_205 : decode cX12_does 205 = .ok (.iload_n 2, 1) := by decide +kernel
theorem dX12_does_206 : decode cX12_does 206 = .ok (.invokestatic 68, 3) := by decide +kernel
theorem dX12_does_209 : decode cX12_does 209 = .ok (.ifCond .eq 5, 3) := by decide +kernel
theorem dX12_does_212 : decode cX12_does 212 = .ok (.iconst 0, 1) := by decide +kernel
theorem dX12_does_213 : decode cX12_does 213 = .ok (.ireturn, 1) := by decide +kernel
theorem dX12_does_214 : decode cX12_does 214 = .ok (.aload_n 0, 1) := by decide +kernel
theorem dX12_does_215 : decode cX12_does 215 = .ok (.iload_n 2, 1) := by decide +kernel
theorem dX12_does_216 : decode cX12_does 216 = .ok (.invokevirtual 262, 3) := by decide +kernel
theorem dX12_does_219 : decode cX12_does 219 = .ok (.iconst 1, 1) := by decide +kernel
theorem dX12_does_220 : decode cX12_does 220 = .ok (.ireturn, 1) := by decide +kernel
theorem dX12_does_221 : decode cX12_does 221 = .ok (.aload_n 0, 1) := by decide +kernel
theorem dX12_does_222 : decode cX12_does 222 = .ok (.invokevirtual 297, 3) := by decide +kernel
theorem dX12_does_225 : decode cX12_does 225 = .ok (.ireturn, 1) := by decide +kernel
theorem dX12_goesThrough_0 : decode cX12_goesThrough 0 = .ok (.aload_n 0, 1) := by decide +kernel
theorem dX12_goesThrough_1 : decode cX12_goesThrough 1 = .ok (.getfield 97, 3) := by decide +kernel
theorem dX12_goesThrough_4 : decode cX12_goesThrough 4 = .ok (.istore_n 1, 1) := by decide +kernel
theorem dX12_goesThrough_5 : decode cX12_goesThrough 5 = .ok (.aload_n 0, 1) := by decide +kernel
theorem dX12_goesThrough_6 : decode cX12_goesThrough 6 = .ok (.invokevirtual 300, 3) := by decide +kernel
theorem dX12_goesThrough_9 : decode cX12_goesThrough 9 = .ok (.istore_n 2, 1) := by decide +kernel
theorem dX12_goesThrough_10 : decode cX12_goesThrough 10 = .ok (.iload_n 2, 1) := by decide +kernel
theorem dX12_goesThrough_11 : decode cX12_goesThrough 11 = .ok (.iconst (-1), 1) := by decide +kernel
theorem dX12_goesThrough_12 : decode cX12_goesThrough 12 = .ok (.if_icmp .ne 8, 3) := by decide +kernel
theorem dX12_goesThrough_15 : decode cX12_goesThrough 15 = .ok (.aload_n 0, 1) := by decide +kernel
theorem dX12_goesThrough_16 : decode cX12_goesThrough 16 = .ok (.iconst 1, 1) := by decide +kernel
theorem dX12_goesThrough_17 : decode cX12_goesThrough 17 = .ok (.invokevirtual 130, 3) := by decide +kernel
theorem dX12_goesThrough_20 : decode cX12_goesThrough 20 = .ok (.aload_n 0, 1) := by decide +kernel
theorem dX12_goesThrough_21 : decode cX12_goesThrough 21 = .ok (.invokevirtual 133, 3) := by decide +kernel
theorem dX12_goesThrough_24 : decode cX12_goesThrough 24 = .ok (.iconst 0, 1) := by decide +kernel
theorem dX12_goesThrough_25 : decode cX12_goesThrough 25 = .ok (.istore_n 3, 1) := by decide +kernel
theorem dX12_goesThrough_26 : decode cX12_goesThrough 26 = .ok (.iload_n 3, 1) := by decide +kernel
theorem dX12_goesThrough_27 : decode cX12_goesThrough 27 = .ok (.iconst 3, 1) := by decide +kernel
theorem dX12_goesThrough_28 : decode cX12_goesThrough 28 = .ok (.if_icmp .ge 42, 3) := by decide +kernel
theorem dX12_goesThrough_31 : decode cX12_goesThrough 31 = .ok (.aload_n 0, 1) := by decide +kernel
theorem dX12_goesThrough_32 : decode cX12_goesThrough 32 = .ok (.getfield 111, 3) := by decide +kernel
theorem dX12_goesThrough_35 : decode cX12_goesThrough 35 = .ok (.ifCond .ne 35, 3) := by decide +kernel
theorem dX12_goesThrough_38 : decode cX12_goesThrough 38 = .ok (.aload_n 0, 1) := by decide +kernel
theorem dX12_goesThrough_39 : decode cX12_goesThrough 39 = .ok (.getfield 30, 3) := by decide +kernel
theorem dX12_goesThrough_42 : decode cX12_goesThrough 42 = .ok (.iload_n 3, 1) := by decide +kernel
theorem dX12_goesThrough_43 : decode cX12_goesThrough 43 = .ok (.iload_n 3, 1) := by decide +kernel
theorem dX12_goesThrough_44 : decode cX12_goesThrough 44 = .ok (.iload_n 2, 1) := by decide +kernel
theorem dX12_goesThrough_45 : decode cX12_goesThrough 45 = .ok (.invokestatic 303, 3) := by decide +kernel
theorem dX12_goesThrough_48 : decode cX12_goesThrough 48 = .ok (.if_icmp .ge 14, 3) := by decide +kernel
theorem dX12_goesThrough_51 : decode cX12_goesThrough 51 = .ok (.aload_n 0, 1) := by decide +kernel
theorem dX12_goesThrough_52 : decode cX12_goesThrough 52 = .ok (.iconst 0, 1) := by decide +kernel
theorem dX12_goesThrough_53 : decode cX12_goesThrough 53 = .ok (.ldc_w 306, 3) := by decide +kernel
theorem dX12_goesThrough_56 : decode cX12_goesThrough 56 = .ok (.invokevirtual 146, 3) := by decide +kernel
theorem dX12_goesThrough_59 : decode cX12_goesThrough 59 = .ok (.goto 4, 3) := by decide +kernel
theorem dX12_goesThrough_62 : decode cX12_goesThrough 62 = .ok (.iconst 0, 1) := by decide +kernel
theorem dX12_goesThrough_63 : decode cX12_goesThrough 63 = .ok (.iastore, 1) := by decide +kernel
theorem dX12_goesThrough_64 : decode cX12_goesThrough 64 = .ok (.iinc 3 1, 3) := by decide +kernel
theorem dX12_goesThrough_67 : decode cX12_goesThrough 67 = .ok (.goto (-41), 3) := by decide +kernel
theorem dX12_goesThrough_70 : decode cX12_goesThrough 70 = .ok (.aload_n 0, 1) := by decide +kernel
theorem dX12_goesThrough_71 : decode cX12_goesThrough 71 = .ok (.getfield 111, 3) := by decide +kernel
theorem dX12_goesThrough_74 : decode cX12_goesThrough 74 = .ok (.ifCond .ne 17, 3) := by decide +kernel
theorem dX12_goesThrough_77 : decode cX12_goesThrough 77 = .ok (.aload_n 0, 1) := by decide +kernel
theorem dX12_goesThrough_78 : decode cX12_goesThrough 78 = .ok (.ldc 160, 2) := by decide +kernel
theorem dX12_goesThrough_80 : decode cX12_goesThrough 80 = .ok (.invokevirtual 136, 3) := by decide +kernel
theorem dX12_goesThrough_83 : decode cX12_goesThrough 83 = .ok (.ifCond .ne 8, 3) := by decide +kernel
theorem dX12_goesThrough_86 : decode cX12_goesThrough 86 = .ok (.aload_n 0, 1) := by decide +kernel
theorem dX12_goesThrough_87 : decode cX12_goesThrough 87 = .ok (.iconst 1, 1) := by decide +kernel
theorem dX12_goesThrough_88 : decode cX12_goesThrough 88 = .ok (.invokevirtual 130, 3) := by decide +kernel
theorem dX12_goesThrough_91 : decode cX12_goesThrough 91 = .ok (.aload_n 0, 1) := by decide +kernel
theorem dX12_goesThrough_92 : decode cX12_goesThrough 92 = .ok (.getfield 111, 3) := by decide +kernel
theorem dX12_goesThrough_95 : decode cX12_goesThrough 95 = .ok (.ifCond .gt 11, 3) := by decide +kernel
theorem dX12_goesThrough_98 : decode cX12_goesThrough 98 = .ok (.aload_n 0, 1) := by decide +kernel
theorem dX12_goesThrough_99 : decode cX12_goesThrough 99 = .ok (.iload_n 2, 1) := by decide +kernel
theorem dX12_goesThrough_100 : decode cX12_goesThrough 100 = .ok (.invokevirtual 307, 3) := by decide +kernel
theorem dX12_goesThrough_103 : decode cX12_goesThrough 103 = .ok (.ifCond .eq 4, 3) := by decide +kernel
theorem dX12_goesThrough_106 : decode cX12_goesThrough 106 = .ok (.return_, 1) := by decide +kernel
theorem dX12_goesThrough_107 : decode cX12_goesThrough 107 = .ok (.aload_n 0, 1) := by decide +kernel
theorem dX12_goesThrough_108 : decode cX12_goesThrough 108 = .ok (.iconst 1, 1) := by decide +kernel
theorem dX12_goesThrough_109 : decode cX12_goesThrough 109 = .ok (.putfield 111, 3) := by decide +kernel
theorem dX12_goesThrough_112 : decode cX12_goesThrough 112 = .ok (.aload_n 0, 1) := by decide +kernel
theorem dX12_goesThrough_113 : decode cX12_goesThrough 113 = .ok (.iload_n 1, 1) := by decide +kernel
theorem dX12_goesThrough_114 : decode cX12_goesThrough 114 = .ok (.putfield 26, 3) := by decide +kernel
theorem dX12_goesThrough_117 : decode cX12_goesThrough 117 = .ok (.return_, 1) := by decide +kernel
theorem dX12_runScript_0 : decode cX12_runScript 0 = .ok (.aload_n 0, 1) := by decide +kernel
theorem dX12_runScript_1 : decode cX12_runScript 1 = .ok (.iconst 0, 1) := by decide +kernel
theorem dX12_runScript_2 : decode cX12_runScript 2 = .ok (.putfield 49, 3) := by decide +kernel
theorem dX12_runScript_5 : decode cX12_runScript 5 = .ok (.aload_n 0, 1) := by decide +kernel
theorem dX12_runScript_6 : decode cX12_runScript 6 = .ok (.getfield 111, 3) := by decide +kernel
theorem dX12_runScript_9 : decode cX12_runScript 9 = .ok (.istore_n 1, 1) := by decide +kernel
theorem dX12_runScript_10 : decode cX12_runScript 10 = .ok (.aload_n 0, 1) := by decide +kernel
theorem dX12_runScript_11 : decode cX12_runScript 11 = .ok (.getfield 26, 3) := by decide +kernel
theorem dX12_runScript_14 : decode cX12_runScript 14 = .ok (.istore_n 2, 1) := by decide +kernel
theorem dX12_runScript_15 : decode cX12_runScript 15 = .ok (.aload_n 0, 1) := by decide +kernel
theorem dX12_runScript_16 : decode cX12_runScript 16 = .ok (.invokevirtual 74, 3) := by decide +kernel
theorem dX12_runScript_19 : decode cX12_runScript 19 = .ok (.aload_n 0, 1) := by decide +kernel
theorem dX12_runScript_20 : decode cX12_runScript 20 = .ok (.invokevirtual 168, 3) := by decide +kernel
theorem dX12_runScript_23 : decode cX12_runScript 23 = .ok (.iconst 0, 1) := by decide +kernel
theorem dX12_runScript_24 : decode cX12_runScript 24 = .ok (.istore_n 3, 1) := by decide +kernel
theorem dX12_runScript_25 : decode cX12_runScript 25 = .ok (.aload_n 0, 1) := by decide +kernel
theorem dX12_runScript_26 : decode cX12_runScript 26 = .ok (.getfield 111, 3) := by decide +kernel
theorem dX12_runScript_29 : decode cX12_runScript 29 = .ok (.ifCond .ne 28, 3) := by decide +kernel
theorem dX12_runScript_32 : decode cX12_runScript 32 = .ok (.aload_n 0, 1) := by decide +kernel
theorem dX12_runScript_33 : decode cX12_runScript 33 = .ok (.getfield 97, 3) := by decide +kernel
theorem dX12_runScript_36 : decode cX12_runScript 36 = .ok (.aload_n 0, 1) := by decide +kernel
theorem dX12_runScript_37 : decode cX12_runScript 37 = .ok (.getfield 91, 3) := by decide +kernel
theorem dX12_runScript_40 : decode cX12_runScript 40 = .ok (.if_icmp .ge 17, 3) := by decide +kernel
theorem dX12_runScript_43 : decode cX12_runScript 43 = .ok (.aload_n 0, 1) := by decide +kernel
theorem dX12_runScript_44 : decode cX12_runScript 44 = .ok (.invokevirtual 310, 3) := by decide +kernel
theorem dX12_runScript_47 : decode cX12_runScript 47 = .ok (.aload_n 0, 1) := by decide +kernel
theorem dX12_runScript_48 : decode cX12_runScript 48 = .ok (.invokevirtual 133, 3) := by decide +kernel
theorem dX12_runScript_51 : decode cX12_runScript 51 = .ok (.iinc 3 1, 3) := by decide +kernel
theorem dX12_runScript_54 : decode cX12_runScript 54 = .ok (.goto (-29), 3) := by decide +kernel
theorem dX12_runScript_57 : decode cX12_runScript 57 = .ok (.aload_n 0, 1) := by decide +kernel
theorem dX12_runScript_58 : decode cX12_runScript 58 = .ok (.getfield 111, 3) := by decide +kernel
theorem dX12_runScript_61 : decode cX12_runScript 61 = .ok (.ifCond .ne 7, 3) := by decide +kernel
theorem dX12_runScript_64 : decode cX12_runScript 64 = .ok (.iload_n 3, 1) := by decide +kernel
theorem dX12_runScript_65 : decode cX12_runScript 65 = .ok (.goto 9, 3) := by decide +kernel
theorem dX12_runScript_68 : decode cX12_runScript 68 = .ok (.iconst (-1), 1) := by decide +kernel
theorem dX12_runScript_69 : decode cX12_runScript 69 = .ok (.aload_n 0, 1) := by decide +kernel
theorem dX12_runScript_70 : decode cX12_runScript 70 = .ok (.getfield 26, 3) := by decide +kernel
theorem dX12_runScript_73 : decode cX12_runScript 73 = .ok (.isub, 1) := by decide +kernel
theorem dX12_runScript_74 : decode cX12_runScript 74 = .ok (.istore 4, 2) := by decide +kernel
theorem dX12_runScript_76 : decode cX12_runScript 76 = .ok (.aload_n 0, 1) := by decide +kernel
theorem dX12_runScript_77 : decode cX12_runScript 77 = .ok (.getfield 111, 3) := by decide +kernel
theorem dX12_runScript_80 : decode cX12_runScript 80 = .ok (.ifCond .ne 10, 3) := by decide +kernel
theorem dX12_runScript_83 : decode cX12_runScript 83 = .ok (.aload_n 0, 1) := by decide +kernel
theorem dX12_runScript_84 : decode cX12_runScript 84 = .ok (.invokevirtual 77, 3) := by decide +kernel
theorem dX12_runScript_87 : decode cX12_runScript 87 = .ok (.goto 7, 3) := by decide +kernel
theorem dX12_runScript_90 : decode cX12_runScript 90 = .ok (.aload_n 0, 1) := by decide +kernel
theorem dX12_runScript_91 : decode cX12_runScript 91 = .ok (.invokevirtual 313, 3) := by decide +kernel
theorem dX12_runScript_94 : decode cX12_runScript 94 = .ok (.aload_n 0, 1) := by decide +kernel
theorem dX12_runScript_95 : decode cX12_runScript 95 = .ok (.iload_n 1, 1) := by decide +kernel
theorem dX12_runScript_96 : decode cX12_runScript 96 = .ok (.putfield 111, 3) := by decide +kernel
theorem dX12_runScript_99 : decode cX12_runScript 99 = .ok (.aload_n 0, 1) := by decide +kernel
theorem dX12_runScript_100 : decode cX12_runScript 100 = .ok (.iload_n 2, 1) := by decide +kernel
theorem dX12_runScript_101 : decode cX12_runScript 101 = .ok (.putfield 26, 3) := by decide +kernel
theorem dX12_runScript_104 : decode cX12_runScript 104 = .ok (.iload 4, 2) := by decide +kernel
theorem dX12_runScript_106 : decode cX12_runScript 106 = .ok (.ireturn, 1) := by decide +kernel
theorem dX12_pageCount_0 : decode cX12_pageCount 0 = .ok (.aload_n 0, 1) := by decide +kernel
theorem dX12_pageCount_1 : decode cX12_pageCount 1 = .ok (.iload_n 1, 1) := by decide +kernel
theorem dX12_pageCount_2 : decode cX12_pageCount 2 = .ok (.invokevirtual 271, 3) := by decide +kernel
theorem dX12_pageCount_5 : decode cX12_pageCount 5 = .ok (.ifCond .eq 7, 3) := by decide +kernel
theorem dX12_pageCount_8 : decode cX12_pageCount 8 = .ok (.iconst 0, 1) := by decide +kernel
theorem dX12_pageCount_9 : decode cX12_pageCount 9 = .ok (.goto 12, 3) := by decide +kernel
theorem dX12_pageCount_12 : decode cX12_pageCount 12 = .ok (.aload_n 0, 1) := by decide +kernel
theorem dX12_pageCount_13 : decode cX12_pageCount 13 = .ok (.getfield 7, 3) := by decide +kernel
theorem dX12_pageCount_16 : decode cX12_pageCount 16 = .ok (.bipush 20, 2) := by decide +kernel
theorem dX12_pageCount_18 : decode cX12_pageCount 18 = .ok (.iload_n 1, 1) := by decide +kernel
theorem dX12_pageCount_19 : decode cX12_pageCount 19 = .ok (.iadd, 1) := by decide +kernel
theorem dX12_pageCount_20 : decode cX12_pageCount 20 = .ok (.iaload, 1) := by decide +kernel
theorem dX12_pageCount_21 : decode cX12_pageCount 21 = .ok (.ireturn, 1) := by decide +kernel
theorem dX12_kindOf_0 : decode cX12_kindOf 0 = .ok (.aload_n 0, 1) := by decide +kernel
theorem dX12_kindOf_1 : decode cX12_kindOf 1 = .ok (.iload_n 1, 1) := by decide +kernel
theorem dX12_kindOf_2 : decode cX12_kindOf 2 = .ok (.invokevirtual 271, 3) := by decide +kernel
theorem dX12_kindOf_5 : decode cX12_kindOf 5 = .ok (.ifCond .eq 7, 3) := by decide +kernel
theorem dX12_kindOf_8 : decode cX12_kindOf 8 = .ok (.iconst 0, 1) := by decide +kernel
theorem dX12_kindOf_9 : decode cX12_kindOf 9 = .ok (.goto 12, 3) := by decide +kernel
theorem dX12_kindOf_12 : decode cX12_kindOf 12 = .ok (.aload_n 0, 1) := by decide +kernel
theorem dX12_kindOf_13 : decode cX12_kindOf 13 = .ok (.getfield 7, 3) := by decide +kernel
theorem dX12_kindOf_16 : decode cX12_kindOf 16 = .ok (.bipush 14, 2) := by decide +kernel
theorem dX12_kindOf_18 : decode cX12_kindOf 18 = .ok (.iload_n 1, 1) := by decide +kernel
theorem dX12_kindOf_19 : decode cX12_kindOf 19 = .ok (.iadd, 1) := by decide +kernel
theorem dX12_kindOf_20 : decode cX12_kindOf 20 = .ok (.iaload, 1) := by decide +kernel
theorem dX12_kindOf_21 : decode cX12_kindOf 21 = .ok (.ireturn, 1) := by decide +kernel
theorem dX12_peek_0 : decode cX12_peek 0 = .ok (.aload_n 0, 1) := by decide +kernel
theorem dX12_peek_1 : decode cX12_peek 1 = .ok (.iload_n 1, 1) := by decide +kernel
theorem dX12_peek_2 : decode cX12_peek 2 = .ok (.iload_n 2, 1) := by decide +kernel
theorem dX12_peek_3 : decode cX12_peek 3 = .ok (.invokevirtual 219, 3) := by decide +kernel
theorem dX12_peek_6 : decode cX12_peek 6 = .ok (.ifCond .eq 7, 3) := by decide +kernel
theorem dX12_peek_9 : decode cX12_peek 9 = .ok (.iconst 0, 1) := by decide +kernel
theorem dX12_peek_10 : decode cX12_peek 10 = .ok (.goto 16, 3) := by decide +kernel
theorem dX12_peek_13 : decode cX12_peek 13 = .ok (.aload_n 0, 1) := by decide +kernel
theorem dX12_peek_14 : decode cX12_peek 14 = .ok (.getfield 7, 3) := by decide +kernel
theorem dX12_peek_17 : decode cX12_peek 17 = .ok (.bipush 32, 2) := by decide +kernel
theorem dX12_peek_19 : decode cX12_peek 19 = .ok (.iload_n 1, 1) := by decide +kernel
theorem dX12_peek_20 : decode cX12_peek 20 = .ok (.iload_n 2, 1) := by decide +kernel
theorem dX12_peek_21 : decode cX12_peek 21 = .ok (.invokestatic 222, 3) := by decide +kernel
theorem dX12_peek_24 : decode cX12_peek 24 = .ok (.iadd, 1) := by decide +kernel
theorem dX12_peek_25 : decode cX12_peek 25 = .ok (.iaload, 1) := by decide +kernel
theorem dX12_peek_26 : decode cX12_peek 26 = .ok (.ireturn, 1) := by decide +kernel
theorem dX12_peekFloat_0 : decode cX12_peekFloat 0 = .ok (.aload_n 0, 1) := by decide +kernel
theorem dX12_peekFloat_1 : decode cX12_peekFloat 1 = .ok (.iload_n 1, 1) := by decide +kernel
theorem dX12_peekFloat_2 : decode cX12_peekFloat 2 = .ok (.iload_n 2, 1) := by decide +kernel
theorem dX12_peekFloat_3 : decode cX12_peekFloat 3 = .ok (.invokevirtual 219, 3) := by decide +kernel
theorem dX12_peekFloat_6 : decode cX12_peekFloat 6 = .ok (.ifCond .ne 28, 3) := by decide +kernel
theorem dX12_peekFloat_9 : decode cX12_peekFloat 9 = .ok (.aload_n 0, 1) := by decide +kernel
theorem dX12_peekFloat_10 : decode cX12_peekFloat 10 = .ok (.aload_n 0, 1) := by decide +kernel
theorem dX12_peekFloat_11 : decode cX12_peekFloat 11 = .ok (.getfield 7, 3) := by decide +kernel
theorem dX12_peekFloat_14 : decode cX12_peekFloat 14 = .ok (.bipush 14, 2) := by decide +kernel
theorem dX12_peekFloat_16 : decode cX12_peekFloat 16 = .ok (.iload_n 1, 1) := by decide +kernel
theorem dX12_peekFloat_17 : decode cX12_peekFloat 17 = .ok (.iadd, 1) := by decide +kernel
theorem dX12_peekFloat_18 : decode cX12_peekFloat 18 = .ok (.iaload, 1) := by decide +kernel
theorem dX12_peekFloat_19 : decode cX12_peekFloat 19 = .ok (.ifCond .ne 7, 3) := by decide +kernel
theorem dX12_peekFloat_22 : decode cX12_peekFloat 22 = .ok (.iconst 1, 1) := by decide +kernel
theorem dX12_peekFloat_23 : decode cX12_peekFloat 23 = .ok (.goto 4, 3) := by decide +kernel
theorem dX12_peekFloat_26 : decode cX12_peekFloat 26 = .ok (.iconst 0, 1) := by decide +kernel
theorem dX12_peekFloat_27 : decode cX12_peekFloat 27 = .ok (.iconst 2, 1) := by decide +kernel
theorem dX12_peekFloat_28 : decode cX12_peekFloat 28 = .ok (.invokevirtual 60, 3) := by decide +kernel
theorem dX12_peekFloat_31 : decode cX12_peekFloat 31 = .ok (.ifCond .eq 7, 3) := by decide +kernel
theorem dX12_peekFloat_34 : decode cX12_peekFloat 34 = .ok (.fconst 0, 1) := by decide +kernel
theorem dX12_peekFloat_35 : decode cX12_peekFloat 35 = .ok (.goto 19, 3) := by decide +kernel
theorem dX12_peekFloat_38 : decode cX12_peekFloat 38 = .ok (.aload_n 0, 1) := by decide +kernel
theorem dX12_peekFloat_39 : decode cX12_peekFloat 39 = .ok (.getfield 7, 3) := by decide +kernel
theorem dX12_peekFloat_42 : decode cX12_peekFloat 42 = .ok (.bipush 32, 2) := by decide +kernel
theorem dX12_peekFloat_44 : decode cX12_peekFloat 44 = .ok (.iload_n 1, 1) := by decide +kernel
theorem dX12_peekFloat_45 : decode cX12_peekFloat 45 = .ok (.iload_n 2, 1) := by decide +kernel
theorem dX12_peekFloat_46 : decode cX12_peekFloat 46 = .ok (.invokestatic 222, 3) := by decide +kernel
theorem dX12_peekFloat_49 : decode cX12_peekFloat 49 = .ok (.iadd, 1) := by decide +kernel
theorem dX12_peekFloat_50 : decode cX12_peekFloat 50 = .ok (.iaload, 1) := by decide +kernel
theorem dX12_peekFloat_51 : decode cX12_peekFloat 51 = .ok (.invokestatic 316, 3) := by decide +kernel
theorem dX12_peekFloat_54 : decode cX12_peekFloat 54 = .ok (.freturn, 1) := by decide +kernel
theorem dX12_stateOf_0 : decode cX12_stateOf 0 = .ok (.aload_n 0, 1) := by decide +kernel
theorem dX12_stateOf_1 : decode cX12_stateOf 1 = .ok (.getfield 7, 3) := by decide +kernel
theorem dX12_stateOf_4 : decode cX12_stateOf 4 = .ok (.sipush 128, 3) := by decide +kernel
theorem dX12_stateOf_7 : decode cX12_stateOf 7 = .ok (.iload_n 1, 1) := by decide +kernel
theorem dX12_stateOf_8 : decode cX12_stateOf 8 = .ok (.iadd, 1) := by decide +kernel
theorem dX12_stateOf_9 : decode cX12_stateOf 9 = .ok (.iaload, 1) := by decide +kernel
theorem dX12_stateOf_10 : decode cX12_stateOf 10 = .ok (.iconst (-1), 1) := by decide +kernel
theorem dX12_stateOf_11 : decode cX12_stateOf 11 = .ok (.if_icmp .eq 16, 3) := by decide +kernel
theorem dX12_stateOf_14 : decode cX12_stateOf 14 = .ok (.iconst 2, 1) := by decide +kernel
theorem dX12_stateOf_15 : decode cX12_stateOf 15 = .ok (.aload_n 0, 1) := by decide +kernel
theorem dX12_stateOf_16 : decode cX12_stateOf 16 = .ok (.getfield 7, 3) := by decide +kernel
theorem dX12_stateOf_19 : decode cX12_stateOf 19 = .ok (.sipush 176, 3) := by decide +kernel
theorem dX12_stateOf_22 : decode cX12_stateOf 22 = .ok (.iload_n 1, 1) := by decide +kernel
theorem dX12_stateOf_23 : decode cX12_stateOf 23 = .ok (.iadd, 1) := by decide +kernel
theorem dX12_stateOf_24 : decode cX12_stateOf 24 = .ok (.iaload, 1) := by decide +kernel
theorem dX12_stateOf_25 : decode cX12_stateOf 25 = .ok (.iadd, 1) := by decide +kernel
theorem dX12_stateOf_26 : decode cX12_stateOf 26 = .ok (.ireturn, 1) := by decide +kernel
theorem dX12_stateOf_27 : decode cX12_stateOf 27 = .ok (.aload_n 0, 1) := by decide +kernel
theorem dX12_stateOf_28 : decode cX12_stateOf 28 = .ok (.getfield 7, 3) := by decide +kernel
theorem dX12_stateOf_31 : decode cX12_stateOf 31 = .ok (.bipush 80, 2) := by decide +kernel
theorem dX12_stateOf_33 : decode cX12_stateOf 33 = .ok (.iload_n 1, 1) := by decide +kernel
theorem dX12_stateOf_34 : decode cX12_stateOf 34 = .ok (.iadd, 1) := by decide +kernel
theorem dX12_stateOf_35 : decode cX12_stateOf 35 = .ok (.iaload, 1) := by decide +kernel
theorem dX12_stateOf_36 : decode cX12_stateOf 36 = .ok (.iconst (-1), 1) := by decide +kernel
theorem dX12_stateOf_37 : decode cX12_stateOf 37 = .ok (.if_icmp .ne 7, 3) := by decide +kernel
theorem dX12_stateOf_40 : decode cX12_stateOf 40 = .ok (.iconst 0, 1) := by decide +kernel
theorem dX12_stateOf_41 : decode cX12_stateOf 41 = .ok (.goto 4, 3) := by decide +kernel
theorem dX12_stateOf_44 : decode cX12_stateOf 44 = .ok (.iconst 1, 1) := by decide +kernel
theorem dX12_stateOf_45 : decode cX12_stateOf 45 = .ok (.ireturn, 1) := by decide +kernel
theorem dX12_pageState_0 : decode cX12_pageState 0 = .ok (.aload_n 0, 1) := by decide +kernel
theorem dX12_pageState_1 : decode cX12_pageState 1 = .ok (.iload_n 1, 1) := by decide +kernel
theorem dX12_pageState_2 : decode cX12_pageState 2 = .ok (.iload_n 2, 1) := by decide +kernel
theorem dX12_pageState_3 : decode cX12_pageState 3 = .ok (.invokevirtual 219, 3) := by decide +kernel
theorem dX12_pageState_6 : decode cX12_pageState 6 = .ok (.ifCond .eq 7, 3) := by decide +kernel
theorem dX12_pageState_9 : decode cX12_pageState 9 = .ok (.iconst 0, 1) := by decide +kernel
theorem dX12_pageState_10 : decode cX12_pageState 10 = .ok (.goto 12, 3) := by decide +kernel
theorem dX12_pageState_13 : decode cX12_pageState 13 = .ok (.aload_n 0, 1) := by decide +kernel
theorem dX12_pageState_14 : decode cX12_pageState 14 = .ok (.iload_n 1, 1) := by decide +kernel
theorem dX12_pageState_15 : decode cX12_pageState 15 = .ok (.iload_n 2, 1) := by decide +kernel
theorem dX12_pageState_16 : decode cX12_pageState 16 = .ok (.invokestatic 222, 3) := by decide +kernel
theorem dX12_pageState_19 : decode cX12_pageState 19 = .ok (.invokevirtual 322, 3) := by decide +kernel
theorem dX12_pageState_22 : decode cX12_pageState 22 = .ok (.ireturn, 1) := by decide +kernel
theorem dX12_frameOf_0 : decode cX12_frameOf 0 = .ok (.aload_n 0, 1) := by decide +kernel
theorem dX12_frameOf_1 : decode cX12_frameOf 1 = .ok (.iload_n 1, 1) := by decide +kernel
theorem dX12_frameOf_2 : decode cX12_frameOf 2 = .ok (.iload_n 2, 1) := by decide +kernel
theorem dX12_frameOf_3 : decode cX12_frameOf 3 = .ok (.invokevirtual 219, 3) := by decide +kernel
theorem dX12_frameOf_6 : decode cX12_frameOf 6 = .ok (.ifCond .eq 7, 3) := by decide +kernel
theorem dX12_frameOf_9 : decode cX12_frameOf 9 = .ok (.iconst 0, 1) := by decide +kernel
theorem dX12_frameOf_10 : decode cX12_frameOf 10 = .ok (.goto 17, 3) := by decide +kernel
theorem dX12_frameOf_13 : decode cX12_frameOf 13 = .ok (.aload_n 0, 1) := by decide +kernel
theorem dX12_frameOf_14 : decode cX12_frameOf 14 = .ok (.getfield 7, 3) := by decide +kernel
theorem dX12_frameOf_17 : decode cX12_frameOf 17 = .ok (.sipush 128, 3) := by decide +kernel
theorem dX12_frameOf_20 : decode cX12_frameOf 20 = .ok (.iload_n 1, 1) := by decide +kernel
theorem dX12_frameOf_21 : decode cX12_frameOf 21 = .ok (.iload_n 2, 1) := by decide +kernel
theorem dX12_frameOf_22 : decode cX12_frameOf 22 = .ok (.invokestatic 222, 3) := by decide +kernel
theorem dX12_frameOf_25 : decode cX12_frameOf 25 = .ok (.iadd, 1) := by decide +kernel
theorem dX12_frameOf_26 : decode cX12_frameOf 26 = .ok (.iaload, 1) := by decide +kernel
theorem dX12_frameOf_27 : decode cX12_frameOf 27 = .ok (.ireturn, 1) := by decide +kernel
theorem dX12_slotOf_0 : decode cX12_slotOf 0 = .ok (.aload_n 0, 1) := by decide +kernel
theorem dX12_slotOf_1 : decode cX12_slotOf 1 = .ok (.iload_n 1, 1) := by decide +kernel
theorem dX12_slotOf_2 : decode cX12_slotOf 2 = .ok (.iload_n 2, 1) := by decide +kernel
theorem dX12_slotOf_3 : decode cX12_slotOf 3 = .ok (.invokevirtual 219, 3) := by decide +kernel
theorem dX12_slotOf_6 : decode cX12_slotOf 6 = .ok (.ifCond .eq 7, 3) := by decide +kernel
theorem dX12_slotOf_9 : decode cX12_slotOf 9 = .ok (.iconst 0, 1) := by decide +kernel
theorem dX12_slotOf_10 : decode cX12_slotOf 10 = .ok (.goto 16, 3) := by decide +kernel
theorem dX12_slotOf_13 : decode cX12_slotOf 13 = .ok (.aload_n 0, 1) := by decide +kernel
theorem dX12_slotOf_14 : decode cX12_slotOf 14 = .ok (.getfield 7, 3) := by decide +kernel
theorem dX12_slotOf_17 : decode cX12_slotOf 17 = .ok (.bipush 80, 2) := by decide +kernel
theorem dX12_slotOf_19 : decode cX12_slotOf 19 = .ok (.iload_n 1, 1) := by decide +kernel
theorem dX12_slotOf_20 : decode cX12_slotOf 20 = .ok (.iload_n 2, 1) := by decide +kernel
theorem dX12_slotOf_21 : decode cX12_slotOf 21 = .ok (.invokestatic 222, 3) := by decide +kernel
theorem dX12_slotOf_24 : decode cX12_slotOf 24 = .ok (.iadd, 1) := by decide +kernel
theorem dX12_slotOf_25 : decode cX12_slotOf 25 = .ok (.iaload, 1) := by decide +kernel
theorem dX12_slotOf_26 : decode cX12_slotOf 26 = .ok (.ireturn, 1) := by decide +kernel
theorem dX12_frameOwner_0 : decode cX12_frameOwner 0 = .ok (.aload_n 0, 1) := by decide +kernel
theorem dX12_frameOwner_1 : decode cX12_frameOwner 1 = .ok (.iload_n 1, 1) := by decide +kernel
theorem dX12_frameOwner_2 : decode cX12_frameOwner 2 = .ok (.invokevirtual 325, 3) := by decide +kernel
theorem dX12_frameOwner_5 : decode cX12_frameOwner 5 = .ok (.ifCond .eq 7, 3) := by decide +kernel
theorem dX12_frameOwner_8 : decode cX12_frameOwner 8 = .ok (.iconst 0, 1) := by decide +kernel
theorem dX12_frameOwner_9 : decode cX12_frameOwner 9 = .ok (.goto 13, 3) := by decide +kernel
theorem dX12_frameOwner_12 : decode cX12_frameOwner 12 = .ok (.aload_n 0, 1) := by decide +kernel
theorem dX12_frameOwner_13 : decode cX12_frameOwner 13 = .ok (.getfield 7, 3) := by decide +kernel
theorem dX12_frameOwner_16 : decode cX12_frameOwner 16 = .ok (.sipush 320, 3) := by decide +kernel
theorem dX12_frameOwner_19 : decode cX12_frameOwner 19 = .ok (.iload_n 1, 1) := by decide +kernel
theorem dX12_frameOwner_20 : decode cX12_frameOwner 20 = .ok (.iadd, 1) := by decide +kernel
theorem dX12_frameOwner_21 : decode cX12_frameOwner 21 = .ok (.iaload, 1) := by decide +kernel
theorem dX12_frameOwner_22 : decode cX12_frameOwner 22 = .ok (.ireturn, 1) := by decide +kernel
theorem dX12_frameTime_0 : decode cX12_frameTime 0 = .ok (.aload_n 0, 1) := by decide +kernel
theorem dX12_frameTime_1 : decode cX12_frameTime 1 = .ok (.iload_n 1, 1) := by decide +kernel
theorem dX12_frameTime_2 : decode cX12_frameTime 2 = .ok (.invokevirtual 325, 3) := by decide +kernel
theorem dX12_frameTime_5 : decode cX12_frameTime 5 = .ok (.ifCond .ne 53, 3) := by decide +kernel
theorem dX12_frameTime_8 : decode cX12_frameTime 8 = .ok (.aload_n 0, 1) := by decide +kernel
theorem dX12_frameTime_9 : decode cX12_frameTime 9 = .ok (.aload_n 0, 1) := by decide +kernel
theorem dX12_frameTime_10 : decode cX12_frameTime 10 = .ok (.getfield 7, 3) := by decide +kernel
theorem dX12_frameTime_13 : decode cX12_frameTime 13 = .ok (.sipush 320, 3) := by decide +kernel
theorem dX12_frameTime_16 : decode cX12_frameTime 16 = .ok (.iload_n 1, 1) := by decide +kernel
theorem dX12_frameTime_17 : decode cX12_frameTime 17 = .ok (.iadd, 1) := by decide +kernel
theorem dX12_frameTime_18 : decode cX12_frameTime 18 = .ok (.iaload, 1) := by decide +kernel
theorem dX12_frameTime_19 : decode cX12_frameTime 19 = .ok (.iconst (-1), 1) := by decide +kernel
theorem dX12_frameTime_20 : decode cX12_frameTime 20 = .ok (.if_icmp .ne 7, 3) := by decide +kernel
theorem dX12_frameTime_23 : decode cX12_frameTime 23 = .ok (.iconst 1, 1) := by decide +kernel
theorem dX12_frameTime_24 : decode cX12_frameTime 24 = .ok (.goto 4, 3) := by decide +kernel
theorem dX12_frameTime_27 : decode cX12_frameTime 27 = .ok (.iconst 0, 1) := by decide +kernel
theorem dX12_frameTime_28 : decode cX12_frameTime 28 = .ok (.iconst 2, 1) := by decide +kernel
theorem dX12_frameTime_29 : decode cX12_frameTime 29 = .ok (.invokevirtual 60, 3) := by decide +kernel
theorem dX12_frameTime_32 : decode cX12_frameTime 32 = .ok (.ifCond .ne 26, 3) := by decide +kernel
theorem dX12_frameTime_35 : decode cX12_frameTime 35 = .ok (.aload_n 0, 1) := by decide +kernel
theorem dX12_frameTime_36 : decode cX12_frameTime 36 = .ok (.iload_n 2, 1) := by decide +kernel
theorem dX12_frameTime_37 : decode cX12_frameTime 37 = .ok (.i2l, 1) := by decide +kernel
theorem dX12_frameTime_38 : decode cX12_frameTime 38 = .ok (.lconst 0, 1) := by decide +kernel
theorem dX12_frameTime_39 : decode cX12_frameTime 39 = .ok (.lconst 1, 1) := by decide +kernel
theorem dX12_frameTime_40 : decode cX12_frameTime 40 = .ok (.invokestatic 52, 3) := by decide +kernel
theorem dX12_frameTime_43 : decode cX12_frameTime 43 = .ok (.ifCond .ne 7, 3) := by decide +kernel
theorem dX12_frameTime_46 : decode cX12_frameTime 46 = .ok (.iconst 1, 1) := by decide +kernel
theorem dX12_frameTime_47 : decode cX12_frameTime 47 = .ok (.goto 4, 3) := by decide +kernel
theorem dX12_frameTime_50 : decode cX12_frameTime 50 = .ok (.iconst 0, 1) := by decide +kernel
theorem dX12_frameTime_51 : decode cX12_frameTime 51 = .ok (.iconst 3, 1) := by decide +kernel
theorem dX12_frameTime_52 : decode cX12_frameTime 52 = .ok (.invokevirtual 60, 3) := by decide +kernel
theorem dX12_frameTime_55 : decode cX12_frameTime 55 = .ok (.ifCond .eq 5, 3) := by decide +kernel
theorem dX12_frameTime_58 : decode cX12_frameTime 58 = .ok (.iconst 0, 1) := by decide +kernel
theorem dX12_frameTime_59 : decode cX12_frameTime 59 = .ok (.ireturn, 1) := by decide +kernel
theorem dX12_frameTime_60 : decode cX12_frameTime 60 = .ok (.iload_n 2, 1) := by decide +kernel
theorem dX12_frameTime_61 : decode cX12_frameTime 61 = .ok (.ifCond .ne 16, 3) := by decide +kernel
theorem dX12_frameTime_64 : decode cX12_frameTime 64 = .ok (.aload_n 0, 1) := by decide +kernel
theorem dX12_frameTime_65 : decode cX12_frameTime 65 = .ok (.getfield 7, 3) := by decide +kernel
theorem dX12_frameTime_68 : decode cX12_frameTime 68 = .ok (.sipush 336, 3) := by decide +kernel
theorem dX12_frameTime_71 : decode cX12_frameTime 71 = .ok (.iload_n 1, 1) := by decide +kernel
theorem dX12_frameTime_72 : decode cX12_frameTime 72 = .ok (.iadd, 1) := by decide +kernel
theorem dX12_frameTime_73 : decode cX12_frameTime 73 = .ok (.iaload, 1) := by decide +kernel
theorem dX12_frameTime_74 : decode cX12_frameTime 74 = .ok (.goto 13, 3) := by decide +kernel
theorem dX12_frameTime_77 : decode cX12_frameTime 77 = .ok (.aload_n 0, 1) := by decide +kernel
theorem dX12_frameTime_78 : decode cX12_frameTime 78 = .ok (.getfield 7, 3) := by decide +kernel
theorem dX12_frameTime_81 : decode cX12_frameTime 81 = .ok (.sipush 352, 3) := by decide +kernel
theorem dX12_frameTime_84 : decode cX12_frameTime 84 = .ok (.iload_n 1, 1) := by decide +kernel
theorem dX12_frameTime_85 : decode cX12_frameTime 85 = .ok (.iadd, 1) := by decide +kernel
theorem dX12_frameTime_86 : decode cX12_frameTime 86 = .ok (.iaload, 1) := by decide +kernel
theorem dX12_frameTime_87 : decode cX12_frameTime 87 = .ok (.ireturn, 1) := by decide +kernel
theorem dX12_victim_0 : decode cX12_victim 0 = .ok (.aload_n 0, 1) := by decide +kernel
theorem dX12_victim_1 : decode cX12_victim 1 = .ok (.iconst 0, 1) := by decide +kernel
theorem dX12_victim_2 : decode cX12_victim 2 = .ok (.putfield 49, 3) := by decide +kernel
theorem dX12_victim_5 : decode cX12_victim 5 = .ok (.aload_n 0, 1) := by decide +kernel
theorem dX12_victim_6 : decode cX12_victim 6 = .ok (.invokevirtual 202, 3) := by decide +kernel
theorem dX12_victim_9 : decode cX12_victim 9 = .ok (.iconst (-1), 1) := by decide +kernel
theorem dX12_victim_10 : decode cX12_victim 10 = .ok (.if_icmp .ne 10, 3) := by decide +kernel
theorem dX12_victim_13 : decode cX12_victim 13 = .ok (.aload_n 0, 1) := by decide +kernel
theorem dX12_victim_14 : decode cX12_victim 14 = .ok (.invokevirtual 205, 3) := by decide +kernel
theorem dX12_victim_17 : decode cX12_victim 17 = .ok (.goto 4, 3) := by decide +kernel
theorem dX12_victim_20 : decode cX12_victim 20 = .ok (.iconst (-1), 1) := by decide +kernel
theorem dX12_victim_21 : decode cX12_victim 21 = .ok (.ireturn, 1) := by decide +kernel
theorem dX12_pagesIn_0 : decode cX12_pagesIn 0 = .ok (.iconst 0, 1) := by decide +kernel
theorem dX12_pagesIn_1 : decode cX12_pagesIn 1 = .ok (.istore 4, 2) := by decide +kernel
theorem dX12_pagesIn_3 : decode cX12_pagesIn 3 = .ok (.iconst 0, 1) := by decide +kernel
theorem dX12_pagesIn_4 : decode cX12_pagesIn 4 = .ok (.istore 5, 2) := by decide +kernel
theorem dX12_pagesIn_6 : decode cX12_pagesIn 6 = .ok (.iload 5, 2) := by decide +kernel
theorem dX12_pagesIn_8 : decode cX12_pagesIn 8 = .ok (.aload_n 0, 1) := by decide +kernel
theorem dX12_pagesIn_9 : decode cX12_pagesIn 9 = .ok (.getfield 7, 3) := by decide +kernel
theorem dX12_pagesIn_12 : decode cX12_pagesIn 12 = .ok (.bipush 20, 2) := by decide +kernel
theorem dX12_pagesIn_14 : decode cX12_pagesIn 14 = .ok (.iload_n 1, 1) := by decide +kernel
theorem dX12_pagesIn_15 : decode cX12_pagesIn 15 = .ok (.iadd, 1) := by decide +kernel
theorem dX12_pagesIn_16 : decode cX12_pagesIn 16 = .ok (.iaload, 1) := by decide +kernel
theorem dX12_pagesIn_17 : decode cX12_pagesIn 17 = .ok (.if_icmp .ge 44, 3) := by decide +kernel
theorem dX12_pagesIn_20 : decode cX12_pagesIn 20 = .ok (.iload 4, 2) := by decide +kernel
theorem dX12_pagesIn_22 : decode cX12_pagesIn 22 = .ok (.aload_n 0, 1) := by decide +kernel
theorem dX12_pagesIn_23 : decode cX12_pagesIn 23 = .ok (.bipush 8, 2) := by decide +kernel
theorem dX12_pagesIn_25 : decode cX12_pagesIn 25 = .ok (.iload_n 1, 1) := by decide +kernel
theorem dX12_pagesIn_26 : decode cX12_pagesIn 26 = .ok (.imul, 1) := by decide +kernel
theorem dX12_pagesIn_27 : decode cX12_pagesIn 27 = .ok (.iload 5, 2) := by decide +kernel
theorem dX12_pagesIn_29 : decode cX12_pagesIn 29 = .ok (.iadd, 1) := by decide +kernel
theorem dX12_pagesIn_30 : decode cX12_pagesIn 30 = .ok (.invokevirtual 322, 3) := by decide +kernel
theorem dX12_pagesIn_33 : decode cX12_pagesIn 33 = .ok (.i2l, 1) := by decide +kernel
theorem dX12_pagesIn_34 : decode cX12_pagesIn 34 = .ok (.iload_n 2, 1) := by decide +kernel
theorem dX12_pagesIn_35 : decode cX12_pagesIn 35 = .ok (.i2l, 1) := by decide +kernel
theorem dX12_pagesIn_36 : decode cX12_pagesIn 36 = .ok (.iload_n 3, 1) := by decide +kernel
theorem dX12_pagesIn_37 : decode cX12_pagesIn 37 = .ok (.i2l, 1) := by decide +kernel
theorem dX12_pagesIn_38 : decode cX12_pagesIn 38 = .ok (.invokestatic 52, 3) := by decide +kernel
theorem dX12_pagesIn_41 : decode cX12_pagesIn 41 = .ok (.ifCond .eq 10, 3) := by decide +kernel
theorem dX12_pagesIn_44 : decode cX12_pagesIn 44 = .ok (.iconst 1, 1) := by decide +kernel
theorem dX12_pagesIn_45 : decode cX12_pagesIn 45 = .ok (.iload 5, 2) := by decide +kernel
theorem dX12_pagesIn_47 : decode cX12_pagesIn 47 = .ok (.ishl, 1) := by decide +kernel
theorem dX12_pagesIn_48 : decode cX12_pagesIn 48 = .ok (.goto 4, 3) := by decide +kernel
theorem dX12_pagesIn_51 : decode cX12_pagesIn 51 = .ok (.iconst 0, 1) := by decide +kernel
theorem dX12_pagesIn_52 : decode cX12_pagesIn 52 = .ok (.ior, 1) := by decide +kernel
theorem dX12_pagesIn_53 : decode cX12_pagesIn 53 = .ok (.istore 4, 2) := by decide +kernel
theorem dX12_pagesIn_55 : decode cX12_pagesIn 55 = .ok (.iinc 5 1, 3) := by decide +kernel
theorem dX12_pagesIn_58 : decode cX12_pagesIn 58 = .ok (.goto (-52), 3) := by decide +kernel
theorem dX12_pagesIn_61 : decode cX12_pagesIn 61 = .ok (.iload 4, 2) := by decide +kernel
theorem dX12_pagesIn_63 : decode cX12_pagesIn 63 = .ok (.ireturn, 1) := by decide +kernel
theorem dX12_residentPages_0 : decode cX12_residentPages 0 = .ok (.aload_n 0, 1) := by decide +kernel
theorem dX12_residentPages_1 : decode cX12_residentPages 1 = .ok (.iload_n 1, 1) := by decide +kernel
theorem dX12_residentPages_2 : decode cX12_residentPages 2 = .ok (.invokevirtual 271, 3) := by decide +kernel
theorem dX12_residentPages_5 : decode cX12_residentPages 5 = .ok (.ifCond .eq 7, 3) := by decide +kernel
theorem dX12_residentPages_8 : decode cX12_residentPages 8 = .ok (.iconst 0, 1) := by decide +kernel
theorem dX12_residentPages_9 : decode cX12_residentPages 9 = .ok (.goto 10, 3) := by decide +kernel
theorem dX12_residentPages_12 : decode cX12_residentPages 12 = .ok (.aload_n 0, 1) := by decide +kernel
theorem dX12_residentPages_13 : decode cX12_residentPages 13 = .ok (.iload_n 1, 1) := by decide +kernel
theorem dX12_residentPages_14 : decode cX12_residentPages 14 = .ok (.iconst 2, 1) := by decide +kernel
theorem dX12_residentPages_15 : decode cX12_residentPages 15 = .ok (.iconst 3, 1) := by decide +kernel
theorem dX12_residentPages_16 : decode cX12_residentPages 16 = .ok (.invokevirtual 328, 3) := by decide +kernel
theorem dX12_residentPages_19 : decode cX12_residentPages 19 = .ok (.ireturn, 1) := by decide +kernel
theorem dX12_dirtyPages_0 : decode cX12_dirtyPages 0 = .ok (.aload_n 0, 1) := by decide +kernel
theorem dX12_dirtyPages_1 : decode cX12_dirtyPages 1 = .ok (.iload_n 1, 1) := by decide +kernel
theorem dX12_dirtyPages_2 : decode cX12_dirtyPages 2 = .ok (.invokevirtual 271, 3) := by decide +kernel
theorem dX12_dirtyPages_5 : decode cX12_dirtyPages 5 = .ok (.ifCond .eq 7, 3) := by decide +kernel
theorem dX12_dirtyPages_8 : decode cX12_dirtyPages 8 = .ok (.iconst 0, 1) := by decide +kernel
theorem dX12_dirtyPages_9 : decode cX12_dirtyPages 9 = .ok (.goto 10, 3) := by decide +kernel
theorem dX12_dirtyPages_12 : decode cX12_dirtyPages 12 = .ok (.aload_n 0, 1) := by decide +kernel
theorem dX12_dirtyPages_13 : decode cX12_dirtyPages 13 = .ok (.iload_n 1, 1) := by decide +kernel
theorem dX12_dirtyPages_14 : decode cX12_dirtyPages 14 = .ok (.iconst 3, 1) := by decide +kernel
theorem dX12_dirtyPages_15 : decode cX12_dirtyPages 15 = .ok (.iconst 3, 1) := by decide +kernel
theorem dX12_dirtyPages_16 : decode cX12_dirtyPages 16 = .ok (.invokevirtual 328, 3) := by decide +kernel
theorem dX12_dirtyPages_19 : decode cX12_dirtyPages 19 = .ok (.ireturn, 1) := by decide +kernel
theorem dX12_slotUse_0 : decode cX12_slotUse 0 = .ok (.aload_n 0, 1) := by decide +kernel
theorem dX12_slotUse_1 : decode cX12_slotUse 1 = .ok (.iload_n 1, 1) := by decide +kernel
theorem dX12_slotUse_2 : decode cX12_slotUse 2 = .ok (.invokevirtual 332, 3) := by decide +kernel
theorem dX12_slotUse_5 : decode cX12_slotUse 5 = .ok (.ifCond .eq 7, 3) := by decide +kernel
theorem dX12_slotUse_8 : decode cX12_slotUse 8 = .ok (.iconst 0, 1) := by decide +kernel
theorem dX12_slotUse_9 : decode cX12_slotUse 9 = .ok (.goto 8, 3) := by decide +kernel
theorem dX12_slotUse_12 : decode cX12_slotUse 12 = .ok (.aload_n 0, 1) := by decide +kernel
theorem dX12_slotUse_13 : decode cX12_slotUse 13 = .ok (.iload_n 1, 1) := by decide +kernel
theorem dX12_slotUse_14 : decode cX12_slotUse 14 = .ok (.invokevirtual 180, 3) := by decide +kernel
theorem dX12_slotUse_17 : decode cX12_slotUse 17 = .ok (.ireturn, 1) := by decide +kernel
theorem dX12_slotOwner_0 : decode cX12_slotOwner 0 = .ok (.aload_n 0, 1) := by decide +kernel
theorem dX12_slotOwner_1 : decode cX12_slotOwner 1 = .ok (.iload_n 1, 1) := by decide +kernel
theorem dX12_slotOwner_2 : decode cX12_slotOwner 2 = .ok (.invokevirtual 332, 3) := by decide +kernel
theorem dX12_slotOwner_5 : decode cX12_slotOwner 5 = .ok (.ifCond .eq 7, 3) := by decide +kernel
theorem dX12_slotOwner_8 : decode cX12_slotOwner 8 = .ok (.iconst 0, 1) := by decide +kernel
theorem dX12_slotOwner_9 : decode cX12_slotOwner 9 = .ok (.goto 13, 3) := by decide +kernel
theorem dX12_slotOwner_12 : decode cX12_slotOwner 12 = .ok (.aload_n 0, 1) := by decide +kernel
theorem dX12_slotOwner_13 : decode cX12_slotOwner 13 = .ok (.getfield 7, 3) := by decide +kernel
theorem dX12_slotOwner_16 : decode cX12_slotOwner 16 = .ok (.sipush 416, 3) := by decide +kernel
theorem dX12_slotOwner_19 : decode cX12_slotOwner 19 = .ok (.iload_n 1, 1) := by decide +kernel
theorem dX12_slotOwner_20 : decode cX12_slotOwner 20 = .ok (.iadd, 1) := by decide +kernel
theorem dX12_slotOwner_21 : decode cX12_slotOwner 21 = .ok (.iaload, 1) := by decide +kernel
theorem dX12_slotOwner_22 : decode cX12_slotOwner 22 = .ok (.ireturn, 1) := by decide +kernel
theorem dX12_slotStamp_0 : decode cX12_slotStamp 0 = .ok (.aload_n 0, 1) := by decide +kernel
theorem dX12_slotStamp_1 : decode cX12_slotStamp 1 = .ok (.iload_n 1, 1) := by decide +kernel
theorem dX12_slotStamp_2 : decode cX12_slotStamp 2 = .ok (.invokevirtual 332, 3) := by decide +kernel
theorem dX12_slotStamp_5 : decode cX12_slotStamp 5 = .ok (.ifCond .eq 7, 3) := by decide +kernel
theorem dX12_slotStamp_8 : decode cX12_slotStamp 8 = .ok (.iconst 0, 1) := by decide +kernel
theorem dX12_slotStamp_9 : decode cX12_slotStamp 9 = .ok (.goto 13, 3) := by decide +kernel
theorem dX12_slotStamp_12 : decode cX12_slotStamp 12 = .ok (.aload_n 0, 1) := by decide +kernel
theorem dX12_slotStamp_13 : decode cX12_slotStamp 13 = .ok (.getfield 7, 3) := by decide +kernel
theorem dX12_slotStamp_16 : decode cX12_slotStamp 16 = .ok (.sipush 464, 3) := by decide +kernel
theorem dX12_slotStamp_19 : decode cX12_slotStamp 19 = .ok (.iload_n 1, 1) := by decide +kernel
theorem dX12_slotStamp_20 : decode cX12_slotStamp 20 = .ok (.iadd, 1) := by decide +kernel
theorem dX12_slotStamp_21 : decode cX12_slotStamp 21 = .ok (.iaload, 1) := by decide +kernel
theorem dX12_slotStamp_22 : decode cX12_slotStamp 22 = .ok (.ireturn, 1) := by decide +kernel
theorem dX12_slotValue_0 : decode cX12_slotValue 0 = .ok (.aload_n 0, 1) := by decide +kernel
theorem dX12_slotValue_1 : decode cX12_slotValue 1 = .ok (.iload_n 1, 1) := by decide +kernel
theorem dX12_slotValue_2 : decode cX12_slotValue 2 = .ok (.invokevirtual 332, 3) := by decide +kernel
theorem dX12_slotValue_5 : decode cX12_slotValue 5 = .ok (.ifCond .eq 7, 3) := by decide +kernel
theorem dX12_slotValue_8 : decode cX12_slotValue 8 = .ok (.iconst 0, 1) := by decide +kernel
theorem dX12_slotValue_9 : decode cX12_slotValue 9 = .ok (.goto 13, 3) := by decide +kernel
theorem dX12_slotValue_12 : decode cX12_slotValue 12 = .ok (.aload_n 0, 1) := by decide +kernel
theorem dX12_slotValue_13 : decode cX12_slotValue 13 = .ok (.getfield 7, 3) := by decide +kernel
theorem dX12_slotValue_16 : decode cX12_slotValue 16 = .ok (.sipush 368, 3) := by decide +kernel
theorem dX12_slotValue_19 : decode cX12_slotValue 19 = .ok (.iload_n 1, 1) := by decide +kernel
theorem dX12_slotValue_20 : decode cX12_slotValue 20 = .ok (.iadd, 1) := by decide +kernel
theorem dX12_slotValue_21 : decode cX12_slotValue 21 = .ok (.iaload, 1) := by decide +kernel
theorem dX12_slotValue_22 : decode cX12_slotValue 22 = .ok (.ireturn, 1) := by decide +kernel
theorem dX12_nextSlot_0 : decode cX12_nextSlot 0 = .ok (.aload_n 0, 1) := by decide +kernel
theorem dX12_nextSlot_1 : decode cX12_nextSlot 1 = .ok (.iconst 0, 1) := by decide +kernel
theorem dX12_nextSlot_2 : decode cX12_nextSlot 2 = .ok (.putfield 49, 3) := by decide +kernel
theorem dX12_nextSlot_5 : decode cX12_nextSlot 5 = .ok (.aload_n 0, 1) := by decide +kernel
theorem dX12_nextSlot_6 : decode cX12_nextSlot 6 = .ok (.invokevirtual 186, 3) := by decide +kernel
theorem dX12_nextSlot_9 : decode cX12_nextSlot 9 = .ok (.ireturn, 1) := by decide +kernel
theorem dX12_freeSlots_0 : decode cX12_freeSlots 0 = .ok (.aload_n 0, 1) := by decide +kernel
theorem dX12_freeSlots_1 : decode cX12_freeSlots 1 = .ok (.iconst 0, 1) := by decide +kernel
theorem dX12_freeSlots_2 : decode cX12_freeSlots 2 = .ok (.putfield 49, 3) := by decide +kernel
theorem dX12_freeSlots_5 : decode cX12_freeSlots 5 = .ok (.aload_n 0, 1) := by decide +kernel
theorem dX12_freeSlots_6 : decode cX12_freeSlots 6 = .ok (.invokevirtual 250, 3) := by decide +kernel
theorem dX12_freeSlots_9 : decode cX12_freeSlots 9 = .ok (.ireturn, 1) := by decide +kernel
theorem dX12_sharedSlots_0 : decode cX12_sharedSlots 0 = .ok (.aload_n 0, 1) := by decide +kernel
theorem dX12_sharedSlots_1 : decode cX12_sharedSlots 1 = .ok (.iconst 0, 1) := by decide +kernel
theorem dX12_sharedSlots_2 : decode cX12_sharedSlots 2 = .ok (.putfield 49, 3) := by decide +kernel
theorem dX12_sharedSlots_5 : decode cX12_sharedSlots 5 = .ok (.iconst 0, 1) := by decide +kernel
theorem dX12_sharedSlots_6 : decode cX12_sharedSlots 6 = .ok (.istore_n 1, 1) := by decide +kernel
theorem dX12_sharedSlots_7 : decode cX12_sharedSlots 7 = .ok (.iconst 0, 1) := by decide +kernel
theorem dX12_sharedSlots_8 : decode cX12_sharedSlots 8 = .ok (.istore_n 2, 1) := by decide +kernel
theorem dX12_sharedSlots_9 : decode cX12_sharedSlots 9 = .ok (.iload_n 2, 1) := by decide +kernel
theorem dX12_sharedSlots_10 : decode cX12_sharedSlots 10 = .ok (.aload_n 0, 1) := by decide +kernel
theorem dX12_sharedSlots_11 : decode cX12_sharedSlots 11 = .ok (.getfield 7, 3) := by decide +kernel
theorem dX12_sharedSlots_14 : decode cX12_sharedSlots 14 = .ok (.iconst 1, 1) := by decide +kernel
theorem dX12_sharedSlots_15 : decode cX12_sharedSlots 15 = .ok (.iaload, 1) := by decide +kernel
theorem dX12_sharedSlots_16 : decode cX12_sharedSlots 16 = .ok (.if_icmp .ge 29, 3) := by decide +kernel
theorem dX12_sharedSlots_19 : decode cX12_sharedSlots 19 = .ok (.iload_n 1, 1) := by decide +kernel
theorem dX12_sharedSlots_20 : decode cX12_sharedSlots 20 = .ok (.aload_n 0, 1) := by decide +kernel
theorem dX12_sharedSlots_21 : decode cX12_sharedSlots 21 = .ok (.iload_n 2, 1) := by decide +kernel
theorem dX12_sharedSlots_22 : decode cX12_sharedSlots 22 = .ok (.invokevirtual 180, 3) := by decide +kernel
theorem dX12_sharedSlots_25 : decode cX12_sharedSlots 25 = .ok (.invokestatic 335, 3) := by decide +kernel
theorem dX12_sharedSlots_28 : decode cX12_sharedSlots 28 = .ok (.iconst 1, 1) := by decide +kernel
theorem dX12_sharedSlots_29 : decode cX12_sharedSlots 29 = .ok (.if_icmp .le 7, 3) := by decide +kernel
theorem dX12_sharedSlots_32 : decode cX12_sharedSlots 32 = .ok (.iconst 1, 1) := by decide +kernel
theorem dX12_sharedSlots_33 : decode cX12_sharedSlots 33 = .ok (.goto 4, 3) := by decide +kernel
theorem dX12_sharedSlots_36 : decode cX12_sharedSlots 36 = .ok (.iconst 0, 1) := by decide +kernel
theorem dX12_sharedSlots_37 : decode cX12_sharedSlots 37 = .ok (.iadd, 1) := by decide +kernel
theorem dX12_sharedSlots_38 : decode cX12_sharedSlots 38 = .ok (.istore_n 1, 1) := by decide +kernel
theorem dX12_sharedSlots_39 : decode cX12_sharedSlots 39 = .ok (.iinc 2 1, 3) := by decide +kernel
theorem dX12_sharedSlots_42 : decode cX12_sharedSlots 42 = .ok (.goto (-33), 3) := by decide +kernel
theorem dX12_sharedSlots_45 : decode cX12_sharedSlots 45 = .ok (.iload_n 1, 1) := by decide +kernel
theorem dX12_sharedSlots_46 : decode cX12_sharedSlots 46 = .ok (.ireturn, 1) := by decide +kernel
theorem dX12_longestRun_0 : decode cX12_longestRun 0 = .ok (.aload_n 0, 1) := by decide +kernel
theorem dX12_longestRun_1 : decode cX12_longestRun 1 = .ok (.iconst 0, 1) := by decide +kernel
theorem dX12_longestRun_2 : decode cX12_longestRun 2 = .ok (.putfield 49, 3) := by decide +kernel
theorem dX12_longestRun_5 : decode cX12_longestRun 5 = .ok (.iconst 0, 1) := by decide +kernel
theorem dX12_longestRun_6 : decode cX12_longestRun 6 = .ok (.istore_n 1, 1) := by decide +kernel
theorem dX12_longestRun_7 : decode cX12_longestRun 7 = .ok (.iconst 0, 1) := by decide +kernel
theorem dX12_longestRun_8 : decode cX12_longestRun 8 = .ok (.istore_n 2, 1) := by decide +kernel
theorem dX12_longestRun_9 : decode cX12_longestRun 9 = .ok (.iconst 0, 1) := by decide +kernel
theorem dX12_longestRun_10 : decode cX12_longestRun 10 = .ok (.istore_n 3, 1) := by decide +kernel
theorem dX12_longestRun_11 : decode cX12_longestRun 11 = .ok (.iload_n 3, 1) := by decide +kernel
theorem dX12_longestRun_12 : decode cX12_longestRun 12 = .ok (.aload_n 0, 1) := by decide +kernel
theorem dX12_longestRun_13 : decode cX12_longestRun 13 = .ok (.getfield 7, 3) := by decide +kernel
theorem dX12_longestRun_16 : decode cX12_longestRun 16 = .ok (.iconst 1, 1) := by decide +kernel
theorem dX12_longestRun_17 : decode cX12_longestRun 17 = .ok (.iaload, 1) := by decide +kernel
theorem dX12_longestRun_18 : decode cX12_longestRun 18 = .ok (.if_icmp .ge 31, 3) := by decide +kernel
theorem dX12_longestRun_21 : decode cX12_longestRun 21 = .ok (.aload_n 0, 1) := by decide +kernel
theorem dX12_longestRun_22 : decode cX12_longestRun 22 = .ok (.iload_n 3, 1) := by decide +kernel
theorem dX12_longestRun_23 : decode cX12_longestRun 23 = .ok (.invokevirtual 180, 3) := by decide +kernel
theorem dX12_longestRun_26 : decode cX12_longestRun 26 = .ok (.ifCond .ne 9, 3) := by decide +kernel
theorem dX12_longestRun_29 : decode cX12_longestRun 29 = .ok (.iload_n 2, 1) := by decide +kernel
theorem dX12_longestRun_30 : decode cX12_longestRun 30 = .ok (.iconst 1, 1) := by decide +kernel
theorem dX12_longestRun_31 : decode cX12_longestRun 31 = .ok (.iadd, 1) := by decide +kernel
theorem dX12_longestRun_32 : decode cX12_longestRun 32 = .ok (.goto 4, 3) := by decide +kernel
theorem dX12_longestRun_35 : decode cX12_longestRun 35 = .ok (.iconst 0, 1) := by decide +kernel
theorem dX12_longestRun_36 : decode cX12_longestRun 36 = .ok (.istore_n 2, 1) := by decide +kernel
theorem dX12_longestRun_37 : decode cX12_longestRun 37 = .ok (.iload_n 1, 1) := by decide +kernel
theorem dX12_longestRun_38 : decode cX12_longestRun 38 = .ok (.iload_n 2, 1) := by decide +kernel
theorem dX12_longestRun_39 : decode cX12_longestRun 39 = .ok (.invokestatic 338, 3) := by decide +kernel
theorem dX12_longestRun_42 : decode cX12_longestRun 42 = .ok (.istore_n 1, 1) := by decide +kernel
theorem dX12_longestRun_43 : decode cX12_longestRun 43 = .ok (.iinc 3 1, 3) := by decide +kernel
theorem dX12_longestRun_46 : decode cX12_longestRun 46 = .ok (.goto (-35), 3) := by decide +kernel
theorem dX12_longestRun_49 : decode cX12_longestRun 49 = .ok (.iload_n 1, 1) := by decide +kernel
theorem dX12_longestRun_50 : decode cX12_longestRun 50 = .ok (.ireturn, 1) := by decide +kernel
theorem dX12_freeSlot_0 : decode cX12_freeSlot 0 = .ok (.aload_n 0, 1) := by decide +kernel
theorem dX12_freeSlot_1 : decode cX12_freeSlot 1 = .ok (.iconst 0, 1) := by decide +kernel
theorem dX12_freeSlot_2 : decode cX12_freeSlot 2 = .ok (.putfield 49, 3) := by decide +kernel
theorem dX12_freeSlot_5 : decode cX12_freeSlot 5 = .ok (.iconst 0, 1) := by decide +kernel
theorem dX12_freeSlot_6 : decode cX12_freeSlot 6 = .ok (.istore_n 2, 1) := by decide +kernel
theorem dX12_freeSlot_7 : decode cX12_freeSlot 7 = .ok (.iload_n 2, 1) := by decide +kernel
theorem dX12_freeSlot_8 : decode cX12_freeSlot 8 = .ok (.aload_n 0, 1) := by decide +kernel
theorem dX12_freeSlot_9 : decode cX12_freeSlot 9 = .ok (.getfield 7, 3) := by decide +kernel
theorem dX12_freeSlot_12 : decode cX12_freeSlot 12 = .ok (.iconst 1, 1) := by decide +kernel
theorem dX12_freeSlot_13 : decode cX12_freeSlot 13 = .ok (.iaload, 1) := by decide +kernel
theorem dX12_freeSlot_14 : decode cX12_freeSlot 14 = .ok (.if_icmp .ge 76, 3) := by decide +kernel
theorem dX12_freeSlot_17 : decode cX12_freeSlot 17 = .ok (.aload_n 0, 1) := by decide +kernel
theorem dX12_freeSlot_18 : decode cX12_freeSlot 18 = .ok (.iload_n 2, 1) := by decide +kernel
theorem dX12_freeSlot_19 : decode cX12_freeSlot 19 = .ok (.invokevirtual 180, 3) := by decide +kernel
theorem dX12_freeSlot_22 : decode cX12_freeSlot 22 = .ok (.ifCond .eq 6, 3) := by decide +kernel
theorem dX12_freeSlot_25 : decode cX12_freeSlot 25 = .ok (.goto 59, 3) := by decide +kernel
theorem dX12_freeSlot_28 : decode cX12_freeSlot 28 = .ok (.iconst 0, 1) := by decide +kernel
theorem dX12_freeSlot_29 : decode cX12_freeSlot 29 = .ok (.istore_n 3, 1) := by decide +kernel
theorem dX12_freeSlot_30 : decode cX12_freeSlot 30 = .ok (.iconst 0, 1) := by decide +kernel
theorem dX12_freeSlot_31 : decode cX12_freeSlot 31 = .ok (.istore 4, 2) := by decide +kernel
theorem dX12_freeSlot_33 : decode cX12_freeSlot 33 = .ok (.iload 4, 2) := by decide +kernel
theorem dX12_freeSlot_35 : decode cX12_freeSlot 35 = .ok (.aload_n 0, 1) := by decide +kernel
theorem dX12_freeSlot_36 : decode cX12_freeSlot 36 = .ok (.getfield 7, 3) := by decide +kernel
theorem dX12_freeSlot_39 : decode cX12_freeSlot 39 = .ok (.iconst 1, 1) := by decide +kernel
theorem dX12_freeSlot_40 : decode cX12_freeSlot 40 = .ok (.iaload, 1) := by decide +kernel
theorem dX12_freeSlot_41 : decode cX12_freeSlot 41 = .ok (.if_icmp .ge 36, 3) := by decide +kernel
theorem dX12_freeSlot_44 : decode cX12_freeSlot 44 = .ok (.iload_n 3, 1) := by decide +kernel
theorem dX12_freeSlot_45 : decode cX12_freeSlot 45 = .ok (.aload_n 0, 1) := by decide +kernel
theorem dX12_freeSlot_46 : decode cX12_freeSlot 46 = .ok (.iload 4, 2) := by decide +kernel
theorem dX12_freeSlot_48 : decode cX12_freeSlot 48 = .ok (.invokevirtual 180, 3) := by decide +kernel
theorem dX12_freeSlot_51 : decode cX12_freeSlot 51 = .ok (.ifCond .ne 17, 3) := by decide +kernel
theorem dX12_freeSlot_54 : decode cX12_freeSlot 54 = .ok (.aload_n 0, 1) := by decide +kernel
theorem dX12_freeSlot_55 : decode cX12_freeSlot 55 = .ok (.iload 4, 2) := by decide +kernel
theorem dX12_freeSlot_57 : decode cX12_freeSlot 57 = .ok (.iload_n 2, 1) := by decide +kernel
theorem dX12_freeSlot_58 : decode cX12_freeSlot 58 = .ok (.invokevirtual 183, 3) := by decide +kernel
theorem dX12_freeSlot_61 : decode cX12_freeSlot 61 = .ok (.ifCond .eq 7, 3) := by decide +kernel
theorem dX12_freeSlot_64 : decode cX12_freeSlot 64 = .ok (.iconst 1, 1) := by decide +kernel
theorem dX12_freeSlot_65 : decode cX12_freeSlot 65 = .ok (.goto 4, 3) := by decide +kernel
theorem dX12_freeSlot_68 : decode cX12_freeSlot 68 = .ok (.iconst 0, 1) := by decide +kernel
theorem dX12_freeSlot_69 : decode cX12_freeSlot 69 = .ok (.iadd, 1) := by decide +kernel
theorem dX12_freeSlot_70 : decode cX12_freeSlot 70 = .ok (.istore_n 3, 1) := by decide +kernel
theorem dX12_freeSlot_71 : decode cX12_freeSlot 71 = .ok (.iinc 4 1, 3) := by decide +kernel
theorem dX12_freeSlot_74 : decode cX12_freeSlot 74 = .ok (.goto (-41), 3) := by decide +kernel
theorem dX12_freeSlot_77 : decode cX12_freeSlot 77 = .ok (.iload_n 3, 1) := by decide +kernel
theorem dX12_freeSlot_78 : decode cX12_freeSlot 78 = .ok (.iload_n 1, 1) := by decide +kernel
theorem dX12_freeSlot_79 : decode cX12_freeSlot 79 = .ok (.if_icmp .ne 5, 3) := by decide +kernel
theorem dX12_freeSlot_82 : decode cX12_freeSlot 82 = .ok (.iload_n 2, 1) := by decide +kernel
theorem dX12_freeSlot_83 : decode cX12_freeSlot 83 = .ok (.ireturn, 1) := by decide +kernel
theorem dX12_freeSlot_84 : decode cX12_freeSlot 84 = .ok (.iinc 2 1, 3) := by decide +kernel
theorem dX12_freeSlot_87 : decode cX12_freeSlot 87 = .ok (.goto (-80), 3) := by decide +kernel
theorem dX12_freeSlot_90 : decode cX12_freeSlot 90 = .ok (.aload_n 0, 1) := by decide +kernel
theorem dX12_freeSlot_91 : decode cX12_freeSlot 91 = .ok (.iconst 1, 1) := by decide +kernel
theorem dX12_freeSlot_92 : decode cX12_freeSlot 92 = .ok (.invokevirtual 80, 3) := by decide +kernel
theorem dX12_freeSlot_95 : decode cX12_freeSlot 95 = .ok (.ireturn, 1) := by decide +kernel
theorem dX12_twins_0 : decode cX12_twins 0 = .ok (.aload_n 0, 1) := by decide +kernel
theorem dX12_twins_1 : decode cX12_twins 1 = .ok (.iload_n 1, 1) := by decide +kernel
theorem dX12_twins_2 : decode cX12_twins 2 = .ok (.invokevirtual 332, 3) := by decide +kernel
theorem dX12_twins_5 : decode cX12_twins 5 = .ok (.ifCond .ne 24, 3) := by decide +kernel
theorem dX12_twins_8 : decode cX12_twins 8 = .ok (.aload_n 0, 1) := by decide +kernel
theorem dX12_twins_9 : decode cX12_twins 9 = .ok (.aload_n 0, 1) := by decide +kernel
theorem dX12_twins_10 : decode cX12_twins 10 = .ok (.iload_n 1, 1) := by decide +kernel
theorem dX12_twins_11 : decode cX12_twins 11 = .ok (.invokevirtual 180, 3) := by decide +kernel
theorem dX12_twins_14 : decode cX12_twins 14 = .ok (.ifCond .ne 7, 3) := by decide +kernel
theorem dX12_twins_17 : decode cX12_twins 17 = .ok (.iconst 1, 1) := by decide +kernel
theorem dX12_twins_18 : decode cX12_twins 18 = .ok (.goto 4, 3) := by decide +kernel
theorem dX12_twins_21 : decode cX12_twins 21 = .ok (.iconst 0, 1) := by decide +kernel
theorem dX12_twins_22 : decode cX12_twins 22 = .ok (.iconst 2, 1) := by decide +kernel
theorem dX12_twins_23 : decode cX12_twins 23 = .ok (.invokevirtual 60, 3) := by decide +kernel
theorem dX12_twins_26 : decode cX12_twins 26 = .ok (.ifCond .eq 5, 3) := by decide +kernel
theorem dX12_twins_29 : decode cX12_twins 29 = .ok (.iconst 0, 1) := by decide +kernel
theorem dX12_twins_30 : decode cX12_twins 30 = .ok (.ireturn, 1) := by decide +kernel
theorem dX12_twins_31 : decode cX12_twins 31 = .ok (.iconst (-1), 1) := by decide +kernel
theorem dX12_twins_32 : decode cX12_twins 32 = .ok (.istore_n 2, 1) := by decide +kernel
theorem dX12_twins_33 : decode cX12_twins 33 = .ok (.iconst 0, 1) := by decide +kernel
theorem dX12_twins_34 : decode cX12_twins 34 = .ok (.istore_n 3, 1) := by decide +kernel
theorem dX12_twins_35 : decode cX12_twins 35 = .ok (.iload_n 3, 1) := by decide +kernel
theorem dX12_twins_36 : decode cX12_twins 36 = .ok (.aload_n 0, 1) := by decide +kernel
theorem dX12_twins_37 : decode cX12_twins 37 = .ok (.getfield 7, 3) := by decide +kernel
theorem dX12_twins_40 : decode cX12_twins 40 = .ok (.iconst 1, 1) := by decide +kernel
theorem dX12_twins_41 : decode cX12_twins 41 = .ok (.iaload, 1) := by decide +kernel
theorem dX12_twins_42 : decode cX12_twins 42 = .ok (.if_icmp .ge 48, 3) := by decide +kernel
theorem dX12_twins_45 : decode cX12_twins 45 = .ok (.iload_n 2, 1) := by decide +kernel
theorem dX12_twins_46 : decode cX12_twins 46 = .ok (.aload_n 0, 1) := by decide +kernel
theorem dX12_twins_47 : decode cX12_twins 47 = .ok (.getfield 7, 3) := by decide +kernel
theorem dX12_twins_50 : decode cX12_twins 50 = .ok (.sipush 368, 3) := by decide +kernel
theorem dX12_twins_53 : decode cX12_twins 53 = .ok (.iload_n 3, 1) := by decide +kernel
theorem dX12_twins_54 : decode cX12_twins 54 = .ok (.iadd, 1) := by decide +kernel
theorem dX12_twins_55 : decode cX12_twins 55 = .ok (.iaload, 1) := by decide +kernel
theorem dX12_twins_56 : decode cX12_twins 56 = .ok (.aload_n 0, 1) := by decide +kernel
theorem dX12_twins_57 : decode cX12_twins 57 = .ok (.getfield 7, 3) := by decide +kernel
theorem dX12_twins_60 : decode cX12_twins 60 = .ok (.sipush 368, 3) := by decide +kernel
theorem dX12_twins_63 : decode cX12_twins 63 = .ok (.iload_n 1, 1) := by decide +kernel
theorem dX12_twins_64 : decode cX12_twins 64 = .ok (.iadd, 1) := by decide +kernel
theorem dX12_twins_65 : decode cX12_twins 65 = .ok (.iaload, 1) := by decide +kernel
theorem dX12_twins_66 : decode cX12_twins 66 = .ok (.if_icmp .ne 15, 3) := by decide +kernel
theorem dX12_twins_69 : decode cX12_twins 69 = .ok (.aload_n 0, 1) := by decide +kernel
theorem dX12_twins_70 : decode cX12_twins 70 = .ok (.iload_n 3, 1) := by decide +kernel
theorem dX12_twins_71 : decode cX12_twins 71 = .ok (.invokevirtual 180, 3) := by decide +kernel
theorem dX12_twins_74 : decode cX12_twins 74 = .ok (.ifCond .eq 7, 3) := by decide +kernel
theorem dX12_twins_77 : decode cX12_twins 77 = .ok (.iconst 1, 1) := by decide +kernel
theorem dX12_twins_78 : decode cX12_twins 78 = .ok (.goto 4, 3) := by decide +kernel
theorem dX12_twins_81 : decode cX12_twins 81 = .ok (.iconst 0, 1) := by decide +kernel
theorem dX12_twins_82 : decode cX12_twins 82 = .ok (.iadd, 1) := by decide +kernel
theorem dX12_twins_83 : decode cX12_twins 83 = .ok (.istore_n 2, 1) := by decide +kernel
theorem dX12_twins_84 : decode cX12_twins 84 = .ok (.iinc 3 1, 3) := by decide +kernel
theorem dX12_twins_87 : decode cX12_twins 87 = .ok (.goto (-52), 3) := by decide +kernel
theorem dX12_twins_90 : decode cX12_twins 90 = .ok (.iload_n 2, 1) := by decide +kernel
theorem dX12_twins_91 : decode cX12_twins 91 = .ok (.ireturn, 1) := by decide +kernel
theorem dX12_barrierSet_0 : decode cX12_barrierSet 0 = .ok (.aload_n 0, 1) := by decide +kernel
theorem dX12_barrierSet_1 : decode cX12_barrierSet 1 = .ok (.iconst 0, 1) := by decide +kernel
theorem dX12_barrierSet_2 : decode cX12_barrierSet 2 = .ok (.putfield 49, 3) := by decide +kernel
theorem dX12_barrierSet_5 : decode cX12_barrierSet 5 = .ok (.aload_n 0, 1) := by decide +kernel
theorem dX12_barrierSet_6 : decode cX12_barrierSet 6 = .ok (.getfield 7, 3) := by decide +kernel
theorem dX12_barrierSet_9 : decode cX12_barrierSet 9 = .ok (.bipush 10, 2) := by decide +kernel
theorem dX12_barrierSet_11 : decode cX12_barrierSet 11 = .ok (.iaload, 1) := by decide +kernel
theorem dX12_barrierSet_12 : decode cX12_barrierSet 12 = .ok (.ireturn, 1) := by decide +kernel
theorem dX12_pendingPages_0 : decode cX12_pendingPages 0 = .ok (.aload_n 0, 1) := by decide +kernel
theorem dX12_pendingPages_1 : decode cX12_pendingPages 1 = .ok (.iconst 0, 1) := by decide +kernel
theorem dX12_pendingPages_2 : decode cX12_pendingPages 2 = .ok (.putfield 49, 3) := by decide +kernel
theorem dX12_pendingPages_5 : decode cX12_pendingPages 5 = .ok (.aload_n 0, 1) := by decide +kernel
theorem dX12_pendingPages_6 : decode cX12_pendingPages 6 = .ok (.invokevirtual 244, 3) := by decide +kernel
theorem dX12_pendingPages_9 : decode cX12_pendingPages 9 = .ok (.ireturn, 1) := by decide +kernel
theorem dX12_pendingPage_0 : decode cX12_pendingPage 0 = .ok (.aload_n 0, 1) := by decide +kernel
theorem dX12_pendingPage_1 : decode cX12_pendingPage 1 = .ok (.iconst 0, 1) := by decide +kernel
theorem dX12_pendingPage_2 : decode cX12_pendingPage 2 = .ok (.putfield 49, 3) := by decide +kernel
theorem dX12_pendingPage_5 : decode cX12_pendingPage 5 = .ok (.iload_n 1, 1) := by decide +kernel
theorem dX12_pendingPage_6 : decode cX12_pendingPage 6 = .ok (.istore_n 2, 1) := by decide +kernel
theorem dX12_pendingPage_7 : decode cX12_pendingPage 7 = .ok (.iconst 0, 1) := by decide +kernel
theorem dX12_pendingPage_8 : decode cX12_pendingPage 8 = .ok (.istore_n 3, 1) := by decide +kernel
theorem dX12_pendingPage_9 : decode cX12_pendingPage 9 = .ok (.iload_n 3, 1) := by decide +kernel
theorem dX12_pendingPage_10 : decode cX12_pendingPage 10 = .ok (.bipush 48, 2) := by decide +kernel
theorem dX12_pendingPage_12 : decode cX12_pendingPage 12 = .ok (.if_icmp .ge 37, 3) := by decide +kernel
theorem dX12_pendingPage_15 : decode cX12_pendingPage 15 = .ok (.aload_n 0, 1) := by decide +kernel
theorem dX12_pendingPage_16 : decode cX12_pendingPage 16 = .ok (.iload_n 3, 1) := by decide +kernel
theorem dX12_pendingPage_17 : decode cX12_pendingPage 17 = .ok (.invokevirtual 177, 3) := by decide +kernel
theorem dX12_pendingPage_20 : decode cX12_pendingPage 20 = .ok (.ifCond .eq 23, 3) := by decide +kernel
theorem dX12_pendingPage_23 : decode cX12_pendingPage 23 = .ok (.aload_n 0, 1) := by decide +kernel
theorem dX12_pendingPage_24 : decode cX12_pendingPage 24 = .ok (.iload_n 3, 1) := by decide +kernel
theorem dX12_pendingPage_25 : decode cX12_pendingPage 25 = .ok (.invokevirtual 189, 3) := by decide +kernel
theorem dX12_pendingPage_28 : decode cX12_pendingPage 28 = .ok (.ifCond .ne 6, 3) := by decide +kernel
theorem dX12_pendingPage_31 : decode cX12_pendingPage 31 = .ok (.goto 12, 3) := by decide +kernel
theorem dX12_pendingPage_34 : decode cX12_pendingPage 34 = .ok (.iload_n 2, 1) := by decide +kernel
theorem dX12_pendingPage_35 : decode cX12_pendingPage 35 = .ok (.ifCond .ne 5, 3) := by decide +kernel
theorem dX12_pendingPage_38 : decode cX12_pendingPage 38 = .ok (.iload_n 3, 1) := by decide +kernel
theorem dX12_pendingPage_39 : decode cX12_pendingPage 39 = .ok (.ireturn, 1) := by decide +kernel
theorem dX12_pendingPage_40 : decode cX12_pendingPage 40 = .ok (.iinc 2 (-1), 3) := by decide +kernel
theorem dX12_pendingPage_43 : decode cX12_pendingPage 43 = .ok (.iinc 3 1, 3) := by decide +kernel
theorem dX12_pendingPage_46 : decode cX12_pendingPage 46 = .ok (.goto (-37), 3) := by decide +kernel
theorem dX12_pendingPage_49 : decode cX12_pendingPage 49 = .ok (.aload_n 0, 1) := by decide +kernel
theorem dX12_pendingPage_50 : decode cX12_pendingPage 50 = .ok (.iconst 1, 1) := by decide +kernel
theorem dX12_pendingPage_51 : decode cX12_pendingPage 51 = .ok (.invokevirtual 80, 3) := by decide +kernel
theorem dX12_pendingPage_54 : decode cX12_pendingPage 54 = .ok (.ireturn, 1) := by decide +kernel
theorem dX12_checkpointEpoch_0 : decode cX12_checkpointEpoch 0 = .ok (.aload_n 0, 1) := by decide +kernel
theorem dX12_checkpointEpoch_1 : decode cX12_checkpointEpoch 1 = .ok (.iload_n 1, 1) := by decide +kernel
theorem dX12_checkpointEpoch_2 : decode cX12_checkpointEpoch 2 = .ok (.invokevirtual 271, 3) := by decide +kernel
theorem dX12_checkpointEpoch_5 : decode cX12_checkpointEpoch 5 = .ok (.ifCond .eq 7, 3) := by decide +kernel
theorem dX12_checkpointEpoch_8 : decode cX12_checkpointEpoch 8 = .ok (.iconst 0, 1) := by decide +kernel
theorem dX12_checkpointEpoch_9 : decode cX12_checkpointEpoch 9 = .ok (.goto 12, 3) := by decide +kernel
theorem dX12_checkpointEpoch_12 : decode cX12_checkpointEpoch 12 = .ok (.aload_n 0, 1) := by decide +kernel
theorem dX12_checkpointEpoch_13 : decode cX12_checkpointEpoch 13 = .ok (.getfield 7, 3) := by decide +kernel
theorem dX12_checkpointEpoch_16 : decode cX12_checkpointEpoch 16 = .ok (.bipush 26, 2) := by decide +kernel
theorem dX12_checkpointEpoch_18 : decode cX12_checkpointEpoch 18 = .ok (.iload_n 1, 1) := by decide +kernel
theorem dX12_checkpointEpoch_19 : decode cX12_checkpointEpoch 19 = .ok (.iadd, 1) := by decide +kernel
theorem dX12_checkpointEpoch_20 : decode cX12_checkpointEpoch 20 = .ok (.iaload, 1) := by decide +kernel
theorem dX12_checkpointEpoch_21 : decode cX12_checkpointEpoch 21 = .ok (.ireturn, 1) := by decide +kernel
theorem dX12_isNoCheck_0 : decode cX12_isNoCheck 0 = .ok (.aload_n 0, 1) := by decide +kernel
theorem dX12_isNoCheck_1 : decode cX12_isNoCheck 1 = .ok (.iload_n 1, 1) := by decide +kernel
theorem dX12_isNoCheck_2 : decode cX12_isNoCheck 2 = .ok (.iload_n 2, 1) := by decide +kernel
theorem dX12_isNoCheck_3 : decode cX12_isNoCheck 3 = .ok (.invokevirtual 219, 3) := by decide +kernel
theorem dX12_isNoCheck_6 : decode cX12_isNoCheck 6 = .ok (.ifCond .ne 29, 3) := by decide +kernel
theorem dX12_isNoCheck_9 : decode cX12_isNoCheck 9 = .ok (.aload_n 0, 1) := by decide +kernel
theorem dX12_isNoCheck_10 : decode cX12_isNoCheck 10 = .ok (.aload_n 0, 1) := by decide +kernel
theorem dX12_isNoCheck_11 : decode cX12_isNoCheck 11 = .ok (.getfield 7, 3) := by decide +kernel
theorem dX12_isNoCheck_14 : decode cX12_isNoCheck 14 = .ok (.bipush 26, 2) := by decide +kernel
theorem dX12_isNoCheck_16 : decode cX12_isNoCheck 16 = .ok (.iload_n 1, 1) := by decide +kernel
theorem dX12_isNoCheck_17 : decode cX12_isNoCheck 17 = .ok (.iadd, 1) := by decide +kernel
theorem dX12_isNoCheck_18 : decode cX12_isNoCheck 18 = .ok (.iaload, 1) := by decide +kernel
theorem dX12_isNoCheck_19 : decode cX12_isNoCheck 19 = .ok (.iconst (-1), 1) := by decide +kernel
theorem dX12_isNoCheck_20 : decode cX12_isNoCheck 20 = .ok (.if_icmp .ne 7, 3) := by decide +kernel
theorem dX12_isNoCheck_23 : decode cX12_isNoCheck 23 = .ok (.iconst 1, 1) := by decide +kernel
theorem dX12_isNoCheck_24 : decode cX12_isNoCheck 24 = .ok (.goto 4, 3) := by decide +kernel
theorem dX12_isNoCheck_27 : decode cX12_isNoCheck 27 = .ok (.iconst 0, 1) := by decide +kernel
theorem dX12_isNoCheck_28 : decode cX12_isNoCheck 28 = .ok (.iconst 2, 1) := by decide +kernel
theorem dX12_isNoCheck_29 : decode cX12_isNoCheck 29 = .ok (.invokevirtual 60, 3) := by decide +kernel
theorem dX12_isNoCheck_32 : decode cX12_isNoCheck 32 = .ok (.ifCond .eq 7, 3) := by decide +kernel
theorem dX12_isNoCheck_35 : decode cX12_isNoCheck 35 = .ok (.iconst 1, 1) := by decide +kernel
theorem dX12_isNoCheck_36 : decode cX12_isNoCheck 36 = .ok (.goto 4, 3) := by decide +kernel
theorem dX12_isNoCheck_39 : decode cX12_isNoCheck 39 = .ok (.iconst 0, 1) := by decide +kernel
theorem dX12_isNoCheck_40 : decode cX12_isNoCheck 40 = .ok (.ireturn, 1) := by decide +kernel
theorem dX12_checkpointSlot_0 : decode cX12_checkpointSlot 0 = .ok (.aload_n 0, 1) := by decide +kernel
theorem dX12_checkpointSlot_1 : decode cX12_checkpointSlot 1 = .ok (.iload_n 1, 1) := by decide +kernel
theorem dX12_checkpointSlot_2 : decode cX12_checkpointSlot 2 = .ok (.iload_n 2, 1) := by decide +kernel
theorem dX12_checkpointSlot_3 : decode cX12_checkpointSlot 3 = .ok (.invokevirtual 343, 3) := by decide +kernel
theorem dX12_checkpointSlot_6 : decode cX12_checkpointSlot 6 = .ok (.ifCond .eq 7, 3) := by decide +kernel
theorem dX12_checkpointSlot_9 : decode cX12_checkpointSlot 9 = .ok (.iconst 0, 1) := by decide +kernel
theorem dX12_checkpointSlot_10 : decode cX12_checkpointSlot 10 = .ok (.goto 17, 3) := by decide +kernel
theorem dX12_checkpointSlot_13 : decode cX12_checkpointSlot 13 = .ok (.aload_n 0, 1) := by decide +kernel
theorem dX12_checkpointSlot_14 : decode cX12_checkpointSlot 14 = .ok (.getfield 7, 3) := by decide +kernel
theorem dX12_checkpointSlot_17 : decode cX12_checkpointSlot 17 = .ok (.sipush 272, 3) := by decide +kernel
theorem dX12_checkpointSlot_20 : decode cX12_checkpointSlot 20 = .ok (.iload_n 1, 1) := by decide +kernel
theorem dX12_checkpointSlot_21 : decode cX12_checkpointSlot 21 = .ok (.iload_n 2, 1) := by decide +kernel
theorem dX12_checkpointSlot_22 : decode cX12_checkpointSlot 22 = .ok (.invokestatic 222, 3) := by decide +kernel
theorem dX12_checkpointSlot_25 : decode cX12_checkpointSlot 25 = .ok (.iadd, 1) := by decide +kernel
theorem dX12_checkpointSlot_26 : decode cX12_checkpointSlot 26 = .ok (.iaload, 1) := by decide +kernel
theorem dX12_checkpointSlot_27 : decode cX12_checkpointSlot 27 = .ok (.ireturn, 1) := by decide +kernel
theorem dX12_checkpointValue_0 : decode cX12_checkpointValue 0 = .ok (.aload_n 0, 1) := by decide +kernel
theorem dX12_checkpointValue_1 : decode cX12_checkpointValue 1 = .ok (.iload_n 1, 1) := by decide +kernel
theorem dX12_checkpointValue_2 : decode cX12_checkpointValue 2 = .ok (.iload_n 2, 1) := by decide +kernel
theorem dX12_checkpointValue_3 : decode cX12_checkpointValue 3 = .ok (.invokevirtual 343, 3) := by decide +kernel
theorem dX12_checkpointValue_6 : decode cX12_checkpointValue 6 = .ok (.ifCond .eq 7, 3) := by decide +kernel
theorem dX12_checkpointValue_9 : decode cX12_checkpointValue 9 = .ok (.iconst 0, 1) := by decide +kernel
theorem dX12_checkpointValue_10 : decode cX12_checkpointValue 10 = .ok (.goto 12, 3) := by decide +kernel
theorem dX12_checkpointValue_13 : decode cX12_checkpointValue 13 = .ok (.aload_n 0, 1) := by decide +kernel
theorem dX12_checkpointValue_14 : decode cX12_checkpointValue 14 = .ok (.iload_n 1, 1) := by decide +kernel
theorem dX12_checkpointValue_15 : decode cX12_checkpointValue 15 = .ok (.iload_n 2, 1) := by decide +kernel
theorem dX12_checkpointValue_16 : decode cX12_checkpointValue 16 = .ok (.invokestatic 222, 3) := by decide +kernel
theorem dX12_checkpointValue_19 : decode cX12_checkpointValue 19 = .ok (.invokevirtual 259, 3) := by decide +kernel
theorem dX12_checkpointValue_22 : decode cX12_checkpointValue 22 = .ok (.ireturn, 1) := by decide +kernel
theorem dX12_dirtyIn_0 : decode cX12_dirtyIn 0 = .ok (.iconst 0, 1) := by decide +kernel
theorem dX12_dirtyIn_1 : decode cX12_dirtyIn 1 = .ok (.istore_n 2, 1) := by decide +kernel
theorem dX12_dirtyIn_2 : decode cX12_dirtyIn 2 = .ok (.iconst 0, 1) := by decide +kernel
theorem dX12_dirtyIn_3 : decode cX12_dirtyIn 3 = .ok (.istore_n 3, 1) := by decide +kernel
theorem dX12_dirtyIn_4 : decode cX12_dirtyIn 4 = .ok (.iload_n 3, 1) := by decide +kernel
theorem dX12_dirtyIn_5 : decode cX12_dirtyIn 5 = .ok (.aload_n 0, 1) := by decide +kernel
theorem dX12_dirtyIn_6 : decode cX12_dirtyIn 6 = .ok (.getfield 7, 3) := by decide +kernel
theorem dX12_dirtyIn_9 : decode cX12_dirtyIn 9 = .ok (.iconst 3, 1) := by decide +kernel
theorem dX12_dirtyIn_10 : decode cX12_dirtyIn 10 = .ok (.iaload, 1) := by decide +kernel
theorem dX12_dirtyIn_11 : decode cX12_dirtyIn 11 = .ok (.if_icmp .ge 34, 3) := by decide +kernel
theorem dX12_dirtyIn_14 : decode cX12_dirtyIn 14 = .ok (.iload_n 2, 1) := by decide +kernel
theorem dX12_dirtyIn_15 : decode cX12_dirtyIn 15 = .ok (.iload_n 1, 1) := by decide +kernel
theorem dX12_dirtyIn_16 : decode cX12_dirtyIn 16 = .ok (.iload_n 3, 1) := by decide +kernel
theorem dX12_dirtyIn_17 : decode cX12_dirtyIn 17 = .ok (.invokestatic 68, 3) := by decide +kernel
theorem dX12_dirtyIn_20 : decode cX12_dirtyIn 20 = .ok (.ifCond .eq 16, 3) := by decide +kernel
theorem dX12_dirtyIn_23 : decode cX12_dirtyIn 23 = .ok (.aload_n 0, 1) := by decide +kernel
theorem dX12_dirtyIn_24 : decode cX12_dirtyIn 24 = .ok (.iload_n 3, 1) := by decide +kernel
theorem dX12_dirtyIn_25 : decode cX12_dirtyIn 25 = .ok (.iconst 3, 1) := by decide +kernel
theorem dX12_dirtyIn_26 : decode cX12_dirtyIn 26 = .ok (.iconst 3, 1) := by decide +kernel
theorem dX12_dirtyIn_27 : decode cX12_dirtyIn 27 = .ok (.invokevirtual 328, 3) := by decide +kernel
theorem dX12_dirtyIn_30 : decode cX12_dirtyIn 30 = .ok (.invokestatic 335, 3) := by decide +kernel
theorem dX12_dirtyIn_33 : decode cX12_dirtyIn 33 = .ok (.goto 4, 3) := by decide +kernel
theorem dX12_dirtyIn_36 : decode cX12_dirtyIn 36 = .ok (.iconst 0, 1) := by decide +kernel
theorem dX12_dirtyIn_37 : decode cX12_dirtyIn 37 = .ok (.iadd, 1) := by decide +kernel
theorem dX12_dirtyIn_38 : decode cX12_dirtyIn 38 = .ok (.istore_n 2, 1) := by decide +kernel
theorem dX12_dirtyIn_39 : decode cX12_dirtyIn 39 = .ok (.iinc 3 1, 3) := by decide +kernel
theorem dX12_dirtyIn_42 : decode cX12_dirtyIn 42 = .ok (.goto (-38), 3) := by decide +kernel
theorem dX12_dirtyIn_45 : decode cX12_dirtyIn 45 = .ok (.iload_n 2, 1) := by decide +kernel
theorem dX12_dirtyIn_46 : decode cX12_dirtyIn 46 = .ok (.ireturn, 1) := by decide +kernel
theorem dX12_wouldWrite_0 : decode cX12_wouldWrite 0 = .ok (.aload_n 0, 1) := by decide +kernel
theorem dX12_wouldWrite_1 : decode cX12_wouldWrite 1 = .ok (.aload_n 0, 1) := by decide +kernel
theorem dX12_wouldWrite_2 : decode cX12_wouldWrite 2 = .ok (.iload_n 1, 1) := by decide +kernel
theorem dX12_wouldWrite_3 : decode cX12_wouldWrite 3 = .ok (.invokevirtual 238, 3) := by decide +kernel
theorem dX12_wouldWrite_6 : decode cX12_wouldWrite 6 = .ok (.iconst 1, 1) := by decide +kernel
theorem dX12_wouldWrite_7 : decode cX12_wouldWrite 7 = .ok (.invokevirtual 60, 3) := by decide +kernel
theorem dX12_wouldWrite_10 : decode cX12_wouldWrite 10 = .ok (.ifCond .eq 7, 3) := by decide +kernel
theorem dX12_wouldWrite_13 : decode cX12_wouldWrite 13 = .ok (.iconst 0, 1) := by decide +kernel
theorem dX12_wouldWrite_14 : decode cX12_wouldWrite 14 = .ok (.goto 8, 3) := by decide +kernel
theorem dX12_wouldWrite_17 : decode cX12_wouldWrite 17 = .ok (.aload_n 0, 1) := by decide +kernel
theorem dX12_wouldWrite_18 : decode cX12_wouldWrite 18 = .ok (.iload_n 1, 1) := by decide +kernel
theorem dX12_wouldWrite_19 : decode cX12_wouldWrite 19 = .ok (.invokevirtual 346, 3) := by decide +kernel
theorem dX12_wouldWrite_22 : decode cX12_wouldWrite 22 = .ok (.ireturn, 1) := by decide +kernel
theorem dX12_wouldFree_0 : decode cX12_wouldFree 0 = .ok (.aload_n 0, 1) := by decide +kernel
theorem dX12_wouldFree_1 : decode cX12_wouldFree 1 = .ok (.aload_n 0, 1) := by decide +kernel
theorem dX12_wouldFree_2 : decode cX12_wouldFree 2 = .ok (.iload_n 1, 1) := by decide +kernel
theorem dX12_wouldFree_3 : decode cX12_wouldFree 3 = .ok (.invokevirtual 238, 3) := by decide +kernel
theorem dX12_wouldFree_6 : decode cX12_wouldFree 6 = .ok (.iconst 1, 1) := by decide +kernel
theorem dX12_wouldFree_7 : decode cX12_wouldFree 7 = .ok (.invokevirtual 60, 3) := by decide +kernel
theorem dX12_wouldFree_10 : decode cX12_wouldFree 10 = .ok (.ifCond .ne 26, 3) := by decide +kernel
theorem dX12_wouldFree_13 : decode cX12_wouldFree 13 = .ok (.aload_n 0, 1) := by decide +kernel
theorem dX12_wouldFree_14 : decode cX12_wouldFree 14 = .ok (.aload_n 0, 1) := by decide +kernel
theorem dX12_wouldFree_15 : decode cX12_wouldFree 15 = .ok (.getfield 7, 3) := by decide +kernel
theorem dX12_wouldFree_18 : decode cX12_wouldFree 18 = .ok (.bipush 10, 2) := by decide +kernel
theorem dX12_wouldFree_20 : decode cX12_wouldFree 20 = .ok (.iaload, 1) := by decide +kernel
theorem dX12_wouldFree_21 : decode cX12_wouldFree 21 = .ok (.ifCond .eq 7, 3) := by decide +kernel
theorem dX12_wouldFree_24 : decode cX12_wouldFree 24 = .ok (.iconst 1, 1) := by decide +kernel
theorem dX12_wouldFree_25 : decode cX12_wouldFree 25 = .ok (.goto 4, 3) := by decide +kernel
theorem dX12_wouldFree_28 : decode cX12_wouldFree 28 = .ok (.iconst 0, 1) := by decide +kernel
theorem dX12_wouldFree_29 : decode cX12_wouldFree 29 = .ok (.iconst 2, 1) := by decide +kernel
theorem dX12_wouldFree_30 : decode cX12_wouldFree 30 = .ok (.invokevirtual 60, 3) := by decide +kernel
theorem dX12_wouldFree_33 : decode cX12_wouldFree 33 = .ok (.ifCond .eq 5, 3) := by decide +kernel
theorem dX12_wouldFree_36 : decode cX12_wouldFree 36 = .ok (.iconst 0, 1) := by decide +kernel
theorem dX12_wouldFree_37 : decode cX12_wouldFree 37 = .ok (.ireturn, 1) := by decide +kernel
theorem dX12_wouldFree_38 : decode cX12_wouldFree 38 = .ok (.iconst 0, 1) := by decide +kernel
theorem dX12_wouldFree_39 : decode cX12_wouldFree 39 = .ok (.istore_n 2, 1) := by decide +kernel
theorem dX12_wouldFree_40 : decode cX12_wouldFree 40 = .ok (.iconst 0, 1) := by decide +kernel
theorem dX12_wouldFree_41 : decode cX12_wouldFree 41 = .ok (.istore_n 3, 1) := by decide +kernel
theorem dX12_wouldFree_42 : decode cX12_wouldFree 42 = .ok (.iload_n 3, 1) := by decide +kernel
theorem dX12_wouldFree_43 : decode cX12_wouldFree 43 = .ok (.bipush 48, 2) := by decide +kernel
theorem dX12_wouldFree_45 : decode cX12_wouldFree 45 = .ok (.if_icmp .ge 96, 3) := by decide +kernel
theorem dX12_wouldFree_48 : decode cX12_wouldFree 48 = .ok (.aload_n 0, 1) := by decide +kernel
theorem dX12_wouldFree_49 : decode cX12_wouldFree 49 = .ok (.iload_n 3, 1) := by decide +kernel
theorem dX12_wouldFree_50 : decode cX12_wouldFree 50 = .ok (.invokevirtual 177, 3) := by decide +kernel
theorem dX12_wouldFree_53 : decode cX12_wouldFree 53 = .ok (.ifCond .eq 48, 3) := by decide +kernel
theorem dX12_wouldFree_56 : decode cX12_wouldFree 56 = .ok (.iload_n 1, 1) := by decide +kernel
theorem dX12_wouldFree_57 : decode cX12_wouldFree 57 = .ok (.iload_n 3, 1) := by decide +kernel
theorem dX12_wouldFree_58 : decode cX12_wouldFree 58 = .ok (.bipush 8, 2) := by decide +kernel
theorem dX12_wouldFree_60 : decode cX12_wouldFree 60 = .ok (.idiv, 1) := by decide +kernel
theorem dX12_wouldFree_61 : decode cX12_wouldFree 61 = .ok (.invokestatic 68, 3) := by decide +kernel
theorem dX12_wouldFree_64 : decode cX12_wouldFree 64 = .ok (.ifCond .eq 37, 3) := by decide +kernel
theorem dX12_wouldFree_67 : decode cX12_wouldFree 67 = .ok (.aload_n 0, 1) := by decide +kernel
theorem dX12_wouldFree_68 : decode cX12_wouldFree 68 = .ok (.getfield 7, 3) := by decide +kernel
theorem dX12_wouldFree_71 : decode cX12_wouldFree 71 = .ok (.bipush 26, 2) := by decide +kernel
theorem dX12_wouldFree_73 : decode cX12_wouldFree 73 = .ok (.iload_n 3, 1) := by decide +kernel
theorem dX12_wouldFree_74 : decode cX12_wouldFree 74 = .ok (.bipush 8, 2) := by decide +kernel
theorem dX12_wouldFree_76 : decode cX12_wouldFree 76 = .ok (.idiv, 1) := by decide +kernel
theorem dX12_wouldFree_77 : decode cX12_wouldFree 77 = .ok (.iadd, 1) := by decide +kernel
theorem dX12_wouldFree_78 : decode cX12_wouldFree 78 = .ok (.iaload, 1) := by decide +kernel
theorem dX12_wouldFree_79 : decode cX12_wouldFree 79 = .ok (.iconst (-1), 1) := by decide +kernel
theorem dX12_wouldFree_80 : decode cX12_wouldFree 80 = .ok (.if_icmp .eq 21, 3) := by decide +kernel
theorem dX12_wouldFree_83 : decode cX12_wouldFree 83 = .ok (.aload_n 0, 1) := by decide +kernel
theorem dX12_wouldFree_84 : decode cX12_wouldFree 84 = .ok (.getfield 7, 3) := by decide +kernel
theorem dX12_wouldFree_87 : decode cX12_wouldFree 87 = .ok (.sipush 272, 3) := by decide +kernel
theorem dX12_wouldFree_90 : decode cX12_wouldFree 90 = .ok (.iload_n 3, 1) := by decide +kernel
theorem dX12_wouldFree_91 : decode cX12_wouldFree 91 = .ok (.iadd, 1) := by decide +kernel
theorem dX12_wouldFree_92 : decode cX12_wouldFree 92 = .ok (.iaload, 1) := by decide +kernel
theorem dX12_wouldFree_93 : decode cX12_wouldFree 93 = .ok (.iconst (-1), 1) := by decide +kernel
theorem dX12_wouldFree_94 : decode cX12_wouldFree 94 = .ok (.if_icmp .eq 7, 3) := by decide +kernel
theorem dX12_wouldFree_97 : decode cX12_wouldFree 97 = .ok (.iconst 1, 1) := by decide +kernel
theorem dX12_wouldFree_98 : decode cX12_wouldFree 98 = .ok (.goto 4, 3) := by decide +kernel
theorem dX12_wouldFree_101 : decode cX12_wouldFree 101 = .ok (.iconst 0, 1) := by decide +kernel
theorem dX12_wouldFree_102 : decode cX12_wouldFree 102 = .ok (.istore 4, 2) := by decide +kernel
theorem dX12_wouldFree_104 : decode cX12_wouldFree 104 = .ok (.iload_n 2, 1) := by decide +kernel
theorem dX12_wouldFree_105 : decode cX12_wouldFree 105 = .ok (.iload 4, 2) := by decide +kernel
theorem dX12_wouldFree_107 : decode cX12_wouldFree 107 = .ok (.ifCond .eq 25, 3) := by decide +kernel
theorem dX12_wouldFree_110 : decode cX12_wouldFree 110 = .ok (.aload_n 0, 1) := by decide +kernel
theorem dX12_wouldFree_111 : decode cX12_wouldFree 111 = .ok (.aload_n 0, 1) := by decide +kernel
theorem dX12_wouldFree_112 : decode cX12_wouldFree 112 = .ok (.getfield 7, 3) := by decide +kernel
theorem dX12_wouldFree_115 : decode cX12_wouldFree 115 = .ok (.sipush 272, 3) := by decide +kernel
theorem dX12_wouldFree_118 : decode cX12_wouldFree 118 = .ok (.iload_n 3, 1) := by decide +kernel
theorem dX12_wouldFree_119 : decode cX12_wouldFree 119 = .ok (.iadd, 1) := by decide +kernel
theorem dX12_wouldFree_120 : decode cX12_wouldFree 120 = .ok (.iaload, 1) := by decide +kernel
theorem dX12_wouldFree_121 : decode cX12_wouldFree 121 = .ok (.invokevirtual 180, 3) := by decide +kernel
theorem dX12_wouldFree_124 : decode cX12_wouldFree 124 = .ok (.iconst 2, 1) := by decide +kernel
theorem dX12_wouldFree_125 : decode cX12_wouldFree 125 = .ok (.if_icmp .ne 7, 3) := by decide +kernel
theorem dX12_wouldFree_128 : decode cX12_wouldFree 128 = .ok (.iconst 1, 1) := by decide +kernel
theorem dX12_wouldFree_129 : decode cX12_wouldFree 129 = .ok (.goto 4, 3) := by decide +kernel
theorem dX12_wouldFree_132 : decode cX12_wouldFree 132 = .ok (.iconst 0, 1) := by decide +kernel
theorem dX12_wouldFree_133 : decode cX12_wouldFree 133 = .ok (.iadd, 1) := by decide +kernel
theorem dX12_wouldFree_134 : decode cX12_wouldFree 134 = .ok (.istore_n 2, 1) := by decide +kernel
theorem dX12_wouldFree_135 : decode cX12_wouldFree 135 = .ok (.iinc 3 1, 3) := by decide +kernel
theorem dX12_wouldFree_138 : decode cX12_wouldFree 138 = .ok (.goto (-96), 3) := by decide +kernel
theorem dX12_wouldFree_141 : decode cX12_wouldFree 141 = .ok (.iload_n 2, 1) := by decide +kernel
theorem dX12_wouldFree_142 : decode cX12_wouldFree 142 = .ok (.ireturn, 1) := by decide +kernel
theorem dX12_lostIn_0 : decode cX12_lostIn 0 = .ok (.iconst 0, 1) := by decide +kernel
theorem dX12_lostIn_1 : decode cX12_lostIn 1 = .ok (.istore_n 2, 1) := by decide +kernel
theorem dX12_lostIn_2 : decode cX12_lostIn 2 = .ok (.iconst 0, 1) := by decide +kernel
theorem dX12_lostIn_3 : decode cX12_lostIn 3 = .ok (.istore_n 3, 1) := by decide +kernel
theorem dX12_lostIn_4 : decode cX12_lostIn 4 = .ok (.iload_n 3, 1) := by decide +kernel
theorem dX12_lostIn_5 : decode cX12_lostIn 5 = .ok (.aload_n 0, 1) := by decide +kernel
theorem dX12_lostIn_6 : decode cX12_lostIn 6 = .ok (.getfield 7, 3) := by decide +kernel
theorem dX12_lostIn_9 : decode cX12_lostIn 9 = .ok (.iconst 3, 1) := by decide +kernel
theorem dX12_lostIn_10 : decode cX12_lostIn 10 = .ok (.iaload, 1) := by decide +kernel
theorem dX12_lostIn_11 : decode cX12_lostIn 11 = .ok (.if_icmp .ge 32, 3) := by decide +kernel
theorem dX12_lostIn_14 : decode cX12_lostIn 14 = .ok (.iload_n 2, 1) := by decide +kernel
theorem dX12_lostIn_15 : decode cX12_lostIn 15 = .ok (.iload_n 1, 1) := by decide +kernel
theorem dX12_lostIn_16 : decode cX12_lostIn 16 = .ok (.iload_n 3, 1) := by decide +kernel
theorem dX12_lostIn_17 : decode cX12_lostIn 17 = .ok (.invokestatic 68, 3) := by decide +kernel
theorem dX12_lostIn_20 : decode cX12_lostIn 20 = .ok (.ifCond .eq 14, 3) := by decide +kernel
theorem dX12_lostIn_23 : decode cX12_lostIn 23 = .ok (.aload_n 0, 1) := by decide +kernel
theorem dX12_lostIn_24 : decode cX12_lostIn 24 = .ok (.iload_n 3, 1) := by decide +kernel
theorem dX12_lostIn_25 : decode cX12_lostIn 25 = .ok (.invokevirtual 274, 3) := by decide +kernel
theorem dX12_lostIn_28 : decode cX12_lostIn 28 = .ok (.invokestatic 335, 3) := by decide +kernel
theorem dX12_lostIn_31 : decode cX12_lostIn 31 = .ok (.goto 4, 3) := by decide +kernel
theorem dX12_lostIn_34 : decode cX12_lostIn 34 = .ok (.iconst 0, 1) := by decide +kernel
theorem dX12_lostIn_35 : decode cX12_lostIn 35 = .ok (.iadd, 1) := by decide +kernel
theorem dX12_lostIn_36 : decode cX12_lostIn 36 = .ok (.istore_n 2, 1) := by decide +kernel
theorem dX12_lostIn_37 : decode cX12_lostIn 37 = .ok (.iinc 3 1, 3) := by decide +kernel
theorem dX12_lostIn_40 : decode cX12_lostIn 40 = .ok (.goto (-36), 3) := by decide +kernel
theorem dX12_lostIn_43 : decode cX12_lostIn 43 = .ok (.iload_n 2, 1) := by decide +kernel
theorem dX12_lostIn_44 : decode cX12_lostIn 44 = .ok (.ireturn, 1) := by decide +kernel
theorem dX12_bestBarrier_0 : decode cX12_bestBarrier 0 = .ok (.aload_n 0, 1) := by decide +kernel
theorem dX12_bestBarrier_1 : decode cX12_bestBarrier 1 = .ok (.iload_n 1, 1) := by decide +kernel
theorem dX12_bestBarrier_2 : decode cX12_bestBarrier 2 = .ok (.i2l, 1) := by decide +kernel
theorem dX12_bestBarrier_3 : decode cX12_bestBarrier 3 = .ok (.lconst 0, 1) := by decide +kernel
theorem dX12_bestBarrier_4 : decode cX12_bestBarrier 4 = .ok (.ldc2_w 107, 3) := by decide +kernel
theorem dX12_bestBarrier_7 : decode cX12_bestBarrier 7 = .ok (.invokestatic 52, 3) := by decide +kernel
theorem dX12_bestBarrier_10 : decode cX12_bestBarrier 10 = .ok (.ifCond .ne 7, 3) := by decide +kernel
theorem dX12_bestBarrier_13 : decode cX12_bestBarrier 13 = .ok (.iconst 1, 1) := by decide +kernel
theorem dX12_bestBarrier_14 : decode cX12_bestBarrier 14 = .ok (.goto 4, 3) := by decide +kernel
theorem dX12_bestBarrier_17 : decode cX12_bestBarrier 17 = .ok (.iconst 0, 1) := by decide +kernel
theorem dX12_bestBarrier_18 : decode cX12_bestBarrier 18 = .ok (.iconst 1, 1) := by decide +kernel
theorem dX12_bestBarrier_19 : decode cX12_bestBarrier 19 = .ok (.invokevirtual 60, 3) := by decide +kernel
theorem dX12_bestBarrier_22 : decode cX12_bestBarrier 22 = .ok (.ifCond .ne 26, 3) := by decide +kernel
theorem dX12_bestBarrier_25 : decode cX12_bestBarrier 25 = .ok (.aload_n 0, 1) := by decide +kernel
theorem dX12_bestBarrier_26 : decode cX12_bestBarrier 26 = .ok (.aload_n 0, 1) := by decide +kernel
theorem dX12_bestBarrier_27 : decode cX12_bestBarrier 27 = .ok (.getfield 7, 3) := by decide +kernel
theorem dX12_bestBarrier_30 : decode cX12_bestBarrier 30 = .ok (.bipush 10, 2) := by decide +kernel
theorem dX12_bestBarrier_32 : decode cX12_bestBarrier 32 = .ok (.iaload, 1) := by decide +kernel
theorem dX12_bestBarrier_33 : decode cX12_bestBarrier 33 = .ok (.ifCond .eq 7, 3) := by decide +kernel
theorem dX12_bestBarrier_36 : decode cX12_bestBarrier 36 = .ok (.iconst 1, 1) := by decide +kernel
theorem dX12_bestBarrier_37 : decode cX12_bestBarrier 37 = .ok (.goto 4, 3) := by decide +kernel
theorem dX12_bestBarrier_40 : decode cX12_bestBarrier 40 = .ok (.iconst 0, 1) := by decide +kernel
theorem dX12_bestBarrier_41 : decode cX12_bestBarrier 41 = .ok (.iconst 2, 1) := by decide +kernel
theorem dX12_bestBarrier_42 : decode cX12_bestBarrier 42 = .ok (.invokevirtual 60, 3) := by decide +kernel
theorem dX12_bestBarrier_45 : decode cX12_bestBarrier 45 = .ok (.ifCond .eq 5, 3) := by decide +kernel
theorem dX12_bestBarrier_48 : decode cX12_bestBarrier 48 = .ok (.iconst 0, 1) := by decide +kernel
theorem dX12_bestBarrier_49 : decode cX12_bestBarrier 49 = .ok (.ireturn, 1) := by decide +kernel
theorem dX12_bestBarrier_50 : decode cX12_bestBarrier 50 = .ok (.iconst 1, 1) := by decide +kernel
theorem dX12_bestBarrier_51 : decode cX12_bestBarrier 51 = .ok (.aload_n 0, 1) := by decide +kernel
theorem dX12_bestBarrier_52 : decode cX12_bestBarrier 52 = .ok (.getfield 7, 3) := by decide +kernel
theorem dX12_bestBarrier_55 : decode cX12_bestBarrier 55 = .ok (.iconst 3, 1) := by decide +kernel
theorem dX12_bestBarrier_56 : decode cX12_bestBarrier 56 = .ok (.iaload, 1) := by decide +kernel
theorem dX12_bestBarrier_57 : decode cX12_bestBarrier 57 = .ok (.ishl, 1) := by decide +kernel
theorem dX12_bestBarrier_58 : decode cX12_bestBarrier 58 = .ok (.iconst 1, 1) := by decide +kernel
theorem dX12_bestBarrier_59 : decode cX12_bestBarrier 59 = .ok (.isub, 1) := by decide +kernel
theorem dX12_bestBarrier_60 : decode cX12_bestBarrier 60 = .ok (.istore_n 2, 1) := by decide +kernel
theorem dX12_bestBarrier_61 : decode cX12_bestBarrier 61 = .ok (.iconst 0, 1) := by decide +kernel
theorem dX12_bestBarrier_62 : decode cX12_bestBarrier 62 = .ok (.istore_n 3, 1) := by decide +kernel
theorem dX12_bestBarrier_63 : decode cX12_bestBarrier 63 = .ok (.iconst 1, 1) := by decide +kernel
theorem dX12_bestBarrier_64 : decode cX12_bestBarrier 64 = .ok (.istore 4, 2) := by decide +kernel
theorem dX12_bestBarrier_66 : decode cX12_bestBarrier 66 = .ok (.iload 4, 2) := by decide +kernel
theorem dX12_bestBarrier_68 : decode cX12_bestBarrier 68 = .ok (.iload_n 2, 1) := by decide +kernel
theorem dX12_bestBarrier_69 : decode cX12_bestBarrier 69 = .ok (.if_icmp .gt 90, 3) := by decide +kernel
theorem dX12_bestBarrier_72 : decode cX12_bestBarrier 72 = .ok (.aload_n 0, 1) := by decide +kernel
theorem dX12_bestBarrier_73 : decode cX12_bestBarrier 73 = .ok (.iload 4, 2) := by decide +kernel
theorem dX12_bestBarrier_75 : decode cX12_bestBarrier 75 = .ok (.invokevirtual 346, 3) := by decide +kernel
theorem dX12_bestBarrier_78 : decode cX12_bestBarrier 78 = .ok (.iload_n 1, 1) := by decide +kernel
theorem dX12_bestBarrier_79 : decode cX12_bestBarrier 79 = .ok (.if_icmp .le 6, 3) := by decide +kernel
theorem dX12_bestBarrier_82 : decode cX12_bestBarrier 82 = .ok (.goto 71, 3) := by decide +kernel
theorem dX12_bestBarrier_85 : decode cX12_bestBarrier 85 = .ok (.iload_n 3, 1) := by decide +kernel
theorem dX12_bestBarrier_86 : decode cX12_bestBarrier 86 = .ok (.ifCond .eq 64, 3) := by decide +kernel
theorem dX12_bestBarrier_89 : decode cX12_bestBarrier 89 = .ok (.aload_n 0, 1) := by decide +kernel
theorem dX12_bestBarrier_90 : decode cX12_bestBarrier 90 = .ok (.iload_n 2, 1) := by decide +kernel
theorem dX12_bestBarrier_91 : decode cX12_bestBarrier 91 = .ok (.iload 4, 2) := by decide +kernel
theorem dX12_bestBarrier_93 : decode cX12_bestBarrier 93 = .ok (.iconst (-1), 1) := by decide +kernel
theorem dX12_bestBarrier_94 : decode cX12_bestBarrier 94 = .ok (.ixor, 1) := by decide +kernel
theorem dX12_bestBarrier_95 : decode cX12_bestBarrier 95 = .ok (.iand, 1) := by decide +kernel
theorem dX12_bestBarrier_96 : decode cX12_bestBarrier 96 = .ok (.invokevirtual 349, 3) := by decide +kernel
theorem dX12_bestBarrier_99 : decode cX12_bestBarrier 99 = .ok (.aload_n 0, 1) := by decide +kernel
theorem dX12_bestBarrier_100 : decode cX12_bestBarrier 100 = .ok (.iload_n 2, 1) := by decide +kernel
theorem dX12_bestBarrier_101 : decode cX12_bestBarrier 101 = .ok (.iload_n 3, 1) := by decide +kernel
theorem dX12_bestBarrier_102 : decode cX12_bestBarrier 102 = .ok (.iconst (-1), 1) := by decide +kernel
theorem dX12_bestBarrier_103 : decode cX12_bestBarrier 103 = .ok (.ixor, 1) := by decide +kernel
theorem dX12_bestBarrier_104 : decode cX12_bestBarrier 104 = .ok (.iand, 1) := by decide +kernel
theorem dX12_bestBarrier_105 : decode cX12_bestBarrier 105 = .ok (.invokevirtual 349, 3) := by decide +kernel
theorem dX12_bestBarrier_108 : decode cX12_bestBarrier 108 = .ok (.if_icmp .gt 45, 3) := by decide +kernel
theorem dX12_bestBarrier_111 : decode cX12_bestBarrier 111 = .ok (.aload_n 0, 1) := by decide +kernel
theorem dX12_bestBarrier_112 : decode cX12_bestBarrier 112 = .ok (.iload_n 2, 1) := by decide +kernel
theorem dX12_bestBarrier_113 : decode cX12_bestBarrier 113 = .ok (.iload 4, 2) := by decide +kernel
theorem dX12_bestBarrier_115 : decode cX12_bestBarrier 115 = .ok (.iconst (-1), 1) := by decide +kernel
theorem dX12_bestBarrier_116 : decode cX12_bestBarrier 116 = .ok (.ixor, 1) := by decide +kernel
theorem dX12_bestBarrier_117 : decode cX12_bestBarrier 117 = .ok (.iand, 1) := by decide +kernel
theorem dX12_bestBarrier_118 : decode cX12_bestBarrier 118 = .ok (.invokevirtual 349, 3) := by decide +kernel
theorem dX12_bestBarrier_121 : decode cX12_bestBarrier 121 = .ok (.aload_n 0, 1) := by decide +kernel
theorem dX12_bestBarrier_122 : decode cX12_bestBarrier 122 = .ok (.iload_n 2, 1) := by decide +kernel
theorem dX12_bestBarrier_123 : decode cX12_bestBarrier 123 = .ok (.iload_n 3, 1) := by decide +kernel
theorem dX12_bestBarrier_124 : decode cX12_bestBarrier 124 = .ok (.iconst (-1), 1) := by decide +kernel
theorem dX12_bestBarrier_125 : decode cX12_bestBarrier 125 = .ok (.ixor, 1) := by decide +kernel
theorem dX12_bestBarrier_126 : decode cX12_bestBarrier 126 = .ok (.iand, 1) := by decide +kernel
theorem dX12_bestBarrier_127 : decode cX12_bestBarrier 127 = .ok (.invokevirtual 349, 3) := by decide +kernel
theorem dX12_bestBarrier_130 : decode cX12_bestBarrier 130 = .ok (.if_icmp .ne 20, 3) := by decide +kernel
theorem dX12_bestBarrier_133 : decode cX12_bestBarrier 133 = .ok (.aload_n 0, 1) := by decide +kernel
theorem dX12_bestBarrier_134 : decode cX12_bestBarrier 134 = .ok (.iload 4, 2) := by decide +kernel
theorem dX12_bestBarrier_136 : decode cX12_bestBarrier 136 = .ok (.invokevirtual 346, 3) := by decide +kernel
theorem dX12_bestBarrier_139 : decode cX12_bestBarrier 139 = .ok (.aload_n 0, 1) := by decide +kernel
theorem dX12_bestBarrier_140 : decode cX12_bestBarrier 140 = .ok (.iload_n 3, 1) := by decide +kernel
theorem dX12_bestBarrier_141 : decode cX12_bestBarrier 141 = .ok (.invokevirtual 346, 3) := by decide +kernel
theorem dX12_bestBarrier_144 : decode cX12_bestBarrier 144 = .ok (.if_icmp .lt 6, 3) := by decide +kernel
theorem dX12_bestBarrier_147 : decode cX12_bestBarrier 147 = .ok (.goto 6, 3) := by decide +kernel
theorem dX12_bestBarrier_150 : decode cX12_bestBarrier 150 = .ok (.iload 4, 2) := by decide +kernel
theorem dX12_bestBarrier_152 : decode cX12_bestBarrier 152 = .ok (.istore_n 3, 1) := by decide +kernel
theorem dX12_bestBarrier_153 : decode cX12_bestBarrier 153 = .ok (.iinc 4 1, 3) := by decide +kernel
theorem dX12_bestBarrier_156 : decode cX12_bestBarrier 156 = .ok (.goto (-90), 3) := by decide +kernel
theorem dX12_bestBarrier_159 : decode cX12_bestBarrier 159 = .ok (.iload_n 3, 1) := by decide +kernel
theorem dX12_bestBarrier_160 : decode cX12_bestBarrier 160 = .ok (.ireturn, 1) := by decide +kernel
theorem dX12_lostPages_0 : decode cX12_lostPages 0 = .ok (.aload_n 0, 1) := by decide +kernel
theorem dX12_lostPages_1 : decode cX12_lostPages 1 = .ok (.iload_n 1, 1) := by decide +kernel
theorem dX12_lostPages_2 : decode cX12_lostPages 2 = .ok (.invokevirtual 271, 3) := by decide +kernel
theorem dX12_lostPages_5 : decode cX12_lostPages 5 = .ok (.ifCond .eq 7, 3) := by decide +kernel
theorem dX12_lostPages_8 : decode cX12_lostPages 8 = .ok (.iconst 0, 1) := by decide +kernel
theorem dX12_lostPages_9 : decode cX12_lostPages 9 = .ok (.goto 8, 3) := by decide +kernel
theorem dX12_lostPages_12 : decode cX12_lostPages 12 = .ok (.aload_n 0, 1) := by decide +kernel
theorem dX12_lostPages_13 : decode cX12_lostPages 13 = .ok (.iload_n 1, 1) := by decide +kernel
theorem dX12_lostPages_14 : decode cX12_lostPages 14 = .ok (.invokevirtual 274, 3) := by decide +kernel
theorem dX12_lostPages_17 : decode cX12_lostPages 17 = .ok (.ireturn, 1) := by decide +kernel
theorem dX12_barrierLog_0 : decode cX12_barrierLog 0 = .ok (.aload_n 0, 1) := by decide +kernel
theorem dX12_barrierLog_1 : decode cX12_barrierLog 1 = .ok (.iload_n 1, 1) := by decide +kernel
theorem dX12_barrierLog_2 : decode cX12_barrierLog 2 = .ok (.i2l, 1) := by decide +kernel
theorem dX12_barrierLog_3 : decode cX12_barrierLog 3 = .ok (.lconst 0, 1) := by decide +kernel
theorem dX12_barrierLog_4 : decode cX12_barrierLog 4 = .ok (.aload_n 0, 1) := by decide +kernel
theorem dX12_barrierLog_5 : decode cX12_barrierLog 5 = .ok (.getfield 7, 3) := by decide +kernel
theorem dX12_barrierLog_8 : decode cX12_barrierLog 8 = .ok (.bipush 13, 2) := by decide +kernel
theorem dX12_barrierLog_10 : decode cX12_barrierLog 10 = .ok (.iaload, 1) := by decide +kernel
theorem dX12_barrierLog_11 : decode cX12_barrierLog 11 = .ok (.iconst 1, 1) := by decide +kernel
theorem dX12_barrierLog_12 : decode cX12_barrierLog 12 = .ok (.isub, 1) := by decide +kernel
theorem dX12_barrierLog_13 : decode cX12_barrierLog 13 = .ok (.i2l, 1) := by decide +kernel
theorem dX12_barrierLog_14 : decode cX12_barrierLog 14 = .ok (.invokestatic 52, 3) := by decide +kernel
theorem dX12_barrierLog_17 : decode cX12_barrierLog 17 = .ok (.ifCond .ne 7, 3) := by decide +kernel
theorem dX12_barrierLog_20 : decode cX12_barrierLog 20 = .ok (.iconst 1, 1) := by decide +kernel
theorem dX12_barrierLog_21 : decode cX12_barrierLog 21 = .ok (.goto 4, 3) := by decide +kernel
theorem dX12_barrierLog_24 : decode cX12_barrierLog 24 = .ok (.iconst 0, 1) := by decide +kernel
theorem dX12_barrierLog_25 : decode cX12_barrierLog 25 = .ok (.iconst 1, 1) := by decide +kernel
theorem dX12_barrierLog_26 : decode cX12_barrierLog 26 = .ok (.invokevirtual 60, 3) := by decide +kernel
theorem dX12_barrierLog_29 : decode cX12_barrierLog 29 = .ok (.ifCond .ne 28, 3) := by decide +kernel
theorem dX12_barrierLog_32 : decode cX12_barrierLog 32 = .ok (.aload_n 0, 1) := by decide +kernel
theorem dX12_barrierLog_33 : decode cX12_barrierLog 33 = .ok (.iload_n 2, 1) := by decide +kernel
theorem dX12_barrierLog_34 : decode cX12_barrierLog 34 = .ok (.i2l, 1) := by decide +kernel
theorem dX12_barrierLog_35 : decode cX12_barrierLog 35 = .ok (.lconst 0, 1) := by decide +kernel
theorem dX12_barrierLog_36 : decode cX12_barrierLog 36 = .ok (.ldc2_w 352, 3) := by decide +kernel
theorem dX12_barrierLog_39 : decode cX12_barrierLog 39 = .ok (.invokestatic 52, 3) := by decide +kernel
theorem dX12_barrierLog_42 : decode cX12_barrierLog 42 = .ok (.ifCond .ne 7, 3) := by decide +kernel
theorem dX12_barrierLog_45 : decode cX12_barrierLog 45 = .ok (.iconst 1, 1) := by decide +kernel
theorem dX12_barrierLog_46 : decode cX12_barrierLog 46 = .ok (.goto 4, 3) := by decide +kernel
theorem dX12_barrierLog_49 : decode cX12_barrierLog 49 = .ok (.iconst 0, 1) := by decide +kernel
theorem dX12_barrierLog_50 : decode cX12_barrierLog 50 = .ok (.iconst 2, 1) := by decide +kernel
theorem dX12_barrierLog_51 : decode cX12_barrierLog 51 = .ok (.invokevirtual 60, 3) := by decide +kernel
theorem dX12_barrierLog_54 : decode cX12_barrierLog 54 = .ok (.ifCond .eq 7, 3) := by decide +kernel
theorem dX12_barrierLog_57 : decode cX12_barrierLog 57 = .ok (.iconst 0, 1) := by decide +kernel
theorem dX12_barrierLog_58 : decode cX12_barrierLog 58 = .ok (.goto 17, 3) := by decide +kernel
theorem dX12_barrierLog_61 : decode cX12_barrierLog 61 = .ok (.aload_n 0, 1) := by decide +kernel
theorem dX12_barrierLog_62 : decode cX12_barrierLog 62 = .ok (.getfield 7, 3) := by decide +kernel
theorem dX12_barrierLog_65 : decode cX12_barrierLog 65 = .ok (.sipush 576, 3) := by decide +kernel
theorem dX12_barrierLog_68 : decode cX12_barrierLog 68 = .ok (.iconst 4, 1) := by decide +kernel
theorem dX12_barrierLog_69 : decode cX12_barrierLog 69 = .ok (.iload_n 1, 1) := by decide +kernel
theorem dX12_barrierLog_70 : decode cX12_barrierLog 70 = .ok (.imul, 1) := by decide +kernel
theorem dX12_barrierLog_71 : decode cX12_barrierLog 71 = .ok (.iadd, 1) := by decide +kernel
theorem dX12_barrierLog_72 : decode cX12_barrierLog 72 = .ok (.iload_n 2, 1) := by decide +kernel
theorem dX12_barrierLog_73 : decode cX12_barrierLog 73 = .ok (.iadd, 1) := by decide +kernel
theorem dX12_barrierLog_74 : decode cX12_barrierLog 74 = .ok (.iaload, 1) := by decide +kernel
theorem dX12_barrierLog_75 : decode cX12_barrierLog 75 = .ok (.ireturn, 1) := by decide +kernel
theorem dX12_recentAccess_0 : decode cX12_recentAccess 0 = .ok (.aload_n 0, 1) := by decide +kernel
theorem dX12_recentAccess_1 : decode cX12_recentAccess 1 = .ok (.iload_n 1, 1) := by decide +kernel
theorem dX12_recentAccess_2 : decode cX12_recentAccess 2 = .ok (.i2l, 1) := by decide +kernel
theorem dX12_recentAccess_3 : decode cX12_recentAccess 3 = .ok (.lconst 0, 1) := by decide +kernel
theorem dX12_recentAccess_4 : decode cX12_recentAccess 4 = .ok (.aload_n 0, 1) := by decide +kernel
theorem dX12_recentAccess_5 : decode cX12_recentAccess 5 = .ok (.getfield 7, 3) := by decide +kernel
theorem dX12_recentAccess_8 : decode cX12_recentAccess 8 = .ok (.bipush 12, 2) := by decide +kernel
theorem dX12_recentAccess_10 : decode cX12_recentAccess 10 = .ok (.iaload, 1) := by decide +kernel
theorem dX12_recentAccess_11 : decode cX12_recentAccess 11 = .ok (.iconst 1, 1) := by decide +kernel
theorem dX12_recentAccess_12 : decode cX12_recentAccess 12 = .ok (.isub, 1) := by decide +kernel
theorem dX12_recentAccess_13 : decode cX12_recentAccess 13 = .ok (.i2l, 1) := by decide +kernel
theorem dX12_recentAccess_14 : decode cX12_recentAccess 14 = .ok (.invokestatic 52, 3) := by decide +kernel
theorem dX12_recentAccess_17 : decode cX12_recentAccess 17 = .ok (.ifCond .ne 7, 3) := by decide +kernel
theorem dX12_recentAccess_20 : decode cX12_recentAccess 20 = .ok (.iconst 1, 1) := by decide +kernel
theorem dX12_recentAccess_21 : decode cX12_recentAccess 21 = .ok (.goto 4, 3) := by decide +kernel
theorem dX12_recentAccess_24 : decode cX12_recentAccess 24 = .ok (.iconst 0, 1) := by decide +kernel
theorem dX12_recentAccess_25 : decode cX12_recentAccess 25 = .ok (.iconst 1, 1) := by decide +kernel
theorem dX12_recentAccess_26 : decode cX12_recentAccess 26 = .ok (.invokevirtual 60, 3) := by decide +kernel
theorem dX12_recentAccess_29 : decode cX12_recentAccess 29 = .ok (.ifCond .eq 7, 3) := by decide +kernel
theorem dX12_recentAccess_32 : decode cX12_recentAccess 32 = .ok (.iconst 0, 1) := by decide +kernel
theorem dX12_recentAccess_33 : decode cX12_recentAccess 33 = .ok (.goto 13, 3) := by decide +kernel
theorem dX12_recentAccess_36 : decode cX12_recentAccess 36 = .ok (.aload_n 0, 1) := by decide +kernel
theorem dX12_recentAccess_37 : decode cX12_recentAccess 37 = .ok (.getfield 7, 3) := by decide +kernel
theorem dX12_recentAccess_40 : decode cX12_recentAccess 40 = .ok (.sipush 512, 3) := by decide +kernel
theorem dX12_recentAccess_43 : decode cX12_recentAccess 43 = .ok (.iload_n 1, 1) := by decide +kernel
theorem dX12_recentAccess_44 : decode cX12_recentAccess 44 = .ok (.iadd, 1) := by decide +kernel
theorem dX12_recentAccess_45 : decode cX12_recentAccess 45 = .ok (.iaload, 1) := by decide +kernel
theorem dX12_recentAccess_46 : decode cX12_recentAccess 46 = .ok (.ireturn, 1) := by decide +kernel
theorem dX12_nextOf_0 : decode cX12_nextOf 0 = .ok (.iload_n 2, 1) := by decide +kernel
theorem dX12_nextOf_1 : decode cX12_nextOf 1 = .ok (.iconst 1, 1) := by decide +kernel
theorem dX12_nextOf_2 : decode cX12_nextOf 2 = .ok (.isub, 1) := by decide +kernel
theorem dX12_nextOf_3 : decode cX12_nextOf 3 = .ok (.istore_n 3, 1) := by decide +kernel
theorem dX12_nextOf_4 : decode cX12_nextOf 4 = .ok (.iload_n 3, 1) := by decide +kernel
theorem dX12_nextOf_5 : decode cX12_nextOf 5 = .ok (.ifCond .lt 27, 3) := by decide +kernel
theorem dX12_nextOf_8 : decode cX12_nextOf 8 = .ok (.aload_n 0, 1) := by decide +kernel
theorem dX12_nextOf_9 : decode cX12_nextOf 9 = .ok (.getfield 7, 3) := by decide +kernel
theorem dX12_nextOf_12 : decode cX12_nextOf 12 = .ok (.sipush 512, 3) := by decide +kernel
theorem dX12_nextOf_15 : decode cX12_nextOf 15 = .ok (.iload_n 3, 1) := by decide +kernel
theorem dX12_nextOf_16 : decode cX12_nextOf 16 = .ok (.iadd, 1) := by decide +kernel
theorem dX12_nextOf_17 : decode cX12_nextOf 17 = .ok (.iaload, 1) := by decide +kernel
theorem dX12_nextOf_18 : decode cX12_nextOf 18 = .ok (.iload_n 1, 1) := by decide +kernel
theorem dX12_nextOf_19 : decode cX12_nextOf 19 = .ok (.if_icmp .ne 7, 3) := by decide +kernel
theorem dX12_nextOf_22 : decode cX12_nextOf 22 = .ok (.iload_n 2, 1) := by decide +kernel
theorem dX12_nextOf_23 : decode cX12_nextOf 23 = .ok (.iload_n 3, 1) := by decide +kernel
theorem dX12_nextOf_24 : decode cX12_nextOf 24 = .ok (.isub, 1) := by decide +kernel
theorem dX12_nextOf_25 : decode cX12_nextOf 25 = .ok (.ireturn, 1) := by decide +kernel
theorem dX12_nextOf_26 : decode cX12_nextOf 26 = .ok (.iinc 3 (-1), 3) := by decide +kernel
theorem dX12_nextOf_29 : decode cX12_nextOf 29 = .ok (.goto (-25), 3) := by decide +kernel
theorem dX12_nextOf_32 : decode cX12_nextOf 32 = .ok (.sipush 1000, 3) := by decide +kernel
theorem dX12_nextOf_35 : decode cX12_nextOf 35 = .ok (.ireturn, 1) := by decide +kernel
theorem dX12_isBetterOut_0 : decode cX12_isBetterOut 0 = .ok (.iload_n 3, 1) := by decide +kernel
theorem dX12_isBetterOut_1 : decode cX12_isBetterOut 1 = .ok (.ifCond .ne 24, 3) := by decide +kernel
theorem dX12_isBetterOut_4 : decode cX12_isBetterOut 4 = .ok (.aload_n 0, 1) := by decide +kernel
theorem dX12_isBetterOut_5 : decode cX12_isBetterOut 5 = .ok (.getfield 36, 3) := by decide +kernel
theorem dX12_isBetterOut_8 : decode cX12_isBetterOut 8 = .ok (.iload_n 1, 1) := by decide +kernel
theorem dX12_isBetterOut_9 : decode cX12_isBetterOut 9 = .ok (.iaload, 1) := by decide +kernel
theorem dX12_isBetterOut_10 : decode cX12_isBetterOut 10 = .ok (.aload_n 0, 1) := by decide +kernel
theorem dX12_isBetterOut_11 : decode cX12_isBetterOut 11 = .ok (.getfield 36, 3) := by decide +kernel
theorem dX12_isBetterOut_14 : decode cX12_isBetterOut 14 = .ok (.iload_n 2, 1) := by decide +kernel
theorem dX12_isBetterOut_15 : decode cX12_isBetterOut 15 = .ok (.iaload, 1) := by decide +kernel
theorem dX12_isBetterOut_16 : decode cX12_isBetterOut 16 = .ok (.if_icmp .ge 7, 3) := by decide +kernel
theorem dX12_isBetterOut_19 : decode cX12_isBetterOut 19 = .ok (.iconst 1, 1) := by decide +kernel
theorem dX12_isBetterOut_20 : decode cX12_isBetterOut 20 = .ok (.goto 4, 3) := by decide +kernel
theorem dX12_isBetterOut_23 : decode cX12_isBetterOut 23 = .ok (.iconst 0, 1) := by decide +kernel
theorem dX12_isBetterOut_24 : decode cX12_isBetterOut 24 = .ok (.ireturn, 1) := by decide +kernel
theorem dX12_isBetterOut_25 : decode cX12_isBetterOut 25 = .ok (.iload_n 3, 1) := by decide +kernel
theorem dX12_isBetterOut_26 : decode cX12_isBetterOut 26 = .ok (.iconst 1, 1) := by decide +kernel
theorem dX12_isBetterOut_27 : decode cX12_isBetterOut 27 = .ok (.if_icmp .ne 24, 3) := by decide +kernel
theorem dX12_isBetterOut_30 : decode cX12_isBetterOut 30 = .ok (.aload_n 0, 1) := by decide +kernel
theorem dX12_isBetterOut_31 : decode cX12_isBetterOut 31 = .ok (.getfield 39, 3) := by decide +kernel
theorem dX12_isBetterOut_34 : decode cX12_isBetterOut 34 = .ok (.iload_n 1, 1) := by decide +kernel
theorem dX12_isBetterOut_35 : decode cX12_isBetterOut 35 = .ok (.iaload, 1) := by decide +kernel
theorem dX12_isBetterOut_36 : decode cX12_isBetterOut 36 = .ok (.aload_n 0, 1) := by decide +kernel
theorem dX12_isBetterOut_37 : decode cX12_isBetterOut 37 = .ok (.getfield 39, 3) := by decide +kernel
theorem dX12_isBetterOut_40 : decode cX12_isBetterOut 40 = .ok (.iload_n 2, 1) := by decide +kernel
theorem dX12_isBetterOut_41 : decode cX12_isBetterOut 41 = .ok (.iaload, 1) := by decide +kernel
theorem dX12_isBetterOut_42 : decode cX12_isBetterOut 42 = .ok (.if_icmp .ge 7, 3) := by decide +kernel
theorem dX12_isBetterOut_45 : decode cX12_isBetterOut 45 = .ok (.iconst 1, 1) := by decide +kernel
theorem dX12_isBetterOut_46 : decode cX12_isBetterOut 46 = .ok (.goto 4, 3) := by decide +kernel
theorem dX12_isBetterOut_49 : decode cX12_isBetterOut 49 = .ok (.iconst 0, 1) := by decide +kernel
theorem dX12_isBetterOut_50 : decode cX12_isBetterOut 50 = .ok (.ireturn, 1) := by decide +kernel
theorem dX12_isBetterOut_51 : decode cX12_isBetterOut 51 = .ok (.aload_n 0, 1) := by decide +kernel
theorem dX12_isBetterOut_52 : decode cX12_isBetterOut 52 = .ok (.aload_n 0, 1) := by decide +kernel
theorem dX12_isBetterOut_53 : decode cX12_isBetterOut 53 = .ok (.getfield 33, 3) := by decide +kernel
theorem dX12_isBetterOut_56 : decode cX12_isBetterOut 56 = .ok (.iload_n 1, 1) := by decide +kernel
theorem dX12_isBetterOut_57 : decode cX12_isBetterOut 57 = .ok (.iaload, 1) := by decide +kernel
theorem dX12_isBetterOut_58 : decode cX12_isBetterOut 58 = .ok (.iload 4, 2) := by decide +kernel
theorem dX12_isBetterOut_60 : decode cX12_isBetterOut 60 = .ok (.invokevirtual 354, 3) := by decide +kernel
theorem dX12_isBetterOut_63 : decode cX12_isBetterOut 63 = .ok (.istore 5, 2) := by decide +kernel
theorem dX12_isBetterOut_65 : decode cX12_isBetterOut 65 = .ok (.aload_n 0, 1) := by decide +kernel
theorem dX12_isBetterOut_66 : decode cX12_isBetterOut 66 = .ok (.aload_n 0, 1) := by decide +kernel
theorem dX12_isBetterOut_67 : decode cX12_isBetterOut 67 = .ok (.getfield 33, 3) := by decide +kernel
theorem dX12_isBetterOut_70 : decode cX12_isBetterOut 70 = .ok (.iload_n 2, 1) := by decide +kernel
theorem dX12_isBetterOut_71 : decode cX12_isBetterOut 71 = .ok (.iaload, 1) := by decide +kernel
theorem dX12_isBetterOut_72 : decode cX12_isBetterOut 72 = .ok (.iload 4, 2) := by decide +kernel
theorem dX12_isBetterOut_74 : decode cX12_isBetterOut 74 = .ok (.invokevirtual 354, 3) := by decide +kernel
theorem dX12_isBetterOut_77 : decode cX12_isBetterOut 77 = .ok (.istore 6, 2) := by decide +kernel
theorem dX12_isBetterOut_79 : decode cX12_isBetterOut 79 = .ok (.iload 5, 2) := by decide +kernel
theorem dX12_isBetterOut_81 : decode cX12_isBetterOut 81 = .ok (.iload 6, 2) := by decide +kernel
theorem dX12_isBetterOut_83 : decode cX12_isBetterOut 83 = .ok (.if_icmp .gt 25, 3) := by decide +kernel
theorem dX12_isBetterOut_86 : decode cX12_isBetterOut 86 = .ok (.iload 5, 2) := by decide +kernel
theorem dX12_isBetterOut_88 : decode cX12_isBetterOut 88 = .ok (.iload 6, 2) := by decide +kernel
theorem dX12_isBetterOut_90 : decode cX12_isBetterOut 90 = .ok (.if_icmp .ne 22, 3) := by decide +kernel
theorem dX12_isBetterOut_93 : decode cX12_isBetterOut 93 = .ok (.aload_n 0, 1) := by decide +kernel
theorem dX12_isBetterOut_94 : decode cX12_isBetterOut 94 = .ok (.getfield 33, 3) := by decide +kernel
theorem dX12_isBetterOut_97 : decode cX12_isBetterOut 97 = .ok (.iload_n 1, 1) := by decide +kernel
theorem dX12_isBetterOut_98 : decode cX12_isBetterOut 98 = .ok (.iaload, 1) := by decide +kernel
theorem dX12_isBetterOut_99 : decode cX12_isBetterOut 99 = .ok (.aload_n 0, 1) := by decide +kernel
theorem dX12_isBetterOut_100 : decode cX12_isBetterOut 100 = .ok (.getfield 33, 3) := by decide +kernel
theorem dX12_isBetterOut_103 : decode cX12_isBetterOut 103 = .ok (.iload_n 2, 1) := by decide +kernel
theorem dX12_isBetterOut_104 : decode cX12_isBetterOut 104 = .ok (.iaload, 1) := by decide +kernel
theorem dX12_isBetterOut_105 : decode cX12_isBetterOut 105 = .ok (.if_icmp .ge 7, 3) := by decide +kernel
theorem dX12_isBetterOut_108 : decode cX12_isBetterOut 108 = .ok (.iconst 1, 1) := by decide +kernel
theorem dX12_isBetterOut_109 : decode cX12_isBetterOut 109 = .ok (.goto 4, 3) := by decide +kernel
theorem dX12_isBetterOut_112 : decode cX12_isBetterOut 112 = .ok (.iconst 0, 1) := by decide +kernel
theorem dX12_isBetterOut_113 : decode cX12_isBetterOut 113 = .ok (.ireturn, 1) := by decide +kernel
theorem dX12_faultsBy_0 : decode cX12_faultsBy 0 = .ok (.iconst 0, 1) := by decide +kernel
theorem dX12_faultsBy_1 : decode cX12_faultsBy 1 = .ok (.istore_n 3, 1) := by decide +kernel
theorem dX12_faultsBy_2 : decode cX12_faultsBy 2 = .ok (.iconst 0, 1) := by decide +kernel
theorem dX12_faultsBy_3 : decode cX12_faultsBy 3 = .ok (.istore 4, 2) := by decide +kernel
theorem dX12_faultsBy_5 : decode cX12_faultsBy 5 = .ok (.aload_n 0, 1) := by decide +kernel
theorem dX12_faultsBy_6 : decode cX12_faultsBy 6 = .ok (.getfield 7, 3) := by decide +kernel
theorem dX12_faultsBy_9 : decode cX12_faultsBy 9 = .ok (.bipush 12, 2) := by decide +kernel
theorem dX12_faultsBy_11 : decode cX12_faultsBy 11 = .ok (.iaload, 1) := by decide +kernel
theorem dX12_faultsBy_12 : decode cX12_faultsBy 12 = .ok (.iconst 1, 1) := by decide +kernel
theorem dX12_faultsBy_13 : decode cX12_faultsBy 13 = .ok (.isub, 1) := by decide +kernel
theorem dX12_faultsBy_14 : decode cX12_faultsBy 14 = .ok (.istore 5, 2) := by decide +kernel
theorem dX12_faultsBy_16 : decode cX12_faultsBy 16 = .ok (.iload 5, 2) := by decide +kernel
theorem dX12_faultsBy_18 : decode cX12_faultsBy 18 = .ok (.ifCond .lt 148, 3) := by decide +kernel
theorem dX12_faultsBy_21 : decode cX12_faultsBy 21 = .ok (.iconst 0, 1) := by decide +kernel
theorem dX12_faultsBy_22 : decode cX12_faultsBy 22 = .ok (.istore 6, 2) := by decide +kernel
theorem dX12_faultsBy_24 : decode cX12_faultsBy 24 = .ok (.iload 6, 2) := by decide +kernel
theorem dX12_faultsBy_26 : decode cX12_faultsBy 26 = .ok (.iload_n 3, 1) := by decide +kernel
theorem dX12_faultsBy_27 : decode cX12_faultsBy 27 = .ok (.if_icmp .ge 30, 3) := by decide +kernel
theorem dX12_faultsBy_30 : decode cX12_faultsBy 30 = .ok (.aload_n 0, 1) := by decide +kernel
theorem dX12_faultsBy_31 : decode cX12_faultsBy 31 = .ok (.getfield 33, 3) := by decide +kernel
theorem dX12_faultsBy_34 : decode cX12_faultsBy 34 = .ok (.iload 6, 2) := by decide +kernel
theorem dX12_faultsBy_36 : decode cX12_faultsBy 36 = .ok (.iaload, 1) := by decide +kernel
theorem dX12_faultsBy_37 : decode cX12_faultsBy 37 = .ok (.aload_n 0, 1) := by decide +kernel
theorem dX12_faultsBy_38 : decode cX12_faultsBy 38 = .ok (.getfield 7, 3) := by decide +kernel
theorem dX12_faultsBy_41 : decode cX12_faultsBy 41 = .ok (.sipush 512, 3) := by decide +kernel
theorem dX12_faultsBy_44 : decode cX12_faultsBy 44 = .ok (.iload 5, 2) := by decide +kernel
theorem dX12_faultsBy_46 : decode cX12_faultsBy 46 = .ok (.iadd, 1) := by decide +kernel
theorem dX12_faultsBy_47 : decode cX12_faultsBy 47 = .ok (.iaload, 1) := by decide +kernel
theorem dX12_faultsBy_48 : decode cX12_faultsBy 48 = .ok (.if_icmp .eq 9, 3) := by decide +kernel
theorem dX12_faultsBy_51 : decode cX12_faultsBy 51 = .ok (.iinc 6 1, 3) := by decide +kernel
theorem dX12_faultsBy_54 : decode cX12_faultsBy 54 = .ok (.goto (-30), 3) := by decide +kernel
theorem dX12_faultsBy_57 : decode cX12_faultsBy 57 = .ok (.iload 6, 2) := by decide +kernel
theorem dX12_faultsBy_59 : decode cX12_faultsBy 59 = .ok (.iload_n 3, 1) := by decide +kernel
theorem dX12_faultsBy_60 : decode cX12_faultsBy 60 = .ok (.if_icmp .ne 88, 3) := by decide +kernel
theorem dX12_faultsBy_63 : decode cX12_faultsBy 63 = .ok (.iinc 4 1, 3) := by decide +kernel
theorem dX12_faultsBy_66 : decode cX12_faultsBy 66 = .ok (.iload_n 3, 1) := by decide +kernel
theorem dX12_faultsBy_67 : decode cX12_faultsBy 67 = .ok (.iload_n 1, 1) := by decide +kernel
theorem dX12_faultsBy_68 : decode cX12_faultsBy 68 = .ok (.if_icmp .ge 9, 3) := by decide +kernel
theorem dX12_faultsBy_71 : decode cX12_faultsBy 71 = .ok (.iinc 3 1, 3) := by decide +kernel
theorem dX12_faultsBy_74 : decode cX12_faultsBy 74 = .ok (.goto 44, 3) := by decide +kernel
theorem dX12_faultsBy_77 : decode cX12_faultsBy 77 = .ok (.iconst 0, 1) := by decide +kernel
theorem dX12_faultsBy_78 : decode cX12_faultsBy 78 = .ok (.istore 6, 2) := by decide +kernel
theorem dX12_faultsBy_80 : decode cX12_faultsBy 80 = .ok (.iconst 1, 1) := by decide +kernel
theorem dX12_faultsBy_81 : decode cX12_faultsBy 81 = .ok (.istore 7, 2) := by decide +kernel
theorem dX12_faultsBy_83 : decode cX12_faultsBy 83 = .ok (.iload 7, 2) := by decide +kernel
theorem dX12_faultsBy_85 : decode cX12_faultsBy 85 = .ok (.iload_n 3, 1) := by decide +kernel
theorem dX12_faultsBy_86 : decode cX12_faultsBy 86 = .ok (.if_icmp .ge 32, 3) := by decide +kernel
theorem dX12_faultsBy_89 : decode cX12_faultsBy 89 = .ok (.aload_n 0, 1) := by decide +kernel
theorem dX12_faultsBy_90 : decode cX12_faultsBy 90 = .ok (.iload 7, 2) := by decide +kernel
theorem dX12_faultsBy_92 : decode cX12_faultsBy 92 = .ok (.iload 6, 2) := by decide +kernel
theorem dX12_faultsBy_94 : decode cX12_faultsBy 94 = .ok (.iload_n 2, 1) := by decide +kernel
theorem dX12_faultsBy_95 : decode cX12_faultsBy 95 = .ok (.iload 5, 2) := by decide +kernel
theorem dX12_faultsBy_97 : decode cX12_faultsBy 97 = .ok (.invokevirtual 357, 3) := by decide +kernel
theorem dX12_faultsBy_100 : decode cX12_faultsBy 100 = .ok (.ifCond .eq 8, 3) := by decide +kernel
theorem dX12_faultsBy_103 : decode cX12_faultsBy 103 = .ok (.iload 7, 2) := by decide +kernel
theorem dX12_faultsBy_105 : decode cX12_faultsBy 105 = .ok (.goto 5, 3) := by decide +kernel
theorem dX12_faultsBy_108 : decode cX12_faultsBy 108 = .ok (.iload 6, 2) := by decide +kernel
theorem dX12_faultsBy_110 : decode cX12_faultsBy 110 = .ok (.istore 6, 2) := by decide +kernel
theorem dX12_faultsBy_112 : decode cX12_faultsBy 112 = .ok (.iinc 7 1, 3) := by decide +kernel
theorem dX12_faultsBy_115 : decode cX12_faultsBy 115 = .ok (.goto (-32), 3) := by decide +kernel
theorem dX12_faultsBy_118 : decode cX12_faultsBy 118 = .ok (.aload_n 0, 1) := by decide +kernel
theorem dX12_faultsBy_119 : decode cX12_faultsBy 119 = .ok (.getfield 33, 3) := by decide +kernel
theorem dX12_faultsBy_122 : decode cX12_faultsBy 122 = .ok (.iload 6, 2) := by decide +kernel
theorem dX12_faultsBy_124 : decode cX12_faultsBy 124 = .ok (.aload_n 0, 1) := by decide +kernel
theorem dX12_faultsBy_125 : decode cX12_faultsBy 125 = .ok (.getfield 7, 3) := by decide +kernel
theorem dX12_faultsBy_128 : decode cX12_faultsBy 128 = .ok (.sipush 512, 3) := by decide +kernel
theorem dX12_faultsBy_131 : decode cX12_faultsBy 131 = .ok (.iload 5, 2) := by decide +kernel
theorem dX12_faultsBy_133 : decode cX12_faultsBy 133 = .ok (.iadd, 1) := by decide +kernel
theorem dX12_faultsBy_134 : decode cX12_faultsBy 134 = .ok (.iaload, 1) := by decide +kernel
theorem dX12_faultsBy_135 : decode cX12_faultsBy 135 = .ok (.iastore, 1) := by decide +kernel
theorem dX12_faultsBy_136 : decode cX12_faultsBy 136 = .ok (.aload_n 0, 1) := by decide +kernel
theorem dX12_faultsBy_137 : decode cX12_faultsBy 137 = .ok (.getfield 39, 3) := by decide +kernel
theorem dX12_faultsBy_140 : decode cX12_faultsBy 140 = .ok (.iload 6, 2) := by decide +kernel
theorem dX12_faultsBy_142 : decode cX12_faultsBy 142 = .ok (.bipush 64, 2) := by decide +kernel
theorem dX12_faultsBy_144 : decode cX12_faultsBy 144 = .ok (.iload 5, 2) := by decide +kernel
theorem dX12_faultsBy_146 : decode cX12_faultsBy 146 = .ok (.isub, 1) := by decide +kernel
theorem dX12_faultsBy_147 : decode cX12_faultsBy 147 = .ok (.iastore, 1) := by decide +kernel
theorem dX12_faultsBy_148 : decode cX12_faultsBy 148 = .ok (.aload_n 0, 1) := by decide +kernel
theorem dX12_faultsBy_149 : decode cX12_faultsBy 149 = .ok (.getfield 36, 3) := by decide +kernel
theorem dX12_faultsBy_152 : decode cX12_faultsBy 152 = .ok (.iload 6, 2) := by decide +kernel
theorem dX12_faultsBy_154 : decode cX12_faultsBy 154 = .ok (.bipush 64, 2) := by decide +kernel
theorem dX12_faultsBy_156 : decode cX12_faultsBy 156 = .ok (.iload 5, 2) := by decide +kernel
theorem dX12_faultsBy_158 : decode cX12_faultsBy 158 = .ok (.isub, 1) := by decide +kernel
theorem dX12_faultsBy_159 : decode cX12_faultsBy 159 = .ok (.iastore, 1) := by decide +kernel
theorem dX12_faultsBy_160 : decode cX12_faultsBy 160 = .ok (.iinc 5 (-1), 3) := by decide +kernel
theorem dX12_faultsBy_163 : decode cX12_faultsBy 163 = .ok (.goto (-147), 3) := by decide +kernel
theorem dX12_faultsBy_166 : decode cX12_faultsBy 166 = .ok (.iload 4, 2) := by decide +kernel
theorem dX12_faultsBy_168 : decode cX12_faultsBy 168 = .ok (.ireturn, 1) := by decide +kernel
theorem dX12_faultsWith_0 : decode cX12_faultsWith 0 = .ok (.aload_n 0, 1) := by decide +kernel
theorem dX12_faultsWith_1 : decode cX12_faultsWith 1 = .ok (.iload_n 1, 1) := by decide +kernel
theorem dX12_faultsWith_2 : decode cX12_faultsWith 2 = .ok (.i2l, 1) := by decide +kernel
theorem dX12_faultsWith_3 : decode cX12_faultsWith 3 = .ok (.lconst 1, 1) := by decide +kernel
theorem dX12_faultsWith_4 : decode cX12_faultsWith 4 = .ok (.ldc2_w 361, 3) := by decide +kernel
theorem dX12_faultsWith_7 : decode cX12_faultsWith 7 = .ok (.invokestatic 52, 3) := by decide +kernel
theorem dX12_faultsWith_10 : decode cX12_faultsWith 10 = .ok (.ifCond .eq 15, 3) := by decide +kernel
theorem dX12_faultsWith_13 : decode cX12_faultsWith 13 = .ok (.iload_n 2, 1) := by decide +kernel
theorem dX12_faultsWith_14 : decode cX12_faultsWith 14 = .ok (.i2l, 1) := by decide +kernel
theorem dX12_faultsWith_15 : decode cX12_faultsWith 15 = .ok (.lconst 0, 1) := by decide +kernel
theorem dX12_faultsWith_16 : decode cX12_faultsWith 16 = .ok (.ldc2_w 236, 3) := by decide +kernel
theorem dX12_faultsWith_19 : decode cX12_faultsWith 19 = .ok (.invokestatic 52, 3) := by decide +kernel
theorem dX12_faultsWith_22 : decode cX12_faultsWith 22 = .ok (.ifCond .ne 7, 3) := by decide +kernel
theorem dX12_faultsWith_25 : decode cX12_faultsWith 25 = .ok (.iconst 1, 1) := by decide +kernel
theorem dX12_faultsWith_26 : decode cX12_faultsWith 26 = .ok (.goto 4, 3) := by decide +kernel
theorem dX12_faultsWith_29 : decode cX12_faultsWith 29 = .ok (.iconst 0, 1) := by decide +kernel
theorem dX12_faultsWith_30 : decode cX12_faultsWith 30 = .ok (.iconst 1, 1) := by decide +kernel
theorem dX12_faultsWith_31 : decode cX12_faultsWith 31 = .ok (.invokevirtual 60, 3) := by decide +kernel
theorem dX12_faultsWith_34 : decode cX12_faultsWith 34 = .ok (.ifCond .eq 7, 3) := by decide +kernel
theorem dX12_faultsWith_37 : decode cX12_faultsWith 37 = .ok (.iconst 0, 1) := by decide +kernel
theorem dX12_faultsWith_38 : decode cX12_faultsWith 38 = .ok (.goto 9, 3) := by decide +kernel
theorem dX12_faultsWith_41 : decode cX12_faultsWith 41 = .ok (.aload_n 0, 1) := by decide +kernel
theorem dX12_faultsWith_42 : decode cX12_faultsWith 42 = .ok (.iload_n 1, 1) := by decide +kernel
theorem dX12_faultsWith_43 : decode cX12_faultsWith 43 = .ok (.iload_n 2, 1) := by decide +kernel
theorem dX12_faultsWith_44 : decode cX12_faultsWith 44 = .ok (.invokevirtual 363, 3) := by decide +kernel
theorem dX12_faultsWith_47 : decode cX12_faultsWith 47 = .ok (.ireturn, 1) := by decide +kernel
theorem dX12_leastFrames_0 : decode cX12_leastFrames 0 = .ok (.aload_n 0, 1) := by decide +kernel
theorem dX12_leastFrames_1 : decode cX12_leastFrames 1 = .ok (.iload_n 1, 1) := by decide +kernel
theorem dX12_leastFrames_2 : decode cX12_leastFrames 2 = .ok (.i2l, 1) := by decide +kernel
theorem dX12_leastFrames_3 : decode cX12_leastFrames 3 = .ok (.lconst 0, 1) := by decide +kernel
theorem dX12_leastFrames_4 : decode cX12_leastFrames 4 = .ok (.ldc2_w 366, 3) := by decide +kernel
theorem dX12_leastFrames_7 : decode cX12_leastFrames 7 = .ok (.invokestatic 52, 3) := by decide +kernel
theorem dX12_leastFrames_10 : decode cX12_leastFrames 10 = .ok (.ifCond .ne 7, 3) := by decide +kernel
theorem dX12_leastFrames_13 : decode cX12_leastFrames 13 = .ok (.iconst 1, 1) := by decide +kernel
theorem dX12_leastFrames_14 : decode cX12_leastFrames 14 = .ok (.goto 4, 3) := by decide +kernel
theorem dX12_leastFrames_17 : decode cX12_leastFrames 17 = .ok (.iconst 0, 1) := by decide +kernel
theorem dX12_leastFrames_18 : decode cX12_leastFrames 18 = .ok (.iconst 1, 1) := by decide +kernel
theorem dX12_leastFrames_19 : decode cX12_leastFrames 19 = .ok (.invokevirtual 60, 3) := by decide +kernel
theorem dX12_leastFrames_22 : decode cX12_leastFrames 22 = .ok (.ifCond .eq 5, 3) := by decide +kernel
theorem dX12_leastFrames_25 : decode cX12_leastFrames 25 = .ok (.iconst 0, 1) := by decide +kernel
theorem dX12_leastFrames_26 : decode cX12_leastFrames 26 = .ok (.ireturn, 1) := by decide +kernel
theorem dX12_leastFrames_27 : decode cX12_leastFrames 27 = .ok (.iconst 1, 1) := by decide +kernel
theorem dX12_leastFrames_28 : decode cX12_leastFrames 28 = .ok (.istore_n 2, 1) := by decide +kernel
theorem dX12_leastFrames_29 : decode cX12_leastFrames 29 = .ok (.iload_n 2, 1) := by decide +kernel
theorem dX12_leastFrames_30 : decode cX12_leastFrames 30 = .ok (.bipush 16, 2) := by decide +kernel
theorem dX12_leastFrames_32 : decode cX12_leastFrames 32 = .ok (.if_icmp .gt 21, 3) := by decide +kernel
theorem dX12_leastFrames_35 : decode cX12_leastFrames 35 = .ok (.aload_n 0, 1) := by decide +kernel
theorem dX12_leastFrames_36 : decode cX12_leastFrames 36 = .ok (.iload_n 2, 1) := by decide +kernel
theorem dX12_leastFrames_37 : decode cX12_leastFrames 37 = .ok (.iconst 2, 1) := by decide +kernel
theorem dX12_leastFrames_38 : decode cX12_leastFrames 38 = .ok (.invokevirtual 363, 3) := by decide +kernel
theorem dX12_leastFrames_41 : decode cX12_leastFrames 41 = .ok (.iload_n 1, 1) := by decide +kernel
theorem dX12_leastFrames_42 : decode cX12_leastFrames 42 = .ok (.if_icmp .gt 5, 3) := by decide +kernel
theorem dX12_leastFrames_45 : decode cX12_leastFrames 45 = .ok (.iload_n 2, 1) := by decide +kernel
theorem dX12_leastFrames_46 : decode cX12_leastFrames 46 = .ok (.ireturn, 1) := by decide +kernel
theorem dX12_leastFrames_47 : decode cX12_leastFrames 47 = .ok (.iinc 2 1, 3) := by decide +kernel
theorem dX12_leastFrames_50 : decode cX12_leastFrames 50 = .ok (.goto (-21), 3) := by decide +kernel
theorem dX12_leastFrames_53 : decode cX12_leastFrames 53 = .ok (.aload_n 0, 1) := by decide +kernel
theorem dX12_leastFrames_54 : decode cX12_leastFrames 54 = .ok (.iconst 2, 1) := by decide +kernel
theorem dX12_leastFrames_55 : decode cX12_leastFrames 55 = .ok (.invokevirtual 80, 3) := by decide +kernel
theorem dX12_leastFrames_58 : decode cX12_leastFrames 58 = .ok (.ireturn, 1) := by decide +kernel
theorem dX12_among_0 : decode cX12_among 0 = .ok (.iconst 0, 1) := by decide +kernel
theorem dX12_among_1 : decode cX12_among 1 = .ok (.istore_n 3, 1) := by decide +kernel
theorem dX12_among_2 : decode cX12_among 2 = .ok (.iconst 0, 1) := by decide +kernel
theorem dX12_among_3 : decode cX12_among 3 = .ok (.istore 4, 2) := by decide +kernel
theorem dX12_among_5 : decode cX12_among 5 = .ok (.iload 4, 2) := by decide +kernel
theorem dX12_among_7 : decode cX12_among 7 = .ok (.iload_n 2, 1) := by decide +kernel
theorem dX12_among_8 : decode cX12_among 8 = .ok (.if_icmp .ge 44, 3) := by decide +kernel
theorem dX12_among_11 : decode cX12_among 11 = .ok (.iload 4, 2) := by decide +kernel
theorem dX12_among_13 : decode cX12_among 13 = .ok (.aload_n 0, 1) := by decide +kernel
theorem dX12_among_14 : decode cX12_among 14 = .ok (.getfield 7, 3) := by decide +kernel
theorem dX12_among_17 : decode cX12_among 17 = .ok (.bipush 12, 2) := by decide +kernel
theorem dX12_among_19 : decode cX12_among 19 = .ok (.iaload, 1) := by decide +kernel
theorem dX12_among_20 : decode cX12_among 20 = .ok (.if_icmp .ge 32, 3) := by decide +kernel
theorem dX12_among_23 : decode cX12_among 23 = .ok (.iload_n 3, 1) := by decide +kernel
theorem dX12_among_24 : decode cX12_among 24 = .ok (.aload_n 0, 1) := by decide +kernel
theorem dX12_among_25 : decode cX12_among 25 = .ok (.getfield 7, 3) := by decide +kernel
theorem dX12_among_28 : decode cX12_among 28 = .ok (.sipush 512, 3) := by decide +kernel
theorem dX12_among_31 : decode cX12_among 31 = .ok (.iload 4, 2) := by decide +kernel
theorem dX12_among_33 : decode cX12_among 33 = .ok (.iadd, 1) := by decide +kernel
theorem dX12_among_34 : decode cX12_among 34 = .ok (.iaload, 1) := by decide +kernel
theorem dX12_among_35 : decode cX12_among 35 = .ok (.iload_n 1, 1) := by decide +kernel
theorem dX12_among_36 : decode cX12_among 36 = .ok (.if_icmp .ne 7, 3) := by decide +kernel
theorem dX12_among_39 : decode cX12_among 39 = .ok (.iconst 1, 1) := by decide +kernel
theorem dX12_among_40 : decode cX12_among 40 = .ok (.goto 4, 3) := by decide +kernel
theorem dX12_among_43 : decode cX12_among 43 = .ok (.iconst 0, 1) := by decide +kernel
theorem dX12_among_44 : decode cX12_among 44 = .ok (.iadd, 1) := by decide +kernel
theorem dX12_among_45 : decode cX12_among 45 = .ok (.istore_n 3, 1) := by decide +kernel
theorem dX12_among_46 : decode cX12_among 46 = .ok (.iinc 4 1, 3) := by decide +kernel
theorem dX12_among_49 : decode cX12_among 49 = .ok (.goto (-44), 3) := by decide +kernel
theorem dX12_among_52 : decode cX12_among 52 = .ok (.iload_n 3, 1) := by decide +kernel
theorem dX12_among_53 : decode cX12_among 53 = .ok (.ireturn, 1) := by decide +kernel
theorem dX12_workingSet_0 : decode cX12_workingSet 0 = .ok (.aload_n 0, 1) := by decide +kernel
theorem dX12_workingSet_1 : decode cX12_workingSet 1 = .ok (.iload_n 1, 1) := by decide +kernel
theorem dX12_workingSet_2 : decode cX12_workingSet 2 = .ok (.i2l, 1) := by decide +kernel
theorem dX12_workingSet_3 : decode cX12_workingSet 3 = .ok (.lconst 1, 1) := by decide +kernel
theorem dX12_workingSet_4 : decode cX12_workingSet 4 = .ok (.ldc2_w 366, 3) := by decide +kernel
theorem dX12_workingSet_7 : decode cX12_workingSet 7 = .ok (.invokestatic 52, 3) := by decide +kernel
theorem dX12_workingSet_10 : decode cX12_workingSet 10 = .ok (.ifCond .ne 7, 3) := by decide +kernel
theorem dX12_workingSet_13 : decode cX12_workingSet 13 = .ok (.iconst 1, 1) := by decide +kernel
theorem dX12_workingSet_14 : decode cX12_workingSet 14 = .ok (.goto 4, 3) := by decide +kernel
theorem dX12_workingSet_17 : decode cX12_workingSet 17 = .ok (.iconst 0, 1) := by decide +kernel
theorem dX12_workingSet_18 : decode cX12_workingSet 18 = .ok (.iconst 1, 1) := by decide +kernel
theorem dX12_workingSet_19 : decode cX12_workingSet 19 = .ok (.invokevirtual 60, 3) := by decide +kernel
theorem dX12_workingSet_22 : decode cX12_workingSet 22 = .ok (.ifCond .eq 5, 3) := by decide +kernel
theorem dX12_workingSet_25 : decode cX12_workingSet 25 = .ok (.iconst 0, 1) := by decide +kernel
theorem dX12_workingSet_26 : decode cX12_workingSet 26 = .ok (.ireturn, 1) := by decide +kernel
theorem dX12_workingSet_27 : decode cX12_workingSet 27 = .ok (.iconst 0, 1) := by decide +kernel
theorem dX12_workingSet_28 : decode cX12_workingSet 28 = .ok (.istore_n 2, 1) := by decide +kernel
theorem dX12_workingSet_29 : decode cX12_workingSet 29 = .ok (.iconst 0, 1) := by decide +kernel
theorem dX12_workingSet_30 : decode cX12_workingSet 30 = .ok (.istore_n 3, 1) := by decide +kernel
theorem dX12_workingSet_31 : decode cX12_workingSet 31 = .ok (.iload_n 3, 1) := by decide +kernel
theorem dX12_workingSet_32 : decode cX12_workingSet 32 = .ok (.bipush 48, 2) := by decide +kernel
theorem dX12_workingSet_34 : decode cX12_workingSet 34 = .ok (.if_icmp .ge 26, 3) := by decide +kernel
theorem dX12_workingSet_37 : decode cX12_workingSet 37 = .ok (.iload_n 2, 1) := by decide +kernel
theorem dX12_workingSet_38 : decode cX12_workingSet 38 = .ok (.aload_n 0, 1) := by decide +kernel
theorem dX12_workingSet_39 : decode cX12_workingSet 39 = .ok (.iload_n 3, 1) := by decide +kernel
theorem dX12_workingSet_40 : decode cX12_workingSet 40 = .ok (.iload_n 1, 1) := by decide +kernel
theorem dX12_workingSet_41 : decode cX12_workingSet 41 = .ok (.invokevirtual 368, 3) := by decide +kernel
theorem dX12_workingSet_44 : decode cX12_workingSet 44 = .ok (.ifCond .le 7, 3) := by decide +kernel
theorem dX12_workingSet_47 : decode cX12_workingSet 47 = .ok (.iconst 1, 1) := by decide +kernel
theorem dX12_workingSet_48 : decode cX12_workingSet 48 = .ok (.goto 4, 3) := by decide +kernel
theorem dX12_workingSet_51 : decode cX12_workingSet 51 = .ok (.iconst 0, 1) := by decide +kernel
theorem dX12_workingSet_52 : decode cX12_workingSet 52 = .ok (.iadd, 1) := by decide +kernel
theorem dX12_workingSet_53 : decode cX12_workingSet 53 = .ok (.istore_n 2, 1) := by decide +kernel
theorem dX12_workingSet_54 : decode cX12_workingSet 54 = .ok (.iinc 3 1, 3) := by decide +kernel
theorem dX12_workingSet_57 : decode cX12_workingSet 57 = .ok (.goto (-26), 3) := by decide +kernel
theorem dX12_workingSet_60 : decode cX12_workingSet 60 = .ok (.iload_n 2, 1) := by decide +kernel
theorem dX12_workingSet_61 : decode cX12_workingSet 61 = .ok (.ireturn, 1) := by decide +kernel
theorem dX12_hottestPage_0 : decode cX12_hottestPage 0 = .ok (.aload_n 0, 1) := by decide +kernel
theorem dX12_hottestPage_1 : decode cX12_hottestPage 1 = .ok (.aload_n 0, 1) := by decide +kernel
theorem dX12_hottestPage_2 : decode cX12_hottestPage 2 = .ok (.getfield 7, 3) := by decide +kernel
theorem dX12_hottestPage_5 : decode cX12_hottestPage 5 = .ok (.bipush 12, 2) := by decide +kernel
theorem dX12_hottestPage_7 : decode cX12_hottestPage 7 = .ok (.iaload, 1) := by decide +kernel
theorem dX12_hottestPage_8 : decode cX12_hottestPage 8 = .ok (.ifCond .ne 7, 3) := by decide +kernel
theorem dX12_hottestPage_11 : decode cX12_hottestPage 11 = .ok (.iconst 1, 1) := by decide +kernel
theorem dX12_hottestPage_12 : decode cX12_hottestPage 12 = .ok (.goto 4, 3) := by decide +kernel
theorem dX12_hottestPage_15 : decode cX12_hottestPage 15 = .ok (.iconst 0, 1) := by decide +kernel
theorem dX12_hottestPage_16 : decode cX12_hottestPage 16 = .ok (.iconst 1, 1) := by decide +kernel
theorem dX12_hottestPage_17 : decode cX12_hottestPage 17 = .ok (.invokevirtual 60, 3) := by decide +kernel
theorem dX12_hottestPage_20 : decode cX12_hottestPage 20 = .ok (.ifCond .eq 5, 3) := by decide +kernel
theorem dX12_hottestPage_23 : decode cX12_hottestPage 23 = .ok (.iconst 0, 1) := by decide +kernel
theorem dX12_hottestPage_24 : decode cX12_hottestPage 24 = .ok (.ireturn, 1) := by decide +kernel
theorem dX12_hottestPage_25 : decode cX12_hottestPage 25 = .ok (.iconst 0, 1) := by decide +kernel
theorem dX12_hottestPage_26 : decode cX12_hottestPage 26 = .ok (.istore_n 1, 1) := by decide +kernel
theorem dX12_hottestPage_27 : decode cX12_hottestPage 27 = .ok (.iconst 1, 1) := by decide +kernel
theorem dX12_hottestPage_28 : decode cX12_hottestPage 28 = .ok (.istore_n 2, 1) := by decide +kernel
theorem dX12_hottestPage_29 : decode cX12_hottestPage 29 = .ok (.iload_n 2, 1) := by decide +kernel
theorem dX12_hottestPage_30 : decode cX12_hottestPage 30 = .ok (.bipush 48, 2) := by decide +kernel
theorem dX12_hottestPage_32 : decode cX12_hottestPage 32 = .ok (.if_icmp .ge 32, 3) := by decide +kernel
theorem dX12_hottestPage_35 : decode cX12_hottestPage 35 = .ok (.aload_n 0, 1) := by decide +kernel
theorem dX12_hottestPage_36 : decode cX12_hottestPage 36 = .ok (.iload_n 2, 1) := by decide +kernel
