theorem dX4_nextToken_26 : decode cX4_nextToken 26 = .ok (.aload_n 0, 1) := by decide +kernel
theorem dX4_nextToken_27 : decode cX4_nextToken 27 = .ok (.aload_n 0, 1) := by decide +kernel
theorem dX4_nextToken_28 : decode cX4_nextToken 28 = .ok (.getfield 83, 3) := by decide +kernel
theorem dX4_nextToken_31 : decode cX4_nextToken 31 = .ok (.putfield 90, 3) := by decide +kernel
theorem dX4_nextToken_34 : decode cX4_nextToken 34 = .ok (.aload_n 0, 1) := by decide +kernel
theorem dX4_nextToken_35 : decode cX4_nextToken 35 = .ok (.iconst 0, 1) := by decide +kernel
theorem dX4_nextToken_36 : decode cX4_nextToken 36 = .ok (.putfield 93, 3) := by decide +kernel
theorem dX4_nextToken_39 : decode cX4_nextToken 39 = .ok (.aload_n 0, 1) := by decide +kernel
theorem dX4_nextToken_40 : decode cX4_nextToken 40 = .ok (.aload_n 0, 1) := by decide +kernel
theorem dX4_nextToken_41 : decode cX4_nextToken 41 = .ok (.getfield 83, 3) := by decide +kernel
theorem dX4_nextToken_44 : decode cX4_nextToken 44 = .ok (.aload_n 0, 1) := by decide +kernel
theorem dX4_nextToken_45 : decode cX4_nextToken 45 = .ok (.getfield 80, 3) := by decide +kernel
theorem dX4_nextToken_48 : decode cX4_nextToken 48 = .ok (.if_icmp .ne 7, 3) := by decide +kernel
theorem dX4_nextToken_51 : decode cX4_nextToken 51 = .ok (.iconst 3, 1) := by decide +kernel
theorem dX4_nextToken_52 : decode cX4_nextToken 52 = .ok (.goto 4, 3) := by decide +kernel
theorem dX4_nextToken_55 : decode cX4_nextToken 55 = .ok (.iconst 0, 1) := by decide +kernel
theorem dX4_nextToken_56 : decode cX4_nextToken 56 = .ok (.putfield 96, 3) := by decide +kernel
theorem dX4_nextToken_59 : decode cX4_nextToken 59 = .ok (.aload_n 0, 1) := by decide +kernel
theorem dX4_nextToken_60 : decode cX4_nextToken 60 = .ok (.aload_n 0, 1) := by decide +kernel
theorem dX4_nextToken_61 : decode cX4_nextToken 61 = .ok (.getfield 83, 3) := by decide +kernel
theorem dX4_nextToken_64 : decode cX4_nextToken 64 = .ok (.invokevirtual 86, 3) := by decide +kernel
theorem dX4_nextToken_67 : decode cX4_nextToken 67 = .ok (.i2l, 1) := by decide +kernel
theorem dX4_nextToken_68 : decode cX4_nextToken 68 = .ok (.ldc2_w 99, 3) := by decide +kernel
theorem dX4_nextToken_71 : decode cX4_nextToken 71 = .ok (.ldc2_w 101, 3) := by decide +kernel
theorem dX4_nextToken_74 : decode cX4_nextToken 74 = .ok (.invokestatic 52, 3) := by decide +kernel
theorem dX4_nextToken_77 : decode cX4_nextToken 77 = .ok (.ifCond .eq 29, 3) := by decide +kernel
theorem dX4_nextToken_80 : decode cX4_nextToken 80 = .ok (.aload_n 0, 1) := by decide +kernel
theorem dX4_nextToken_81 : decode cX4_nextToken 81 = .ok (.getfield 96, 3) := by decide +kernel
theorem dX4_nextToken_84 : decode cX4_nextToken 84 = .ok (.iconst 2, 1) := by decide +kernel
theorem dX4_nextToken_85 : decode cX4_nextToken 85 = .ok (.if_icmp .ge 21, 3) := by decide +kernel
theorem dX4_nextToken_88 : decode cX4_nextToken 88 = .ok (.aload_n 0, 1) := by decide +kernel
theorem dX4_nextToken_89 : decode cX4_nextToken 89 = .ok (.iconst 1, 1) := by decide +kernel
theorem dX4_nextToken_90 : decode cX4_nextToken 90 = .ok (.putfield 96, 3) := by decide +kernel
theorem dX4_nextToken_93 : decode cX4_nextToken 93 = .ok (.aload_n 0, 1) := by decide +kernel
theorem dX4_nextToken_94 : decode cX4_nextToken 94 = .ok (.dup, 1) := by decide +kernel
theorem dX4_nextToken_95 : decode cX4_nextToken 95 = .ok (.getfield 83, 3) := by decide +kernel
theorem dX4_nextToken_98 : decode cX4_nextToken 98 = .ok (.iconst 1, 1) := by decide +kernel
theorem dX4_nextToken_99 : decode cX4_nextToken 99 = .ok (.iadd, 1) := by decide +kernel
theorem dX4_nextToken_100 : decode cX4_nextToken 100 = .ok (.putfield 83, 3) := by decide +kernel
theorem dX4_nextToken_103 : decode cX4_nextToken 103 = .ok (.goto (-44), 3) := by decide +kernel
theorem dX4_nextToken_106 : decode cX4_nextToken 106 = .ok (.aload_n 0, 1) := by decide +kernel
theorem dX4_nextToken_107 : decode cX4_nextToken 107 = .ok (.aload_n 0, 1) := by decide +kernel
theorem dX4_nextToken_108 : decode cX4_nextToken 108 = .ok (.getfield 83, 3) := by decide +kernel
theorem dX4_nextToken_111 : decode cX4_nextToken 111 = .ok (.invokevirtual 86, 3) := by decide +kernel
theorem dX4_nextToken_114 : decode cX4_nextToken 114 = .ok (.i2l, 1) := by decide +kernel
theorem dX4_nextToken_115 : decode cX4_nextToken 115 = .ok (.ldc2_w 103, 3) := by decide +kernel
theorem dX4_nextToken_118 : decode cX4_nextToken 118 = .ok (.ldc2_w 105, 3) := by decide +kernel
theorem dX4_nextToken_121 : decode cX4_nextToken 121 = .ok (.invokestatic 52, 3) := by decide +kernel
theorem dX4_nextToken_124 : decode cX4_nextToken 124 = .ok (.ifCond .eq 69, 3) := by decide +kernel
theorem dX4_nextToken_127 : decode cX4_nextToken 127 = .ok (.aload_n 0, 1) := by decide +kernel
theorem dX4_nextToken_128 : decode cX4_nextToken 128 = .ok (.getfield 96, 3) := by decide +kernel
theorem dX4_nextToken_131 : decode cX4_nextToken 131 = .ok (.iconst 1, 1) := by decide +kernel
theorem dX4_nextToken_132 : decode cX4_nextToken 132 = .ok (.if_icmp .eq 61, 3) := by decide +kernel
theorem dX4_nextToken_135 : decode cX4_nextToken 135 = .ok (.aload_n 0, 1) := by decide +kernel
theorem dX4_nextToken_136 : decode cX4_nextToken 136 = .ok (.iconst 2, 1) := by decide +kernel
theorem dX4_nextToken_137 : decode cX4_nextToken 137 = .ok (.putfield 96, 3) := by decide +kernel
theorem dX4_nextToken_140 : decode cX4_nextToken 140 = .ok (.aload_n 0, 1) := by decide +kernel
theorem dX4_nextToken_141 : decode cX4_nextToken 141 = .ok (.aload_n 0, 1) := by decide +kernel
theorem dX4_nextToken_142 : decode cX4_nextToken 142 = .ok (.getfield 93, 3) := by decide +kernel
theorem dX4_nextToken_145 : decode cX4_nextToken 145 = .ok (.bipush 99, 2) := by decide +kernel
theorem dX4_nextToken_147 : decode cX4_nextToken 147 = .ok (.if_icmp .le 10, 3) := by decide +kernel
theorem dX4_nextToken_150 : decode cX4_nextToken 150 = .ok (.aload_n 0, 1) := by decide +kernel
theorem dX4_nextToken_151 : decode cX4_nextToken 151 = .ok (.getfield 93, 3) := by decide +kernel
theorem dX4_nextToken_154 : decode cX4_nextToken 154 = .ok (.goto 23, 3) := by decide +kernel
theorem dX4_nextToken_157 : decode cX4_nextToken 157 = .ok (.bipush 10, 2) := by decide +kernel
theorem dX4_nextToken_159 : decode cX4_nextToken 159 = .ok (.aload_n 0, 1) := by decide +kernel
theorem dX4_nextToken_160 : decode cX4_nextToken 160 = .ok (.getfield 93, 3) := by decide +kernel
theorem dX4_nextToken_163 : decode cX4_nextToken 163 = .ok (.imul, 1) := by decide +kernel
theorem dX4_nextToken_164 : decode cX4_nextToken 164 = .ok (.aload_n 0, 1) := by decide +kernel
theorem dX4_nextToken_165 : decode cX4_nextToken 165 = .ok (.getfield 20, 3) := by decide +kernel
theorem dX4_nextToken_168 : decode cX4_nextToken 168 = .ok (.aload_n 0, 1) := by decide +kernel
theorem dX4_nextToken_169 : decode cX4_nextToken 169 = .ok (.getfield 83, 3) := by decide +kernel
theorem dX4_nextToken_172 : decode cX4_nextToken 172 = .ok (.iaload, 1) := by decide +kernel
theorem dX4_nextToken_173 : decode cX4_nextToken 173 = .ok (.iadd, 1) := by decide +kernel
theorem dX4_nextToken_174 : decode cX4_nextToken 174 = .ok (.bipush 48, 2) := by decide +kernel
theorem dX4_nextToken_176 : decode cX4_nextToken 176 = .ok (.isub, 1) := by decide +kernel
theorem dX4_nextToken_177 : decode cX4_nextToken 177 = .ok (.putfield 93, 3) := by decide +kernel
theorem dX4_nextToken_180 : decode cX4_nextToken 180 = .ok (.aload_n 0, 1) := by decide +kernel
theorem dX4_nextToken_181 : decode cX4_nextToken 181 = .ok (.dup, 1) := by decide +kernel
theorem dX4_nextToken_182 : decode cX4_nextToken 182 = .ok (.getfield 83, 3) := by decide +kernel
theorem dX4_nextToken_185 : decode cX4_nextToken 185 = .ok (.iconst 1, 1) := by decide +kernel
theorem dX4_nextToken_186 : decode cX4_nextToken 186 = .ok (.iadd, 1) := by decide +kernel
theorem dX4_nextToken_187 : decode cX4_nextToken 187 = .ok (.putfield 83, 3) := by decide +kernel
theorem dX4_nextToken_190 : decode cX4_nextToken 190 = .ok (.goto (-84), 3) := by decide +kernel
theorem dX4_nextToken_193 : decode cX4_nextToken 193 = .ok (.aload_n 0, 1) := by decide +kernel
theorem dX4_nextToken_194 : decode cX4_nextToken 194 = .ok (.getfield 96, 3) := by decide +kernel
theorem dX4_nextToken_197 : decode cX4_nextToken 197 = .ok (.iconst 2, 1) := by decide +kernel
theorem dX4_nextToken_198 : decode cX4_nextToken 198 = .ok (.if_icmp .ne 24, 3) := by decide +kernel
theorem dX4_nextToken_201 : decode cX4_nextToken 201 = .ok (.aload_n 0, 1) := by decide +kernel
theorem dX4_nextToken_202 : decode cX4_nextToken 202 = .ok (.getfield 83, 3) := by decide +kernel
theorem dX4_nextToken_205 : decode cX4_nextToken 205 = .ok (.aload_n 0, 1) := by decide +kernel
theorem dX4_nextToken_206 : decode cX4_nextToken 206 = .ok (.getfield 90, 3) := by decide +kernel
theorem dX4_nextToken_209 : decode cX4_nextToken 209 = .ok (.isub, 1) := by decide +kernel
theorem dX4_nextToken_210 : decode cX4_nextToken 210 = .ok (.iconst 2, 1) := by decide +kernel
theorem dX4_nextToken_211 : decode cX4_nextToken 211 = .ok (.if_icmp .le 11, 3) := by decide +kernel
theorem dX4_nextToken_214 : decode cX4_nextToken 214 = .ok (.aload_n 0, 1) := by decide +kernel
theorem dX4_nextToken_215 : decode cX4_nextToken 215 = .ok (.iconst 0, 1) := by decide +kernel
theorem dX4_nextToken_216 : decode cX4_nextToken 216 = .ok (.putfield 96, 3) := by decide +kernel
theorem dX4_nextToken_219 : decode cX4_nextToken 219 = .ok (.goto 42, 3) := by decide +kernel
theorem dX4_nextToken_222 : decode cX4_nextToken 222 = .ok (.aload_n 0, 1) := by decide +kernel
theorem dX4_nextToken_223 : decode cX4_nextToken 223 = .ok (.getfield 96, 3) := by decide +kernel
theorem dX4_nextToken_226 : decode cX4_nextToken 226 = .ok (.ifCond .ne 35, 3) := by decide +kernel
theorem dX4_nextToken_229 : decode cX4_nextToken 229 = .ok (.aload_n 0, 1) := by decide +kernel
theorem dX4_nextToken_230 : decode cX4_nextToken 230 = .ok (.aload_n 0, 1) := by decide +kernel
theorem dX4_nextToken_231 : decode cX4_nextToken 231 = .ok (.aload_n 0, 1) := by decide +kernel
theorem dX4_nextToken_232 : decode cX4_nextToken 232 = .ok (.getfield 83, 3) := by decide +kernel
theorem dX4_nextToken_235 : decode cX4_nextToken 235 = .ok (.invokevirtual 86, 3) := by decide +kernel
theorem dX4_nextToken_238 : decode cX4_nextToken 238 = .ok (.bipush 59, 2) := by decide +kernel
theorem dX4_nextToken_240 : decode cX4_nextToken 240 = .ok (.if_icmp .ne 7, 3) := by decide +kernel
theorem dX4_nextToken_243 : decode cX4_nextToken 243 = .ok (.iconst 4, 1) := by decide +kernel
theorem dX4_nextToken_244 : decode cX4_nextToken 244 = .ok (.goto 4, 3) := by decide +kernel
theorem dX4_nextToken_247 : decode cX4_nextToken 247 = .ok (.iconst 0, 1) := by decide +kernel
theorem dX4_nextToken_248 : decode cX4_nextToken 248 = .ok (.putfield 96, 3) := by decide +kernel
theorem dX4_nextToken_251 : decode cX4_nextToken 251 = .ok (.aload_n 0, 1) := by decide +kernel
theorem dX4_nextToken_252 : decode cX4_nextToken 252 = .ok (.dup, 1) := by decide +kernel
theorem dX4_nextToken_253 : decode cX4_nextToken 253 = .ok (.getfield 83, 3) := by decide +kernel
theorem dX4_nextToken_256 : decode cX4_nextToken 256 = .ok (.iconst 1, 1) := by decide +kernel
theorem dX4_nextToken_257 : decode cX4_nextToken 257 = .ok (.iadd, 1) := by decide +kernel
theorem dX4_nextToken_258 : decode cX4_nextToken 258 = .ok (.putfield 83, 3) := by decide +kernel
theorem dX4_nextToken_261 : decode cX4_nextToken 261 = .ok (.return_, 1) := by decide +kernel
theorem dX4_isWord_0 : decode cX4_isWord 0 = .ok (.iload 4, 2) := by decide +kernel
theorem dX4_isWord_2 : decode cX4_isWord 2 = .ok (.ifCond .ne 7, 3) := by decide +kernel
theorem dX4_isWord_5 : decode cX4_isWord 5 = .ok (.iconst 3, 1) := by decide +kernel
theorem dX4_isWord_6 : decode cX4_isWord 6 = .ok (.goto 14, 3) := by decide +kernel
theorem dX4_isWord_9 : decode cX4_isWord 9 = .ok (.iload 5, 2) := by decide +kernel
theorem dX4_isWord_11 : decode cX4_isWord 11 = .ok (.ifCond .ne 7, 3) := by decide +kernel
theorem dX4_isWord_14 : decode cX4_isWord 14 = .ok (.iconst 4, 1) := by decide +kernel
theorem dX4_isWord_15 : decode cX4_isWord 15 = .ok (.goto 5, 3) := by decide +kernel
theorem dX4_isWord_18 : decode cX4_isWord 18 = .ok (.bipush 6, 2) := by decide +kernel
theorem dX4_isWord_20 : decode cX4_isWord 20 = .ok (.istore 7, 2) := by decide +kernel
theorem dX4_isWord_22 : decode cX4_isWord 22 = .ok (.aload_n 0, 1) := by decide +kernel
theorem dX4_isWord_23 : decode cX4_isWord 23 = .ok (.getfield 96, 3) := by decide +kernel
theorem dX4_isWord_26 : decode cX4_isWord 26 = .ok (.iconst 1, 1) := by decide +kernel
theorem dX4_isWord_27 : decode cX4_isWord 27 = .ok (.if_icmp .ne 64, 3) := by decide +kernel
theorem dX4_isWord_30 : decode cX4_isWord 30 = .ok (.aload_n 0, 1) := by decide +kernel
theorem dX4_isWord_31 : decode cX4_isWord 31 = .ok (.getfield 83, 3) := by decide +kernel
theorem dX4_isWord_34 : decode cX4_isWord 34 = .ok (.aload_n 0, 1) := by decide +kernel
theorem dX4_isWord_35 : decode cX4_isWord 35 = .ok (.getfield 90, 3) := by decide +kernel
theorem dX4_isWord_38 : decode cX4_isWord 38 = .ok (.isub, 1) := by decide +kernel
theorem dX4_isWord_39 : decode cX4_isWord 39 = .ok (.iload 7, 2) := by decide +kernel
theorem dX4_isWord_41 : decode cX4_isWord 41 = .ok (.if_icmp .ne 50, 3) := by decide +kernel
theorem dX4_isWord_44 : decode cX4_isWord 44 = .ok (.aload_n 0, 1) := by decide +kernel
theorem dX4_isWord_45 : decode cX4_isWord 45 = .ok (.getfield 20, 3) := by decide +kernel
theorem dX4_isWord_48 : decode cX4_isWord 48 = .ok (.aload_n 0, 1) := by decide +kernel
theorem dX4_isWord_49 : decode cX4_isWord 49 = .ok (.getfield 90, 3) := by decide +kernel
theorem dX4_isWord_52 : decode cX4_isWord 52 = .ok (.iaload, 1) := by decide +kernel
theorem dX4_isWord_53 : decode cX4_isWord 53 = .ok (.iload_n 1, 1) := by decide +kernel
theorem dX4_isWord_54 : decode cX4_isWord 54 = .ok (.if_icmp .ne 37, 3) := by decide +kernel
theorem dX4_isWord_57 : decode cX4_isWord 57 = .ok (.aload_n 0, 1) := by decide +kernel
theorem dX4_isWord_58 : decode cX4_isWord 58 = .ok (.getfield 20, 3) := by decide +kernel
theorem dX4_isWord_61 : decode cX4_isWord 61 = .ok (.aload_n 0, 1) := by decide +kernel
theorem dX4_isWord_62 : decode cX4_isWord 62 = .ok (.getfield 90, 3) := by decide +kernel
theorem dX4_isWord_65 : decode cX4_isWord 65 = .ok (.iconst 1, 1) := by decide +kernel
theorem dX4_isWord_66 : decode cX4_isWord 66 = .ok (.iadd, 1) := by decide +kernel
theorem dX4_isWord_67 : decode cX4_isWord 67 = .ok (.iaload, 1) := by decide +kernel
theorem dX4_isWord_68 : decode cX4_isWord 68 = .ok (.iload_n 2, 1) := by decide +kernel
theorem dX4_isWord_69 : decode cX4_isWord 69 = .ok (.if_icmp .ne 22, 3) := by decide +kernel
theorem dX4_isWord_72 : decode cX4_isWord 72 = .ok (.aload_n 0, 1) := by decide +kernel
theorem dX4_isWord_73 : decode cX4_isWord 73 = .ok (.getfield 20, 3) := by decide +kernel
theorem dX4_isWord_76 : decode cX4_isWord 76 = .ok (.aload_n 0, 1) := by decide +kernel
theorem dX4_isWord_77 : decode cX4_isWord 77 = .ok (.getfield 90, 3) := by decide +kernel
theorem dX4_isWord_80 : decode cX4_isWord 80 = .ok (.iconst 2, 1) := by decide +kernel
theorem dX4_isWord_81 : decode cX4_isWord 81 = .ok (.iadd, 1) := by decide +kernel
theorem dX4_isWord_82 : decode cX4_isWord 82 = .ok (.iaload, 1) := by decide +kernel
theorem dX4_isWord_83 : decode cX4_isWord 83 = .ok (.iload_n 3, 1) := by decide +kernel
theorem dX4_isWord_84 : decode cX4_isWord 84 = .ok (.if_icmp .ne 7, 3) := by decide +kernel
theorem dX4_isWord_87 : decode cX4_isWord 87 = .ok (.iconst 1, 1) := by decide +kernel
theorem dX4_isWord_88 : decode cX4_isWord 88 = .ok (.goto 4, 3) := by decide +kernel
theorem dX4_isWord_91 : decode cX4_isWord 91 = .ok (.iconst 0, 1) := by decide +kernel
theorem dX4_isWord_92 : decode cX4_isWord 92 = .ok (.istore 8, 2) := by decide +kernel
theorem dX4_isWord_94 : decode cX4_isWord 94 = .ok (.iload 8, 2) := by decide +kernel
theorem dX4_isWord_96 : decode cX4_isWord 96 = .ok (.ifCond .eq 29, 3) := by decide +kernel
theorem dX4_isWord_99 : decode cX4_isWord 99 = .ok (.iload 7, 2) := by decide +kernel
theorem dX4_isWord_101 : decode cX4_isWord 101 = .ok (.iconst 4, 1) := by decide +kernel
theorem dX4_isWord_102 : decode cX4_isWord 102 = .ok (.if_icmp .lt 19, 3) := by decide +kernel
theorem dX4_isWord_105 : decode cX4_isWord 105 = .ok (.aload_n 0, 1) := by decide +kernel
theorem dX4_isWord_106 : decode cX4_isWord 106 = .ok (.getfield 20, 3) := by decide +kernel
theorem dX4_isWord_109 : decode cX4_isWord 109 = .ok (.aload_n 0, 1) := by decide +kernel
theorem dX4_isWord_110 : decode cX4_isWord 110 = .ok (.getfield 90, 3) := by decide +kernel
theorem dX4_isWord_113 : decode cX4_isWord 113 = .ok (.iconst 3, 1) := by decide +kernel
theorem dX4_isWord_114 : decode cX4_isWord 114 = .ok (.iadd, 1) := by decide +kernel
theorem dX4_isWord_115 : decode cX4_isWord 115 = .ok (.iaload, 1) := by decide +kernel
theorem dX4_isWord_116 : decode cX4_isWord 116 = .ok (.iload 4, 2) := by decide +kernel
theorem dX4_isWord_118 : decode cX4_isWord 118 = .ok (.if_icmp .ne 7, 3) := by decide +kernel
theorem dX4_isWord_121 : decode cX4_isWord 121 = .ok (.iconst 1, 1) := by decide +kernel
theorem dX4_isWord_122 : decode cX4_isWord 122 = .ok (.goto 4, 3) := by decide +kernel
theorem dX4_isWord_125 : decode cX4_isWord 125 = .ok (.iconst 0, 1) := by decide +kernel
theorem dX4_isWord_126 : decode cX4_isWord 126 = .ok (.istore 8, 2) := by decide +kernel
theorem dX4_isWord_128 : decode cX4_isWord 128 = .ok (.iload 8, 2) := by decide +kernel
theorem dX4_isWord_130 : decode cX4_isWord 130 = .ok (.ifCond .eq 46, 3) := by decide +kernel
theorem dX4_isWord_133 : decode cX4_isWord 133 = .ok (.iload 7, 2) := by decide +kernel
theorem dX4_isWord_135 : decode cX4_isWord 135 = .ok (.bipush 6, 2) := by decide +kernel
theorem dX4_isWord_137 : decode cX4_isWord 137 = .ok (.if_icmp .lt 35, 3) := by decide +kernel
theorem dX4_isWord_140 : decode cX4_isWord 140 = .ok (.aload_n 0, 1) := by decide +kernel
theorem dX4_isWord_141 : decode cX4_isWord 141 = .ok (.getfield 20, 3) := by decide +kernel
theorem dX4_isWord_144 : decode cX4_isWord 144 = .ok (.aload_n 0, 1) := by decide +kernel
theorem dX4_isWord_145 : decode cX4_isWord 145 = .ok (.getfield 90, 3) := by decide +kernel
theorem dX4_isWord_148 : decode cX4_isWord 148 = .ok (.iconst 4, 1) := by decide +kernel
theorem dX4_isWord_149 : decode cX4_isWord 149 = .ok (.iadd, 1) := by decide +kernel
theorem dX4_isWord_150 : decode cX4_isWord 150 = .ok (.iaload, 1) := by decide +kernel
theorem dX4_isWord_151 : decode cX4_isWord 151 = .ok (.iload 5, 2) := by decide +kernel
theorem dX4_isWord_153 : decode cX4_isWord 153 = .ok (.if_icmp .ne 23, 3) := by decide +kernel
theorem dX4_isWord_156 : decode cX4_isWord 156 = .ok (.aload_n 0, 1) := by decide +kernel
theorem dX4_isWord_157 : decode cX4_isWord 157 = .ok (.getfield 20, 3) := by decide +kernel
theorem dX4_isWord_160 : decode cX4_isWord 160 = .ok (.aload_n 0, 1) := by decide +kernel
theorem dX4_isWord_161 : decode cX4_isWord 161 = .ok (.getfield 90, 3) := by decide +kernel
theorem dX4_isWord_164 : decode cX4_isWord 164 = .ok (.iconst 5, 1) := by decide +kernel
theorem dX4_isWord_165 : decode cX4_isWord 165 = .ok (.iadd, 1) := by decide +kernel
theorem dX4_isWord_166 : decode cX4_isWord 166 = .ok (.iaload, 1) := by decide +kernel
theorem dX4_isWord_167 : decode cX4_isWord 167 = .ok (.iload 6, 2) := by decide +kernel
theorem dX4_isWord_169 : decode cX4_isWord 169 = .ok (.if_icmp .ne 7, 3) := by decide +kernel
theorem dX4_isWord_172 : decode cX4_isWord 172 = .ok (.iconst 1, 1) := by decide +kernel
theorem dX4_isWord_173 : decode cX4_isWord 173 = .ok (.goto 4, 3) := by decide +kernel
theorem dX4_isWord_176 : decode cX4_isWord 176 = .ok (.iconst 0, 1) := by decide +kernel
theorem dX4_isWord_177 : decode cX4_isWord 177 = .ok (.ireturn, 1) := by decide +kernel
theorem dX4_reads_0 : decode cX4_reads 0 = .ok (.aload_n 0, 1) := by decide +kernel
theorem dX4_reads_1 : decode cX4_reads 1 = .ok (.invokevirtual 107, 3) := by decide +kernel
theorem dX4_reads_4 : decode cX4_reads 4 = .ok (.aload_n 0, 1) := by decide +kernel
theorem dX4_reads_5 : decode cX4_reads 5 = .ok (.getfield 23, 3) := by decide +kernel
theorem dX4_reads_8 : decode cX4_reads 8 = .ok (.iload_n 1, 1) := by decide +kernel
theorem dX4_reads_9 : decode cX4_reads 9 = .ok (.aload_n 0, 1) := by decide +kernel
theorem dX4_reads_10 : decode cX4_reads 10 = .ok (.getfield 93, 3) := by decide +kernel
theorem dX4_reads_13 : decode cX4_reads 13 = .ok (.iastore, 1) := by decide +kernel
theorem dX4_reads_14 : decode cX4_reads 14 = .ok (.aload_n 0, 1) := by decide +kernel
theorem dX4_reads_15 : decode cX4_reads 15 = .ok (.getfield 96, 3) := by decide +kernel
theorem dX4_reads_18 : decode cX4_reads 18 = .ok (.iconst 2, 1) := by decide +kernel
theorem dX4_reads_19 : decode cX4_reads 19 = .ok (.if_icmp .ne 22, 3) := by decide +kernel
theorem dX4_reads_22 : decode cX4_reads 22 = .ok (.aload_n 0, 1) := by decide +kernel
theorem dX4_reads_23 : decode cX4_reads 23 = .ok (.getfield 93, 3) := by decide +kernel
theorem dX4_reads_26 : decode cX4_reads 26 = .ok (.i2l, 1) := by decide +kernel
theorem dX4_reads_27 : decode cX4_reads 27 = .ok (.iload_n 2, 1) := by decide +kernel
theorem dX4_reads_28 : decode cX4_reads 28 = .ok (.i2l, 1) := by decide +kernel
theorem dX4_reads_29 : decode cX4_reads 29 = .ok (.iload_n 3, 1) := by decide +kernel
theorem dX4_reads_30 : decode cX4_reads 30 = .ok (.i2l, 1) := by decide +kernel
theorem dX4_reads_31 : decode cX4_reads 31 = .ok (.invokestatic 52, 3) := by decide +kernel
theorem dX4_reads_34 : decode cX4_reads 34 = .ok (.ifCond .eq 7, 3) := by decide +kernel
theorem dX4_reads_37 : decode cX4_reads 37 = .ok (.iconst 1, 1) := by decide +kernel
theorem dX4_reads_38 : decode cX4_reads 38 = .ok (.goto 4, 3) := by decide +kernel
theorem dX4_reads_41 : decode cX4_reads 41 = .ok (.iconst 0, 1) := by decide +kernel
theorem dX4_reads_42 : decode cX4_reads 42 = .ok (.ireturn, 1) := by decide +kernel
theorem dX4_readItem_0 : decode cX4_readItem 0 = .ok (.iload_n 1, 1) := by decide +kernel
theorem dX4_readItem_1 : decode cX4_readItem 1 = .ok (.ifCond .ne 73, 3) := by decide +kernel
theorem dX4_readItem_4 : decode cX4_readItem 4 = .ok (.aload_n 0, 1) := by decide +kernel
theorem dX4_readItem_5 : decode cX4_readItem 5 = .ok (.bipush 115, 2) := by decide +kernel
theorem dX4_readItem_7 : decode cX4_readItem 7 = .ok (.bipush 97, 2) := by decide +kernel
theorem dX4_readItem_9 : decode cX4_readItem 9 = .ok (.bipush 102, 2) := by decide +kernel
theorem dX4_readItem_11 : decode cX4_readItem 11 = .ok (.bipush 101, 2) := by decide +kernel
theorem dX4_readItem_13 : decode cX4_readItem 13 = .ok (.iconst 0, 1) := by decide +kernel
theorem dX4_readItem_14 : decode cX4_readItem 14 = .ok (.iconst 0, 1) := by decide +kernel
theorem dX4_readItem_15 : decode cX4_readItem 15 = .ok (.invokevirtual 110, 3) := by decide +kernel
theorem dX4_readItem_18 : decode cX4_readItem 18 = .ok (.ifCond .eq 28, 3) := by decide +kernel
theorem dX4_readItem_21 : decode cX4_readItem 21 = .ok (.aload_n 0, 1) := by decide +kernel
theorem dX4_readItem_22 : decode cX4_readItem 22 = .ok (.iconst 0, 1) := by decide +kernel
theorem dX4_readItem_23 : decode cX4_readItem 23 = .ok (.iconst 0, 1) := by decide +kernel
theorem dX4_readItem_24 : decode cX4_readItem 24 = .ok (.bipush 96, 2) := by decide +kernel
theorem dX4_readItem_26 : decode cX4_readItem 26 = .ok (.invokevirtual 114, 3) := by decide +kernel
theorem dX4_readItem_29 : decode cX4_readItem 29 = .ok (.ifCond .eq 17, 3) := by decide +kernel
theorem dX4_readItem_32 : decode cX4_readItem 32 = .ok (.aload_n 0, 1) := by decide +kernel
theorem dX4_readItem_33 : decode cX4_readItem 33 = .ok (.iconst 1, 1) := by decide +kernel
theorem dX4_readItem_34 : decode cX4_readItem 34 = .ok (.iconst 1, 1) := by decide +kernel
theorem dX4_readItem_35 : decode cX4_readItem 35 = .ok (.iconst 4, 1) := by decide +kernel
theorem dX4_readItem_36 : decode cX4_readItem 36 = .ok (.invokevirtual 114, 3) := by decide +kernel
theorem dX4_readItem_39 : decode cX4_readItem 39 = .ok (.ifCond .eq 7, 3) := by decide +kernel
theorem dX4_readItem_42 : decode cX4_readItem 42 = .ok (.iconst 1, 1) := by decide +kernel
theorem dX4_readItem_43 : decode cX4_readItem 43 = .ok (.goto 4, 3) := by decide +kernel
theorem dX4_readItem_46 : decode cX4_readItem 46 = .ok (.iconst 0, 1) := by decide +kernel
theorem dX4_readItem_47 : decode cX4_readItem 47 = .ok (.istore_n 3, 1) := by decide +kernel
theorem dX4_readItem_48 : decode cX4_readItem 48 = .ok (.iload_n 3, 1) := by decide +kernel
theorem dX4_readItem_49 : decode cX4_readItem 49 = .ok (.ifCond .eq 23, 3) := by decide +kernel
theorem dX4_readItem_52 : decode cX4_readItem 52 = .ok (.iload_n 2, 1) := by decide +kernel
theorem dX4_readItem_53 : decode cX4_readItem 53 = .ok (.ifCond .eq 19, 3) := by decide +kernel
theorem dX4_readItem_56 : decode cX4_readItem 56 = .ok (.aload_n 0, 1) := by decide +kernel
theorem dX4_readItem_57 : decode cX4_readItem 57 = .ok (.aload_n 0, 1) := by decide +kernel
theorem dX4_readItem_58 : decode cX4_readItem 58 = .ok (.getfield 23, 3) := by decide +kernel
theorem dX4_readItem_61 : decode cX4_readItem 61 = .ok (.iconst 0, 1) := by decide +kernel
theorem dX4_readItem_62 : decode cX4_readItem 62 = .ok (.iaload, 1) := by decide +kernel
theorem dX4_readItem_63 : decode cX4_readItem 63 = .ok (.aload_n 0, 1) := by decide +kernel
theorem dX4_readItem_64 : decode cX4_readItem 64 = .ok (.getfield 23, 3) := by decide +kernel
theorem dX4_readItem_67 : decode cX4_readItem 67 = .ok (.iconst 1, 1) := by decide +kernel
theorem dX4_readItem_68 : decode cX4_readItem 68 = .ok (.iaload, 1) := by decide +kernel
theorem dX4_readItem_69 : decode cX4_readItem 69 = .ok (.invokevirtual 48, 3) := by decide +kernel
theorem dX4_readItem_72 : decode cX4_readItem 72 = .ok (.iload_n 3, 1) := by decide +kernel
theorem dX4_readItem_73 : decode cX4_readItem 73 = .ok (.ireturn, 1) := by decide +kernel
theorem dX4_readItem_74 : decode cX4_readItem 74 = .ok (.aload_n 0, 1) := by decide +kernel
theorem dX4_readItem_75 : decode cX4_readItem 75 = .ok (.bipush 119, 2) := by decide +kernel
theorem dX4_readItem_77 : decode cX4_readItem 77 = .ok (.bipush 97, 2) := by decide +kernel
theorem dX4_readItem_79 : decode cX4_readItem 79 = .ok (.bipush 121, 2) := by decide +kernel
theorem dX4_readItem_81 : decode cX4_readItem 81 = .ok (.iconst 0, 1) := by decide +kernel
theorem dX4_readItem_82 : decode cX4_readItem 82 = .ok (.iconst 0, 1) := by decide +kernel
theorem dX4_readItem_83 : decode cX4_readItem 83 = .ok (.iconst 0, 1) := by decide +kernel
theorem dX4_readItem_84 : decode cX4_readItem 84 = .ok (.invokevirtual 110, 3) := by decide +kernel
theorem dX4_readItem_87 : decode cX4_readItem 87 = .ok (.ifCond .eq 61, 3) := by decide +kernel
theorem dX4_readItem_90 : decode cX4_readItem 90 = .ok (.aload_n 0, 1) := by decide +kernel
theorem dX4_readItem_91 : decode cX4_readItem 91 = .ok (.iconst 0, 1) := by decide +kernel
theorem dX4_readItem_92 : decode cX4_readItem 92 = .ok (.iconst 1, 1) := by decide +kernel
theorem dX4_readItem_93 : decode cX4_readItem 93 = .ok (.iconst 3, 1) := by decide +kernel
theorem dX4_readItem_94 : decode cX4_readItem 94 = .ok (.invokevirtual 114, 3) := by decide +kernel
theorem dX4_readItem_97 : decode cX4_readItem 97 = .ok (.ifCond .eq 18, 3) := by decide +kernel
theorem dX4_readItem_100 : decode cX4_readItem 100 = .ok (.aload_n 0, 1) := by decide +kernel
theorem dX4_readItem_101 : decode cX4_readItem 101 = .ok (.iconst 1, 1) := by decide +kernel
theorem dX4_readItem_102 : decode cX4_readItem 102 = .ok (.iconst 0, 1) := by decide +kernel
theorem dX4_readItem_103 : decode cX4_readItem 103 = .ok (.bipush 96, 2) := by decide +kernel
theorem dX4_readItem_105 : decode cX4_readItem 105 = .ok (.invokevirtual 114, 3) := by decide +kernel
theorem dX4_readItem_108 : decode cX4_readItem 108 = .ok (.ifCond .eq 7, 3) := by decide +kernel
theorem dX4_readItem_111 : decode cX4_readItem 111 = .ok (.iconst 1, 1) := by decide +kernel
theorem dX4_readItem_112 : decode cX4_readItem 112 = .ok (.goto 4, 3) := by decide +kernel
theorem dX4_readItem_115 : decode cX4_readItem 115 = .ok (.iconst 0, 1) := by decide +kernel
theorem dX4_readItem_116 : decode cX4_readItem 116 = .ok (.istore_n 3, 1) := by decide +kernel
theorem dX4_readItem_117 : decode cX4_readItem 117 = .ok (.iload_n 3, 1) := by decide +kernel
theorem dX4_readItem_118 : decode cX4_readItem 118 = .ok (.ifCond .eq 28, 3) := by decide +kernel
theorem dX4_readItem_121 : decode cX4_readItem 121 = .ok (.iload_n 2, 1) := by decide +kernel
theorem dX4_readItem_122 : decode cX4_readItem 122 = .ok (.ifCond .eq 24, 3) := by decide +kernel
theorem dX4_readItem_125 : decode cX4_readItem 125 = .ok (.aload_n 0, 1) := by decide +kernel
theorem dX4_readItem_126 : decode cX4_readItem 126 = .ok (.getfield 7, 3) := by decide +kernel
theorem dX4_readItem_129 : decode cX4_readItem 129 = .ok (.iconst 2, 1) := by decide +kernel
theorem dX4_readItem_130 : decode cX4_readItem 130 = .ok (.aload_n 0, 1) := by decide +kernel
theorem dX4_readItem_131 : decode cX4_readItem 131 = .ok (.getfield 23, 3) := by decide +kernel
theorem dX4_readItem_134 : decode cX4_readItem 134 = .ok (.iconst 0, 1) := by decide +kernel
theorem dX4_readItem_135 : decode cX4_readItem 135 = .ok (.iaload, 1) := by decide +kernel
theorem dX4_readItem_136 : decode cX4_readItem 136 = .ok (.iadd, 1) := by decide +kernel
theorem dX4_readItem_137 : decode cX4_readItem 137 = .ok (.iconst 1, 1) := by decide +kernel
theorem dX4_readItem_138 : decode cX4_readItem 138 = .ok (.isub, 1) := by decide +kernel
theorem dX4_readItem_139 : decode cX4_readItem 139 = .ok (.aload_n 0, 1) := by decide +kernel
theorem dX4_readItem_140 : decode cX4_readItem 140 = .ok (.getfield 23, 3) := by decide +kernel
theorem dX4_readItem_143 : decode cX4_readItem 143 = .ok (.iconst 1, 1) := by decide +kernel
theorem dX4_readItem_144 : decode cX4_readItem 144 = .ok (.iaload, 1) := by decide +kernel
theorem dX4_readItem_145 : decode cX4_readItem 145 = .ok (.iastore, 1) := by decide +kernel
theorem dX4_readItem_146 : decode cX4_readItem 146 = .ok (.iload_n 3, 1) := by decide +kernel
theorem dX4_readItem_147 : decode cX4_readItem 147 = .ok (.ireturn, 1) := by decide +kernel
theorem dX4_readItem_148 : decode cX4_readItem 148 = .ok (.aload_n 0, 1) := by decide +kernel
theorem dX4_readItem_149 : decode cX4_readItem 149 = .ok (.bipush 104, 2) := by decide +kernel
theorem dX4_readItem_151 : decode cX4_readItem 151 = .ok (.bipush 111, 2) := by decide +kernel
theorem dX4_readItem_153 : decode cX4_readItem 153 = .ok (.bipush 108, 2) := by decide +kernel
theorem dX4_readItem_155 : decode cX4_readItem 155 = .ok (.bipush 100, 2) := by decide +kernel
theorem dX4_readItem_157 : decode cX4_readItem 157 = .ok (.bipush 101, 2) := by decide +kernel
theorem dX4_readItem_159 : decode cX4_readItem 159 = .ok (.bipush 114, 2) := by decide +kernel
theorem dX4_readItem_161 : decode cX4_readItem 161 = .ok (.invokevirtual 110, 3) := by decide +kernel
theorem dX4_readItem_164 : decode cX4_readItem 164 = .ok (.ifCond .eq 37, 3) := by decide +kernel
theorem dX4_readItem_167 : decode cX4_readItem 167 = .ok (.aload_n 0, 1) := by decide +kernel
theorem dX4_readItem_168 : decode cX4_readItem 168 = .ok (.getfield 118, 3) := by decide +kernel
theorem dX4_readItem_171 : decode cX4_readItem 171 = .ok (.bipush 6, 2) := by decide +kernel
theorem dX4_readItem_173 : decode cX4_readItem 173 = .ok (.if_icmp .ge 28, 3) := by decide +kernel
theorem dX4_readItem_176 : decode cX4_readItem 176 = .ok (.aload_n 0, 1) := by decide +kernel
theorem dX4_readItem_177 : decode cX4_readItem 177 = .ok (.iconst 0, 1) := by decide +kernel
theorem dX4_readItem_178 : decode cX4_readItem 178 = .ok (.iconst 0, 1) := by decide +kernel
theorem dX4_readItem_179 : decode cX4_readItem 179 = .ok (.iconst 5, 1) := by decide +kernel
theorem dX4_readItem_180 : decode cX4_readItem 180 = .ok (.invokevirtual 114, 3) := by decide +kernel
theorem dX4_readItem_183 : decode cX4_readItem 183 = .ok (.ifCond .eq 18, 3) := by decide +kernel
theorem dX4_readItem_186 : decode cX4_readItem 186 = .ok (.aload_n 0, 1) := by decide +kernel
theorem dX4_readItem_187 : decode cX4_readItem 187 = .ok (.iconst 1, 1) := by decide +kernel
theorem dX4_readItem_188 : decode cX4_readItem 188 = .ok (.iconst 0, 1) := by decide +kernel
theorem dX4_readItem_189 : decode cX4_readItem 189 = .ok (.bipush 96, 2) := by decide +kernel
theorem dX4_readItem_191 : decode cX4_readItem 191 = .ok (.invokevirtual 114, 3) := by decide +kernel
theorem dX4_readItem_194 : decode cX4_readItem 194 = .ok (.ifCond .eq 7, 3) := by decide +kernel
theorem dX4_readItem_197 : decode cX4_readItem 197 = .ok (.iconst 1, 1) := by decide +kernel
theorem dX4_readItem_198 : decode cX4_readItem 198 = .ok (.goto 4, 3) := by decide +kernel
theorem dX4_readItem_201 : decode cX4_readItem 201 = .ok (.iconst 0, 1) := by decide +kernel
theorem dX4_readItem_202 : decode cX4_readItem 202 = .ok (.istore_n 3, 1) := by decide +kernel
theorem dX4_readItem_203 : decode cX4_readItem 203 = .ok (.aload_n 0, 1) := by decide +kernel
theorem dX4_readItem_204 : decode cX4_readItem 204 = .ok (.dup, 1) := by decide +kernel
theorem dX4_readItem_205 : decode cX4_readItem 205 = .ok (.getfield 118, 3) := by decide +kernel
theorem dX4_readItem_208 : decode cX4_readItem 208 = .ok (.iconst 1, 1) := by decide +kernel
theorem dX4_readItem_209 : decode cX4_readItem 209 = .ok (.iadd, 1) := by decide +kernel
theorem dX4_readItem_210 : decode cX4_readItem 210 = .ok (.putfield 118, 3) := by decide +kernel
theorem dX4_readItem_213 : decode cX4_readItem 213 = .ok (.iload_n 3, 1) := by decide +kernel
theorem dX4_readItem_214 : decode cX4_readItem 214 = .ok (.ifCond .eq 23, 3) := by decide +kernel
theorem dX4_readItem_217 : decode cX4_readItem 217 = .ok (.iload_n 2, 1) := by decide +kernel
theorem dX4_readItem_218 : decode cX4_readItem 218 = .ok (.ifCond .eq 19, 3) := by decide +kernel
theorem dX4_readItem_221 : decode cX4_readItem 221 = .ok (.aload_n 0, 1) := by decide +kernel
theorem dX4_readItem_222 : decode cX4_readItem 222 = .ok (.aload_n 0, 1) := by decide +kernel
theorem dX4_readItem_223 : decode cX4_readItem 223 = .ok (.getfield 23, 3) := by decide +kernel
theorem dX4_readItem_226 : decode cX4_readItem 226 = .ok (.iconst 0, 1) := by decide +kernel
theorem dX4_readItem_227 : decode cX4_readItem 227 = .ok (.iaload, 1) := by decide +kernel
theorem dX4_readItem_228 : decode cX4_readItem 228 = .ok (.aload_n 0, 1) := by decide +kernel
theorem dX4_readItem_229 : decode cX4_readItem 229 = .ok (.getfield 23, 3) := by decide +kernel
theorem dX4_readItem_232 : decode cX4_readItem 232 = .ok (.iconst 1, 1) := by decide +kernel
theorem dX4_readItem_233 : decode cX4_readItem 233 = .ok (.iaload, 1) := by decide +kernel
theorem dX4_readItem_234 : decode cX4_readItem 234 = .ok (.invokevirtual 73, 3) := by decide +kernel
theorem dX4_readItem_237 : decode cX4_readItem 237 = .ok (.iload_n 3, 1) := by decide +kernel
theorem dX4_readItem_238 : decode cX4_readItem 238 = .ok (.ireturn, 1) := by decide +kernel
theorem dX4_readText_0 : decode cX4_readText 0 = .ok (.aload_n 0, 1) := by decide +kernel
theorem dX4_readText_1 : decode cX4_readText 1 = .ok (.iconst 0, 1) := by decide +kernel
theorem dX4_readText_2 : decode cX4_readText 2 = .ok (.putfield 83, 3) := by decide +kernel
theorem dX4_readText_5 : decode cX4_readText 5 = .ok (.aload_n 0, 1) := by decide +kernel
theorem dX4_readText_6 : decode cX4_readText 6 = .ok (.iconst 0, 1) := by decide +kernel
theorem dX4_readText_7 : decode cX4_readText 7 = .ok (.putfield 118, 3) := by decide +kernel
theorem dX4_readText_10 : decode cX4_readText 10 = .ok (.iconst 0, 1) := by decide +kernel
theorem dX4_readText_11 : decode cX4_readText 11 = .ok (.istore_n 2, 1) := by decide +kernel
theorem dX4_readText_12 : decode cX4_readText 12 = .ok (.aload_n 0, 1) := by decide +kernel
theorem dX4_readText_13 : decode cX4_readText 13 = .ok (.invokevirtual 107, 3) := by decide +kernel
theorem dX4_readText_16 : decode cX4_readText 16 = .ok (.iload_n 2, 1) := by decide +kernel
theorem dX4_readText_17 : decode cX4_readText 17 = .ok (.ifCond .eq 11, 3) := by decide +kernel
theorem dX4_readText_20 : decode cX4_readText 20 = .ok (.aload_n 0, 1) := by decide +kernel
theorem dX4_readText_21 : decode cX4_readText 21 = .ok (.getfield 96, 3) := by decide +kernel
theorem dX4_readText_24 : decode cX4_readText 24 = .ok (.iconst 3, 1) := by decide +kernel
theorem dX4_readText_25 : decode cX4_readText 25 = .ok (.if_icmp .eq 38, 3) := by decide +kernel
theorem dX4_readText_28 : decode cX4_readText 28 = .ok (.aload_n 0, 1) := by decide +kernel
theorem dX4_readText_29 : decode cX4_readText 29 = .ok (.iload_n 2, 1) := by decide +kernel
theorem dX4_readText_30 : decode cX4_readText 30 = .ok (.iload_n 1, 1) := by decide +kernel
theorem dX4_readText_31 : decode cX4_readText 31 = .ok (.invokevirtual 121, 3) := by decide +kernel
theorem dX4_readText_34 : decode cX4_readText 34 = .ok (.ifCond .ne 5, 3) := by decide +kernel
theorem dX4_readText_37 : decode cX4_readText 37 = .ok (.iconst (-1), 1) := by decide +kernel
theorem dX4_readText_38 : decode cX4_readText 38 = .ok (.ireturn, 1) := by decide +kernel
theorem dX4_readText_39 : decode cX4_readText 39 = .ok (.aload_n 0, 1) := by decide +kernel
theorem dX4_readText_40 : decode cX4_readText 40 = .ok (.invokevirtual 107, 3) := by decide +kernel
theorem dX4_readText_43 : decode cX4_readText 43 = .ok (.aload_n 0, 1) := by decide +kernel
theorem dX4_readText_44 : decode cX4_readText 44 = .ok (.getfield 96, 3) := by decide +kernel
theorem dX4_readText_47 : decode cX4_readText 47 = .ok (.iconst 4, 1) := by decide +kernel
theorem dX4_readText_48 : decode cX4_readText 48 = .ok (.if_icmp .eq 5, 3) := by decide +kernel
theorem dX4_readText_51 : decode cX4_readText 51 = .ok (.iconst (-1), 1) := by decide +kernel
theorem dX4_readText_52 : decode cX4_readText 52 = .ok (.ireturn, 1) := by decide +kernel
theorem dX4_readText_53 : decode cX4_readText 53 = .ok (.iinc 2 1, 3) := by decide +kernel
theorem dX4_readText_56 : decode cX4_readText 56 = .ok (.aload_n 0, 1) := by decide +kernel
theorem dX4_readText_57 : decode cX4_readText 57 = .ok (.invokevirtual 107, 3) := by decide +kernel
theorem dX4_readText_60 : decode cX4_readText 60 = .ok (.goto (-44), 3) := by decide +kernel
theorem dX4_readText_63 : decode cX4_readText 63 = .ok (.iload_n 2, 1) := by decide +kernel
theorem dX4_readText_64 : decode cX4_readText 64 = .ok (.ireturn, 1) := by decide +kernel
theorem dX4_read_0 : decode cX4_read 0 = .ok (.aload_n 0, 1) := by decide +kernel
theorem dX4_read_1 : decode cX4_read 1 = .ok (.iconst 0, 1) := by decide +kernel
theorem dX4_read_2 : decode cX4_read 2 = .ok (.invokevirtual 125, 3) := by decide +kernel
theorem dX4_read_5 : decode cX4_read 5 = .ok (.ifCond .ge 11, 3) := by decide +kernel
theorem dX4_read_8 : decode cX4_read 8 = .ok (.bipush (-10), 2) := by decide +kernel
theorem dX4_read_10 : decode cX4_read 10 = .ok (.aload_n 0, 1) := by decide +kernel
theorem dX4_read_11 : decode cX4_read 11 = .ok (.getfield 90, 3) := by decide +kernel
theorem dX4_read_14 : decode cX4_read 14 = .ok (.isub, 1) := by decide +kernel
theorem dX4_read_15 : decode cX4_read 15 = .ok (.ireturn, 1) := by decide +kernel
theorem dX4_read_16 : decode cX4_read 16 = .ok (.aload_n 0, 1) := by decide +kernel
theorem dX4_read_17 : decode cX4_read 17 = .ok (.iconst 1, 1) := by decide +kernel
theorem dX4_read_18 : decode cX4_read 18 = .ok (.invokevirtual 125, 3) := by decide +kernel
theorem dX4_read_21 : decode cX4_read 21 = .ok (.ireturn, 1) := by decide +kernel
theorem dX4_shareOf_0 : decode cX4_shareOf 0 = .ok (.iload_n 3, 1) := by decide +kernel
theorem dX4_shareOf_1 : decode cX4_shareOf 1 = .ok (.iconst 1, 1) := by decide +kernel
theorem dX4_shareOf_2 : decode cX4_shareOf 2 = .ok (.iadd, 1) := by decide +kernel
theorem dX4_shareOf_3 : decode cX4_shareOf 3 = .ok (.istore 4, 2) := by decide +kernel
theorem dX4_shareOf_5 : decode cX4_shareOf 5 = .ok (.iconst 1, 1) := by decide +kernel
theorem dX4_shareOf_6 : decode cX4_shareOf 6 = .ok (.istore 5, 2) := by decide +kernel
theorem dX4_shareOf_8 : decode cX4_shareOf 8 = .ok (.aload_n 1, 1) := by decide +kernel
theorem dX4_shareOf_9 : decode cX4_shareOf 9 = .ok (.iload_n 2, 1) := by decide +kernel
theorem dX4_shareOf_10 : decode cX4_shareOf 10 = .ok (.iconst 0, 1) := by decide +kernel
theorem dX4_shareOf_11 : decode cX4_shareOf 11 = .ok (.iadd, 1) := by decide +kernel
theorem dX4_shareOf_12 : decode cX4_shareOf 12 = .ok (.iaload, 1) := by decide +kernel
theorem dX4_shareOf_13 : decode cX4_shareOf 13 = .ok (.istore 6, 2) := by decide +kernel
theorem dX4_shareOf_15 : decode cX4_shareOf 15 = .ok (.iconst 1, 1) := by decide +kernel
theorem dX4_shareOf_16 : decode cX4_shareOf 16 = .ok (.istore 7, 2) := by decide +kernel
theorem dX4_shareOf_18 : decode cX4_shareOf 18 = .ok (.iload 7, 2) := by decide +kernel
theorem dX4_shareOf_20 : decode cX4_shareOf 20 = .ok (.aload_n 1, 1) := by decide +kernel
theorem dX4_shareOf_21 : decode cX4_shareOf 21 = .ok (.iload_n 2, 1) := by decide +kernel
theorem dX4_shareOf_22 : decode cX4_shareOf 22 = .ok (.iconst 1, 1) := by decide +kernel
theorem dX4_shareOf_23 : decode cX4_shareOf 23 = .ok (.iadd, 1) := by decide +kernel
theorem dX4_shareOf_24 : decode cX4_shareOf 24 = .ok (.iaload, 1) := by decide +kernel
theorem dX4_shareOf_25 : decode cX4_shareOf 25 = .ok (.if_icmp .ge 40, 3) := by decide +kernel
theorem dX4_shareOf_28 : decode cX4_shareOf 28 = .ok (.iload 5, 2) := by decide +kernel
theorem dX4_shareOf_30 : decode cX4_shareOf 30 = .ok (.iload 4, 2) := by decide +kernel
theorem dX4_shareOf_32 : decode cX4_shareOf 32 = .ok (.imul, 1) := by decide +kernel
theorem dX4_shareOf_33 : decode cX4_shareOf 33 = .ok (.bipush 97, 2) := by decide +kernel
theorem dX4_shareOf_35 : decode cX4_shareOf 35 = .ok (.irem, 1) := by decide +kernel
theorem dX4_shareOf_36 : decode cX4_shareOf 36 = .ok (.istore 5, 2) := by decide +kernel
theorem dX4_shareOf_38 : decode cX4_shareOf 38 = .ok (.iload 6, 2) := by decide +kernel
theorem dX4_shareOf_40 : decode cX4_shareOf 40 = .ok (.aload_n 1, 1) := by decide +kernel
theorem dX4_shareOf_41 : decode cX4_shareOf 41 = .ok (.iload_n 2, 1) := by decide +kernel
theorem dX4_shareOf_42 : decode cX4_shareOf 42 = .ok (.iconst 2, 1) := by decide +kernel
theorem dX4_shareOf_43 : decode cX4_shareOf 43 = .ok (.iadd, 1) := by decide +kernel
theorem dX4_shareOf_44 : decode cX4_shareOf 44 = .ok (.iload 7, 2) := by decide +kernel
theorem dX4_shareOf_46 : decode cX4_shareOf 46 = .ok (.iadd, 1) := by decide +kernel
theorem dX4_shareOf_47 : decode cX4_shareOf 47 = .ok (.iconst 1, 1) := by decide +kernel
theorem dX4_shareOf_48 : decode cX4_shareOf 48 = .ok (.isub, 1) := by decide +kernel
theorem dX4_shareOf_49 : decode cX4_shareOf 49 = .ok (.iaload, 1) := by decide +kernel
theorem dX4_shareOf_50 : decode cX4_shareOf 50 = .ok (.iload 5, 2) := by decide +kernel
theorem dX4_shareOf_52 : decode cX4_shareOf 52 = .ok (.imul, 1) := by decide +kernel
theorem dX4_shareOf_53 : decode cX4_shareOf 53 = .ok (.iadd, 1) := by decide +kernel
theorem dX4_shareOf_54 : decode cX4_shareOf 54 = .ok (.bipush 97, 2) := by decide +kernel
theorem dX4_shareOf_56 : decode cX4_shareOf 56 = .ok (.irem, 1) := by decide +kernel
theorem dX4_shareOf_57 : decode cX4_shareOf 57 = .ok (.istore 6, 2) := by decide +kernel
theorem dX4_shareOf_59 : decode cX4_shareOf 59 = .ok (.iinc 7 1, 3) := by decide +kernel
theorem dX4_shareOf_62 : decode cX4_shareOf 62 = .ok (.goto (-44), 3) := by decide +kernel
theorem dX4_shareOf_65 : decode cX4_shareOf 65 = .ok (.iload 6, 2) := by decide +kernel
theorem dX4_shareOf_67 : decode cX4_shareOf 67 = .ok (.ireturn, 1) := by decide +kernel
theorem dX4_toldOf_0 : decode cX4_toldOf 0 = .ok (.aload_n 0, 1) := by decide +kernel
theorem dX4_toldOf_1 : decode cX4_toldOf 1 = .ok (.getfield 7, 3) := by decide +kernel
theorem dX4_toldOf_4 : decode cX4_toldOf 4 = .ok (.bipush 9, 2) := by decide +kernel
theorem dX4_toldOf_6 : decode cX4_toldOf 6 = .ok (.iload_n 1, 1) := by decide +kernel
theorem dX4_toldOf_7 : decode cX4_toldOf 7 = .ok (.iadd, 1) := by decide +kernel
theorem dX4_toldOf_8 : decode cX4_toldOf 8 = .ok (.iaload, 1) := by decide +kernel
theorem dX4_toldOf_9 : decode cX4_toldOf 9 = .ok (.istore 5, 2) := by decide +kernel
theorem dX4_toldOf_11 : decode cX4_toldOf 11 = .ok (.aload_n 0, 1) := by decide +kernel
theorem dX4_toldOf_12 : decode cX4_toldOf 12 = .ok (.getfield 7, 3) := by decide +kernel
theorem dX4_toldOf_15 : decode cX4_toldOf 15 = .ok (.bipush 15, 2) := by decide +kernel
theorem dX4_toldOf_17 : decode cX4_toldOf 17 = .ok (.iload_n 1, 1) := by decide +kernel
theorem dX4_toldOf_18 : decode cX4_toldOf 18 = .ok (.iadd, 1) := by decide +kernel
theorem dX4_toldOf_19 : decode cX4_toldOf 19 = .ok (.iaload, 1) := by decide +kernel
theorem dX4_toldOf_20 : decode cX4_toldOf 20 = .ok (.istore 6, 2) := by decide +kernel
theorem dX4_toldOf_22 : decode cX4_toldOf 22 = .ok (.iload 5, 2) := by decide +kernel
theorem dX4_toldOf_24 : decode cX4_toldOf 24 = .ok (.iconst 1, 1) := by decide +kernel
theorem dX4_toldOf_25 : decode cX4_toldOf 25 = .ok (.if_icmp .eq 9, 3) := by decide +kernel
theorem dX4_toldOf_28 : decode cX4_toldOf 28 = .ok (.iload 5, 2) := by decide +kernel
theorem dX4_toldOf_30 : decode cX4_toldOf 30 = .ok (.iconst 4, 1) := by decide +kernel
theorem dX4_toldOf_31 : decode cX4_toldOf 31 = .ok (.if_icmp .ne 45, 3) := by decide +kernel
theorem dX4_toldOf_34 : decode cX4_toldOf 34 = .ok (.iload_n 3, 1) := by decide +kernel
theorem dX4_toldOf_35 : decode cX4_toldOf 35 = .ok (.iload 6, 2) := by decide +kernel
theorem dX4_toldOf_37 : decode cX4_toldOf 37 = .ok (.iconst 5, 1) := by decide +kernel
theorem dX4_toldOf_38 : decode cX4_toldOf 38 = .ok (.irem, 1) := by decide +kernel
theorem dX4_toldOf_39 : decode cX4_toldOf 39 = .ok (.iconst 2, 1) := by decide +kernel
theorem dX4_toldOf_40 : decode cX4_toldOf 40 = .ok (.iadd, 1) := by decide +kernel
theorem dX4_toldOf_41 : decode cX4_toldOf 41 = .ok (.irem, 1) := by decide +kernel
theorem dX4_toldOf_42 : decode cX4_toldOf 42 = .ok (.ifCond .eq 16, 3) := by decide +kernel
theorem dX4_toldOf_45 : decode cX4_toldOf 45 = .ok (.iload 5, 2) := by decide +kernel
theorem dX4_toldOf_47 : decode cX4_toldOf 47 = .ok (.iconst 4, 1) := by decide +kernel
theorem dX4_toldOf_48 : decode cX4_toldOf 48 = .ok (.if_icmp .ne 14, 3) := by decide +kernel
theorem dX4_toldOf_51 : decode cX4_toldOf 51 = .ok (.iload_n 3, 1) := by decide +kernel
theorem dX4_toldOf_52 : decode cX4_toldOf 52 = .ok (.iconst 2, 1) := by decide +kernel
theorem dX4_toldOf_53 : decode cX4_toldOf 53 = .ok (.irem, 1) := by decide +kernel
theorem dX4_toldOf_54 : decode cX4_toldOf 54 = .ok (.iconst 1, 1) := by decide +kernel
theorem dX4_toldOf_55 : decode cX4_toldOf 55 = .ok (.if_icmp .ne 7, 3) := by decide +kernel
theorem dX4_toldOf_58 : decode cX4_toldOf 58 = .ok (.iconst 1, 1) := by decide +kernel
theorem dX4_toldOf_59 : decode cX4_toldOf 59 = .ok (.goto 4, 3) := by decide +kernel
theorem dX4_toldOf_62 : decode cX4_toldOf 62 = .ok (.iconst 0, 1) := by decide +kernel
theorem dX4_toldOf_63 : decode cX4_toldOf 63 = .ok (.istore 7, 2) := by decide +kernel
theorem dX4_toldOf_65 : decode cX4_toldOf 65 = .ok (.iload 7, 2) := by decide +kernel
theorem dX4_toldOf_67 : decode cX4_toldOf 67 = .ok (.ifCond .eq 7, 3) := by decide +kernel
theorem dX4_toldOf_70 : decode cX4_toldOf 70 = .ok (.iconst (-1), 1) := by decide +kernel
theorem dX4_toldOf_71 : decode cX4_toldOf 71 = .ok (.goto 4, 3) := by decide +kernel
theorem dX4_toldOf_74 : decode cX4_toldOf 74 = .ok (.iload_n 2, 1) := by decide +kernel
theorem dX4_toldOf_75 : decode cX4_toldOf 75 = .ok (.ireturn, 1) := by decide +kernel
theorem dX4_toldOf_76 : decode cX4_toldOf 76 = .ok (.iload 5, 2) := by decide +kernel
theorem dX4_toldOf_78 : decode cX4_toldOf 78 = .ok (.ifCond .eq 15, 3) := by decide +kernel
theorem dX4_toldOf_81 : decode cX4_toldOf 81 = .ok (.iload 5, 2) := by decide +kernel
theorem dX4_toldOf_83 : decode cX4_toldOf 83 = .ok (.iconst 3, 1) := by decide +kernel
theorem dX4_toldOf_84 : decode cX4_toldOf 84 = .ok (.if_icmp .ne 11, 3) := by decide +kernel
theorem dX4_toldOf_87 : decode cX4_toldOf 87 = .ok (.iload 4, 2) := by decide +kernel
theorem dX4_toldOf_89 : decode cX4_toldOf 89 = .ok (.iconst 2, 1) := by decide +kernel
theorem dX4_toldOf_90 : decode cX4_toldOf 90 = .ok (.if_icmp .le 5, 3) := by decide +kernel
theorem dX4_toldOf_93 : decode cX4_toldOf 93 = .ok (.iload_n 2, 1) := by decide +kernel
theorem dX4_toldOf_94 : decode cX4_toldOf 94 = .ok (.ireturn, 1) := by decide +kernel
theorem dX4_toldOf_95 : decode cX4_toldOf 95 = .ok (.iload_n 2, 1) := by decide +kernel
theorem dX4_toldOf_96 : decode cX4_toldOf 96 = .ok (.iload 6, 2) := by decide +kernel
theorem dX4_toldOf_98 : decode cX4_toldOf 98 = .ok (.iadd, 1) := by decide +kernel
theorem dX4_toldOf_99 : decode cX4_toldOf 99 = .ok (.iload 5, 2) := by decide +kernel
theorem dX4_toldOf_101 : decode cX4_toldOf 101 = .ok (.iconst 5, 1) := by decide +kernel
theorem dX4_toldOf_102 : decode cX4_toldOf 102 = .ok (.if_icmp .ne 7, 3) := by decide +kernel
theorem dX4_toldOf_105 : decode cX4_toldOf 105 = .ok (.iload_n 3, 1) := by decide +kernel
theorem dX4_toldOf_106 : decode cX4_toldOf 106 = .ok (.goto 4, 3) := by decide +kernel
theorem dX4_toldOf_109 : decode cX4_toldOf 109 = .ok (.iconst 0, 1) := by decide +kernel
theorem dX4_toldOf_110 : decode cX4_toldOf 110 = .ok (.iadd, 1) := by decide +kernel
theorem dX4_toldOf_111 : decode cX4_toldOf 111 = .ok (.bipush 97, 2) := by decide +kernel
theorem dX4_toldOf_113 : decode cX4_toldOf 113 = .ok (.irem, 1) := by decide +kernel
theorem dX4_toldOf_114 : decode cX4_toldOf 114 = .ok (.ireturn, 1) := by decide +kernel
theorem dX4_inverse_0 : decode cX4_inverse 0 = .ok (.iconst 1, 1) := by decide +kernel
theorem dX4_inverse_1 : decode cX4_inverse 1 = .ok (.istore_n 1, 1) := by decide +kernel
theorem dX4_inverse_2 : decode cX4_inverse 2 = .ok (.iconst 0, 1) := by decide +kernel
theorem dX4_inverse_3 : decode cX4_inverse 3 = .ok (.istore_n 2, 1) := by decide +kernel
theorem dX4_inverse_4 : decode cX4_inverse 4 = .ok (.iload_n 2, 1) := by decide +kernel
theorem dX4_inverse_5 : decode cX4_inverse 5 = .ok (.bipush 95, 2) := by decide +kernel
theorem dX4_inverse_7 : decode cX4_inverse 7 = .ok (.if_icmp .ge 16, 3) := by decide +kernel
theorem dX4_inverse_10 : decode cX4_inverse 10 = .ok (.iload_n 1, 1) := by decide +kernel
theorem dX4_inverse_11 : decode cX4_inverse 11 = .ok (.iload_n 0, 1) := by decide +kernel
theorem dX4_inverse_12 : decode cX4_inverse 12 = .ok (.imul, 1) := by decide +kernel
theorem dX4_inverse_13 : decode cX4_inverse 13 = .ok (.bipush 97, 2) := by decide +kernel
theorem dX4_inverse_15 : decode cX4_inverse 15 = .ok (.irem, 1) := by decide +kernel
theorem dX4_inverse_16 : decode cX4_inverse 16 = .ok (.istore_n 1, 1) := by decide +kernel
theorem dX4_inverse_17 : decode cX4_inverse 17 = .ok (.iinc 2 1, 3) := by decide +kernel
theorem dX4_inverse_20 : decode cX4_inverse 20 = .ok (.goto (-16), 3) := by decide +kernel
theorem dX4_inverse_23 : decode cX4_inverse 23 = .ok (.iload_n 1, 1) := by decide +kernel
theorem dX4_inverse_24 : decode cX4_inverse 24 = .ok (.ireturn, 1) := by decide +kernel
theorem dX4_pointMany_0 : decode cX4_pointMany 0 = .ok (.iconst 0, 1) := by decide +kernel
theorem dX4_pointMany_1 : decode cX4_pointMany 1 = .ok (.istore_n 1, 1) := by decide +kernel
theorem dX4_pointMany_2 : decode cX4_pointMany 2 = .ok (.iconst 0, 1) := by decide +kernel
theorem dX4_pointMany_3 : decode cX4_pointMany 3 = .ok (.istore_n 2, 1) := by decide +kernel
theorem dX4_pointMany_4 : decode cX4_pointMany 4 = .ok (.iload_n 2, 1) := by decide +kernel
theorem dX4_pointMany_5 : decode cX4_pointMany 5 = .ok (.bipush 6, 2) := by decide +kernel
theorem dX4_pointMany_7 : decode cX4_pointMany 7 = .ok (.if_icmp .ge 26, 3) := by decide +kernel
theorem dX4_pointMany_10 : decode cX4_pointMany 10 = .ok (.iload_n 1, 1) := by decide +kernel
theorem dX4_pointMany_11 : decode cX4_pointMany 11 = .ok (.aload_n 0, 1) := by decide +kernel
theorem dX4_pointMany_12 : decode cX4_pointMany 12 = .ok (.getfield 26, 3) := by decide +kernel
theorem dX4_pointMany_15 : decode cX4_pointMany 15 = .ok (.iload_n 2, 1) := by decide +kernel
theorem dX4_pointMany_16 : decode cX4_pointMany 16 = .ok (.iaload, 1) := by decide +kernel
theorem dX4_pointMany_17 : decode cX4_pointMany 17 = .ok (.ifCond .lt 7, 3) := by decide +kernel
theorem dX4_pointMany_20 : decode cX4_pointMany 20 = .ok (.iconst 1, 1) := by decide +kernel
theorem dX4_pointMany_21 : decode cX4_pointMany 21 = .ok (.goto 4, 3) := by decide +kernel
theorem dX4_pointMany_24 : decode cX4_pointMany 24 = .ok (.iconst 0, 1) := by decide +kernel
theorem dX4_pointMany_25 : decode cX4_pointMany 25 = .ok (.iadd, 1) := by decide +kernel
theorem dX4_pointMany_26 : decode cX4_pointMany 26 = .ok (.istore_n 1, 1) := by decide +kernel
theorem dX4_pointMany_27 : decode cX4_pointMany 27 = .ok (.iinc 2 1, 3) := by decide +kernel
theorem dX4_pointMany_30 : decode cX4_pointMany 30 = .ok (.goto (-26), 3) := by decide +kernel
theorem dX4_pointMany_33 : decode cX4_pointMany 33 = .ok (.iload_n 1, 1) := by decide +kernel
theorem dX4_pointMany_34 : decode cX4_pointMany 34 = .ok (.ireturn, 1) := by decide +kernel
theorem dX4_valueAt_0 : decode cX4_valueAt 0 = .ok (.iconst 0, 1) := by decide +kernel
theorem dX4_valueAt_1 : decode cX4_valueAt 1 = .ok (.istore_n 2, 1) := by decide +kernel
theorem dX4_valueAt_2 : decode cX4_valueAt 2 = .ok (.iconst 0, 1) := by decide +kernel
theorem dX4_valueAt_3 : decode cX4_valueAt 3 = .ok (.istore_n 3, 1) := by decide +kernel
theorem dX4_valueAt_4 : decode cX4_valueAt 4 = .ok (.iload_n 3, 1) := by decide +kernel
theorem dX4_valueAt_5 : decode cX4_valueAt 5 = .ok (.bipush 6, 2) := by decide +kernel
theorem dX4_valueAt_7 : decode cX4_valueAt 7 = .ok (.if_icmp .ge 38, 3) := by decide +kernel
theorem dX4_valueAt_10 : decode cX4_valueAt 10 = .ok (.iload_n 2, 1) := by decide +kernel
theorem dX4_valueAt_11 : decode cX4_valueAt 11 = .ok (.aload_n 0, 1) := by decide +kernel
theorem dX4_valueAt_12 : decode cX4_valueAt 12 = .ok (.getfield 7, 3) := by decide +kernel
theorem dX4_valueAt_15 : decode cX4_valueAt 15 = .ok (.iconst 1, 1) := by decide +kernel
theorem dX4_valueAt_16 : decode cX4_valueAt 16 = .ok (.iaload, 1) := by decide +kernel
theorem dX4_valueAt_17 : decode cX4_valueAt 17 = .ok (.if_icmp .ge 28, 3) := by decide +kernel
theorem dX4_valueAt_20 : decode cX4_valueAt 20 = .ok (.aload_n 0, 1) := by decide +kernel
theorem dX4_valueAt_21 : decode cX4_valueAt 21 = .ok (.getfield 26, 3) := by decide +kernel
theorem dX4_valueAt_24 : decode cX4_valueAt 24 = .ok (.iload_n 3, 1) := by decide +kernel
theorem dX4_valueAt_25 : decode cX4_valueAt 25 = .ok (.iaload, 1) := by decide +kernel
theorem dX4_valueAt_26 : decode cX4_valueAt 26 = .ok (.ifCond .lt 13, 3) := by decide +kernel
theorem dX4_valueAt_29 : decode cX4_valueAt 29 = .ok (.aload_n 0, 1) := by decide +kernel
theorem dX4_valueAt_30 : decode cX4_valueAt 30 = .ok (.getfield 29, 3) := by decide +kernel
theorem dX4_valueAt_33 : decode cX4_valueAt 33 = .ok (.iload_n 2, 1) := by decide +kernel
theorem dX4_valueAt_34 : decode cX4_valueAt 34 = .ok (.iload_n 3, 1) := by decide +kernel
theorem dX4_valueAt_35 : decode cX4_valueAt 35 = .ok (.iastore, 1) := by decide +kernel
theorem dX4_valueAt_36 : decode cX4_valueAt 36 = .ok (.iinc 2 1, 3) := by decide +kernel
theorem dX4_valueAt_39 : decode cX4_valueAt 39 = .ok (.iinc 3 1, 3) := by decide +kernel
theorem dX4_valueAt_42 : decode cX4_valueAt 42 = .ok (.goto (-38), 3) := by decide +kernel
theorem dX4_valueAt_45 : decode cX4_valueAt 45 = .ok (.iconst 0, 1) := by decide +kernel
theorem dX4_valueAt_46 : decode cX4_valueAt 46 = .ok (.istore_n 3, 1) := by decide +kernel
theorem dX4_valueAt_47 : decode cX4_valueAt 47 = .ok (.iconst 0, 1) := by decide +kernel
theorem dX4_valueAt_48 : decode cX4_valueAt 48 = .ok (.istore 4, 2) := by decide +kernel
theorem dX4_valueAt_50 : decode cX4_valueAt 50 = .ok (.iload 4, 2) := by decide +kernel
theorem dX4_valueAt_52 : decode cX4_valueAt 52 = .ok (.iload_n 2, 1) := by decide +kernel
theorem dX4_valueAt_53 : decode cX4_valueAt 53 = .ok (.if_icmp .ge 114, 3) := by decide +kernel
theorem dX4_valueAt_56 : decode cX4_valueAt 56 = .ok (.aload_n 0, 1) := by decide +kernel
theorem dX4_valueAt_57 : decode cX4_valueAt 57 = .ok (.getfield 26, 3) := by decide +kernel
theorem dX4_valueAt_60 : decode cX4_valueAt 60 = .ok (.aload_n 0, 1) := by decide +kernel
theorem dX4_valueAt_61 : decode cX4_valueAt 61 = .ok (.getfield 29, 3) := by decide +kernel
theorem dX4_valueAt_64 : decode cX4_valueAt 64 = .ok (.iload 4, 2) := by decide +kernel
theorem dX4_valueAt_66 : decode cX4_valueAt 66 = .ok (.iaload, 1) := by decide +kernel
theorem dX4_valueAt_67 : decode cX4_valueAt 67 = .ok (.iaload, 1) := by decide +kernel
theorem dX4_valueAt_68 : decode cX4_valueAt 68 = .ok (.istore 5, 2) := by decide +kernel
theorem dX4_valueAt_70 : decode cX4_valueAt 70 = .ok (.iconst 0, 1) := by decide +kernel
theorem dX4_valueAt_71 : decode cX4_valueAt 71 = .ok (.istore 6, 2) := by decide +kernel
theorem dX4_valueAt_73 : decode cX4_valueAt 73 = .ok (.iload 6, 2) := by decide +kernel
theorem dX4_valueAt_75 : decode cX4_valueAt 75 = .ok (.iload_n 2, 1) := by decide +kernel
theorem dX4_valueAt_76 : decode cX4_valueAt 76 = .ok (.if_icmp .ge 77, 3) := by decide +kernel
theorem dX4_valueAt_79 : decode cX4_valueAt 79 = .ok (.iload 6, 2) := by decide +kernel
theorem dX4_valueAt_81 : decode cX4_valueAt 81 = .ok (.iload 4, 2) := by decide +kernel
theorem dX4_valueAt_83 : decode cX4_valueAt 83 = .ok (.if_icmp .eq 64, 3) := by decide +kernel
theorem dX4_valueAt_86 : decode cX4_valueAt 86 = .ok (.iload_n 1, 1) := by decide +kernel
theorem dX4_valueAt_87 : decode cX4_valueAt 87 = .ok (.aload_n 0, 1) := by decide +kernel
theorem dX4_valueAt_88 : decode cX4_valueAt 88 = .ok (.getfield 29, 3) := by decide +kernel
theorem dX4_valueAt_91 : decode cX4_valueAt 91 = .ok (.iload 6, 2) := by decide +kernel
theorem dX4_valueAt_93 : decode cX4_valueAt 93 = .ok (.iaload, 1) := by decide +kernel
theorem dX4_valueAt_94 : decode cX4_valueAt 94 = .ok (.isub, 1) := by decide +kernel
theorem dX4_valueAt_95 : decode cX4_valueAt 95 = .ok (.iconst 1, 1) := by decide +kernel
theorem dX4_valueAt_96 : decode cX4_valueAt 96 = .ok (.isub, 1) := by decide +kernel
theorem dX4_valueAt_97 : decode cX4_valueAt 97 = .ok (.bipush 97, 2) := by decide +kernel
theorem dX4_valueAt_99 : decode cX4_valueAt 99 = .ok (.iadd, 1) := by decide +kernel
theorem dX4_valueAt_100 : decode cX4_valueAt 100 = .ok (.bipush 97, 2) := by decide +kernel
theorem dX4_valueAt_102 : decode cX4_valueAt 102 = .ok (.irem, 1) := by decide +kernel
theorem dX4_valueAt_103 : decode cX4_valueAt 103 = .ok (.istore 7, 2) := by decide +kernel
theorem dX4_valueAt_105 : decode cX4_valueAt 105 = .ok (.aload_n 0, 1) := by decide +kernel
theorem dX4_valueAt_106 : decode cX4_valueAt 106 = .ok (.getfield 29, 3) := by decide +kernel
theorem dX4_valueAt_109 : decode cX4_valueAt 109 = .ok (.iload 4, 2) := by decide +kernel
theorem dX4_valueAt_111 : decode cX4_valueAt 111 = .ok (.iaload, 1) := by decide +kernel
theorem dX4_valueAt_112 : decode cX4_valueAt 112 = .ok (.aload_n 0, 1) := by decide +kernel
theorem dX4_valueAt_113 : decode cX4_valueAt 113 = .ok (.getfield 29, 3) := by decide +kernel
theorem dX4_valueAt_116 : decode cX4_valueAt 116 = .ok (.iload 6, 2) := by decide +kernel
theorem dX4_valueAt_118 : decode cX4_valueAt 118 = .ok (.iaload, 1) := by decide +kernel
theorem dX4_valueAt_119 : decode cX4_valueAt 119 = .ok (.isub, 1) := by decide +kernel
theorem dX4_valueAt_120 : decode cX4_valueAt 120 = .ok (.bipush 97, 2) := by decide +kernel
theorem dX4_valueAt_122 : decode cX4_valueAt 122 = .ok (.iadd, 1) := by decide +kernel
theorem dX4_valueAt_123 : decode cX4_valueAt 123 = .ok (.bipush 97, 2) := by decide +kernel
theorem dX4_valueAt_125 : decode cX4_valueAt 125 = .ok (.irem, 1) := by decide +kernel
theorem dX4_valueAt_126 : decode cX4_valueAt 126 = .ok (.istore 8, 2) := by decide +kernel
theorem dX4_valueAt_128 : decode cX4_valueAt 128 = .ok (.iload 5, 2) := by decide +kernel
theorem dX4_valueAt_130 : decode cX4_valueAt 130 = .ok (.iload 7, 2) := by decide +kernel
theorem dX4_valueAt_132 : decode cX4_valueAt 132 = .ok (.imul, 1) := by decide +kernel
theorem dX4_valueAt_133 : decode cX4_valueAt 133 = .ok (.bipush 97, 2) := by decide +kernel
theorem dX4_valueAt_135 : decode cX4_valueAt 135 = .ok (.irem, 1) := by decide +kernel
theorem dX4_valueAt_136 : decode cX4_valueAt 136 = .ok (.iload 8, 2) := by decide +kernel
theorem dX4_valueAt_138 : decode cX4_valueAt 138 = .ok (.invokestatic 129, 3) := by decide +kernel
theorem dX4_valueAt_141 : decode cX4_valueAt 141 = .ok (.imul, 1) := by decide +kernel
theorem dX4_valueAt_142 : decode cX4_valueAt 142 = .ok (.bipush 97, 2) := by decide +kernel
theorem dX4_valueAt_144 : decode cX4_valueAt 144 = .ok (.irem, 1) := by decide +kernel
theorem dX4_valueAt_145 : decode cX4_valueAt 145 = .ok (.istore 5, 2) := by decide +kernel
theorem dX4_valueAt_147 : decode cX4_valueAt 147 = .ok (.iinc 6 1, 3) := by decide +kernel
theorem dX4_valueAt_150 : decode cX4_valueAt 150 = .ok (.goto (-77), 3) := by decide +kernel
theorem dX4_valueAt_153 : decode cX4_valueAt 153 = .ok (.iload_n 3, 1) := by decide +kernel
theorem dX4_valueAt_154 : decode cX4_valueAt 154 = .ok (.iload 5, 2) := by decide +kernel
theorem dX4_valueAt_156 : decode cX4_valueAt 156 = .ok (.iadd, 1) := by decide +kernel
theorem dX4_valueAt_157 : decode cX4_valueAt 157 = .ok (.bipush 97, 2) := by decide +kernel
theorem dX4_valueAt_159 : decode cX4_valueAt 159 = .ok (.irem, 1) := by decide +kernel
theorem dX4_valueAt_160 : decode cX4_valueAt 160 = .ok (.istore_n 3, 1) := by decide +kernel
theorem dX4_valueAt_161 : decode cX4_valueAt 161 = .ok (.iinc 4 1, 3) := by decide +kernel
theorem dX4_valueAt_164 : decode cX4_valueAt 164 = .ok (.goto (-114), 3) := by decide +kernel
theorem dX4_valueAt_167 : decode cX4_valueAt 167 = .ok (.iload_n 3, 1) := by decide +kernel
theorem dX4_valueAt_168 : decode cX4_valueAt 168 = .ok (.ireturn, 1) := by decide +kernel
theorem dX4_found_0 : decode cX4_found 0 = .ok (.aload_n 0, 1) := by decide +kernel
theorem dX4_found_1 : decode cX4_found 1 = .ok (.invokevirtual 132, 3) := by decide +kernel
theorem dX4_found_4 : decode cX4_found 4 = .ok (.aload_n 0, 1) := by decide +kernel
theorem dX4_found_5 : decode cX4_found 5 = .ok (.getfield 7, 3) := by decide +kernel
theorem dX4_found_8 : decode cX4_found 8 = .ok (.iconst 1, 1) := by decide +kernel
theorem dX4_found_9 : decode cX4_found 9 = .ok (.iaload, 1) := by decide +kernel
theorem dX4_found_10 : decode cX4_found 10 = .ok (.if_icmp .ge 7, 3) := by decide +kernel
theorem dX4_found_13 : decode cX4_found 13 = .ok (.iconst (-1), 1) := by decide +kernel
theorem dX4_found_14 : decode cX4_found 14 = .ok (.goto 8, 3) := by decide +kernel
theorem dX4_found_17 : decode cX4_found 17 = .ok (.aload_n 0, 1) := by decide +kernel
theorem dX4_found_18 : decode cX4_found 18 = .ok (.iconst 0, 1) := by decide +kernel
theorem dX4_found_19 : decode cX4_found 19 = .ok (.invokevirtual 135, 3) := by decide +kernel
theorem dX4_found_22 : decode cX4_found 22 = .ok (.ireturn, 1) := by decide +kernel
theorem dX4_agrees_0 : decode cX4_agrees 0 = .ok (.iconst 1, 1) := by decide +kernel
theorem dX4_agrees_1 : decode cX4_agrees 1 = .ok (.istore_n 1, 1) := by decide +kernel
theorem dX4_agrees_2 : decode cX4_agrees 2 = .ok (.iconst 0, 1) := by decide +kernel
theorem dX4_agrees_3 : decode cX4_agrees 3 = .ok (.istore_n 2, 1) := by decide +kernel
theorem dX4_agrees_4 : decode cX4_agrees 4 = .ok (.iload_n 2, 1) := by decide +kernel
theorem dX4_agrees_5 : decode cX4_agrees 5 = .ok (.bipush 6, 2) := by decide +kernel
theorem dX4_agrees_7 : decode cX4_agrees 7 = .ok (.if_icmp .ge 44, 3) := by decide +kernel
theorem dX4_agrees_10 : decode cX4_agrees 10 = .ok (.iload_n 1, 1) := by decide +kernel
theorem dX4_agrees_11 : decode cX4_agrees 11 = .ok (.ifCond .eq 32, 3) := by decide +kernel
theorem dX4_agrees_14 : decode cX4_agrees 14 = .ok (.aload_n 0, 1) := by decide +kernel
theorem dX4_agrees_15 : decode cX4_agrees 15 = .ok (.getfield 26, 3) := by decide +kernel
theorem dX4_agrees_18 : decode cX4_agrees 18 = .ok (.iload_n 2, 1) := by decide +kernel
theorem dX4_agrees_19 : decode cX4_agrees 19 = .ok (.iaload, 1) := by decide +kernel
theorem dX4_agrees_20 : decode cX4_agrees 20 = .ok (.ifCond .lt 19, 3) := by decide +kernel
theorem dX4_agrees_23 : decode cX4_agrees 23 = .ok (.aload_n 0, 1) := by decide +kernel
theorem dX4_agrees_24 : decode cX4_agrees 24 = .ok (.iload_n 2, 1) := by decide +kernel
theorem dX4_agrees_25 : decode cX4_agrees 25 = .ok (.iconst 1, 1) := by decide +kernel
theorem dX4_agrees_26 : decode cX4_agrees 26 = .ok (.iadd, 1) := by decide +kernel
theorem dX4_agrees_27 : decode cX4_agrees 27 = .ok (.invokevirtual 135, 3) := by decide +kernel
theorem dX4_agrees_30 : decode cX4_agrees 30 = .ok (.aload_n 0, 1) := by decide +kernel
theorem dX4_agrees_31 : decode cX4_agrees 31 = .ok (.getfield 26, 3) := by decide +kernel
theorem dX4_agrees_34 : decode cX4_agrees 34 = .ok (.iload_n 2, 1) := by decide +kernel
theorem dX4_agrees_35 : decode cX4_agrees 35 = .ok (.iaload, 1) := by decide +kernel
theorem dX4_agrees_36 : decode cX4_agrees 36 = .ok (.if_icmp .ne 7, 3) := by decide +kernel
theorem dX4_agrees_39 : decode cX4_agrees 39 = .ok (.iconst 1, 1) := by decide +kernel
theorem dX4_agrees_40 : decode cX4_agrees 40 = .ok (.goto 4, 3) := by decide +kernel
theorem dX4_agrees_43 : decode cX4_agrees 43 = .ok (.iconst 0, 1) := by decide +kernel
theorem dX4_agrees_44 : decode cX4_agrees 44 = .ok (.istore_n 1, 1) := by decide +kernel
theorem dX4_agrees_45 : decode cX4_agrees 45 = .ok (.iinc 2 1, 3) := by decide +kernel
theorem dX4_agrees_48 : decode cX4_agrees 48 = .ok (.goto (-44), 3) := by decide +kernel
theorem dX4_agrees_51 : decode cX4_agrees 51 = .ok (.iload_n 1, 1) := by decide +kernel
theorem dX4_agrees_52 : decode cX4_agrees 52 = .ok (.ireturn, 1) := by decide +kernel
theorem dX4_tellAll_0 : decode cX4_tellAll 0 = .ok (.iload_n 1, 1) := by decide +kernel
theorem dX4_tellAll_1 : decode cX4_tellAll 1 = .ok (.invokestatic 138, 3) := by decide +kernel
theorem dX4_tellAll_4 : decode cX4_tellAll 4 = .ok (.istore_n 3, 1) := by decide +kernel
theorem dX4_tellAll_5 : decode cX4_tellAll 5 = .ok (.iconst 0, 1) := by decide +kernel
theorem dX4_tellAll_6 : decode cX4_tellAll 6 = .ok (.istore 4, 2) := by decide +kernel
theorem dX4_tellAll_8 : decode cX4_tellAll 8 = .ok (.iload 4, 2) := by decide +kernel
theorem dX4_tellAll_10 : decode cX4_tellAll 10 = .ok (.bipush 6, 2) := by decide +kernel
theorem dX4_tellAll_12 : decode cX4_tellAll 12 = .ok (.if_icmp .ge 48, 3) := by decide +kernel
theorem dX4_tellAll_15 : decode cX4_tellAll 15 = .ok (.aload_n 0, 1) := by decide +kernel
theorem dX4_tellAll_16 : decode cX4_tellAll 16 = .ok (.getfield 26, 3) := by decide +kernel
theorem dX4_tellAll_19 : decode cX4_tellAll 19 = .ok (.iload 4, 2) := by decide +kernel
theorem dX4_tellAll_21 : decode cX4_tellAll 21 = .ok (.iload_n 1, 1) := by decide +kernel
theorem dX4_tellAll_22 : decode cX4_tellAll 22 = .ok (.iload 4, 2) := by decide +kernel
theorem dX4_tellAll_24 : decode cX4_tellAll 24 = .ok (.invokestatic 141, 3) := by decide +kernel
theorem dX4_tellAll_27 : decode cX4_tellAll 27 = .ok (.ifCond .eq 25, 3) := by decide +kernel
theorem dX4_tellAll_30 : decode cX4_tellAll 30 = .ok (.aload_n 0, 1) := by decide +kernel
theorem dX4_tellAll_31 : decode cX4_tellAll 31 = .ok (.iload 4, 2) := by decide +kernel
theorem dX4_tellAll_33 : decode cX4_tellAll 33 = .ok (.aload_n 0, 1) := by decide +kernel
theorem dX4_tellAll_34 : decode cX4_tellAll 34 = .ok (.aload_n 0, 1) := by decide +kernel
theorem dX4_tellAll_35 : decode cX4_tellAll 35 = .ok (.getfield 7, 3) := by decide +kernel
theorem dX4_tellAll_38 : decode cX4_tellAll 38 = .ok (.iconst 0, 1) := by decide +kernel
theorem dX4_tellAll_39 : decode cX4_tellAll 39 = .ok (.iload 4, 2) := by decide +kernel
theorem dX4_tellAll_41 : decode cX4_tellAll 41 = .ok (.invokevirtual 145, 3) := by decide +kernel
theorem dX4_tellAll_44 : decode cX4_tellAll 44 = .ok (.iload_n 2, 1) := by decide +kernel
theorem dX4_tellAll_45 : decode cX4_tellAll 45 = .ok (.iload_n 3, 1) := by decide +kernel
theorem dX4_tellAll_46 : decode cX4_tellAll 46 = .ok (.invokevirtual 149, 3) := by decide +kernel
theorem dX4_tellAll_49 : decode cX4_tellAll 49 = .ok (.goto 4, 3) := by decide +kernel
theorem dX4_tellAll_52 : decode cX4_tellAll 52 = .ok (.iconst (-1), 1) := by decide +kernel
theorem dX4_tellAll_53 : decode cX4_tellAll 53 = .ok (.iastore, 1) := by decide +kernel
theorem dX4_tellAll_54 : decode cX4_tellAll 54 = .ok (.iinc 4 1, 3) := by decide +kernel
theorem dX4_tellAll_57 : decode cX4_tellAll 57 = .ok (.goto (-49), 3) := by decide +kernel
theorem dX4_tellAll_60 : decode cX4_tellAll 60 = .ok (.return_, 1) := by decide +kernel
theorem dX4_triedBy_0 : decode cX4_triedBy 0 = .ok (.aload_n 0, 1) := by decide +kernel
theorem dX4_triedBy_1 : decode cX4_triedBy 1 = .ok (.iload_n 1, 1) := by decide +kernel
theorem dX4_triedBy_2 : decode cX4_triedBy 2 = .ok (.iload_n 2, 1) := by decide +kernel
theorem dX4_triedBy_3 : decode cX4_triedBy 3 = .ok (.invokevirtual 153, 3) := by decide +kernel
theorem dX4_triedBy_6 : decode cX4_triedBy 6 = .ok (.aload_n 0, 1) := by decide +kernel
theorem dX4_triedBy_7 : decode cX4_triedBy 7 = .ok (.invokevirtual 156, 3) := by decide +kernel
theorem dX4_triedBy_10 : decode cX4_triedBy 10 = .ok (.istore_n 3, 1) := by decide +kernel
theorem dX4_triedBy_11 : decode cX4_triedBy 11 = .ok (.iload_n 3, 1) := by decide +kernel
theorem dX4_triedBy_12 : decode cX4_triedBy 12 = .ok (.ifCond .ge 7, 3) := by decide +kernel
theorem dX4_triedBy_15 : decode cX4_triedBy 15 = .ok (.iconst 0, 1) := by decide +kernel
theorem dX4_triedBy_16 : decode cX4_triedBy 16 = .ok (.goto 18, 3) := by decide +kernel
theorem dX4_triedBy_19 : decode cX4_triedBy 19 = .ok (.iload_n 3, 1) := by decide +kernel
theorem dX4_triedBy_20 : decode cX4_triedBy 20 = .ok (.aload_n 0, 1) := by decide +kernel
theorem dX4_triedBy_21 : decode cX4_triedBy 21 = .ok (.getfield 7, 3) := by decide +kernel
theorem dX4_triedBy_24 : decode cX4_triedBy 24 = .ok (.iconst 0, 1) := by decide +kernel
theorem dX4_triedBy_25 : decode cX4_triedBy 25 = .ok (.iaload, 1) := by decide +kernel
theorem dX4_triedBy_26 : decode cX4_triedBy 26 = .ok (.if_icmp .ne 7, 3) := by decide +kernel
theorem dX4_triedBy_29 : decode cX4_triedBy 29 = .ok (.iconst 1, 1) := by decide +kernel
theorem dX4_triedBy_30 : decode cX4_triedBy 30 = .ok (.goto 4, 3) := by decide +kernel
theorem dX4_triedBy_33 : decode cX4_triedBy 33 = .ok (.iconst 2, 1) := by decide +kernel
theorem dX4_triedBy_34 : decode cX4_triedBy 34 = .ok (.ireturn, 1) := by decide +kernel
theorem dX4_note_0 : decode cX4_note 0 = .ok (.aload_n 0, 1) := by decide +kernel
theorem dX4_note_1 : decode cX4_note 1 = .ok (.getfield 56, 3) := by decide +kernel
theorem dX4_note_4 : decode cX4_note 4 = .ok (.bipush 8, 2) := by decide +kernel
theorem dX4_note_6 : decode cX4_note 6 = .ok (.if_icmp .ne 42, 3) := by decide +kernel
theorem dX4_note_9 : decode cX4_note 9 = .ok (.iconst 0, 1) := by decide +kernel
theorem dX4_note_10 : decode cX4_note 10 = .ok (.istore_n 1, 1) := by decide +kernel
theorem dX4_note_11 : decode cX4_note 11 = .ok (.iload_n 1, 1) := by decide +kernel
theorem dX4_note_12 : decode cX4_note 12 = .ok (.bipush 42, 2) := by decide +kernel
theorem dX4_note_14 : decode cX4_note 14 = .ok (.if_icmp .ge 24, 3) := by decide +kernel
theorem dX4_note_17 : decode cX4_note 17 = .ok (.aload_n 0, 1) := by decide +kernel
theorem dX4_note_18 : decode cX4_note 18 = .ok (.getfield 32, 3) := by decide +kernel
theorem dX4_note_21 : decode cX4_note 21 = .ok (.iload_n 1, 1) := by decide +kernel
theorem dX4_note_22 : decode cX4_note 22 = .ok (.aload_n 0, 1) := by decide +kernel
theorem dX4_note_23 : decode cX4_note 23 = .ok (.getfield 32, 3) := by decide +kernel
theorem dX4_note_26 : decode cX4_note 26 = .ok (.iload_n 1, 1) := by decide +kernel
theorem dX4_note_27 : decode cX4_note 27 = .ok (.bipush 6, 2) := by decide +kernel
theorem dX4_note_29 : decode cX4_note 29 = .ok (.iadd, 1) := by decide +kernel
theorem dX4_note_30 : decode cX4_note 30 = .ok (.iaload, 1) := by decide +kernel
theorem dX4_note_31 : decode cX4_note 31 = .ok (.iastore, 1) := by decide +kernel
theorem dX4_note_32 : decode cX4_note 32 = .ok (.iinc 1 1, 3) := by decide +kernel
theorem dX4_note_35 : decode cX4_note 35 = .ok (.goto (-24), 3) := by decide +kernel
theorem dX4_note_38 : decode cX4_note 38 = .ok (.aload_n 0, 1) := by decide +kernel
theorem dX4_note_39 : decode cX4_note 39 = .ok (.dup, 1) := by decide +kernel
theorem dX4_note_40 : decode cX4_note 40 = .ok (.getfield 56, 3) := by decide +kernel
theorem dX4_note_43 : decode cX4_note 43 = .ok (.iconst 1, 1) := by decide +kernel
theorem dX4_note_44 : decode cX4_note 44 = .ok (.isub, 1) := by decide +kernel
theorem dX4_note_45 : decode cX4_note 45 = .ok (.putfield 56, 3) := by decide +kernel
theorem dX4_note_48 : decode cX4_note 48 = .ok (.iconst 0, 1) := by decide +kernel
theorem dX4_note_49 : decode cX4_note 49 = .ok (.istore_n 1, 1) := by decide +kernel
theorem dX4_note_50 : decode cX4_note 50 = .ok (.iload_n 1, 1) := by decide +kernel
theorem dX4_note_51 : decode cX4_note 51 = .ok (.bipush 6, 2) := by decide +kernel
theorem dX4_note_53 : decode cX4_note 53 = .ok (.if_icmp .ge 31, 3) := by decide +kernel
theorem dX4_note_56 : decode cX4_note 56 = .ok (.aload_n 0, 1) := by decide +kernel
theorem dX4_note_57 : decode cX4_note 57 = .ok (.getfield 32, 3) := by decide +kernel
theorem dX4_note_60 : decode cX4_note 60 = .ok (.bipush 6, 2) := by decide +kernel
theorem dX4_note_62 : decode cX4_note 62 = .ok (.aload_n 0, 1) := by decide +kernel
theorem dX4_note_63 : decode cX4_note 63 = .ok (.getfield 56, 3) := by decide +kernel
theorem dX4_note_66 : decode cX4_note 66 = .ok (.imul, 1) := by decide +kernel
theorem dX4_note_67 : decode cX4_note 67 = .ok (.iload_n 1, 1) := by decide +kernel
theorem dX4_note_68 : decode cX4_note 68 = .ok (.iadd, 1) := by decide +kernel
theorem dX4_note_69 : decode cX4_note 69 = .ok (.aload_n 0, 1) := by decide +kernel
theorem dX4_note_70 : decode cX4_note 70 = .ok (.getfield 7, 3) := by decide +kernel
theorem dX4_note_73 : decode cX4_note 73 = .ok (.iconst 2, 1) := by decide +kernel
theorem dX4_note_74 : decode cX4_note 74 = .ok (.iload_n 1, 1) := by decide +kernel
theorem dX4_note_75 : decode cX4_note 75 = .ok (.iadd, 1) := by decide +kernel
theorem dX4_note_76 : decode cX4_note 76 = .ok (.iaload, 1) := by decide +kernel
theorem dX4_note_77 : decode cX4_note 77 = .ok (.iastore, 1) := by decide +kernel
theorem dX4_note_78 : decode cX4_note 78 = .ok (.iinc 1 1, 3) := by decide +kernel
theorem dX4_note_81 : decode cX4_note 81 = .ok (.goto (-31), 3) := by decide +kernel
theorem dX4_note_84 : decode cX4_note 84 = .ok (.aload_n 0, 1) := by decide +kernel
theorem dX4_note_85 : decode cX4_note 85 = .ok (.dup, 1) := by decide +kernel
theorem dX4_note_86 : decode cX4_note 86 = .ok (.getfield 56, 3) := by decide +kernel
theorem dX4_note_89 : decode cX4_note 89 = .ok (.iconst 1, 1) := by decide +kernel
theorem dX4_note_90 : decode cX4_note 90 = .ok (.iadd, 1) := by decide +kernel
theorem dX4_note_91 : decode cX4_note 91 = .ok (.putfield 56, 3) := by decide +kernel
theorem dX4_note_94 : decode cX4_note 94 = .ok (.return_, 1) := by decide +kernel
theorem dX4_oneDay_0 : decode cX4_oneDay 0 = .ok (.aload_n 0, 1) := by decide +kernel
theorem dX4_oneDay_1 : decode cX4_oneDay 1 = .ok (.getfield 7, 3) := by decide +kernel
theorem dX4_oneDay_4 : decode cX4_oneDay 4 = .ok (.bipush 7, 2) := by decide +kernel
theorem dX4_oneDay_6 : decode cX4_oneDay 6 = .ok (.iaload, 1) := by decide +kernel
theorem dX4_oneDay_7 : decode cX4_oneDay 7 = .ok (.iconst 1, 1) := by decide +kernel
theorem dX4_oneDay_8 : decode cX4_oneDay 8 = .ok (.if_icmp .ne 7, 3) := by decide +kernel
theorem dX4_oneDay_11 : decode cX4_oneDay 11 = .ok (.iconst 3, 1) := by decide +kernel
theorem dX4_oneDay_12 : decode cX4_oneDay 12 = .ok (.goto 14, 3) := by decide +kernel
theorem dX4_oneDay_15 : decode cX4_oneDay 15 = .ok (.aload_n 0, 1) := by decide +kernel
theorem dX4_oneDay_16 : decode cX4_oneDay 16 = .ok (.iload_n 1, 1) := by decide +kernel
theorem dX4_oneDay_17 : decode cX4_oneDay 17 = .ok (.aload_n 0, 1) := by decide +kernel
theorem dX4_oneDay_18 : decode cX4_oneDay 18 = .ok (.getfield 7, 3) := by decide +kernel
theorem dX4_oneDay_21 : decode cX4_oneDay 21 = .ok (.iconst 5, 1) := by decide +kernel
theorem dX4_oneDay_22 : decode cX4_oneDay 22 = .ok (.iaload, 1) := by decide +kernel
theorem dX4_oneDay_23 : decode cX4_oneDay 23 = .ok (.invokevirtual 159, 3) := by decide +kernel
theorem dX4_oneDay_26 : decode cX4_oneDay 26 = .ok (.istore_n 2, 1) := by decide +kernel
theorem dX4_oneDay_27 : decode cX4_oneDay 27 = .ok (.aload_n 0, 1) := by decide +kernel
theorem dX4_oneDay_28 : decode cX4_oneDay 28 = .ok (.getfield 7, 3) := by decide +kernel
theorem dX4_oneDay_31 : decode cX4_oneDay 31 = .ok (.bipush 7, 2) := by decide +kernel
theorem dX4_oneDay_33 : decode cX4_oneDay 33 = .ok (.iconst 0, 1) := by decide +kernel
theorem dX4_oneDay_34 : decode cX4_oneDay 34 = .ok (.iastore, 1) := by decide +kernel
theorem dX4_oneDay_35 : decode cX4_oneDay 35 = .ok (.iload_n 2, 1) := by decide +kernel
theorem dX4_oneDay_36 : decode cX4_oneDay 36 = .ok (.iconst 1, 1) := by decide +kernel
theorem dX4_oneDay_37 : decode cX4_oneDay 37 = .ok (.if_icmp .ne 14, 3) := by decide +kernel
theorem dX4_oneDay_40 : decode cX4_oneDay 40 = .ok (.aload_n 0, 1) := by decide +kernel
theorem dX4_oneDay_41 : decode cX4_oneDay 41 = .ok (.getfield 7, 3) := by decide +kernel
theorem dX4_oneDay_44 : decode cX4_oneDay 44 = .ok (.bipush 6, 2) := by decide +kernel
theorem dX4_oneDay_46 : decode cX4_oneDay 46 = .ok (.iconst 0, 1) := by decide +kernel
theorem dX4_oneDay_47 : decode cX4_oneDay 47 = .ok (.iastore, 1) := by decide +kernel
theorem dX4_oneDay_48 : decode cX4_oneDay 48 = .ok (.goto 46, 3) := by decide +kernel
theorem dX4_oneDay_51 : decode cX4_oneDay 51 = .ok (.iload_n 2, 1) := by decide +kernel
theorem dX4_oneDay_52 : decode cX4_oneDay 52 = .ok (.iconst 2, 1) := by decide +kernel
theorem dX4_oneDay_53 : decode cX4_oneDay 53 = .ok (.if_icmp .ne 41, 3) := by decide +kernel
theorem dX4_oneDay_56 : decode cX4_oneDay 56 = .ok (.aload_n 0, 1) := by decide +kernel
theorem dX4_oneDay_57 : decode cX4_oneDay 57 = .ok (.getfield 7, 3) := by decide +kernel
theorem dX4_oneDay_60 : decode cX4_oneDay 60 = .ok (.bipush 6, 2) := by decide +kernel
theorem dX4_oneDay_62 : decode cX4_oneDay 62 = .ok (.dup2, 1) := by decide +kernel
theorem dX4_oneDay_63 : decode cX4_oneDay 63 = .ok (.iaload, 1) := by decide +kernel
theorem dX4_oneDay_64 : decode cX4_oneDay 64 = .ok (.iconst 1, 1) := by decide +kernel
theorem dX4_oneDay_65 : decode cX4_oneDay 65 = .ok (.iadd, 1) := by decide +kernel
theorem dX4_oneDay_66 : decode cX4_oneDay 66 = .ok (.iastore, 1) := by decide +kernel
theorem dX4_oneDay_67 : decode cX4_oneDay 67 = .ok (.aload_n 0, 1) := by decide +kernel
theorem dX4_oneDay_68 : decode cX4_oneDay 68 = .ok (.getfield 7, 3) := by decide +kernel
theorem dX4_oneDay_71 : decode cX4_oneDay 71 = .ok (.bipush 6, 2) := by decide +kernel
theorem dX4_oneDay_73 : decode cX4_oneDay 73 = .ok (.iaload, 1) := by decide +kernel
theorem dX4_oneDay_74 : decode cX4_oneDay 74 = .ok (.iconst 3, 1) := by decide +kernel
theorem dX4_oneDay_75 : decode cX4_oneDay 75 = .ok (.if_icmp .ne 19, 3) := by decide +kernel
theorem dX4_oneDay_78 : decode cX4_oneDay 78 = .ok (.aload_n 0, 1) := by decide +kernel
theorem dX4_oneDay_79 : decode cX4_oneDay 79 = .ok (.getfield 7, 3) := by decide +kernel
theorem dX4_oneDay_82 : decode cX4_oneDay 82 = .ok (.bipush 6, 2) := by decide +kernel
theorem dX4_oneDay_84 : decode cX4_oneDay 84 = .ok (.iconst 0, 1) := by decide +kernel
theorem dX4_oneDay_85 : decode cX4_oneDay 85 = .ok (.iastore, 1) := by decide +kernel
theorem dX4_oneDay_86 : decode cX4_oneDay 86 = .ok (.aload_n 0, 1) := by decide +kernel
theorem dX4_oneDay_87 : decode cX4_oneDay 87 = .ok (.getfield 7, 3) := by decide +kernel
theorem dX4_oneDay_90 : decode cX4_oneDay 90 = .ok (.bipush 7, 2) := by decide +kernel
theorem dX4_oneDay_92 : decode cX4_oneDay 92 = .ok (.iconst 1, 1) := by decide +kernel
theorem dX4_oneDay_93 : decode cX4_oneDay 93 = .ok (.iastore, 1) := by decide +kernel
theorem dX4_oneDay_94 : decode cX4_oneDay 94 = .ok (.aload_n 0, 1) := by decide +kernel
theorem dX4_oneDay_95 : decode cX4_oneDay 95 = .ok (.getfield 7, 3) := by decide +kernel
theorem dX4_oneDay_98 : decode cX4_oneDay 98 = .ok (.iconst 5, 1) := by decide +kernel
theorem dX4_oneDay_99 : decode cX4_oneDay 99 = .ok (.dup2, 1) := by decide +kernel
theorem dX4_oneDay_100 : decode cX4_oneDay 100 = .ok (.iaload, 1) := by decide +kernel
theorem dX4_oneDay_101 : decode cX4_oneDay 101 = .ok (.iconst 1, 1) := by decide +kernel
theorem dX4_oneDay_102 : decode cX4_oneDay 102 = .ok (.iadd, 1) := by decide +kernel
theorem dX4_oneDay_103 : decode cX4_oneDay 103 = .ok (.iastore, 1) := by decide +kernel
theorem dX4_oneDay_104 : decode cX4_oneDay 104 = .ok (.iload_n 2, 1) := by decide +kernel
theorem dX4_oneDay_105 : decode cX4_oneDay 105 = .ok (.ireturn, 1) := by decide +kernel
theorem dX4_day_0 : decode cX4_day 0 = .ok (.aload_n 0, 1) := by decide +kernel
theorem dX4_day_1 : decode cX4_day 1 = .ok (.iload_n 1, 1) := by decide +kernel
theorem dX4_day_2 : decode cX4_day 2 = .ok (.invokevirtual 163, 3) := by decide +kernel
theorem dX4_day_5 : decode cX4_day 5 = .ok (.ifCond .ne 11, 3) := by decide +kernel
theorem dX4_day_8 : decode cX4_day 8 = .ok (.aload_n 0, 1) := by decide +kernel
theorem dX4_day_9 : decode cX4_day 9 = .ok (.invokevirtual 64, 3) := by decide +kernel
theorem dX4_day_12 : decode cX4_day 12 = .ok (.pop, 1) := by decide +kernel
theorem dX4_day_13 : decode cX4_day 13 = .ok (.bipush (-10), 2) := by decide +kernel
theorem dX4_day_15 : decode cX4_day 15 = .ok (.ireturn, 1) := by decide +kernel
theorem dX4_day_16 : decode cX4_day 16 = .ok (.aload_n 0, 1) := by decide +kernel
theorem dX4_day_17 : decode cX4_day 17 = .ok (.invokevirtual 167, 3) := by decide +kernel
theorem dX4_day_20 : decode cX4_day 20 = .ok (.aload_n 0, 1) := by decide +kernel
theorem dX4_day_21 : decode cX4_day 21 = .ok (.iload_n 1, 1) := by decide +kernel
theorem dX4_day_22 : decode cX4_day 22 = .ok (.invokevirtual 170, 3) := by decide +kernel
theorem dX4_day_25 : decode cX4_day 25 = .ok (.ireturn, 1) := by decide +kernel
theorem dX4_draw_0 : decode cX4_draw 0 = .ok (.aload_n 0, 1) := by decide +kernel
theorem dX4_draw_1 : decode cX4_draw 1 = .ok (.aload_n 0, 1) := by decide +kernel
theorem dX4_draw_2 : decode cX4_draw 2 = .ok (.getfield 173, 3) := by decide +kernel
theorem dX4_draw_5 : decode cX4_draw 5 = .ok (.ldc2_w 176, 3) := by decide +kernel
theorem dX4_draw_8 : decode cX4_draw 8 = .ok (.lmul, 1) := by decide +kernel
theorem dX4_draw_9 : decode cX4_draw 9 = .ok (.ldc2_w 178, 3) := by decide +kernel
theorem dX4_draw_12 : decode cX4_draw 12 = .ok (.ladd, 1) := by decide +kernel
theorem dX4_draw_13 : decode cX4_draw 13 = .ok (.ldc2_w 180, 3) := by decide +kernel
theorem dX4_draw_16 : decode cX4_draw 16 = .ok (.lrem, 1) := by decide +kernel
theorem dX4_draw_17 : decode cX4_draw 17 = .ok (.putfield 173, 3) := by decide +kernel
theorem dX4_draw_20 : decode cX4_draw 20 = .ok (.aload_n 0, 1) := by decide +kernel
theorem dX4_draw_21 : decode cX4_draw 21 = .ok (.getfield 173, 3) := by decide +kernel
theorem dX4_draw_24 : decode cX4_draw 24 = .ok (.ldc2_w 182, 3) := by decide +kernel
theorem dX4_draw_27 : decode cX4_draw 27 = .ok (.ldiv, 1) := by decide +kernel
theorem dX4_draw_28 : decode cX4_draw 28 = .ok (.iload_n 1, 1) := by decide +kernel
theorem dX4_draw_29 : decode cX4_draw 29 = .ok (.i2l, 1) := by decide +kernel
theorem dX4_draw_30 : decode cX4_draw 30 = .ok (.lrem, 1) := by decide +kernel
theorem dX4_draw_31 : decode cX4_draw 31 = .ok (.l2i, 1) := by decide +kernel
theorem dX4_draw_32 : decode cX4_draw 32 = .ok (.ireturn, 1) := by decide +kernel
theorem dX4_change_0 : decode cX4_change 0 = .ok (.iload_n 1, 1) := by decide +kernel
theorem dX4_change_1 : decode cX4_change 1 = .ok (.i2l, 1) := by decide +kernel
theorem dX4_change_2 : decode cX4_change 2 = .ok (.lconst 0, 1) := by decide +kernel
theorem dX4_change_3 : decode cX4_change 3 = .ok (.ldc2_w 184, 3) := by decide +kernel
theorem dX4_change_6 : decode cX4_change 6 = .ok (.invokestatic 52, 3) := by decide +kernel
theorem dX4_change_9 : decode cX4_change 9 = .ok (.ifCond .ne 8, 3) := by decide +kernel
theorem dX4_change_12 : decode cX4_change 12 = .ok (.aload_n 0, 1) := by decide +kernel
theorem dX4_change_13 : decode cX4_change 13 = .ok (.invokevirtual 64, 3) := by decide +kernel
theorem dX4_change_16 : decode cX4_change 16 = .ok (.ireturn, 1) := by decide +kernel
theorem dX4_change_17 : decode cX4_change 17 = .ok (.aload_n 0, 1) := by decide +kernel
theorem dX4_change_18 : decode cX4_change 18 = .ok (.invokevirtual 167, 3) := by decide +kernel
theorem dX4_change_21 : decode cX4_change 21 = .ok (.aload_n 0, 1) := by decide +kernel
theorem dX4_change_22 : decode cX4_change 22 = .ok (.iload_n 1, 1) := by decide +kernel
theorem dX4_change_23 : decode cX4_change 23 = .ok (.i2l, 1) := by decide +kernel
theorem dX4_change_24 : decode cX4_change 24 = .ok (.putfield 173, 3) := by decide +kernel
theorem dX4_change_27 : decode cX4_change 27 = .ok (.iconst 1, 1) := by decide +kernel
theorem dX4_change_28 : decode cX4_change 28 = .ok (.istore_n 2, 1) := by decide +kernel
theorem dX4_change_29 : decode cX4_change 29 = .ok (.iload_n 2, 1) := by decide +kernel
theorem dX4_change_30 : decode cX4_change 30 = .ok (.aload_n 0, 1) := by decide +kernel
theorem dX4_change_31 : decode cX4_change 31 = .ok (.getfield 7, 3) := by decide +kernel
theorem dX4_change_34 : decode cX4_change 34 = .ok (.iconst 1, 1) := by decide +kernel
theorem dX4_change_35 : decode cX4_change 35 = .ok (.iaload, 1) := by decide +kernel
theorem dX4_change_36 : decode cX4_change 36 = .ok (.if_icmp .ge 39, 3) := by decide +kernel
theorem dX4_change_39 : decode cX4_change 39 = .ok (.aload_n 0, 1) := by decide +kernel
theorem dX4_change_40 : decode cX4_change 40 = .ok (.getfield 7, 3) := by decide +kernel
theorem dX4_change_43 : decode cX4_change 43 = .ok (.iconst 2, 1) := by decide +kernel
theorem dX4_change_44 : decode cX4_change 44 = .ok (.iload_n 2, 1) := by decide +kernel
theorem dX4_change_45 : decode cX4_change 45 = .ok (.iadd, 1) := by decide +kernel
theorem dX4_change_46 : decode cX4_change 46 = .ok (.iconst 1, 1) := by decide +kernel
theorem dX4_change_47 : decode cX4_change 47 = .ok (.isub, 1) := by decide +kernel
theorem dX4_change_48 : decode cX4_change 48 = .ok (.aload_n 0, 1) := by decide +kernel
theorem dX4_change_49 : decode cX4_change 49 = .ok (.getfield 7, 3) := by decide +kernel
theorem dX4_change_52 : decode cX4_change 52 = .ok (.iconst 2, 1) := by decide +kernel
theorem dX4_change_53 : decode cX4_change 53 = .ok (.iload_n 2, 1) := by decide +kernel
theorem dX4_change_54 : decode cX4_change 54 = .ok (.iadd, 1) := by decide +kernel
theorem dX4_change_55 : decode cX4_change 55 = .ok (.iconst 1, 1) := by decide +kernel
theorem dX4_change_56 : decode cX4_change 56 = .ok (.isub, 1) := by decide +kernel
theorem dX4_change_57 : decode cX4_change 57 = .ok (.iaload, 1) := by decide +kernel
theorem dX4_change_58 : decode cX4_change 58 = .ok (.aload_n 0, 1) := by decide +kernel
theorem dX4_change_59 : decode cX4_change 59 = .ok (.bipush 97, 2) := by decide +kernel
theorem dX4_change_61 : decode cX4_change 61 = .ok (.invokevirtual 186, 3) := by decide +kernel
theorem dX4_change_64 : decode cX4_change 64 = .ok (.iadd, 1) := by decide +kernel
theorem dX4_change_65 : decode cX4_change 65 = .ok (.bipush 97, 2) := by decide +kernel
theorem dX4_change_67 : decode cX4_change 67 = .ok (.irem, 1) := by decide +kernel
theorem dX4_change_68 : decode cX4_change 68 = .ok (.iastore, 1) := by decide +kernel
theorem dX4_change_69 : decode cX4_change 69 = .ok (.iinc 2 1, 3) := by decide +kernel
theorem dX4_change_72 : decode cX4_change 72 = .ok (.goto (-43), 3) := by decide +kernel
theorem dX4_change_75 : decode cX4_change 75 = .ok (.aload_n 0, 1) := by decide +kernel
theorem dX4_change_76 : decode cX4_change 76 = .ok (.getfield 7, 3) := by decide +kernel
theorem dX4_change_79 : decode cX4_change 79 = .ok (.iconst 1, 1) := by decide +kernel
theorem dX4_change_80 : decode cX4_change 80 = .ok (.iaload, 1) := by decide +kernel
theorem dX4_change_81 : decode cX4_change 81 = .ok (.iconst 1, 1) := by decide +kernel
theorem dX4_change_82 : decode cX4_change 82 = .ok (.isub, 1) := by decide +kernel
theorem dX4_change_83 : decode cX4_change 83 = .ok (.ireturn, 1) := by decide +kernel
theorem dX4_undo_0 : decode cX4_undo 0 = .ok (.aload_n 0, 1) := by decide +kernel
theorem dX4_undo_1 : decode cX4_undo 1 = .ok (.getfield 56, 3) := by decide +kernel
theorem dX4_undo_4 : decode cX4_undo 4 = .ok (.ifCond .ne 8, 3) := by decide +kernel
theorem dX4_undo_7 : decode cX4_undo 7 = .ok (.aload_n 0, 1) := by decide +kernel
theorem dX4_undo_8 : decode cX4_undo 8 = .ok (.invokevirtual 189, 3) := by decide +kernel
theorem dX4_undo_11 : decode cX4_undo 11 = .ok (.ireturn, 1) := by decide +kernel
theorem dX4_undo_12 : decode cX4_undo 12 = .ok (.aload_n 0, 1) := by decide +kernel
theorem dX4_undo_13 : decode cX4_undo 13 = .ok (.dup, 1) := by decide +kernel
theorem dX4_undo_14 : decode cX4_undo 14 = .ok (.getfield 56, 3) := by decide +kernel
theorem dX4_undo_17 : decode cX4_undo 17 = .ok (.iconst 1, 1) := by decide +kernel
theorem dX4_undo_18 : decode cX4_undo 18 = .ok (.isub, 1) := by decide +kernel
theorem dX4_undo_19 : decode cX4_undo 19 = .ok (.putfield 56, 3) := by decide +kernel
theorem dX4_undo_22 : decode cX4_undo 22 = .ok (.iconst 0, 1) := by decide +kernel
theorem dX4_undo_23 : decode cX4_undo 23 = .ok (.istore_n 1, 1) := by decide +kernel
theorem dX4_undo_24 : decode cX4_undo 24 = .ok (.iload_n 1, 1) := by decide +kernel
theorem dX4_undo_25 : decode cX4_undo 25 = .ok (.bipush 6, 2) := by decide +kernel
theorem dX4_undo_27 : decode cX4_undo 27 = .ok (.if_icmp .ge 31, 3) := by decide +kernel
theorem dX4_undo_30 : decode cX4_undo 30 = .ok (.aload_n 0, 1) := by decide +kernel
theorem dX4_undo_31 : decode cX4_undo 31 = .ok (.getfield 7, 3) := by decide +kernel
theorem dX4_undo_34 : decode cX4_undo 34 = .ok (.iconst 2, 1) := by decide +kernel
theorem dX4_undo_35 : decode cX4_undo 35 = .ok (.iload_n 1, 1) := by decide +kernel
theorem dX4_undo_36 : decode cX4_undo 36 = .ok (.iadd, 1) := by decide +kernel
theorem dX4_undo_37 : decode cX4_undo 37 = .ok (.aload_n 0, 1) := by decide +kernel
theorem dX4_undo_38 : decode cX4_undo 38 = .ok (.getfield 32, 3) := by decide +kernel
theorem dX4_undo_41 : decode cX4_undo 41 = .ok (.bipush 6, 2) := by decide +kernel
theorem dX4_undo_43 : decode cX4_undo 43 = .ok (.aload_n 0, 1) := by decide +kernel
theorem dX4_undo_44 : decode cX4_undo 44 = .ok (.getfield 56, 3) := by decide +kernel
theorem dX4_undo_47 : decode cX4_undo 47 = .ok (.imul, 1) := by decide +kernel
theorem dX4_undo_48 : decode cX4_undo 48 = .ok (.iload_n 1, 1) := by decide +kernel
theorem dX4_undo_49 : decode cX4_undo 49 = .ok (.iadd, 1) := by decide +kernel
theorem dX4_undo_50 : decode cX4_undo 50 = .ok (.iaload, 1) := by decide +kernel
theorem dX4_undo_51 : decode cX4_undo 51 = .ok (.iastore, 1) := by decide +kernel
theorem dX4_undo_52 : decode cX4_undo 52 = .ok (.iinc 1 1, 3) := by decide +kernel
theorem dX4_undo_55 : decode cX4_undo 55 = .ok (.goto (-31), 3) := by decide +kernel
theorem dX4_undo_58 : decode cX4_undo 58 = .ok (.aload_n 0, 1) := by decide +kernel
theorem dX4_undo_59 : decode cX4_undo 59 = .ok (.getfield 7, 3) := by decide +kernel
theorem dX4_undo_62 : decode cX4_undo 62 = .ok (.iconst 5, 1) := by decide +kernel
theorem dX4_undo_63 : decode cX4_undo 63 = .ok (.iaload, 1) := by decide +kernel
theorem dX4_undo_64 : decode cX4_undo 64 = .ok (.ireturn, 1) := by decide +kernel
theorem dX4_of_0 : decode cX4_of 0 = .ok (.aload_n 0, 1) := by decide +kernel
theorem dX4_of_1 : decode cX4_of 1 = .ok (.iload_n 1, 1) := by decide +kernel
theorem dX4_of_2 : decode cX4_of 2 = .ok (.invokevirtual 192, 3) := by decide +kernel
theorem dX4_of_5 : decode cX4_of 5 = .ok (.ifCond .eq 15, 3) := by decide +kernel
theorem dX4_of_8 : decode cX4_of 8 = .ok (.iload_n 2, 1) := by decide +kernel
theorem dX4_of_9 : decode cX4_of 9 = .ok (.i2l, 1) := by decide +kernel
theorem dX4_of_10 : decode cX4_of 10 = .ok (.lconst 0, 1) := by decide +kernel
theorem dX4_of_11 : decode cX4_of 11 = .ok (.ldc2_w 195, 3) := by decide +kernel
theorem dX4_of_14 : decode cX4_of 14 = .ok (.invokestatic 52, 3) := by decide +kernel
theorem dX4_of_17 : decode cX4_of 17 = .ok (.ifCond .ne 8, 3) := by decide +kernel
theorem dX4_of_20 : decode cX4_of 20 = .ok (.aload_n 0, 1) := by decide +kernel
theorem dX4_of_21 : decode cX4_of 21 = .ok (.invokevirtual 64, 3) := by decide +kernel
theorem dX4_of_24 : decode cX4_of 24 = .ok (.ireturn, 1) := by decide +kernel
theorem dX4_of_25 : decode cX4_of 25 = .ok (.iload_n 2, 1) := by decide +kernel
theorem dX4_of_26 : decode cX4_of 26 = .ok (.ifCond .ne 15, 3) := by decide +kernel
theorem dX4_of_29 : decode cX4_of 29 = .ok (.aload_n 0, 1) := by decide +kernel
theorem dX4_of_30 : decode cX4_of 30 = .ok (.getfield 7, 3) := by decide +kernel
theorem dX4_of_33 : decode cX4_of 33 = .ok (.bipush 9, 2) := by decide +kernel
theorem dX4_of_35 : decode cX4_of 35 = .ok (.iload_n 1, 1) := by decide +kernel
theorem dX4_of_36 : decode cX4_of 36 = .ok (.iadd, 1) := by decide +kernel
theorem dX4_of_37 : decode cX4_of 37 = .ok (.iaload, 1) := by decide +kernel
theorem dX4_of_38 : decode cX4_of 38 = .ok (.goto 30, 3) := by decide +kernel
theorem dX4_of_41 : decode cX4_of 41 = .ok (.iload_n 2, 1) := by decide +kernel
theorem dX4_of_42 : decode cX4_of 42 = .ok (.iconst 1, 1) := by decide +kernel
theorem dX4_of_43 : decode cX4_of 43 = .ok (.if_icmp .ne 15, 3) := by decide +kernel
theorem dX4_of_46 : decode cX4_of 46 = .ok (.aload_n 0, 1) := by decide +kernel
theorem dX4_of_47 : decode cX4_of 47 = .ok (.getfield 7, 3) := by decide +kernel
theorem dX4_of_50 : decode cX4_of 50 = .ok (.bipush 15, 2) := by decide +kernel
theorem dX4_of_52 : decode cX4_of 52 = .ok (.iload_n 1, 1) := by decide +kernel
theorem dX4_of_53 : decode cX4_of 53 = .ok (.iadd, 1) := by decide +kernel
theorem dX4_of_54 : decode cX4_of 54 = .ok (.iaload, 1) := by decide +kernel
theorem dX4_of_55 : decode cX4_of 55 = .ok (.goto 13, 3) := by decide +kernel
theorem dX4_of_58 : decode cX4_of 58 = .ok (.aload_n 0, 1) := by decide +kernel
theorem dX4_of_59 : decode cX4_of 59 = .ok (.aload_n 0, 1) := by decide +kernel
theorem dX4_of_60 : decode cX4_of 60 = .ok (.getfield 7, 3) := by decide +kernel
theorem dX4_of_63 : decode cX4_of 63 = .ok (.iconst 0, 1) := by decide +kernel
theorem dX4_of_64 : decode cX4_of 64 = .ok (.iload_n 1, 1) := by decide +kernel
theorem dX4_of_65 : decode cX4_of 65 = .ok (.invokevirtual 145, 3) := by decide +kernel
theorem dX4_of_68 : decode cX4_of 68 = .ok (.ireturn, 1) := by decide +kernel
theorem dX4_tells_0 : decode cX4_tells 0 = .ok (.aload_n 0, 1) := by decide +kernel
theorem dX4_tells_1 : decode cX4_tells 1 = .ok (.iload_n 1, 1) := by decide +kernel
theorem dX4_tells_2 : decode cX4_tells 2 = .ok (.invokevirtual 192, 3) := by decide +kernel
theorem dX4_tells_5 : decode cX4_tells 5 = .ok (.ifCond .eq 27, 3) := by decide +kernel
theorem dX4_tells_8 : decode cX4_tells 8 = .ok (.iload_n 2, 1) := by decide +kernel
theorem dX4_tells_9 : decode cX4_tells 9 = .ok (.i2l, 1) := by decide +kernel
theorem dX4_tells_10 : decode cX4_tells 10 = .ok (.lconst 0, 1) := by decide +kernel
theorem dX4_tells_11 : decode cX4_tells 11 = .ok (.ldc2_w 197, 3) := by decide +kernel
theorem dX4_tells_14 : decode cX4_tells 14 = .ok (.invokestatic 52, 3) := by decide +kernel
theorem dX4_tells_17 : decode cX4_tells 17 = .ok (.ifCond .eq 15, 3) := by decide +kernel
theorem dX4_tells_20 : decode cX4_tells 20 = .ok (.iload_n 3, 1) := by decide +kernel
theorem dX4_tells_21 : decode cX4_tells 21 = .ok (.i2l, 1) := by decide +kernel
theorem dX4_tells_22 : decode cX4_tells 22 = .ok (.lconst 1, 1) := by decide +kernel
theorem dX4_tells_23 : decode cX4_tells 23 = .ok (.ldc2_w 199, 3) := by decide +kernel
theorem dX4_tells_26 : decode cX4_tells 26 = .ok (.invokestatic 52, 3) := by decide +kernel
theorem dX4_tells_29 : decode cX4_tells 29 = .ok (.ifCond .ne 8, 3) := by decide +kernel
theorem dX4_tells_32 : decode cX4_tells 32 = .ok (.aload_n 0, 1) := by decide +kernel
theorem dX4_tells_33 : decode cX4_tells 33 = .ok (.invokevirtual 64, 3) := by decide +kernel
theorem dX4_tells_36 : decode cX4_tells 36 = .ok (.ireturn, 1) := by decide +kernel
theorem dX4_tells_37 : decode cX4_tells 37 = .ok (.aload_n 0, 1) := by decide +kernel
theorem dX4_tells_38 : decode cX4_tells 38 = .ok (.iload_n 1, 1) := by decide +kernel
theorem dX4_tells_39 : decode cX4_tells 39 = .ok (.aload_n 0, 1) := by decide +kernel
theorem dX4_tells_40 : decode cX4_tells 40 = .ok (.aload_n 0, 1) := by decide +kernel
theorem dX4_tells_41 : decode cX4_tells 41 = .ok (.getfield 7, 3) := by decide +kernel
theorem dX4_tells_44 : decode cX4_tells 44 = .ok (.iconst 0, 1) := by decide +kernel
theorem dX4_tells_45 : decode cX4_tells 45 = .ok (.iload_n 1, 1) := by decide +kernel
theorem dX4_tells_46 : decode cX4_tells 46 = .ok (.invokevirtual 145, 3) := by decide +kernel
theorem dX4_tells_49 : decode cX4_tells 49 = .ok (.iload_n 2, 1) := by decide +kernel
theorem dX4_tells_50 : decode cX4_tells 50 = .ok (.iload_n 3, 1) := by decide +kernel
theorem dX4_tells_51 : decode cX4_tells 51 = .ok (.invokevirtual 149, 3) := by decide +kernel
theorem dX4_tells_54 : decode cX4_tells 54 = .ok (.ireturn, 1) := by decide +kernel
theorem dX4_finds_0 : decode cX4_finds 0 = .ok (.aload_n 0, 1) := by decide +kernel
theorem dX4_finds_1 : decode cX4_finds 1 = .ok (.iload_n 1, 1) := by decide +kernel
theorem dX4_finds_2 : decode cX4_finds 2 = .ok (.invokevirtual 163, 3) := by decide +kernel
theorem dX4_finds_5 : decode cX4_finds 5 = .ok (.ifCond .ne 8, 3) := by decide +kernel
theorem dX4_finds_8 : decode cX4_finds 8 = .ok (.aload_n 0, 1) := by decide +kernel
theorem dX4_finds_9 : decode cX4_finds 9 = .ok (.invokevirtual 64, 3) := by decide +kernel
theorem dX4_finds_12 : decode cX4_finds 12 = .ok (.ireturn, 1) := by decide +kernel
theorem dX4_finds_13 : decode cX4_finds 13 = .ok (.iconst 0, 1) := by decide +kernel
theorem dX4_finds_14 : decode cX4_finds 14 = .ok (.istore_n 2, 1) := by decide +kernel
theorem dX4_finds_15 : decode cX4_finds 15 = .ok (.iload_n 2, 1) := by decide +kernel
theorem dX4_finds_16 : decode cX4_finds 16 = .ok (.bipush 6, 2) := by decide +kernel
theorem dX4_finds_18 : decode cX4_finds 18 = .ok (.if_icmp .ge 37, 3) := by decide +kernel
theorem dX4_finds_21 : decode cX4_finds 21 = .ok (.aload_n 0, 1) := by decide +kernel
theorem dX4_finds_22 : decode cX4_finds 22 = .ok (.getfield 26, 3) := by decide +kernel
theorem dX4_finds_25 : decode cX4_finds 25 = .ok (.iload_n 2, 1) := by decide +kernel
theorem dX4_finds_26 : decode cX4_finds 26 = .ok (.iload_n 1, 1) := by decide +kernel
theorem dX4_finds_27 : decode cX4_finds 27 = .ok (.iload_n 2, 1) := by decide +kernel
theorem dX4_finds_28 : decode cX4_finds 28 = .ok (.invokestatic 141, 3) := by decide +kernel
theorem dX4_finds_31 : decode cX4_finds 31 = .ok (.ifCond .eq 16, 3) := by decide +kernel
theorem dX4_finds_34 : decode cX4_finds 34 = .ok (.aload_n 0, 1) := by decide +kernel
theorem dX4_finds_35 : decode cX4_finds 35 = .ok (.aload_n 0, 1) := by decide +kernel
theorem dX4_finds_36 : decode cX4_finds 36 = .ok (.getfield 7, 3) := by decide +kernel
theorem dX4_finds_39 : decode cX4_finds 39 = .ok (.iconst 0, 1) := by decide +kernel
theorem dX4_finds_40 : decode cX4_finds 40 = .ok (.iload_n 2, 1) := by decide +kernel
theorem dX4_finds_41 : decode cX4_finds 41 = .ok (.invokevirtual 145, 3) := by decide +kernel
theorem dX4_finds_44 : decode cX4_finds 44 = .ok (.goto 4, 3) := by decide +kernel
theorem dX4_finds_47 : decode cX4_finds 47 = .ok (.iconst (-1), 1) := by decide +kernel
theorem dX4_finds_48 : decode cX4_finds 48 = .ok (.iastore, 1) := by decide +kernel
theorem dX4_finds_49 : decode cX4_finds 49 = .ok (.iinc 2 1, 3) := by decide +kernel
theorem dX4_finds_52 : decode cX4_finds 52 = .ok (.goto (-37), 3) := by decide +kernel
theorem dX4_finds_55 : decode cX4_finds 55 = .ok (.aload_n 0, 1) := by decide +kernel
theorem dX4_finds_56 : decode cX4_finds 56 = .ok (.invokevirtual 156, 3) := by decide +kernel
theorem dX4_finds_59 : decode cX4_finds 59 = .ok (.ireturn, 1) := by decide +kernel
theorem dX4_knows_0 : decode cX4_knows 0 = .ok (.aload_n 0, 1) := by decide +kernel
theorem dX4_knows_1 : decode cX4_knows 1 = .ok (.iload_n 1, 1) := by decide +kernel
theorem dX4_knows_2 : decode cX4_knows 2 = .ok (.invokevirtual 163, 3) := by decide +kernel
theorem dX4_knows_5 : decode cX4_knows 5 = .ok (.ifCond .ne 10, 3) := by decide +kernel
theorem dX4_knows_8 : decode cX4_knows 8 = .ok (.aload_n 0, 1) := by decide +kernel
theorem dX4_knows_9 : decode cX4_knows 9 = .ok (.invokevirtual 64, 3) := by decide +kernel
theorem dX4_knows_12 : decode cX4_knows 12 = .ok (.goto 22, 3) := by decide +kernel
theorem dX4_knows_15 : decode cX4_knows 15 = .ok (.iload_n 1, 1) := by decide +kernel
theorem dX4_knows_16 : decode cX4_knows 16 = .ok (.invokestatic 138, 3) := by decide +kernel
theorem dX4_knows_19 : decode cX4_knows 19 = .ok (.aload_n 0, 1) := by decide +kernel
theorem dX4_knows_20 : decode cX4_knows 20 = .ok (.getfield 7, 3) := by decide +kernel
theorem dX4_knows_23 : decode cX4_knows 23 = .ok (.iconst 1, 1) := by decide +kernel
theorem dX4_knows_24 : decode cX4_knows 24 = .ok (.iaload, 1) := by decide +kernel
theorem dX4_knows_25 : decode cX4_knows 25 = .ok (.if_icmp .ge 8, 3) := by decide +kernel
theorem dX4_knows_28 : decode cX4_knows 28 = .ok (.bipush 97, 2) := by decide +kernel
theorem dX4_knows_30 : decode cX4_knows 30 = .ok (.goto 4, 3) := by decide +kernel
theorem dX4_knows_33 : decode cX4_knows 33 = .ok (.iconst 1, 1) := by decide +kernel
theorem dX4_knows_34 : decode cX4_knows 34 = .ok (.ireturn, 1) := by decide +kernel
theorem dX4_comes_0 : decode cX4_comes 0 = .ok (.aload_n 0, 1) := by decide +kernel
theorem dX4_comes_1 : decode cX4_comes 1 = .ok (.iload_n 1, 1) := by decide +kernel
theorem dX4_comes_2 : decode cX4_comes 2 = .ok (.invokevirtual 163, 3) := by decide +kernel
theorem dX4_comes_5 : decode cX4_comes 5 = .ok (.ifCond .eq 15, 3) := by decide +kernel
theorem dX4_comes_8 : decode cX4_comes 8 = .ok (.iload_n 2, 1) := by decide +kernel
theorem dX4_comes_9 : decode cX4_comes 9 = .ok (.i2l, 1) := by decide +kernel
theorem dX4_comes_10 : decode cX4_comes 10 = .ok (.lconst 0, 1) := by decide +kernel
theorem dX4_comes_11 : decode cX4_comes 11 = .ok (.ldc2_w 197, 3) := by decide +kernel
theorem dX4_comes_14 : decode cX4_comes 14 = .ok (.invokestatic 52, 3) := by decide +kernel
theorem dX4_comes_17 : decode cX4_comes 17 = .ok (.ifCond .ne 11, 3) := by decide +kernel
theorem dX4_comes_20 : decode cX4_comes 20 = .ok (.aload_n 0, 1) := by decide +kernel
theorem dX4_comes_21 : decode cX4_comes 21 = .ok (.invokevirtual 64, 3) := by decide +kernel
theorem dX4_comes_24 : decode cX4_comes 24 = .ok (.pop, 1) := by decide +kernel
theorem dX4_comes_25 : decode cX4_comes 25 = .ok (.bipush (-10), 2) := by decide +kernel
theorem dX4_comes_27 : decode cX4_comes 27 = .ok (.ireturn, 1) := by decide +kernel
theorem dX4_comes_28 : decode cX4_comes 28 = .ok (.aload_n 0, 1) := by decide +kernel
theorem dX4_comes_29 : decode cX4_comes 29 = .ok (.iload_n 1, 1) := by decide +kernel
theorem dX4_comes_30 : decode cX4_comes 30 = .ok (.iload_n 2, 1) := by decide +kernel
theorem dX4_comes_31 : decode cX4_comes 31 = .ok (.invokevirtual 159, 3) := by decide +kernel
theorem dX4_comes_34 : decode cX4_comes 34 = .ok (.ireturn, 1) := by decide +kernel
theorem dX4_tell_0 : decode cX4_tell 0 = .ok (.iload_n 1, 1) := by decide +kernel
theorem dX4_tell_1 : decode cX4_tell 1 = .ok (.i2l, 1) := by decide +kernel
theorem dX4_tell_2 : decode cX4_tell 2 = .ok (.lconst 0, 1) := by decide +kernel
theorem dX4_tell_3 : decode cX4_tell 3 = .ok (.ldc2_w 68, 3) := by decide +kernel
theorem dX4_tell_6 : decode cX4_tell 6 = .ok (.invokestatic 52, 3) := by decide +kernel
theorem dX4_tell_9 : decode cX4_tell 9 = .ok (.ifCond .eq 17, 3) := by decide +kernel
theorem dX4_tell_12 : decode cX4_tell 12 = .ok (.iload_n 2, 1) := by decide +kernel
theorem dX4_tell_13 : decode cX4_tell 13 = .ok (.i2l, 1) := by decide +kernel
theorem dX4_tell_14 : decode cX4_tell 14 = .ok (.ldc2_w 201, 3) := by decide +kernel
theorem dX4_tell_17 : decode cX4_tell 17 = .ok (.ldc2_w 60, 3) := by decide +kernel
theorem dX4_tell_20 : decode cX4_tell 20 = .ok (.invokestatic 52, 3) := by decide +kernel
theorem dX4_tell_23 : decode cX4_tell 23 = .ok (.ifCond .ne 8, 3) := by decide +kernel
theorem dX4_tell_26 : decode cX4_tell 26 = .ok (.aload_n 0, 1) := by decide +kernel
theorem dX4_tell_27 : decode cX4_tell 27 = .ok (.invokevirtual 64, 3) := by decide +kernel
theorem dX4_tell_30 : decode cX4_tell 30 = .ok (.ireturn, 1) := by decide +kernel
theorem dX4_tell_31 : decode cX4_tell 31 = .ok (.aload_n 0, 1) := by decide +kernel
theorem dX4_tell_32 : decode cX4_tell 32 = .ok (.getfield 7, 3) := by decide +kernel
theorem dX4_tell_35 : decode cX4_tell 35 = .ok (.bipush 21, 2) := by decide +kernel
theorem dX4_tell_37 : decode cX4_tell 37 = .ok (.iload_n 1, 1) := by decide +kernel
theorem dX4_tell_38 : decode cX4_tell 38 = .ok (.iadd, 1) := by decide +kernel
theorem dX4_tell_39 : decode cX4_tell 39 = .ok (.iaload, 1) := by decide +kernel
theorem dX4_tell_40 : decode cX4_tell 40 = .ok (.istore_n 3, 1) := by decide +kernel
theorem dX4_tell_41 : decode cX4_tell 41 = .ok (.aload_n 0, 1) := by decide +kernel
theorem dX4_tell_42 : decode cX4_tell 42 = .ok (.getfield 7, 3) := by decide +kernel
theorem dX4_tell_45 : decode cX4_tell 45 = .ok (.bipush 21, 2) := by decide +kernel
theorem dX4_tell_47 : decode cX4_tell 47 = .ok (.iload_n 1, 1) := by decide +kernel
theorem dX4_tell_48 : decode cX4_tell 48 = .ok (.iadd, 1) := by decide +kernel
theorem dX4_tell_49 : decode cX4_tell 49 = .ok (.iload_n 2, 1) := by decide +kernel
theorem dX4_tell_50 : decode cX4_tell 50 = .ok (.iastore, 1) := by decide +kernel
theorem dX4_tell_51 : decode cX4_tell 51 = .ok (.iload_n 3, 1) := by decide +kernel
theorem dX4_tell_52 : decode cX4_tell 52 = .ok (.ireturn, 1) := by decide +kernel
theorem dX4_toldMany_0 : decode cX4_toldMany 0 = .ok (.iconst 0, 1) := by decide +kernel
theorem dX4_toldMany_1 : decode cX4_toldMany 1 = .ok (.istore_n 1, 1) := by decide +kernel
theorem dX4_toldMany_2 : decode cX4_toldMany 2 = .ok (.iconst 0, 1) := by decide +kernel
theorem dX4_toldMany_3 : decode cX4_toldMany 3 = .ok (.istore_n 2, 1) := by decide +kernel
theorem dX4_toldMany_4 : decode cX4_toldMany 4 = .ok (.iload_n 2, 1) := by decide +kernel
theorem dX4_toldMany_5 : decode cX4_toldMany 5 = .ok (.bipush 6, 2) := by decide +kernel
theorem dX4_toldMany_7 : decode cX4_toldMany 7 = .ok (.if_icmp .ge 29, 3) := by decide +kernel
theorem dX4_toldMany_10 : decode cX4_toldMany 10 = .ok (.iload_n 1, 1) := by decide +kernel
theorem dX4_toldMany_11 : decode cX4_toldMany 11 = .ok (.aload_n 0, 1) := by decide +kernel
theorem dX4_toldMany_12 : decode cX4_toldMany 12 = .ok (.getfield 7, 3) := by decide +kernel
theorem dX4_toldMany_15 : decode cX4_toldMany 15 = .ok (.bipush 21, 2) := by decide +kernel
theorem dX4_toldMany_17 : decode cX4_toldMany 17 = .ok (.iload_n 2, 1) := by decide +kernel
theorem dX4_toldMany_18 : decode cX4_toldMany 18 = .ok (.iadd, 1) := by decide +kernel
theorem dX4_toldMany_19 : decode cX4_toldMany 19 = .ok (.iaload, 1) := by decide +kernel
theorem dX4_toldMany_20 : decode cX4_toldMany 20 = .ok (.ifCond .lt 7, 3) := by decide +kernel
theorem dX4_toldMany_23 : decode cX4_toldMany 23 = .ok (.iconst 1, 1) := by decide +kernel
theorem dX4_toldMany_24 : decode cX4_toldMany 24 = .ok (.goto 4, 3) := by decide +kernel
theorem dX4_toldMany_27 : decode cX4_toldMany 27 = .ok (.iconst 0, 1) := by decide +kernel
theorem dX4_toldMany_28 : decode cX4_toldMany 28 = .ok (.iadd, 1) := by decide +kernel
theorem dX4_toldMany_29 : decode cX4_toldMany 29 = .ok (.istore_n 1, 1) := by decide +kernel
theorem dX4_toldMany_30 : decode cX4_toldMany 30 = .ok (.iinc 2 1, 3) := by decide +kernel
theorem dX4_toldMany_33 : decode cX4_toldMany 33 = .ok (.goto (-29), 3) := by decide +kernel
theorem dX4_toldMany_36 : decode cX4_toldMany 36 = .ok (.iload_n 1, 1) := by decide +kernel
theorem dX4_toldMany_37 : decode cX4_toldMany 37 = .ok (.ireturn, 1) := by decide +kernel
theorem dX4_forget_0 : decode cX4_forget 0 = .ok (.aload_n 0, 1) := by decide +kernel
theorem dX4_forget_1 : decode cX4_forget 1 = .ok (.invokevirtual 203, 3) := by decide +kernel
theorem dX4_forget_4 : decode cX4_forget 4 = .ok (.istore_n 1, 1) := by decide +kernel
theorem dX4_forget_5 : decode cX4_forget 5 = .ok (.iconst 0, 1) := by decide +kernel
theorem dX4_forget_6 : decode cX4_forget 6 = .ok (.istore_n 2, 1) := by decide +kernel
theorem dX4_forget_7 : decode cX4_forget 7 = .ok (.iload_n 2, 1) := by decide +kernel
theorem dX4_forget_8 : decode cX4_forget 8 = .ok (.bipush 6, 2) := by decide +kernel
theorem dX4_forget_10 : decode cX4_forget 10 = .ok (.if_icmp .ge 19, 3) := by decide +kernel
theorem dX4_forget_13 : decode cX4_forget 13 = .ok (.aload_n 0, 1) := by decide +kernel
theorem dX4_forget_14 : decode cX4_forget 14 = .ok (.getfield 7, 3) := by decide +kernel
theorem dX4_forget_17 : decode cX4_forget 17 = .ok (.bipush 21, 2) := by decide +kernel
theorem dX4_forget_19 : decode cX4_forget 19 = .ok (.iload_n 2, 1) := by decide +kernel
theorem dX4_forget_20 : decode cX4_forget 20 = .ok (.iadd, 1) := by decide +kernel
theorem dX4_forget_21 : decode cX4_forget 21 = .ok (.iconst (-1), 1) := by decide +kernel
theorem dX4_forget_22 : decode cX4_forget 22 = .ok (.iastore, 1) := by decide +kernel
theorem dX4_forget_23 : decode cX4_forget 23 = .ok (.iinc 2 1, 3) := by decide +kernel
theorem dX4_forget_26 : decode cX4_forget 26 = .ok (.goto (-19), 3) := by decide +kernel
theorem dX4_forget_29 : decode cX4_forget 29 = .ok (.iload_n 1, 1) := by decide +kernel
theorem dX4_forget_30 : decode cX4_forget 30 = .ok (.ireturn, 1) := by decide +kernel
theorem dX4_takeTold_0 : decode cX4_takeTold 0 = .ok (.iconst 0, 1) := by decide +kernel
theorem dX4_takeTold_1 : decode cX4_takeTold 1 = .ok (.istore_n 2, 1) := by decide +kernel
theorem dX4_takeTold_2 : decode cX4_takeTold 2 = .ok (.iload_n 2, 1) := by decide +kernel
theorem dX4_takeTold_3 : decode cX4_takeTold 3 = .ok (.bipush 6, 2) := by decide +kernel
theorem dX4_takeTold_5 : decode cX4_takeTold 5 = .ok (.if_icmp .ge 36, 3) := by decide +kernel
theorem dX4_takeTold_8 : decode cX4_takeTold 8 = .ok (.aload_n 0, 1) := by decide +kernel
theorem dX4_takeTold_9 : decode cX4_takeTold 9 = .ok (.getfield 26, 3) := by decide +kernel
theorem dX4_takeTold_12 : decode cX4_takeTold 12 = .ok (.iload_n 2, 1) := by decide +kernel
theorem dX4_takeTold_13 : decode cX4_takeTold 13 = .ok (.iload_n 1, 1) := by decide +kernel
theorem dX4_takeTold_14 : decode cX4_takeTold 14 = .ok (.iload_n 2, 1) := by decide +kernel
theorem dX4_takeTold_15 : decode cX4_takeTold 15 = .ok (.invokestatic 141, 3) := by decide +kernel
theorem dX4_takeTold_18 : decode cX4_takeTold 18 = .ok (.ifCond .eq 7, 3) := by decide +kernel
theorem dX4_takeTold_21 : decode cX4_takeTold 21 = .ok (.iconst (-1), 1) := by decide +kernel
theorem dX4_takeTold_22 : decode cX4_takeTold 22 = .ok (.goto 12, 3) := by decide +kernel
theorem dX4_takeTold_25 : decode cX4_takeTold 25 = .ok (.aload_n 0, 1) := by decide +kernel
theorem dX4_takeTold_26 : decode cX4_takeTold 26 = .ok (.getfield 7, 3) := by decide +kernel
theorem dX4_takeTold_29 : decode cX4_takeTold 29 = .ok (.bipush 21, 2) := by decide +kernel
theorem dX4_takeTold_31 : decode cX4_takeTold 31 = .ok (.iload_n 2, 1) := by decide +kernel
theorem dX4_takeTold_32 : decode cX4_takeTold 32 = .ok (.iadd, 1) := by decide +kernel
theorem dX4_takeTold_33 : decode cX4_takeTold 33 = .ok (.iaload, 1) := by decide +kernel
theorem dX4_takeTold_34 : decode cX4_takeTold 34 = .ok (.iastore, 1) := by decide +kernel
theorem dX4_takeTold_35 : decode cX4_takeTold 35 = .ok (.iinc 2 1, 3) := by decide +kernel
theorem dX4_takeTold_38 : decode cX4_takeTold 38 = .ok (.goto (-36), 3) := by decide +kernel
theorem dX4_takeTold_41 : decode cX4_takeTold 41 = .ok (.return_, 1) := by decide +kernel
theorem dX4_agree_0 : decode cX4_agree 0 = .ok (.aload_n 0, 1) := by decide +kernel
theorem dX4_agree_1 : decode cX4_agree 1 = .ok (.iconst 0, 1) := by decide +kernel
theorem dX4_agree_2 : decode cX4_agree 2 = .ok (.invokevirtual 206, 3) := by decide +kernel
theorem dX4_agree_5 : decode cX4_agree 5 = .ok (.aload_n 0, 1) := by decide +kernel
theorem dX4_agree_6 : decode cX4_agree 6 = .ok (.invokevirtual 132, 3) := by decide +kernel
theorem dX4_agree_9 : decode cX4_agree 9 = .ok (.aload_n 0, 1) := by decide +kernel
theorem dX4_agree_10 : decode cX4_agree 10 = .ok (.getfield 7, 3) := by decide +kernel
theorem dX4_agree_13 : decode cX4_agree 13 = .ok (.iconst 1, 1) := by decide +kernel
theorem dX4_agree_14 : decode cX4_agree 14 = .ok (.iaload, 1) := by decide +kernel
theorem dX4_agree_15 : decode cX4_agree 15 = .ok (.if_icmp .ge 7, 3) := by decide +kernel
theorem dX4_agree_18 : decode cX4_agree 18 = .ok (.iconst (-1), 1) := by decide +kernel
theorem dX4_agree_19 : decode cX4_agree 19 = .ok (.goto 15, 3) := by decide +kernel
theorem dX4_agree_22 : decode cX4_agree 22 = .ok (.aload_n 0, 1) := by decide +kernel
theorem dX4_agree_23 : decode cX4_agree 23 = .ok (.invokevirtual 210, 3) := by decide +kernel
theorem dX4_agree_26 : decode cX4_agree 26 = .ok (.ifCond .eq 7, 3) := by decide +kernel
theorem dX4_agree_29 : decode cX4_agree 29 = .ok (.iconst 1, 1) := by decide +kernel
theorem dX4_agree_30 : decode cX4_agree 30 = .ok (.goto 4, 3) := by decide +kernel
theorem dX4_agree_33 : decode cX4_agree 33 = .ok (.iconst 0, 1) := by decide +kernel
theorem dX4_agree_34 : decode cX4_agree 34 = .ok (.ireturn, 1) := by decide +kernel
theorem dX4_findLiars_0 : decode cX4_findLiars 0 = .ok (.iconst (-1), 1) := by decide +kernel
theorem dX4_findLiars_1 : decode cX4_findLiars 1 = .ok (.istore_n 1, 1) := by decide +kernel
theorem dX4_findLiars_2 : decode cX4_findLiars 2 = .ok (.iconst 0, 1) := by decide +kernel
theorem dX4_findLiars_3 : decode cX4_findLiars 3 = .ok (.istore_n 2, 1) := by decide +kernel
theorem dX4_findLiars_4 : decode cX4_findLiars 4 = .ok (.iload_n 2, 1) := by decide +kernel
theorem dX4_findLiars_5 : decode cX4_findLiars 5 = .ok (.bipush 64, 2) := by decide +kernel
theorem dX4_findLiars_7 : decode cX4_findLiars 7 = .ok (.if_icmp .ge 121, 3) := by decide +kernel
theorem dX4_findLiars_10 : decode cX4_findLiars 10 = .ok (.aload_n 0, 1) := by decide +kernel
theorem dX4_findLiars_11 : decode cX4_findLiars 11 = .ok (.iload_n 2, 1) := by decide +kernel
theorem dX4_findLiars_12 : decode cX4_findLiars 12 = .ok (.invokevirtual 206, 3) := by decide +kernel
theorem dX4_findLiars_15 : decode cX4_findLiars 15 = .ok (.iconst 1, 1) := by decide +kernel
theorem dX4_findLiars_16 : decode cX4_findLiars 16 = .ok (.istore_n 3, 1) := by decide +kernel
theorem dX4_findLiars_17 : decode cX4_findLiars 17 = .ok (.iconst 0, 1) := by decide +kernel
theorem dX4_findLiars_18 : decode cX4_findLiars 18 = .ok (.istore 4, 2) := by decide +kernel
theorem dX4_findLiars_20 : decode cX4_findLiars 20 = .ok (.iload 4, 2) := by decide +kernel
theorem dX4_findLiars_22 : decode cX4_findLiars 22 = .ok (.bipush 6, 2) := by decide +kernel
theorem dX4_findLiars_24 : decode cX4_findLiars 24 = .ok (.if_icmp .ge 41, 3) := by decide +kernel
theorem dX4_findLiars_27 : decode cX4_findLiars 27 = .ok (.iload_n 3, 1) := by decide +kernel
theorem dX4_findLiars_28 : decode cX4_findLiars 28 = .ok (.ifCond .eq 29, 3) := by decide +kernel
theorem dX4_findLiars_31 : decode cX4_findLiars 31 = .ok (.iload_n 2, 1) := by decide +kernel
theorem dX4_findLiars_32 : decode cX4_findLiars 32 = .ok (.iload 4, 2) := by decide +kernel
theorem dX4_findLiars_34 : decode cX4_findLiars 34 = .ok (.invokestatic 141, 3) := by decide +kernel
theorem dX4_findLiars_37 : decode cX4_findLiars 37 = .ok (.ifCond .eq 16, 3) := by decide +kernel
theorem dX4_findLiars_40 : decode cX4_findLiars 40 = .ok (.aload_n 0, 1) := by decide +kernel
theorem dX4_findLiars_41 : decode cX4_findLiars 41 = .ok (.getfield 7, 3) := by decide +kernel
theorem dX4_findLiars_44 : decode cX4_findLiars 44 = .ok (.bipush 21, 2) := by decide +kernel
theorem dX4_findLiars_46 : decode cX4_findLiars 46 = .ok (.iload 4, 2) := by decide +kernel
theorem dX4_findLiars_48 : decode cX4_findLiars 48 = .ok (.iadd, 1) := by decide +kernel
theorem dX4_findLiars_49 : decode cX4_findLiars 49 = .ok (.iaload, 1) := by decide +kernel
theorem dX4_findLiars_50 : decode cX4_findLiars 50 = .ok (.ifCond .lt 7, 3) := by decide +kernel
theorem dX4_findLiars_53 : decode cX4_findLiars 53 = .ok (.iconst 1, 1) := by decide +kernel
theorem dX4_findLiars_54 : decode cX4_findLiars 54 = .ok (.goto 4, 3) := by decide +kernel
theorem dX4_findLiars_57 : decode cX4_findLiars 57 = .ok (.iconst 0, 1) := by decide +kernel
theorem dX4_findLiars_58 : decode cX4_findLiars 58 = .ok (.istore_n 3, 1) := by decide +kernel
theorem dX4_findLiars_59 : decode cX4_findLiars 59 = .ok (.iinc 4 1, 3) := by decide +kernel
theorem dX4_findLiars_62 : decode cX4_findLiars 62 = .ok (.goto (-42), 3) := by decide +kernel
theorem dX4_findLiars_65 : decode cX4_findLiars 65 = .ok (.iload_n 3, 1) := by decide +kernel
theorem dX4_findLiars_66 : decode cX4_findLiars 66 = .ok (.ifCond .eq 27, 3) := by decide +kernel
theorem dX4_findLiars_69 : decode cX4_findLiars 69 = .ok (.aload_n 0, 1) := by decide +kernel
theorem dX4_findLiars_70 : decode cX4_findLiars 70 = .ok (.invokevirtual 132, 3) := by decide +kernel
theorem dX4_findLiars_73 : decode cX4_findLiars 73 = .ok (.aload_n 0, 1) := by decide +kernel
theorem dX4_findLiars_74 : decode cX4_findLiars 74 = .ok (.getfield 7, 3) := by decide +kernel
theorem dX4_findLiars_77 : decode cX4_findLiars 77 = .ok (.iconst 1, 1) := by decide +kernel
theorem dX4_findLiars_78 : decode cX4_findLiars 78 = .ok (.iaload, 1) := by decide +kernel
theorem dX4_findLiars_79 : decode cX4_findLiars 79 = .ok (.if_icmp .le 14, 3) := by decide +kernel
theorem dX4_findLiars_82 : decode cX4_findLiars 82 = .ok (.aload_n 0, 1) := by decide +kernel
theorem dX4_findLiars_83 : decode cX4_findLiars 83 = .ok (.invokevirtual 210, 3) := by decide +kernel
theorem dX4_findLiars_86 : decode cX4_findLiars 86 = .ok (.ifCond .eq 7, 3) := by decide +kernel
theorem dX4_findLiars_89 : decode cX4_findLiars 89 = .ok (.iconst 1, 1) := by decide +kernel
theorem dX4_findLiars_90 : decode cX4_findLiars 90 = .ok (.goto 4, 3) := by decide +kernel
theorem dX4_findLiars_93 : decode cX4_findLiars 93 = .ok (.iconst 0, 1) := by decide +kernel
theorem dX4_findLiars_94 : decode cX4_findLiars 94 = .ok (.istore 4, 2) := by decide +kernel
theorem dX4_findLiars_96 : decode cX4_findLiars 96 = .ok (.iload 4, 2) := by decide +kernel
theorem dX4_findLiars_98 : decode cX4_findLiars 98 = .ok (.ifCond .eq 22, 3) := by decide +kernel
theorem dX4_findLiars_101 : decode cX4_findLiars 101 = .ok (.iload_n 1, 1) := by decide +kernel
theorem dX4_findLiars_102 : decode cX4_findLiars 102 = .ok (.ifCond .lt 14, 3) := by decide +kernel
theorem dX4_findLiars_105 : decode cX4_findLiars 105 = .ok (.iload_n 2, 1) := by decide +kernel
theorem dX4_findLiars_106 : decode cX4_findLiars 106 = .ok (.invokestatic 138, 3) := by decide +kernel
theorem dX4_findLiars_109 : decode cX4_findLiars 109 = .ok (.iload_n 1, 1) := by decide +kernel
theorem dX4_findLiars_110 : decode cX4_findLiars 110 = .ok (.invokestatic 138, 3) := by decide +kernel
theorem dX4_findLiars_113 : decode cX4_findLiars 113 = .ok (.if_icmp .ge 7, 3) := by decide +kernel
theorem dX4_findLiars_116 : decode cX4_findLiars 116 = .ok (.iload_n 2, 1) := by decide +kernel
theorem dX4_findLiars_117 : decode cX4_findLiars 117 = .ok (.goto 4, 3) := by decide +kernel
theorem dX4_findLiars_120 : decode cX4_findLiars 120 = .ok (.iload_n 1, 1) := by decide +kernel
theorem dX4_findLiars_121 : decode cX4_findLiars 121 = .ok (.istore_n 1, 1) := by decide +kernel
theorem dX4_findLiars_122 : decode cX4_findLiars 122 = .ok (.iinc 2 1, 3) := by decide +kernel
theorem dX4_findLiars_125 : decode cX4_findLiars 125 = .ok (.goto (-121), 3) := by decide +kernel
theorem dX4_findLiars_128 : decode cX4_findLiars 128 = .ok (.iload_n 1, 1) := by decide +kernel
theorem dX4_findLiars_129 : decode cX4_findLiars 129 = .ok (.ireturn, 1) := by decide +kernel
theorem dX4_liars_0 : decode cX4_liars 0 = .ok (.aload_n 0, 1) := by decide +kernel
theorem dX4_liars_1 : decode cX4_liars 1 = .ok (.invokevirtual 214, 3) := by decide +kernel
theorem dX4_liars_4 : decode cX4_liars 4 = .ok (.ireturn, 1) := by decide +kernel
theorem dX4_guess_0 : decode cX4_guess 0 = .ok (.aload_n 0, 1) := by decide +kernel
theorem dX4_guess_1 : decode cX4_guess 1 = .ok (.invokevirtual 214, 3) := by decide +kernel
theorem dX4_guess_4 : decode cX4_guess 4 = .ok (.istore_n 1, 1) := by decide +kernel
theorem dX4_guess_5 : decode cX4_guess 5 = .ok (.iload_n 1, 1) := by decide +kernel
theorem dX4_guess_6 : decode cX4_guess 6 = .ok (.ifCond .ge 5, 3) := by decide +kernel
theorem dX4_guess_9 : decode cX4_guess 9 = .ok (.iconst (-1), 1) := by decide +kernel
theorem dX4_guess_10 : decode cX4_guess 10 = .ok (.ireturn, 1) := by decide +kernel
theorem dX4_guess_11 : decode cX4_guess 11 = .ok (.aload_n 0, 1) := by decide +kernel
theorem dX4_guess_12 : decode cX4_guess 12 = .ok (.iload_n 1, 1) := by decide +kernel
theorem dX4_guess_13 : decode cX4_guess 13 = .ok (.invokevirtual 206, 3) := by decide +kernel
theorem dX4_guess_16 : decode cX4_guess 16 = .ok (.aload_n 0, 1) := by decide +kernel
theorem dX4_guess_17 : decode cX4_guess 17 = .ok (.invokevirtual 156, 3) := by decide +kernel
theorem dX4_guess_20 : decode cX4_guess 20 = .ok (.ireturn, 1) := by decide +kernel
theorem dX4_mixed_0 : decode cX4_mixed 0 = .ok (.iload_n 1, 1) := by decide +kernel
theorem dX4_mixed_1 : decode cX4_mixed 1 = .ok (.invokestatic 217, 3) := by decide +kernel
theorem dX4_mixed_4 : decode cX4_mixed 4 = .ok (.ifCond .eq 25, 3) := by decide +kernel
theorem dX4_mixed_7 : decode cX4_mixed 7 = .ok (.aload_n 0, 1) := by decide +kernel
theorem dX4_mixed_8 : decode cX4_mixed 8 = .ok (.iload_n 2, 1) := by decide +kernel
theorem dX4_mixed_9 : decode cX4_mixed 9 = .ok (.invokevirtual 163, 3) := by decide +kernel
theorem dX4_mixed_12 : decode cX4_mixed 12 = .ok (.ifCond .eq 17, 3) := by decide +kernel
theorem dX4_mixed_15 : decode cX4_mixed 15 = .ok (.aload_n 0, 1) := by decide +kernel
theorem dX4_mixed_16 : decode cX4_mixed 16 = .ok (.iload_n 3, 1) := by decide +kernel
theorem dX4_mixed_17 : decode cX4_mixed 17 = .ok (.invokevirtual 163, 3) := by decide +kernel
theorem dX4_mixed_20 : decode cX4_mixed 20 = .ok (.ifCond .eq 9, 3) := by decide +kernel
theorem dX4_mixed_23 : decode cX4_mixed 23 = .ok (.iload_n 2, 1) := by decide +kernel
theorem dX4_mixed_24 : decode cX4_mixed 24 = .ok (.iload_n 3, 1) := by decide +kernel
theorem dX4_mixed_25 : decode cX4_mixed 25 = .ok (.iand, 1) := by decide +kernel
theorem dX4_mixed_26 : decode cX4_mixed 26 = .ok (.ifCond .eq 8, 3) := by decide +kernel
theorem dX4_mixed_29 : decode cX4_mixed 29 = .ok (.aload_n 0, 1) := by decide +kernel
theorem dX4_mixed_30 : decode cX4_mixed 30 = .ok (.invokevirtual 64, 3) := by decide +kernel
theorem dX4_mixed_33 : decode cX4_mixed 33 = .ok (.ireturn, 1) := by decide +kernel
theorem dX4_mixed_34 : decode cX4_mixed 34 = .ok (.aload_n 0, 1) := by decide +kernel
theorem dX4_mixed_35 : decode cX4_mixed 35 = .ok (.getfield 35, 3) := by decide +kernel
theorem dX4_mixed_38 : decode cX4_mixed 38 = .ok (.iload_n 1, 1) := by decide +kernel
theorem dX4_mixed_39 : decode cX4_mixed 39 = .ok (.baload, 1) := by decide +kernel
theorem dX4_mixed_40 : decode cX4_mixed 40 = .ok (.ifCond .ne 8, 3) := by decide +kernel
theorem dX4_mixed_43 : decode cX4_mixed 43 = .ok (.aload_n 0, 1) := by decide +kernel
theorem dX4_mixed_44 : decode cX4_mixed 44 = .ok (.invokevirtual 189, 3) := by decide +kernel
theorem dX4_mixed_47 : decode cX4_mixed 47 = .ok (.ireturn, 1) := by decide +kernel
theorem dX4_mixed_48 : decode cX4_mixed 48 = .ok (.iconst 0, 1) := by decide +kernel
theorem dX4_mixed_49 : decode cX4_mixed 49 = .ok (.istore 4, 2) := by decide +kernel
theorem dX4_mixed_51 : decode cX4_mixed 51 = .ok (.iload 4, 2) := by decide +kernel
theorem dX4_mixed_53 : decode cX4_mixed 53 = .ok (.bipush 6, 2) := by decide +kernel
theorem dX4_mixed_55 : decode cX4_mixed 55 = .ok (.if_icmp .ge 66, 3) := by decide +kernel
theorem dX4_mixed_58 : decode cX4_mixed 58 = .ok (.aload_n 0, 1) := by decide +kernel
theorem dX4_mixed_59 : decode cX4_mixed 59 = .ok (.getfield 26, 3) := by decide +kernel
theorem dX4_mixed_62 : decode cX4_mixed 62 = .ok (.iload 4, 2) := by decide +kernel
theorem dX4_mixed_64 : decode cX4_mixed 64 = .ok (.iload_n 2, 1) := by decide +kernel
theorem dX4_mixed_65 : decode cX4_mixed 65 = .ok (.iload 4, 2) := by decide +kernel
theorem dX4_mixed_67 : decode cX4_mixed 67 = .ok (.invokestatic 141, 3) := by decide +kernel
theorem dX4_mixed_70 : decode cX4_mixed 70 = .ok (.ifCond .eq 20, 3) := by decide +kernel
theorem dX4_mixed_73 : decode cX4_mixed 73 = .ok (.aload_n 0, 1) := by decide +kernel
theorem dX4_mixed_74 : decode cX4_mixed 74 = .ok (.aload_n 0, 1) := by decide +kernel
theorem dX4_mixed_75 : decode cX4_mixed 75 = .ok (.getfield 39, 3) := by decide +kernel
theorem dX4_mixed_78 : decode cX4_mixed 78 = .ok (.bipush 27, 2) := by decide +kernel
theorem dX4_mixed_80 : decode cX4_mixed 80 = .ok (.iload_n 1, 1) := by decide +kernel
theorem dX4_mixed_81 : decode cX4_mixed 81 = .ok (.imul, 1) := by decide +kernel
theorem dX4_mixed_82 : decode cX4_mixed 82 = .ok (.iload 4, 2) := by decide +kernel
theorem dX4_mixed_84 : decode cX4_mixed 84 = .ok (.invokevirtual 145, 3) := by decide +kernel
theorem dX4_mixed_87 : decode cX4_mixed 87 = .ok (.goto 27, 3) := by decide +kernel
theorem dX4_mixed_90 : decode cX4_mixed 90 = .ok (.iload_n 3, 1) := by decide +kernel
theorem dX4_mixed_91 : decode cX4_mixed 91 = .ok (.iload 4, 2) := by decide +kernel
theorem dX4_mixed_93 : decode cX4_mixed 93 = .ok (.invokestatic 141, 3) := by decide +kernel
theorem dX4_mixed_96 : decode cX4_mixed 96 = .ok (.ifCond .eq 17, 3) := by decide +kernel
theorem dX4_mixed_99 : decode cX4_mixed 99 = .ok (.aload_n 0, 1) := by decide +kernel
theorem dX4_mixed_100 : decode cX4_mixed 100 = .ok (.aload_n 0, 1) := by decide +kernel
theorem dX4_mixed_101 : decode cX4_mixed 101 = .ok (.getfield 7, 3) := by decide +kernel
theorem dX4_mixed_104 : decode cX4_mixed 104 = .ok (.iconst 0, 1) := by decide +kernel
theorem dX4_mixed_105 : decode cX4_mixed 105 = .ok (.iload 4, 2) := by decide +kernel
theorem dX4_mixed_107 : decode cX4_mixed 107 = .ok (.invokevirtual 145, 3) := by decide +kernel
theorem dX4_mixed_110 : decode cX4_mixed 110 = .ok (.goto 4, 3) := by decide +kernel
theorem dX4_mixed_113 : decode cX4_mixed 113 = .ok (.iconst (-1), 1) := by decide +kernel
theorem dX4_mixed_114 : decode cX4_mixed 114 = .ok (.iastore, 1) := by decide +kernel
theorem dX4_mixed_115 : decode cX4_mixed 115 = .ok (.iinc 4 1, 3) := by decide +kernel
theorem dX4_mixed_118 : decode cX4_mixed 118 = .ok (.goto (-67), 3) := by decide +kernel
theorem dX4_mixed_121 : decode cX4_mixed 121 = .ok (.aload_n 0, 1) := by decide +kernel
theorem dX4_mixed_122 : decode cX4_mixed 122 = .ok (.invokevirtual 156, 3) := by decide +kernel
theorem dX4_mixed_125 : decode cX4_mixed 125 = .ok (.ireturn, 1) := by decide +kernel
theorem dX4_atLeast_0 : decode cX4_atLeast 0 = .ok (.lconst 0, 1) := by decide +kernel
theorem dX4_atLeast_1 : decode cX4_atLeast 1 = .ok (.lstore_n 3, 1) := by decide +kernel
theorem dX4_atLeast_2 : decode cX4_atLeast 2 = .ok (.iconst 0, 1) := by decide +kernel
theorem dX4_atLeast_3 : decode cX4_atLeast 3 = .ok (.istore 5, 2) := by decide +kernel
theorem dX4_atLeast_5 : decode cX4_atLeast 5 = .ok (.iload 5, 2) := by decide +kernel
theorem dX4_atLeast_7 : decode cX4_atLeast 7 = .ok (.aload_n 0, 1) := by decide +kernel
theorem dX4_atLeast_8 : decode cX4_atLeast 8 = .ok (.invokevirtual 220, 3) := by decide +kernel
theorem dX4_atLeast_11 : decode cX4_atLeast 11 = .ok (.if_icmp .gt 76, 3) := by decide +kernel
theorem dX4_atLeast_14 : decode cX4_atLeast 14 = .ok (.lconst 1, 1) := by decide +kernel
theorem dX4_atLeast_15 : decode cX4_atLeast 15 = .ok (.lstore 6, 2) := by decide +kernel
theorem dX4_atLeast_17 : decode cX4_atLeast 17 = .ok (.iconst 0, 1) := by decide +kernel
theorem dX4_atLeast_18 : decode cX4_atLeast 18 = .ok (.istore 8, 2) := by decide +kernel
theorem dX4_atLeast_20 : decode cX4_atLeast 20 = .ok (.iload 8, 2) := by decide +kernel
theorem dX4_atLeast_22 : decode cX4_atLeast 22 = .ok (.aload_n 0, 1) := by decide +kernel
theorem dX4_atLeast_23 : decode cX4_atLeast 23 = .ok (.getfield 7, 3) := by decide +kernel
theorem dX4_atLeast_26 : decode cX4_atLeast 26 = .ok (.bipush 8, 2) := by decide +kernel
theorem dX4_atLeast_28 : decode cX4_atLeast 28 = .ok (.iaload, 1) := by decide +kernel
theorem dX4_atLeast_29 : decode cX4_atLeast 29 = .ok (.if_icmp .ge 34, 3) := by decide +kernel
theorem dX4_atLeast_32 : decode cX4_atLeast 32 = .ok (.lload 6, 2) := by decide +kernel
theorem dX4_atLeast_34 : decode cX4_atLeast 34 = .ok (.iload 5, 2) := by decide +kernel
theorem dX4_atLeast_36 : decode cX4_atLeast 36 = .ok (.iload 8, 2) := by decide +kernel
theorem dX4_atLeast_38 : decode cX4_atLeast 38 = .ok (.invokestatic 141, 3) := by decide +kernel
theorem dX4_atLeast_41 : decode cX4_atLeast 41 = .ok (.ifCond .eq 8, 3) := by decide +kernel
theorem dX4_atLeast_44 : decode cX4_atLeast 44 = .ok (.iload_n 1, 1) := by decide +kernel
theorem dX4_atLeast_45 : decode cX4_atLeast 45 = .ok (.i2l, 1) := by decide +kernel
theorem dX4_atLeast_46 : decode cX4_atLeast 46 = .ok (.goto 8, 3) := by decide +kernel
theorem dX4_atLeast_49 : decode cX4_atLeast 49 = .ok (.bipush 10, 2) := by decide +kernel
theorem dX4_atLeast_51 : decode cX4_atLeast 51 = .ok (.iload_n 1, 1) := by decide +kernel
theorem dX4_atLeast_52 : decode cX4_atLeast 52 = .ok (.isub, 1) := by decide +kernel
theorem dX4_atLeast_53 : decode cX4_atLeast 53 = .ok (.i2l, 1) := by decide +kernel
theorem dX4_atLeast_54 : decode cX4_atLeast 54 = .ok (.lmul, 1) := by decide +kernel
theorem dX4_atLeast_55 : decode cX4_atLeast 55 = .ok (.lstore 6, 2) := by decide +kernel
theorem dX4_atLeast_57 : decode cX4_atLeast 57 = .ok (.iinc 8 1, 3) := by decide +kernel
theorem dX4_atLeast_60 : decode cX4_atLeast 60 = .ok (.goto (-40), 3) := by decide +kernel
theorem dX4_atLeast_63 : decode cX4_atLeast 63 = .ok (.lload_n 3, 1) := by decide +kernel
theorem dX4_atLeast_64 : decode cX4_atLeast 64 = .ok (.iload 5, 2) := by decide +kernel
theorem dX4_atLeast_66 : decode cX4_atLeast 66 = .ok (.invokestatic 138, 3) := by decide +kernel
theorem dX4_atLeast_69 : decode cX4_atLeast 69 = .ok (.iload_n 2, 1) := by decide +kernel
theorem dX4_atLeast_70 : decode cX4_atLeast 70 = .ok (.if_icmp .lt 8, 3) := by decide +kernel
theorem dX4_atLeast_73 : decode cX4_atLeast 73 = .ok (.lload 6, 2) := by decide +kernel
theorem dX4_atLeast_75 : decode cX4_atLeast 75 = .ok (.goto 4, 3) := by decide +kernel
theorem dX4_atLeast_78 : decode cX4_atLeast 78 = .ok (.lconst 0, 1) := by decide +kernel
theorem dX4_atLeast_79 : decode cX4_atLeast 79 = .ok (.ladd, 1) := by decide +kernel
theorem dX4_atLeast_80 : decode cX4_atLeast 80 = .ok (.lstore_n 3, 1) := by decide +kernel
theorem dX4_atLeast_81 : decode cX4_atLeast 81 = .ok (.iinc 5 1, 3) := by decide +kernel
theorem dX4_atLeast_84 : decode cX4_atLeast 84 = .ok (.goto (-79), 3) := by decide +kernel
theorem dX4_atLeast_87 : decode cX4_atLeast 87 = .ok (.lload_n 3, 1) := by decide +kernel
theorem dX4_atLeast_88 : decode cX4_atLeast 88 = .ok (.lreturn, 1) := by decide +kernel
theorem dX4_setFraction_0 : decode cX4_setFraction 0 = .ok (.lload_n 1, 1) := by decide +kernel
theorem dX4_setFraction_1 : decode cX4_setFraction 1 = .ok (.lstore 5, 2) := by decide +kernel
theorem dX4_setFraction_3 : decode cX4_setFraction 3 = .ok (.lload_n 3, 1) := by decide +kernel
theorem dX4_setFraction_4 : decode cX4_setFraction 4 = .ok (.lstore 7, 2) := by decide +kernel
theorem dX4_setFraction_6 : decode cX4_setFraction 6 = .ok (.lload 7, 2) := by decide +kernel
theorem dX4_setFraction_8 : decode cX4_setFraction 8 = .ok (.lconst 0, 1) := by decide +kernel
theorem dX4_setFraction_9 : decode cX4_setFraction 9 = .ok (.lcmp, 1) := by decide +kernel
theorem dX4_setFraction_10 : decode cX4_setFraction 10 = .ok (.ifCond .eq 21, 3) := by decide +kernel
theorem dX4_setFraction_13 : decode cX4_setFraction 13 = .ok (.lload 5, 2) := by decide +kernel
theorem dX4_setFraction_15 : decode cX4_setFraction 15 = .ok (.lload 7, 2) := by decide +kernel
theorem dX4_setFraction_17 : decode cX4_setFraction 17 = .ok (.lrem, 1) := by decide +kernel
theorem dX4_setFraction_18 : decode cX4_setFraction 18 = .ok (.lstore 9, 2) := by decide +kernel
theorem dX4_setFraction_20 : decode cX4_setFraction 20 = .ok (.lload 7, 2) := by decide +kernel
theorem dX4_setFraction_22 : decode cX4_setFraction 22 = .ok (.lstore 5, 2) := by decide +kernel
theorem dX4_setFraction_24 : decode cX4_setFraction 24 = .ok (.lload 9, 2) := by decide +kernel
theorem dX4_setFraction_26 : decode cX4_setFraction 26 = .ok (.lstore 7, 2) := by decide +kernel
theorem dX4_setFraction_28 : decode cX4_setFraction 28 = .ok (.goto (-22), 3) := by decide +kernel
theorem dX4_setFraction_31 : decode cX4_setFraction 31 = .ok (.aload_n 0, 1) := by decide +kernel
theorem dX4_setFraction_32 : decode cX4_setFraction 32 = .ok (.lload_n 1, 1) := by decide +kernel
theorem dX4_setFraction_33 : decode cX4_setFraction 33 = .ok (.lload 5, 2) := by decide +kernel
theorem dX4_setFraction_35 : decode cX4_setFraction 35 = .ok (.ldiv, 1) := by decide +kernel
theorem dX4_setFraction_36 : decode cX4_setFraction 36 = .ok (.putfield 223, 3) := by decide +kernel
theorem dX4_setFraction_39 : decode cX4_setFraction 39 = .ok (.aload_n 0, 1) := by decide +kernel
theorem dX4_setFraction_40 : decode cX4_setFraction 40 = .ok (.lload_n 3, 1) := by decide +kernel
theorem dX4_setFraction_41 : decode cX4_setFraction 41 = .ok (.lload 5, 2) := by decide +kernel
theorem dX4_setFraction_43 : decode cX4_setFraction 43 = .ok (.ldiv, 1) := by decide +kernel
theorem dX4_setFraction_44 : decode cX4_setFraction 44 = .ok (.putfield 13, 3) := by decide +kernel
theorem dX4_setFraction_47 : decode cX4_setFraction 47 = .ok (.return_, 1) := by decide +kernel
theorem dX4_odds_0 : decode cX4_odds 0 = .ok (.iload_n 1, 1) := by decide +kernel
theorem dX4_odds_1 : decode cX4_odds 1 = .ok (.i2l, 1) := by decide +kernel
theorem dX4_odds_2 : decode cX4_odds 2 = .ok (.lconst 0, 1) := by decide +kernel
theorem dX4_odds_3 : decode cX4_odds 3 = .ok (.ldc2_w 226, 3) := by decide +kernel
theorem dX4_odds_6 : decode cX4_odds 6 = .ok (.invokestatic 52, 3) := by decide +kernel
theorem dX4_odds_9 : decode cX4_odds 9 = .ok (.ifCond .ne 8, 3) := by decide +kernel
theorem dX4_odds_12 : decode cX4_odds 12 = .ok (.aload_n 0, 1) := by decide +kernel
theorem dX4_odds_13 : decode cX4_odds 13 = .ok (.invokevirtual 64, 3) := by decide +kernel
theorem dX4_odds_16 : decode cX4_odds 16 = .ok (.ireturn, 1) := by decide +kernel
theorem dX4_odds_17 : decode cX4_odds 17 = .ok (.aload_n 0, 1) := by decide +kernel
