theorem dR_riskWith_137 : decode mR_riskWith.2.1 137 = .ok (.getfield 25, 3) := by decide +kernel
theorem dR_riskWith_140 : decode mR_riskWith.2.1 140 = .ok (.iload 12, 2) := by decide +kernel
theorem dR_riskWith_142 : decode mR_riskWith.2.1 142 = .ok (.iaload, 1) := by decide +kernel
theorem dR_riskWith_143 : decode mR_riskWith.2.1 143 = .ok (.i2l, 1) := by decide +kernel
theorem dR_riskWith_144 : decode mR_riskWith.2.1 144 = .ok (.goto (4), 3) := by decide +kernel
theorem dR_riskWith_147 : decode mR_riskWith.2.1 147 = .ok (.lconst 0, 1) := by decide +kernel
theorem dR_riskWith_148 : decode mR_riskWith.2.1 148 = .ok (.ladd, 1) := by decide +kernel
theorem dR_riskWith_149 : decode mR_riskWith.2.1 149 = .ok (.lstore 10, 2) := by decide +kernel
theorem dR_riskWith_151 : decode mR_riskWith.2.1 151 = .ok (.iinc 12 (1), 3) := by decide +kernel
theorem dR_riskWith_154 : decode mR_riskWith.2.1 154 = .ok (.goto (-100), 3) := by decide +kernel
theorem dR_riskWith_157 : decode mR_riskWith.2.1 157 = .ok (.aload_n 0, 1) := by decide +kernel
theorem dR_riskWith_158 : decode mR_riskWith.2.1 158 = .ok (.getfield 44, 3) := by decide +kernel
theorem dR_riskWith_161 : decode mR_riskWith.2.1 161 = .ok (.iconst 2, 1) := by decide +kernel
theorem dR_riskWith_162 : decode mR_riskWith.2.1 162 = .ok (.iload_n 1, 1) := by decide +kernel
theorem dR_riskWith_163 : decode mR_riskWith.2.1 163 = .ok (.imul, 1) := by decide +kernel
theorem dR_riskWith_164 : decode mR_riskWith.2.1 164 = .ok (.iload 7, 2) := by decide +kernel
theorem dR_riskWith_166 : decode mR_riskWith.2.1 166 = .ok (.iadd, 1) := by decide +kernel
theorem dR_riskWith_167 : decode mR_riskWith.2.1 167 = .ok (.iaload, 1) := by decide +kernel
theorem dR_riskWith_168 : decode mR_riskWith.2.1 168 = .ok (.i2l, 1) := by decide +kernel
theorem dR_riskWith_169 : decode mR_riskWith.2.1 169 = .ok (.lload 8, 2) := by decide +kernel
theorem dR_riskWith_171 : decode mR_riskWith.2.1 171 = .ok (.ladd, 1) := by decide +kernel
theorem dR_riskWith_172 : decode mR_riskWith.2.1 172 = .ok (.invokestatic 94, 3) := by decide +kernel
theorem dR_riskWith_175 : decode mR_riskWith.2.1 175 = .ok (.lstore 12, 2) := by decide +kernel
theorem dR_riskWith_177 : decode mR_riskWith.2.1 177 = .ok (.aload_n 0, 1) := by decide +kernel
theorem dR_riskWith_178 : decode mR_riskWith.2.1 178 = .ok (.getfield 44, 3) := by decide +kernel
theorem dR_riskWith_181 : decode mR_riskWith.2.1 181 = .ok (.iconst 2, 1) := by decide +kernel
theorem dR_riskWith_182 : decode mR_riskWith.2.1 182 = .ok (.iload_n 1, 1) := by decide +kernel
theorem dR_riskWith_183 : decode mR_riskWith.2.1 183 = .ok (.imul, 1) := by decide +kernel
theorem dR_riskWith_184 : decode mR_riskWith.2.1 184 = .ok (.iload 7, 2) := by decide +kernel
theorem dR_riskWith_186 : decode mR_riskWith.2.1 186 = .ok (.iadd, 1) := by decide +kernel
theorem dR_riskWith_187 : decode mR_riskWith.2.1 187 = .ok (.iaload, 1) := by decide +kernel
theorem dR_riskWith_188 : decode mR_riskWith.2.1 188 = .ok (.i2l, 1) := by decide +kernel
theorem dR_riskWith_189 : decode mR_riskWith.2.1 189 = .ok (.lload 10, 2) := by decide +kernel
theorem dR_riskWith_191 : decode mR_riskWith.2.1 191 = .ok (.lsub, 1) := by decide +kernel
theorem dR_riskWith_192 : decode mR_riskWith.2.1 192 = .ok (.invokestatic 94, 3) := by decide +kernel
theorem dR_riskWith_195 : decode mR_riskWith.2.1 195 = .ok (.lstore 14, 2) := by decide +kernel
theorem dR_riskWith_197 : decode mR_riskWith.2.1 197 = .ok (.lload 5, 2) := by decide +kernel
theorem dR_riskWith_199 : decode mR_riskWith.2.1 199 = .ok (.iload 7, 2) := by decide +kernel
theorem dR_riskWith_201 : decode mR_riskWith.2.1 201 = .ok (.ifCond .ne (7), 3) := by decide +kernel
theorem dR_riskWith_204 : decode mR_riskWith.2.1 204 = .ok (.iconst 3, 1) := by decide +kernel
theorem dR_riskWith_205 : decode mR_riskWith.2.1 205 = .ok (.goto (4), 3) := by decide +kernel
theorem dR_riskWith_208 : decode mR_riskWith.2.1 208 = .ok (.iconst 5, 1) := by decide +kernel
theorem dR_riskWith_209 : decode mR_riskWith.2.1 209 = .ok (.i2l, 1) := by decide +kernel
theorem dR_riskWith_210 : decode mR_riskWith.2.1 210 = .ok (.lload 12, 2) := by decide +kernel
theorem dR_riskWith_212 : decode mR_riskWith.2.1 212 = .ok (.lload 14, 2) := by decide +kernel
theorem dR_riskWith_214 : decode mR_riskWith.2.1 214 = .ok (.lcmp, 1) := by decide +kernel
theorem dR_riskWith_215 : decode mR_riskWith.2.1 215 = .ok (.ifCond .le (8), 3) := by decide +kernel
theorem dR_riskWith_218 : decode mR_riskWith.2.1 218 = .ok (.lload 12, 2) := by decide +kernel
theorem dR_riskWith_220 : decode mR_riskWith.2.1 220 = .ok (.goto (5), 3) := by decide +kernel
theorem dR_riskWith_223 : decode mR_riskWith.2.1 223 = .ok (.lload 14, 2) := by decide +kernel
theorem dR_riskWith_225 : decode mR_riskWith.2.1 225 = .ok (.lmul, 1) := by decide +kernel
theorem dR_riskWith_226 : decode mR_riskWith.2.1 226 = .ok (.ladd, 1) := by decide +kernel
theorem dR_riskWith_227 : decode mR_riskWith.2.1 227 = .ok (.lstore 5, 2) := by decide +kernel
theorem dR_riskWith_229 : decode mR_riskWith.2.1 229 = .ok (.iinc 7 (1), 3) := by decide +kernel
theorem dR_riskWith_232 : decode mR_riskWith.2.1 232 = .ok (.goto (-226), 3) := by decide +kernel
theorem dR_riskWith_235 : decode mR_riskWith.2.1 235 = .ok (.lload 5, 2) := by decide +kernel
theorem dR_riskWith_237 : decode mR_riskWith.2.1 237 = .ok (.lreturn, 1) := by decide +kernel
theorem dR_size_0 : decode mR_size.2.1 0 = .ok (.lload_n 0, 1) := by decide +kernel
theorem dR_size_1 : decode mR_size.2.1 1 = .ok (.lconst 0, 1) := by decide +kernel
theorem dR_size_2 : decode mR_size.2.1 2 = .ok (.lcmp, 1) := by decide +kernel
theorem dR_size_3 : decode mR_size.2.1 3 = .ok (.ifCond .ge (8), 3) := by decide +kernel
theorem dR_size_6 : decode mR_size.2.1 6 = .ok (.lload_n 0, 1) := by decide +kernel
theorem dR_size_7 : decode mR_size.2.1 7 = .ok (.lneg, 1) := by decide +kernel
theorem dR_size_8 : decode mR_size.2.1 8 = .ok (.goto (4), 3) := by decide +kernel
theorem dR_size_11 : decode mR_size.2.1 11 = .ok (.lload_n 0, 1) := by decide +kernel
theorem dR_size_12 : decode mR_size.2.1 12 = .ok (.lreturn, 1) := by decide +kernel
theorem dR_place_0 : decode mR_place.2.1 0 = .ok (.iload_n 3, 1) := by decide +kernel
theorem dR_place_1 : decode mR_place.2.1 1 = .ok (.iconst 2, 1) := by decide +kernel
theorem dR_place_2 : decode mR_place.2.1 2 = .ok (.idiv, 1) := by decide +kernel
theorem dR_place_3 : decode mR_place.2.1 3 = .ok (.istore 6, 2) := by decide +kernel
theorem dR_place_5 : decode mR_place.2.1 5 = .ok (.iload_n 3, 1) := by decide +kernel
theorem dR_place_6 : decode mR_place.2.1 6 = .ok (.iconst 2, 1) := by decide +kernel
theorem dR_place_7 : decode mR_place.2.1 7 = .ok (.irem, 1) := by decide +kernel
theorem dR_place_8 : decode mR_place.2.1 8 = .ok (.istore 7, 2) := by decide +kernel
theorem dR_place_10 : decode mR_place.2.1 10 = .ok (.iload_n 1, 1) := by decide +kernel
theorem dR_place_11 : decode mR_place.2.1 11 = .ok (.invokestatic 101, 3) := by decide +kernel
theorem dR_place_14 : decode mR_place.2.1 14 = .ok (.ifCond .ne (50), 3) := by decide +kernel
theorem dR_place_17 : decode mR_place.2.1 17 = .ok (.iload_n 2, 1) := by decide +kernel
theorem dR_place_18 : decode mR_place.2.1 18 = .ok (.iconst 0, 1) := by decide +kernel
theorem dR_place_19 : decode mR_place.2.1 19 = .ok (.iconst 1, 1) := by decide +kernel
theorem dR_place_20 : decode mR_place.2.1 20 = .ok (.invokestatic 98, 3) := by decide +kernel
theorem dR_place_23 : decode mR_place.2.1 23 = .ok (.ifCond .ne (41), 3) := by decide +kernel
theorem dR_place_26 : decode mR_place.2.1 26 = .ok (.iload_n 3, 1) := by decide +kernel
theorem dR_place_27 : decode mR_place.2.1 27 = .ok (.iconst 0, 1) := by decide +kernel
theorem dR_place_28 : decode mR_place.2.1 28 = .ok (.bipush (11), 2) := by decide +kernel
theorem dR_place_30 : decode mR_place.2.1 30 = .ok (.invokestatic 98, 3) := by decide +kernel
theorem dR_place_33 : decode mR_place.2.1 33 = .ok (.ifCond .ne (31), 3) := by decide +kernel
theorem dR_place_36 : decode mR_place.2.1 36 = .ok (.iload 5, 2) := by decide +kernel
theorem dR_place_38 : decode mR_place.2.1 38 = .ok (.iconst 1, 1) := by decide +kernel
theorem dR_place_39 : decode mR_place.2.1 39 = .ok (.bipush (99), 2) := by decide +kernel
theorem dR_place_41 : decode mR_place.2.1 41 = .ok (.invokestatic 98, 3) := by decide +kernel
theorem dR_place_44 : decode mR_place.2.1 44 = .ok (.ifCond .ne (20), 3) := by decide +kernel
theorem dR_place_47 : decode mR_place.2.1 47 = .ok (.iload 6, 2) := by decide +kernel
theorem dR_place_49 : decode mR_place.2.1 49 = .ok (.iconst 3, 1) := by decide +kernel
theorem dR_place_50 : decode mR_place.2.1 50 = .ok (.if_icmp .eq (16), 3) := by decide +kernel
theorem dR_place_53 : decode mR_place.2.1 53 = .ok (.iload 4, 2) := by decide +kernel
theorem dR_place_55 : decode mR_place.2.1 55 = .ok (.iconst 1, 1) := by decide +kernel
theorem dR_place_56 : decode mR_place.2.1 56 = .ok (.bipush (63), 2) := by decide +kernel
theorem dR_place_58 : decode mR_place.2.1 58 = .ok (.invokestatic 98, 3) := by decide +kernel
theorem dR_place_61 : decode mR_place.2.1 61 = .ok (.ifCond .eq (5), 3) := by decide +kernel
theorem dR_place_64 : decode mR_place.2.1 64 = .ok (.iconst (-1), 1) := by decide +kernel
theorem dR_place_65 : decode mR_place.2.1 65 = .ok (.ireturn, 1) := by decide +kernel
theorem dR_place_66 : decode mR_place.2.1 66 = .ok (.aload_n 0, 1) := by decide +kernel
theorem dR_place_67 : decode mR_place.2.1 67 = .ok (.getfield 57, 3) := by decide +kernel
theorem dR_place_70 : decode mR_place.2.1 70 = .ok (.bipush (120), 2) := by decide +kernel
theorem dR_place_72 : decode mR_place.2.1 72 = .ok (.if_icmp .ne (6), 3) := by decide +kernel
theorem dR_place_75 : decode mR_place.2.1 75 = .ok (.bipush (-2), 2) := by decide +kernel
theorem dR_place_77 : decode mR_place.2.1 77 = .ok (.ireturn, 1) := by decide +kernel
theorem dR_place_78 : decode mR_place.2.1 78 = .ok (.aload_n 0, 1) := by decide +kernel
theorem dR_place_79 : decode mR_place.2.1 79 = .ok (.getfield 47, 3) := by decide +kernel
theorem dR_place_82 : decode mR_place.2.1 82 = .ok (.iload_n 2, 1) := by decide +kernel
theorem dR_place_83 : decode mR_place.2.1 83 = .ok (.baload, 1) := by decide +kernel
theorem dR_place_84 : decode mR_place.2.1 84 = .ok (.ifCond .ne (17), 3) := by decide +kernel
theorem dR_place_87 : decode mR_place.2.1 87 = .ok (.iload 6, 2) := by decide +kernel
theorem dR_place_89 : decode mR_place.2.1 89 = .ok (.ifCond .eq (12), 3) := by decide +kernel
theorem dR_place_92 : decode mR_place.2.1 92 = .ok (.iload 6, 2) := by decide +kernel
theorem dR_place_94 : decode mR_place.2.1 94 = .ok (.iconst 5, 1) := by decide +kernel
theorem dR_place_95 : decode mR_place.2.1 95 = .ok (.if_icmp .eq (6), 3) := by decide +kernel
theorem dR_place_98 : decode mR_place.2.1 98 = .ok (.bipush (-3), 2) := by decide +kernel
theorem dR_place_100 : decode mR_place.2.1 100 = .ok (.ireturn, 1) := by decide +kernel
theorem dR_place_101 : decode mR_place.2.1 101 = .ok (.aload_n 0, 1) := by decide +kernel
theorem dR_place_102 : decode mR_place.2.1 102 = .ok (.iload_n 1, 1) := by decide +kernel
theorem dR_place_103 : decode mR_place.2.1 103 = .ok (.iload_n 2, 1) := by decide +kernel
theorem dR_place_104 : decode mR_place.2.1 104 = .ok (.iload 7, 2) := by decide +kernel
theorem dR_place_106 : decode mR_place.2.1 106 = .ok (.iload 5, 2) := by decide +kernel
theorem dR_place_108 : decode mR_place.2.1 108 = .ok (.invokevirtual 107, 3) := by decide +kernel
theorem dR_place_111 : decode mR_place.2.1 111 = .ok (.aload_n 0, 1) := by decide +kernel
theorem dR_place_112 : decode mR_place.2.1 112 = .ok (.getfield 37, 3) := by decide +kernel
theorem dR_place_115 : decode mR_place.2.1 115 = .ok (.iload_n 1, 1) := by decide +kernel
theorem dR_place_116 : decode mR_place.2.1 116 = .ok (.laload, 1) := by decide +kernel
theorem dR_place_117 : decode mR_place.2.1 117 = .ok (.lcmp, 1) := by decide +kernel
theorem dR_place_118 : decode mR_place.2.1 118 = .ok (.ifCond .le (6), 3) := by decide +kernel
theorem dR_place_121 : decode mR_place.2.1 121 = .ok (.bipush (-4), 2) := by decide +kernel
theorem dR_place_123 : decode mR_place.2.1 123 = .ok (.ireturn, 1) := by decide +kernel
theorem dR_place_124 : decode mR_place.2.1 124 = .ok (.aload_n 0, 1) := by decide +kernel
theorem dR_place_125 : decode mR_place.2.1 125 = .ok (.iload_n 1, 1) := by decide +kernel
theorem dR_place_126 : decode mR_place.2.1 126 = .ok (.iload_n 2, 1) := by decide +kernel
theorem dR_place_127 : decode mR_place.2.1 127 = .ok (.iload 6, 2) := by decide +kernel
theorem dR_place_129 : decode mR_place.2.1 129 = .ok (.iload 7, 2) := by decide +kernel
theorem dR_place_131 : decode mR_place.2.1 131 = .ok (.iload 4, 2) := by decide +kernel
theorem dR_place_133 : decode mR_place.2.1 133 = .ok (.iload 5, 2) := by decide +kernel
theorem dR_place_135 : decode mR_place.2.1 135 = .ok (.invokevirtual 111, 3) := by decide +kernel
theorem dR_place_138 : decode mR_place.2.1 138 = .ok (.ifCond .eq (6), 3) := by decide +kernel
theorem dR_place_141 : decode mR_place.2.1 141 = .ok (.bipush (-5), 2) := by decide +kernel
theorem dR_place_143 : decode mR_place.2.1 143 = .ok (.ireturn, 1) := by decide +kernel
theorem dR_place_144 : decode mR_place.2.1 144 = .ok (.aload_n 0, 1) := by decide +kernel
theorem dR_place_145 : decode mR_place.2.1 145 = .ok (.getfield 57, 3) := by decide +kernel
theorem dR_place_148 : decode mR_place.2.1 148 = .ok (.istore 8, 2) := by decide +kernel
theorem dR_place_150 : decode mR_place.2.1 150 = .ok (.aload_n 0, 1) := by decide +kernel
theorem dR_place_151 : decode mR_place.2.1 151 = .ok (.getfield 7, 3) := by decide +kernel
theorem dR_place_154 : decode mR_place.2.1 154 = .ok (.iload 8, 2) := by decide +kernel
theorem dR_place_156 : decode mR_place.2.1 156 = .ok (.iload_n 1, 1) := by decide +kernel
theorem dR_place_157 : decode mR_place.2.1 157 = .ok (.iastore, 1) := by decide +kernel
theorem dR_place_158 : decode mR_place.2.1 158 = .ok (.aload_n 0, 1) := by decide +kernel
theorem dR_place_159 : decode mR_place.2.1 159 = .ok (.getfield 13, 3) := by decide +kernel
theorem dR_place_162 : decode mR_place.2.1 162 = .ok (.iload 8, 2) := by decide +kernel
theorem dR_place_164 : decode mR_place.2.1 164 = .ok (.iload_n 2, 1) := by decide +kernel
theorem dR_place_165 : decode mR_place.2.1 165 = .ok (.iastore, 1) := by decide +kernel
theorem dR_place_166 : decode mR_place.2.1 166 = .ok (.aload_n 0, 1) := by decide +kernel
theorem dR_place_167 : decode mR_place.2.1 167 = .ok (.getfield 16, 3) := by decide +kernel
theorem dR_place_170 : decode mR_place.2.1 170 = .ok (.iload 8, 2) := by decide +kernel
theorem dR_place_172 : decode mR_place.2.1 172 = .ok (.iload 7, 2) := by decide +kernel
theorem dR_place_174 : decode mR_place.2.1 174 = .ok (.iastore, 1) := by decide +kernel
theorem dR_place_175 : decode mR_place.2.1 175 = .ok (.aload_n 0, 1) := by decide +kernel
theorem dR_place_176 : decode mR_place.2.1 176 = .ok (.getfield 19, 3) := by decide +kernel
theorem dR_place_179 : decode mR_place.2.1 179 = .ok (.iload 8, 2) := by decide +kernel
theorem dR_place_181 : decode mR_place.2.1 181 = .ok (.iload 6, 2) := by decide +kernel
theorem dR_place_183 : decode mR_place.2.1 183 = .ok (.iastore, 1) := by decide +kernel
theorem dR_place_184 : decode mR_place.2.1 184 = .ok (.aload_n 0, 1) := by decide +kernel
theorem dR_place_185 : decode mR_place.2.1 185 = .ok (.getfield 22, 3) := by decide +kernel
theorem dR_place_188 : decode mR_place.2.1 188 = .ok (.iload 8, 2) := by decide +kernel
theorem dR_place_190 : decode mR_place.2.1 190 = .ok (.iload 4, 2) := by decide +kernel
theorem dR_place_192 : decode mR_place.2.1 192 = .ok (.iastore, 1) := by decide +kernel
theorem dR_place_193 : decode mR_place.2.1 193 = .ok (.aload_n 0, 1) := by decide +kernel
theorem dR_place_194 : decode mR_place.2.1 194 = .ok (.getfield 25, 3) := by decide +kernel
theorem dR_place_197 : decode mR_place.2.1 197 = .ok (.iload 8, 2) := by decide +kernel
theorem dR_place_199 : decode mR_place.2.1 199 = .ok (.iload 5, 2) := by decide +kernel
theorem dR_place_201 : decode mR_place.2.1 201 = .ok (.iastore, 1) := by decide +kernel
theorem dR_place_202 : decode mR_place.2.1 202 = .ok (.aload_n 0, 1) := by decide +kernel
theorem dR_place_203 : decode mR_place.2.1 203 = .ok (.getfield 31, 3) := by decide +kernel
theorem dR_place_206 : decode mR_place.2.1 206 = .ok (.iload 8, 2) := by decide +kernel
theorem dR_place_208 : decode mR_place.2.1 208 = .ok (.iconst 3, 1) := by decide +kernel
theorem dR_place_209 : decode mR_place.2.1 209 = .ok (.iastore, 1) := by decide +kernel
theorem dR_place_210 : decode mR_place.2.1 210 = .ok (.aload_n 0, 1) := by decide +kernel
theorem dR_place_211 : decode mR_place.2.1 211 = .ok (.dup, 1) := by decide +kernel
theorem dR_place_212 : decode mR_place.2.1 212 = .ok (.getfield 57, 3) := by decide +kernel
theorem dR_place_215 : decode mR_place.2.1 215 = .ok (.iconst 1, 1) := by decide +kernel
theorem dR_place_216 : decode mR_place.2.1 216 = .ok (.iadd, 1) := by decide +kernel
theorem dR_place_217 : decode mR_place.2.1 217 = .ok (.putfield 57, 3) := by decide +kernel
theorem dR_place_220 : decode mR_place.2.1 220 = .ok (.aload_n 0, 1) := by decide +kernel
theorem dR_place_221 : decode mR_place.2.1 221 = .ok (.getfield 47, 3) := by decide +kernel
theorem dR_place_224 : decode mR_place.2.1 224 = .ok (.iload_n 2, 1) := by decide +kernel
theorem dR_place_225 : decode mR_place.2.1 225 = .ok (.baload, 1) := by decide +kernel
theorem dR_place_226 : decode mR_place.2.1 226 = .ok (.istore 9, 2) := by decide +kernel
theorem dR_place_228 : decode mR_place.2.1 228 = .ok (.iload 9, 2) := by decide +kernel
theorem dR_place_230 : decode mR_place.2.1 230 = .ok (.ifCond .eq (14), 3) := by decide +kernel
theorem dR_place_233 : decode mR_place.2.1 233 = .ok (.aload_n 0, 1) := by decide +kernel
theorem dR_place_234 : decode mR_place.2.1 234 = .ok (.iload 8, 2) := by decide +kernel
theorem dR_place_236 : decode mR_place.2.1 236 = .ok (.invokevirtual 115, 3) := by decide +kernel
theorem dR_place_239 : decode mR_place.2.1 239 = .ok (.istore 9, 2) := by decide +kernel
theorem dR_place_241 : decode mR_place.2.1 241 = .ok (.goto (-13), 3) := by decide +kernel
theorem dR_place_244 : decode mR_place.2.1 244 = .ok (.aload_n 0, 1) := by decide +kernel
theorem dR_place_245 : decode mR_place.2.1 245 = .ok (.getfield 25, 3) := by decide +kernel
theorem dR_place_248 : decode mR_place.2.1 248 = .ok (.iload 8, 2) := by decide +kernel
theorem dR_place_250 : decode mR_place.2.1 250 = .ok (.iaload, 1) := by decide +kernel
theorem dR_place_251 : decode mR_place.2.1 251 = .ok (.ifCond .ne (14), 3) := by decide +kernel
theorem dR_place_254 : decode mR_place.2.1 254 = .ok (.aload_n 0, 1) := by decide +kernel
theorem dR_place_255 : decode mR_place.2.1 255 = .ok (.getfield 31, 3) := by decide +kernel
theorem dR_place_258 : decode mR_place.2.1 258 = .ok (.iload 8, 2) := by decide +kernel
theorem dR_place_260 : decode mR_place.2.1 260 = .ok (.iconst 1, 1) := by decide +kernel
theorem dR_place_261 : decode mR_place.2.1 261 = .ok (.iastore, 1) := by decide +kernel
theorem dR_place_262 : decode mR_place.2.1 262 = .ok (.goto (32), 3) := by decide +kernel
theorem dR_place_265 : decode mR_place.2.1 265 = .ok (.iload 6, 2) := by decide +kernel
theorem dR_place_267 : decode mR_place.2.1 267 = .ok (.iconst 1, 1) := by decide +kernel
theorem dR_place_268 : decode mR_place.2.1 268 = .ok (.if_icmp .eq (9), 3) := by decide +kernel
theorem dR_place_271 : decode mR_place.2.1 271 = .ok (.iload 6, 2) := by decide +kernel
theorem dR_place_273 : decode mR_place.2.1 273 = .ok (.iconst 3, 1) := by decide +kernel
theorem dR_place_274 : decode mR_place.2.1 274 = .ok (.if_icmp .ne (14), 3) := by decide +kernel
theorem dR_place_277 : decode mR_place.2.1 277 = .ok (.aload_n 0, 1) := by decide +kernel
theorem dR_place_278 : decode mR_place.2.1 278 = .ok (.getfield 31, 3) := by decide +kernel
theorem dR_place_281 : decode mR_place.2.1 281 = .ok (.iload 8, 2) := by decide +kernel
theorem dR_place_283 : decode mR_place.2.1 283 = .ok (.iconst 2, 1) := by decide +kernel
theorem dR_place_284 : decode mR_place.2.1 284 = .ok (.iastore, 1) := by decide +kernel
theorem dR_place_285 : decode mR_place.2.1 285 = .ok (.goto (9), 3) := by decide +kernel
theorem dR_place_288 : decode mR_place.2.1 288 = .ok (.aload_n 0, 1) := by decide +kernel
theorem dR_place_289 : decode mR_place.2.1 289 = .ok (.iload 8, 2) := by decide +kernel
theorem dR_place_291 : decode mR_place.2.1 291 = .ok (.invokevirtual 90, 3) := by decide +kernel
theorem dR_place_294 : decode mR_place.2.1 294 = .ok (.iload 8, 2) := by decide +kernel
theorem dR_place_296 : decode mR_place.2.1 296 = .ok (.ireturn, 1) := by decide +kernel
theorem dR_unfit_0 : decode mR_unfit.2.1 0 = .ok (.iconst 0, 1) := by decide +kernel
theorem dR_unfit_1 : decode mR_unfit.2.1 1 = .ok (.istore 7, 2) := by decide +kernel
theorem dR_unfit_3 : decode mR_unfit.2.1 3 = .ok (.iconst 0, 1) := by decide +kernel
theorem dR_unfit_4 : decode mR_unfit.2.1 4 = .ok (.istore 8, 2) := by decide +kernel
theorem dR_unfit_6 : decode mR_unfit.2.1 6 = .ok (.iconst 0, 1) := by decide +kernel
theorem dR_unfit_7 : decode mR_unfit.2.1 7 = .ok (.istore 9, 2) := by decide +kernel
theorem dR_unfit_9 : decode mR_unfit.2.1 9 = .ok (.iload 9, 2) := by decide +kernel
theorem dR_unfit_11 : decode mR_unfit.2.1 11 = .ok (.aload_n 0, 1) := by decide +kernel
theorem dR_unfit_12 : decode mR_unfit.2.1 12 = .ok (.getfield 57, 3) := by decide +kernel
theorem dR_unfit_15 : decode mR_unfit.2.1 15 = .ok (.if_icmp .ge (71), 3) := by decide +kernel
theorem dR_unfit_18 : decode mR_unfit.2.1 18 = .ok (.aload_n 0, 1) := by decide +kernel
theorem dR_unfit_19 : decode mR_unfit.2.1 19 = .ok (.iload 9, 2) := by decide +kernel
theorem dR_unfit_21 : decode mR_unfit.2.1 21 = .ok (.iload_n 2, 1) := by decide +kernel
theorem dR_unfit_22 : decode mR_unfit.2.1 22 = .ok (.iconst 1, 1) := by decide +kernel
theorem dR_unfit_23 : decode mR_unfit.2.1 23 = .ok (.iload 4, 2) := by decide +kernel
theorem dR_unfit_25 : decode mR_unfit.2.1 25 = .ok (.isub, 1) := by decide +kernel
theorem dR_unfit_26 : decode mR_unfit.2.1 26 = .ok (.invokevirtual 61, 3) := by decide +kernel
theorem dR_unfit_29 : decode mR_unfit.2.1 29 = .ok (.ifCond .eq (51), 3) := by decide +kernel
theorem dR_unfit_32 : decode mR_unfit.2.1 32 = .ok (.iload_n 3, 1) := by decide +kernel
theorem dR_unfit_33 : decode mR_unfit.2.1 33 = .ok (.iload 4, 2) := by decide +kernel
theorem dR_unfit_35 : decode mR_unfit.2.1 35 = .ok (.iload 5, 2) := by decide +kernel
theorem dR_unfit_37 : decode mR_unfit.2.1 37 = .ok (.aload_n 0, 1) := by decide +kernel
theorem dR_unfit_38 : decode mR_unfit.2.1 38 = .ok (.getfield 22, 3) := by decide +kernel
theorem dR_unfit_41 : decode mR_unfit.2.1 41 = .ok (.iload 9, 2) := by decide +kernel
theorem dR_unfit_43 : decode mR_unfit.2.1 43 = .ok (.iaload, 1) := by decide +kernel
theorem dR_unfit_44 : decode mR_unfit.2.1 44 = .ok (.invokestatic 78, 3) := by decide +kernel
theorem dR_unfit_47 : decode mR_unfit.2.1 47 = .ok (.ifCond .eq (33), 3) := by decide +kernel
theorem dR_unfit_50 : decode mR_unfit.2.1 50 = .ok (.iinc 7 (1), 3) := by decide +kernel
theorem dR_unfit_53 : decode mR_unfit.2.1 53 = .ok (.iload 8, 2) := by decide +kernel
theorem dR_unfit_55 : decode mR_unfit.2.1 55 = .ok (.aload_n 0, 1) := by decide +kernel
theorem dR_unfit_56 : decode mR_unfit.2.1 56 = .ok (.getfield 7, 3) := by decide +kernel
theorem dR_unfit_59 : decode mR_unfit.2.1 59 = .ok (.iload 9, 2) := by decide +kernel
theorem dR_unfit_61 : decode mR_unfit.2.1 61 = .ok (.iaload, 1) := by decide +kernel
theorem dR_unfit_62 : decode mR_unfit.2.1 62 = .ok (.iload_n 1, 1) := by decide +kernel
theorem dR_unfit_63 : decode mR_unfit.2.1 63 = .ok (.if_icmp .ne (7), 3) := by decide +kernel
theorem dR_unfit_66 : decode mR_unfit.2.1 66 = .ok (.iconst 0, 1) := by decide +kernel
theorem dR_unfit_67 : decode mR_unfit.2.1 67 = .ok (.goto (10), 3) := by decide +kernel
theorem dR_unfit_70 : decode mR_unfit.2.1 70 = .ok (.aload_n 0, 1) := by decide +kernel
theorem dR_unfit_71 : decode mR_unfit.2.1 71 = .ok (.getfield 25, 3) := by decide +kernel
theorem dR_unfit_74 : decode mR_unfit.2.1 74 = .ok (.iload 9, 2) := by decide +kernel
theorem dR_unfit_76 : decode mR_unfit.2.1 76 = .ok (.iaload, 1) := by decide +kernel
theorem dR_unfit_77 : decode mR_unfit.2.1 77 = .ok (.iadd, 1) := by decide +kernel
theorem dR_unfit_78 : decode mR_unfit.2.1 78 = .ok (.istore 8, 2) := by decide +kernel
theorem dR_unfit_80 : decode mR_unfit.2.1 80 = .ok (.iinc 9 (1), 3) := by decide +kernel
theorem dR_unfit_83 : decode mR_unfit.2.1 83 = .ok (.goto (-74), 3) := by decide +kernel
theorem dR_unfit_86 : decode mR_unfit.2.1 86 = .ok (.iload_n 3, 1) := by decide +kernel
theorem dR_unfit_87 : decode mR_unfit.2.1 87 = .ok (.iconst 4, 1) := by decide +kernel
theorem dR_unfit_88 : decode mR_unfit.2.1 88 = .ok (.if_icmp .ne (8), 3) := by decide +kernel
theorem dR_unfit_91 : decode mR_unfit.2.1 91 = .ok (.iload 7, 2) := by decide +kernel
theorem dR_unfit_93 : decode mR_unfit.2.1 93 = .ok (.ifCond .gt (15), 3) := by decide +kernel
theorem dR_unfit_96 : decode mR_unfit.2.1 96 = .ok (.iload_n 3, 1) := by decide +kernel
theorem dR_unfit_97 : decode mR_unfit.2.1 97 = .ok (.iconst 2, 1) := by decide +kernel
theorem dR_unfit_98 : decode mR_unfit.2.1 98 = .ok (.if_icmp .ne (14), 3) := by decide +kernel
theorem dR_unfit_101 : decode mR_unfit.2.1 101 = .ok (.iload 8, 2) := by decide +kernel
theorem dR_unfit_103 : decode mR_unfit.2.1 103 = .ok (.iload 6, 2) := by decide +kernel
theorem dR_unfit_105 : decode mR_unfit.2.1 105 = .ok (.if_icmp .ge (7), 3) := by decide +kernel
theorem dR_unfit_108 : decode mR_unfit.2.1 108 = .ok (.iconst 1, 1) := by decide +kernel
theorem dR_unfit_109 : decode mR_unfit.2.1 109 = .ok (.goto (4), 3) := by decide +kernel
theorem dR_unfit_112 : decode mR_unfit.2.1 112 = .ok (.iconst 0, 1) := by decide +kernel
theorem dR_unfit_113 : decode mR_unfit.2.1 113 = .ok (.ireturn, 1) := by decide +kernel
theorem dR_waits_0 : decode mR_waits.2.1 0 = .ok (.aload_n 0, 1) := by decide +kernel
theorem dR_waits_1 : decode mR_waits.2.1 1 = .ok (.getfield 31, 3) := by decide +kernel
theorem dR_waits_4 : decode mR_waits.2.1 4 = .ok (.iload_n 1, 1) := by decide +kernel
theorem dR_waits_5 : decode mR_waits.2.1 5 = .ok (.iaload, 1) := by decide +kernel
theorem dR_waits_6 : decode mR_waits.2.1 6 = .ok (.ifCond .ne (27), 3) := by decide +kernel
theorem dR_waits_9 : decode mR_waits.2.1 9 = .ok (.aload_n 0, 1) := by decide +kernel
theorem dR_waits_10 : decode mR_waits.2.1 10 = .ok (.getfield 13, 3) := by decide +kernel
theorem dR_waits_13 : decode mR_waits.2.1 13 = .ok (.iload_n 1, 1) := by decide +kernel
theorem dR_waits_14 : decode mR_waits.2.1 14 = .ok (.iaload, 1) := by decide +kernel
theorem dR_waits_15 : decode mR_waits.2.1 15 = .ok (.iload_n 2, 1) := by decide +kernel
theorem dR_waits_16 : decode mR_waits.2.1 16 = .ok (.if_icmp .ne (17), 3) := by decide +kernel
theorem dR_waits_19 : decode mR_waits.2.1 19 = .ok (.aload_n 0, 1) := by decide +kernel
theorem dR_waits_20 : decode mR_waits.2.1 20 = .ok (.getfield 16, 3) := by decide +kernel
theorem dR_waits_23 : decode mR_waits.2.1 23 = .ok (.iload_n 1, 1) := by decide +kernel
theorem dR_waits_24 : decode mR_waits.2.1 24 = .ok (.iaload, 1) := by decide +kernel
theorem dR_waits_25 : decode mR_waits.2.1 25 = .ok (.iload_n 3, 1) := by decide +kernel
theorem dR_waits_26 : decode mR_waits.2.1 26 = .ok (.if_icmp .ne (7), 3) := by decide +kernel
theorem dR_waits_29 : decode mR_waits.2.1 29 = .ok (.iconst 1, 1) := by decide +kernel
theorem dR_waits_30 : decode mR_waits.2.1 30 = .ok (.goto (4), 3) := by decide +kernel
theorem dR_waits_33 : decode mR_waits.2.1 33 = .ok (.iconst 0, 1) := by decide +kernel
theorem dR_waits_34 : decode mR_waits.2.1 34 = .ok (.ireturn, 1) := by decide +kernel
theorem dR_good_0 : decode mR_good.2.1 0 = .ok (.iload_n 0, 1) := by decide +kernel
theorem dR_good_1 : decode mR_good.2.1 1 = .ok (.iconst 3, 1) := by decide +kernel
theorem dR_good_2 : decode mR_good.2.1 2 = .ok (.if_icmp .eq (20), 3) := by decide +kernel
theorem dR_good_5 : decode mR_good.2.1 5 = .ok (.iload_n 1, 1) := by decide +kernel
theorem dR_good_6 : decode mR_good.2.1 6 = .ok (.ifCond .ne (11), 3) := by decide +kernel
theorem dR_good_9 : decode mR_good.2.1 9 = .ok (.iload_n 3, 1) := by decide +kernel
theorem dR_good_10 : decode mR_good.2.1 10 = .ok (.iload_n 2, 1) := by decide +kernel
theorem dR_good_11 : decode mR_good.2.1 11 = .ok (.if_icmp .gt (15), 3) := by decide +kernel
theorem dR_good_14 : decode mR_good.2.1 14 = .ok (.goto (8), 3) := by decide +kernel
theorem dR_good_17 : decode mR_good.2.1 17 = .ok (.iload_n 3, 1) := by decide +kernel
theorem dR_good_18 : decode mR_good.2.1 18 = .ok (.iload_n 2, 1) := by decide +kernel
theorem dR_good_19 : decode mR_good.2.1 19 = .ok (.if_icmp .lt (7), 3) := by decide +kernel
theorem dR_good_22 : decode mR_good.2.1 22 = .ok (.iconst 1, 1) := by decide +kernel
theorem dR_good_23 : decode mR_good.2.1 23 = .ok (.goto (4), 3) := by decide +kernel
theorem dR_good_26 : decode mR_good.2.1 26 = .ok (.iconst 0, 1) := by decide +kernel
theorem dR_good_27 : decode mR_good.2.1 27 = .ok (.ireturn, 1) := by decide +kernel
theorem dR_meet_0 : decode mR_meet.2.1 0 = .ok (.aload_n 0, 1) := by decide +kernel
theorem dR_meet_1 : decode mR_meet.2.1 1 = .ok (.aload_n 0, 1) := by decide +kernel
theorem dR_meet_2 : decode mR_meet.2.1 2 = .ok (.getfield 13, 3) := by decide +kernel
theorem dR_meet_5 : decode mR_meet.2.1 5 = .ok (.iload_n 1, 1) := by decide +kernel
theorem dR_meet_6 : decode mR_meet.2.1 6 = .ok (.iaload, 1) := by decide +kernel
theorem dR_meet_7 : decode mR_meet.2.1 7 = .ok (.iconst 1, 1) := by decide +kernel
theorem dR_meet_8 : decode mR_meet.2.1 8 = .ok (.aload_n 0, 1) := by decide +kernel
theorem dR_meet_9 : decode mR_meet.2.1 9 = .ok (.getfield 16, 3) := by decide +kernel
theorem dR_meet_12 : decode mR_meet.2.1 12 = .ok (.iload_n 1, 1) := by decide +kernel
theorem dR_meet_13 : decode mR_meet.2.1 13 = .ok (.iaload, 1) := by decide +kernel
theorem dR_meet_14 : decode mR_meet.2.1 14 = .ok (.isub, 1) := by decide +kernel
theorem dR_meet_15 : decode mR_meet.2.1 15 = .ok (.invokevirtual 74, 3) := by decide +kernel
theorem dR_meet_18 : decode mR_meet.2.1 18 = .ok (.istore_n 2, 1) := by decide +kernel
theorem dR_meet_19 : decode mR_meet.2.1 19 = .ok (.aload_n 0, 1) := by decide +kernel
theorem dR_meet_20 : decode mR_meet.2.1 20 = .ok (.getfield 25, 3) := by decide +kernel
theorem dR_meet_23 : decode mR_meet.2.1 23 = .ok (.iload_n 1, 1) := by decide +kernel
theorem dR_meet_24 : decode mR_meet.2.1 24 = .ok (.iaload, 1) := by decide +kernel
theorem dR_meet_25 : decode mR_meet.2.1 25 = .ok (.ifCond .eq (37), 3) := by decide +kernel
theorem dR_meet_28 : decode mR_meet.2.1 28 = .ok (.iload_n 2, 1) := by decide +kernel
theorem dR_meet_29 : decode mR_meet.2.1 29 = .ok (.ifCond .lt (33), 3) := by decide +kernel
theorem dR_meet_32 : decode mR_meet.2.1 32 = .ok (.aload_n 0, 1) := by decide +kernel
theorem dR_meet_33 : decode mR_meet.2.1 33 = .ok (.getfield 19, 3) := by decide +kernel
theorem dR_meet_36 : decode mR_meet.2.1 36 = .ok (.iload_n 1, 1) := by decide +kernel
theorem dR_meet_37 : decode mR_meet.2.1 37 = .ok (.iaload, 1) := by decide +kernel
theorem dR_meet_38 : decode mR_meet.2.1 38 = .ok (.aload_n 0, 1) := by decide +kernel
theorem dR_meet_39 : decode mR_meet.2.1 39 = .ok (.getfield 16, 3) := by decide +kernel
theorem dR_meet_42 : decode mR_meet.2.1 42 = .ok (.iload_n 1, 1) := by decide +kernel
theorem dR_meet_43 : decode mR_meet.2.1 43 = .ok (.iaload, 1) := by decide +kernel
theorem dR_meet_44 : decode mR_meet.2.1 44 = .ok (.aload_n 0, 1) := by decide +kernel
theorem dR_meet_45 : decode mR_meet.2.1 45 = .ok (.getfield 22, 3) := by decide +kernel
theorem dR_meet_48 : decode mR_meet.2.1 48 = .ok (.iload_n 1, 1) := by decide +kernel
theorem dR_meet_49 : decode mR_meet.2.1 49 = .ok (.iaload, 1) := by decide +kernel
theorem dR_meet_50 : decode mR_meet.2.1 50 = .ok (.aload_n 0, 1) := by decide +kernel
theorem dR_meet_51 : decode mR_meet.2.1 51 = .ok (.getfield 22, 3) := by decide +kernel
theorem dR_meet_54 : decode mR_meet.2.1 54 = .ok (.iload_n 2, 1) := by decide +kernel
theorem dR_meet_55 : decode mR_meet.2.1 55 = .ok (.iaload, 1) := by decide +kernel
theorem dR_meet_56 : decode mR_meet.2.1 56 = .ok (.invokestatic 78, 3) := by decide +kernel
theorem dR_meet_59 : decode mR_meet.2.1 59 = .ok (.ifCond .ne (5), 3) := by decide +kernel
theorem dR_meet_62 : decode mR_meet.2.1 62 = .ok (.iconst 0, 1) := by decide +kernel
theorem dR_meet_63 : decode mR_meet.2.1 63 = .ok (.ireturn, 1) := by decide +kernel
theorem dR_meet_64 : decode mR_meet.2.1 64 = .ok (.aload_n 0, 1) := by decide +kernel
theorem dR_meet_65 : decode mR_meet.2.1 65 = .ok (.getfield 7, 3) := by decide +kernel
theorem dR_meet_68 : decode mR_meet.2.1 68 = .ok (.iload_n 2, 1) := by decide +kernel
theorem dR_meet_69 : decode mR_meet.2.1 69 = .ok (.iaload, 1) := by decide +kernel
theorem dR_meet_70 : decode mR_meet.2.1 70 = .ok (.aload_n 0, 1) := by decide +kernel
theorem dR_meet_71 : decode mR_meet.2.1 71 = .ok (.getfield 7, 3) := by decide +kernel
theorem dR_meet_74 : decode mR_meet.2.1 74 = .ok (.iload_n 1, 1) := by decide +kernel
theorem dR_meet_75 : decode mR_meet.2.1 75 = .ok (.iaload, 1) := by decide +kernel
theorem dR_meet_76 : decode mR_meet.2.1 76 = .ok (.if_icmp .ne (12), 3) := by decide +kernel
theorem dR_meet_79 : decode mR_meet.2.1 79 = .ok (.aload_n 0, 1) := by decide +kernel
theorem dR_meet_80 : decode mR_meet.2.1 80 = .ok (.getfield 31, 3) := by decide +kernel
theorem dR_meet_83 : decode mR_meet.2.1 83 = .ok (.iload_n 2, 1) := by decide +kernel
theorem dR_meet_84 : decode mR_meet.2.1 84 = .ok (.iconst 2, 1) := by decide +kernel
theorem dR_meet_85 : decode mR_meet.2.1 85 = .ok (.iastore, 1) := by decide +kernel
theorem dR_meet_86 : decode mR_meet.2.1 86 = .ok (.iconst 1, 1) := by decide +kernel
theorem dR_meet_87 : decode mR_meet.2.1 87 = .ok (.ireturn, 1) := by decide +kernel
theorem dR_meet_88 : decode mR_meet.2.1 88 = .ok (.aload_n 0, 1) := by decide +kernel
theorem dR_meet_89 : decode mR_meet.2.1 89 = .ok (.getfield 25, 3) := by decide +kernel
theorem dR_meet_92 : decode mR_meet.2.1 92 = .ok (.iload_n 1, 1) := by decide +kernel
theorem dR_meet_93 : decode mR_meet.2.1 93 = .ok (.iaload, 1) := by decide +kernel
theorem dR_meet_94 : decode mR_meet.2.1 94 = .ok (.aload_n 0, 1) := by decide +kernel
theorem dR_meet_95 : decode mR_meet.2.1 95 = .ok (.iload_n 2, 1) := by decide +kernel
theorem dR_meet_96 : decode mR_meet.2.1 96 = .ok (.invokevirtual 82, 3) := by decide +kernel
theorem dR_meet_99 : decode mR_meet.2.1 99 = .ok (.if_icmp .ge (12), 3) := by decide +kernel
theorem dR_meet_102 : decode mR_meet.2.1 102 = .ok (.aload_n 0, 1) := by decide +kernel
theorem dR_meet_103 : decode mR_meet.2.1 103 = .ok (.getfield 25, 3) := by decide +kernel
theorem dR_meet_106 : decode mR_meet.2.1 106 = .ok (.iload_n 1, 1) := by decide +kernel
theorem dR_meet_107 : decode mR_meet.2.1 107 = .ok (.iaload, 1) := by decide +kernel
theorem dR_meet_108 : decode mR_meet.2.1 108 = .ok (.goto (8), 3) := by decide +kernel
theorem dR_meet_111 : decode mR_meet.2.1 111 = .ok (.aload_n 0, 1) := by decide +kernel
theorem dR_meet_112 : decode mR_meet.2.1 112 = .ok (.iload_n 2, 1) := by decide +kernel
theorem dR_meet_113 : decode mR_meet.2.1 113 = .ok (.invokevirtual 82, 3) := by decide +kernel
theorem dR_meet_116 : decode mR_meet.2.1 116 = .ok (.istore_n 3, 1) := by decide +kernel
theorem dR_meet_117 : decode mR_meet.2.1 117 = .ok (.aload_n 0, 1) := by decide +kernel
theorem dR_meet_118 : decode mR_meet.2.1 118 = .ok (.aload_n 0, 1) := by decide +kernel
theorem dR_meet_119 : decode mR_meet.2.1 119 = .ok (.getfield 16, 3) := by decide +kernel
theorem dR_meet_122 : decode mR_meet.2.1 122 = .ok (.iload_n 1, 1) := by decide +kernel
theorem dR_meet_123 : decode mR_meet.2.1 123 = .ok (.iaload, 1) := by decide +kernel
theorem dR_meet_124 : decode mR_meet.2.1 124 = .ok (.ifCond .ne (7), 3) := by decide +kernel
theorem dR_meet_127 : decode mR_meet.2.1 127 = .ok (.iload_n 1, 1) := by decide +kernel
theorem dR_meet_128 : decode mR_meet.2.1 128 = .ok (.goto (4), 3) := by decide +kernel
theorem dR_meet_131 : decode mR_meet.2.1 131 = .ok (.iload_n 2, 1) := by decide +kernel
theorem dR_meet_132 : decode mR_meet.2.1 132 = .ok (.aload_n 0, 1) := by decide +kernel
theorem dR_meet_133 : decode mR_meet.2.1 133 = .ok (.getfield 16, 3) := by decide +kernel
theorem dR_meet_136 : decode mR_meet.2.1 136 = .ok (.iload_n 1, 1) := by decide +kernel
theorem dR_meet_137 : decode mR_meet.2.1 137 = .ok (.iaload, 1) := by decide +kernel
theorem dR_meet_138 : decode mR_meet.2.1 138 = .ok (.ifCond .ne (7), 3) := by decide +kernel
theorem dR_meet_141 : decode mR_meet.2.1 141 = .ok (.iload_n 2, 1) := by decide +kernel
theorem dR_meet_142 : decode mR_meet.2.1 142 = .ok (.goto (4), 3) := by decide +kernel
theorem dR_meet_145 : decode mR_meet.2.1 145 = .ok (.iload_n 1, 1) := by decide +kernel
theorem dR_meet_146 : decode mR_meet.2.1 146 = .ok (.aload_n 0, 1) := by decide +kernel
theorem dR_meet_147 : decode mR_meet.2.1 147 = .ok (.getfield 22, 3) := by decide +kernel
theorem dR_meet_150 : decode mR_meet.2.1 150 = .ok (.iload_n 2, 1) := by decide +kernel
theorem dR_meet_151 : decode mR_meet.2.1 151 = .ok (.iaload, 1) := by decide +kernel
theorem dR_meet_152 : decode mR_meet.2.1 152 = .ok (.iload_n 3, 1) := by decide +kernel
theorem dR_meet_153 : decode mR_meet.2.1 153 = .ok (.invokevirtual 86, 3) := by decide +kernel
theorem dR_meet_156 : decode mR_meet.2.1 156 = .ok (.aload_n 0, 1) := by decide +kernel
theorem dR_meet_157 : decode mR_meet.2.1 157 = .ok (.getfield 28, 3) := by decide +kernel
theorem dR_meet_160 : decode mR_meet.2.1 160 = .ok (.iload_n 2, 1) := by decide +kernel
theorem dR_meet_161 : decode mR_meet.2.1 161 = .ok (.dup2, 1) := by decide +kernel
theorem dR_meet_162 : decode mR_meet.2.1 162 = .ok (.iaload, 1) := by decide +kernel
theorem dR_meet_163 : decode mR_meet.2.1 163 = .ok (.iload_n 3, 1) := by decide +kernel
theorem dR_meet_164 : decode mR_meet.2.1 164 = .ok (.isub, 1) := by decide +kernel
theorem dR_meet_165 : decode mR_meet.2.1 165 = .ok (.iastore, 1) := by decide +kernel
theorem dR_meet_166 : decode mR_meet.2.1 166 = .ok (.aload_n 0, 1) := by decide +kernel
theorem dR_meet_167 : decode mR_meet.2.1 167 = .ok (.getfield 25, 3) := by decide +kernel
theorem dR_meet_170 : decode mR_meet.2.1 170 = .ok (.iload_n 2, 1) := by decide +kernel
theorem dR_meet_171 : decode mR_meet.2.1 171 = .ok (.iaload, 1) := by decide +kernel
theorem dR_meet_172 : decode mR_meet.2.1 172 = .ok (.ifCond .ne (13), 3) := by decide +kernel
theorem dR_meet_175 : decode mR_meet.2.1 175 = .ok (.aload_n 0, 1) := by decide +kernel
theorem dR_meet_176 : decode mR_meet.2.1 176 = .ok (.getfield 31, 3) := by decide +kernel
theorem dR_meet_179 : decode mR_meet.2.1 179 = .ok (.iload_n 2, 1) := by decide +kernel
theorem dR_meet_180 : decode mR_meet.2.1 180 = .ok (.iconst 1, 1) := by decide +kernel
theorem dR_meet_181 : decode mR_meet.2.1 181 = .ok (.iastore, 1) := by decide +kernel
theorem dR_meet_182 : decode mR_meet.2.1 182 = .ok (.goto (27), 3) := by decide +kernel
theorem dR_meet_185 : decode mR_meet.2.1 185 = .ok (.aload_n 0, 1) := by decide +kernel
theorem dR_meet_186 : decode mR_meet.2.1 186 = .ok (.getfield 19, 3) := by decide +kernel
theorem dR_meet_189 : decode mR_meet.2.1 189 = .ok (.iload_n 2, 1) := by decide +kernel
theorem dR_meet_190 : decode mR_meet.2.1 190 = .ok (.iaload, 1) := by decide +kernel
theorem dR_meet_191 : decode mR_meet.2.1 191 = .ok (.iconst 5, 1) := by decide +kernel
theorem dR_meet_192 : decode mR_meet.2.1 192 = .ok (.if_icmp .ne (17), 3) := by decide +kernel
theorem dR_meet_195 : decode mR_meet.2.1 195 = .ok (.aload_n 0, 1) := by decide +kernel
theorem dR_meet_196 : decode mR_meet.2.1 196 = .ok (.getfield 28, 3) := by decide +kernel
theorem dR_meet_199 : decode mR_meet.2.1 199 = .ok (.iload_n 2, 1) := by decide +kernel
theorem dR_meet_200 : decode mR_meet.2.1 200 = .ok (.iaload, 1) := by decide +kernel
theorem dR_meet_201 : decode mR_meet.2.1 201 = .ok (.ifCond .ne (8), 3) := by decide +kernel
theorem dR_meet_204 : decode mR_meet.2.1 204 = .ok (.aload_n 0, 1) := by decide +kernel
theorem dR_meet_205 : decode mR_meet.2.1 205 = .ok (.iload_n 2, 1) := by decide +kernel
theorem dR_meet_206 : decode mR_meet.2.1 206 = .ok (.invokevirtual 90, 3) := by decide +kernel
theorem dR_meet_209 : decode mR_meet.2.1 209 = .ok (.iconst 1, 1) := by decide +kernel
theorem dR_meet_210 : decode mR_meet.2.1 210 = .ok (.ireturn, 1) := by decide +kernel
theorem dR_front_0 : decode mR_front.2.1 0 = .ok (.iconst (-1), 1) := by decide +kernel
theorem dR_front_1 : decode mR_front.2.1 1 = .ok (.istore_n 3, 1) := by decide +kernel
theorem dR_front_2 : decode mR_front.2.1 2 = .ok (.iconst 0, 1) := by decide +kernel
theorem dR_front_3 : decode mR_front.2.1 3 = .ok (.istore 4, 2) := by decide +kernel
theorem dR_front_5 : decode mR_front.2.1 5 = .ok (.iload 4, 2) := by decide +kernel
theorem dR_front_7 : decode mR_front.2.1 7 = .ok (.aload_n 0, 1) := by decide +kernel
theorem dR_front_8 : decode mR_front.2.1 8 = .ok (.getfield 57, 3) := by decide +kernel
theorem dR_front_11 : decode mR_front.2.1 11 = .ok (.if_icmp .ge (79), 3) := by decide +kernel
theorem dR_front_14 : decode mR_front.2.1 14 = .ok (.aload_n 0, 1) := by decide +kernel
theorem dR_front_15 : decode mR_front.2.1 15 = .ok (.iload 4, 2) := by decide +kernel
theorem dR_front_17 : decode mR_front.2.1 17 = .ok (.iload_n 1, 1) := by decide +kernel
theorem dR_front_18 : decode mR_front.2.1 18 = .ok (.iload_n 2, 1) := by decide +kernel
theorem dR_front_19 : decode mR_front.2.1 19 = .ok (.invokevirtual 61, 3) := by decide +kernel
theorem dR_front_22 : decode mR_front.2.1 22 = .ok (.ifCond .eq (62), 3) := by decide +kernel
theorem dR_front_25 : decode mR_front.2.1 25 = .ok (.iload_n 3, 1) := by decide +kernel
theorem dR_front_26 : decode mR_front.2.1 26 = .ok (.ifCond .lt (55), 3) := by decide +kernel
theorem dR_front_29 : decode mR_front.2.1 29 = .ok (.iload_n 2, 1) := by decide +kernel
theorem dR_front_30 : decode mR_front.2.1 30 = .ok (.aload_n 0, 1) := by decide +kernel
theorem dR_front_31 : decode mR_front.2.1 31 = .ok (.getfield 22, 3) := by decide +kernel
theorem dR_front_34 : decode mR_front.2.1 34 = .ok (.iload 4, 2) := by decide +kernel
theorem dR_front_36 : decode mR_front.2.1 36 = .ok (.iaload, 1) := by decide +kernel
theorem dR_front_37 : decode mR_front.2.1 37 = .ok (.aload_n 0, 1) := by decide +kernel
theorem dR_front_38 : decode mR_front.2.1 38 = .ok (.getfield 22, 3) := by decide +kernel
theorem dR_front_41 : decode mR_front.2.1 41 = .ok (.iload_n 3, 1) := by decide +kernel
theorem dR_front_42 : decode mR_front.2.1 42 = .ok (.iaload, 1) := by decide +kernel
theorem dR_front_43 : decode mR_front.2.1 43 = .ok (.invokestatic 65, 3) := by decide +kernel
theorem dR_front_46 : decode mR_front.2.1 46 = .ok (.ifCond .ne (35), 3) := by decide +kernel
theorem dR_front_49 : decode mR_front.2.1 49 = .ok (.aload_n 0, 1) := by decide +kernel
theorem dR_front_50 : decode mR_front.2.1 50 = .ok (.getfield 22, 3) := by decide +kernel
theorem dR_front_53 : decode mR_front.2.1 53 = .ok (.iload 4, 2) := by decide +kernel
theorem dR_front_55 : decode mR_front.2.1 55 = .ok (.iaload, 1) := by decide +kernel
theorem dR_front_56 : decode mR_front.2.1 56 = .ok (.aload_n 0, 1) := by decide +kernel
theorem dR_front_57 : decode mR_front.2.1 57 = .ok (.getfield 22, 3) := by decide +kernel
theorem dR_front_60 : decode mR_front.2.1 60 = .ok (.iload_n 3, 1) := by decide +kernel
theorem dR_front_61 : decode mR_front.2.1 61 = .ok (.iaload, 1) := by decide +kernel
theorem dR_front_62 : decode mR_front.2.1 62 = .ok (.if_icmp .ne (22), 3) := by decide +kernel
theorem dR_front_65 : decode mR_front.2.1 65 = .ok (.aload_n 0, 1) := by decide +kernel
theorem dR_front_66 : decode mR_front.2.1 66 = .ok (.getfield 34, 3) := by decide +kernel
theorem dR_front_69 : decode mR_front.2.1 69 = .ok (.iload 4, 2) := by decide +kernel
theorem dR_front_71 : decode mR_front.2.1 71 = .ok (.iaload, 1) := by decide +kernel
theorem dR_front_72 : decode mR_front.2.1 72 = .ok (.aload_n 0, 1) := by decide +kernel
theorem dR_front_73 : decode mR_front.2.1 73 = .ok (.getfield 34, 3) := by decide +kernel
theorem dR_front_76 : decode mR_front.2.1 76 = .ok (.iload_n 3, 1) := by decide +kernel
theorem dR_front_77 : decode mR_front.2.1 77 = .ok (.iaload, 1) := by decide +kernel
theorem dR_front_78 : decode mR_front.2.1 78 = .ok (.if_icmp .ge (6), 3) := by decide +kernel
theorem dR_front_81 : decode mR_front.2.1 81 = .ok (.iload 4, 2) := by decide +kernel
theorem dR_front_83 : decode mR_front.2.1 83 = .ok (.istore_n 3, 1) := by decide +kernel
theorem dR_front_84 : decode mR_front.2.1 84 = .ok (.iinc 4 (1), 3) := by decide +kernel
theorem dR_front_87 : decode mR_front.2.1 87 = .ok (.goto (-82), 3) := by decide +kernel
theorem dR_front_90 : decode mR_front.2.1 90 = .ok (.iload_n 3, 1) := by decide +kernel
theorem dR_front_91 : decode mR_front.2.1 91 = .ok (.ireturn, 1) := by decide +kernel
theorem dR_better_0 : decode mR_better.2.1 0 = .ok (.iload_n 0, 1) := by decide +kernel
theorem dR_better_1 : decode mR_better.2.1 1 = .ok (.ifCond .ne (16), 3) := by decide +kernel
theorem dR_better_4 : decode mR_better.2.1 4 = .ok (.iload_n 1, 1) := by decide +kernel
theorem dR_better_5 : decode mR_better.2.1 5 = .ok (.iload_n 2, 1) := by decide +kernel
theorem dR_better_6 : decode mR_better.2.1 6 = .ok (.if_icmp .le (7), 3) := by decide +kernel
theorem dR_better_9 : decode mR_better.2.1 9 = .ok (.iconst 1, 1) := by decide +kernel
theorem dR_better_10 : decode mR_better.2.1 10 = .ok (.goto (17), 3) := by decide +kernel
theorem dR_better_13 : decode mR_better.2.1 13 = .ok (.iconst 0, 1) := by decide +kernel
theorem dR_better_14 : decode mR_better.2.1 14 = .ok (.goto (13), 3) := by decide +kernel
theorem dR_better_17 : decode mR_better.2.1 17 = .ok (.iload_n 1, 1) := by decide +kernel
theorem dR_better_18 : decode mR_better.2.1 18 = .ok (.iload_n 2, 1) := by decide +kernel
theorem dR_better_19 : decode mR_better.2.1 19 = .ok (.if_icmp .ge (7), 3) := by decide +kernel
theorem dR_better_22 : decode mR_better.2.1 22 = .ok (.iconst 1, 1) := by decide +kernel
theorem dR_better_23 : decode mR_better.2.1 23 = .ok (.goto (4), 3) := by decide +kernel
theorem dR_better_26 : decode mR_better.2.1 26 = .ok (.iconst 0, 1) := by decide +kernel
theorem dR_better_27 : decode mR_better.2.1 27 = .ok (.ireturn, 1) := by decide +kernel
theorem dR_shows_0 : decode mR_shows.2.1 0 = .ok (.aload_n 0, 1) := by decide +kernel
theorem dR_shows_1 : decode mR_shows.2.1 1 = .ok (.getfield 19, 3) := by decide +kernel
theorem dR_shows_4 : decode mR_shows.2.1 4 = .ok (.iload_n 1, 1) := by decide +kernel
theorem dR_shows_5 : decode mR_shows.2.1 5 = .ok (.iaload, 1) := by decide +kernel
theorem dR_shows_6 : decode mR_shows.2.1 6 = .ok (.iconst 5, 1) := by decide +kernel
theorem dR_shows_7 : decode mR_shows.2.1 7 = .ok (.if_icmp .ne (12), 3) := by decide +kernel
theorem dR_shows_10 : decode mR_shows.2.1 10 = .ok (.aload_n 0, 1) := by decide +kernel
theorem dR_shows_11 : decode mR_shows.2.1 11 = .ok (.getfield 28, 3) := by decide +kernel
theorem dR_shows_14 : decode mR_shows.2.1 14 = .ok (.iload_n 1, 1) := by decide +kernel
theorem dR_shows_15 : decode mR_shows.2.1 15 = .ok (.iaload, 1) := by decide +kernel
theorem dR_shows_16 : decode mR_shows.2.1 16 = .ok (.goto (9), 3) := by decide +kernel
theorem dR_shows_19 : decode mR_shows.2.1 19 = .ok (.aload_n 0, 1) := by decide +kernel
theorem dR_shows_20 : decode mR_shows.2.1 20 = .ok (.getfield 25, 3) := by decide +kernel
theorem dR_shows_23 : decode mR_shows.2.1 23 = .ok (.iload_n 1, 1) := by decide +kernel
theorem dR_shows_24 : decode mR_shows.2.1 24 = .ok (.iaload, 1) := by decide +kernel
theorem dR_shows_25 : decode mR_shows.2.1 25 = .ok (.ireturn, 1) := by decide +kernel
theorem dR_swap_0 : decode mR_swap.2.1 0 = .ok (.aload_n 0, 1) := by decide +kernel
theorem dR_swap_1 : decode mR_swap.2.1 1 = .ok (.getfield 13, 3) := by decide +kernel
theorem dR_swap_4 : decode mR_swap.2.1 4 = .ok (.iload_n 1, 1) := by decide +kernel
theorem dR_swap_5 : decode mR_swap.2.1 5 = .ok (.iaload, 1) := by decide +kernel
theorem dR_swap_6 : decode mR_swap.2.1 6 = .ok (.istore 5, 2) := by decide +kernel
theorem dR_swap_8 : decode mR_swap.2.1 8 = .ok (.aload_n 0, 1) := by decide +kernel
theorem dR_swap_9 : decode mR_swap.2.1 9 = .ok (.getfield 71, 3) := by decide +kernel
theorem dR_swap_12 : decode mR_swap.2.1 12 = .ok (.bipush (100), 2) := by decide +kernel
theorem dR_swap_14 : decode mR_swap.2.1 14 = .ok (.irem, 1) := by decide +kernel
theorem dR_swap_15 : decode mR_swap.2.1 15 = .ok (.iconst 4, 1) := by decide +kernel
theorem dR_swap_16 : decode mR_swap.2.1 16 = .ok (.imul, 1) := by decide +kernel
theorem dR_swap_17 : decode mR_swap.2.1 17 = .ok (.istore 6, 2) := by decide +kernel
theorem dR_swap_19 : decode mR_swap.2.1 19 = .ok (.aload_n 0, 1) := by decide +kernel
theorem dR_swap_20 : decode mR_swap.2.1 20 = .ok (.getfield 54, 3) := by decide +kernel
theorem dR_swap_23 : decode mR_swap.2.1 23 = .ok (.iload 6, 2) := by decide +kernel
theorem dR_swap_25 : decode mR_swap.2.1 25 = .ok (.iload_n 1, 1) := by decide +kernel
theorem dR_swap_26 : decode mR_swap.2.1 26 = .ok (.iastore, 1) := by decide +kernel
theorem dR_swap_27 : decode mR_swap.2.1 27 = .ok (.aload_n 0, 1) := by decide +kernel
theorem dR_swap_28 : decode mR_swap.2.1 28 = .ok (.getfield 54, 3) := by decide +kernel
theorem dR_swap_31 : decode mR_swap.2.1 31 = .ok (.iload 6, 2) := by decide +kernel
theorem dR_swap_33 : decode mR_swap.2.1 33 = .ok (.iconst 1, 1) := by decide +kernel
theorem dR_swap_34 : decode mR_swap.2.1 34 = .ok (.iadd, 1) := by decide +kernel
theorem dR_swap_35 : decode mR_swap.2.1 35 = .ok (.iload_n 2, 1) := by decide +kernel
theorem dR_swap_36 : decode mR_swap.2.1 36 = .ok (.iastore, 1) := by decide +kernel
theorem dR_swap_37 : decode mR_swap.2.1 37 = .ok (.aload_n 0, 1) := by decide +kernel
theorem dR_swap_38 : decode mR_swap.2.1 38 = .ok (.getfield 54, 3) := by decide +kernel
theorem dR_swap_41 : decode mR_swap.2.1 41 = .ok (.iload 6, 2) := by decide +kernel
theorem dR_swap_43 : decode mR_swap.2.1 43 = .ok (.iconst 2, 1) := by decide +kernel
theorem dR_swap_44 : decode mR_swap.2.1 44 = .ok (.iadd, 1) := by decide +kernel
theorem dR_swap_45 : decode mR_swap.2.1 45 = .ok (.iload_n 3, 1) := by decide +kernel
theorem dR_swap_46 : decode mR_swap.2.1 46 = .ok (.iastore, 1) := by decide +kernel
theorem dR_swap_47 : decode mR_swap.2.1 47 = .ok (.aload_n 0, 1) := by decide +kernel
theorem dR_swap_48 : decode mR_swap.2.1 48 = .ok (.getfield 54, 3) := by decide +kernel
theorem dR_swap_51 : decode mR_swap.2.1 51 = .ok (.iload 6, 2) := by decide +kernel
theorem dR_swap_53 : decode mR_swap.2.1 53 = .ok (.iconst 3, 1) := by decide +kernel
theorem dR_swap_54 : decode mR_swap.2.1 54 = .ok (.iadd, 1) := by decide +kernel
theorem dR_swap_55 : decode mR_swap.2.1 55 = .ok (.iload 4, 2) := by decide +kernel
theorem dR_swap_57 : decode mR_swap.2.1 57 = .ok (.iastore, 1) := by decide +kernel
theorem dR_swap_58 : decode mR_swap.2.1 58 = .ok (.aload_n 0, 1) := by decide +kernel
theorem dR_swap_59 : decode mR_swap.2.1 59 = .ok (.dup, 1) := by decide +kernel
theorem dR_swap_60 : decode mR_swap.2.1 60 = .ok (.getfield 71, 3) := by decide +kernel
theorem dR_swap_63 : decode mR_swap.2.1 63 = .ok (.iconst 1, 1) := by decide +kernel
theorem dR_swap_64 : decode mR_swap.2.1 64 = .ok (.iadd, 1) := by decide +kernel
theorem dR_swap_65 : decode mR_swap.2.1 65 = .ok (.putfield 71, 3) := by decide +kernel
theorem dR_swap_68 : decode mR_swap.2.1 68 = .ok (.aload_n 0, 1) := by decide +kernel
theorem dR_swap_69 : decode mR_swap.2.1 69 = .ok (.getfield 51, 3) := by decide +kernel
theorem dR_swap_72 : decode mR_swap.2.1 72 = .ok (.iload 5, 2) := by decide +kernel
theorem dR_swap_74 : decode mR_swap.2.1 74 = .ok (.iload_n 3, 1) := by decide +kernel
theorem dR_swap_75 : decode mR_swap.2.1 75 = .ok (.iastore, 1) := by decide +kernel
theorem dR_swap_76 : decode mR_swap.2.1 76 = .ok (.aload_n 0, 1) := by decide +kernel
theorem dR_swap_77 : decode mR_swap.2.1 77 = .ok (.getfield 25, 3) := by decide +kernel
theorem dR_swap_80 : decode mR_swap.2.1 80 = .ok (.iload_n 1, 1) := by decide +kernel
theorem dR_swap_81 : decode mR_swap.2.1 81 = .ok (.dup2, 1) := by decide +kernel
theorem dR_swap_82 : decode mR_swap.2.1 82 = .ok (.iaload, 1) := by decide +kernel
theorem dR_swap_83 : decode mR_swap.2.1 83 = .ok (.iload 4, 2) := by decide +kernel
theorem dR_swap_85 : decode mR_swap.2.1 85 = .ok (.isub, 1) := by decide +kernel
theorem dR_swap_86 : decode mR_swap.2.1 86 = .ok (.iastore, 1) := by decide +kernel
theorem dR_swap_87 : decode mR_swap.2.1 87 = .ok (.aload_n 0, 1) := by decide +kernel
theorem dR_swap_88 : decode mR_swap.2.1 88 = .ok (.getfield 25, 3) := by decide +kernel
theorem dR_swap_91 : decode mR_swap.2.1 91 = .ok (.iload_n 2, 1) := by decide +kernel
theorem dR_swap_92 : decode mR_swap.2.1 92 = .ok (.dup2, 1) := by decide +kernel
theorem dR_swap_93 : decode mR_swap.2.1 93 = .ok (.iaload, 1) := by decide +kernel
theorem dR_swap_94 : decode mR_swap.2.1 94 = .ok (.iload 4, 2) := by decide +kernel
theorem dR_swap_96 : decode mR_swap.2.1 96 = .ok (.isub, 1) := by decide +kernel
theorem dR_swap_97 : decode mR_swap.2.1 97 = .ok (.iastore, 1) := by decide +kernel
theorem dR_swap_98 : decode mR_swap.2.1 98 = .ok (.iload 4, 2) := by decide +kernel
theorem dR_swap_100 : decode mR_swap.2.1 100 = .ok (.i2l, 1) := by decide +kernel
theorem dR_swap_101 : decode mR_swap.2.1 101 = .ok (.iload_n 3, 1) := by decide +kernel
theorem dR_swap_102 : decode mR_swap.2.1 102 = .ok (.i2l, 1) := by decide +kernel
theorem dR_swap_103 : decode mR_swap.2.1 103 = .ok (.lmul, 1) := by decide +kernel
theorem dR_swap_104 : decode mR_swap.2.1 104 = .ok (.lstore 7, 2) := by decide +kernel
theorem dR_swap_106 : decode mR_swap.2.1 106 = .ok (.aload_n 0, 1) := by decide +kernel
theorem dR_swap_107 : decode mR_swap.2.1 107 = .ok (.getfield 44, 3) := by decide +kernel
theorem dR_swap_110 : decode mR_swap.2.1 110 = .ok (.iconst 2, 1) := by decide +kernel
theorem dR_swap_111 : decode mR_swap.2.1 111 = .ok (.aload_n 0, 1) := by decide +kernel
theorem dR_swap_112 : decode mR_swap.2.1 112 = .ok (.getfield 7, 3) := by decide +kernel
theorem dR_swap_115 : decode mR_swap.2.1 115 = .ok (.iload_n 1, 1) := by decide +kernel
theorem dR_swap_116 : decode mR_swap.2.1 116 = .ok (.iaload, 1) := by decide +kernel
theorem dR_swap_117 : decode mR_swap.2.1 117 = .ok (.imul, 1) := by decide +kernel
theorem dR_swap_118 : decode mR_swap.2.1 118 = .ok (.iload 5, 2) := by decide +kernel
theorem dR_swap_120 : decode mR_swap.2.1 120 = .ok (.iadd, 1) := by decide +kernel
theorem dR_swap_121 : decode mR_swap.2.1 121 = .ok (.dup2, 1) := by decide +kernel
theorem dR_swap_122 : decode mR_swap.2.1 122 = .ok (.iaload, 1) := by decide +kernel
theorem dR_swap_123 : decode mR_swap.2.1 123 = .ok (.iload 4, 2) := by decide +kernel
theorem dR_swap_125 : decode mR_swap.2.1 125 = .ok (.iadd, 1) := by decide +kernel
theorem dR_swap_126 : decode mR_swap.2.1 126 = .ok (.iastore, 1) := by decide +kernel
theorem dR_swap_127 : decode mR_swap.2.1 127 = .ok (.aload_n 0, 1) := by decide +kernel
theorem dR_swap_128 : decode mR_swap.2.1 128 = .ok (.getfield 44, 3) := by decide +kernel
theorem dR_swap_131 : decode mR_swap.2.1 131 = .ok (.iconst 2, 1) := by decide +kernel
theorem dR_swap_132 : decode mR_swap.2.1 132 = .ok (.aload_n 0, 1) := by decide +kernel
theorem dR_swap_133 : decode mR_swap.2.1 133 = .ok (.getfield 7, 3) := by decide +kernel
theorem dR_swap_136 : decode mR_swap.2.1 136 = .ok (.iload_n 2, 1) := by decide +kernel
theorem dR_swap_137 : decode mR_swap.2.1 137 = .ok (.iaload, 1) := by decide +kernel
theorem dR_swap_138 : decode mR_swap.2.1 138 = .ok (.imul, 1) := by decide +kernel
theorem dR_swap_139 : decode mR_swap.2.1 139 = .ok (.iload 5, 2) := by decide +kernel
theorem dR_swap_141 : decode mR_swap.2.1 141 = .ok (.iadd, 1) := by decide +kernel
theorem dR_swap_142 : decode mR_swap.2.1 142 = .ok (.dup2, 1) := by decide +kernel
theorem dR_swap_143 : decode mR_swap.2.1 143 = .ok (.iaload, 1) := by decide +kernel
theorem dR_swap_144 : decode mR_swap.2.1 144 = .ok (.iload 4, 2) := by decide +kernel
theorem dR_swap_146 : decode mR_swap.2.1 146 = .ok (.isub, 1) := by decide +kernel
theorem dR_swap_147 : decode mR_swap.2.1 147 = .ok (.iastore, 1) := by decide +kernel
theorem dR_swap_148 : decode mR_swap.2.1 148 = .ok (.aload_n 0, 1) := by decide +kernel
theorem dR_swap_149 : decode mR_swap.2.1 149 = .ok (.getfield 41, 3) := by decide +kernel
theorem dR_swap_152 : decode mR_swap.2.1 152 = .ok (.aload_n 0, 1) := by decide +kernel
theorem dR_swap_153 : decode mR_swap.2.1 153 = .ok (.getfield 7, 3) := by decide +kernel
theorem dR_swap_156 : decode mR_swap.2.1 156 = .ok (.iload_n 1, 1) := by decide +kernel
theorem dR_swap_157 : decode mR_swap.2.1 157 = .ok (.iaload, 1) := by decide +kernel
theorem dR_swap_158 : decode mR_swap.2.1 158 = .ok (.dup2, 1) := by decide +kernel
theorem dR_swap_159 : decode mR_swap.2.1 159 = .ok (.laload, 1) := by decide +kernel
theorem dR_swap_160 : decode mR_swap.2.1 160 = .ok (.lload 7, 2) := by decide +kernel
theorem dR_swap_162 : decode mR_swap.2.1 162 = .ok (.lsub, 1) := by decide +kernel
theorem dR_swap_163 : decode mR_swap.2.1 163 = .ok (.lastore, 1) := by decide +kernel
theorem dR_swap_164 : decode mR_swap.2.1 164 = .ok (.aload_n 0, 1) := by decide +kernel
theorem dR_swap_165 : decode mR_swap.2.1 165 = .ok (.getfield 41, 3) := by decide +kernel
theorem dR_swap_168 : decode mR_swap.2.1 168 = .ok (.aload_n 0, 1) := by decide +kernel
theorem dR_swap_169 : decode mR_swap.2.1 169 = .ok (.getfield 7, 3) := by decide +kernel
theorem dR_swap_172 : decode mR_swap.2.1 172 = .ok (.iload_n 2, 1) := by decide +kernel
theorem dR_swap_173 : decode mR_swap.2.1 173 = .ok (.iaload, 1) := by decide +kernel
theorem dR_swap_174 : decode mR_swap.2.1 174 = .ok (.dup2, 1) := by decide +kernel
theorem dR_swap_175 : decode mR_swap.2.1 175 = .ok (.laload, 1) := by decide +kernel
theorem dR_swap_176 : decode mR_swap.2.1 176 = .ok (.lload 7, 2) := by decide +kernel
theorem dR_swap_178 : decode mR_swap.2.1 178 = .ok (.ladd, 1) := by decide +kernel
theorem dR_swap_179 : decode mR_swap.2.1 179 = .ok (.lastore, 1) := by decide +kernel
theorem dR_swap_180 : decode mR_swap.2.1 180 = .ok (.return_, 1) := by decide +kernel
theorem dR_queue_0 : decode mR_queue.2.1 0 = .ok (.aload_n 0, 1) := by decide +kernel
theorem dR_queue_1 : decode mR_queue.2.1 1 = .ok (.getfield 31, 3) := by decide +kernel
theorem dR_queue_4 : decode mR_queue.2.1 4 = .ok (.iload_n 1, 1) := by decide +kernel
theorem dR_queue_5 : decode mR_queue.2.1 5 = .ok (.iconst 0, 1) := by decide +kernel
theorem dR_queue_6 : decode mR_queue.2.1 6 = .ok (.iastore, 1) := by decide +kernel
theorem dR_queue_7 : decode mR_queue.2.1 7 = .ok (.aload_n 0, 1) := by decide +kernel
theorem dR_queue_8 : decode mR_queue.2.1 8 = .ok (.getfield 34, 3) := by decide +kernel
theorem dR_queue_11 : decode mR_queue.2.1 11 = .ok (.iload_n 1, 1) := by decide +kernel
theorem dR_queue_12 : decode mR_queue.2.1 12 = .ok (.aload_n 0, 1) := by decide +kernel
theorem dR_queue_13 : decode mR_queue.2.1 13 = .ok (.getfield 68, 3) := by decide +kernel
theorem dR_queue_16 : decode mR_queue.2.1 16 = .ok (.iastore, 1) := by decide +kernel
theorem dR_queue_17 : decode mR_queue.2.1 17 = .ok (.aload_n 0, 1) := by decide +kernel
theorem dR_queue_18 : decode mR_queue.2.1 18 = .ok (.dup, 1) := by decide +kernel
theorem dR_queue_19 : decode mR_queue.2.1 19 = .ok (.getfield 68, 3) := by decide +kernel
theorem dR_queue_22 : decode mR_queue.2.1 22 = .ok (.iconst 1, 1) := by decide +kernel
theorem dR_queue_23 : decode mR_queue.2.1 23 = .ok (.iadd, 1) := by decide +kernel
theorem dR_queue_24 : decode mR_queue.2.1 24 = .ok (.putfield 68, 3) := by decide +kernel
theorem dR_queue_27 : decode mR_queue.2.1 27 = .ok (.aload_n 0, 1) := by decide +kernel
theorem dR_queue_28 : decode mR_queue.2.1 28 = .ok (.getfield 28, 3) := by decide +kernel
theorem dR_queue_31 : decode mR_queue.2.1 31 = .ok (.iload_n 1, 1) := by decide +kernel
theorem dR_queue_32 : decode mR_queue.2.1 32 = .ok (.aload_n 0, 1) := by decide +kernel
theorem dR_queue_33 : decode mR_queue.2.1 33 = .ok (.getfield 25, 3) := by decide +kernel
theorem dR_queue_36 : decode mR_queue.2.1 36 = .ok (.iload_n 1, 1) := by decide +kernel
theorem dR_queue_37 : decode mR_queue.2.1 37 = .ok (.iaload, 1) := by decide +kernel
theorem dR_queue_38 : decode mR_queue.2.1 38 = .ok (.iconst 5, 1) := by decide +kernel
theorem dR_queue_39 : decode mR_queue.2.1 39 = .ok (.if_icmp .ge (12), 3) := by decide +kernel
theorem dR_queue_42 : decode mR_queue.2.1 42 = .ok (.aload_n 0, 1) := by decide +kernel
theorem dR_queue_43 : decode mR_queue.2.1 43 = .ok (.getfield 25, 3) := by decide +kernel
theorem dR_queue_46 : decode mR_queue.2.1 46 = .ok (.iload_n 1, 1) := by decide +kernel
theorem dR_queue_47 : decode mR_queue.2.1 47 = .ok (.iaload, 1) := by decide +kernel
theorem dR_queue_48 : decode mR_queue.2.1 48 = .ok (.goto (4), 3) := by decide +kernel
theorem dR_queue_51 : decode mR_queue.2.1 51 = .ok (.iconst 5, 1) := by decide +kernel
theorem dR_queue_52 : decode mR_queue.2.1 52 = .ok (.iastore, 1) := by decide +kernel
theorem dR_queue_53 : decode mR_queue.2.1 53 = .ok (.return_, 1) := by decide +kernel
theorem dR_cancel_0 : decode mR_cancel.2.1 0 = .ok (.aload_n 0, 1) := by decide +kernel
theorem dR_cancel_1 : decode mR_cancel.2.1 1 = .ok (.iload_n 2, 1) := by decide +kernel
theorem dR_cancel_2 : decode mR_cancel.2.1 2 = .ok (.invokevirtual 118, 3) := by decide +kernel
theorem dR_cancel_5 : decode mR_cancel.2.1 5 = .ok (.ifCond .eq (13), 3) := by decide +kernel
theorem dR_cancel_8 : decode mR_cancel.2.1 8 = .ok (.aload_n 0, 1) := by decide +kernel
theorem dR_cancel_9 : decode mR_cancel.2.1 9 = .ok (.getfield 7, 3) := by decide +kernel
theorem dR_cancel_12 : decode mR_cancel.2.1 12 = .ok (.iload_n 2, 1) := by decide +kernel
theorem dR_cancel_13 : decode mR_cancel.2.1 13 = .ok (.iaload, 1) := by decide +kernel
theorem dR_cancel_14 : decode mR_cancel.2.1 14 = .ok (.iload_n 1, 1) := by decide +kernel
theorem dR_cancel_15 : decode mR_cancel.2.1 15 = .ok (.if_icmp .eq (5), 3) := by decide +kernel
theorem dR_cancel_18 : decode mR_cancel.2.1 18 = .ok (.iconst 0, 1) := by decide +kernel
theorem dR_cancel_19 : decode mR_cancel.2.1 19 = .ok (.ireturn, 1) := by decide +kernel
theorem dR_cancel_20 : decode mR_cancel.2.1 20 = .ok (.aload_n 0, 1) := by decide +kernel
theorem dR_cancel_21 : decode mR_cancel.2.1 21 = .ok (.getfield 31, 3) := by decide +kernel
theorem dR_cancel_24 : decode mR_cancel.2.1 24 = .ok (.iload_n 2, 1) := by decide +kernel
theorem dR_cancel_25 : decode mR_cancel.2.1 25 = .ok (.iconst 2, 1) := by decide +kernel
theorem dR_cancel_26 : decode mR_cancel.2.1 26 = .ok (.iastore, 1) := by decide +kernel
theorem dR_cancel_27 : decode mR_cancel.2.1 27 = .ok (.iconst 1, 1) := by decide +kernel
theorem dR_cancel_28 : decode mR_cancel.2.1 28 = .ok (.ireturn, 1) := by decide +kernel
theorem dR_isResting_0 : decode mR_isResting.2.1 0 = .ok (.iload_n 1, 1) := by decide +kernel
theorem dR_isResting_1 : decode mR_isResting.2.1 1 = .ok (.iconst 0, 1) := by decide +kernel
theorem dR_isResting_2 : decode mR_isResting.2.1 2 = .ok (.aload_n 0, 1) := by decide +kernel
theorem dR_isResting_3 : decode mR_isResting.2.1 3 = .ok (.getfield 57, 3) := by decide +kernel
theorem dR_isResting_6 : decode mR_isResting.2.1 6 = .ok (.iconst 1, 1) := by decide +kernel
theorem dR_isResting_7 : decode mR_isResting.2.1 7 = .ok (.isub, 1) := by decide +kernel
theorem dR_isResting_8 : decode mR_isResting.2.1 8 = .ok (.invokestatic 98, 3) := by decide +kernel
theorem dR_isResting_11 : decode mR_isResting.2.1 11 = .ok (.ifCond .ne (16), 3) := by decide +kernel
theorem dR_isResting_14 : decode mR_isResting.2.1 14 = .ok (.aload_n 0, 1) := by decide +kernel
theorem dR_isResting_15 : decode mR_isResting.2.1 15 = .ok (.getfield 31, 3) := by decide +kernel
theorem dR_isResting_18 : decode mR_isResting.2.1 18 = .ok (.iload_n 1, 1) := by decide +kernel
theorem dR_isResting_19 : decode mR_isResting.2.1 19 = .ok (.iaload, 1) := by decide +kernel
theorem dR_isResting_20 : decode mR_isResting.2.1 20 = .ok (.ifCond .ne (7), 3) := by decide +kernel
theorem dR_isResting_23 : decode mR_isResting.2.1 23 = .ok (.iconst 1, 1) := by decide +kernel
theorem dR_isResting_24 : decode mR_isResting.2.1 24 = .ok (.goto (4), 3) := by decide +kernel
theorem dR_isResting_27 : decode mR_isResting.2.1 27 = .ok (.iconst 0, 1) := by decide +kernel
theorem dR_isResting_28 : decode mR_isResting.2.1 28 = .ok (.ireturn, 1) := by decide +kernel
theorem dR_amend_0 : decode mR_amend.2.1 0 = .ok (.aload_n 0, 1) := by decide +kernel
theorem dR_amend_1 : decode mR_amend.2.1 1 = .ok (.iload_n 2, 1) := by decide +kernel
theorem dR_amend_2 : decode mR_amend.2.1 2 = .ok (.invokevirtual 118, 3) := by decide +kernel
theorem dR_amend_5 : decode mR_amend.2.1 5 = .ok (.ifCond .eq (13), 3) := by decide +kernel
theorem dR_amend_8 : decode mR_amend.2.1 8 = .ok (.aload_n 0, 1) := by decide +kernel
theorem dR_amend_9 : decode mR_amend.2.1 9 = .ok (.getfield 7, 3) := by decide +kernel
theorem dR_amend_12 : decode mR_amend.2.1 12 = .ok (.iload_n 2, 1) := by decide +kernel
theorem dR_amend_13 : decode mR_amend.2.1 13 = .ok (.iaload, 1) := by decide +kernel
theorem dR_amend_14 : decode mR_amend.2.1 14 = .ok (.iload_n 1, 1) := by decide +kernel
theorem dR_amend_15 : decode mR_amend.2.1 15 = .ok (.if_icmp .eq (6), 3) := by decide +kernel
theorem dR_amend_18 : decode mR_amend.2.1 18 = .ok (.bipush (-6), 2) := by decide +kernel
theorem dR_amend_20 : decode mR_amend.2.1 20 = .ok (.ireturn, 1) := by decide +kernel
theorem dR_amend_21 : decode mR_amend.2.1 21 = .ok (.iload_n 3, 1) := by decide +kernel
theorem dR_amend_22 : decode mR_amend.2.1 22 = .ok (.iconst 1, 1) := by decide +kernel
theorem dR_amend_23 : decode mR_amend.2.1 23 = .ok (.aload_n 0, 1) := by decide +kernel
theorem dR_amend_24 : decode mR_amend.2.1 24 = .ok (.getfield 25, 3) := by decide +kernel
theorem dR_amend_27 : decode mR_amend.2.1 27 = .ok (.iload_n 2, 1) := by decide +kernel
theorem dR_amend_28 : decode mR_amend.2.1 28 = .ok (.iaload, 1) := by decide +kernel
theorem dR_amend_29 : decode mR_amend.2.1 29 = .ok (.iconst 1, 1) := by decide +kernel
theorem dR_amend_30 : decode mR_amend.2.1 30 = .ok (.isub, 1) := by decide +kernel
theorem dR_amend_31 : decode mR_amend.2.1 31 = .ok (.invokestatic 98, 3) := by decide +kernel
theorem dR_amend_34 : decode mR_amend.2.1 34 = .ok (.ifCond .eq (5), 3) := by decide +kernel
theorem dR_amend_37 : decode mR_amend.2.1 37 = .ok (.iconst (-1), 1) := by decide +kernel
theorem dR_amend_38 : decode mR_amend.2.1 38 = .ok (.ireturn, 1) := by decide +kernel
theorem dR_amend_39 : decode mR_amend.2.1 39 = .ok (.aload_n 0, 1) := by decide +kernel
theorem dR_amend_40 : decode mR_amend.2.1 40 = .ok (.getfield 25, 3) := by decide +kernel
theorem dR_amend_43 : decode mR_amend.2.1 43 = .ok (.iload_n 2, 1) := by decide +kernel
theorem dR_amend_44 : decode mR_amend.2.1 44 = .ok (.iload_n 3, 1) := by decide +kernel
theorem dR_amend_45 : decode mR_amend.2.1 45 = .ok (.iastore, 1) := by decide +kernel
theorem dR_amend_46 : decode mR_amend.2.1 46 = .ok (.aload_n 0, 1) := by decide +kernel
theorem dR_amend_47 : decode mR_amend.2.1 47 = .ok (.getfield 28, 3) := by decide +kernel
theorem dR_amend_50 : decode mR_amend.2.1 50 = .ok (.iload_n 2, 1) := by decide +kernel
theorem dR_amend_51 : decode mR_amend.2.1 51 = .ok (.aload_n 0, 1) := by decide +kernel
theorem dR_amend_52 : decode mR_amend.2.1 52 = .ok (.getfield 28, 3) := by decide +kernel
theorem dR_amend_55 : decode mR_amend.2.1 55 = .ok (.iload_n 2, 1) := by decide +kernel
theorem dR_amend_56 : decode mR_amend.2.1 56 = .ok (.iaload, 1) := by decide +kernel
theorem dR_amend_57 : decode mR_amend.2.1 57 = .ok (.iload_n 3, 1) := by decide +kernel
theorem dR_amend_58 : decode mR_amend.2.1 58 = .ok (.if_icmp .ge (12), 3) := by decide +kernel
theorem dR_amend_61 : decode mR_amend.2.1 61 = .ok (.aload_n 0, 1) := by decide +kernel
theorem dR_amend_62 : decode mR_amend.2.1 62 = .ok (.getfield 28, 3) := by decide +kernel
theorem dR_amend_65 : decode mR_amend.2.1 65 = .ok (.iload_n 2, 1) := by decide +kernel
theorem dR_amend_66 : decode mR_amend.2.1 66 = .ok (.iaload, 1) := by decide +kernel
theorem dR_amend_67 : decode mR_amend.2.1 67 = .ok (.goto (4), 3) := by decide +kernel
theorem dR_amend_70 : decode mR_amend.2.1 70 = .ok (.iload_n 3, 1) := by decide +kernel
theorem dR_amend_71 : decode mR_amend.2.1 71 = .ok (.iastore, 1) := by decide +kernel
theorem dR_amend_72 : decode mR_amend.2.1 72 = .ok (.iconst 0, 1) := by decide +kernel
theorem dR_amend_73 : decode mR_amend.2.1 73 = .ok (.ireturn, 1) := by decide +kernel
theorem dR_open_0 : decode mR_open.2.1 0 = .ok (.iload_n 1, 1) := by decide +kernel
theorem dR_open_1 : decode mR_open.2.1 1 = .ok (.iconst 0, 1) := by decide +kernel
theorem dR_open_2 : decode mR_open.2.1 2 = .ok (.iconst 1, 1) := by decide +kernel
theorem dR_open_3 : decode mR_open.2.1 3 = .ok (.invokestatic 98, 3) := by decide +kernel
theorem dR_open_6 : decode mR_open.2.1 6 = .ok (.ifCond .eq (5), 3) := by decide +kernel
theorem dR_open_9 : decode mR_open.2.1 9 = .ok (.iconst (-1), 1) := by decide +kernel
theorem dR_open_10 : decode mR_open.2.1 10 = .ok (.ireturn, 1) := by decide +kernel
theorem dR_open_11 : decode mR_open.2.1 11 = .ok (.aload_n 0, 1) := by decide +kernel
theorem dR_open_12 : decode mR_open.2.1 12 = .ok (.getfield 47, 3) := by decide +kernel
theorem dR_open_15 : decode mR_open.2.1 15 = .ok (.iload_n 1, 1) := by decide +kernel
theorem dR_open_16 : decode mR_open.2.1 16 = .ok (.baload, 1) := by decide +kernel
theorem dR_open_17 : decode mR_open.2.1 17 = .ok (.ifCond .eq (6), 3) := by decide +kernel
theorem dR_open_20 : decode mR_open.2.1 20 = .ok (.bipush (-3), 2) := by decide +kernel
theorem dR_open_22 : decode mR_open.2.1 22 = .ok (.ireturn, 1) := by decide +kernel
theorem dR_open_23 : decode mR_open.2.1 23 = .ok (.aload_n 0, 1) := by decide +kernel
theorem dR_open_24 : decode mR_open.2.1 24 = .ok (.iload_n 1, 1) := by decide +kernel
theorem dR_open_25 : decode mR_open.2.1 25 = .ok (.invokevirtual 137, 3) := by decide +kernel
theorem dR_open_28 : decode mR_open.2.1 28 = .ok (.aload_n 0, 1) := by decide +kernel
theorem dR_open_29 : decode mR_open.2.1 29 = .ok (.getfield 47, 3) := by decide +kernel
theorem dR_open_32 : decode mR_open.2.1 32 = .ok (.iload_n 1, 1) := by decide +kernel
theorem dR_open_33 : decode mR_open.2.1 33 = .ok (.iconst 1, 1) := by decide +kernel
theorem dR_open_34 : decode mR_open.2.1 34 = .ok (.bastore, 1) := by decide +kernel
theorem dR_open_35 : decode mR_open.2.1 35 = .ok (.aload_n 0, 1) := by decide +kernel
theorem dR_open_36 : decode mR_open.2.1 36 = .ok (.getfield 131, 3) := by decide +kernel
theorem dR_open_39 : decode mR_open.2.1 39 = .ok (.istore_n 2, 1) := by decide +kernel
theorem dR_open_40 : decode mR_open.2.1 40 = .ok (.iload_n 2, 1) := by decide +kernel
theorem dR_open_41 : decode mR_open.2.1 41 = .ok (.ifCond .le (84), 3) := by decide +kernel
theorem dR_open_44 : decode mR_open.2.1 44 = .ok (.aload_n 0, 1) := by decide +kernel
theorem dR_open_45 : decode mR_open.2.1 45 = .ok (.iload_n 1, 1) := by decide +kernel
theorem dR_open_46 : decode mR_open.2.1 46 = .ok (.iconst 0, 1) := by decide +kernel
theorem dR_open_47 : decode mR_open.2.1 47 = .ok (.invokevirtual 74, 3) := by decide +kernel
theorem dR_open_50 : decode mR_open.2.1 50 = .ok (.istore_n 3, 1) := by decide +kernel
theorem dR_open_51 : decode mR_open.2.1 51 = .ok (.aload_n 0, 1) := by decide +kernel
theorem dR_open_52 : decode mR_open.2.1 52 = .ok (.iload_n 1, 1) := by decide +kernel
theorem dR_open_53 : decode mR_open.2.1 53 = .ok (.iconst 1, 1) := by decide +kernel
theorem dR_open_54 : decode mR_open.2.1 54 = .ok (.invokevirtual 74, 3) := by decide +kernel
theorem dR_open_57 : decode mR_open.2.1 57 = .ok (.istore 4, 2) := by decide +kernel
theorem dR_open_59 : decode mR_open.2.1 59 = .ok (.aload_n 0, 1) := by decide +kernel
theorem dR_open_60 : decode mR_open.2.1 60 = .ok (.getfield 25, 3) := by decide +kernel
theorem dR_open_63 : decode mR_open.2.1 63 = .ok (.iload_n 3, 1) := by decide +kernel
theorem dR_open_64 : decode mR_open.2.1 64 = .ok (.iaload, 1) := by decide +kernel
theorem dR_open_65 : decode mR_open.2.1 65 = .ok (.aload_n 0, 1) := by decide +kernel
theorem dR_open_66 : decode mR_open.2.1 66 = .ok (.getfield 25, 3) := by decide +kernel
theorem dR_open_69 : decode mR_open.2.1 69 = .ok (.iload 4, 2) := by decide +kernel
theorem dR_open_71 : decode mR_open.2.1 71 = .ok (.iaload, 1) := by decide +kernel
theorem dR_open_72 : decode mR_open.2.1 72 = .ok (.if_icmp .ge (12), 3) := by decide +kernel
theorem dR_open_75 : decode mR_open.2.1 75 = .ok (.aload_n 0, 1) := by decide +kernel
theorem dR_open_76 : decode mR_open.2.1 76 = .ok (.getfield 25, 3) := by decide +kernel
theorem dR_open_79 : decode mR_open.2.1 79 = .ok (.iload_n 3, 1) := by decide +kernel
theorem dR_open_80 : decode mR_open.2.1 80 = .ok (.iaload, 1) := by decide +kernel
theorem dR_open_81 : decode mR_open.2.1 81 = .ok (.goto (10), 3) := by decide +kernel
theorem dR_open_84 : decode mR_open.2.1 84 = .ok (.aload_n 0, 1) := by decide +kernel
theorem dR_open_85 : decode mR_open.2.1 85 = .ok (.getfield 25, 3) := by decide +kernel
theorem dR_open_88 : decode mR_open.2.1 88 = .ok (.iload 4, 2) := by decide +kernel
theorem dR_open_90 : decode mR_open.2.1 90 = .ok (.iaload, 1) := by decide +kernel
theorem dR_open_91 : decode mR_open.2.1 91 = .ok (.istore 5, 2) := by decide +kernel
theorem dR_open_93 : decode mR_open.2.1 93 = .ok (.aload_n 0, 1) := by decide +kernel
theorem dR_open_94 : decode mR_open.2.1 94 = .ok (.iload_n 3, 1) := by decide +kernel
theorem dR_open_95 : decode mR_open.2.1 95 = .ok (.iload 4, 2) := by decide +kernel
theorem dR_open_97 : decode mR_open.2.1 97 = .ok (.aload_n 0, 1) := by decide +kernel
theorem dR_open_98 : decode mR_open.2.1 98 = .ok (.getfield 128, 3) := by decide +kernel
theorem dR_open_101 : decode mR_open.2.1 101 = .ok (.iload 5, 2) := by decide +kernel
theorem dR_open_103 : decode mR_open.2.1 103 = .ok (.invokevirtual 86, 3) := by decide +kernel
theorem dR_open_106 : decode mR_open.2.1 106 = .ok (.aload_n 0, 1) := by decide +kernel
theorem dR_open_107 : decode mR_open.2.1 107 = .ok (.iload_n 3, 1) := by decide +kernel
theorem dR_open_108 : decode mR_open.2.1 108 = .ok (.invokevirtual 140, 3) := by decide +kernel
theorem dR_open_111 : decode mR_open.2.1 111 = .ok (.aload_n 0, 1) := by decide +kernel
theorem dR_open_112 : decode mR_open.2.1 112 = .ok (.iload 4, 2) := by decide +kernel
theorem dR_open_114 : decode mR_open.2.1 114 = .ok (.invokevirtual 140, 3) := by decide +kernel
theorem dR_open_117 : decode mR_open.2.1 117 = .ok (.iload_n 2, 1) := by decide +kernel
theorem dR_open_118 : decode mR_open.2.1 118 = .ok (.iload 5, 2) := by decide +kernel
theorem dR_open_120 : decode mR_open.2.1 120 = .ok (.isub, 1) := by decide +kernel
theorem dR_open_121 : decode mR_open.2.1 121 = .ok (.istore_n 2, 1) := by decide +kernel
theorem dR_open_122 : decode mR_open.2.1 122 = .ok (.goto (-82), 3) := by decide +kernel
theorem dR_open_125 : decode mR_open.2.1 125 = .ok (.aload_n 0, 1) := by decide +kernel
theorem dR_open_126 : decode mR_open.2.1 126 = .ok (.getfield 131, 3) := by decide +kernel
theorem dR_open_129 : decode mR_open.2.1 129 = .ok (.ireturn, 1) := by decide +kernel
theorem dR_look_0 : decode mR_look.2.1 0 = .ok (.iconst 0, 1) := by decide +kernel
theorem dR_look_1 : decode mR_look.2.1 1 = .ok (.istore_n 2, 1) := by decide +kernel
theorem dR_look_2 : decode mR_look.2.1 2 = .ok (.iconst 0, 1) := by decide +kernel
theorem dR_look_3 : decode mR_look.2.1 3 = .ok (.istore_n 3, 1) := by decide +kernel
theorem dR_look_4 : decode mR_look.2.1 4 = .ok (.iconst 1, 1) := by decide +kernel
theorem dR_look_5 : decode mR_look.2.1 5 = .ok (.istore 4, 2) := by decide +kernel
theorem dR_look_7 : decode mR_look.2.1 7 = .ok (.iload 4, 2) := by decide +kernel
theorem dR_look_9 : decode mR_look.2.1 9 = .ok (.bipush (64), 2) := by decide +kernel
theorem dR_look_11 : decode mR_look.2.1 11 = .ok (.if_icmp .ge (78), 3) := by decide +kernel
theorem dR_look_14 : decode mR_look.2.1 14 = .ok (.aload_n 0, 1) := by decide +kernel
theorem dR_look_15 : decode mR_look.2.1 15 = .ok (.iload_n 1, 1) := by decide +kernel
theorem dR_look_16 : decode mR_look.2.1 16 = .ok (.iconst 0, 1) := by decide +kernel
theorem dR_look_17 : decode mR_look.2.1 17 = .ok (.iload 4, 2) := by decide +kernel
theorem dR_look_19 : decode mR_look.2.1 19 = .ok (.invokevirtual 121, 3) := by decide +kernel
theorem dR_look_22 : decode mR_look.2.1 22 = .ok (.istore 5, 2) := by decide +kernel
theorem dR_look_24 : decode mR_look.2.1 24 = .ok (.aload_n 0, 1) := by decide +kernel
theorem dR_look_25 : decode mR_look.2.1 25 = .ok (.iload_n 1, 1) := by decide +kernel
theorem dR_look_26 : decode mR_look.2.1 26 = .ok (.iconst 1, 1) := by decide +kernel
theorem dR_look_27 : decode mR_look.2.1 27 = .ok (.iload 4, 2) := by decide +kernel
theorem dR_look_29 : decode mR_look.2.1 29 = .ok (.invokevirtual 121, 3) := by decide +kernel
theorem dR_look_32 : decode mR_look.2.1 32 = .ok (.istore 6, 2) := by decide +kernel
theorem dR_look_34 : decode mR_look.2.1 34 = .ok (.iload 5, 2) := by decide +kernel
theorem dR_look_36 : decode mR_look.2.1 36 = .ok (.iload 6, 2) := by decide +kernel
theorem dR_look_38 : decode mR_look.2.1 38 = .ok (.if_icmp .ge (8), 3) := by decide +kernel
theorem dR_look_41 : decode mR_look.2.1 41 = .ok (.iload 5, 2) := by decide +kernel
theorem dR_look_43 : decode mR_look.2.1 43 = .ok (.goto (5), 3) := by decide +kernel
theorem dR_look_46 : decode mR_look.2.1 46 = .ok (.iload 6, 2) := by decide +kernel
theorem dR_look_48 : decode mR_look.2.1 48 = .ok (.istore 7, 2) := by decide +kernel
theorem dR_look_50 : decode mR_look.2.1 50 = .ok (.iload 6, 2) := by decide +kernel
theorem dR_look_52 : decode mR_look.2.1 52 = .ok (.iload 5, 2) := by decide +kernel
theorem dR_look_54 : decode mR_look.2.1 54 = .ok (.invokestatic 125, 3) := by decide +kernel
theorem dR_look_57 : decode mR_look.2.1 57 = .ok (.istore 8, 2) := by decide +kernel
theorem dR_look_59 : decode mR_look.2.1 59 = .ok (.iload 7, 2) := by decide +kernel
theorem dR_look_61 : decode mR_look.2.1 61 = .ok (.iload_n 2, 1) := by decide +kernel
theorem dR_look_62 : decode mR_look.2.1 62 = .ok (.if_icmp .gt (15), 3) := by decide +kernel
theorem dR_look_65 : decode mR_look.2.1 65 = .ok (.iload 7, 2) := by decide +kernel
theorem dR_look_67 : decode mR_look.2.1 67 = .ok (.iload_n 2, 1) := by decide +kernel
theorem dR_look_68 : decode mR_look.2.1 68 = .ok (.if_icmp .ne (15), 3) := by decide +kernel
theorem dR_look_71 : decode mR_look.2.1 71 = .ok (.iload 8, 2) := by decide +kernel
theorem dR_look_73 : decode mR_look.2.1 73 = .ok (.iload_n 3, 1) := by decide +kernel
theorem dR_look_74 : decode mR_look.2.1 74 = .ok (.if_icmp .ge (9), 3) := by decide +kernel
theorem dR_look_77 : decode mR_look.2.1 77 = .ok (.iload 7, 2) := by decide +kernel
theorem dR_look_79 : decode mR_look.2.1 79 = .ok (.istore_n 2, 1) := by decide +kernel
theorem dR_look_80 : decode mR_look.2.1 80 = .ok (.iload 8, 2) := by decide +kernel
theorem dR_look_82 : decode mR_look.2.1 82 = .ok (.istore_n 3, 1) := by decide +kernel
theorem dR_look_83 : decode mR_look.2.1 83 = .ok (.iinc 4 (1), 3) := by decide +kernel
theorem dR_look_86 : decode mR_look.2.1 86 = .ok (.goto (-79), 3) := by decide +kernel
theorem dR_look_89 : decode mR_look.2.1 89 = .ok (.aload_n 0, 1) := by decide +kernel
theorem dR_look_90 : decode mR_look.2.1 90 = .ok (.iconst 0, 1) := by decide +kernel
theorem dR_look_91 : decode mR_look.2.1 91 = .ok (.putfield 128, 3) := by decide +kernel
theorem dR_look_94 : decode mR_look.2.1 94 = .ok (.aload_n 0, 1) := by decide +kernel
theorem dR_look_95 : decode mR_look.2.1 95 = .ok (.iload_n 2, 1) := by decide +kernel
theorem dR_look_96 : decode mR_look.2.1 96 = .ok (.putfield 131, 3) := by decide +kernel
theorem dR_look_99 : decode mR_look.2.1 99 = .ok (.iconst 1, 1) := by decide +kernel
theorem dR_look_100 : decode mR_look.2.1 100 = .ok (.istore 4, 2) := by decide +kernel
theorem dR_look_102 : decode mR_look.2.1 102 = .ok (.iconst 1, 1) := by decide +kernel
theorem dR_look_103 : decode mR_look.2.1 103 = .ok (.istore 5, 2) := by decide +kernel
theorem dR_look_105 : decode mR_look.2.1 105 = .ok (.iconst 0, 1) := by decide +kernel
theorem dR_look_106 : decode mR_look.2.1 106 = .ok (.istore 6, 2) := by decide +kernel
theorem dR_look_108 : decode mR_look.2.1 108 = .ok (.iconst 0, 1) := by decide +kernel
theorem dR_look_109 : decode mR_look.2.1 109 = .ok (.istore 7, 2) := by decide +kernel
theorem dR_look_111 : decode mR_look.2.1 111 = .ok (.iconst 0, 1) := by decide +kernel
theorem dR_look_112 : decode mR_look.2.1 112 = .ok (.istore 8, 2) := by decide +kernel
theorem dR_look_114 : decode mR_look.2.1 114 = .ok (.iconst 1, 1) := by decide +kernel
theorem dR_look_115 : decode mR_look.2.1 115 = .ok (.istore 9, 2) := by decide +kernel
theorem dR_look_117 : decode mR_look.2.1 117 = .ok (.iload 9, 2) := by decide +kernel
theorem dR_look_119 : decode mR_look.2.1 119 = .ok (.bipush (64), 2) := by decide +kernel
theorem dR_look_121 : decode mR_look.2.1 121 = .ok (.if_icmp .ge (153), 3) := by decide +kernel
theorem dR_look_124 : decode mR_look.2.1 124 = .ok (.aload_n 0, 1) := by decide +kernel
theorem dR_look_125 : decode mR_look.2.1 125 = .ok (.iload_n 1, 1) := by decide +kernel
theorem dR_look_126 : decode mR_look.2.1 126 = .ok (.iconst 0, 1) := by decide +kernel
theorem dR_look_127 : decode mR_look.2.1 127 = .ok (.iload 9, 2) := by decide +kernel
theorem dR_look_129 : decode mR_look.2.1 129 = .ok (.invokevirtual 121, 3) := by decide +kernel
theorem dR_look_132 : decode mR_look.2.1 132 = .ok (.istore 10, 2) := by decide +kernel
theorem dR_look_134 : decode mR_look.2.1 134 = .ok (.aload_n 0, 1) := by decide +kernel
theorem dR_look_135 : decode mR_look.2.1 135 = .ok (.iload_n 1, 1) := by decide +kernel
theorem dR_look_136 : decode mR_look.2.1 136 = .ok (.iconst 1, 1) := by decide +kernel
theorem dR_look_137 : decode mR_look.2.1 137 = .ok (.iload 9, 2) := by decide +kernel
theorem dR_look_139 : decode mR_look.2.1 139 = .ok (.invokevirtual 121, 3) := by decide +kernel
theorem dR_look_142 : decode mR_look.2.1 142 = .ok (.istore 11, 2) := by decide +kernel
theorem dR_look_144 : decode mR_look.2.1 144 = .ok (.iload 10, 2) := by decide +kernel
theorem dR_look_146 : decode mR_look.2.1 146 = .ok (.iload 11, 2) := by decide +kernel
theorem dR_look_148 : decode mR_look.2.1 148 = .ok (.if_icmp .ge (8), 3) := by decide +kernel
theorem dR_look_151 : decode mR_look.2.1 151 = .ok (.iload 10, 2) := by decide +kernel
theorem dR_look_153 : decode mR_look.2.1 153 = .ok (.goto (5), 3) := by decide +kernel
theorem dR_look_156 : decode mR_look.2.1 156 = .ok (.iload 11, 2) := by decide +kernel
theorem dR_look_158 : decode mR_look.2.1 158 = .ok (.iload_n 2, 1) := by decide +kernel
theorem dR_look_159 : decode mR_look.2.1 159 = .ok (.if_icmp .ne (109), 3) := by decide +kernel
theorem dR_look_162 : decode mR_look.2.1 162 = .ok (.iload 11, 2) := by decide +kernel
theorem dR_look_164 : decode mR_look.2.1 164 = .ok (.iload 10, 2) := by decide +kernel
theorem dR_look_166 : decode mR_look.2.1 166 = .ok (.invokestatic 125, 3) := by decide +kernel
theorem dR_look_169 : decode mR_look.2.1 169 = .ok (.iload_n 3, 1) := by decide +kernel
theorem dR_look_170 : decode mR_look.2.1 170 = .ok (.if_icmp .ne (98), 3) := by decide +kernel
theorem dR_look_173 : decode mR_look.2.1 173 = .ok (.iload 4, 2) := by decide +kernel
theorem dR_look_175 : decode mR_look.2.1 175 = .ok (.ifCond .eq (14), 3) := by decide +kernel
theorem dR_look_178 : decode mR_look.2.1 178 = .ok (.iload 10, 2) := by decide +kernel
theorem dR_look_180 : decode mR_look.2.1 180 = .ok (.iload 11, 2) := by decide +kernel
theorem dR_look_182 : decode mR_look.2.1 182 = .ok (.if_icmp .le (7), 3) := by decide +kernel
theorem dR_look_185 : decode mR_look.2.1 185 = .ok (.iconst 1, 1) := by decide +kernel
theorem dR_look_186 : decode mR_look.2.1 186 = .ok (.goto (4), 3) := by decide +kernel
theorem dR_look_189 : decode mR_look.2.1 189 = .ok (.iconst 0, 1) := by decide +kernel
theorem dR_look_190 : decode mR_look.2.1 190 = .ok (.istore 4, 2) := by decide +kernel
theorem dR_look_192 : decode mR_look.2.1 192 = .ok (.iload 5, 2) := by decide +kernel
theorem dR_look_194 : decode mR_look.2.1 194 = .ok (.ifCond .eq (14), 3) := by decide +kernel
theorem dR_look_197 : decode mR_look.2.1 197 = .ok (.iload 11, 2) := by decide +kernel
theorem dR_look_199 : decode mR_look.2.1 199 = .ok (.iload 10, 2) := by decide +kernel
theorem dR_look_201 : decode mR_look.2.1 201 = .ok (.if_icmp .le (7), 3) := by decide +kernel
theorem dR_look_204 : decode mR_look.2.1 204 = .ok (.iconst 1, 1) := by decide +kernel
theorem dR_look_205 : decode mR_look.2.1 205 = .ok (.goto (4), 3) := by decide +kernel
theorem dR_look_208 : decode mR_look.2.1 208 = .ok (.iconst 0, 1) := by decide +kernel
theorem dR_look_209 : decode mR_look.2.1 209 = .ok (.istore 5, 2) := by decide +kernel
