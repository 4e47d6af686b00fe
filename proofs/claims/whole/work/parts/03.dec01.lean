theorem dX7_goThrough_32 : decode cX7_goThrough 32 = .ok (.if_icmp .ge 258, 3) := by decide +kernel
theorem dX7_goThrough_35 : decode cX7_goThrough 35 = .ok (.iload 4, 2) := by decide +kernel
theorem dX7_goThrough_37 : decode cX7_goThrough 37 = .ok (.bipush 24, 2) := by decide +kernel
theorem dX7_goThrough_39 : decode cX7_goThrough 39 = .ok (.imul, 1) := by decide +kernel
theorem dX7_goThrough_40 : decode cX7_goThrough 40 = .ok (.iload 5, 2) := by decide +kernel
theorem dX7_goThrough_42 : decode cX7_goThrough 42 = .ok (.iadd, 1) := by decide +kernel
theorem dX7_goThrough_43 : decode cX7_goThrough 43 = .ok (.istore 6, 2) := by decide +kernel
theorem dX7_goThrough_45 : decode cX7_goThrough 45 = .ok (.iload_n 3, 1) := by decide +kernel
theorem dX7_goThrough_46 : decode cX7_goThrough 46 = .ok (.ifCond .eq 20, 3) := by decide +kernel
theorem dX7_goThrough_49 : decode cX7_goThrough 49 = .ok (.aload_n 0, 1) := by decide +kernel
theorem dX7_goThrough_50 : decode cX7_goThrough 50 = .ok (.getfield 136, 3) := by decide +kernel
theorem dX7_goThrough_53 : decode cX7_goThrough 53 = .ok (.lconst 0, 1) := by decide +kernel
theorem dX7_goThrough_54 : decode cX7_goThrough 54 = .ok (.lcmp, 1) := by decide +kernel
theorem dX7_goThrough_55 : decode cX7_goThrough 55 = .ok (.ifCond .lt 7, 3) := by decide +kernel
theorem dX7_goThrough_58 : decode cX7_goThrough 58 = .ok (.iconst 1, 1) := by decide +kernel
theorem dX7_goThrough_59 : decode cX7_goThrough 59 = .ok (.goto 21, 3) := by decide +kernel
theorem dX7_goThrough_62 : decode cX7_goThrough 62 = .ok (.iconst 0, 1) := by decide +kernel
theorem dX7_goThrough_63 : decode cX7_goThrough 63 = .ok (.goto 17, 3) := by decide +kernel
theorem dX7_goThrough_66 : decode cX7_goThrough 66 = .ok (.aload_n 0, 1) := by decide +kernel
theorem dX7_goThrough_67 : decode cX7_goThrough 67 = .ok (.getfield 133, 3) := by decide +kernel
theorem dX7_goThrough_70 : decode cX7_goThrough 70 = .ok (.lconst 0, 1) := by decide +kernel
theorem dX7_goThrough_71 : decode cX7_goThrough 71 = .ok (.lcmp, 1) := by decide +kernel
theorem dX7_goThrough_72 : decode cX7_goThrough 72 = .ok (.ifCond .ge 7, 3) := by decide +kernel
theorem dX7_goThrough_75 : decode cX7_goThrough 75 = .ok (.iconst 1, 1) := by decide +kernel
theorem dX7_goThrough_76 : decode cX7_goThrough 76 = .ok (.goto 4, 3) := by decide +kernel
theorem dX7_goThrough_79 : decode cX7_goThrough 79 = .ok (.iconst 0, 1) := by decide +kernel
theorem dX7_goThrough_80 : decode cX7_goThrough 80 = .ok (.istore 7, 2) := by decide +kernel
theorem dX7_goThrough_82 : decode cX7_goThrough 82 = .ok (.aload_n 0, 1) := by decide +kernel
theorem dX7_goThrough_83 : decode cX7_goThrough 83 = .ok (.getfield 9, 3) := by decide +kernel
theorem dX7_goThrough_86 : decode cX7_goThrough 86 = .ok (.aload_n 0, 1) := by decide +kernel
theorem dX7_goThrough_87 : decode cX7_goThrough 87 = .ok (.getfield 133, 3) := by decide +kernel
theorem dX7_goThrough_90 : decode cX7_goThrough 90 = .ok (.aload_n 0, 1) := by decide +kernel
theorem dX7_goThrough_91 : decode cX7_goThrough 91 = .ok (.getfield 9, 3) := by decide +kernel
theorem dX7_goThrough_94 : decode cX7_goThrough 94 = .ok (.getfield 171, 3) := by decide +kernel
theorem dX7_goThrough_97 : decode cX7_goThrough 97 = .ok (.iload 6, 2) := by decide +kernel
theorem dX7_goThrough_99 : decode cX7_goThrough 99 = .ok (.iaload, 1) := by decide +kernel
theorem dX7_goThrough_100 : decode cX7_goThrough 100 = .ok (.invokevirtual 146, 3) := by decide +kernel
theorem dX7_goThrough_103 : decode cX7_goThrough 103 = .ok (.lstore 8, 2) := by decide +kernel
theorem dX7_goThrough_105 : decode cX7_goThrough 105 = .ok (.aload_n 0, 1) := by decide +kernel
theorem dX7_goThrough_106 : decode cX7_goThrough 106 = .ok (.getfield 9, 3) := by decide +kernel
theorem dX7_goThrough_109 : decode cX7_goThrough 109 = .ok (.aload_n 0, 1) := by decide +kernel
theorem dX7_goThrough_110 : decode cX7_goThrough 110 = .ok (.getfield 130, 3) := by decide +kernel
theorem dX7_goThrough_113 : decode cX7_goThrough 113 = .ok (.aload_n 0, 1) := by decide +kernel
theorem dX7_goThrough_114 : decode cX7_goThrough 114 = .ok (.getfield 9, 3) := by decide +kernel
theorem dX7_goThrough_117 : decode cX7_goThrough 117 = .ok (.getfield 171, 3) := by decide +kernel
theorem dX7_goThrough_120 : decode cX7_goThrough 120 = .ok (.iload 6, 2) := by decide +kernel
theorem dX7_goThrough_122 : decode cX7_goThrough 122 = .ok (.iaload, 1) := by decide +kernel
theorem dX7_goThrough_123 : decode cX7_goThrough 123 = .ok (.invokevirtual 146, 3) := by decide +kernel
theorem dX7_goThrough_126 : decode cX7_goThrough 126 = .ok (.lstore 10, 2) := by decide +kernel
theorem dX7_goThrough_128 : decode cX7_goThrough 128 = .ok (.iload 4, 2) := by decide +kernel
theorem dX7_goThrough_130 : decode cX7_goThrough 130 = .ok (.ifCond .ne 32, 3) := by decide +kernel
theorem dX7_goThrough_133 : decode cX7_goThrough 133 = .ok (.aload_n 0, 1) := by decide +kernel
theorem dX7_goThrough_134 : decode cX7_goThrough 134 = .ok (.iload 7, 2) := by decide +kernel
theorem dX7_goThrough_136 : decode cX7_goThrough 136 = .ok (.ifCond .eq 13, 3) := by decide +kernel
theorem dX7_goThrough_139 : decode cX7_goThrough 139 = .ok (.aload_n 0, 1) := by decide +kernel
theorem dX7_goThrough_140 : decode cX7_goThrough 140 = .ok (.getfield 130, 3) := by decide +kernel
theorem dX7_goThrough_143 : decode cX7_goThrough 143 = .ok (.lload 8, 2) := by decide +kernel
theorem dX7_goThrough_145 : decode cX7_goThrough 145 = .ok (.lsub, 1) := by decide +kernel
theorem dX7_goThrough_146 : decode cX7_goThrough 146 = .ok (.goto 10, 3) := by decide +kernel
theorem dX7_goThrough_149 : decode cX7_goThrough 149 = .ok (.aload_n 0, 1) := by decide +kernel
theorem dX7_goThrough_150 : decode cX7_goThrough 150 = .ok (.getfield 130, 3) := by decide +kernel
theorem dX7_goThrough_153 : decode cX7_goThrough 153 = .ok (.lload 8, 2) := by decide +kernel
theorem dX7_goThrough_155 : decode cX7_goThrough 155 = .ok (.ladd, 1) := by decide +kernel
theorem dX7_goThrough_156 : decode cX7_goThrough 156 = .ok (.putfield 130, 3) := by decide +kernel
theorem dX7_goThrough_159 : decode cX7_goThrough 159 = .ok (.goto 35, 3) := by decide +kernel
theorem dX7_goThrough_162 : decode cX7_goThrough 162 = .ok (.iload 4, 2) := by decide +kernel
theorem dX7_goThrough_164 : decode cX7_goThrough 164 = .ok (.iconst 2, 1) := by decide +kernel
theorem dX7_goThrough_165 : decode cX7_goThrough 165 = .ok (.if_icmp .ne 29, 3) := by decide +kernel
theorem dX7_goThrough_168 : decode cX7_goThrough 168 = .ok (.aload_n 0, 1) := by decide +kernel
theorem dX7_goThrough_169 : decode cX7_goThrough 169 = .ok (.iload 7, 2) := by decide +kernel
theorem dX7_goThrough_171 : decode cX7_goThrough 171 = .ok (.ifCond .eq 13, 3) := by decide +kernel
theorem dX7_goThrough_174 : decode cX7_goThrough 174 = .ok (.aload_n 0, 1) := by decide +kernel
theorem dX7_goThrough_175 : decode cX7_goThrough 175 = .ok (.getfield 130, 3) := by decide +kernel
theorem dX7_goThrough_178 : decode cX7_goThrough 178 = .ok (.lload 8, 2) := by decide +kernel
theorem dX7_goThrough_180 : decode cX7_goThrough 180 = .ok (.ladd, 1) := by decide +kernel
theorem dX7_goThrough_181 : decode cX7_goThrough 181 = .ok (.goto 10, 3) := by decide +kernel
theorem dX7_goThrough_184 : decode cX7_goThrough 184 = .ok (.aload_n 0, 1) := by decide +kernel
theorem dX7_goThrough_185 : decode cX7_goThrough 185 = .ok (.getfield 130, 3) := by decide +kernel
theorem dX7_goThrough_188 : decode cX7_goThrough 188 = .ok (.lload 8, 2) := by decide +kernel
theorem dX7_goThrough_190 : decode cX7_goThrough 190 = .ok (.lsub, 1) := by decide +kernel
theorem dX7_goThrough_191 : decode cX7_goThrough 191 = .ok (.putfield 130, 3) := by decide +kernel
theorem dX7_goThrough_194 : decode cX7_goThrough 194 = .ok (.aload_n 0, 1) := by decide +kernel
theorem dX7_goThrough_195 : decode cX7_goThrough 195 = .ok (.iload 7, 2) := by decide +kernel
theorem dX7_goThrough_197 : decode cX7_goThrough 197 = .ok (.ifCond .eq 13, 3) := by decide +kernel
theorem dX7_goThrough_200 : decode cX7_goThrough 200 = .ok (.aload_n 0, 1) := by decide +kernel
theorem dX7_goThrough_201 : decode cX7_goThrough 201 = .ok (.getfield 133, 3) := by decide +kernel
theorem dX7_goThrough_204 : decode cX7_goThrough 204 = .ok (.lload 10, 2) := by decide +kernel
theorem dX7_goThrough_206 : decode cX7_goThrough 206 = .ok (.ladd, 1) := by decide +kernel
theorem dX7_goThrough_207 : decode cX7_goThrough 207 = .ok (.goto 10, 3) := by decide +kernel
theorem dX7_goThrough_210 : decode cX7_goThrough 210 = .ok (.aload_n 0, 1) := by decide +kernel
theorem dX7_goThrough_211 : decode cX7_goThrough 211 = .ok (.getfield 133, 3) := by decide +kernel
theorem dX7_goThrough_214 : decode cX7_goThrough 214 = .ok (.lload 10, 2) := by decide +kernel
theorem dX7_goThrough_216 : decode cX7_goThrough 216 = .ok (.lsub, 1) := by decide +kernel
theorem dX7_goThrough_217 : decode cX7_goThrough 217 = .ok (.putfield 133, 3) := by decide +kernel
theorem dX7_goThrough_220 : decode cX7_goThrough 220 = .ok (.aload_n 0, 1) := by decide +kernel
theorem dX7_goThrough_221 : decode cX7_goThrough 221 = .ok (.iload 7, 2) := by decide +kernel
theorem dX7_goThrough_223 : decode cX7_goThrough 223 = .ok (.ifCond .eq 21, 3) := by decide +kernel
theorem dX7_goThrough_226 : decode cX7_goThrough 226 = .ok (.aload_n 0, 1) := by decide +kernel
theorem dX7_goThrough_227 : decode cX7_goThrough 227 = .ok (.getfield 136, 3) := by decide +kernel
theorem dX7_goThrough_230 : decode cX7_goThrough 230 = .ok (.aload_n 0, 1) := by decide +kernel
theorem dX7_goThrough_231 : decode cX7_goThrough 231 = .ok (.getfield 9, 3) := by decide +kernel
theorem dX7_goThrough_234 : decode cX7_goThrough 234 = .ok (.getfield 174, 3) := by decide +kernel
theorem dX7_goThrough_237 : decode cX7_goThrough 237 = .ok (.iload 6, 2) := by decide +kernel
theorem dX7_goThrough_239 : decode cX7_goThrough 239 = .ok (.laload, 1) := by decide +kernel
theorem dX7_goThrough_240 : decode cX7_goThrough 240 = .ok (.lsub, 1) := by decide +kernel
theorem dX7_goThrough_241 : decode cX7_goThrough 241 = .ok (.goto 18, 3) := by decide +kernel
theorem dX7_goThrough_244 : decode cX7_goThrough 244 = .ok (.aload_n 0, 1) := by decide +kernel
theorem dX7_goThrough_245 : decode cX7_goThrough 245 = .ok (.getfield 136, 3) := by decide +kernel
theorem dX7_goThrough_248 : decode cX7_goThrough 248 = .ok (.aload_n 0, 1) := by decide +kernel
theorem dX7_goThrough_249 : decode cX7_goThrough 249 = .ok (.getfield 9, 3) := by decide +kernel
theorem dX7_goThrough_252 : decode cX7_goThrough 252 = .ok (.getfield 174, 3) := by decide +kernel
theorem dX7_goThrough_255 : decode cX7_goThrough 255 = .ok (.iload 6, 2) := by decide +kernel
theorem dX7_goThrough_257 : decode cX7_goThrough 257 = .ok (.laload, 1) := by decide +kernel
theorem dX7_goThrough_258 : decode cX7_goThrough 258 = .ok (.ladd, 1) := by decide +kernel
theorem dX7_goThrough_259 : decode cX7_goThrough 259 = .ok (.putfield 136, 3) := by decide +kernel
theorem dX7_goThrough_262 : decode cX7_goThrough 262 = .ok (.aload_n 0, 1) := by decide +kernel
theorem dX7_goThrough_263 : decode cX7_goThrough 263 = .ok (.dup, 1) := by decide +kernel
theorem dX7_goThrough_264 : decode cX7_goThrough 264 = .ok (.getfield 83, 3) := by decide +kernel
theorem dX7_goThrough_267 : decode cX7_goThrough 267 = .ok (.iload 7, 2) := by decide +kernel
theorem dX7_goThrough_269 : decode cX7_goThrough 269 = .ok (.ifCond .eq 10, 3) := by decide +kernel
theorem dX7_goThrough_272 : decode cX7_goThrough 272 = .ok (.iconst 1, 1) := by decide +kernel
theorem dX7_goThrough_273 : decode cX7_goThrough 273 = .ok (.iload 5, 2) := by decide +kernel
theorem dX7_goThrough_275 : decode cX7_goThrough 275 = .ok (.ishl, 1) := by decide +kernel
theorem dX7_goThrough_276 : decode cX7_goThrough 276 = .ok (.goto 4, 3) := by decide +kernel
theorem dX7_goThrough_279 : decode cX7_goThrough 279 = .ok (.iconst 0, 1) := by decide +kernel
theorem dX7_goThrough_280 : decode cX7_goThrough 280 = .ok (.ior, 1) := by decide +kernel
theorem dX7_goThrough_281 : decode cX7_goThrough 281 = .ok (.putfield 83, 3) := by decide +kernel
theorem dX7_goThrough_284 : decode cX7_goThrough 284 = .ok (.iinc 5 1, 3) := by decide +kernel
theorem dX7_goThrough_287 : decode cX7_goThrough 287 = .ok (.goto (-265), 3) := by decide +kernel
theorem dX7_goThrough_290 : decode cX7_goThrough 290 = .ok (.return_, 1) := by decide +kernel
theorem dX7_finish_0 : decode cX7_finish 0 = .ok (.getstatic 44, 3) := by decide +kernel
theorem dX7_finish_3 : decode cX7_finish 3 = .ok (.getstatic 50, 3) := by decide +kernel
theorem dX7_finish_6 : decode cX7_finish 6 = .ok (.iload_n 1, 1) := by decide +kernel
theorem dX7_finish_7 : decode cX7_finish 7 = .ok (.aaload, 1) := by decide +kernel
theorem dX7_finish_8 : decode cX7_finish 8 = .ok (.invokevirtual 54, 3) := by decide +kernel
theorem dX7_finish_11 : decode cX7_finish 11 = .ok (.iaload, 1) := by decide +kernel
theorem dX7_finish_12 : decode cX7_finish 12 = .ok (.tableswitch 228 1 9 #[52, 67, 90, 107, 124, 139, 228, 167, 197], 52) := by decide +kernel
theorem dX7_finish_64 : decode cX7_finish 64 = .ok (.aload_n 0, 1) := by decide +kernel
theorem dX7_finish_65 : decode cX7_finish 65 = .ok (.aload_n 0, 1) := by decide +kernel
theorem dX7_finish_66 : decode cX7_finish 66 = .ok (.getfield 130, 3) := by decide +kernel
theorem dX7_finish_69 : decode cX7_finish 69 = .ok (.aload_n 0, 1) := by decide +kernel
theorem dX7_finish_70 : decode cX7_finish 70 = .ok (.getfield 133, 3) := by decide +kernel
theorem dX7_finish_73 : decode cX7_finish 73 = .ok (.invokevirtual 149, 3) := by decide +kernel
theorem dX7_finish_76 : decode cX7_finish 76 = .ok (.goto 192, 3) := by decide +kernel
theorem dX7_finish_79 : decode cX7_finish 79 = .ok (.aload_n 0, 1) := by decide +kernel
theorem dX7_finish_80 : decode cX7_finish 80 = .ok (.aload_n 0, 1) := by decide +kernel
theorem dX7_finish_81 : decode cX7_finish 81 = .ok (.getfield 9, 3) := by decide +kernel
theorem dX7_finish_84 : decode cX7_finish 84 = .ok (.iconst 0, 1) := by decide +kernel
theorem dX7_finish_85 : decode cX7_finish 85 = .ok (.aload_n 0, 1) := by decide +kernel
theorem dX7_finish_86 : decode cX7_finish 86 = .ok (.getfield 130, 3) := by decide +kernel
theorem dX7_finish_89 : decode cX7_finish 89 = .ok (.invokevirtual 177, 3) := by decide +kernel
theorem dX7_finish_92 : decode cX7_finish 92 = .ok (.aload_n 0, 1) := by decide +kernel
theorem dX7_finish_93 : decode cX7_finish 93 = .ok (.getfield 136, 3) := by decide +kernel
theorem dX7_finish_96 : decode cX7_finish 96 = .ok (.invokevirtual 161, 3) := by decide +kernel
theorem dX7_finish_99 : decode cX7_finish 99 = .ok (.goto 169, 3) := by decide +kernel
theorem dX7_finish_102 : decode cX7_finish 102 = .ok (.aload_n 0, 1) := by decide +kernel
theorem dX7_finish_103 : decode cX7_finish 103 = .ok (.aload_n 0, 1) := by decide +kernel
theorem dX7_finish_104 : decode cX7_finish 104 = .ok (.getfield 133, 3) := by decide +kernel
theorem dX7_finish_107 : decode cX7_finish 107 = .ok (.aload_n 0, 1) := by decide +kernel
theorem dX7_finish_108 : decode cX7_finish 108 = .ok (.getfield 86, 3) := by decide +kernel
theorem dX7_finish_111 : decode cX7_finish 111 = .ok (.lshl, 1) := by decide +kernel
theorem dX7_finish_112 : decode cX7_finish 112 = .ok (.lconst 0, 1) := by decide +kernel
theorem dX7_finish_113 : decode cX7_finish 113 = .ok (.invokevirtual 161, 3) := by decide +kernel
theorem dX7_finish_116 : decode cX7_finish 116 = .ok (.goto 152, 3) := by decide +kernel
theorem dX7_finish_119 : decode cX7_finish 119 = .ok (.aload_n 0, 1) := by decide +kernel
theorem dX7_finish_120 : decode cX7_finish 120 = .ok (.aload_n 0, 1) := by decide +kernel
theorem dX7_finish_121 : decode cX7_finish 121 = .ok (.getfield 136, 3) := by decide +kernel
theorem dX7_finish_124 : decode cX7_finish 124 = .ok (.aload_n 0, 1) := by decide +kernel
theorem dX7_finish_125 : decode cX7_finish 125 = .ok (.getfield 86, 3) := by decide +kernel
theorem dX7_finish_128 : decode cX7_finish 128 = .ok (.lshl, 1) := by decide +kernel
theorem dX7_finish_129 : decode cX7_finish 129 = .ok (.lconst 0, 1) := by decide +kernel
theorem dX7_finish_130 : decode cX7_finish 130 = .ok (.invokevirtual 161, 3) := by decide +kernel
theorem dX7_finish_133 : decode cX7_finish 133 = .ok (.goto 135, 3) := by decide +kernel
theorem dX7_finish_136 : decode cX7_finish 136 = .ok (.aload_n 0, 1) := by decide +kernel
theorem dX7_finish_137 : decode cX7_finish 137 = .ok (.aload_n 0, 1) := by decide +kernel
theorem dX7_finish_138 : decode cX7_finish 138 = .ok (.getfield 130, 3) := by decide +kernel
theorem dX7_finish_141 : decode cX7_finish 141 = .ok (.aload_n 0, 1) := by decide +kernel
theorem dX7_finish_142 : decode cX7_finish 142 = .ok (.getfield 133, 3) := by decide +kernel
theorem dX7_finish_145 : decode cX7_finish 145 = .ok (.invokevirtual 161, 3) := by decide +kernel
theorem dX7_finish_148 : decode cX7_finish 148 = .ok (.goto 120, 3) := by decide +kernel
theorem dX7_finish_151 : decode cX7_finish 151 = .ok (.aload_n 0, 1) := by decide +kernel
theorem dX7_finish_152 : decode cX7_finish 152 = .ok (.aload_n 0, 1) := by decide +kernel
theorem dX7_finish_153 : decode cX7_finish 153 = .ok (.getfield 9, 3) := by decide +kernel
theorem dX7_finish_156 : decode cX7_finish 156 = .ok (.aload_n 0, 1) := by decide +kernel
theorem dX7_finish_157 : decode cX7_finish 157 = .ok (.getfield 130, 3) := by decide +kernel
theorem dX7_finish_160 : decode cX7_finish 160 = .ok (.aload_n 0, 1) := by decide +kernel
theorem dX7_finish_161 : decode cX7_finish 161 = .ok (.getfield 133, 3) := by decide +kernel
theorem dX7_finish_164 : decode cX7_finish 164 = .ok (.ladd, 1) := by decide +kernel
theorem dX7_finish_165 : decode cX7_finish 165 = .ok (.aload_n 0, 1) := by decide +kernel
theorem dX7_finish_166 : decode cX7_finish 166 = .ok (.getfield 86, 3) := by decide +kernel
theorem dX7_finish_169 : decode cX7_finish 169 = .ok (.invokevirtual 120, 3) := by decide +kernel
theorem dX7_finish_172 : decode cX7_finish 172 = .ok (.lconst 0, 1) := by decide +kernel
theorem dX7_finish_173 : decode cX7_finish 173 = .ok (.invokevirtual 161, 3) := by decide +kernel
theorem dX7_finish_176 : decode cX7_finish 176 = .ok (.goto 92, 3) := by decide +kernel
theorem dX7_finish_179 : decode cX7_finish 179 = .ok (.aload_n 0, 1) := by decide +kernel
theorem dX7_finish_180 : decode cX7_finish 180 = .ok (.ldc2_w 142, 3) := by decide +kernel
theorem dX7_finish_183 : decode cX7_finish 183 = .ok (.aload_n 0, 1) := by decide +kernel
theorem dX7_finish_184 : decode cX7_finish 184 = .ok (.getfield 136, 3) := by decide +kernel
theorem dX7_finish_187 : decode cX7_finish 187 = .ok (.lmul, 1) := by decide +kernel
theorem dX7_finish_188 : decode cX7_finish 188 = .ok (.aload_n 0, 1) := by decide +kernel
theorem dX7_finish_189 : decode cX7_finish 189 = .ok (.getfield 86, 3) := by decide +kernel
theorem dX7_finish_192 : decode cX7_finish 192 = .ok (.i2l, 1) := by decide +kernel
theorem dX7_finish_193 : decode cX7_finish 193 = .ok (.aload_n 0, 1) := by decide +kernel
theorem dX7_finish_194 : decode cX7_finish 194 = .ok (.getfield 9, 3) := by decide +kernel
theorem dX7_finish_197 : decode cX7_finish 197 = .ok (.getfield 113, 3) := by decide +kernel
theorem dX7_finish_200 : decode cX7_finish 200 = .ok (.lmul, 1) := by decide +kernel
theorem dX7_finish_201 : decode cX7_finish 201 = .ok (.ladd, 1) := by decide +kernel
theorem dX7_finish_202 : decode cX7_finish 202 = .ok (.lconst 0, 1) := by decide +kernel
theorem dX7_finish_203 : decode cX7_finish 203 = .ok (.invokevirtual 161, 3) := by decide +kernel
theorem dX7_finish_206 : decode cX7_finish 206 = .ok (.goto 62, 3) := by decide +kernel
theorem dX7_finish_209 : decode cX7_finish 209 = .ok (.aload_n 0, 1) := by decide +kernel
theorem dX7_finish_210 : decode cX7_finish 210 = .ok (.aload_n 0, 1) := by decide +kernel
theorem dX7_finish_211 : decode cX7_finish 211 = .ok (.getfield 9, 3) := by decide +kernel
theorem dX7_finish_214 : decode cX7_finish 214 = .ok (.aload_n 0, 1) := by decide +kernel
theorem dX7_finish_215 : decode cX7_finish 215 = .ok (.getfield 9, 3) := by decide +kernel
theorem dX7_finish_218 : decode cX7_finish 218 = .ok (.iconst 2, 1) := by decide +kernel
theorem dX7_finish_219 : decode cX7_finish 219 = .ok (.aload_n 0, 1) := by decide +kernel
theorem dX7_finish_220 : decode cX7_finish 220 = .ok (.getfield 130, 3) := by decide +kernel
theorem dX7_finish_223 : decode cX7_finish 223 = .ok (.invokevirtual 177, 3) := by decide +kernel
theorem dX7_finish_226 : decode cX7_finish 226 = .ok (.aload_n 0, 1) := by decide +kernel
theorem dX7_finish_227 : decode cX7_finish 227 = .ok (.getfield 86, 3) := by decide +kernel
theorem dX7_finish_230 : decode cX7_finish 230 = .ok (.invokevirtual 120, 3) := by decide +kernel
theorem dX7_finish_233 : decode cX7_finish 233 = .ok (.lconst 0, 1) := by decide +kernel
theorem dX7_finish_234 : decode cX7_finish 234 = .ok (.invokevirtual 161, 3) := by decide +kernel
theorem dX7_finish_237 : decode cX7_finish 237 = .ok (.goto 31, 3) := by decide +kernel
theorem dX7_finish_240 : decode cX7_finish 240 = .ok (.aload_n 0, 1) := by decide +kernel
theorem dX7_finish_241 : decode cX7_finish 241 = .ok (.aload_n 0, 1) := by decide +kernel
theorem dX7_finish_242 : decode cX7_finish 242 = .ok (.getfield 9, 3) := by decide +kernel
theorem dX7_finish_245 : decode cX7_finish 245 = .ok (.iconst 0, 1) := by decide +kernel
theorem dX7_finish_246 : decode cX7_finish 246 = .ok (.aload_n 0, 1) := by decide +kernel
theorem dX7_finish_247 : decode cX7_finish 247 = .ok (.getfield 130, 3) := by decide +kernel
theorem dX7_finish_250 : decode cX7_finish 250 = .ok (.invokevirtual 177, 3) := by decide +kernel
theorem dX7_finish_253 : decode cX7_finish 253 = .ok (.aload_n 0, 1) := by decide +kernel
theorem dX7_finish_254 : decode cX7_finish 254 = .ok (.getfield 9, 3) := by decide +kernel
theorem dX7_finish_257 : decode cX7_finish 257 = .ok (.iconst 0, 1) := by decide +kernel
theorem dX7_finish_258 : decode cX7_finish 258 = .ok (.aload_n 0, 1) := by decide +kernel
theorem dX7_finish_259 : decode cX7_finish 259 = .ok (.getfield 133, 3) := by decide +kernel
theorem dX7_finish_262 : decode cX7_finish 262 = .ok (.invokevirtual 177, 3) := by decide +kernel
theorem dX7_finish_265 : decode cX7_finish 265 = .ok (.invokevirtual 161, 3) := by decide +kernel
theorem dX7_finish_268 : decode cX7_finish 268 = .ok (.aload_n 0, 1) := by decide +kernel
theorem dX7_finish_269 : decode cX7_finish 269 = .ok (.aload_n 0, 1) := by decide +kernel
theorem dX7_finish_270 : decode cX7_finish 270 = .ok (.getfield 9, 3) := by decide +kernel
theorem dX7_finish_273 : decode cX7_finish 273 = .ok (.aload_n 0, 1) := by decide +kernel
theorem dX7_finish_274 : decode cX7_finish 274 = .ok (.getfield 37, 3) := by decide +kernel
theorem dX7_finish_277 : decode cX7_finish 277 = .ok (.invokevirtual 181, 3) := by decide +kernel
theorem dX7_finish_280 : decode cX7_finish 280 = .ok (.aload_n 0, 1) := by decide +kernel
theorem dX7_finish_281 : decode cX7_finish 281 = .ok (.getfield 9, 3) := by decide +kernel
theorem dX7_finish_284 : decode cX7_finish 284 = .ok (.aload_n 0, 1) := by decide +kernel
theorem dX7_finish_285 : decode cX7_finish 285 = .ok (.getfield 41, 3) := by decide +kernel
theorem dX7_finish_288 : decode cX7_finish 288 = .ok (.invokevirtual 181, 3) := by decide +kernel
theorem dX7_finish_291 : decode cX7_finish 291 = .ok (.invokevirtual 161, 3) := by decide +kernel
theorem dX7_finish_294 : decode cX7_finish 294 = .ok (.return_, 1) := by decide +kernel
theorem dX8_init_0 : decode cX8_init 0 = .ok (.aload_n 0, 1) := by decide +kernel
theorem dX8_init_1 : decode cX8_init 1 = .ok (.invokespecial 3, 3) := by decide +kernel
theorem dX8_init_4 : decode cX8_init 4 = .ok (.aload_n 0, 1) := by decide +kernel
theorem dX8_init_5 : decode cX8_init 5 = .ok (.bipush 72, 2) := by decide +kernel
theorem dX8_init_7 : decode cX8_init 7 = .ok (.newarray .int, 2) := by decide +kernel
theorem dX8_init_9 : decode cX8_init 9 = .ok (.putfield 9, 3) := by decide +kernel
theorem dX8_init_12 : decode cX8_init 12 = .ok (.aload_n 0, 1) := by decide +kernel
theorem dX8_init_13 : decode cX8_init 13 = .ok (.bipush 72, 2) := by decide +kernel
theorem dX8_init_15 : decode cX8_init 15 = .ok (.newarray .long, 2) := by decide +kernel
theorem dX8_init_17 : decode cX8_init 17 = .ok (.putfield 15, 3) := by decide +kernel
theorem dX8_init_20 : decode cX8_init 20 = .ok (.aload_n 0, 1) := by decide +kernel
theorem dX8_init_21 : decode cX8_init 21 = .ok (.iconst 3, 1) := by decide +kernel
theorem dX8_init_22 : decode cX8_init 22 = .ok (.newarray .long, 2) := by decide +kernel
theorem dX8_init_24 : decode cX8_init 24 = .ok (.putfield 19, 3) := by decide +kernel
theorem dX8_init_27 : decode cX8_init 27 = .ok (.aload_n 0, 1) := by decide +kernel
theorem dX8_init_28 : decode cX8_init 28 = .ok (.iconst 3, 1) := by decide +kernel
theorem dX8_init_29 : decode cX8_init 29 = .ok (.newarray .long, 2) := by decide +kernel
theorem dX8_init_31 : decode cX8_init 31 = .ok (.putfield 22, 3) := by decide +kernel
theorem dX8_init_34 : decode cX8_init 34 = .ok (.aload_n 0, 1) := by decide +kernel
theorem dX8_init_35 : decode cX8_init 35 = .ok (.bipush 96, 2) := by decide +kernel
theorem dX8_init_37 : decode cX8_init 37 = .ok (.newarray .int, 2) := by decide +kernel
theorem dX8_init_39 : decode cX8_init 39 = .ok (.putfield 25, 3) := by decide +kernel
theorem dX8_init_42 : decode cX8_init 42 = .ok (.return_, 1) := by decide +kernel
theorem dX8_build_0 : decode cX8_build 0 = .ok (.aload_n 0, 1) := by decide +kernel
theorem dX8_build_1 : decode cX8_build 1 = .ok (.iload_n 1, 1) := by decide +kernel
theorem dX8_build_2 : decode cX8_build 2 = .ok (.putfield 28, 3) := by decide +kernel
theorem dX8_build_5 : decode cX8_build 5 = .ok (.aload_n 0, 1) := by decide +kernel
theorem dX8_build_6 : decode cX8_build 6 = .ok (.iload_n 2, 1) := by decide +kernel
theorem dX8_build_7 : decode cX8_build 7 = .ok (.putfield 32, 3) := by decide +kernel
theorem dX8_build_10 : decode cX8_build 10 = .ok (.aload_n 0, 1) := by decide +kernel
theorem dX8_build_11 : decode cX8_build 11 = .ok (.iload_n 3, 1) := by decide +kernel
theorem dX8_build_12 : decode cX8_build 12 = .ok (.putfield 35, 3) := by decide +kernel
theorem dX8_build_15 : decode cX8_build 15 = .ok (.aload_n 0, 1) := by decide +kernel
theorem dX8_build_16 : decode cX8_build 16 = .ok (.iload 4, 2) := by decide +kernel
theorem dX8_build_18 : decode cX8_build 18 = .ok (.putfield 38, 3) := by decide +kernel
theorem dX8_build_21 : decode cX8_build 21 = .ok (.aload_n 0, 1) := by decide +kernel
theorem dX8_build_22 : decode cX8_build 22 = .ok (.iload 5, 2) := by decide +kernel
theorem dX8_build_24 : decode cX8_build 24 = .ok (.putfield 41, 3) := by decide +kernel
theorem dX8_build_27 : decode cX8_build 27 = .ok (.aload_n 0, 1) := by decide +kernel
theorem dX8_build_28 : decode cX8_build 28 = .ok (.iload_n 1, 1) := by decide +kernel
theorem dX8_build_29 : decode cX8_build 29 = .ok (.iload_n 2, 1) := by decide +kernel
theorem dX8_build_30 : decode cX8_build 30 = .ok (.iadd, 1) := by decide +kernel
theorem dX8_build_31 : decode cX8_build 31 = .ok (.putfield 45, 3) := by decide +kernel
theorem dX8_build_34 : decode cX8_build 34 = .ok (.aload_n 0, 1) := by decide +kernel
theorem dX8_build_35 : decode cX8_build 35 = .ok (.aload_n 0, 1) := by decide +kernel
theorem dX8_build_36 : decode cX8_build 36 = .ok (.invokestatic 48, 3) := by decide +kernel
theorem dX8_build_39 : decode cX8_build 39 = .ok (.invokevirtual 52, 3) := by decide +kernel
theorem dX8_build_42 : decode cX8_build 42 = .ok (.putfield 56, 3) := by decide +kernel
theorem dX8_build_45 : decode cX8_build 45 = .ok (.aload_n 0, 1) := by decide +kernel
theorem dX8_build_46 : decode cX8_build 46 = .ok (.ldc2_w 60, 3) := by decide +kernel
theorem dX8_build_49 : decode cX8_build 49 = .ok (.aload_n 0, 1) := by decide +kernel
theorem dX8_build_50 : decode cX8_build 50 = .ok (.getfield 56, 3) := by decide +kernel
theorem dX8_build_53 : decode cX8_build 53 = .ok (.lmul, 1) := by decide +kernel
theorem dX8_build_54 : decode cX8_build 54 = .ok (.putfield 62, 3) := by decide +kernel
theorem dX8_build_57 : decode cX8_build 57 = .ok (.aload_n 0, 1) := by decide +kernel
theorem dX8_build_58 : decode cX8_build 58 = .ok (.aload_n 0, 1) := by decide +kernel
theorem dX8_build_59 : decode cX8_build 59 = .ok (.ldc2_w 60, 3) := by decide +kernel
theorem dX8_build_62 : decode cX8_build 62 = .ok (.iconst 3, 1) := by decide +kernel
theorem dX8_build_63 : decode cX8_build 63 = .ok (.iconst 0, 1) := by decide +kernel
theorem dX8_build_64 : decode cX8_build 64 = .ok (.invokestatic 65, 3) := by decide +kernel
theorem dX8_build_67 : decode cX8_build 67 = .ok (.lmul, 1) := by decide +kernel
theorem dX8_build_68 : decode cX8_build 68 = .ok (.invokevirtual 52, 3) := by decide +kernel
theorem dX8_build_71 : decode cX8_build 71 = .ok (.putfield 69, 3) := by decide +kernel
theorem dX8_build_74 : decode cX8_build 74 = .ok (.iconst 0, 1) := by decide +kernel
theorem dX8_build_75 : decode cX8_build 75 = .ok (.istore 6, 2) := by decide +kernel
theorem dX8_build_77 : decode cX8_build 77 = .ok (.iload 6, 2) := by decide +kernel
theorem dX8_build_79 : decode cX8_build 79 = .ok (.iconst 3, 1) := by decide +kernel
theorem dX8_build_80 : decode cX8_build 80 = .ok (.if_icmp .ge 92, 3) := by decide +kernel
theorem dX8_build_83 : decode cX8_build 83 = .ok (.aload_n 0, 1) := by decide +kernel
theorem dX8_build_84 : decode cX8_build 84 = .ok (.iload 6, 2) := by decide +kernel
theorem dX8_build_86 : decode cX8_build 86 = .ok (.invokevirtual 72, 3) := by decide +kernel
theorem dX8_build_89 : decode cX8_build 89 = .ok (.aload_n 0, 1) := by decide +kernel
theorem dX8_build_90 : decode cX8_build 90 = .ok (.iload 6, 2) := by decide +kernel
theorem dX8_build_92 : decode cX8_build 92 = .ok (.invokevirtual 76, 3) := by decide +kernel
theorem dX8_build_95 : decode cX8_build 95 = .ok (.aload_n 0, 1) := by decide +kernel
theorem dX8_build_96 : decode cX8_build 96 = .ok (.getfield 19, 3) := by decide +kernel
theorem dX8_build_99 : decode cX8_build 99 = .ok (.iload 6, 2) := by decide +kernel
theorem dX8_build_101 : decode cX8_build 101 = .ok (.aload_n 0, 1) := by decide +kernel
theorem dX8_build_102 : decode cX8_build 102 = .ok (.iload 6, 2) := by decide +kernel
theorem dX8_build_104 : decode cX8_build 104 = .ok (.invokevirtual 79, 3) := by decide +kernel
theorem dX8_build_107 : decode cX8_build 107 = .ok (.bipush 54, 2) := by decide +kernel
theorem dX8_build_109 : decode cX8_build 109 = .ok (.iconst 2, 1) := by decide +kernel
theorem dX8_build_110 : decode cX8_build 110 = .ok (.aload_n 0, 1) := by decide +kernel
theorem dX8_build_111 : decode cX8_build 111 = .ok (.getfield 45, 3) := by decide +kernel
theorem dX8_build_114 : decode cX8_build 114 = .ok (.imul, 1) := by decide +kernel
theorem dX8_build_115 : decode cX8_build 115 = .ok (.isub, 1) := by decide +kernel
theorem dX8_build_116 : decode cX8_build 116 = .ok (.lshr, 1) := by decide +kernel
theorem dX8_build_117 : decode cX8_build 117 = .ok (.invokestatic 83, 3) := by decide +kernel
theorem dX8_build_120 : decode cX8_build 120 = .ok (.lastore, 1) := by decide +kernel
theorem dX8_build_121 : decode cX8_build 121 = .ok (.aload_n 0, 1) := by decide +kernel
theorem dX8_build_122 : decode cX8_build 122 = .ok (.getfield 22, 3) := by decide +kernel
theorem dX8_build_125 : decode cX8_build 125 = .ok (.iload 6, 2) := by decide +kernel
theorem dX8_build_127 : decode cX8_build 127 = .ok (.aload_n 0, 1) := by decide +kernel
theorem dX8_build_128 : decode cX8_build 128 = .ok (.getfield 19, 3) := by decide +kernel
theorem dX8_build_131 : decode cX8_build 131 = .ok (.iload 6, 2) := by decide +kernel
theorem dX8_build_133 : decode cX8_build 133 = .ok (.laload, 1) := by decide +kernel
theorem dX8_build_134 : decode cX8_build 134 = .ok (.lconst 0, 1) := by decide +kernel
theorem dX8_build_135 : decode cX8_build 135 = .ok (.lcmp, 1) := by decide +kernel
theorem dX8_build_136 : decode cX8_build 136 = .ok (.ifCond .le 22, 3) := by decide +kernel
theorem dX8_build_139 : decode cX8_build 139 = .ok (.lconst 1, 1) := by decide +kernel
theorem dX8_build_140 : decode cX8_build 140 = .ok (.iconst 2, 1) := by decide +kernel
theorem dX8_build_141 : decode cX8_build 141 = .ok (.aload_n 0, 1) := by decide +kernel
theorem dX8_build_142 : decode cX8_build 142 = .ok (.getfield 45, 3) := by decide +kernel
theorem dX8_build_145 : decode cX8_build 145 = .ok (.imul, 1) := by decide +kernel
theorem dX8_build_146 : decode cX8_build 146 = .ok (.lshl, 1) := by decide +kernel
theorem dX8_build_147 : decode cX8_build 147 = .ok (.aload_n 0, 1) := by decide +kernel
theorem dX8_build_148 : decode cX8_build 148 = .ok (.getfield 19, 3) := by decide +kernel
theorem dX8_build_151 : decode cX8_build 151 = .ok (.iload 6, 2) := by decide +kernel
theorem dX8_build_153 : decode cX8_build 153 = .ok (.laload, 1) := by decide +kernel
theorem dX8_build_154 : decode cX8_build 154 = .ok (.ldiv, 1) := by decide +kernel
theorem dX8_build_155 : decode cX8_build 155 = .ok (.goto 4, 3) := by decide +kernel
theorem dX8_build_158 : decode cX8_build 158 = .ok (.lconst 0, 1) := by decide +kernel
theorem dX8_build_159 : decode cX8_build 159 = .ok (.lastore, 1) := by decide +kernel
theorem dX8_build_160 : decode cX8_build 160 = .ok (.aload_n 0, 1) := by decide +kernel
theorem dX8_build_161 : decode cX8_build 161 = .ok (.iload 6, 2) := by decide +kernel
theorem dX8_build_163 : decode cX8_build 163 = .ok (.invokevirtual 86, 3) := by decide +kernel
theorem dX8_build_166 : decode cX8_build 166 = .ok (.iinc 6 1, 3) := by decide +kernel
theorem dX8_build_169 : decode cX8_build 169 = .ok (.goto (-92), 3) := by decide +kernel
theorem dX8_build_172 : decode cX8_build 172 = .ok (.return_, 1) := by decide +kernel
theorem dX8_ofShift_0 : decode cX8_ofShift 0 = .ok (.lconst 0, 1) := by decide +kernel
theorem dX8_ofShift_1 : decode cX8_ofShift 1 = .ok (.lstore_n 2, 1) := by decide +kernel
theorem dX8_ofShift_2 : decode cX8_ofShift 2 = .ok (.iconst 1, 1) := by decide +kernel
theorem dX8_ofShift_3 : decode cX8_ofShift 3 = .ok (.istore 4, 2) := by decide +kernel
theorem dX8_ofShift_5 : decode cX8_ofShift 5 = .ok (.iload 4, 2) := by decide +kernel
theorem dX8_ofShift_7 : decode cX8_ofShift 7 = .ok (.bipush 56, 2) := by decide +kernel
theorem dX8_ofShift_9 : decode cX8_ofShift 9 = .ok (.if_icmp .gt 55, 3) := by decide +kernel
theorem dX8_ofShift_12 : decode cX8_ofShift 12 = .ok (.iload 4, 2) := by decide +kernel
theorem dX8_ofShift_14 : decode cX8_ofShift 14 = .ok (.iload_n 0, 1) := by decide +kernel
theorem dX8_ofShift_15 : decode cX8_ofShift 15 = .ok (.imul, 1) := by decide +kernel
theorem dX8_ofShift_16 : decode cX8_ofShift 16 = .ok (.bipush 56, 2) := by decide +kernel
theorem dX8_ofShift_18 : decode cX8_ofShift 18 = .ok (.if_icmp .gt 46, 3) := by decide +kernel
theorem dX8_ofShift_21 : decode cX8_ofShift 21 = .ok (.lconst 1, 1) := by decide +kernel
theorem dX8_ofShift_22 : decode cX8_ofShift 22 = .ok (.bipush 56, 2) := by decide +kernel
theorem dX8_ofShift_24 : decode cX8_ofShift 24 = .ok (.iload 4, 2) := by decide +kernel
theorem dX8_ofShift_26 : decode cX8_ofShift 26 = .ok (.iload_n 0, 1) := by decide +kernel
theorem dX8_ofShift_27 : decode cX8_ofShift 27 = .ok (.imul, 1) := by decide +kernel
theorem dX8_ofShift_28 : decode cX8_ofShift 28 = .ok (.isub, 1) := by decide +kernel
theorem dX8_ofShift_29 : decode cX8_ofShift 29 = .ok (.lshl, 1) := by decide +kernel
theorem dX8_ofShift_30 : decode cX8_ofShift 30 = .ok (.iload 4, 2) := by decide +kernel
theorem dX8_ofShift_32 : decode cX8_ofShift 32 = .ok (.i2l, 1) := by decide +kernel
theorem dX8_ofShift_33 : decode cX8_ofShift 33 = .ok (.ldiv, 1) := by decide +kernel
theorem dX8_ofShift_34 : decode cX8_ofShift 34 = .ok (.lstore 5, 2) := by decide +kernel
theorem dX8_ofShift_36 : decode cX8_ofShift 36 = .ok (.lload_n 2, 1) := by decide +kernel
theorem dX8_ofShift_37 : decode cX8_ofShift 37 = .ok (.iload_n 1, 1) := by decide +kernel
theorem dX8_ofShift_38 : decode cX8_ofShift 38 = .ok (.ifCond .eq 16, 3) := by decide +kernel
theorem dX8_ofShift_41 : decode cX8_ofShift 41 = .ok (.iload 4, 2) := by decide +kernel
theorem dX8_ofShift_43 : decode cX8_ofShift 43 = .ok (.iconst 2, 1) := by decide +kernel
theorem dX8_ofShift_44 : decode cX8_ofShift 44 = .ok (.iand, 1) := by decide +kernel
theorem dX8_ofShift_45 : decode cX8_ofShift 45 = .ok (.ifCond .eq 9, 3) := by decide +kernel
theorem dX8_ofShift_48 : decode cX8_ofShift 48 = .ok (.lload 5, 2) := by decide +kernel
theorem dX8_ofShift_50 : decode cX8_ofShift 50 = .ok (.lneg, 1) := by decide +kernel
theorem dX8_ofShift_51 : decode cX8_ofShift 51 = .ok (.goto 5, 3) := by decide +kernel
theorem dX8_ofShift_54 : decode cX8_ofShift 54 = .ok (.lload 5, 2) := by decide +kernel
theorem dX8_ofShift_56 : decode cX8_ofShift 56 = .ok (.ladd, 1) := by decide +kernel
theorem dX8_ofShift_57 : decode cX8_ofShift 57 = .ok (.lstore_n 2, 1) := by decide +kernel
theorem dX8_ofShift_58 : decode cX8_ofShift 58 = .ok (.iinc 4 2, 3) := by decide +kernel
theorem dX8_ofShift_61 : decode cX8_ofShift 61 = .ok (.goto (-56), 3) := by decide +kernel
theorem dX8_ofShift_64 : decode cX8_ofShift 64 = .ok (.lload_n 2, 1) := by decide +kernel
theorem dX8_ofShift_65 : decode cX8_ofShift 65 = .ok (.lreturn, 1) := by decide +kernel
theorem dX8_ofOneOver_0 : decode cX8_ofOneOver 0 = .ok (.iload_n 0, 1) := by decide +kernel
theorem dX8_ofOneOver_1 : decode cX8_ofOneOver 1 = .ok (.iconst 2, 1) := by decide +kernel
theorem dX8_ofOneOver_2 : decode cX8_ofOneOver 2 = .ok (.if_icmp .ge 5, 3) := by decide +kernel
theorem dX8_ofOneOver_5 : decode cX8_ofOneOver 5 = .ok (.lconst 0, 1) := by decide +kernel
theorem dX8_ofOneOver_6 : decode cX8_ofOneOver 6 = .ok (.lreturn, 1) := by decide +kernel
theorem dX8_ofOneOver_7 : decode cX8_ofOneOver 7 = .ok (.lconst 0, 1) := by decide +kernel
theorem dX8_ofOneOver_8 : decode cX8_ofOneOver 8 = .ok (.lstore_n 2, 1) := by decide +kernel
theorem dX8_ofOneOver_9 : decode cX8_ofOneOver 9 = .ok (.ldc2_w 89, 3) := by decide +kernel
theorem dX8_ofOneOver_12 : decode cX8_ofOneOver 12 = .ok (.iload_n 0, 1) := by decide +kernel
theorem dX8_ofOneOver_13 : decode cX8_ofOneOver 13 = .ok (.i2l, 1) := by decide +kernel
theorem dX8_ofOneOver_14 : decode cX8_ofOneOver 14 = .ok (.ldiv, 1) := by decide +kernel
theorem dX8_ofOneOver_15 : decode cX8_ofOneOver 15 = .ok (.lstore 4, 2) := by decide +kernel
theorem dX8_ofOneOver_17 : decode cX8_ofOneOver 17 = .ok (.iconst 1, 1) := by decide +kernel
theorem dX8_ofOneOver_18 : decode cX8_ofOneOver 18 = .ok (.istore 6, 2) := by decide +kernel
theorem dX8_ofOneOver_20 : decode cX8_ofOneOver 20 = .ok (.iload 6, 2) := by decide +kernel
theorem dX8_ofOneOver_22 : decode cX8_ofOneOver 22 = .ok (.sipush 128, 3) := by decide +kernel
theorem dX8_ofOneOver_25 : decode cX8_ofOneOver 25 = .ok (.if_icmp .ge 56, 3) := by decide +kernel
theorem dX8_ofOneOver_28 : decode cX8_ofOneOver 28 = .ok (.lload 4, 2) := by decide +kernel
theorem dX8_ofOneOver_30 : decode cX8_ofOneOver 30 = .ok (.lconst 0, 1) := by decide +kernel
theorem dX8_ofOneOver_31 : decode cX8_ofOneOver 31 = .ok (.lcmp, 1) := by decide +kernel
theorem dX8_ofOneOver_32 : decode cX8_ofOneOver 32 = .ok (.ifCond .le 49, 3) := by decide +kernel
theorem dX8_ofOneOver_35 : decode cX8_ofOneOver 35 = .ok (.lload 4, 2) := by decide +kernel
theorem dX8_ofOneOver_37 : decode cX8_ofOneOver 37 = .ok (.iload 6, 2) := by decide +kernel
theorem dX8_ofOneOver_39 : decode cX8_ofOneOver 39 = .ok (.i2l, 1) := by decide +kernel
theorem dX8_ofOneOver_40 : decode cX8_ofOneOver 40 = .ok (.ldiv, 1) := by decide +kernel
theorem dX8_ofOneOver_41 : decode cX8_ofOneOver 41 = .ok (.lstore 7, 2) := by decide +kernel
theorem dX8_ofOneOver_43 : decode cX8_ofOneOver 43 = .ok (.lload_n 2, 1) := by decide +kernel
theorem dX8_ofOneOver_44 : decode cX8_ofOneOver 44 = .ok (.iload_n 1, 1) := by decide +kernel
theorem dX8_ofOneOver_45 : decode cX8_ofOneOver 45 = .ok (.ifCond .eq 16, 3) := by decide +kernel
theorem dX8_ofOneOver_48 : decode cX8_ofOneOver 48 = .ok (.iload 6, 2) := by decide +kernel
theorem dX8_ofOneOver_50 : decode cX8_ofOneOver 50 = .ok (.iconst 2, 1) := by decide +kernel
theorem dX8_ofOneOver_51 : decode cX8_ofOneOver 51 = .ok (.iand, 1) := by decide +kernel
theorem dX8_ofOneOver_52 : decode cX8_ofOneOver 52 = .ok (.ifCond .eq 9, 3) := by decide +kernel
theorem dX8_ofOneOver_55 : decode cX8_ofOneOver 55 = .ok (.lload 7, 2) := by decide +kernel
theorem dX8_ofOneOver_57 : decode cX8_ofOneOver 57 = .ok (.lneg, 1) := by decide +kernel
theorem dX8_ofOneOver_58 : decode cX8_ofOneOver 58 = .ok (.goto 5, 3) := by decide +kernel
theorem dX8_ofOneOver_61 : decode cX8_ofOneOver 61 = .ok (.lload 7, 2) := by decide +kernel
theorem dX8_ofOneOver_63 : decode cX8_ofOneOver 63 = .ok (.ladd, 1) := by decide +kernel
theorem dX8_ofOneOver_64 : decode cX8_ofOneOver 64 = .ok (.lstore_n 2, 1) := by decide +kernel
theorem dX8_ofOneOver_65 : decode cX8_ofOneOver 65 = .ok (.lload 4, 2) := by decide +kernel
theorem dX8_ofOneOver_67 : decode cX8_ofOneOver 67 = .ok (.iload_n 0, 1) := by decide +kernel
theorem dX8_ofOneOver_68 : decode cX8_ofOneOver 68 = .ok (.i2l, 1) := by decide +kernel
theorem dX8_ofOneOver_69 : decode cX8_ofOneOver 69 = .ok (.iload_n 0, 1) := by decide +kernel
theorem dX8_ofOneOver_70 : decode cX8_ofOneOver 70 = .ok (.i2l, 1) := by decide +kernel
theorem dX8_ofOneOver_71 : decode cX8_ofOneOver 71 = .ok (.lmul, 1) := by decide +kernel
theorem dX8_ofOneOver_72 : decode cX8_ofOneOver 72 = .ok (.ldiv, 1) := by decide +kernel
theorem dX8_ofOneOver_73 : decode cX8_ofOneOver 73 = .ok (.lstore 4, 2) := by decide +kernel
theorem dX8_ofOneOver_75 : decode cX8_ofOneOver 75 = .ok (.iinc 6 2, 3) := by decide +kernel
theorem dX8_ofOneOver_78 : decode cX8_ofOneOver 78 = .ok (.goto (-58), 3) := by decide +kernel
theorem dX8_ofOneOver_81 : decode cX8_ofOneOver 81 = .ok (.lload_n 2, 1) := by decide +kernel
theorem dX8_ofOneOver_82 : decode cX8_ofOneOver 82 = .ok (.lreturn, 1) := by decide +kernel
theorem dX8_eighthTurn_0 : decode cX8_eighthTurn 0 = .ok (.ldc2_w 91, 3) := by decide +kernel
theorem dX8_eighthTurn_3 : decode cX8_eighthTurn 3 = .ok (.iconst 5, 1) := by decide +kernel
theorem dX8_eighthTurn_4 : decode cX8_eighthTurn 4 = .ok (.iconst 1, 1) := by decide +kernel
theorem dX8_eighthTurn_5 : decode cX8_eighthTurn 5 = .ok (.invokestatic 65, 3) := by decide +kernel
theorem dX8_eighthTurn_8 : decode cX8_eighthTurn 8 = .ok (.lmul, 1) := by decide +kernel
theorem dX8_eighthTurn_9 : decode cX8_eighthTurn 9 = .ok (.sipush 239, 3) := by decide +kernel
theorem dX8_eighthTurn_12 : decode cX8_eighthTurn 12 = .ok (.iconst 1, 1) := by decide +kernel
theorem dX8_eighthTurn_13 : decode cX8_eighthTurn 13 = .ok (.invokestatic 65, 3) := by decide +kernel
theorem dX8_eighthTurn_16 : decode cX8_eighthTurn 16 = .ok (.lsub, 1) := by decide +kernel
theorem dX8_eighthTurn_17 : decode cX8_eighthTurn 17 = .ok (.lreturn, 1) := by decide +kernel
theorem dX8_rootOf_0 : decode cX8_rootOf 0 = .ok (.lconst 0, 1) := by decide +kernel
theorem dX8_rootOf_1 : decode cX8_rootOf 1 = .ok (.lstore_n 2, 1) := by decide +kernel
theorem dX8_rootOf_2 : decode cX8_rootOf 2 = .ok (.bipush 30, 2) := by decide +kernel
theorem dX8_rootOf_4 : decode cX8_rootOf 4 = .ok (.istore 4, 2) := by decide +kernel
theorem dX8_rootOf_6 : decode cX8_rootOf 6 = .ok (.iload 4, 2) := by decide +kernel
theorem dX8_rootOf_8 : decode cX8_rootOf 8 = .ok (.ifCond .lt 30, 3) := by decide +kernel
theorem dX8_rootOf_11 : decode cX8_rootOf 11 = .ok (.lload_n 2, 1) := by decide +kernel
theorem dX8_rootOf_12 : decode cX8_rootOf 12 = .ok (.lconst 1, 1) := by decide +kernel
theorem dX8_rootOf_13 : decode cX8_rootOf 13 = .ok (.iload 4, 2) := by decide +kernel
theorem dX8_rootOf_15 : decode cX8_rootOf 15 = .ok (.lshl, 1) := by decide +kernel
theorem dX8_rootOf_16 : decode cX8_rootOf 16 = .ok (.lor, 1) := by decide +kernel
theorem dX8_rootOf_17 : decode cX8_rootOf 17 = .ok (.lstore 5, 2) := by decide +kernel
theorem dX8_rootOf_19 : decode cX8_rootOf 19 = .ok (.lload 5, 2) := by decide +kernel
theorem dX8_rootOf_21 : decode cX8_rootOf 21 = .ok (.lload 5, 2) := by decide +kernel
theorem dX8_rootOf_23 : decode cX8_rootOf 23 = .ok (.lmul, 1) := by decide +kernel
theorem dX8_rootOf_24 : decode cX8_rootOf 24 = .ok (.lload_n 0, 1) := by decide +kernel
theorem dX8_rootOf_25 : decode cX8_rootOf 25 = .ok (.lcmp, 1) := by decide +kernel
theorem dX8_rootOf_26 : decode cX8_rootOf 26 = .ok (.ifCond .gt 6, 3) := by decide +kernel
theorem dX8_rootOf_29 : decode cX8_rootOf 29 = .ok (.lload 5, 2) := by decide +kernel
theorem dX8_rootOf_31 : decode cX8_rootOf 31 = .ok (.lstore_n 2, 1) := by decide +kernel
theorem dX8_rootOf_32 : decode cX8_rootOf 32 = .ok (.iinc 4 (-1), 3) := by decide +kernel
theorem dX8_rootOf_35 : decode cX8_rootOf 35 = .ok (.goto (-29), 3) := by decide +kernel
theorem dX8_rootOf_38 : decode cX8_rootOf 38 = .ok (.lload_n 2, 1) := by decide +kernel
theorem dX8_rootOf_39 : decode cX8_rootOf 39 = .ok (.lreturn, 1) := by decide +kernel
theorem dX8_rounded_0 : decode cX8_rounded 0 = .ok (.lload_n 1, 1) := by decide +kernel
theorem dX8_rounded_1 : decode cX8_rounded 1 = .ok (.lconst 1, 1) := by decide +kernel
theorem dX8_rounded_2 : decode cX8_rounded 2 = .ok (.bipush 55, 2) := by decide +kernel
theorem dX8_rounded_4 : decode cX8_rounded 4 = .ok (.aload_n 0, 1) := by decide +kernel
theorem dX8_rounded_5 : decode cX8_rounded 5 = .ok (.getfield 45, 3) := by decide +kernel
theorem dX8_rounded_8 : decode cX8_rounded 8 = .ok (.isub, 1) := by decide +kernel
theorem dX8_rounded_9 : decode cX8_rounded 9 = .ok (.lshl, 1) := by decide +kernel
theorem dX8_rounded_10 : decode cX8_rounded 10 = .ok (.ladd, 1) := by decide +kernel
theorem dX8_rounded_11 : decode cX8_rounded 11 = .ok (.bipush 56, 2) := by decide +kernel
theorem dX8_rounded_13 : decode cX8_rounded 13 = .ok (.aload_n 0, 1) := by decide +kernel
theorem dX8_rounded_14 : decode cX8_rounded 14 = .ok (.getfield 45, 3) := by decide +kernel
theorem dX8_rounded_17 : decode cX8_rounded 17 = .ok (.isub, 1) := by decide +kernel
theorem dX8_rounded_18 : decode cX8_rounded 18 = .ok (.lshr, 1) := by decide +kernel
theorem dX8_rounded_19 : decode cX8_rounded 19 = .ok (.lreturn, 1) := by decide +kernel
theorem dX8_fillShifts_0 : decode cX8_fillShifts 0 = .ok (.iload_n 1, 1) := by decide +kernel
theorem dX8_fillShifts_1 : decode cX8_fillShifts 1 = .ok (.iconst 2, 1) := by decide +kernel
theorem dX8_fillShifts_2 : decode cX8_fillShifts 2 = .ok (.if_icmp .ne 7, 3) := by decide +kernel
theorem dX8_fillShifts_5 : decode cX8_fillShifts 5 = .ok (.iconst 1, 1) := by decide +kernel
theorem dX8_fillShifts_6 : decode cX8_fillShifts 6 = .ok (.goto 4, 3) := by decide +kernel
theorem dX8_fillShifts_9 : decode cX8_fillShifts 9 = .ok (.iconst 0, 1) := by decide +kernel
theorem dX8_fillShifts_10 : decode cX8_fillShifts 10 = .ok (.istore_n 2, 1) := by decide +kernel
theorem dX8_fillShifts_11 : decode cX8_fillShifts 11 = .ok (.iconst 0, 1) := by decide +kernel
theorem dX8_fillShifts_12 : decode cX8_fillShifts 12 = .ok (.istore_n 3, 1) := by decide +kernel
theorem dX8_fillShifts_13 : decode cX8_fillShifts 13 = .ok (.iconst 0, 1) := by decide +kernel
theorem dX8_fillShifts_14 : decode cX8_fillShifts 14 = .ok (.istore 4, 2) := by decide +kernel
theorem dX8_fillShifts_16 : decode cX8_fillShifts 16 = .ok (.iload 4, 2) := by decide +kernel
theorem dX8_fillShifts_18 : decode cX8_fillShifts 18 = .ok (.bipush 24, 2) := by decide +kernel
theorem dX8_fillShifts_20 : decode cX8_fillShifts 20 = .ok (.if_icmp .ge 60, 3) := by decide +kernel
theorem dX8_fillShifts_23 : decode cX8_fillShifts 23 = .ok (.aload_n 0, 1) := by decide +kernel
theorem dX8_fillShifts_24 : decode cX8_fillShifts 24 = .ok (.getfield 9, 3) := by decide +kernel
theorem dX8_fillShifts_27 : decode cX8_fillShifts 27 = .ok (.iload_n 1, 1) := by decide +kernel
theorem dX8_fillShifts_28 : decode cX8_fillShifts 28 = .ok (.bipush 24, 2) := by decide +kernel
theorem dX8_fillShifts_30 : decode cX8_fillShifts 30 = .ok (.imul, 1) := by decide +kernel
theorem dX8_fillShifts_31 : decode cX8_fillShifts 31 = .ok (.iload 4, 2) := by decide +kernel
theorem dX8_fillShifts_33 : decode cX8_fillShifts 33 = .ok (.iadd, 1) := by decide +kernel
theorem dX8_fillShifts_34 : decode cX8_fillShifts 34 = .ok (.iload_n 2, 1) := by decide +kernel
theorem dX8_fillShifts_35 : decode cX8_fillShifts 35 = .ok (.iastore, 1) := by decide +kernel
theorem dX8_fillShifts_36 : decode cX8_fillShifts 36 = .ok (.iload_n 1, 1) := by decide +kernel
theorem dX8_fillShifts_37 : decode cX8_fillShifts 37 = .ok (.iconst 2, 1) := by decide +kernel
theorem dX8_fillShifts_38 : decode cX8_fillShifts 38 = .ok (.if_icmp .ne 22, 3) := by decide +kernel
theorem dX8_fillShifts_41 : decode cX8_fillShifts 41 = .ok (.iload_n 2, 1) := by decide +kernel
theorem dX8_fillShifts_42 : decode cX8_fillShifts 42 = .ok (.iconst 4, 1) := by decide +kernel
theorem dX8_fillShifts_43 : decode cX8_fillShifts 43 = .ok (.if_icmp .eq 9, 3) := by decide +kernel
theorem dX8_fillShifts_46 : decode cX8_fillShifts 46 = .ok (.iload_n 2, 1) := by decide +kernel
theorem dX8_fillShifts_47 : decode cX8_fillShifts 47 = .ok (.bipush 13, 2) := by decide +kernel
theorem dX8_fillShifts_49 : decode cX8_fillShifts 49 = .ok (.if_icmp .ne 11, 3) := by decide +kernel
theorem dX8_fillShifts_52 : decode cX8_fillShifts 52 = .ok (.iload_n 3, 1) := by decide +kernel
theorem dX8_fillShifts_53 : decode cX8_fillShifts 53 = .ok (.ifCond .ne 7, 3) := by decide +kernel
theorem dX8_fillShifts_56 : decode cX8_fillShifts 56 = .ok (.iconst 1, 1) := by decide +kernel
theorem dX8_fillShifts_57 : decode cX8_fillShifts 57 = .ok (.goto 4, 3) := by decide +kernel
theorem dX8_fillShifts_60 : decode cX8_fillShifts 60 = .ok (.iconst 0, 1) := by decide +kernel
theorem dX8_fillShifts_61 : decode cX8_fillShifts 61 = .ok (.istore_n 3, 1) := by decide +kernel
theorem dX8_fillShifts_62 : decode cX8_fillShifts 62 = .ok (.iload_n 2, 1) := by decide +kernel
theorem dX8_fillShifts_63 : decode cX8_fillShifts 63 = .ok (.iload_n 3, 1) := by decide +kernel
theorem dX8_fillShifts_64 : decode cX8_fillShifts 64 = .ok (.ifCond .eq 7, 3) := by decide +kernel
theorem dX8_fillShifts_67 : decode cX8_fillShifts 67 = .ok (.iconst 0, 1) := by decide +kernel
theorem dX8_fillShifts_68 : decode cX8_fillShifts 68 = .ok (.goto 4, 3) := by decide +kernel
theorem dX8_fillShifts_71 : decode cX8_fillShifts 71 = .ok (.iconst 1, 1) := by decide +kernel
theorem dX8_fillShifts_72 : decode cX8_fillShifts 72 = .ok (.iadd, 1) := by decide +kernel
theorem dX8_fillShifts_73 : decode cX8_fillShifts 73 = .ok (.istore_n 2, 1) := by decide +kernel
theorem dX8_fillShifts_74 : decode cX8_fillShifts 74 = .ok (.iinc 4 1, 3) := by decide +kernel
theorem dX8_fillShifts_77 : decode cX8_fillShifts 77 = .ok (.goto (-61), 3) := by decide +kernel
theorem dX8_fillShifts_80 : decode cX8_fillShifts 80 = .ok (.return_, 1) := by decide +kernel
theorem dX8_fillAngles_0 : decode cX8_fillAngles 0 = .ok (.iload_n 1, 1) := by decide +kernel
theorem dX8_fillAngles_1 : decode cX8_fillAngles 1 = .ok (.bipush 24, 2) := by decide +kernel
theorem dX8_fillAngles_3 : decode cX8_fillAngles 3 = .ok (.imul, 1) := by decide +kernel
theorem dX8_fillAngles_4 : decode cX8_fillAngles 4 = .ok (.istore_n 2, 1) := by decide +kernel
theorem dX8_fillAngles_5 : decode cX8_fillAngles 5 = .ok (.iload_n 2, 1) := by decide +kernel
theorem dX8_fillAngles_6 : decode cX8_fillAngles 6 = .ok (.iload_n 1, 1) := by decide +kernel
theorem dX8_fillAngles_7 : decode cX8_fillAngles 7 = .ok (.iconst 1, 1) := by decide +kernel
theorem dX8_fillAngles_8 : decode cX8_fillAngles 8 = .ok (.iadd, 1) := by decide +kernel
theorem dX8_fillAngles_9 : decode cX8_fillAngles 9 = .ok (.bipush 24, 2) := by decide +kernel
theorem dX8_fillAngles_11 : decode cX8_fillAngles 11 = .ok (.imul, 1) := by decide +kernel
theorem dX8_fillAngles_12 : decode cX8_fillAngles 12 = .ok (.if_icmp .ge 75, 3) := by decide +kernel
theorem dX8_fillAngles_15 : decode cX8_fillAngles 15 = .ok (.aload_n 0, 1) := by decide +kernel
theorem dX8_fillAngles_16 : decode cX8_fillAngles 16 = .ok (.getfield 9, 3) := by decide +kernel
theorem dX8_fillAngles_19 : decode cX8_fillAngles 19 = .ok (.iload_n 2, 1) := by decide +kernel
theorem dX8_fillAngles_20 : decode cX8_fillAngles 20 = .ok (.iaload, 1) := by decide +kernel
theorem dX8_fillAngles_21 : decode cX8_fillAngles 21 = .ok (.istore_n 3, 1) := by decide +kernel
theorem dX8_fillAngles_22 : decode cX8_fillAngles 22 = .ok (.iload_n 1, 1) := by decide +kernel
theorem dX8_fillAngles_23 : decode cX8_fillAngles 23 = .ok (.iconst 1, 1) := by decide +kernel
theorem dX8_fillAngles_24 : decode cX8_fillAngles 24 = .ok (.if_icmp .ne 17, 3) := by decide +kernel
theorem dX8_fillAngles_27 : decode cX8_fillAngles 27 = .ok (.aload_n 0, 1) := by decide +kernel
theorem dX8_fillAngles_28 : decode cX8_fillAngles 28 = .ok (.getfield 15, 3) := by decide +kernel
theorem dX8_fillAngles_31 : decode cX8_fillAngles 31 = .ok (.iload_n 2, 1) := by decide +kernel
theorem dX8_fillAngles_32 : decode cX8_fillAngles 32 = .ok (.aload_n 0, 1) := by decide +kernel
theorem dX8_fillAngles_33 : decode cX8_fillAngles 33 = .ok (.iload_n 3, 1) := by decide +kernel
theorem dX8_fillAngles_34 : decode cX8_fillAngles 34 = .ok (.invokevirtual 93, 3) := by decide +kernel
theorem dX8_fillAngles_37 : decode cX8_fillAngles 37 = .ok (.lastore, 1) := by decide +kernel
theorem dX8_fillAngles_38 : decode cX8_fillAngles 38 = .ok (.goto 43, 3) := by decide +kernel
theorem dX8_fillAngles_41 : decode cX8_fillAngles 41 = .ok (.iload_n 3, 1) := by decide +kernel
theorem dX8_fillAngles_42 : decode cX8_fillAngles 42 = .ok (.ifCond .ne 16, 3) := by decide +kernel
theorem dX8_fillAngles_45 : decode cX8_fillAngles 45 = .ok (.aload_n 0, 1) := by decide +kernel
theorem dX8_fillAngles_46 : decode cX8_fillAngles 46 = .ok (.getfield 15, 3) := by decide +kernel
theorem dX8_fillAngles_49 : decode cX8_fillAngles 49 = .ok (.iload_n 2, 1) := by decide +kernel
theorem dX8_fillAngles_50 : decode cX8_fillAngles 50 = .ok (.aload_n 0, 1) := by decide +kernel
theorem dX8_fillAngles_51 : decode cX8_fillAngles 51 = .ok (.getfield 56, 3) := by decide +kernel
theorem dX8_fillAngles_54 : decode cX8_fillAngles 54 = .ok (.lastore, 1) := by decide +kernel
theorem dX8_fillAngles_55 : decode cX8_fillAngles 55 = .ok (.goto 26, 3) := by decide +kernel
theorem dX8_fillAngles_58 : decode cX8_fillAngles 58 = .ok (.aload_n 0, 1) := by decide +kernel
theorem dX8_fillAngles_59 : decode cX8_fillAngles 59 = .ok (.getfield 15, 3) := by decide +kernel
theorem dX8_fillAngles_62 : decode cX8_fillAngles 62 = .ok (.iload_n 2, 1) := by decide +kernel
theorem dX8_fillAngles_63 : decode cX8_fillAngles 63 = .ok (.aload_n 0, 1) := by decide +kernel
theorem dX8_fillAngles_64 : decode cX8_fillAngles 64 = .ok (.iload_n 3, 1) := by decide +kernel
theorem dX8_fillAngles_65 : decode cX8_fillAngles 65 = .ok (.iload_n 1, 1) := by decide +kernel
theorem dX8_fillAngles_66 : decode cX8_fillAngles 66 = .ok (.ifCond .ne 7, 3) := by decide +kernel
theorem dX8_fillAngles_69 : decode cX8_fillAngles 69 = .ok (.iconst 1, 1) := by decide +kernel
theorem dX8_fillAngles_70 : decode cX8_fillAngles 70 = .ok (.goto 4, 3) := by decide +kernel
theorem dX8_fillAngles_73 : decode cX8_fillAngles 73 = .ok (.iconst 0, 1) := by decide +kernel
theorem dX8_fillAngles_74 : decode cX8_fillAngles 74 = .ok (.invokestatic 96, 3) := by decide +kernel
theorem dX8_fillAngles_77 : decode cX8_fillAngles 77 = .ok (.invokevirtual 52, 3) := by decide +kernel
theorem dX8_fillAngles_80 : decode cX8_fillAngles 80 = .ok (.lastore, 1) := by decide +kernel
theorem dX8_fillAngles_81 : decode cX8_fillAngles 81 = .ok (.iinc 2 1, 3) := by decide +kernel
theorem dX8_fillAngles_84 : decode cX8_fillAngles 84 = .ok (.goto (-79), 3) := by decide +kernel
theorem dX8_fillAngles_87 : decode cX8_fillAngles 87 = .ok (.return_, 1) := by decide +kernel
theorem dX8_powerFor_0 : decode cX8_powerFor 0 = .ok (.iload_n 1, 1) := by decide +kernel
theorem dX8_powerFor_1 : decode cX8_powerFor 1 = .ok (.aload_n 0, 1) := by decide +kernel
theorem dX8_powerFor_2 : decode cX8_powerFor 2 = .ok (.getfield 45, 3) := by decide +kernel
theorem dX8_powerFor_5 : decode cX8_powerFor 5 = .ok (.if_icmp .gt 14, 3) := by decide +kernel
theorem dX8_powerFor_8 : decode cX8_powerFor 8 = .ok (.lconst 1, 1) := by decide +kernel
theorem dX8_powerFor_9 : decode cX8_powerFor 9 = .ok (.aload_n 0, 1) := by decide +kernel
theorem dX8_powerFor_10 : decode cX8_powerFor 10 = .ok (.getfield 45, 3) := by decide +kernel
theorem dX8_powerFor_13 : decode cX8_powerFor 13 = .ok (.iload_n 1, 1) := by decide +kernel
theorem dX8_powerFor_14 : decode cX8_powerFor 14 = .ok (.isub, 1) := by decide +kernel
theorem dX8_powerFor_15 : decode cX8_powerFor 15 = .ok (.lshl, 1) := by decide +kernel
theorem dX8_powerFor_16 : decode cX8_powerFor 16 = .ok (.goto 4, 3) := by decide +kernel
theorem dX8_powerFor_19 : decode cX8_powerFor 19 = .ok (.lconst 0, 1) := by decide +kernel
theorem dX8_powerFor_20 : decode cX8_powerFor 20 = .ok (.lreturn, 1) := by decide +kernel
theorem dX8_square_0 : decode cX8_square 0 = .ok (.ldc2_w 99, 3) := by decide +kernel
theorem dX8_square_3 : decode cX8_square 3 = .ok (.lstore_n 2, 1) := by decide +kernel
theorem dX8_square_4 : decode cX8_square 4 = .ok (.iconst 0, 1) := by decide +kernel
theorem dX8_square_5 : decode cX8_square 5 = .ok (.istore 4, 2) := by decide +kernel
theorem dX8_square_7 : decode cX8_square 7 = .ok (.iload 4, 2) := by decide +kernel
theorem dX8_square_9 : decode cX8_square 9 = .ok (.aload_n 0, 1) := by decide +kernel
theorem dX8_square_10 : decode cX8_square 10 = .ok (.getfield 35, 3) := by decide +kernel
theorem dX8_square_13 : decode cX8_square 13 = .ok (.if_icmp .ge 56, 3) := by decide +kernel
theorem dX8_square_16 : decode cX8_square 16 = .ok (.iload 4, 2) := by decide +kernel
theorem dX8_square_18 : decode cX8_square 18 = .ok (.bipush 24, 2) := by decide +kernel
theorem dX8_square_20 : decode cX8_square 20 = .ok (.if_icmp .ge 49, 3) := by decide +kernel
theorem dX8_square_23 : decode cX8_square 23 = .ok (.lload_n 2, 1) := by decide +kernel
theorem dX8_square_24 : decode cX8_square 24 = .ok (.iconst 2, 1) := by decide +kernel
theorem dX8_square_25 : decode cX8_square 25 = .ok (.aload_n 0, 1) := by decide +kernel
theorem dX8_square_26 : decode cX8_square 26 = .ok (.getfield 9, 3) := by decide +kernel
theorem dX8_square_29 : decode cX8_square 29 = .ok (.iload_n 1, 1) := by decide +kernel
theorem dX8_square_30 : decode cX8_square 30 = .ok (.bipush 24, 2) := by decide +kernel
theorem dX8_square_32 : decode cX8_square 32 = .ok (.imul, 1) := by decide +kernel
theorem dX8_square_33 : decode cX8_square 33 = .ok (.iload 4, 2) := by decide +kernel
theorem dX8_square_35 : decode cX8_square 35 = .ok (.iadd, 1) := by decide +kernel
theorem dX8_square_36 : decode cX8_square 36 = .ok (.iaload, 1) := by decide +kernel
theorem dX8_square_37 : decode cX8_square 37 = .ok (.imul, 1) := by decide +kernel
theorem dX8_square_38 : decode cX8_square 38 = .ok (.lshr, 1) := by decide +kernel
theorem dX8_square_39 : decode cX8_square 39 = .ok (.lstore 5, 2) := by decide +kernel
theorem dX8_square_41 : decode cX8_square 41 = .ok (.iload_n 1, 1) := by decide +kernel
theorem dX8_square_42 : decode cX8_square 42 = .ok (.ifCond .ne 11, 3) := by decide +kernel
theorem dX8_square_45 : decode cX8_square 45 = .ok (.lload_n 2, 1) := by decide +kernel
theorem dX8_square_46 : decode cX8_square 46 = .ok (.lload 5, 2) := by decide +kernel
theorem dX8_square_48 : decode cX8_square 48 = .ok (.ladd, 1) := by decide +kernel
theorem dX8_square_49 : decode cX8_square 49 = .ok (.lstore_n 2, 1) := by decide +kernel
theorem dX8_square_50 : decode cX8_square 50 = .ok (.goto 13, 3) := by decide +kernel
theorem dX8_square_53 : decode cX8_square 53 = .ok (.iload_n 1, 1) := by decide +kernel
theorem dX8_square_54 : decode cX8_square 54 = .ok (.iconst 2, 1) := by decide +kernel
theorem dX8_square_55 : decode cX8_square 55 = .ok (.if_icmp .ne 8, 3) := by decide +kernel
theorem dX8_square_58 : decode cX8_square 58 = .ok (.lload_n 2, 1) := by decide +kernel
theorem dX8_square_59 : decode cX8_square 59 = .ok (.lload 5, 2) := by decide +kernel
theorem dX8_square_61 : decode cX8_square 61 = .ok (.lsub, 1) := by decide +kernel
theorem dX8_square_62 : decode cX8_square 62 = .ok (.lstore_n 2, 1) := by decide +kernel
theorem dX8_square_63 : decode cX8_square 63 = .ok (.iinc 4 1, 3) := by decide +kernel
theorem dX8_square_66 : decode cX8_square 66 = .ok (.goto (-59), 3) := by decide +kernel
theorem dX8_square_69 : decode cX8_square 69 = .ok (.lload_n 2, 1) := by decide +kernel
theorem dX8_square_70 : decode cX8_square 70 = .ok (.lreturn, 1) := by decide +kernel
theorem dX8_fillDigits_0 : decode cX8_fillDigits 0 = .ok (.aload_n 0, 1) := by decide +kernel
theorem dX8_fillDigits_1 : decode cX8_fillDigits 1 = .ok (.getfield 22, 3) := by decide +kernel
theorem dX8_fillDigits_4 : decode cX8_fillDigits 4 = .ok (.iload_n 1, 1) := by decide +kernel
theorem dX8_fillDigits_5 : decode cX8_fillDigits 5 = .ok (.laload, 1) := by decide +kernel
theorem dX8_fillDigits_6 : decode cX8_fillDigits 6 = .ok (.lstore_n 2, 1) := by decide +kernel
theorem dX8_fillDigits_7 : decode cX8_fillDigits 7 = .ok (.iconst 0, 1) := by decide +kernel
theorem dX8_fillDigits_8 : decode cX8_fillDigits 8 = .ok (.istore 4, 2) := by decide +kernel
theorem dX8_fillDigits_10 : decode cX8_fillDigits 10 = .ok (.iload 4, 2) := by decide +kernel
theorem dX8_fillDigits_12 : decode cX8_fillDigits 12 = .ok (.bipush 32, 2) := by decide +kernel
theorem dX8_fillDigits_14 : decode cX8_fillDigits 14 = .ok (.if_icmp .ge 53, 3) := by decide +kernel
theorem dX8_fillDigits_17 : decode cX8_fillDigits 17 = .ok (.lload_n 2, 1) := by decide +kernel
theorem dX8_fillDigits_18 : decode cX8_fillDigits 18 = .ok (.lconst 1, 1) := by decide +kernel
theorem dX8_fillDigits_19 : decode cX8_fillDigits 19 = .ok (.land, 1) := by decide +kernel
theorem dX8_fillDigits_20 : decode cX8_fillDigits 20 = .ok (.lconst 0, 1) := by decide +kernel
theorem dX8_fillDigits_21 : decode cX8_fillDigits 21 = .ok (.lcmp, 1) := by decide +kernel
theorem dX8_fillDigits_22 : decode cX8_fillDigits 22 = .ok (.ifCond .ne 7, 3) := by decide +kernel
theorem dX8_fillDigits_25 : decode cX8_fillDigits 25 = .ok (.iconst 0, 1) := by decide +kernel
theorem dX8_fillDigits_26 : decode cX8_fillDigits 26 = .ok (.goto 11, 3) := by decide +kernel
theorem dX8_fillDigits_29 : decode cX8_fillDigits 29 = .ok (.iconst 2, 1) := by decide +kernel
theorem dX8_fillDigits_30 : decode cX8_fillDigits 30 = .ok (.lload_n 2, 1) := by decide +kernel
theorem dX8_fillDigits_31 : decode cX8_fillDigits 31 = .ok (.ldc2_w 101, 3) := by decide +kernel
theorem dX8_fillDigits_34 : decode cX8_fillDigits 34 = .ok (.land, 1) := by decide +kernel
theorem dX8_fillDigits_35 : decode cX8_fillDigits 35 = .ok (.l2i, 1) := by decide +kernel
theorem dX8_fillDigits_36 : decode cX8_fillDigits 36 = .ok (.isub, 1) := by decide +kernel
theorem dX8_fillDigits_37 : decode cX8_fillDigits 37 = .ok (.istore 5, 2) := by decide +kernel
theorem dX8_fillDigits_39 : decode cX8_fillDigits 39 = .ok (.aload_n 0, 1) := by decide +kernel
theorem dX8_fillDigits_40 : decode cX8_fillDigits 40 = .ok (.getfield 25, 3) := by decide +kernel
theorem dX8_fillDigits_43 : decode cX8_fillDigits 43 = .ok (.iload_n 1, 1) := by decide +kernel
theorem dX8_fillDigits_44 : decode cX8_fillDigits 44 = .ok (.bipush 32, 2) := by decide +kernel
theorem dX8_fillDigits_46 : decode cX8_fillDigits 46 = .ok (.imul, 1) := by decide +kernel
theorem dX8_fillDigits_47 : decode cX8_fillDigits 47 = .ok (.iload 4, 2) := by decide +kernel
theorem dX8_fillDigits_49 : decode cX8_fillDigits 49 = .ok (.iadd, 1) := by decide +kernel
theorem dX8_fillDigits_50 : decode cX8_fillDigits 50 = .ok (.iload 5, 2) := by decide +kernel
theorem dX8_fillDigits_52 : decode cX8_fillDigits 52 = .ok (.iastore, 1) := by decide +kernel
theorem dX8_fillDigits_53 : decode cX8_fillDigits 53 = .ok (.lload_n 2, 1) := by decide +kernel
theorem dX8_fillDigits_54 : decode cX8_fillDigits 54 = .ok (.iload 5, 2) := by decide +kernel
theorem dX8_fillDigits_56 : decode cX8_fillDigits 56 = .ok (.i2l, 1) := by decide +kernel
theorem dX8_fillDigits_57 : decode cX8_fillDigits 57 = .ok (.lsub, 1) := by decide +kernel
theorem dX8_fillDigits_58 : decode cX8_fillDigits 58 = .ok (.iconst 1, 1) := by decide +kernel
theorem dX8_fillDigits_59 : decode cX8_fillDigits 59 = .ok (.lshr, 1) := by decide +kernel
theorem dX8_fillDigits_60 : decode cX8_fillDigits 60 = .ok (.lstore_n 2, 1) := by decide +kernel
theorem dX8_fillDigits_61 : decode cX8_fillDigits 61 = .ok (.iinc 4 1, 3) := by decide +kernel
theorem dX8_fillDigits_64 : decode cX8_fillDigits 64 = .ok (.goto (-54), 3) := by decide +kernel
theorem dX8_fillDigits_67 : decode cX8_fillDigits 67 = .ok (.return_, 1) := by decide +kernel
theorem dX8_needsWord_0 : decode cX8_needsWord 0 = .ok (.iload_n 1, 1) := by decide +kernel
theorem dX8_needsWord_1 : decode cX8_needsWord 1 = .ok (.bipush 24, 2) := by decide +kernel
theorem dX8_needsWord_3 : decode cX8_needsWord 3 = .ok (.imul, 1) := by decide +kernel
theorem dX8_needsWord_4 : decode cX8_needsWord 4 = .ok (.iload_n 2, 1) := by decide +kernel
theorem dX8_needsWord_5 : decode cX8_needsWord 5 = .ok (.iadd, 1) := by decide +kernel
theorem dX8_needsWord_6 : decode cX8_needsWord 6 = .ok (.istore_n 3, 1) := by decide +kernel
theorem dX8_needsWord_7 : decode cX8_needsWord 7 = .ok (.aload_n 0, 1) := by decide +kernel
theorem dX8_needsWord_8 : decode cX8_needsWord 8 = .ok (.getfield 9, 3) := by decide +kernel
theorem dX8_needsWord_11 : decode cX8_needsWord 11 = .ok (.iload_n 3, 1) := by decide +kernel
theorem dX8_needsWord_12 : decode cX8_needsWord 12 = .ok (.iaload, 1) := by decide +kernel
theorem dX8_needsWord_13 : decode cX8_needsWord 13 = .ok (.aload_n 0, 1) := by decide +kernel
theorem dX8_needsWord_14 : decode cX8_needsWord 14 = .ok (.getfield 45, 3) := by decide +kernel
theorem dX8_needsWord_17 : decode cX8_needsWord 17 = .ok (.if_icmp .gt 23, 3) := by decide +kernel
theorem dX8_needsWord_20 : decode cX8_needsWord 20 = .ok (.aload_n 0, 1) := by decide +kernel
theorem dX8_needsWord_21 : decode cX8_needsWord 21 = .ok (.getfield 15, 3) := by decide +kernel
theorem dX8_needsWord_24 : decode cX8_needsWord 24 = .ok (.iload_n 3, 1) := by decide +kernel
theorem dX8_needsWord_25 : decode cX8_needsWord 25 = .ok (.laload, 1) := by decide +kernel
theorem dX8_needsWord_26 : decode cX8_needsWord 26 = .ok (.aload_n 0, 1) := by decide +kernel
theorem dX8_needsWord_27 : decode cX8_needsWord 27 = .ok (.aload_n 0, 1) := by decide +kernel
theorem dX8_needsWord_28 : decode cX8_needsWord 28 = .ok (.getfield 9, 3) := by decide +kernel
theorem dX8_needsWord_31 : decode cX8_needsWord 31 = .ok (.iload_n 3, 1) := by decide +kernel
theorem dX8_needsWord_32 : decode cX8_needsWord 32 = .ok (.iaload, 1) := by decide +kernel
theorem dX8_needsWord_33 : decode cX8_needsWord 33 = .ok (.invokevirtual 93, 3) := by decide +kernel
theorem dX8_needsWord_36 : decode cX8_needsWord 36 = .ok (.lcmp, 1) := by decide +kernel
theorem dX8_needsWord_37 : decode cX8_needsWord 37 = .ok (.ifCond .eq 7, 3) := by decide +kernel
theorem dX8_needsWord_40 : decode cX8_needsWord 40 = .ok (.iconst 1, 1) := by decide +kernel
theorem dX8_needsWord_41 : decode cX8_needsWord 41 = .ok (.goto 4, 3) := by decide +kernel
theorem dX8_needsWord_44 : decode cX8_needsWord 44 = .ok (.iconst 0, 1) := by decide +kernel
theorem dX8_needsWord_45 : decode cX8_needsWord 45 = .ok (.ireturn, 1) := by decide +kernel
theorem dX8_digitsUsed_0 : decode cX8_digitsUsed 0 = .ok (.iconst 0, 1) := by decide +kernel
theorem dX8_digitsUsed_1 : decode cX8_digitsUsed 1 = .ok (.istore_n 2, 1) := by decide +kernel
theorem dX8_digitsUsed_2 : decode cX8_digitsUsed 2 = .ok (.iconst 0, 1) := by decide +kernel
theorem dX8_digitsUsed_3 : decode cX8_digitsUsed 3 = .ok (.istore_n 3, 1) := by decide +kernel
theorem dX8_digitsUsed_4 : decode cX8_digitsUsed 4 = .ok (.iload_n 3, 1) := by decide +kernel
theorem dX8_digitsUsed_5 : decode cX8_digitsUsed 5 = .ok (.bipush 32, 2) := by decide +kernel
theorem dX8_digitsUsed_7 : decode cX8_digitsUsed 7 = .ok (.if_icmp .ge 31, 3) := by decide +kernel
theorem dX8_digitsUsed_10 : decode cX8_digitsUsed 10 = .ok (.iload_n 2, 1) := by decide +kernel
theorem dX8_digitsUsed_11 : decode cX8_digitsUsed 11 = .ok (.aload_n 0, 1) := by decide +kernel
theorem dX8_digitsUsed_12 : decode cX8_digitsUsed 12 = .ok (.getfield 25, 3) := by decide +kernel
theorem dX8_digitsUsed_15 : decode cX8_digitsUsed 15 = .ok (.iload_n 1, 1) := by decide +kernel
theorem dX8_digitsUsed_16 : decode cX8_digitsUsed 16 = .ok (.bipush 32, 2) := by decide +kernel
theorem dX8_digitsUsed_18 : decode cX8_digitsUsed 18 = .ok (.imul, 1) := by decide +kernel
theorem dX8_digitsUsed_19 : decode cX8_digitsUsed 19 = .ok (.iload_n 3, 1) := by decide +kernel
theorem dX8_digitsUsed_20 : decode cX8_digitsUsed 20 = .ok (.iadd, 1) := by decide +kernel
theorem dX8_digitsUsed_21 : decode cX8_digitsUsed 21 = .ok (.iaload, 1) := by decide +kernel
theorem dX8_digitsUsed_22 : decode cX8_digitsUsed 22 = .ok (.ifCond .eq 7, 3) := by decide +kernel
theorem dX8_digitsUsed_25 : decode cX8_digitsUsed 25 = .ok (.iconst 1, 1) := by decide +kernel
theorem dX8_digitsUsed_26 : decode cX8_digitsUsed 26 = .ok (.goto 4, 3) := by decide +kernel
theorem dX8_digitsUsed_29 : decode cX8_digitsUsed 29 = .ok (.iconst 0, 1) := by decide +kernel
theorem dX8_digitsUsed_30 : decode cX8_digitsUsed 30 = .ok (.iadd, 1) := by decide +kernel
theorem dX8_digitsUsed_31 : decode cX8_digitsUsed 31 = .ok (.istore_n 2, 1) := by decide +kernel
theorem dX8_digitsUsed_32 : decode cX8_digitsUsed 32 = .ok (.iinc 3 1, 3) := by decide +kernel
theorem dX8_digitsUsed_35 : decode cX8_digitsUsed 35 = .ok (.goto (-31), 3) := by decide +kernel
theorem dX8_digitsUsed_38 : decode cX8_digitsUsed 38 = .ok (.iload_n 2, 1) := by decide +kernel
theorem dX8_digitsUsed_39 : decode cX8_digitsUsed 39 = .ok (.ireturn, 1) := by decide +kernel
theorem dX8_words_0 : decode cX8_words 0 = .ok (.iconst 0, 1) := by decide +kernel
theorem dX8_words_1 : decode cX8_words 1 = .ok (.istore_n 2, 1) := by decide +kernel
theorem dX8_words_2 : decode cX8_words 2 = .ok (.iconst 0, 1) := by decide +kernel
theorem dX8_words_3 : decode cX8_words 3 = .ok (.istore_n 3, 1) := by decide +kernel
theorem dX8_words_4 : decode cX8_words 4 = .ok (.iload_n 3, 1) := by decide +kernel
theorem dX8_words_5 : decode cX8_words 5 = .ok (.aload_n 0, 1) := by decide +kernel
theorem dX8_words_6 : decode cX8_words 6 = .ok (.getfield 35, 3) := by decide +kernel
theorem dX8_words_9 : decode cX8_words 9 = .ok (.if_icmp .ge 35, 3) := by decide +kernel
theorem dX8_words_12 : decode cX8_words 12 = .ok (.iload_n 2, 1) := by decide +kernel
theorem dX8_words_13 : decode cX8_words 13 = .ok (.aload_n 0, 1) := by decide +kernel
theorem dX8_words_14 : decode cX8_words 14 = .ok (.iload_n 1, 1) := by decide +kernel
theorem dX8_words_15 : decode cX8_words 15 = .ok (.iload_n 3, 1) := by decide +kernel
theorem dX8_words_16 : decode cX8_words 16 = .ok (.invokevirtual 103, 3) := by decide +kernel
theorem dX8_words_19 : decode cX8_words 19 = .ok (.ifCond .eq 16, 3) := by decide +kernel
theorem dX8_words_22 : decode cX8_words 22 = .ok (.aload_n 0, 1) := by decide +kernel
theorem dX8_words_23 : decode cX8_words 23 = .ok (.iload_n 1, 1) := by decide +kernel
theorem dX8_words_24 : decode cX8_words 24 = .ok (.iload_n 3, 1) := by decide +kernel
theorem dX8_words_25 : decode cX8_words 25 = .ok (.invokevirtual 107, 3) := by decide +kernel
theorem dX8_words_28 : decode cX8_words 28 = .ok (.ifCond .ne 7, 3) := by decide +kernel
theorem dX8_words_31 : decode cX8_words 31 = .ok (.iconst 1, 1) := by decide +kernel
theorem dX8_words_32 : decode cX8_words 32 = .ok (.goto 4, 3) := by decide +kernel
theorem dX8_words_35 : decode cX8_words 35 = .ok (.iconst 0, 1) := by decide +kernel
theorem dX8_words_36 : decode cX8_words 36 = .ok (.iadd, 1) := by decide +kernel
theorem dX8_words_37 : decode cX8_words 37 = .ok (.istore_n 2, 1) := by decide +kernel
theorem dX8_words_38 : decode cX8_words 38 = .ok (.iinc 3 1, 3) := by decide +kernel
theorem dX8_words_41 : decode cX8_words 41 = .ok (.goto (-37), 3) := by decide +kernel
theorem dX8_words_44 : decode cX8_words 44 = .ok (.iload_n 2, 1) := by decide +kernel
theorem dX8_words_45 : decode cX8_words 45 = .ok (.ireturn, 1) := by decide +kernel
theorem dX8_hasWordBefore_0 : decode cX8_hasWordBefore 0 = .ok (.iload_n 1, 1) := by decide +kernel
theorem dX8_hasWordBefore_1 : decode cX8_hasWordBefore 1 = .ok (.bipush 24, 2) := by decide +kernel
theorem dX8_hasWordBefore_3 : decode cX8_hasWordBefore 3 = .ok (.imul, 1) := by decide +kernel
theorem dX8_hasWordBefore_4 : decode cX8_hasWordBefore 4 = .ok (.istore_n 3, 1) := by decide +kernel
theorem dX8_hasWordBefore_5 : decode cX8_hasWordBefore 5 = .ok (.iconst 0, 1) := by decide +kernel
theorem dX8_hasWordBefore_6 : decode cX8_hasWordBefore 6 = .ok (.istore 4, 2) := by decide +kernel
theorem dX8_hasWordBefore_8 : decode cX8_hasWordBefore 8 = .ok (.iload 4, 2) := by decide +kernel
theorem dX8_hasWordBefore_10 : decode cX8_hasWordBefore 10 = .ok (.iload_n 2, 1) := by decide +kernel
theorem dX8_hasWordBefore_11 : decode cX8_hasWordBefore 11 = .ok (.if_icmp .ge 42, 3) := by decide +kernel
theorem dX8_hasWordBefore_14 : decode cX8_hasWordBefore 14 = .ok (.aload_n 0, 1) := by decide +kernel
theorem dX8_hasWordBefore_15 : decode cX8_hasWordBefore 15 = .ok (.iload_n 1, 1) := by decide +kernel
theorem dX8_hasWordBefore_16 : decode cX8_hasWordBefore 16 = .ok (.iload 4, 2) := by decide +kernel
theorem dX8_hasWordBefore_18 : decode cX8_hasWordBefore 18 = .ok (.invokevirtual 103, 3) := by decide +kernel
theorem dX8_hasWordBefore_21 : decode cX8_hasWordBefore 21 = .ok (.ifCond .eq 26, 3) := by decide +kernel
theorem dX8_hasWordBefore_24 : decode cX8_hasWordBefore 24 = .ok (.aload_n 0, 1) := by decide +kernel
theorem dX8_hasWordBefore_25 : decode cX8_hasWordBefore 25 = .ok (.getfield 15, 3) := by decide +kernel
theorem dX8_hasWordBefore_28 : decode cX8_hasWordBefore 28 = .ok (.iload_n 3, 1) := by decide +kernel
theorem dX8_hasWordBefore_29 : decode cX8_hasWordBefore 29 = .ok (.iload 4, 2) := by decide +kernel
theorem dX8_hasWordBefore_31 : decode cX8_hasWordBefore 31 = .ok (.iadd, 1) := by decide +kernel
theorem dX8_hasWordBefore_32 : decode cX8_hasWordBefore 32 = .ok (.laload, 1) := by decide +kernel
theorem dX8_hasWordBefore_33 : decode cX8_hasWordBefore 33 = .ok (.aload_n 0, 1) := by decide +kernel
theorem dX8_hasWordBefore_34 : decode cX8_hasWordBefore 34 = .ok (.getfield 15, 3) := by decide +kernel
theorem dX8_hasWordBefore_37 : decode cX8_hasWordBefore 37 = .ok (.iload_n 3, 1) := by decide +kernel
theorem dX8_hasWordBefore_38 : decode cX8_hasWordBefore 38 = .ok (.iload_n 2, 1) := by decide +kernel
theorem dX8_hasWordBefore_39 : decode cX8_hasWordBefore 39 = .ok (.iadd, 1) := by decide +kernel
theorem dX8_hasWordBefore_40 : decode cX8_hasWordBefore 40 = .ok (.laload, 1) := by decide +kernel
theorem dX8_hasWordBefore_41 : decode cX8_hasWordBefore 41 = .ok (.lcmp, 1) := by decide +kernel
theorem dX8_hasWordBefore_42 : decode cX8_hasWordBefore 42 = .ok (.ifCond .ne 5, 3) := by decide +kernel
theorem dX8_hasWordBefore_45 : decode cX8_hasWordBefore 45 = .ok (.iconst 1, 1) := by decide +kernel
theorem dX8_hasWordBefore_46 : decode cX8_hasWordBefore 46 = .ok (.ireturn, 1) := by decide +kernel
theorem dX8_hasWordBefore_47 : decode cX8_hasWordBefore 47 = .ok (.iinc 4 1, 3) := by decide +kernel
theorem dX8_hasWordBefore_50 : decode cX8_hasWordBefore 50 = .ok (.goto (-42), 3) := by decide +kernel
theorem dX8_hasWordBefore_53 : decode cX8_hasWordBefore 53 = .ok (.iconst 0, 1) := by decide +kernel
theorem dX8_hasWordBefore_54 : decode cX8_hasWordBefore 54 = .ok (.ireturn, 1) := by decide +kernel
theorem dX8_firstWithoutWords_0 : decode cX8_firstWithoutWords 0 = .ok (.aload_n 0, 1) := by decide +kernel
theorem dX8_firstWithoutWords_1 : decode cX8_firstWithoutWords 1 = .ok (.getfield 35, 3) := by decide +kernel
theorem dX8_firstWithoutWords_4 : decode cX8_firstWithoutWords 4 = .ok (.istore_n 2, 1) := by decide +kernel
theorem dX8_firstWithoutWords_5 : decode cX8_firstWithoutWords 5 = .ok (.iload_n 2, 1) := by decide +kernel
theorem dX8_firstWithoutWords_6 : decode cX8_firstWithoutWords 6 = .ok (.ifCond .le 20, 3) := by decide +kernel
theorem dX8_firstWithoutWords_9 : decode cX8_firstWithoutWords 9 = .ok (.aload_n 0, 1) := by decide +kernel
theorem dX8_firstWithoutWords_10 : decode cX8_firstWithoutWords 10 = .ok (.iload_n 1, 1) := by decide +kernel
theorem dX8_firstWithoutWords_11 : decode cX8_firstWithoutWords 11 = .ok (.iload_n 2, 1) := by decide +kernel
theorem dX8_firstWithoutWords_12 : decode cX8_firstWithoutWords 12 = .ok (.iconst 1, 1) := by decide +kernel
theorem dX8_firstWithoutWords_13 : decode cX8_firstWithoutWords 13 = .ok (.isub, 1) := by decide +kernel
theorem dX8_firstWithoutWords_14 : decode cX8_firstWithoutWords 14 = .ok (.invokevirtual 103, 3) := by decide +kernel
theorem dX8_firstWithoutWords_17 : decode cX8_firstWithoutWords 17 = .ok (.ifCond .ne 9, 3) := by decide +kernel
theorem dX8_firstWithoutWords_20 : decode cX8_firstWithoutWords 20 = .ok (.iinc 2 (-1), 3) := by decide +kernel
theorem dX8_firstWithoutWords_23 : decode cX8_firstWithoutWords 23 = .ok (.goto (-18), 3) := by decide +kernel
theorem dX8_firstWithoutWords_26 : decode cX8_firstWithoutWords 26 = .ok (.iload_n 2, 1) := by decide +kernel
theorem dX8_firstWithoutWords_27 : decode cX8_firstWithoutWords 27 = .ok (.ireturn, 1) := by decide +kernel
theorem dX8_shifted_0 : decode cX8_shifted 0 = .ok (.aload_n 0, 1) := by decide +kernel
theorem dX8_shifted_1 : decode cX8_shifted 1 = .ok (.getfield 41, 3) := by decide +kernel
theorem dX8_shifted_4 : decode cX8_shifted 4 = .ok (.ifCond .eq 19, 3) := by decide +kernel
theorem dX8_shifted_7 : decode cX8_shifted 7 = .ok (.iload_n 3, 1) := by decide +kernel
theorem dX8_shifted_8 : decode cX8_shifted 8 = .ok (.ifCond .le 15, 3) := by decide +kernel
theorem dX8_shifted_11 : decode cX8_shifted 11 = .ok (.lload_n 1, 1) := by decide +kernel
theorem dX8_shifted_12 : decode cX8_shifted 12 = .ok (.lconst 1, 1) := by decide +kernel
theorem dX8_shifted_13 : decode cX8_shifted 13 = .ok (.iload_n 3, 1) := by decide +kernel
theorem dX8_shifted_14 : decode cX8_shifted 14 = .ok (.iconst 1, 1) := by decide +kernel
theorem dX8_shifted_15 : decode cX8_shifted 15 = .ok (.isub, 1) := by decide +kernel
theorem dX8_shifted_16 : decode cX8_shifted 16 = .ok (.lshl, 1) := by decide +kernel
theorem dX8_shifted_17 : decode cX8_shifted 17 = .ok (.ladd, 1) := by decide +kernel
theorem dX8_shifted_18 : decode cX8_shifted 18 = .ok (.iload_n 3, 1) := by decide +kernel
theorem dX8_shifted_19 : decode cX8_shifted 19 = .ok (.lshr, 1) := by decide +kernel
theorem dX8_shifted_20 : decode cX8_shifted 20 = .ok (.goto 6, 3) := by decide +kernel
theorem dX8_shifted_23 : decode cX8_shifted 23 = .ok (.lload_n 1, 1) := by decide +kernel
theorem dX8_shifted_24 : decode cX8_shifted 24 = .ok (.iload_n 3, 1) := by decide +kernel
theorem dX8_shifted_25 : decode cX8_shifted 25 = .ok (.lshr, 1) := by decide +kernel
theorem dX8_shifted_26 : decode cX8_shifted 26 = .ok (.lreturn, 1) := by decide +kernel
theorem dX8_scaled_0 : decode cX8_scaled 0 = .ok (.iload_n 3, 1) := by decide +kernel
theorem dX8_scaled_1 : decode cX8_scaled 1 = .ok (.ifCond .lt 9, 3) := by decide +kernel
theorem dX8_scaled_4 : decode cX8_scaled 4 = .ok (.lload_n 1, 1) := by decide +kernel
theorem dX8_scaled_5 : decode cX8_scaled 5 = .ok (.iload_n 3, 1) := by decide +kernel
theorem dX8_scaled_6 : decode cX8_scaled 6 = .ok (.lshl, 1) := by decide +kernel
theorem dX8_scaled_7 : decode cX8_scaled 7 = .ok (.goto 10, 3) := by decide +kernel
theorem dX8_scaled_10 : decode cX8_scaled 10 = .ok (.aload_n 0, 1) := by decide +kernel
theorem dX8_scaled_11 : decode cX8_scaled 11 = .ok (.lload_n 1, 1) := by decide +kernel
theorem dX8_scaled_12 : decode cX8_scaled 12 = .ok (.iload_n 3, 1) := by decide +kernel
theorem dX8_scaled_13 : decode cX8_scaled 13 = .ok (.ineg, 1) := by decide +kernel
theorem dX8_scaled_14 : decode cX8_scaled 14 = .ok (.invokevirtual 110, 3) := by decide +kernel
theorem dX8_scaled_17 : decode cX8_scaled 17 = .ok (.lreturn, 1) := by decide +kernel
theorem dX8_outward_0 : decode cX8_outward 0 = .ok (.aload_n 0, 1) := by decide +kernel
theorem dX8_outward_1 : decode cX8_outward 1 = .ok (.getfield 32, 3) := by decide +kernel
theorem dX8_outward_4 : decode cX8_outward 4 = .ok (.ifCond .ne 7, 3) := by decide +kernel
theorem dX8_outward_7 : decode cX8_outward 7 = .ok (.lload_n 1, 1) := by decide +kernel
theorem dX8_outward_8 : decode cX8_outward 8 = .ok (.goto 18, 3) := by decide +kernel
theorem dX8_outward_11 : decode cX8_outward 11 = .ok (.lload_n 1, 1) := by decide +kernel
theorem dX8_outward_12 : decode cX8_outward 12 = .ok (.lconst 1, 1) := by decide +kernel
theorem dX8_outward_13 : decode cX8_outward 13 = .ok (.aload_n 0, 1) := by decide +kernel
theorem dX8_outward_14 : decode cX8_outward 14 = .ok (.getfield 32, 3) := by decide +kernel
theorem dX8_outward_17 : decode cX8_outward 17 = .ok (.iconst 1, 1) := by decide +kernel
theorem dX8_outward_18 : decode cX8_outward 18 = .ok (.isub, 1) := by decide +kernel
theorem dX8_outward_19 : decode cX8_outward 19 = .ok (.lshl, 1) := by decide +kernel
theorem dX8_outward_20 : decode cX8_outward 20 = .ok (.ladd, 1) := by decide +kernel
theorem dX8_outward_21 : decode cX8_outward 21 = .ok (.aload_n 0, 1) := by decide +kernel
theorem dX8_outward_22 : decode cX8_outward 22 = .ok (.getfield 32, 3) := by decide +kernel
theorem dX8_outward_25 : decode cX8_outward 25 = .ok (.lshr, 1) := by decide +kernel
theorem dX8_outward_26 : decode cX8_outward 26 = .ok (.lreturn, 1) := by decide +kernel
theorem dX8_withoutGain_0 : decode cX8_withoutGain 0 = .ok (.lconst 0, 1) := by decide +kernel
theorem dX8_withoutGain_1 : decode cX8_withoutGain 1 = .ok (.lstore 4, 2) := by decide +kernel
theorem dX8_withoutGain_3 : decode cX8_withoutGain 3 = .ok (.iconst 0, 1) := by decide +kernel
theorem dX8_withoutGain_4 : decode cX8_withoutGain 4 = .ok (.istore 6, 2) := by decide +kernel
theorem dX8_withoutGain_6 : decode cX8_withoutGain 6 = .ok (.iload 6, 2) := by decide +kernel
theorem dX8_withoutGain_8 : decode cX8_withoutGain 8 = .ok (.bipush 32, 2) := by decide +kernel
theorem dX8_withoutGain_10 : decode cX8_withoutGain 10 = .ok (.if_icmp .ge 70, 3) := by decide +kernel
theorem dX8_withoutGain_13 : decode cX8_withoutGain 13 = .ok (.aload_n 0, 1) := by decide +kernel
theorem dX8_withoutGain_14 : decode cX8_withoutGain 14 = .ok (.getfield 25, 3) := by decide +kernel
theorem dX8_withoutGain_17 : decode cX8_withoutGain 17 = .ok (.iload_n 1, 1) := by decide +kernel
theorem dX8_withoutGain_18 : decode cX8_withoutGain 18 = .ok (.bipush 32, 2) := by decide +kernel
theorem dX8_withoutGain_20 : decode cX8_withoutGain 20 = .ok (.imul, 1) := by decide +kernel
theorem dX8_withoutGain_21 : decode cX8_withoutGain 21 = .ok (.iload 6, 2) := by decide +kernel
theorem dX8_withoutGain_23 : decode cX8_withoutGain 23 = .ok (.iadd, 1) := by decide +kernel
theorem dX8_withoutGain_24 : decode cX8_withoutGain 24 = .ok (.iaload, 1) := by decide +kernel
theorem dX8_withoutGain_25 : decode cX8_withoutGain 25 = .ok (.istore 7, 2) := by decide +kernel
theorem dX8_withoutGain_27 : decode cX8_withoutGain 27 = .ok (.iload 7, 2) := by decide +kernel
theorem dX8_withoutGain_29 : decode cX8_withoutGain 29 = .ok (.ifCond .eq 45, 3) := by decide +kernel
theorem dX8_withoutGain_32 : decode cX8_withoutGain 32 = .ok (.lload 4, 2) := by decide +kernel
theorem dX8_withoutGain_34 : decode cX8_withoutGain 34 = .ok (.iload 7, 2) := by decide +kernel
theorem dX8_withoutGain_36 : decode cX8_withoutGain 36 = .ok (.i2l, 1) := by decide +kernel
theorem dX8_withoutGain_37 : decode cX8_withoutGain 37 = .ok (.iload 6, 2) := by decide +kernel
theorem dX8_withoutGain_39 : decode cX8_withoutGain 39 = .ok (.aload_n 0, 1) := by decide +kernel
theorem dX8_withoutGain_40 : decode cX8_withoutGain 40 = .ok (.getfield 45, 3) := by decide +kernel
theorem dX8_withoutGain_43 : decode cX8_withoutGain 43 = .ok (.if_icmp .le 15, 3) := by decide +kernel
theorem dX8_withoutGain_46 : decode cX8_withoutGain 46 = .ok (.lload_n 2, 1) := by decide +kernel
theorem dX8_withoutGain_47 : decode cX8_withoutGain 47 = .ok (.iload 6, 2) := by decide +kernel
theorem dX8_withoutGain_49 : decode cX8_withoutGain 49 = .ok (.aload_n 0, 1) := by decide +kernel
theorem dX8_withoutGain_50 : decode cX8_withoutGain 50 = .ok (.getfield 45, 3) := by decide +kernel
theorem dX8_withoutGain_53 : decode cX8_withoutGain 53 = .ok (.isub, 1) := by decide +kernel
theorem dX8_withoutGain_54 : decode cX8_withoutGain 54 = .ok (.lshl, 1) := by decide +kernel
theorem dX8_withoutGain_55 : decode cX8_withoutGain 55 = .ok (.goto 15, 3) := by decide +kernel
theorem dX8_withoutGain_58 : decode cX8_withoutGain 58 = .ok (.aload_n 0, 1) := by decide +kernel
theorem dX8_withoutGain_59 : decode cX8_withoutGain 59 = .ok (.lload_n 2, 1) := by decide +kernel
theorem dX8_withoutGain_60 : decode cX8_withoutGain 60 = .ok (.aload_n 0, 1) := by decide +kernel
theorem dX8_withoutGain_61 : decode cX8_withoutGain 61 = .ok (.getfield 45, 3) := by decide +kernel
theorem dX8_withoutGain_64 : decode cX8_withoutGain 64 = .ok (.iload 6, 2) := by decide +kernel
theorem dX8_withoutGain_66 : decode cX8_withoutGain 66 = .ok (.isub, 1) := by decide +kernel
theorem dX8_withoutGain_67 : decode cX8_withoutGain 67 = .ok (.invokevirtual 110, 3) := by decide +kernel
theorem dX8_withoutGain_70 : decode cX8_withoutGain 70 = .ok (.lmul, 1) := by decide +kernel
theorem dX8_withoutGain_71 : decode cX8_withoutGain 71 = .ok (.ladd, 1) := by decide +kernel
theorem dX8_withoutGain_72 : decode cX8_withoutGain 72 = .ok (.lstore 4, 2) := by decide +kernel
theorem dX8_withoutGain_74 : decode cX8_withoutGain 74 = .ok (.iinc 6 1, 3) := by decide +kernel
theorem dX8_withoutGain_77 : decode cX8_withoutGain 77 = .ok (.goto (-71), 3) := by decide +kernel
theorem dX8_withoutGain_80 : decode cX8_withoutGain 80 = .ok (.lload 4, 2) := by decide +kernel
theorem dX8_withoutGain_82 : decode cX8_withoutGain 82 = .ok (.lreturn, 1) := by decide +kernel
theorem dX8_farthest_0 : decode cX8_farthest 0 = .ok (.aload_n 0, 1) := by decide +kernel
theorem dX8_farthest_1 : decode cX8_farthest 1 = .ok (.getfield 15, 3) := by decide +kernel
theorem dX8_farthest_4 : decode cX8_farthest 4 = .ok (.getstatic 114, 3) := by decide +kernel
theorem dX8_farthest_7 : decode cX8_farthest 7 = .ok (.iload_n 1, 1) := by decide +kernel
theorem dX8_farthest_8 : decode cX8_farthest 8 = .ok (.aaload, 1) := by decide +kernel
theorem dX8_farthest_9 : decode cX8_farthest 9 = .ok (.getfield 118, 3) := by decide +kernel
theorem dX8_farthest_12 : decode cX8_farthest 12 = .ok (.bipush 24, 2) := by decide +kernel
theorem dX8_farthest_14 : decode cX8_farthest 14 = .ok (.imul, 1) := by decide +kernel
theorem dX8_farthest_15 : decode cX8_farthest 15 = .ok (.iload_n 2, 1) := by decide +kernel
theorem dX8_farthest_16 : decode cX8_farthest 16 = .ok (.iadd, 1) := by decide +kernel
theorem dX8_farthest_17 : decode cX8_farthest 17 = .ok (.iconst 1, 1) := by decide +kernel
theorem dX8_farthest_18 : decode cX8_farthest 18 = .ok (.isub, 1) := by decide +kernel
theorem dX8_farthest_19 : decode cX8_farthest 19 = .ok (.laload, 1) := by decide +kernel
theorem dX8_farthest_20 : decode cX8_farthest 20 = .ok (.lstore_n 3, 1) := by decide +kernel
theorem dX8_farthest_21 : decode cX8_farthest 21 = .ok (.iload_n 1, 1) := by decide +kernel
theorem dX8_farthest_22 : decode cX8_farthest 22 = .ok (.ifCond .ne 16, 3) := by decide +kernel
theorem dX8_farthest_25 : decode cX8_farthest 25 = .ok (.lload_n 3, 1) := by decide +kernel
theorem dX8_farthest_26 : decode cX8_farthest 26 = .ok (.iconst 4, 1) := by decide +kernel
theorem dX8_farthest_27 : decode cX8_farthest 27 = .ok (.iload_n 2, 1) := by decide +kernel
theorem dX8_farthest_28 : decode cX8_farthest 28 = .ok (.imul, 1) := by decide +kernel
theorem dX8_farthest_29 : decode cX8_farthest 29 = .ok (.i2l, 1) := by decide +kernel
theorem dX8_farthest_30 : decode cX8_farthest 30 = .ok (.ladd, 1) := by decide +kernel
theorem dX8_farthest_31 : decode cX8_farthest 31 = .ok (.ldc2_w 123, 3) := by decide +kernel
theorem dX8_farthest_34 : decode cX8_farthest 34 = .ok (.ladd, 1) := by decide +kernel
theorem dX8_farthest_35 : decode cX8_farthest 35 = .ok (.goto 18, 3) := by decide +kernel
theorem dX8_farthest_38 : decode cX8_farthest 38 = .ok (.ldc2_w 60, 3) := by decide +kernel
theorem dX8_farthest_41 : decode cX8_farthest 41 = .ok (.lload_n 3, 1) := by decide +kernel
theorem dX8_farthest_42 : decode cX8_farthest 42 = .ok (.lmul, 1) := by decide +kernel
theorem dX8_farthest_43 : decode cX8_farthest 43 = .ok (.bipush 8, 2) := by decide +kernel
theorem dX8_farthest_45 : decode cX8_farthest 45 = .ok (.iload_n 2, 1) := by decide +kernel
theorem dX8_farthest_46 : decode cX8_farthest 46 = .ok (.imul, 1) := by decide +kernel
theorem dX8_farthest_47 : decode cX8_farthest 47 = .ok (.i2l, 1) := by decide +kernel
theorem dX8_farthest_48 : decode cX8_farthest 48 = .ok (.ladd, 1) := by decide +kernel
theorem dX8_farthest_49 : decode cX8_farthest 49 = .ok (.ldc2_w 123, 3) := by decide +kernel
theorem dX8_farthest_52 : decode cX8_farthest 52 = .ok (.ladd, 1) := by decide +kernel
theorem dX8_farthest_53 : decode cX8_farthest 53 = .ok (.lstore 5, 2) := by decide +kernel
theorem dX8_farthest_55 : decode cX8_farthest 55 = .ok (.lload 5, 2) := by decide +kernel
theorem dX8_farthest_57 : decode cX8_farthest 57 = .ok (.aload_n 0, 1) := by decide +kernel
theorem dX8_farthest_58 : decode cX8_farthest 58 = .ok (.getfield 32, 3) := by decide +kernel
theorem dX8_farthest_61 : decode cX8_farthest 61 = .ok (.lshr, 1) := by decide +kernel
theorem dX8_farthest_62 : decode cX8_farthest 62 = .ok (.ldc2_w 60, 3) := by decide +kernel
theorem dX8_farthest_65 : decode cX8_farthest 65 = .ok (.ladd, 1) := by decide +kernel
theorem dX8_farthest_66 : decode cX8_farthest 66 = .ok (.lreturn, 1) := by decide +kernel
theorem dX9_init_0 : decode cX9_init 0 = .ok (.aload_n 0, 1) := by decide +kernel
theorem dX9_init_1 : decode cX9_init 1 = .ok (.invokespecial 3, 3) := by decide +kernel
theorem dX9_init_4 : decode cX9_init 4 = .ok (.aload_n 0, 1) := by decide +kernel
theorem dX9_init_5 : decode cX9_init 5 = .ok (.new 9, 3) := by decide +kernel
theorem dX9_init_8 : decode cX9_init 8 = .ok (.dup, 1) := by decide +kernel
theorem dX9_init_9 : decode cX9_init 9 = .ok (.aload_n 1, 1) := by decide +kernel
theorem dX9_init_10 : decode cX9_init 10 = .ok (.invokespecial 11, 3) := by decide +kernel
theorem dX9_init_13 : decode cX9_init 13 = .ok (.putfield 14, 3) := by decide +kernel
theorem dX9_init_16 : decode cX9_init 16 = .ok (.return_, 1) := by decide +kernel
theorem dX9_read_0 : decode cX9_read 0 = .ok (.aload_n 0, 1) := by decide +kernel
theorem dX9_read_1 : decode cX9_read 1 = .ok (.invokevirtual 20, 3) := by decide +kernel
theorem dX9_read_4 : decode cX9_read 4 = .ok (.iconst 0, 1) := by decide +kernel
theorem dX9_read_5 : decode cX9_read 5 = .ok (.istore_n 1, 1) := by decide +kernel
theorem dX9_read_6 : decode cX9_read 6 = .ok (.iload_n 1, 1) := by decide +kernel
theorem dX9_read_7 : decode cX9_read 7 = .ok (.sipush 400, 3) := by decide +kernel
theorem dX9_read_10 : decode cX9_read 10 = .ok (.if_icmp .gt 89, 3) := by decide +kernel
theorem dX9_read_13 : decode cX9_read 13 = .ok (.aload_n 0, 1) := by decide +kernel
theorem dX9_read_14 : decode cX9_read 14 = .ok (.invokevirtual 23, 3) := by decide +kernel
theorem dX9_read_17 : decode cX9_read 17 = .ok (.istore_n 2, 1) := by decide +kernel
theorem dX9_read_18 : decode cX9_read 18 = .ok (.iload_n 2, 1) := by decide +kernel
theorem dX9_read_19 : decode cX9_read 19 = .ok (.iconst (-1), 1) := by decide +kernel
theorem dX9_read_20 : decode cX9_read 20 = .ok (.if_icmp .eq 5, 3) := by decide +kernel
theorem dX9_read_23 : decode cX9_read 23 = .ok (.iload_n 2, 1) := by decide +kernel
theorem dX9_read_24 : decode cX9_read 24 = .ok (.ireturn, 1) := by decide +kernel
theorem dX9_read_25 : decode cX9_read 25 = .ok (.aload_n 0, 1) := by decide +kernel
theorem dX9_read_26 : decode cX9_read 26 = .ok (.getfield 14, 3) := by decide +kernel
theorem dX9_read_29 : decode cX9_read 29 = .ok (.invokevirtual 27, 3) := by decide +kernel
theorem dX9_read_32 : decode cX9_read 32 = .ok (.aload_n 0, 1) := by decide +kernel
theorem dX9_read_33 : decode cX9_read 33 = .ok (.getfield 14, 3) := by decide +kernel
theorem dX9_read_36 : decode cX9_read 36 = .ok (.invokevirtual 30, 3) := by decide +kernel
theorem dX9_read_39 : decode cX9_read 39 = .ok (.ifCond .eq 21, 3) := by decide +kernel
theorem dX9_read_42 : decode cX9_read 42 = .ok (.aload_n 0, 1) := by decide +kernel
theorem dX9_read_43 : decode cX9_read 43 = .ok (.getfield 34, 3) := by decide +kernel
theorem dX9_read_46 : decode cX9_read 46 = .ok (.iconst (-1), 1) := by decide +kernel
theorem dX9_read_47 : decode cX9_read 47 = .ok (.if_icmp .eq 13, 3) := by decide +kernel
theorem dX9_read_50 : decode cX9_read 50 = .ok (.aload_n 0, 1) := by decide +kernel
theorem dX9_read_51 : decode cX9_read 51 = .ok (.getfield 38, 3) := by decide +kernel
theorem dX9_read_54 : decode cX9_read 54 = .ok (.iconst (-1), 1) := by decide +kernel
theorem dX9_read_55 : decode cX9_read 55 = .ok (.if_icmp .eq 5, 3) := by decide +kernel
theorem dX9_read_58 : decode cX9_read 58 = .ok (.iconst (-1), 1) := by decide +kernel
theorem dX9_read_59 : decode cX9_read 59 = .ok (.ireturn, 1) := by decide +kernel
theorem dX9_read_60 : decode cX9_read 60 = .ok (.aload_n 0, 1) := by decide +kernel
theorem dX9_read_61 : decode cX9_read 61 = .ok (.getfield 14, 3) := by decide +kernel
theorem dX9_read_64 : decode cX9_read 64 = .ok (.invokevirtual 41, 3) := by decide +kernel
theorem dX9_read_67 : decode cX9_read 67 = .ok (.bipush 59, 2) := by decide +kernel
theorem dX9_read_69 : decode cX9_read 69 = .ok (.if_icmp .eq 11, 3) := by decide +kernel
theorem dX9_read_72 : decode cX9_read 72 = .ok (.aload_n 0, 1) := by decide +kernel
theorem dX9_read_73 : decode cX9_read 73 = .ok (.getfield 14, 3) := by decide +kernel
theorem dX9_read_76 : decode cX9_read 76 = .ok (.getfield 44, 3) := by decide +kernel
theorem dX9_read_79 : decode cX9_read 79 = .ok (.ireturn, 1) := by decide +kernel
theorem dX9_read_80 : decode cX9_read 80 = .ok (.aload_n 0, 1) := by decide +kernel
theorem dX9_read_81 : decode cX9_read 81 = .ok (.getfield 14, 3) := by decide +kernel
theorem dX9_read_84 : decode cX9_read 84 = .ok (.dup, 1) := by decide +kernel
theorem dX9_read_85 : decode cX9_read 85 = .ok (.getfield 44, 3) := by decide +kernel
theorem dX9_read_88 : decode cX9_read 88 = .ok (.iconst 1, 1) := by decide +kernel
theorem dX9_read_89 : decode cX9_read 89 = .ok (.iadd, 1) := by decide +kernel
theorem dX9_read_90 : decode cX9_read 90 = .ok (.putfield 44, 3) := by decide +kernel
theorem dX9_read_93 : decode cX9_read 93 = .ok (.iinc 1 1, 3) := by decide +kernel
theorem dX9_read_96 : decode cX9_read 96 = .ok (.goto (-90), 3) := by decide +kernel
theorem dX9_read_99 : decode cX9_read 99 = .ok (.aload_n 0, 1) := by decide +kernel
theorem dX9_read_100 : decode cX9_read 100 = .ok (.getfield 14, 3) := by decide +kernel
theorem dX9_read_103 : decode cX9_read 103 = .ok (.getfield 44, 3) := by decide +kernel
theorem dX9_read_106 : decode cX9_read 106 = .ok (.ireturn, 1) := by decide +kernel
theorem dX9_guardOrUsual_0 : decode cX9_guardOrUsual 0 = .ok (.aload_n 0, 1) := by decide +kernel
theorem dX9_guardOrUsual_1 : decode cX9_guardOrUsual 1 = .ok (.getfield 47, 3) := by decide +kernel
theorem dX9_guardOrUsual_4 : decode cX9_guardOrUsual 4 = .ok (.iconst (-1), 1) := by decide +kernel
theorem dX9_guardOrUsual_5 : decode cX9_guardOrUsual 5 = .ok (.if_icmp .ne 7, 3) := by decide +kernel
theorem dX9_guardOrUsual_8 : decode cX9_guardOrUsual 8 = .ok (.iconst 2, 1) := by decide +kernel
theorem dX9_guardOrUsual_9 : decode cX9_guardOrUsual 9 = .ok (.goto 7, 3) := by decide +kernel
theorem dX9_guardOrUsual_12 : decode cX9_guardOrUsual 12 = .ok (.aload_n 0, 1) := by decide +kernel
theorem dX9_guardOrUsual_13 : decode cX9_guardOrUsual 13 = .ok (.getfield 47, 3) := by decide +kernel
theorem dX9_guardOrUsual_16 : decode cX9_guardOrUsual 16 = .ok (.ireturn, 1) := by decide +kernel
theorem dX9_placesOrStages_0 : decode cX9_placesOrStages 0 = .ok (.aload_n 0, 1) := by decide +kernel
theorem dX9_placesOrStages_1 : decode cX9_placesOrStages 1 = .ok (.getfield 50, 3) := by decide +kernel
theorem dX9_placesOrStages_4 : decode cX9_placesOrStages 4 = .ok (.iconst (-1), 1) := by decide +kernel
theorem dX9_placesOrStages_5 : decode cX9_placesOrStages 5 = .ok (.if_icmp .ne 10, 3) := by decide +kernel
theorem dX9_placesOrStages_8 : decode cX9_placesOrStages 8 = .ok (.aload_n 0, 1) := by decide +kernel
theorem dX9_placesOrStages_9 : decode cX9_placesOrStages 9 = .ok (.getfield 38, 3) := by decide +kernel
theorem dX9_placesOrStages_12 : decode cX9_placesOrStages 12 = .ok (.goto 7, 3) := by decide +kernel
theorem dX9_placesOrStages_15 : decode cX9_placesOrStages 15 = .ok (.aload_n 0, 1) := by decide +kernel
theorem dX9_placesOrStages_16 : decode cX9_placesOrStages 16 = .ok (.getfield 50, 3) := by decide +kernel
theorem dX9_placesOrStages_19 : decode cX9_placesOrStages 19 = .ok (.ireturn, 1) := by decide +kernel
theorem dX9_forget_0 : decode cX9_forget 0 = .ok (.aload_n 0, 1) := by decide +kernel
theorem dX9_forget_1 : decode cX9_forget 1 = .ok (.getfield 14, 3) := by decide +kernel
theorem dX9_forget_4 : decode cX9_forget 4 = .ok (.iconst 0, 1) := by decide +kernel
theorem dX9_forget_5 : decode cX9_forget 5 = .ok (.putfield 44, 3) := by decide +kernel
theorem dX9_forget_8 : decode cX9_forget 8 = .ok (.aload_n 0, 1) := by decide +kernel
theorem dX9_forget_9 : decode cX9_forget 9 = .ok (.iconst (-1), 1) := by decide +kernel
theorem dX9_forget_10 : decode cX9_forget 10 = .ok (.putfield 34, 3) := by decide +kernel
theorem dX9_forget_13 : decode cX9_forget 13 = .ok (.aload_n 0, 1) := by decide +kernel
theorem dX9_forget_14 : decode cX9_forget 14 = .ok (.iconst (-1), 1) := by decide +kernel
theorem dX9_forget_15 : decode cX9_forget 15 = .ok (.putfield 47, 3) := by decide +kernel
theorem dX9_forget_18 : decode cX9_forget 18 = .ok (.aload_n 0, 1) := by decide +kernel
theorem dX9_forget_19 : decode cX9_forget 19 = .ok (.iconst (-1), 1) := by decide +kernel
theorem dX9_forget_20 : decode cX9_forget 20 = .ok (.putfield 38, 3) := by decide +kernel
theorem dX9_forget_23 : decode cX9_forget 23 = .ok (.aload_n 0, 1) := by decide +kernel
theorem dX9_forget_24 : decode cX9_forget 24 = .ok (.iconst (-1), 1) := by decide +kernel
theorem dX9_forget_25 : decode cX9_forget 25 = .ok (.putfield 50, 3) := by decide +kernel
theorem dX9_forget_28 : decode cX9_forget 28 = .ok (.aload_n 0, 1) := by decide +kernel
theorem dX9_forget_29 : decode cX9_forget 29 = .ok (.iconst 0, 1) := by decide +kernel
theorem dX9_forget_30 : decode cX9_forget 30 = .ok (.putfield 53, 3) := by decide +kernel
theorem dX9_forget_33 : decode cX9_forget 33 = .ok (.aload_n 0, 1) := by decide +kernel
theorem dX9_forget_34 : decode cX9_forget 34 = .ok (.iconst 0, 1) := by decide +kernel
theorem dX9_forget_35 : decode cX9_forget 35 = .ok (.putfield 57, 3) := by decide +kernel
theorem dX9_forget_38 : decode cX9_forget 38 = .ok (.return_, 1) := by decide +kernel
theorem dX9_readPiece_0 : decode cX9_readPiece 0 = .ok (.aload_n 0, 1) := by decide +kernel
theorem dX9_readPiece_1 : decode cX9_readPiece 1 = .ok (.getfield 14, 3) := by decide +kernel
theorem dX9_readPiece_4 : decode cX9_readPiece 4 = .ok (.invokevirtual 27, 3) := by decide +kernel
theorem dX9_readPiece_7 : decode cX9_readPiece 7 = .ok (.aload_n 0, 1) := by decide +kernel
theorem dX9_readPiece_8 : decode cX9_readPiece 8 = .ok (.getfield 14, 3) := by decide +kernel
theorem dX9_readPiece_11 : decode cX9_readPiece 11 = .ok (.getfield 44, 3) := by decide +kernel
theorem dX9_readPiece_14 : decode cX9_readPiece 14 = .ok (.istore_n 1, 1) := by decide +kernel
theorem dX9_readPiece_15 : decode cX9_readPiece 15 = .ok (.aload_n 0, 1) := by decide +kernel
theorem dX9_readPiece_16 : decode cX9_readPiece 16 = .ok (.getfield 14, 3) := by decide +kernel
theorem dX9_readPiece_19 : decode cX9_readPiece 19 = .ok (.invokevirtual 60, 3) := by decide +kernel
theorem dX9_readPiece_22 : decode cX9_readPiece 22 = .ok (.iconst 0, 1) := by decide +kernel
theorem dX9_readPiece_23 : decode cX9_readPiece 23 = .ok (.istore_n 2, 1) := by decide +kernel
theorem dX9_readPiece_24 : decode cX9_readPiece 24 = .ok (.iload_n 2, 1) := by decide +kernel
theorem dX9_readPiece_25 : decode cX9_readPiece 25 = .ok (.getstatic 63, 3) := by decide +kernel
theorem dX9_readPiece_28 : decode cX9_readPiece 28 = .ok (.arraylength, 1) := by decide +kernel
theorem dX9_readPiece_29 : decode cX9_readPiece 29 = .ok (.if_icmp .ge 54, 3) := by decide +kernel
theorem dX9_readPiece_32 : decode cX9_readPiece 32 = .ok (.aload_n 0, 1) := by decide +kernel
theorem dX9_readPiece_33 : decode cX9_readPiece 33 = .ok (.getfield 14, 3) := by decide +kernel
theorem dX9_readPiece_36 : decode cX9_readPiece 36 = .ok (.getstatic 63, 3) := by decide +kernel
theorem dX9_readPiece_39 : decode cX9_readPiece 39 = .ok (.iload_n 2, 1) := by decide +kernel
theorem dX9_readPiece_40 : decode cX9_readPiece 40 = .ok (.aaload, 1) := by decide +kernel
theorem dX9_readPiece_41 : decode cX9_readPiece 41 = .ok (.getfield 67, 3) := by decide +kernel
theorem dX9_readPiece_44 : decode cX9_readPiece 44 = .ok (.iload_n 1, 1) := by decide +kernel
theorem dX9_readPiece_45 : decode cX9_readPiece 45 = .ok (.invokevirtual 73, 3) := by decide +kernel
theorem dX9_readPiece_48 : decode cX9_readPiece 48 = .ok (.ifCond .eq 29, 3) := by decide +kernel
theorem dX9_readPiece_51 : decode cX9_readPiece 51 = .ok (.aload_n 0, 1) := by decide +kernel
theorem dX9_readPiece_52 : decode cX9_readPiece 52 = .ok (.getstatic 63, 3) := by decide +kernel
theorem dX9_readPiece_55 : decode cX9_readPiece 55 = .ok (.iload_n 2, 1) := by decide +kernel
theorem dX9_readPiece_56 : decode cX9_readPiece 56 = .ok (.aaload, 1) := by decide +kernel
theorem dX9_readPiece_57 : decode cX9_readPiece 57 = .ok (.invokevirtual 77, 3) := by decide +kernel
theorem dX9_readPiece_60 : decode cX9_readPiece 60 = .ok (.ifCond .eq 15, 3) := by decide +kernel
theorem dX9_readPiece_63 : decode cX9_readPiece 63 = .ok (.aload_n 0, 1) := by decide +kernel
theorem dX9_readPiece_64 : decode cX9_readPiece 64 = .ok (.getstatic 63, 3) := by decide +kernel
theorem dX9_readPiece_67 : decode cX9_readPiece 67 = .ok (.iload_n 2, 1) := by decide +kernel
theorem dX9_readPiece_68 : decode cX9_readPiece 68 = .ok (.aaload, 1) := by decide +kernel
theorem dX9_readPiece_69 : decode cX9_readPiece 69 = .ok (.invokevirtual 81, 3) := by decide +kernel
theorem dX9_readPiece_72 : decode cX9_readPiece 72 = .ok (.goto 4, 3) := by decide +kernel
theorem dX9_readPiece_75 : decode cX9_readPiece 75 = .ok (.iload_n 1, 1) := by decide +kernel
theorem dX9_readPiece_76 : decode cX9_readPiece 76 = .ok (.ireturn, 1) := by decide +kernel
theorem dX9_readPiece_77 : decode cX9_readPiece 77 = .ok (.iinc 2 1, 3) := by decide +kernel
theorem dX9_readPiece_80 : decode cX9_readPiece 80 = .ok (.goto (-56), 3) := by decide +kernel
theorem dX9_readPiece_83 : decode cX9_readPiece 83 = .ok (.iload_n 1, 1) := by decide +kernel
theorem dX9_readPiece_84 : decode cX9_readPiece 84 = .ok (.ireturn, 1) := by decide +kernel
theorem dX9_readRest_0 : decode cX9_readRest 0 = .ok (.aload_n 1, 1) := by decide +kernel
theorem dX9_readRest_1 : decode cX9_readRest 1 = .ok (.getfield 85, 3) := by decide +kernel
theorem dX9_readRest_4 : decode cX9_readRest 4 = .ok (.ifCond .ne 11, 3) := by decide +kernel
theorem dX9_readRest_7 : decode cX9_readRest 7 = .ok (.aload_n 0, 1) := by decide +kernel
theorem dX9_readRest_8 : decode cX9_readRest 8 = .ok (.aload_n 1, 1) := by decide +kernel
theorem dX9_readRest_9 : decode cX9_readRest 9 = .ok (.iconst 0, 1) := by decide +kernel
theorem dX9_readRest_10 : decode cX9_readRest 10 = .ok (.invokevirtual 88, 3) := by decide +kernel
theorem dX9_readRest_13 : decode cX9_readRest 13 = .ok (.iconst (-1), 1) := by decide +kernel
theorem dX9_readRest_14 : decode cX9_readRest 14 = .ok (.ireturn, 1) := by decide +kernel
theorem dX9_readRest_15 : decode cX9_readRest 15 = .ok (.aload_n 0, 1) := by decide +kernel
theorem dX9_readRest_16 : decode cX9_readRest 16 = .ok (.getfield 14, 3) := by decide +kernel
theorem dX9_readRest_19 : decode cX9_readRest 19 = .ok (.invokevirtual 27, 3) := by decide +kernel
theorem dX9_readRest_22 : decode cX9_readRest 22 = .ok (.aload_n 0, 1) := by decide +kernel
theorem dX9_readRest_23 : decode cX9_readRest 23 = .ok (.getfield 14, 3) := by decide +kernel
theorem dX9_readRest_26 : decode cX9_readRest 26 = .ok (.getfield 44, 3) := by decide +kernel
theorem dX9_readRest_29 : decode cX9_readRest 29 = .ok (.istore_n 2, 1) := by decide +kernel
theorem dX9_readRest_30 : decode cX9_readRest 30 = .ok (.aload_n 0, 1) := by decide +kernel
theorem dX9_readRest_31 : decode cX9_readRest 31 = .ok (.getfield 14, 3) := by decide +kernel
theorem dX9_readRest_34 : decode cX9_readRest 34 = .ok (.invokevirtual 92, 3) := by decide +kernel
theorem dX9_readRest_37 : decode cX9_readRest 37 = .ok (.aload_n 0, 1) := by decide +kernel
theorem dX9_readRest_38 : decode cX9_readRest 38 = .ok (.getfield 14, 3) := by decide +kernel
theorem dX9_readRest_41 : decode cX9_readRest 41 = .ok (.getfield 44, 3) := by decide +kernel
theorem dX9_readRest_44 : decode cX9_readRest 44 = .ok (.iload_n 2, 1) := by decide +kernel
theorem dX9_readRest_45 : decode cX9_readRest 45 = .ok (.isub, 1) := by decide +kernel
theorem dX9_readRest_46 : decode cX9_readRest 46 = .ok (.istore_n 3, 1) := by decide +kernel
theorem dX9_readRest_47 : decode cX9_readRest 47 = .ok (.iload_n 3, 1) := by decide +kernel
theorem dX9_readRest_48 : decode cX9_readRest 48 = .ok (.iconst 1, 1) := by decide +kernel
theorem dX9_readRest_49 : decode cX9_readRest 49 = .ok (.if_icmp .lt 8, 3) := by decide +kernel
theorem dX9_readRest_52 : decode cX9_readRest 52 = .ok (.iload_n 3, 1) := by decide +kernel
theorem dX9_readRest_53 : decode cX9_readRest 53 = .ok (.iconst 2, 1) := by decide +kernel
theorem dX9_readRest_54 : decode cX9_readRest 54 = .ok (.if_icmp .le 5, 3) := by decide +kernel
theorem dX9_readRest_57 : decode cX9_readRest 57 = .ok (.iload_n 2, 1) := by decide +kernel
theorem dX9_readRest_58 : decode cX9_readRest 58 = .ok (.ireturn, 1) := by decide +kernel
theorem dX9_readRest_59 : decode cX9_readRest 59 = .ok (.aload_n 0, 1) := by decide +kernel
theorem dX9_readRest_60 : decode cX9_readRest 60 = .ok (.getfield 14, 3) := by decide +kernel
theorem dX9_readRest_63 : decode cX9_readRest 63 = .ok (.iload_n 2, 1) := by decide +kernel
theorem dX9_readRest_64 : decode cX9_readRest 64 = .ok (.invokevirtual 95, 3) := by decide +kernel
theorem dX9_readRest_67 : decode cX9_readRest 67 = .ok (.istore 4, 2) := by decide +kernel
theorem dX9_readRest_69 : decode cX9_readRest 69 = .ok (.iload 4, 2) := by decide +kernel
theorem dX9_readRest_71 : decode cX9_readRest 71 = .ok (.aload_n 1, 1) := by decide +kernel
theorem dX9_readRest_72 : decode cX9_readRest 72 = .ok (.getfield 99, 3) := by decide +kernel
theorem dX9_readRest_75 : decode cX9_readRest 75 = .ok (.if_icmp .lt 12, 3) := by decide +kernel
theorem dX9_readRest_78 : decode cX9_readRest 78 = .ok (.iload 4, 2) := by decide +kernel
theorem dX9_readRest_80 : decode cX9_readRest 80 = .ok (.aload_n 1, 1) := by decide +kernel
theorem dX9_readRest_81 : decode cX9_readRest 81 = .ok (.getfield 85, 3) := by decide +kernel
theorem dX9_readRest_84 : decode cX9_readRest 84 = .ok (.if_icmp .le 5, 3) := by decide +kernel
theorem dX9_readRest_87 : decode cX9_readRest 87 = .ok (.iload_n 2, 1) := by decide +kernel
theorem dX9_readRest_88 : decode cX9_readRest 88 = .ok (.ireturn, 1) := by decide +kernel
theorem dX9_readRest_89 : decode cX9_readRest 89 = .ok (.aload_n 0, 1) := by decide +kernel
theorem dX9_readRest_90 : decode cX9_readRest 90 = .ok (.aload_n 1, 1) := by decide +kernel
theorem dX9_readRest_91 : decode cX9_readRest 91 = .ok (.iload 4, 2) := by decide +kernel
theorem dX9_readRest_93 : decode cX9_readRest 93 = .ok (.invokevirtual 88, 3) := by decide +kernel
theorem dX9_readRest_96 : decode cX9_readRest 96 = .ok (.iconst (-1), 1) := by decide +kernel
theorem dX9_readRest_97 : decode cX9_readRest 97 = .ok (.ireturn, 1) := by decide +kernel
theorem dX9_mayCome_0 : decode cX9_mayCome 0 = .ok (.getstatic 102, 3) := by decide +kernel
theorem dX9_mayCome_3 : decode cX9_mayCome 3 = .ok (.aload_n 1, 1) := by decide +kernel
theorem dX9_mayCome_4 : decode cX9_mayCome 4 = .ok (.invokevirtual 108, 3) := by decide +kernel
theorem dX9_mayCome_7 : decode cX9_mayCome 7 = .ok (.iaload, 1) := by decide +kernel
theorem dX9_mayCome_8 : decode cX9_mayCome 8 = .ok (.tableswitch 87 1 4 #[32, 46, 60, 74], 32) := by decide +kernel
theorem dX9_mayCome_40 : decode cX9_mayCome 40 = .ok (.aload_n 0, 1) := by decide +kernel
theorem dX9_mayCome_41 : decode cX9_mayCome 41 = .ok (.getfield 34, 3) := by decide +kernel
theorem dX9_mayCome_44 : decode cX9_mayCome 44 = .ok (.iconst (-1), 1) := by decide +kernel
theorem dX9_mayCome_45 : decode cX9_mayCome 45 = .ok (.if_icmp .ne 7, 3) := by decide +kernel
theorem dX9_mayCome_48 : decode cX9_mayCome 48 = .ok (.iconst 1, 1) := by decide +kernel
theorem dX9_mayCome_49 : decode cX9_mayCome 49 = .ok (.goto 4, 3) := by decide +kernel
theorem dX9_mayCome_52 : decode cX9_mayCome 52 = .ok (.iconst 0, 1) := by decide +kernel
theorem dX9_mayCome_53 : decode cX9_mayCome 53 = .ok (.ireturn, 1) := by decide +kernel
theorem dX9_mayCome_54 : decode cX9_mayCome 54 = .ok (.aload_n 0, 1) := by decide +kernel
theorem dX9_mayCome_55 : decode cX9_mayCome 55 = .ok (.getfield 47, 3) := by decide +kernel
theorem dX9_mayCome_58 : decode cX9_mayCome 58 = .ok (.iconst (-1), 1) := by decide +kernel
theorem dX9_mayCome_59 : decode cX9_mayCome 59 = .ok (.if_icmp .ne 7, 3) := by decide +kernel
theorem dX9_mayCome_62 : decode cX9_mayCome 62 = .ok (.iconst 1, 1) := by decide +kernel
theorem dX9_mayCome_63 : decode cX9_mayCome 63 = .ok (.goto 4, 3) := by decide +kernel
theorem dX9_mayCome_66 : decode cX9_mayCome 66 = .ok (.iconst 0, 1) := by decide +kernel
theorem dX9_mayCome_67 : decode cX9_mayCome 67 = .ok (.ireturn, 1) := by decide +kernel
theorem dX9_mayCome_68 : decode cX9_mayCome 68 = .ok (.aload_n 0, 1) := by decide +kernel
theorem dX9_mayCome_69 : decode cX9_mayCome 69 = .ok (.getfield 38, 3) := by decide +kernel
theorem dX9_mayCome_72 : decode cX9_mayCome 72 = .ok (.iconst (-1), 1) := by decide +kernel
theorem dX9_mayCome_73 : decode cX9_mayCome 73 = .ok (.if_icmp .ne 7, 3) := by decide +kernel
theorem dX9_mayCome_76 : decode cX9_mayCome 76 = .ok (.iconst 1, 1) := by decide +kernel
theorem dX9_mayCome_77 : decode cX9_mayCome 77 = .ok (.goto 4, 3) := by decide +kernel
theorem dX9_mayCome_80 : decode cX9_mayCome 80 = .ok (.iconst 0, 1) := by decide +kernel
theorem dX9_mayCome_81 : decode cX9_mayCome 81 = .ok (.ireturn, 1) := by decide +kernel
theorem dX9_mayCome_82 : decode cX9_mayCome 82 = .ok (.aload_n 0, 1) := by decide +kernel
theorem dX9_mayCome_83 : decode cX9_mayCome 83 = .ok (.getfield 57, 3) := by decide +kernel
theorem dX9_mayCome_86 : decode cX9_mayCome 86 = .ok (.ifCond .ne 7, 3) := by decide +kernel
theorem dX9_mayCome_89 : decode cX9_mayCome 89 = .ok (.iconst 1, 1) := by decide +kernel
theorem dX9_mayCome_90 : decode cX9_mayCome 90 = .ok (.goto 4, 3) := by decide +kernel
theorem dX9_mayCome_93 : decode cX9_mayCome 93 = .ok (.iconst 0, 1) := by decide +kernel
theorem dX9_mayCome_94 : decode cX9_mayCome 94 = .ok (.ireturn, 1) := by decide +kernel
theorem dX9_mayCome_95 : decode cX9_mayCome 95 = .ok (.aload_n 0, 1) := by decide +kernel
theorem dX9_mayCome_96 : decode cX9_mayCome 96 = .ok (.getfield 53, 3) := by decide +kernel
theorem dX9_mayCome_99 : decode cX9_mayCome 99 = .ok (.ifCond .ne 15, 3) := by decide +kernel
theorem dX9_mayCome_102 : decode cX9_mayCome 102 = .ok (.aload_n 0, 1) := by decide +kernel
theorem dX9_mayCome_103 : decode cX9_mayCome 103 = .ok (.getfield 50, 3) := by decide +kernel
theorem dX9_mayCome_106 : decode cX9_mayCome 106 = .ok (.iconst (-1), 1) := by decide +kernel
theorem dX9_mayCome_107 : decode cX9_mayCome 107 = .ok (.if_icmp .ne 7, 3) := by decide +kernel
theorem dX9_mayCome_110 : decode cX9_mayCome 110 = .ok (.iconst 1, 1) := by decide +kernel
theorem dX9_mayCome_111 : decode cX9_mayCome 111 = .ok (.goto 4, 3) := by decide +kernel
theorem dX9_mayCome_114 : decode cX9_mayCome 114 = .ok (.iconst 0, 1) := by decide +kernel
theorem dX9_mayCome_115 : decode cX9_mayCome 115 = .ok (.ireturn, 1) := by decide +kernel
theorem dX9_take_0 : decode cX9_take 0 = .ok (.getstatic 102, 3) := by decide +kernel
theorem dX9_take_3 : decode cX9_take 3 = .ok (.aload_n 1, 1) := by decide +kernel
theorem dX9_take_4 : decode cX9_take 4 = .ok (.invokevirtual 108, 3) := by decide +kernel
theorem dX9_take_7 : decode cX9_take 7 = .ok (.iaload, 1) := by decide +kernel
theorem dX9_take_8 : decode cX9_take 8 = .ok (.tableswitch 80 1 6 #[40, 48, 56, 80, 64, 72], 40) := by decide +kernel
theorem dX9_take_48 : decode cX9_take 48 = .ok (.aload_n 0, 1) := by decide +kernel
theorem dX9_take_49 : decode cX9_take 49 = .ok (.iload_n 2, 1) := by decide +kernel
theorem dX9_take_50 : decode cX9_take 50 = .ok (.putfield 34, 3) := by decide +kernel
theorem dX9_take_53 : decode cX9_take 53 = .ok (.goto 40, 3) := by decide +kernel
theorem dX9_take_56 : decode cX9_take 56 = .ok (.aload_n 0, 1) := by decide +kernel
theorem dX9_take_57 : decode cX9_take 57 = .ok (.iload_n 2, 1) := by decide +kernel
theorem dX9_take_58 : decode cX9_take 58 = .ok (.putfield 47, 3) := by decide +kernel
theorem dX9_take_61 : decode cX9_take 61 = .ok (.goto 32, 3) := by decide +kernel
theorem dX9_take_64 : decode cX9_take 64 = .ok (.aload_n 0, 1) := by decide +kernel
theorem dX9_take_65 : decode cX9_take 65 = .ok (.iload_n 2, 1) := by decide +kernel
theorem dX9_take_66 : decode cX9_take 66 = .ok (.putfield 38, 3) := by decide +kernel
theorem dX9_take_69 : decode cX9_take 69 = .ok (.goto 24, 3) := by decide +kernel
theorem dX9_take_72 : decode cX9_take 72 = .ok (.aload_n 0, 1) := by decide +kernel
theorem dX9_take_73 : decode cX9_take 73 = .ok (.iconst 1, 1) := by decide +kernel
theorem dX9_take_74 : decode cX9_take 74 = .ok (.putfield 53, 3) := by decide +kernel
theorem dX9_take_77 : decode cX9_take 77 = .ok (.goto 16, 3) := by decide +kernel
theorem dX9_take_80 : decode cX9_take 80 = .ok (.aload_n 0, 1) := by decide +kernel
theorem dX9_take_81 : decode cX9_take 81 = .ok (.iload_n 2, 1) := by decide +kernel
theorem dX9_take_82 : decode cX9_take 82 = .ok (.putfield 50, 3) := by decide +kernel
theorem dX9_take_85 : decode cX9_take 85 = .ok (.goto 8, 3) := by decide +kernel
theorem dX9_take_88 : decode cX9_take 88 = .ok (.aload_n 0, 1) := by decide +kernel
theorem dX9_take_89 : decode cX9_take 89 = .ok (.iconst 1, 1) := by decide +kernel
theorem dX9_take_90 : decode cX9_take 90 = .ok (.putfield 57, 3) := by decide +kernel
theorem dX9_take_93 : decode cX9_take 93 = .ok (.return_, 1) := by decide +kernel
theorem dX10_init_0 : decode cX10_init 0 = .ok (.aload_n 0, 1) := by decide +kernel
theorem dX10_init_1 : decode cX10_init 1 = .ok (.invokespecial 3, 3) := by decide +kernel
theorem dX10_init_4 : decode cX10_init 4 = .ok (.aload_n 0, 1) := by decide +kernel
theorem dX10_init_5 : decode cX10_init 5 = .ok (.new 9, 3) := by decide +kernel
theorem dX10_init_8 : decode cX10_init 8 = .ok (.dup, 1) := by decide +kernel
theorem dX10_init_9 : decode cX10_init 9 = .ok (.invokespecial 11, 3) := by decide +kernel
theorem dX10_init_12 : decode cX10_init 12 = .ok (.putfield 12, 3) := by decide +kernel
theorem dX10_init_15 : decode cX10_init 15 = .ok (.aload_n 0, 1) := by decide +kernel
theorem dX10_init_16 : decode cX10_init 16 = .ok (.new 18, 3) := by decide +kernel
theorem dX10_init_19 : decode cX10_init 19 = .ok (.dup, 1) := by decide +kernel
theorem dX10_init_20 : decode cX10_init 20 = .ok (.aload_n 0, 1) := by decide +kernel
theorem dX10_init_21 : decode cX10_init 21 = .ok (.getfield 12, 3) := by decide +kernel
theorem dX10_init_24 : decode cX10_init 24 = .ok (.invokespecial 20, 3) := by decide +kernel
theorem dX10_init_27 : decode cX10_init 27 = .ok (.putfield 23, 3) := by decide +kernel
theorem dX10_init_30 : decode cX10_init 30 = .ok (.aload_n 0, 1) := by decide +kernel
theorem dX10_init_31 : decode cX10_init 31 = .ok (.new 27, 3) := by decide +kernel
theorem dX10_init_34 : decode cX10_init 34 = .ok (.dup, 1) := by decide +kernel
theorem dX10_init_35 : decode cX10_init 35 = .ok (.aload_n 0, 1) := by decide +kernel
theorem dX10_init_36 : decode cX10_init 36 = .ok (.getfield 12, 3) := by decide +kernel
theorem dX10_init_39 : decode cX10_init 39 = .ok (.invokespecial 29, 3) := by decide +kernel
theorem dX10_init_42 : decode cX10_init 42 = .ok (.putfield 30, 3) := by decide +kernel
theorem dX10_init_45 : decode cX10_init 45 = .ok (.aload_n 0, 1) := by decide +kernel
theorem dX10_init_46 : decode cX10_init 46 = .ok (.new 34, 3) := by decide +kernel
theorem dX10_init_49 : decode cX10_init 49 = .ok (.dup, 1) := by decide +kernel
theorem dX10_init_50 : decode cX10_init 50 = .ok (.invokespecial 36, 3) := by decide +kernel
theorem dX10_init_53 : decode cX10_init 53 = .ok (.putfield 37, 3) := by decide +kernel
theorem dX10_init_56 : decode cX10_init 56 = .ok (.aload_n 0, 1) := by decide +kernel
theorem dX10_init_57 : decode cX10_init 57 = .ok (.new 41, 3) := by decide +kernel
theorem dX10_init_60 : decode cX10_init 60 = .ok (.dup, 1) := by decide +kernel
theorem dX10_init_61 : decode cX10_init 61 = .ok (.aload_n 0, 1) := by decide +kernel
theorem dX10_init_62 : decode cX10_init 62 = .ok (.getfield 37, 3) := by decide +kernel
theorem dX10_init_65 : decode cX10_init 65 = .ok (.invokespecial 43, 3) := by decide +kernel
theorem dX10_init_68 : decode cX10_init 68 = .ok (.putfield 46, 3) := by decide +kernel
theorem dX10_init_71 : decode cX10_init 71 = .ok (.new 34, 3) := by decide +kernel
theorem dX10_init_74 : decode cX10_init 74 = .ok (.dup, 1) := by decide +kernel
theorem dX10_init_75 : decode cX10_init 75 = .ok (.invokespecial 36, 3) := by decide +kernel
theorem dX10_init_78 : decode cX10_init 78 = .ok (.astore_n 1, 1) := by decide +kernel
theorem dX10_init_79 : decode cX10_init 79 = .ok (.aload_n 1, 1) := by decide +kernel
theorem dX10_init_80 : decode cX10_init 80 = .ok (.bipush 22, 2) := by decide +kernel
theorem dX10_init_82 : decode cX10_init 82 = .ok (.iconst 4, 1) := by decide +kernel
theorem dX10_init_83 : decode cX10_init 83 = .ok (.bipush 24, 2) := by decide +kernel
theorem dX10_init_85 : decode cX10_init 85 = .ok (.bipush 24, 2) := by decide +kernel
theorem dX10_init_87 : decode cX10_init 87 = .ok (.iconst 1, 1) := by decide +kernel
theorem dX10_init_88 : decode cX10_init 88 = .ok (.invokevirtual 50, 3) := by decide +kernel
theorem dX10_init_91 : decode cX10_init 91 = .ok (.aload_n 0, 1) := by decide +kernel
theorem dX10_init_92 : decode cX10_init 92 = .ok (.new 41, 3) := by decide +kernel
theorem dX10_init_95 : decode cX10_init 95 = .ok (.dup, 1) := by decide +kernel
theorem dX10_init_96 : decode cX10_init 96 = .ok (.aload_n 1, 1) := by decide +kernel
theorem dX10_init_97 : decode cX10_init 97 = .ok (.invokespecial 43, 3) := by decide +kernel
theorem dX10_init_100 : decode cX10_init 100 = .ok (.putfield 54, 3) := by decide +kernel
theorem dX10_init_103 : decode cX10_init 103 = .ok (.aload_n 0, 1) := by decide +kernel
theorem dX10_init_104 : decode cX10_init 104 = .ok (.new 57, 3) := by decide +kernel
theorem dX10_init_107 : decode cX10_init 107 = .ok (.dup, 1) := by decide +kernel
theorem dX10_init_108 : decode cX10_init 108 = .ok (.invokespecial 59, 3) := by decide +kernel
theorem dX10_init_111 : decode cX10_init 111 = .ok (.putfield 60, 3) := by decide +kernel
theorem dX10_init_114 : decode cX10_init 114 = .ok (.aload_n 0, 1) := by decide +kernel
theorem dX10_init_115 : decode cX10_init 115 = .ok (.new 57, 3) := by decide +kernel
theorem dX10_init_118 : decode cX10_init 118 = .ok (.dup, 1) := by decide +kernel
theorem dX10_init_119 : decode cX10_init 119 = .ok (.invokespecial 59, 3) := by decide +kernel
theorem dX10_init_122 : decode cX10_init 122 = .ok (.putfield 64, 3) := by decide +kernel
theorem dX10_init_125 : decode cX10_init 125 = .ok (.aload_n 0, 1) := by decide +kernel
theorem dX10_init_126 : decode cX10_init 126 = .ok (.new 57, 3) := by decide +kernel
theorem dX10_init_129 : decode cX10_init 129 = .ok (.dup, 1) := by decide +kernel
theorem dX10_init_130 : decode cX10_init 130 = .ok (.invokespecial 59, 3) := by decide +kernel
theorem dX10_init_133 : decode cX10_init 133 = .ok (.putfield 67, 3) := by decide +kernel
theorem dX10_init_136 : decode cX10_init 136 = .ok (.aload_n 0, 1) := by decide +kernel
theorem dX10_init_137 : decode cX10_init 137 = .ok (.iconst 4, 1) := by decide +kernel
theorem dX10_init_138 : decode cX10_init 138 = .ok (.newarray .int, 2) := by decide +kernel
theorem dX10_init_140 : decode cX10_init 140 = .ok (.putfield 70, 3) := by decide +kernel
theorem dX10_init_143 : decode cX10_init 143 = .ok (.return_, 1) := by decide +kernel
theorem dX10_feed_0 : decode cX10_feed 0 = .ok (.iload_n 1, 1) := by decide +kernel
theorem dX10_feed_1 : decode cX10_feed 1 = .ok (.invokestatic 74, 3) := by decide +kernel
theorem dX10_feed_4 : decode cX10_feed 4 = .ok (.iload_n 2, 1) := by decide +kernel
theorem dX10_feed_5 : decode cX10_feed 5 = .ok (.invokestatic 74, 3) := by decide +kernel
theorem dX10_feed_8 : decode cX10_feed 8 = .ok (.iadd, 1) := by decide +kernel
theorem dX10_feed_9 : decode cX10_feed 9 = .ok (.iload_n 3, 1) := by decide +kernel
theorem dX10_feed_10 : decode cX10_feed 10 = .ok (.invokestatic 74, 3) := by decide +kernel
theorem dX10_feed_13 : decode cX10_feed 13 = .ok (.iadd, 1) := by decide +kernel
theorem dX10_feed_14 : decode cX10_feed 14 = .ok (.iload 4, 2) := by decide +kernel
theorem dX10_feed_16 : decode cX10_feed 16 = .ok (.invokestatic 74, 3) := by decide +kernel
theorem dX10_feed_19 : decode cX10_feed 19 = .ok (.iadd, 1) := by decide +kernel
theorem dX10_feed_20 : decode cX10_feed 20 = .ok (.iload 5, 2) := by decide +kernel
theorem dX10_feed_22 : decode cX10_feed 22 = .ok (.invokestatic 74, 3) := by decide +kernel
theorem dX10_feed_25 : decode cX10_feed 25 = .ok (.iadd, 1) := by decide +kernel
theorem dX10_feed_26 : decode cX10_feed 26 = .ok (.istore 6, 2) := by decide +kernel
theorem dX10_feed_28 : decode cX10_feed 28 = .ok (.aload_n 0, 1) := by decide +kernel
theorem dX10_feed_29 : decode cX10_feed 29 = .ok (.getfield 12, 3) := by decide +kernel
theorem dX10_feed_32 : decode cX10_feed 32 = .ok (.getfield 78, 3) := by decide +kernel
theorem dX10_feed_35 : decode cX10_feed 35 = .ok (.iload 6, 2) := by decide +kernel
theorem dX10_feed_37 : decode cX10_feed 37 = .ok (.iadd, 1) := by decide +kernel
theorem dX10_feed_38 : decode cX10_feed 38 = .ok (.sipush 400, 3) := by decide +kernel
theorem dX10_feed_41 : decode cX10_feed 41 = .ok (.if_icmp .le 5, 3) := by decide +kernel
theorem dX10_feed_44 : decode cX10_feed 44 = .ok (.iconst (-1), 1) := by decide +kernel
theorem dX10_feed_45 : decode cX10_feed 45 = .ok (.ireturn, 1) := by decide +kernel
theorem dX10_feed_46 : decode cX10_feed 46 = .ok (.aload_n 0, 1) := by decide +kernel
theorem dX10_feed_47 : decode cX10_feed 47 = .ok (.getfield 12, 3) := by decide +kernel
theorem dX10_feed_50 : decode cX10_feed 50 = .ok (.iload_n 1, 1) := by decide +kernel
theorem dX10_feed_51 : decode cX10_feed 51 = .ok (.invokevirtual 82, 3) := by decide +kernel
theorem dX10_feed_54 : decode cX10_feed 54 = .ok (.aload_n 0, 1) := by decide +kernel
theorem dX10_feed_55 : decode cX10_feed 55 = .ok (.getfield 12, 3) := by decide +kernel
theorem dX10_feed_58 : decode cX10_feed 58 = .ok (.iload_n 2, 1) := by decide +kernel
theorem dX10_feed_59 : decode cX10_feed 59 = .ok (.invokevirtual 82, 3) := by decide +kernel
theorem dX10_feed_62 : decode cX10_feed 62 = .ok (.aload_n 0, 1) := by decide +kernel
theorem dX10_feed_63 : decode cX10_feed 63 = .ok (.getfield 12, 3) := by decide +kernel
theorem dX10_feed_66 : decode cX10_feed 66 = .ok (.iload_n 3, 1) := by decide +kernel
theorem dX10_feed_67 : decode cX10_feed 67 = .ok (.invokevirtual 82, 3) := by decide +kernel
theorem dX10_feed_70 : decode cX10_feed 70 = .ok (.aload_n 0, 1) := by decide +kernel
theorem dX10_feed_71 : decode cX10_feed 71 = .ok (.getfield 12, 3) := by decide +kernel
theorem dX10_feed_74 : decode cX10_feed 74 = .ok (.iload 4, 2) := by decide +kernel
theorem dX10_feed_76 : decode cX10_feed 76 = .ok (.invokevirtual 82, 3) := by decide +kernel
theorem dX10_feed_79 : decode cX10_feed 79 = .ok (.aload_n 0, 1) := by decide +kernel
theorem dX10_feed_80 : decode cX10_feed 80 = .ok (.getfield 12, 3) := by decide +kernel
theorem dX10_feed_83 : decode cX10_feed 83 = .ok (.iload 5, 2) := by decide +kernel
theorem dX10_feed_85 : decode cX10_feed 85 = .ok (.invokevirtual 82, 3) := by decide +kernel
theorem dX10_feed_88 : decode cX10_feed 88 = .ok (.aload_n 0, 1) := by decide +kernel
theorem dX10_feed_89 : decode cX10_feed 89 = .ok (.getfield 12, 3) := by decide +kernel
theorem dX10_feed_92 : decode cX10_feed 92 = .ok (.getfield 78, 3) := by decide +kernel
theorem dX10_feed_95 : decode cX10_feed 95 = .ok (.ireturn, 1) := by decide +kernel
theorem dX10_end_0 : decode cX10_end 0 = .ok (.iload_n 1, 1) := by decide +kernel
theorem dX10_end_1 : decode cX10_end 1 = .ok (.ifCond .lt 14, 3) := by decide +kernel
theorem dX10_end_4 : decode cX10_end 4 = .ok (.iload_n 1, 1) := by decide +kernel
theorem dX10_end_5 : decode cX10_end 5 = .ok (.aload_n 0, 1) := by decide +kernel
theorem dX10_end_6 : decode cX10_end 6 = .ok (.getfield 12, 3) := by decide +kernel
theorem dX10_end_9 : decode cX10_end 9 = .ok (.getfield 78, 3) := by decide +kernel
theorem dX10_end_12 : decode cX10_end 12 = .ok (.if_icmp .le 5, 3) := by decide +kernel
theorem dX10_end_15 : decode cX10_end 15 = .ok (.iconst 0, 1) := by decide +kernel
theorem dX10_end_16 : decode cX10_end 16 = .ok (.ireturn, 1) := by decide +kernel
theorem dX10_end_17 : decode cX10_end 17 = .ok (.aload_n 0, 1) := by decide +kernel
theorem dX10_end_18 : decode cX10_end 18 = .ok (.getfield 12, 3) := by decide +kernel
theorem dX10_end_21 : decode cX10_end 21 = .ok (.iload_n 1, 1) := by decide +kernel
theorem dX10_end_22 : decode cX10_end 22 = .ok (.putfield 78, 3) := by decide +kernel
theorem dX10_end_25 : decode cX10_end 25 = .ok (.iconst 1, 1) := by decide +kernel
theorem dX10_end_26 : decode cX10_end 26 = .ok (.ireturn, 1) := by decide +kernel
theorem dX10_fault_0 : decode cX10_fault 0 = .ok (.iload_n 1, 1) := by decide +kernel
theorem dX10_fault_1 : decode cX10_fault 1 = .ok (.ifCond .ne 11, 3) := by decide +kernel
theorem dX10_fault_4 : decode cX10_fault 4 = .ok (.aload_n 0, 1) := by decide +kernel
theorem dX10_fault_5 : decode cX10_fault 5 = .ok (.getfield 23, 3) := by decide +kernel
theorem dX10_fault_8 : decode cX10_fault 8 = .ok (.invokevirtual 86, 3) := by decide +kernel
theorem dX10_fault_11 : decode cX10_fault 11 = .ok (.ireturn, 1) := by decide +kernel
theorem dX10_fault_12 : decode cX10_fault 12 = .ok (.iload_n 1, 1) := by decide +kernel
theorem dX10_fault_13 : decode cX10_fault 13 = .ok (.iconst 1, 1) := by decide +kernel
theorem dX10_fault_14 : decode cX10_fault 14 = .ok (.if_icmp .ne 13, 3) := by decide +kernel
theorem dX10_fault_17 : decode cX10_fault 17 = .ok (.aload_n 0, 1) := by decide +kernel
theorem dX10_fault_18 : decode cX10_fault 18 = .ok (.getfield 30, 3) := by decide +kernel
theorem dX10_fault_21 : decode cX10_fault 21 = .ok (.invokevirtual 90, 3) := by decide +kernel
theorem dX10_fault_24 : decode cX10_fault 24 = .ok (.goto 5, 3) := by decide +kernel
theorem dX10_fault_27 : decode cX10_fault 27 = .ok (.bipush (-2), 2) := by decide +kernel
theorem dX10_fault_29 : decode cX10_fault 29 = .ok (.ireturn, 1) := by decide +kernel
theorem dX10_unit_0 : decode cX10_unit 0 = .ok (.aload_n 0, 1) := by decide +kernel
theorem dX10_unit_1 : decode cX10_unit 1 = .ok (.getfield 23, 3) := by decide +kernel
theorem dX10_unit_4 : decode cX10_unit 4 = .ok (.invokevirtual 86, 3) := by decide +kernel
theorem dX10_unit_7 : decode cX10_unit 7 = .ok (.iconst (-1), 1) := by decide +kernel
theorem dX10_unit_8 : decode cX10_unit 8 = .ok (.if_icmp .eq 5, 3) := by decide +kernel
theorem dX10_unit_11 : decode cX10_unit 11 = .ok (.iconst (-1), 1) := by decide +kernel
theorem dX10_unit_12 : decode cX10_unit 12 = .ok (.ireturn, 1) := by decide +kernel
theorem dX10_unit_13 : decode cX10_unit 13 = .ok (.aload_n 0, 1) := by decide +kernel
theorem dX10_unit_14 : decode cX10_unit 14 = .ok (.getfield 37, 3) := by decide +kernel
theorem dX10_unit_17 : decode cX10_unit 17 = .ok (.aload_n 0, 1) := by decide +kernel
theorem dX10_unit_18 : decode cX10_unit 18 = .ok (.getfield 23, 3) := by decide +kernel
theorem dX10_unit_21 : decode cX10_unit 21 = .ok (.getfield 91, 3) := by decide +kernel
theorem dX10_unit_24 : decode cX10_unit 24 = .ok (.aload_n 0, 1) := by decide +kernel
theorem dX10_unit_25 : decode cX10_unit 25 = .ok (.getfield 23, 3) := by decide +kernel
theorem dX10_unit_28 : decode cX10_unit 28 = .ok (.invokevirtual 94, 3) := by decide +kernel
theorem dX10_unit_31 : decode cX10_unit 31 = .ok (.aload_n 0, 1) := by decide +kernel
theorem dX10_unit_32 : decode cX10_unit 32 = .ok (.getfield 23, 3) := by decide +kernel
theorem dX10_unit_35 : decode cX10_unit 35 = .ok (.getfield 97, 3) := by decide +kernel
theorem dX10_unit_38 : decode cX10_unit 38 = .ok (.aload_n 0, 1) := by decide +kernel
theorem dX10_unit_39 : decode cX10_unit 39 = .ok (.getfield 23, 3) := by decide +kernel
theorem dX10_unit_42 : decode cX10_unit 42 = .ok (.invokevirtual 100, 3) := by decide +kernel
theorem dX10_unit_45 : decode cX10_unit 45 = .ok (.aload_n 0, 1) := by decide +kernel
theorem dX10_unit_46 : decode cX10_unit 46 = .ok (.getfield 23, 3) := by decide +kernel
theorem dX10_unit_49 : decode cX10_unit 49 = .ok (.getfield 103, 3) := by decide +kernel
theorem dX10_unit_52 : decode cX10_unit 52 = .ok (.invokevirtual 50, 3) := by decide +kernel
theorem dX10_unit_55 : decode cX10_unit 55 = .ok (.aload_n 0, 1) := by decide +kernel
theorem dX10_unit_56 : decode cX10_unit 56 = .ok (.getfield 60, 3) := by decide +kernel
theorem dX10_unit_59 : decode cX10_unit 59 = .ok (.invokevirtual 107, 3) := by decide +kernel
theorem dX10_unit_62 : decode cX10_unit 62 = .ok (.aload_n 0, 1) := by decide +kernel
theorem dX10_unit_63 : decode cX10_unit 63 = .ok (.getfield 12, 3) := by decide +kernel
theorem dX10_unit_66 : decode cX10_unit 66 = .ok (.iconst 0, 1) := by decide +kernel
theorem dX10_unit_67 : decode cX10_unit 67 = .ok (.putfield 78, 3) := by decide +kernel
theorem dX10_unit_70 : decode cX10_unit 70 = .ok (.aload_n 0, 1) := by decide +kernel
theorem dX10_unit_71 : decode cX10_unit 71 = .ok (.iconst 1, 1) := by decide +kernel
theorem dX10_unit_72 : decode cX10_unit 72 = .ok (.putfield 110, 3) := by decide +kernel
theorem dX10_unit_75 : decode cX10_unit 75 = .ok (.aload_n 0, 1) := by decide +kernel
theorem dX10_unit_76 : decode cX10_unit 76 = .ok (.iconst 0, 1) := by decide +kernel
theorem dX10_unit_77 : decode cX10_unit 77 = .ok (.putfield 113, 3) := by decide +kernel
theorem dX10_unit_80 : decode cX10_unit 80 = .ok (.aload_n 0, 1) := by decide +kernel
theorem dX10_unit_81 : decode cX10_unit 81 = .ok (.getfield 37, 3) := by decide +kernel
theorem dX10_unit_84 : decode cX10_unit 84 = .ok (.getfield 116, 3) := by decide +kernel
theorem dX10_unit_87 : decode cX10_unit 87 = .ok (.ireturn, 1) := by decide +kernel
theorem dX10_rule_0 : decode cX10_rule 0 = .ok (.aload_n 0, 1) := by decide +kernel
theorem dX10_rule_1 : decode cX10_rule 1 = .ok (.getfield 110, 3) := by decide +kernel
theorem dX10_rule_4 : decode cX10_rule 4 = .ok (.ifCond .ne 5, 3) := by decide +kernel
theorem dX10_rule_7 : decode cX10_rule 7 = .ok (.iconst (-1), 1) := by decide +kernel
theorem dX10_rule_8 : decode cX10_rule 8 = .ok (.ireturn, 1) := by decide +kernel
theorem dX10_rule_9 : decode cX10_rule 9 = .ok (.iload_n 1, 1) := by decide +kernel
theorem dX10_rule_10 : decode cX10_rule 10 = .ok (.tableswitch 178 0 11 #[62, 70, 78, 86, 94, 110, 118, 126, 135, 144, 153, 169], 62) := by decide +kernel
theorem dX10_rule_72 : decode cX10_rule 72 = .ok (.aload_n 0, 1) := by decide +kernel
theorem dX10_rule_73 : decode cX10_rule 73 = .ok (.getfield 37, 3) := by decide +kernel
theorem dX10_rule_76 : decode cX10_rule 76 = .ok (.getfield 117, 3) := by decide +kernel
theorem dX10_rule_79 : decode cX10_rule 79 = .ok (.ireturn, 1) := by decide +kernel
theorem dX10_rule_80 : decode cX10_rule 80 = .ok (.aload_n 0, 1) := by decide +kernel
theorem dX10_rule_81 : decode cX10_rule 81 = .ok (.getfield 37, 3) := by decide +kernel
theorem dX10_rule_84 : decode cX10_rule 84 = .ok (.getfield 118, 3) := by decide +kernel
theorem dX10_rule_87 : decode cX10_rule 87 = .ok (.ireturn, 1) := by decide +kernel
theorem dX10_rule_88 : decode cX10_rule 88 = .ok (.aload_n 0, 1) := by decide +kernel
theorem dX10_rule_89 : decode cX10_rule 89 = .ok (.getfield 37, 3) := by decide +kernel
theorem dX10_rule_92 : decode cX10_rule 92 = .ok (.getfield 116, 3) := by decide +kernel
theorem dX10_rule_95 : decode cX10_rule 95 = .ok (.ireturn, 1) := by decide +kernel
theorem dX10_rule_96 : decode cX10_rule 96 = .ok (.aload_n 0, 1) := by decide +kernel
theorem dX10_rule_97 : decode cX10_rule 97 = .ok (.getfield 37, 3) := by decide +kernel
theorem dX10_rule_100 : decode cX10_rule 100 = .ok (.getfield 121, 3) := by decide +kernel
theorem dX10_rule_103 : decode cX10_rule 103 = .ok (.ireturn, 1) := by decide +kernel
theorem dX10_rule_104 : decode cX10_rule 104 = .ok (.aload_n 0, 1) := by decide +kernel
theorem dX10_rule_105 : decode cX10_rule 105 = .ok (.getfield 37, 3) := by decide +kernel
theorem dX10_rule_108 : decode cX10_rule 108 = .ok (.getfield 124, 3) := by decide +kernel
theorem dX10_rule_111 : decode cX10_rule 111 = .ok (.ifCond .eq 7, 3) := by decide +kernel
theorem dX10_rule_114 : decode cX10_rule 114 = .ok (.iconst 1, 1) := by decide +kernel
theorem dX10_rule_115 : decode cX10_rule 115 = .ok (.goto 4, 3) := by decide +kernel
theorem dX10_rule_118 : decode cX10_rule 118 = .ok (.iconst 0, 1) := by decide +kernel
theorem dX10_rule_119 : decode cX10_rule 119 = .ok (.ireturn, 1) := by decide +kernel
theorem dX10_rule_120 : decode cX10_rule 120 = .ok (.aload_n 0, 1) := by decide +kernel
theorem dX10_rule_121 : decode cX10_rule 121 = .ok (.getfield 60, 3) := by decide +kernel
theorem dX10_rule_124 : decode cX10_rule 124 = .ok (.getfield 125, 3) := by decide +kernel
theorem dX10_rule_127 : decode cX10_rule 127 = .ok (.ireturn, 1) := by decide +kernel
theorem dX10_rule_128 : decode cX10_rule 128 = .ok (.aload_n 0, 1) := by decide +kernel
theorem dX10_rule_129 : decode cX10_rule 129 = .ok (.getfield 60, 3) := by decide +kernel
theorem dX10_rule_132 : decode cX10_rule 132 = .ok (.getfield 128, 3) := by decide +kernel
theorem dX10_rule_135 : decode cX10_rule 135 = .ok (.ireturn, 1) := by decide +kernel
theorem dX10_rule_136 : decode cX10_rule 136 = .ok (.aload_n 0, 1) := by decide +kernel
theorem dX10_rule_137 : decode cX10_rule 137 = .ok (.getfield 60, 3) := by decide +kernel
theorem dX10_rule_140 : decode cX10_rule 140 = .ok (.iconst 0, 1) := by decide +kernel
theorem dX10_rule_141 : decode cX10_rule 141 = .ok (.invokevirtual 131, 3) := by decide +kernel
theorem dX10_rule_144 : decode cX10_rule 144 = .ok (.ireturn, 1) := by decide +kernel
theorem dX10_rule_145 : decode cX10_rule 145 = .ok (.aload_n 0, 1) := by decide +kernel
theorem dX10_rule_146 : decode cX10_rule 146 = .ok (.getfield 60, 3) := by decide +kernel
theorem dX10_rule_149 : decode cX10_rule 149 = .ok (.iconst 1, 1) := by decide +kernel
theorem dX10_rule_150 : decode cX10_rule 150 = .ok (.invokevirtual 131, 3) := by decide +kernel
theorem dX10_rule_153 : decode cX10_rule 153 = .ok (.ireturn, 1) := by decide +kernel
theorem dX10_rule_154 : decode cX10_rule 154 = .ok (.aload_n 0, 1) := by decide +kernel
theorem dX10_rule_155 : decode cX10_rule 155 = .ok (.getfield 60, 3) := by decide +kernel
theorem dX10_rule_158 : decode cX10_rule 158 = .ok (.iconst 2, 1) := by decide +kernel
theorem dX10_rule_159 : decode cX10_rule 159 = .ok (.invokevirtual 131, 3) := by decide +kernel
theorem dX10_rule_162 : decode cX10_rule 162 = .ok (.ireturn, 1) := by decide +kernel
theorem dX10_rule_163 : decode cX10_rule 163 = .ok (.aload_n 0, 1) := by decide +kernel
theorem dX10_rule_164 : decode cX10_rule 164 = .ok (.getfield 60, 3) := by decide +kernel
theorem dX10_rule_167 : decode cX10_rule 167 = .ok (.getfield 134, 3) := by decide +kernel
theorem dX10_rule_170 : decode cX10_rule 170 = .ok (.ifCond .eq 7, 3) := by decide +kernel
theorem dX10_rule_173 : decode cX10_rule 173 = .ok (.iconst 1, 1) := by decide +kernel
theorem dX10_rule_174 : decode cX10_rule 174 = .ok (.goto 4, 3) := by decide +kernel
theorem dX10_rule_177 : decode cX10_rule 177 = .ok (.iconst 0, 1) := by decide +kernel
theorem dX10_rule_178 : decode cX10_rule 178 = .ok (.ireturn, 1) := by decide +kernel
theorem dX10_rule_179 : decode cX10_rule 179 = .ok (.aload_n 0, 1) := by decide +kernel
theorem dX10_rule_180 : decode cX10_rule 180 = .ok (.getfield 60, 3) := by decide +kernel
theorem dX10_rule_183 : decode cX10_rule 183 = .ok (.iconst 3, 1) := by decide +kernel
theorem dX10_rule_184 : decode cX10_rule 184 = .ok (.invokevirtual 131, 3) := by decide +kernel
theorem dX10_rule_187 : decode cX10_rule 187 = .ok (.ireturn, 1) := by decide +kernel
theorem dX10_rule_188 : decode cX10_rule 188 = .ok (.iconst (-1), 1) := by decide +kernel
theorem dX10_rule_189 : decode cX10_rule 189 = .ok (.ireturn, 1) := by decide +kernel
theorem dX10_constant_0 : decode cX10_constant 0 = .ok (.aload_n 0, 1) := by decide +kernel
theorem dX10_constant_1 : decode cX10_constant 1 = .ok (.getfield 110, 3) := by decide +kernel
theorem dX10_constant_4 : decode cX10_constant 4 = .ok (.ifCond .ne 5, 3) := by decide +kernel
theorem dX10_constant_7 : decode cX10_constant 7 = .ok (.iconst (-1), 1) := by decide +kernel
theorem dX10_constant_8 : decode cX10_constant 8 = .ok (.ireturn, 1) := by decide +kernel
theorem dX10_constant_9 : decode cX10_constant 9 = .ok (.iload_n 1, 1) := by decide +kernel
theorem dX10_constant_10 : decode cX10_constant 10 = .ok (.tableswitch 53 0 2 #[26, 35, 44], 26) := by decide +kernel
theorem dX10_constant_36 : decode cX10_constant 36 = .ok (.aload_n 0, 1) := by decide +kernel
theorem dX10_constant_37 : decode cX10_constant 37 = .ok (.getfield 37, 3) := by decide +kernel
theorem dX10_constant_40 : decode cX10_constant 40 = .ok (.getfield 137, 3) := by decide +kernel
theorem dX10_constant_43 : decode cX10_constant 43 = .ok (.l2i, 1) := by decide +kernel
theorem dX10_constant_44 : decode cX10_constant 44 = .ok (.ireturn, 1) := by decide +kernel
theorem dX10_constant_45 : decode cX10_constant 45 = .ok (.aload_n 0, 1) := by decide +kernel
theorem dX10_constant_46 : decode cX10_constant 46 = .ok (.getfield 37, 3) := by decide +kernel
theorem dX10_constant_49 : decode cX10_constant 49 = .ok (.getfield 141, 3) := by decide +kernel
theorem dX10_constant_52 : decode cX10_constant 52 = .ok (.l2i, 1) := by decide +kernel
theorem dX10_constant_53 : decode cX10_constant 53 = .ok (.ireturn, 1) := by decide +kernel
theorem dX10_constant_54 : decode cX10_constant 54 = .ok (.aload_n 0, 1) := by decide +kernel
theorem dX10_constant_55 : decode cX10_constant 55 = .ok (.getfield 37, 3) := by decide +kernel
theorem dX10_constant_58 : decode cX10_constant 58 = .ok (.getfield 144, 3) := by decide +kernel
theorem dX10_constant_61 : decode cX10_constant 61 = .ok (.l2i, 1) := by decide +kernel
theorem dX10_constant_62 : decode cX10_constant 62 = .ok (.ireturn, 1) := by decide +kernel
theorem dX10_constant_63 : decode cX10_constant 63 = .ok (.iconst (-1), 1) := by decide +kernel
theorem dX10_constant_64 : decode cX10_constant 64 = .ok (.ireturn, 1) := by decide +kernel
theorem dX10_stage_0 : decode cX10_stage 0 = .ok (.aload_n 0, 1) := by decide +kernel
theorem dX10_stage_1 : decode cX10_stage 1 = .ok (.iload_n 1, 1) := by decide +kernel
theorem dX10_stage_2 : decode cX10_stage 2 = .ok (.invokevirtual 147, 3) := by decide +kernel
theorem dX10_stage_5 : decode cX10_stage 5 = .ok (.ifCond .eq 18, 3) := by decide +kernel
theorem dX10_stage_8 : decode cX10_stage 8 = .ok (.iload_n 2, 1) := by decide +kernel
theorem dX10_stage_9 : decode cX10_stage 9 = .ok (.ifCond .lt 14, 3) := by decide +kernel
theorem dX10_stage_12 : decode cX10_stage 12 = .ok (.iload_n 2, 1) := by decide +kernel
theorem dX10_stage_13 : decode cX10_stage 13 = .ok (.aload_n 0, 1) := by decide +kernel
theorem dX10_stage_14 : decode cX10_stage 14 = .ok (.getfield 37, 3) := by decide +kernel
theorem dX10_stage_17 : decode cX10_stage 17 = .ok (.getfield 116, 3) := by decide +kernel
theorem dX10_stage_20 : decode cX10_stage 20 = .ok (.if_icmp .lt 5, 3) := by decide +kernel
theorem dX10_stage_23 : decode cX10_stage 23 = .ok (.iconst (-1), 1) := by decide +kernel
theorem dX10_stage_24 : decode cX10_stage 24 = .ok (.ireturn, 1) := by decide +kernel
theorem dX10_stage_25 : decode cX10_stage 25 = .ok (.iload_n 1, 1) := by decide +kernel
theorem dX10_stage_26 : decode cX10_stage 26 = .ok (.bipush 24, 2) := by decide +kernel
theorem dX10_stage_28 : decode cX10_stage 28 = .ok (.imul, 1) := by decide +kernel
theorem dX10_stage_29 : decode cX10_stage 29 = .ok (.iload_n 2, 1) := by decide +kernel
theorem dX10_stage_30 : decode cX10_stage 30 = .ok (.iadd, 1) := by decide +kernel
theorem dX10_stage_31 : decode cX10_stage 31 = .ok (.istore 4, 2) := by decide +kernel
theorem dX10_stage_33 : decode cX10_stage 33 = .ok (.iload_n 3, 1) := by decide +kernel
theorem dX10_stage_34 : decode cX10_stage 34 = .ok (.tableswitch 67 0 2 #[26, 37, 49], 26) := by decide +kernel
theorem dX10_stage_60 : decode cX10_stage 60 = .ok (.aload_n 0, 1) := by decide +kernel
theorem dX10_stage_61 : decode cX10_stage 61 = .ok (.getfield 37, 3) := by decide +kernel
theorem dX10_stage_64 : decode cX10_stage 64 = .ok (.getfield 151, 3) := by decide +kernel
theorem dX10_stage_67 : decode cX10_stage 67 = .ok (.iload 4, 2) := by decide +kernel
theorem dX10_stage_69 : decode cX10_stage 69 = .ok (.iaload, 1) := by decide +kernel
theorem dX10_stage_70 : decode cX10_stage 70 = .ok (.ireturn, 1) := by decide +kernel
theorem dX10_stage_71 : decode cX10_stage 71 = .ok (.aload_n 0, 1) := by decide +kernel
theorem dX10_stage_72 : decode cX10_stage 72 = .ok (.getfield 37, 3) := by decide +kernel
theorem dX10_stage_75 : decode cX10_stage 75 = .ok (.getfield 154, 3) := by decide +kernel
theorem dX10_stage_78 : decode cX10_stage 78 = .ok (.iload 4, 2) := by decide +kernel
theorem dX10_stage_80 : decode cX10_stage 80 = .ok (.laload, 1) := by decide +kernel
theorem dX10_stage_81 : decode cX10_stage 81 = .ok (.l2i, 1) := by decide +kernel
theorem dX10_stage_82 : decode cX10_stage 82 = .ok (.ireturn, 1) := by decide +kernel
theorem dX10_stage_83 : decode cX10_stage 83 = .ok (.aload_n 0, 1) := by decide +kernel
theorem dX10_stage_84 : decode cX10_stage 84 = .ok (.getfield 37, 3) := by decide +kernel
theorem dX10_stage_87 : decode cX10_stage 87 = .ok (.iload_n 1, 1) := by decide +kernel
theorem dX10_stage_88 : decode cX10_stage 88 = .ok (.iload_n 2, 1) := by decide +kernel
theorem dX10_stage_89 : decode cX10_stage 89 = .ok (.invokevirtual 158, 3) := by decide +kernel
theorem dX10_stage_92 : decode cX10_stage 92 = .ok (.ifCond .eq 7, 3) := by decide +kernel
theorem dX10_stage_95 : decode cX10_stage 95 = .ok (.iconst 0, 1) := by decide +kernel
theorem dX10_stage_96 : decode cX10_stage 96 = .ok (.goto 4, 3) := by decide +kernel
theorem dX10_stage_99 : decode cX10_stage 99 = .ok (.iconst 1, 1) := by decide +kernel
theorem dX10_stage_100 : decode cX10_stage 100 = .ok (.ireturn, 1) := by decide +kernel
theorem dX10_stage_101 : decode cX10_stage 101 = .ok (.iconst (-1), 1) := by decide +kernel
theorem dX10_stage_102 : decode cX10_stage 102 = .ok (.ireturn, 1) := by decide +kernel
theorem dX10_mode_0 : decode cX10_mode 0 = .ok (.aload_n 0, 1) := by decide +kernel
theorem dX10_mode_1 : decode cX10_mode 1 = .ok (.iload_n 1, 1) := by decide +kernel
theorem dX10_mode_2 : decode cX10_mode 2 = .ok (.invokevirtual 147, 3) := by decide +kernel
theorem dX10_mode_5 : decode cX10_mode 5 = .ok (.ifCond .ne 5, 3) := by decide +kernel
theorem dX10_mode_8 : decode cX10_mode 8 = .ok (.iconst (-1), 1) := by decide +kernel
theorem dX10_mode_9 : decode cX10_mode 9 = .ok (.ireturn, 1) := by decide +kernel
theorem dX10_mode_10 : decode cX10_mode 10 = .ok (.iload_n 2, 1) := by decide +kernel
theorem dX10_mode_11 : decode cX10_mode 11 = .ok (.tableswitch 82 0 4 #[33, 44, 55, 64, 73], 33) := by decide +kernel
theorem dX10_mode_44 : decode cX10_mode 44 = .ok (.aload_n 0, 1) := by decide +kernel
theorem dX10_mode_45 : decode cX10_mode 45 = .ok (.getfield 37, 3) := by decide +kernel
theorem dX10_mode_48 : decode cX10_mode 48 = .ok (.getfield 162, 3) := by decide +kernel
theorem dX10_mode_51 : decode cX10_mode 51 = .ok (.iload_n 1, 1) := by decide +kernel
theorem dX10_mode_52 : decode cX10_mode 52 = .ok (.laload, 1) := by decide +kernel
theorem dX10_mode_53 : decode cX10_mode 53 = .ok (.l2i, 1) := by decide +kernel
theorem dX10_mode_54 : decode cX10_mode 54 = .ok (.ireturn, 1) := by decide +kernel
theorem dX10_mode_55 : decode cX10_mode 55 = .ok (.aload_n 0, 1) := by decide +kernel
theorem dX10_mode_56 : decode cX10_mode 56 = .ok (.getfield 37, 3) := by decide +kernel
theorem dX10_mode_59 : decode cX10_mode 59 = .ok (.getfield 165, 3) := by decide +kernel
theorem dX10_mode_62 : decode cX10_mode 62 = .ok (.iload_n 1, 1) := by decide +kernel
theorem dX10_mode_63 : decode cX10_mode 63 = .ok (.laload, 1) := by decide +kernel
theorem dX10_mode_64 : decode cX10_mode 64 = .ok (.l2i, 1) := by decide +kernel
theorem dX10_mode_65 : decode cX10_mode 65 = .ok (.ireturn, 1) := by decide +kernel
theorem dX10_mode_66 : decode cX10_mode 66 = .ok (.aload_n 0, 1) := by decide +kernel
theorem dX10_mode_67 : decode cX10_mode 67 = .ok (.getfield 37, 3) := by decide +kernel
theorem dX10_mode_70 : decode cX10_mode 70 = .ok (.iload_n 1, 1) := by decide +kernel
theorem dX10_mode_71 : decode cX10_mode 71 = .ok (.invokevirtual 168, 3) := by decide +kernel
theorem dX10_mode_74 : decode cX10_mode 74 = .ok (.ireturn, 1) := by decide +kernel
theorem dX10_mode_75 : decode cX10_mode 75 = .ok (.aload_n 0, 1) := by decide +kernel
theorem dX10_mode_76 : decode cX10_mode 76 = .ok (.getfield 37, 3) := by decide +kernel
theorem dX10_mode_79 : decode cX10_mode 79 = .ok (.iload_n 1, 1) := by decide +kernel
theorem dX10_mode_80 : decode cX10_mode 80 = .ok (.invokevirtual 171, 3) := by decide +kernel
theorem dX10_mode_83 : decode cX10_mode 83 = .ok (.ireturn, 1) := by decide +kernel
theorem dX10_mode_84 : decode cX10_mode 84 = .ok (.aload_n 0, 1) := by decide +kernel
theorem dX10_mode_85 : decode cX10_mode 85 = .ok (.getfield 37, 3) := by decide +kernel
theorem dX10_mode_88 : decode cX10_mode 88 = .ok (.iload_n 1, 1) := by decide +kernel
theorem dX10_mode_89 : decode cX10_mode 89 = .ok (.invokevirtual 174, 3) := by decide +kernel
theorem dX10_mode_92 : decode cX10_mode 92 = .ok (.ireturn, 1) := by decide +kernel
theorem dX10_mode_93 : decode cX10_mode 93 = .ok (.iconst (-1), 1) := by decide +kernel
theorem dX10_mode_94 : decode cX10_mode 94 = .ok (.ireturn, 1) := by decide +kernel
theorem dX10_digit_0 : decode cX10_digit 0 = .ok (.aload_n 0, 1) := by decide +kernel
theorem dX10_digit_1 : decode cX10_digit 1 = .ok (.iload_n 1, 1) := by decide +kernel
theorem dX10_digit_2 : decode cX10_digit 2 = .ok (.invokevirtual 147, 3) := by decide +kernel
theorem dX10_digit_5 : decode cX10_digit 5 = .ok (.ifCond .eq 13, 3) := by decide +kernel
theorem dX10_digit_8 : decode cX10_digit 8 = .ok (.iload_n 2, 1) := by decide +kernel
theorem dX10_digit_9 : decode cX10_digit 9 = .ok (.ifCond .lt 9, 3) := by decide +kernel
theorem dX10_digit_12 : decode cX10_digit 12 = .ok (.iload_n 2, 1) := by decide +kernel
theorem dX10_digit_13 : decode cX10_digit 13 = .ok (.bipush 32, 2) := by decide +kernel
theorem dX10_digit_15 : decode cX10_digit 15 = .ok (.if_icmp .lt 6, 3) := by decide +kernel
theorem dX10_digit_18 : decode cX10_digit 18 = .ok (.ldc 177, 2) := by decide +kernel
theorem dX10_digit_20 : decode cX10_digit 20 = .ok (.ireturn, 1) := by decide +kernel
theorem dX10_digit_21 : decode cX10_digit 21 = .ok (.aload_n 0, 1) := by decide +kernel
theorem dX10_digit_22 : decode cX10_digit 22 = .ok (.getfield 37, 3) := by decide +kernel
theorem dX10_digit_25 : decode cX10_digit 25 = .ok (.getfield 178, 3) := by decide +kernel
theorem dX10_digit_28 : decode cX10_digit 28 = .ok (.iload_n 1, 1) := by decide +kernel
theorem dX10_digit_29 : decode cX10_digit 29 = .ok (.bipush 32, 2) := by decide +kernel
theorem dX10_digit_31 : decode cX10_digit 31 = .ok (.imul, 1) := by decide +kernel
theorem dX10_digit_32 : decode cX10_digit 32 = .ok (.iload_n 2, 1) := by decide +kernel
theorem dX10_digit_33 : decode cX10_digit 33 = .ok (.iadd, 1) := by decide +kernel
theorem dX10_digit_34 : decode cX10_digit 34 = .ok (.iaload, 1) := by decide +kernel
theorem dX10_digit_35 : decode cX10_digit 35 = .ok (.ireturn, 1) := by decide +kernel
theorem dX10_takenOut_0 : decode cX10_takenOut 0 = .ok (.ldc 181, 2) := by decide +kernel
theorem dX10_takenOut_2 : decode cX10_takenOut 2 = .ok (.istore_n 3, 1) := by decide +kernel
theorem dX10_takenOut_3 : decode cX10_takenOut 3 = .ok (.aload_n 0, 1) := by decide +kernel
theorem dX10_takenOut_4 : decode cX10_takenOut 4 = .ok (.iload_n 1, 1) := by decide +kernel
theorem dX10_takenOut_5 : decode cX10_takenOut 5 = .ok (.invokevirtual 147, 3) := by decide +kernel
theorem dX10_takenOut_8 : decode cX10_takenOut 8 = .ok (.ifCond .eq 14, 3) := by decide +kernel
theorem dX10_takenOut_11 : decode cX10_takenOut 11 = .ok (.iload_n 2, 1) := by decide +kernel
theorem dX10_takenOut_12 : decode cX10_takenOut 12 = .ok (.iload_n 3, 1) := by decide +kernel
theorem dX10_takenOut_13 : decode cX10_takenOut 13 = .ok (.ineg, 1) := by decide +kernel
theorem dX10_takenOut_14 : decode cX10_takenOut 14 = .ok (.if_icmp .lt 8, 3) := by decide +kernel
theorem dX10_takenOut_17 : decode cX10_takenOut 17 = .ok (.iload_n 2, 1) := by decide +kernel
theorem dX10_takenOut_18 : decode cX10_takenOut 18 = .ok (.iload_n 3, 1) := by decide +kernel
theorem dX10_takenOut_19 : decode cX10_takenOut 19 = .ok (.if_icmp .le 6, 3) := by decide +kernel
theorem dX10_takenOut_22 : decode cX10_takenOut 22 = .ok (.ldc 177, 2) := by decide +kernel
theorem dX10_takenOut_24 : decode cX10_takenOut 24 = .ok (.ireturn, 1) := by decide +kernel
theorem dX10_takenOut_25 : decode cX10_takenOut 25 = .ok (.aload_n 0, 1) := by decide +kernel
theorem dX10_takenOut_26 : decode cX10_takenOut 26 = .ok (.getfield 37, 3) := by decide +kernel
theorem dX10_takenOut_29 : decode cX10_takenOut 29 = .ok (.iload_n 1, 1) := by decide +kernel
theorem dX10_takenOut_30 : decode cX10_takenOut 30 = .ok (.iload_n 2, 1) := by decide +kernel
theorem dX10_takenOut_31 : decode cX10_takenOut 31 = .ok (.i2l, 1) := by decide +kernel
theorem dX10_takenOut_32 : decode cX10_takenOut 32 = .ok (.invokevirtual 182, 3) := by decide +kernel
theorem dX10_takenOut_35 : decode cX10_takenOut 35 = .ok (.l2i, 1) := by decide +kernel
theorem dX10_takenOut_36 : decode cX10_takenOut 36 = .ok (.ireturn, 1) := by decide +kernel
theorem dX10_value_0 : decode cX10_value 0 = .ok (.aload_n 0, 1) := by decide +kernel
theorem dX10_value_1 : decode cX10_value 1 = .ok (.iload_n 1, 1) := by decide +kernel
theorem dX10_value_2 : decode cX10_value 2 = .ok (.invokevirtual 186, 3) := by decide +kernel
theorem dX10_value_5 : decode cX10_value 5 = .ok (.ifCond .eq 29, 3) := by decide +kernel
theorem dX10_value_8 : decode cX10_value 8 = .ok (.iload 5, 2) := by decide +kernel
theorem dX10_value_10 : decode cX10_value 10 = .ok (.invokestatic 189, 3) := by decide +kernel
theorem dX10_value_13 : decode cX10_value 13 = .ok (.ifCond .eq 21, 3) := by decide +kernel
theorem dX10_value_16 : decode cX10_value 16 = .ok (.aload_n 0, 1) := by decide +kernel
theorem dX10_value_17 : decode cX10_value 17 = .ok (.getfield 46, 3) := by decide +kernel
theorem dX10_value_20 : decode cX10_value 20 = .ok (.iload_n 1, 1) := by decide +kernel
theorem dX10_value_21 : decode cX10_value 21 = .ok (.iload_n 2, 1) := by decide +kernel
theorem dX10_value_22 : decode cX10_value 22 = .ok (.i2l, 1) := by decide +kernel
theorem dX10_value_23 : decode cX10_value 23 = .ok (.iload_n 3, 1) := by decide +kernel
theorem dX10_value_24 : decode cX10_value 24 = .ok (.i2l, 1) := by decide +kernel
theorem dX10_value_25 : decode cX10_value 25 = .ok (.iload 4, 2) := by decide +kernel
theorem dX10_value_27 : decode cX10_value 27 = .ok (.i2l, 1) := by decide +kernel
theorem dX10_value_28 : decode cX10_value 28 = .ok (.invokevirtual 192, 3) := by decide +kernel
theorem dX10_value_31 : decode cX10_value 31 = .ok (.ifCond .ne 6, 3) := by decide +kernel
theorem dX10_value_34 : decode cX10_value 34 = .ok (.ldc 177, 2) := by decide +kernel
theorem dX10_value_36 : decode cX10_value 36 = .ok (.ireturn, 1) := by decide +kernel
theorem dX10_value_37 : decode cX10_value 37 = .ok (.aload_n 0, 1) := by decide +kernel
theorem dX10_value_38 : decode cX10_value 38 = .ok (.getfield 46, 3) := by decide +kernel
theorem dX10_value_41 : decode cX10_value 41 = .ok (.iload 5, 2) := by decide +kernel
theorem dX10_value_43 : decode cX10_value 43 = .ok (.invokevirtual 196, 3) := by decide +kernel
theorem dX10_value_46 : decode cX10_value 46 = .ok (.l2i, 1) := by decide +kernel
theorem dX10_value_47 : decode cX10_value 47 = .ok (.ireturn, 1) := by decide +kernel
theorem dX10_off_0 : decode cX10_off 0 = .ok (.aload_n 0, 1) := by decide +kernel
theorem dX10_off_1 : decode cX10_off 1 = .ok (.iload_n 1, 1) := by decide +kernel
theorem dX10_off_2 : decode cX10_off 2 = .ok (.invokevirtual 200, 3) := by decide +kernel
theorem dX10_off_5 : decode cX10_off 5 = .ok (.ifCond .eq 22, 3) := by decide +kernel
theorem dX10_off_8 : decode cX10_off 8 = .ok (.aload_n 0, 1) := by decide +kernel
theorem dX10_off_9 : decode cX10_off 9 = .ok (.getfield 37, 3) := by decide +kernel
theorem dX10_off_12 : decode cX10_off 12 = .ok (.iload_n 1, 1) := by decide +kernel
theorem dX10_off_13 : decode cX10_off 13 = .ok (.aload_n 0, 1) := by decide +kernel
theorem dX10_off_14 : decode cX10_off 14 = .ok (.getfield 37, 3) := by decide +kernel
theorem dX10_off_17 : decode cX10_off 17 = .ok (.getfield 116, 3) := by decide +kernel
theorem dX10_off_20 : decode cX10_off 20 = .ok (.invokevirtual 203, 3) := by decide +kernel
theorem dX10_off_23 : decode cX10_off 23 = .ok (.l2i, 1) := by decide +kernel
theorem dX10_off_24 : decode cX10_off 24 = .ok (.goto 4, 3) := by decide +kernel
theorem dX10_off_27 : decode cX10_off 27 = .ok (.iconst (-1), 1) := by decide +kernel
theorem dX10_off_28 : decode cX10_off 28 = .ok (.ireturn, 1) := by decide +kernel
theorem dX10_job_0 : decode cX10_job 0 = .ok (.aload_n 0, 1) := by decide +kernel
theorem dX10_job_1 : decode cX10_job 1 = .ok (.iload_n 1, 1) := by decide +kernel
theorem dX10_job_2 : decode cX10_job 2 = .ok (.invokevirtual 186, 3) := by decide +kernel
theorem dX10_job_5 : decode cX10_job 5 = .ok (.ifCond .ne 9, 3) := by decide +kernel
theorem dX10_job_8 : decode cX10_job 8 = .ok (.aload_n 0, 1) := by decide +kernel
theorem dX10_job_9 : decode cX10_job 9 = .ok (.iconst 0, 1) := by decide +kernel
theorem dX10_job_10 : decode cX10_job 10 = .ok (.invokevirtual 207, 3) := by decide +kernel
theorem dX10_job_13 : decode cX10_job 13 = .ok (.ireturn, 1) := by decide +kernel
theorem dX10_job_14 : decode cX10_job 14 = .ok (.aload_n 0, 1) := by decide +kernel
theorem dX10_job_15 : decode cX10_job 15 = .ok (.getfield 46, 3) := by decide +kernel
theorem dX10_job_18 : decode cX10_job 18 = .ok (.iload_n 1, 1) := by decide +kernel
theorem dX10_job_19 : decode cX10_job 19 = .ok (.iload_n 2, 1) := by decide +kernel
theorem dX10_job_20 : decode cX10_job 20 = .ok (.i2l, 1) := by decide +kernel
theorem dX10_job_21 : decode cX10_job 21 = .ok (.iload_n 3, 1) := by decide +kernel
theorem dX10_job_22 : decode cX10_job 22 = .ok (.i2l, 1) := by decide +kernel
theorem dX10_job_23 : decode cX10_job 23 = .ok (.iload 4, 2) := by decide +kernel
theorem dX10_job_25 : decode cX10_job 25 = .ok (.i2l, 1) := by decide +kernel
theorem dX10_job_26 : decode cX10_job 26 = .ok (.invokevirtual 210, 3) := by decide +kernel
theorem dX10_job_29 : decode cX10_job 29 = .ok (.ifCond .ne 9, 3) := by decide +kernel
theorem dX10_job_32 : decode cX10_job 32 = .ok (.aload_n 0, 1) := by decide +kernel
theorem dX10_job_33 : decode cX10_job 33 = .ok (.iconst 1, 1) := by decide +kernel
theorem dX10_job_34 : decode cX10_job 34 = .ok (.invokevirtual 207, 3) := by decide +kernel
theorem dX10_job_37 : decode cX10_job 37 = .ok (.ireturn, 1) := by decide +kernel
theorem dX10_job_38 : decode cX10_job 38 = .ok (.aload_n 0, 1) := by decide +kernel
theorem dX10_job_39 : decode cX10_job 39 = .ok (.getfield 60, 3) := by decide +kernel
theorem dX10_job_42 : decode cX10_job 42 = .ok (.getfield 128, 3) := by decide +kernel
theorem dX10_job_45 : decode cX10_job 45 = .ok (.bipush 60, 2) := by decide +kernel
theorem dX10_job_47 : decode cX10_job 47 = .ok (.if_icmp .lt 9, 3) := by decide +kernel
theorem dX10_job_50 : decode cX10_job 50 = .ok (.aload_n 0, 1) := by decide +kernel
theorem dX10_job_51 : decode cX10_job 51 = .ok (.iconst 2, 1) := by decide +kernel
theorem dX10_job_52 : decode cX10_job 52 = .ok (.invokevirtual 207, 3) := by decide +kernel
theorem dX10_job_55 : decode cX10_job 55 = .ok (.ireturn, 1) := by decide +kernel
theorem dX10_job_56 : decode cX10_job 56 = .ok (.aload_n 0, 1) := by decide +kernel
theorem dX10_job_57 : decode cX10_job 57 = .ok (.getfield 60, 3) := by decide +kernel
theorem dX10_job_60 : decode cX10_job 60 = .ok (.iload_n 1, 1) := by decide +kernel
theorem dX10_job_61 : decode cX10_job 61 = .ok (.iload_n 2, 1) := by decide +kernel
theorem dX10_job_62 : decode cX10_job 62 = .ok (.iload_n 3, 1) := by decide +kernel
theorem dX10_job_63 : decode cX10_job 63 = .ok (.iload 4, 2) := by decide +kernel
theorem dX10_job_65 : decode cX10_job 65 = .ok (.invokevirtual 213, 3) := by decide +kernel
theorem dX10_job_68 : decode cX10_job 68 = .ok (.ireturn, 1) := by decide +kernel
theorem dX10_orders_0 : decode cX10_orders 0 = .ok (.aload_n 0, 1) := by decide +kernel
theorem dX10_orders_1 : decode cX10_orders 1 = .ok (.getfield 110, 3) := by decide +kernel
theorem dX10_orders_4 : decode cX10_orders 4 = .ok (.ifCond .ne 9, 3) := by decide +kernel
theorem dX10_orders_7 : decode cX10_orders 7 = .ok (.aload_n 0, 1) := by decide +kernel
theorem dX10_orders_8 : decode cX10_orders 8 = .ok (.iconst 0, 1) := by decide +kernel
theorem dX10_orders_9 : decode cX10_orders 9 = .ok (.invokevirtual 207, 3) := by decide +kernel
theorem dX10_orders_12 : decode cX10_orders 12 = .ok (.ireturn, 1) := by decide +kernel
theorem dX10_orders_13 : decode cX10_orders 13 = .ok (.aload_n 0, 1) := by decide +kernel
theorem dX10_orders_14 : decode cX10_orders 14 = .ok (.getfield 30, 3) := by decide +kernel
theorem dX10_orders_17 : decode cX10_orders 17 = .ok (.invokevirtual 90, 3) := by decide +kernel
theorem dX10_orders_20 : decode cX10_orders 20 = .ok (.iconst (-1), 1) := by decide +kernel
theorem dX10_orders_21 : decode cX10_orders 21 = .ok (.if_icmp .ne 10, 3) := by decide +kernel
theorem dX10_orders_24 : decode cX10_orders 24 = .ok (.aload_n 0, 1) := by decide +kernel
theorem dX10_orders_25 : decode cX10_orders 25 = .ok (.invokevirtual 217, 3) := by decide +kernel
theorem dX10_orders_28 : decode cX10_orders 28 = .ok (.ifCond .ne 9, 3) := by decide +kernel
theorem dX10_orders_31 : decode cX10_orders 31 = .ok (.aload_n 0, 1) := by decide +kernel
theorem dX10_orders_32 : decode cX10_orders 32 = .ok (.iconst 1, 1) := by decide +kernel
theorem dX10_orders_33 : decode cX10_orders 33 = .ok (.invokevirtual 207, 3) := by decide +kernel
theorem dX10_orders_36 : decode cX10_orders 36 = .ok (.ireturn, 1) := by decide +kernel
theorem dX10_orders_37 : decode cX10_orders 37 = .ok (.aload_n 0, 1) := by decide +kernel
theorem dX10_orders_38 : decode cX10_orders 38 = .ok (.getfield 60, 3) := by decide +kernel
theorem dX10_orders_41 : decode cX10_orders 41 = .ok (.getfield 128, 3) := by decide +kernel
theorem dX10_orders_44 : decode cX10_orders 44 = .ok (.aload_n 0, 1) := by decide +kernel
theorem dX10_orders_45 : decode cX10_orders 45 = .ok (.getfield 30, 3) := by decide +kernel
theorem dX10_orders_48 : decode cX10_orders 48 = .ok (.getfield 221, 3) := by decide +kernel
theorem dX10_orders_51 : decode cX10_orders 51 = .ok (.iadd, 1) := by decide +kernel
theorem dX10_orders_52 : decode cX10_orders 52 = .ok (.bipush 60, 2) := by decide +kernel
theorem dX10_orders_54 : decode cX10_orders 54 = .ok (.if_icmp .le 9, 3) := by decide +kernel
theorem dX10_orders_57 : decode cX10_orders 57 = .ok (.aload_n 0, 1) := by decide +kernel
theorem dX10_orders_58 : decode cX10_orders 58 = .ok (.iconst 2, 1) := by decide +kernel
theorem dX10_orders_59 : decode cX10_orders 59 = .ok (.invokevirtual 207, 3) := by decide +kernel
theorem dX10_orders_62 : decode cX10_orders 62 = .ok (.ireturn, 1) := by decide +kernel
theorem dX10_orders_63 : decode cX10_orders 63 = .ok (.aload_n 0, 1) := by decide +kernel
theorem dX10_orders_64 : decode cX10_orders 64 = .ok (.invokevirtual 224, 3) := by decide +kernel
theorem dX10_orders_67 : decode cX10_orders 67 = .ok (.aload_n 0, 1) := by decide +kernel
theorem dX10_orders_68 : decode cX10_orders 68 = .ok (.getfield 12, 3) := by decide +kernel
theorem dX10_orders_71 : decode cX10_orders 71 = .ok (.iconst 0, 1) := by decide +kernel
theorem dX10_orders_72 : decode cX10_orders 72 = .ok (.putfield 78, 3) := by decide +kernel
theorem dX10_orders_75 : decode cX10_orders 75 = .ok (.aload_n 0, 1) := by decide +kernel
theorem dX10_orders_76 : decode cX10_orders 76 = .ok (.getfield 30, 3) := by decide +kernel
theorem dX10_orders_79 : decode cX10_orders 79 = .ok (.getfield 221, 3) := by decide +kernel
theorem dX10_orders_82 : decode cX10_orders 82 = .ok (.ireturn, 1) := by decide +kernel
theorem dX10_drop_0 : decode cX10_drop 0 = .ok (.aload_n 0, 1) := by decide +kernel
theorem dX10_drop_1 : decode cX10_drop 1 = .ok (.iload_n 1, 1) := by decide +kernel
theorem dX10_drop_2 : decode cX10_drop 2 = .ok (.invokevirtual 227, 3) := by decide +kernel
theorem dX10_drop_5 : decode cX10_drop 5 = .ok (.ifCond .ne 9, 3) := by decide +kernel
theorem dX10_drop_8 : decode cX10_drop 8 = .ok (.aload_n 0, 1) := by decide +kernel
theorem dX10_drop_9 : decode cX10_drop 9 = .ok (.iconst 0, 1) := by decide +kernel
theorem dX10_drop_10 : decode cX10_drop 10 = .ok (.invokevirtual 230, 3) := by decide +kernel
theorem dX10_drop_13 : decode cX10_drop 13 = .ok (.ireturn, 1) := by decide +kernel
theorem dX10_drop_14 : decode cX10_drop 14 = .ok (.aload_n 0, 1) := by decide +kernel
theorem dX10_drop_15 : decode cX10_drop 15 = .ok (.getfield 60, 3) := by decide +kernel
theorem dX10_drop_18 : decode cX10_drop 18 = .ok (.getfield 233, 3) := by decide +kernel
theorem dX10_drop_21 : decode cX10_drop 21 = .ok (.iload_n 1, 1) := by decide +kernel
theorem dX10_drop_22 : decode cX10_drop 22 = .ok (.iaload, 1) := by decide +kernel
theorem dX10_drop_23 : decode cX10_drop 23 = .ok (.ifCond .ne 14, 3) := by decide +kernel
theorem dX10_drop_26 : decode cX10_drop 26 = .ok (.aload_n 0, 1) := by decide +kernel
theorem dX10_drop_27 : decode cX10_drop 27 = .ok (.getfield 60, 3) := by decide +kernel
theorem dX10_drop_30 : decode cX10_drop 30 = .ok (.iload_n 1, 1) := by decide +kernel
theorem dX10_drop_31 : decode cX10_drop 31 = .ok (.invokevirtual 236, 3) := by decide +kernel
theorem dX10_drop_34 : decode cX10_drop 34 = .ok (.ifCond .eq 9, 3) := by decide +kernel
theorem dX10_drop_37 : decode cX10_drop 37 = .ok (.aload_n 0, 1) := by decide +kernel
theorem dX10_drop_38 : decode cX10_drop 38 = .ok (.iconst 3, 1) := by decide +kernel
theorem dX10_drop_39 : decode cX10_drop 39 = .ok (.invokevirtual 230, 3) := by decide +kernel
theorem dX10_drop_42 : decode cX10_drop 42 = .ok (.ireturn, 1) := by decide +kernel
theorem dX10_drop_43 : decode cX10_drop 43 = .ok (.aload_n 0, 1) := by decide +kernel
theorem dX10_drop_44 : decode cX10_drop 44 = .ok (.getfield 60, 3) := by decide +kernel
theorem dX10_drop_47 : decode cX10_drop 47 = .ok (.getfield 233, 3) := by decide +kernel
theorem dX10_drop_50 : decode cX10_drop 50 = .ok (.iload_n 1, 1) := by decide +kernel
theorem dX10_drop_51 : decode cX10_drop 51 = .ok (.iconst 3, 1) := by decide +kernel
theorem dX10_drop_52 : decode cX10_drop 52 = .ok (.iastore, 1) := by decide +kernel
theorem dX10_drop_53 : decode cX10_drop 53 = .ok (.iconst 1, 1) := by decide +kernel
theorem dX10_drop_54 : decode cX10_drop 54 = .ok (.ireturn, 1) := by decide +kernel
theorem dX10_link_0 : decode cX10_link 0 = .ok (.aload_n 0, 1) := by decide +kernel
theorem dX10_link_1 : decode cX10_link 1 = .ok (.iload_n 1, 1) := by decide +kernel
theorem dX10_link_2 : decode cX10_link 2 = .ok (.invokevirtual 227, 3) := by decide +kernel
theorem dX10_link_5 : decode cX10_link 5 = .ok (.ifCond .eq 11, 3) := by decide +kernel
theorem dX10_link_8 : decode cX10_link 8 = .ok (.aload_n 0, 1) := by decide +kernel
theorem dX10_link_9 : decode cX10_link 9 = .ok (.iload_n 3, 1) := by decide +kernel
theorem dX10_link_10 : decode cX10_link 10 = .ok (.invokevirtual 227, 3) := by decide +kernel
theorem dX10_link_13 : decode cX10_link 13 = .ok (.ifCond .ne 9, 3) := by decide +kernel
theorem dX10_link_16 : decode cX10_link 16 = .ok (.aload_n 0, 1) := by decide +kernel
theorem dX10_link_17 : decode cX10_link 17 = .ok (.iconst 0, 1) := by decide +kernel
theorem dX10_link_18 : decode cX10_link 18 = .ok (.invokevirtual 230, 3) := by decide +kernel
theorem dX10_link_21 : decode cX10_link 21 = .ok (.ireturn, 1) := by decide +kernel
theorem dX10_link_22 : decode cX10_link 22 = .ok (.iload_n 2, 1) := by decide +kernel
theorem dX10_link_23 : decode cX10_link 23 = .ok (.invokestatic 239, 3) := by decide +kernel
theorem dX10_link_26 : decode cX10_link 26 = .ok (.ifCond .eq 16, 3) := by decide +kernel
theorem dX10_link_29 : decode cX10_link 29 = .ok (.iload 4, 2) := by decide +kernel
theorem dX10_link_31 : decode cX10_link 31 = .ok (.invokestatic 189, 3) := by decide +kernel
theorem dX10_link_34 : decode cX10_link 34 = .ok (.ifCond .eq 8, 3) := by decide +kernel
theorem dX10_link_37 : decode cX10_link 37 = .ok (.iload_n 3, 1) := by decide +kernel
theorem dX10_link_38 : decode cX10_link 38 = .ok (.iload_n 1, 1) := by decide +kernel
theorem dX10_link_39 : decode cX10_link 39 = .ok (.if_icmp .lt 9, 3) := by decide +kernel
theorem dX10_link_42 : decode cX10_link 42 = .ok (.aload_n 0, 1) := by decide +kernel
theorem dX10_link_43 : decode cX10_link 43 = .ok (.iconst 1, 1) := by decide +kernel
theorem dX10_link_44 : decode cX10_link 44 = .ok (.invokevirtual 230, 3) := by decide +kernel
theorem dX10_link_47 : decode cX10_link 47 = .ok (.ireturn, 1) := by decide +kernel
theorem dX10_link_48 : decode cX10_link 48 = .ok (.aload_n 0, 1) := by decide +kernel
theorem dX10_link_49 : decode cX10_link 49 = .ok (.getfield 60, 3) := by decide +kernel
theorem dX10_link_52 : decode cX10_link 52 = .ok (.getfield 233, 3) := by decide +kernel
theorem dX10_link_55 : decode cX10_link 55 = .ok (.iload_n 1, 1) := by decide +kernel
theorem dX10_link_56 : decode cX10_link 56 = .ok (.iaload, 1) := by decide +kernel
theorem dX10_link_57 : decode cX10_link 57 = .ok (.ifCond .eq 9, 3) := by decide +kernel
theorem dX10_link_60 : decode cX10_link 60 = .ok (.aload_n 0, 1) := by decide +kernel
theorem dX10_link_61 : decode cX10_link 61 = .ok (.iconst 3, 1) := by decide +kernel
theorem dX10_link_62 : decode cX10_link 62 = .ok (.invokevirtual 230, 3) := by decide +kernel
theorem dX10_link_65 : decode cX10_link 65 = .ok (.ireturn, 1) := by decide +kernel
theorem dX10_link_66 : decode cX10_link 66 = .ok (.aload_n 0, 1) := by decide +kernel
theorem dX10_link_67 : decode cX10_link 67 = .ok (.getfield 60, 3) := by decide +kernel
theorem dX10_link_70 : decode cX10_link 70 = .ok (.iload_n 1, 1) := by decide +kernel
theorem dX10_link_71 : decode cX10_link 71 = .ok (.iload_n 2, 1) := by decide +kernel
theorem dX10_link_72 : decode cX10_link 72 = .ok (.iconst 2, 1) := by decide +kernel
theorem dX10_link_73 : decode cX10_link 73 = .ok (.iload_n 3, 1) := by decide +kernel
theorem dX10_link_74 : decode cX10_link 74 = .ok (.imul, 1) := by decide +kernel
theorem dX10_link_75 : decode cX10_link 75 = .ok (.iload 4, 2) := by decide +kernel
theorem dX10_link_77 : decode cX10_link 77 = .ok (.iadd, 1) := by decide +kernel
theorem dX10_link_78 : decode cX10_link 78 = .ok (.invokevirtual 242, 3) := by decide +kernel
theorem dX10_link_81 : decode cX10_link 81 = .ok (.iconst 1, 1) := by decide +kernel
theorem dX10_link_82 : decode cX10_link 82 = .ok (.ireturn, 1) := by decide +kernel
theorem dX10_linked_0 : decode cX10_linked 0 = .ok (.aload_n 0, 1) := by decide +kernel
theorem dX10_linked_1 : decode cX10_linked 1 = .ok (.iload_n 1, 1) := by decide +kernel
theorem dX10_linked_2 : decode cX10_linked 2 = .ok (.invokevirtual 227, 3) := by decide +kernel
theorem dX10_linked_5 : decode cX10_linked 5 = .ok (.ifCond .eq 26, 3) := by decide +kernel
theorem dX10_linked_8 : decode cX10_linked 8 = .ok (.iload_n 2, 1) := by decide +kernel
theorem dX10_linked_9 : decode cX10_linked 9 = .ok (.invokestatic 239, 3) := by decide +kernel
theorem dX10_linked_12 : decode cX10_linked 12 = .ok (.ifCond .eq 19, 3) := by decide +kernel
theorem dX10_linked_15 : decode cX10_linked 15 = .ok (.aload_n 0, 1) := by decide +kernel
theorem dX10_linked_16 : decode cX10_linked 16 = .ok (.getfield 60, 3) := by decide +kernel
theorem dX10_linked_19 : decode cX10_linked 19 = .ok (.getfield 246, 3) := by decide +kernel
theorem dX10_linked_22 : decode cX10_linked 22 = .ok (.iload_n 1, 1) := by decide +kernel
theorem dX10_linked_23 : decode cX10_linked 23 = .ok (.iconst 3, 1) := by decide +kernel
theorem dX10_linked_24 : decode cX10_linked 24 = .ok (.imul, 1) := by decide +kernel
theorem dX10_linked_25 : decode cX10_linked 25 = .ok (.iload_n 2, 1) := by decide +kernel
theorem dX10_linked_26 : decode cX10_linked 26 = .ok (.iadd, 1) := by decide +kernel
theorem dX10_linked_27 : decode cX10_linked 27 = .ok (.iaload, 1) := by decide +kernel
theorem dX10_linked_28 : decode cX10_linked 28 = .ok (.goto 4, 3) := by decide +kernel
theorem dX10_linked_31 : decode cX10_linked 31 = .ok (.iconst (-1), 1) := by decide +kernel
theorem dX10_linked_32 : decode cX10_linked 32 = .ok (.ireturn, 1) := by decide +kernel
theorem dX10_clock_0 : decode cX10_clock 0 = .ok (.aload_n 0, 1) := by decide +kernel
theorem dX10_clock_1 : decode cX10_clock 1 = .ok (.getfield 110, 3) := by decide +kernel
theorem dX10_clock_4 : decode cX10_clock 4 = .ok (.ifCond .ne 9, 3) := by decide +kernel
theorem dX10_clock_7 : decode cX10_clock 7 = .ok (.aload_n 0, 1) := by decide +kernel
theorem dX10_clock_8 : decode cX10_clock 8 = .ok (.iconst 0, 1) := by decide +kernel
theorem dX10_clock_9 : decode cX10_clock 9 = .ok (.invokevirtual 207, 3) := by decide +kernel
theorem dX10_clock_12 : decode cX10_clock 12 = .ok (.ireturn, 1) := by decide +kernel
theorem dX10_clock_13 : decode cX10_clock 13 = .ok (.iload_n 1, 1) := by decide +kernel
theorem dX10_clock_14 : decode cX10_clock 14 = .ok (.iconst 1, 1) := by decide +kernel
theorem dX10_clock_15 : decode cX10_clock 15 = .ok (.if_icmp .lt 9, 3) := by decide +kernel
theorem dX10_clock_18 : decode cX10_clock 18 = .ok (.iload_n 1, 1) := by decide +kernel
theorem dX10_clock_19 : decode cX10_clock 19 = .ok (.bipush 100, 2) := by decide +kernel
theorem dX10_clock_21 : decode cX10_clock 21 = .ok (.if_icmp .le 9, 3) := by decide +kernel
theorem dX10_clock_24 : decode cX10_clock 24 = .ok (.aload_n 0, 1) := by decide +kernel
theorem dX10_clock_25 : decode cX10_clock 25 = .ok (.iconst 1, 1) := by decide +kernel
theorem dX10_clock_26 : decode cX10_clock 26 = .ok (.invokevirtual 207, 3) := by decide +kernel
theorem dX10_clock_29 : decode cX10_clock 29 = .ok (.ireturn, 1) := by decide +kernel
theorem dX10_clock_30 : decode cX10_clock 30 = .ok (.iconst 0, 1) := by decide +kernel
theorem dX10_clock_31 : decode cX10_clock 31 = .ok (.istore_n 2, 1) := by decide +kernel
theorem dX10_clock_32 : decode cX10_clock 32 = .ok (.iconst 0, 1) := by decide +kernel
theorem dX10_clock_33 : decode cX10_clock 33 = .ok (.istore_n 3, 1) := by decide +kernel
theorem dX10_clock_34 : decode cX10_clock 34 = .ok (.iload_n 3, 1) := by decide +kernel
theorem dX10_clock_35 : decode cX10_clock 35 = .ok (.iload_n 1, 1) := by decide +kernel
theorem dX10_clock_36 : decode cX10_clock 36 = .ok (.if_icmp .ge 23, 3) := by decide +kernel
theorem dX10_clock_39 : decode cX10_clock 39 = .ok (.iload_n 2, 1) := by decide +kernel
theorem dX10_clock_40 : decode cX10_clock 40 = .ok (.aload_n 0, 1) := by decide +kernel
theorem dX10_clock_41 : decode cX10_clock 41 = .ok (.getfield 60, 3) := by decide +kernel
theorem dX10_clock_44 : decode cX10_clock 44 = .ok (.aload_n 0, 1) := by decide +kernel
theorem dX10_clock_45 : decode cX10_clock 45 = .ok (.getfield 46, 3) := by decide +kernel
theorem dX10_clock_48 : decode cX10_clock 48 = .ok (.invokevirtual 249, 3) := by decide +kernel
theorem dX10_clock_51 : decode cX10_clock 51 = .ok (.iadd, 1) := by decide +kernel
theorem dX10_clock_52 : decode cX10_clock 52 = .ok (.istore_n 2, 1) := by decide +kernel
theorem dX10_clock_53 : decode cX10_clock 53 = .ok (.iinc 3 1, 3) := by decide +kernel
theorem dX10_clock_56 : decode cX10_clock 56 = .ok (.goto (-22), 3) := by decide +kernel
theorem dX10_clock_59 : decode cX10_clock 59 = .ok (.iload_n 2, 1) := by decide +kernel
theorem dX10_clock_60 : decode cX10_clock 60 = .ok (.ireturn, 1) := by decide +kernel
theorem dX10_hold_0 : decode cX10_hold 0 = .ok (.aload_n 0, 1) := by decide +kernel
theorem dX10_hold_1 : decode cX10_hold 1 = .ok (.getfield 110, 3) := by decide +kernel
theorem dX10_hold_4 : decode cX10_hold 4 = .ok (.ifCond .ne 9, 3) := by decide +kernel
theorem dX10_hold_7 : decode cX10_hold 7 = .ok (.aload_n 0, 1) := by decide +kernel
theorem dX10_hold_8 : decode cX10_hold 8 = .ok (.iconst 0, 1) := by decide +kernel
theorem dX10_hold_9 : decode cX10_hold 9 = .ok (.invokevirtual 230, 3) := by decide +kernel
theorem dX10_hold_12 : decode cX10_hold 12 = .ok (.ireturn, 1) := by decide +kernel
theorem dX10_hold_13 : decode cX10_hold 13 = .ok (.aload_n 0, 1) := by decide +kernel
theorem dX10_hold_14 : decode cX10_hold 14 = .ok (.getfield 60, 3) := by decide +kernel
theorem dX10_hold_17 : decode cX10_hold 17 = .ok (.getfield 134, 3) := by decide +kernel
theorem dX10_hold_20 : decode cX10_hold 20 = .ok (.iload_n 1, 1) := by decide +kernel
theorem dX10_hold_21 : decode cX10_hold 21 = .ok (.if_icmp .ne 9, 3) := by decide +kernel
theorem dX10_hold_24 : decode cX10_hold 24 = .ok (.aload_n 0, 1) := by decide +kernel
theorem dX10_hold_25 : decode cX10_hold 25 = .ok (.iconst 3, 1) := by decide +kernel
theorem dX10_hold_26 : decode cX10_hold 26 = .ok (.invokevirtual 230, 3) := by decide +kernel
theorem dX10_hold_29 : decode cX10_hold 29 = .ok (.ireturn, 1) := by decide +kernel
theorem dX10_hold_30 : decode cX10_hold 30 = .ok (.aload_n 0, 1) := by decide +kernel
theorem dX10_hold_31 : decode cX10_hold 31 = .ok (.getfield 60, 3) := by decide +kernel
theorem dX10_hold_34 : decode cX10_hold 34 = .ok (.iload_n 1, 1) := by decide +kernel
theorem dX10_hold_35 : decode cX10_hold 35 = .ok (.putfield 134, 3) := by decide +kernel
theorem dX10_hold_38 : decode cX10_hold 38 = .ok (.iconst 1, 1) := by decide +kernel
theorem dX10_hold_39 : decode cX10_hold 39 = .ok (.ireturn, 1) := by decide +kernel
theorem dX10_told_0 : decode cX10_told 0 = .ok (.aload_n 0, 1) := by decide +kernel
theorem dX10_told_1 : decode cX10_told 1 = .ok (.iload_n 1, 1) := by decide +kernel
theorem dX10_told_2 : decode cX10_told 2 = .ok (.invokevirtual 227, 3) := by decide +kernel
theorem dX10_told_5 : decode cX10_told 5 = .ok (.ifCond .eq 13, 3) := by decide +kernel
theorem dX10_told_8 : decode cX10_told 8 = .ok (.iload_n 2, 1) := by decide +kernel
theorem dX10_told_9 : decode cX10_told 9 = .ok (.ifCond .lt 9, 3) := by decide +kernel
theorem dX10_told_12 : decode cX10_told 12 = .ok (.iload_n 2, 1) := by decide +kernel
theorem dX10_told_13 : decode cX10_told 13 = .ok (.bipush 9, 2) := by decide +kernel
theorem dX10_told_15 : decode cX10_told 15 = .ok (.if_icmp .le 13, 3) := by decide +kernel
theorem dX10_told_18 : decode cX10_told 18 = .ok (.new 253, 3) := by decide +kernel
theorem dX10_told_21 : decode cX10_told 21 = .ok (.dup, 1) := by decide +kernel
theorem dX10_told_22 : decode cX10_told 22 = .ok (.ldc 255, 2) := by decide +kernel
theorem dX10_told_24 : decode cX10_told 24 = .ok (.invokespecial 257, 3) := by decide +kernel
theorem dX10_told_27 : decode cX10_told 27 = .ok (.athrow, 1) := by decide +kernel
theorem dX10_told_28 : decode cX10_told 28 = .ok (.iload_n 2, 1) := by decide +kernel
theorem dX10_told_29 : decode cX10_told 29 = .ok (.tableswitch 131 0 9 #[55, 131, 131, 131, 65, 75, 85, 95, 105, 114], 55) := by decide +kernel
theorem dX10_told_84 : decode cX10_told 84 = .ok (.aload_n 0, 1) := by decide +kernel
theorem dX10_told_85 : decode cX10_told 85 = .ok (.getfield 60, 3) := by decide +kernel
theorem dX10_told_88 : decode cX10_told 88 = .ok (.getfield 260, 3) := by decide +kernel
theorem dX10_told_91 : decode cX10_told 91 = .ok (.iload_n 1, 1) := by decide +kernel
theorem dX10_told_92 : decode cX10_told 92 = .ok (.iaload, 1) := by decide +kernel
theorem dX10_told_93 : decode cX10_told 93 = .ok (.ireturn, 1) := by decide +kernel
theorem dX10_told_94 : decode cX10_told 94 = .ok (.aload_n 0, 1) := by decide +kernel
theorem dX10_told_95 : decode cX10_told 95 = .ok (.getfield 60, 3) := by decide +kernel
theorem dX10_told_98 : decode cX10_told 98 = .ok (.getfield 233, 3) := by decide +kernel
theorem dX10_told_101 : decode cX10_told 101 = .ok (.iload_n 1, 1) := by decide +kernel
theorem dX10_told_102 : decode cX10_told 102 = .ok (.iaload, 1) := by decide +kernel
theorem dX10_told_103 : decode cX10_told 103 = .ok (.ireturn, 1) := by decide +kernel
theorem dX10_told_104 : decode cX10_told 104 = .ok (.aload_n 0, 1) := by decide +kernel
theorem dX10_told_105 : decode cX10_told 105 = .ok (.getfield 60, 3) := by decide +kernel
theorem dX10_told_108 : decode cX10_told 108 = .ok (.getfield 263, 3) := by decide +kernel
theorem dX10_told_111 : decode cX10_told 111 = .ok (.iload_n 1, 1) := by decide +kernel
theorem dX10_told_112 : decode cX10_told 112 = .ok (.iaload, 1) := by decide +kernel
theorem dX10_told_113 : decode cX10_told 113 = .ok (.ireturn, 1) := by decide +kernel
theorem dX10_told_114 : decode cX10_told 114 = .ok (.aload_n 0, 1) := by decide +kernel
theorem dX10_told_115 : decode cX10_told 115 = .ok (.getfield 60, 3) := by decide +kernel
theorem dX10_told_118 : decode cX10_told 118 = .ok (.getfield 266, 3) := by decide +kernel
theorem dX10_told_121 : decode cX10_told 121 = .ok (.iload_n 1, 1) := by decide +kernel
theorem dX10_told_122 : decode cX10_told 122 = .ok (.iaload, 1) := by decide +kernel
theorem dX10_told_123 : decode cX10_told 123 = .ok (.ireturn, 1) := by decide +kernel
theorem dX10_told_124 : decode cX10_told 124 = .ok (.aload_n 0, 1) := by decide +kernel
theorem dX10_told_125 : decode cX10_told 125 = .ok (.getfield 60, 3) := by decide +kernel
theorem dX10_told_128 : decode cX10_told 128 = .ok (.getfield 269, 3) := by decide +kernel
theorem dX10_told_131 : decode cX10_told 131 = .ok (.iload_n 1, 1) := by decide +kernel
theorem dX10_told_132 : decode cX10_told 132 = .ok (.iaload, 1) := by decide +kernel
theorem dX10_told_133 : decode cX10_told 133 = .ok (.ireturn, 1) := by decide +kernel
theorem dX10_told_134 : decode cX10_told 134 = .ok (.aload_n 0, 1) := by decide +kernel
theorem dX10_told_135 : decode cX10_told 135 = .ok (.iload_n 1, 1) := by decide +kernel
theorem dX10_told_136 : decode cX10_told 136 = .ok (.invokevirtual 272, 3) := by decide +kernel
theorem dX10_told_139 : decode cX10_told 139 = .ok (.getfield 276, 3) := by decide +kernel
theorem dX10_told_142 : decode cX10_told 142 = .ok (.ireturn, 1) := by decide +kernel
theorem dX10_told_143 : decode cX10_told 143 = .ok (.aload_n 0, 1) := by decide +kernel
