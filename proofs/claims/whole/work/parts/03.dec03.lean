theorem dX11_laysGain_203 : decode cX11_laysGain 203 = .ok (.iconst 0, 1) := by decide +kernel
theorem dX11_laysGain_204 : decode cX11_laysGain 204 = .ok (.goto 19, 3) := by decide +kernel
theorem dX11_laysGain_207 : decode cX11_laysGain 207 = .ok (.lload 10, 2) := by decide +kernel
theorem dX11_laysGain_209 : decode cX11_laysGain 209 = .ok (.ldc2_w 144, 3) := by decide +kernel
theorem dX11_laysGain_212 : decode cX11_laysGain 212 = .ok (.lrem, 1) := by decide +kernel
theorem dX11_laysGain_213 : decode cX11_laysGain 213 = .ok (.lconst 1, 1) := by decide +kernel
theorem dX11_laysGain_214 : decode cX11_laysGain 214 = .ok (.lcmp, 1) := by decide +kernel
theorem dX11_laysGain_215 : decode cX11_laysGain 215 = .ok (.ifCond .ne 7, 3) := by decide +kernel
theorem dX11_laysGain_218 : decode cX11_laysGain 218 = .ok (.iconst 1, 1) := by decide +kernel
theorem dX11_laysGain_219 : decode cX11_laysGain 219 = .ok (.goto 4, 3) := by decide +kernel
theorem dX11_laysGain_222 : decode cX11_laysGain 222 = .ok (.iconst (-1), 1) := by decide +kernel
theorem dX11_laysGain_223 : decode cX11_laysGain 223 = .ok (.istore 13, 2) := by decide +kernel
theorem dX11_laysGain_225 : decode cX11_laysGain 225 = .ok (.aload_n 0, 1) := by decide +kernel
theorem dX11_laysGain_226 : decode cX11_laysGain 226 = .ok (.getfield 189, 3) := by decide +kernel
theorem dX11_laysGain_229 : decode cX11_laysGain 229 = .ok (.bipush 32, 2) := by decide +kernel
theorem dX11_laysGain_231 : decode cX11_laysGain 231 = .ok (.iload 9, 2) := by decide +kernel
theorem dX11_laysGain_233 : decode cX11_laysGain 233 = .ok (.imul, 1) := by decide +kernel
theorem dX11_laysGain_234 : decode cX11_laysGain 234 = .ok (.iload 12, 2) := by decide +kernel
theorem dX11_laysGain_236 : decode cX11_laysGain 236 = .ok (.iadd, 1) := by decide +kernel
theorem dX11_laysGain_237 : decode cX11_laysGain 237 = .ok (.iload 13, 2) := by decide +kernel
theorem dX11_laysGain_239 : decode cX11_laysGain 239 = .ok (.iastore, 1) := by decide +kernel
theorem dX11_laysGain_240 : decode cX11_laysGain 240 = .ok (.lload 10, 2) := by decide +kernel
theorem dX11_laysGain_242 : decode cX11_laysGain 242 = .ok (.iload 13, 2) := by decide +kernel
theorem dX11_laysGain_244 : decode cX11_laysGain 244 = .ok (.i2l, 1) := by decide +kernel
theorem dX11_laysGain_245 : decode cX11_laysGain 245 = .ok (.lsub, 1) := by decide +kernel
theorem dX11_laysGain_246 : decode cX11_laysGain 246 = .ok (.ldc2_w 178, 3) := by decide +kernel
theorem dX11_laysGain_249 : decode cX11_laysGain 249 = .ok (.ldiv, 1) := by decide +kernel
theorem dX11_laysGain_250 : decode cX11_laysGain 250 = .ok (.lstore 10, 2) := by decide +kernel
theorem dX11_laysGain_252 : decode cX11_laysGain 252 = .ok (.iinc 12 1, 3) := by decide +kernel
theorem dX11_laysGain_255 : decode cX11_laysGain 255 = .ok (.goto (-70), 3) := by decide +kernel
theorem dX11_laysGain_258 : decode cX11_laysGain 258 = .ok (.return_, 1) := by decide +kernel
theorem dX11_lays_0 : decode cX11_lays 0 = .ok (.aload_n 0, 1) := by decide +kernel
theorem dX11_lays_1 : decode cX11_lays 1 = .ok (.getfield 192, 3) := by decide +kernel
theorem dX11_lays_4 : decode cX11_lays 4 = .ok (.iload_n 1, 1) := by decide +kernel
theorem dX11_lays_5 : decode cX11_lays 5 = .ok (.iload_n 2, 1) := by decide +kernel
theorem dX11_lays_6 : decode cX11_lays 6 = .ok (.iastore, 1) := by decide +kernel
theorem dX11_lays_7 : decode cX11_lays 7 = .ok (.aload_n 0, 1) := by decide +kernel
theorem dX11_lays_8 : decode cX11_lays 8 = .ok (.getfield 194, 3) := by decide +kernel
theorem dX11_lays_11 : decode cX11_lays 11 = .ok (.iload_n 1, 1) := by decide +kernel
theorem dX11_lays_12 : decode cX11_lays 12 = .ok (.iload_n 3, 1) := by decide +kernel
theorem dX11_lays_13 : decode cX11_lays 13 = .ok (.iastore, 1) := by decide +kernel
theorem dX11_lays_14 : decode cX11_lays 14 = .ok (.aload_n 0, 1) := by decide +kernel
theorem dX11_lays_15 : decode cX11_lays 15 = .ok (.getfield 173, 3) := by decide +kernel
theorem dX11_lays_18 : decode cX11_lays 18 = .ok (.iload_n 1, 1) := by decide +kernel
theorem dX11_lays_19 : decode cX11_lays 19 = .ok (.iload_n 2, 1) := by decide +kernel
theorem dX11_lays_20 : decode cX11_lays 20 = .ok (.iload_n 3, 1) := by decide +kernel
theorem dX11_lays_21 : decode cX11_lays 21 = .ok (.iadd, 1) := by decide +kernel
theorem dX11_lays_22 : decode cX11_lays 22 = .ok (.iastore, 1) := by decide +kernel
theorem dX11_lays_23 : decode cX11_lays 23 = .ok (.aload_n 0, 1) := by decide +kernel
theorem dX11_lays_24 : decode cX11_lays 24 = .ok (.getfield 171, 3) := by decide +kernel
theorem dX11_lays_27 : decode cX11_lays 27 = .ok (.iload_n 1, 1) := by decide +kernel
theorem dX11_lays_28 : decode cX11_lays 28 = .ok (.iload 4, 2) := by decide +kernel
theorem dX11_lays_30 : decode cX11_lays 30 = .ok (.iastore, 1) := by decide +kernel
theorem dX11_lays_31 : decode cX11_lays 31 = .ok (.aload_n 0, 1) := by decide +kernel
theorem dX11_lays_32 : decode cX11_lays 32 = .ok (.getfield 196, 3) := by decide +kernel
theorem dX11_lays_35 : decode cX11_lays 35 = .ok (.iload_n 1, 1) := by decide +kernel
theorem dX11_lays_36 : decode cX11_lays 36 = .ok (.iload 5, 2) := by decide +kernel
theorem dX11_lays_38 : decode cX11_lays 38 = .ok (.bastore, 1) := by decide +kernel
theorem dX11_lays_39 : decode cX11_lays 39 = .ok (.aload_n 0, 1) := by decide +kernel
theorem dX11_lays_40 : decode cX11_lays 40 = .ok (.getfield 199, 3) := by decide +kernel
theorem dX11_lays_43 : decode cX11_lays 43 = .ok (.iload_n 1, 1) := by decide +kernel
theorem dX11_lays_44 : decode cX11_lays 44 = .ok (.ldc2_w 178, 3) := by decide +kernel
theorem dX11_lays_47 : decode cX11_lays 47 = .ok (.invokestatic 161, 3) := by decide +kernel
theorem dX11_lays_50 : decode cX11_lays 50 = .ok (.aload_n 0, 1) := by decide +kernel
theorem dX11_lays_51 : decode cX11_lays 51 = .ok (.getfield 173, 3) := by decide +kernel
theorem dX11_lays_54 : decode cX11_lays 54 = .ok (.iload_n 1, 1) := by decide +kernel
theorem dX11_lays_55 : decode cX11_lays 55 = .ok (.iaload, 1) := by decide +kernel
theorem dX11_lays_56 : decode cX11_lays 56 = .ok (.invokestatic 165, 3) := by decide +kernel
theorem dX11_lays_59 : decode cX11_lays 59 = .ok (.lmul, 1) := by decide +kernel
theorem dX11_lays_60 : decode cX11_lays 60 = .ok (.lastore, 1) := by decide +kernel
theorem dX11_lays_61 : decode cX11_lays 61 = .ok (.aload_n 0, 1) := by decide +kernel
theorem dX11_lays_62 : decode cX11_lays 62 = .ok (.getfield 203, 3) := by decide +kernel
theorem dX11_lays_65 : decode cX11_lays 65 = .ok (.iload_n 1, 1) := by decide +kernel
theorem dX11_lays_66 : decode cX11_lays 66 = .ok (.ldc2_w 178, 3) := by decide +kernel
theorem dX11_lays_69 : decode cX11_lays 69 = .ok (.ldc2_w 206, 3) := by decide +kernel
theorem dX11_lays_72 : decode cX11_lays 72 = .ok (.iconst 1, 1) := by decide +kernel
theorem dX11_lays_73 : decode cX11_lays 73 = .ok (.invokestatic 148, 3) := by decide +kernel
theorem dX11_lays_76 : decode cX11_lays 76 = .ok (.lmul, 1) := by decide +kernel
theorem dX11_lays_77 : decode cX11_lays 77 = .ok (.aload_n 0, 1) := by decide +kernel
theorem dX11_lays_78 : decode cX11_lays 78 = .ok (.getfield 173, 3) := by decide +kernel
theorem dX11_lays_81 : decode cX11_lays 81 = .ok (.iload_n 1, 1) := by decide +kernel
theorem dX11_lays_82 : decode cX11_lays 82 = .ok (.iaload, 1) := by decide +kernel
theorem dX11_lays_83 : decode cX11_lays 83 = .ok (.invokestatic 165, 3) := by decide +kernel
theorem dX11_lays_86 : decode cX11_lays 86 = .ok (.lastore, 1) := by decide +kernel
theorem dX11_lays_87 : decode cX11_lays 87 = .ok (.iconst 0, 1) := by decide +kernel
theorem dX11_lays_88 : decode cX11_lays 88 = .ok (.istore 6, 2) := by decide +kernel
theorem dX11_lays_90 : decode cX11_lays 90 = .ok (.iload 6, 2) := by decide +kernel
theorem dX11_lays_92 : decode cX11_lays 92 = .ok (.iconst 3, 1) := by decide +kernel
theorem dX11_lays_93 : decode cX11_lays 93 = .ok (.if_icmp .ge 74, 3) := by decide +kernel
theorem dX11_lays_96 : decode cX11_lays 96 = .ok (.iconst 0, 1) := by decide +kernel
theorem dX11_lays_97 : decode cX11_lays 97 = .ok (.istore 7, 2) := by decide +kernel
theorem dX11_lays_99 : decode cX11_lays 99 = .ok (.iload 7, 2) := by decide +kernel
theorem dX11_lays_101 : decode cX11_lays 101 = .ok (.bipush 24, 2) := by decide +kernel
theorem dX11_lays_103 : decode cX11_lays 103 = .ok (.if_icmp .ge 51, 3) := by decide +kernel
theorem dX11_lays_106 : decode cX11_lays 106 = .ok (.aload_n 0, 1) := by decide +kernel
theorem dX11_lays_107 : decode cX11_lays 107 = .ok (.getfield 208, 3) := by decide +kernel
theorem dX11_lays_110 : decode cX11_lays 110 = .ok (.bipush 24, 2) := by decide +kernel
theorem dX11_lays_112 : decode cX11_lays 112 = .ok (.aload_n 0, 1) := by decide +kernel
theorem dX11_lays_113 : decode cX11_lays 113 = .ok (.iload_n 1, 1) := by decide +kernel
theorem dX11_lays_114 : decode cX11_lays 114 = .ok (.iload 6, 2) := by decide +kernel
theorem dX11_lays_116 : decode cX11_lays 116 = .ok (.invokevirtual 180, 3) := by decide +kernel
theorem dX11_lays_119 : decode cX11_lays 119 = .ok (.imul, 1) := by decide +kernel
theorem dX11_lays_120 : decode cX11_lays 120 = .ok (.iload 7, 2) := by decide +kernel
theorem dX11_lays_122 : decode cX11_lays 122 = .ok (.iadd, 1) := by decide +kernel
theorem dX11_lays_123 : decode cX11_lays 123 = .ok (.iload 6, 2) := by decide +kernel
theorem dX11_lays_125 : decode cX11_lays 125 = .ok (.aload_n 0, 1) := by decide +kernel
theorem dX11_lays_126 : decode cX11_lays 126 = .ok (.getfield 154, 3) := by decide +kernel
theorem dX11_lays_129 : decode cX11_lays 129 = .ok (.bipush 24, 2) := by decide +kernel
theorem dX11_lays_131 : decode cX11_lays 131 = .ok (.iload 6, 2) := by decide +kernel
theorem dX11_lays_133 : decode cX11_lays 133 = .ok (.imul, 1) := by decide +kernel
theorem dX11_lays_134 : decode cX11_lays 134 = .ok (.iload 7, 2) := by decide +kernel
theorem dX11_lays_136 : decode cX11_lays 136 = .ok (.iadd, 1) := by decide +kernel
theorem dX11_lays_137 : decode cX11_lays 137 = .ok (.iaload, 1) := by decide +kernel
theorem dX11_lays_138 : decode cX11_lays 138 = .ok (.aload_n 0, 1) := by decide +kernel
theorem dX11_lays_139 : decode cX11_lays 139 = .ok (.getfield 173, 3) := by decide +kernel
theorem dX11_lays_142 : decode cX11_lays 142 = .ok (.iload_n 1, 1) := by decide +kernel
theorem dX11_lays_143 : decode cX11_lays 143 = .ok (.iaload, 1) := by decide +kernel
theorem dX11_lays_144 : decode cX11_lays 144 = .ok (.invokestatic 211, 3) := by decide +kernel
theorem dX11_lays_147 : decode cX11_lays 147 = .ok (.lastore, 1) := by decide +kernel
theorem dX11_lays_148 : decode cX11_lays 148 = .ok (.iinc 7 1, 3) := by decide +kernel
theorem dX11_lays_151 : decode cX11_lays 151 = .ok (.goto (-52), 3) := by decide +kernel
theorem dX11_lays_154 : decode cX11_lays 154 = .ok (.aload_n 0, 1) := by decide +kernel
theorem dX11_lays_155 : decode cX11_lays 155 = .ok (.iload_n 1, 1) := by decide +kernel
theorem dX11_lays_156 : decode cX11_lays 156 = .ok (.iload 6, 2) := by decide +kernel
theorem dX11_lays_158 : decode cX11_lays 158 = .ok (.invokevirtual 215, 3) := by decide +kernel
theorem dX11_lays_161 : decode cX11_lays 161 = .ok (.iinc 6 1, 3) := by decide +kernel
theorem dX11_lays_164 : decode cX11_lays 164 = .ok (.goto (-74), 3) := by decide +kernel
theorem dX11_lays_167 : decode cX11_lays 167 = .ok (.return_, 1) := by decide +kernel
theorem dX11_init_0 : decode cX11_init 0 = .ok (.aload_n 0, 1) := by decide +kernel
theorem dX11_init_1 : decode cX11_init 1 = .ok (.invokespecial 218, 3) := by decide +kernel
theorem dX11_init_4 : decode cX11_init 4 = .ok (.aload_n 0, 1) := by decide +kernel
theorem dX11_init_5 : decode cX11_init 5 = .ok (.sipush 400, 3) := by decide +kernel
theorem dX11_init_8 : decode cX11_init 8 = .ok (.newarray .byte, 2) := by decide +kernel
theorem dX11_init_10 : decode cX11_init 10 = .ok (.putfield 9, 3) := by decide +kernel
theorem dX11_init_13 : decode cX11_init 13 = .ok (.aload_n 0, 1) := by decide +kernel
theorem dX11_init_14 : decode cX11_init 14 = .ok (.bipush 6, 2) := by decide +kernel
theorem dX11_init_16 : decode cX11_init 16 = .ok (.newarray .int, 2) := by decide +kernel
theorem dX11_init_18 : decode cX11_init 18 = .ok (.putfield 81, 3) := by decide +kernel
theorem dX11_init_21 : decode cX11_init 21 = .ok (.aload_n 0, 1) := by decide +kernel
theorem dX11_init_22 : decode cX11_init 22 = .ok (.sipush 420, 3) := by decide +kernel
theorem dX11_init_25 : decode cX11_init 25 = .ok (.newarray .int, 2) := by decide +kernel
theorem dX11_init_27 : decode cX11_init 27 = .ok (.putfield 126, 3) := by decide +kernel
theorem dX11_init_30 : decode cX11_init 30 = .ok (.aload_n 0, 1) := by decide +kernel
theorem dX11_init_31 : decode cX11_init 31 = .ok (.iconst 2, 1) := by decide +kernel
theorem dX11_init_32 : decode cX11_init 32 = .ok (.newarray .int, 2) := by decide +kernel
theorem dX11_init_34 : decode cX11_init 34 = .ok (.putfield 192, 3) := by decide +kernel
theorem dX11_init_37 : decode cX11_init 37 = .ok (.aload_n 0, 1) := by decide +kernel
theorem dX11_init_38 : decode cX11_init 38 = .ok (.iconst 2, 1) := by decide +kernel
theorem dX11_init_39 : decode cX11_init 39 = .ok (.newarray .int, 2) := by decide +kernel
theorem dX11_init_41 : decode cX11_init 41 = .ok (.putfield 194, 3) := by decide +kernel
theorem dX11_init_44 : decode cX11_init 44 = .ok (.aload_n 0, 1) := by decide +kernel
theorem dX11_init_45 : decode cX11_init 45 = .ok (.iconst 2, 1) := by decide +kernel
theorem dX11_init_46 : decode cX11_init 46 = .ok (.newarray .int, 2) := by decide +kernel
theorem dX11_init_48 : decode cX11_init 48 = .ok (.putfield 173, 3) := by decide +kernel
theorem dX11_init_51 : decode cX11_init 51 = .ok (.aload_n 0, 1) := by decide +kernel
theorem dX11_init_52 : decode cX11_init 52 = .ok (.iconst 2, 1) := by decide +kernel
theorem dX11_init_53 : decode cX11_init 53 = .ok (.newarray .int, 2) := by decide +kernel
theorem dX11_init_55 : decode cX11_init 55 = .ok (.putfield 171, 3) := by decide +kernel
theorem dX11_init_58 : decode cX11_init 58 = .ok (.aload_n 0, 1) := by decide +kernel
theorem dX11_init_59 : decode cX11_init 59 = .ok (.bipush 6, 2) := by decide +kernel
theorem dX11_init_61 : decode cX11_init 61 = .ok (.newarray .int, 2) := by decide +kernel
theorem dX11_init_63 : decode cX11_init 63 = .ok (.putfield 183, 3) := by decide +kernel
theorem dX11_init_66 : decode cX11_init 66 = .ok (.aload_n 0, 1) := by decide +kernel
theorem dX11_init_67 : decode cX11_init 67 = .ok (.bipush 6, 2) := by decide +kernel
theorem dX11_init_69 : decode cX11_init 69 = .ok (.newarray .int, 2) := by decide +kernel
theorem dX11_init_71 : decode cX11_init 71 = .ok (.putfield 186, 3) := by decide +kernel
theorem dX11_init_74 : decode cX11_init 74 = .ok (.aload_n 0, 1) := by decide +kernel
theorem dX11_init_75 : decode cX11_init 75 = .ok (.iconst 2, 1) := by decide +kernel
theorem dX11_init_76 : decode cX11_init 76 = .ok (.newarray .boolean, 2) := by decide +kernel
theorem dX11_init_78 : decode cX11_init 78 = .ok (.putfield 196, 3) := by decide +kernel
theorem dX11_init_81 : decode cX11_init 81 = .ok (.aload_n 0, 1) := by decide +kernel
theorem dX11_init_82 : decode cX11_init 82 = .ok (.iconst 2, 1) := by decide +kernel
theorem dX11_init_83 : decode cX11_init 83 = .ok (.newarray .long, 2) := by decide +kernel
theorem dX11_init_85 : decode cX11_init 85 = .ok (.putfield 199, 3) := by decide +kernel
theorem dX11_init_88 : decode cX11_init 88 = .ok (.aload_n 0, 1) := by decide +kernel
theorem dX11_init_89 : decode cX11_init 89 = .ok (.iconst 2, 1) := by decide +kernel
theorem dX11_init_90 : decode cX11_init 90 = .ok (.newarray .long, 2) := by decide +kernel
theorem dX11_init_92 : decode cX11_init 92 = .ok (.putfield 203, 3) := by decide +kernel
theorem dX11_init_95 : decode cX11_init 95 = .ok (.aload_n 0, 1) := by decide +kernel
theorem dX11_init_96 : decode cX11_init 96 = .ok (.sipush 144, 3) := by decide +kernel
theorem dX11_init_99 : decode cX11_init 99 = .ok (.newarray .long, 2) := by decide +kernel
theorem dX11_init_101 : decode cX11_init 101 = .ok (.putfield 208, 3) := by decide +kernel
theorem dX11_init_104 : decode cX11_init 104 = .ok (.aload_n 0, 1) := by decide +kernel
theorem dX11_init_105 : decode cX11_init 105 = .ok (.bipush 72, 2) := by decide +kernel
theorem dX11_init_107 : decode cX11_init 107 = .ok (.newarray .int, 2) := by decide +kernel
theorem dX11_init_109 : decode cX11_init 109 = .ok (.putfield 154, 3) := by decide +kernel
theorem dX11_init_112 : decode cX11_init 112 = .ok (.aload_n 0, 1) := by decide +kernel
theorem dX11_init_113 : decode cX11_init 113 = .ok (.sipush 192, 3) := by decide +kernel
theorem dX11_init_116 : decode cX11_init 116 = .ok (.newarray .int, 2) := by decide +kernel
theorem dX11_init_118 : decode cX11_init 118 = .ok (.putfield 189, 3) := by decide +kernel
theorem dX11_init_121 : decode cX11_init 121 = .ok (.aload_n 0, 1) := by decide +kernel
theorem dX11_init_122 : decode cX11_init 122 = .ok (.iconst 4, 1) := by decide +kernel
theorem dX11_init_123 : decode cX11_init 123 = .ok (.newarray .int, 2) := by decide +kernel
theorem dX11_init_125 : decode cX11_init 125 = .ok (.putfield 223, 3) := by decide +kernel
theorem dX11_init_128 : decode cX11_init 128 = .ok (.aload_n 0, 1) := by decide +kernel
theorem dX11_init_129 : decode cX11_init 129 = .ok (.sipush 840, 3) := by decide +kernel
theorem dX11_init_132 : decode cX11_init 132 = .ok (.newarray .int, 2) := by decide +kernel
theorem dX11_init_134 : decode cX11_init 134 = .ok (.putfield 226, 3) := by decide +kernel
theorem dX11_init_137 : decode cX11_init 137 = .ok (.aload_n 0, 1) := by decide +kernel
theorem dX11_init_138 : decode cX11_init 138 = .ok (.sipush 840, 3) := by decide +kernel
theorem dX11_init_141 : decode cX11_init 141 = .ok (.newarray .int, 2) := by decide +kernel
theorem dX11_init_143 : decode cX11_init 143 = .ok (.putfield 229, 3) := by decide +kernel
theorem dX11_init_146 : decode cX11_init 146 = .ok (.aload_n 0, 1) := by decide +kernel
theorem dX11_init_147 : decode cX11_init 147 = .ok (.bipush 120, 2) := by decide +kernel
theorem dX11_init_149 : decode cX11_init 149 = .ok (.newarray .int, 2) := by decide +kernel
theorem dX11_init_151 : decode cX11_init 151 = .ok (.putfield 232, 3) := by decide +kernel
theorem dX11_init_154 : decode cX11_init 154 = .ok (.aload_n 0, 1) := by decide +kernel
theorem dX11_init_155 : decode cX11_init 155 = .ok (.bipush 120, 2) := by decide +kernel
theorem dX11_init_157 : decode cX11_init 157 = .ok (.newarray .int, 2) := by decide +kernel
theorem dX11_init_159 : decode cX11_init 159 = .ok (.putfield 235, 3) := by decide +kernel
theorem dX11_init_162 : decode cX11_init 162 = .ok (.aload_n 0, 1) := by decide +kernel
theorem dX11_init_163 : decode cX11_init 163 = .ok (.sipush 4500, 3) := by decide +kernel
theorem dX11_init_166 : decode cX11_init 166 = .ok (.newarray .long, 2) := by decide +kernel
theorem dX11_init_168 : decode cX11_init 168 = .ok (.putfield 238, 3) := by decide +kernel
theorem dX11_init_171 : decode cX11_init 171 = .ok (.aload_n 0, 1) := by decide +kernel
theorem dX11_init_172 : decode cX11_init 172 = .ok (.sipush 4500, 3) := by decide +kernel
theorem dX11_init_175 : decode cX11_init 175 = .ok (.newarray .long, 2) := by decide +kernel
theorem dX11_init_177 : decode cX11_init 177 = .ok (.putfield 241, 3) := by decide +kernel
theorem dX11_init_180 : decode cX11_init 180 = .ok (.aload_n 0, 1) := by decide +kernel
theorem dX11_init_181 : decode cX11_init 181 = .ok (.sipush 840, 3) := by decide +kernel
theorem dX11_init_184 : decode cX11_init 184 = .ok (.newarray .int, 2) := by decide +kernel
theorem dX11_init_186 : decode cX11_init 186 = .ok (.putfield 244, 3) := by decide +kernel
theorem dX11_init_189 : decode cX11_init 189 = .ok (.aload_n 0, 1) := by decide +kernel
theorem dX11_init_190 : decode cX11_init 190 = .ok (.bipush 120, 2) := by decide +kernel
theorem dX11_init_192 : decode cX11_init 192 = .ok (.newarray .int, 2) := by decide +kernel
theorem dX11_init_194 : decode cX11_init 194 = .ok (.putfield 247, 3) := by decide +kernel
theorem dX11_init_197 : decode cX11_init 197 = .ok (.aload_n 0, 1) := by decide +kernel
theorem dX11_init_198 : decode cX11_init 198 = .ok (.sipush 4500, 3) := by decide +kernel
theorem dX11_init_201 : decode cX11_init 201 = .ok (.newarray .long, 2) := by decide +kernel
theorem dX11_init_203 : decode cX11_init 203 = .ok (.putfield 250, 3) := by decide +kernel
theorem dX11_init_206 : decode cX11_init 206 = .ok (.aload_n 0, 1) := by decide +kernel
theorem dX11_init_207 : decode cX11_init 207 = .ok (.invokevirtual 253, 3) := by decide +kernel
theorem dX11_init_210 : decode cX11_init 210 = .ok (.aload_n 0, 1) := by decide +kernel
theorem dX11_init_211 : decode cX11_init 211 = .ok (.iconst 1, 1) := by decide +kernel
theorem dX11_init_212 : decode cX11_init 212 = .ok (.bipush 22, 2) := by decide +kernel
theorem dX11_init_214 : decode cX11_init 214 = .ok (.iconst 4, 1) := by decide +kernel
theorem dX11_init_215 : decode cX11_init 215 = .ok (.bipush 24, 2) := by decide +kernel
theorem dX11_init_217 : decode cX11_init 217 = .ok (.iconst 1, 1) := by decide +kernel
theorem dX11_init_218 : decode cX11_init 218 = .ok (.invokevirtual 256, 3) := by decide +kernel
theorem dX11_init_221 : decode cX11_init 221 = .ok (.return_, 1) := by decide +kernel
theorem dX11_unit_0 : decode cX11_unit 0 = .ok (.aload_n 0, 1) := by decide +kernel
theorem dX11_unit_1 : decode cX11_unit 1 = .ok (.iconst 0, 1) := by decide +kernel
theorem dX11_unit_2 : decode cX11_unit 2 = .ok (.putfield 5, 3) := by decide +kernel
theorem dX11_unit_5 : decode cX11_unit 5 = .ok (.aload_n 0, 1) := by decide +kernel
theorem dX11_unit_6 : decode cX11_unit 6 = .ok (.invokevirtual 93, 3) := by decide +kernel
theorem dX11_unit_9 : decode cX11_unit 9 = .ok (.iconst (-1), 1) := by decide +kernel
theorem dX11_unit_10 : decode cX11_unit 10 = .ok (.if_icmp .eq 5, 3) := by decide +kernel
theorem dX11_unit_13 : decode cX11_unit 13 = .ok (.iconst (-1), 1) := by decide +kernel
theorem dX11_unit_14 : decode cX11_unit 14 = .ok (.ireturn, 1) := by decide +kernel
theorem dX11_unit_15 : decode cX11_unit 15 = .ok (.aload_n 0, 1) := by decide +kernel
theorem dX11_unit_16 : decode cX11_unit 16 = .ok (.iconst 0, 1) := by decide +kernel
theorem dX11_unit_17 : decode cX11_unit 17 = .ok (.putfield 13, 3) := by decide +kernel
theorem dX11_unit_20 : decode cX11_unit 20 = .ok (.aload_n 0, 1) := by decide +kernel
theorem dX11_unit_21 : decode cX11_unit 21 = .ok (.iconst 1, 1) := by decide +kernel
theorem dX11_unit_22 : decode cX11_unit 22 = .ok (.putfield 260, 3) := by decide +kernel
theorem dX11_unit_25 : decode cX11_unit 25 = .ok (.aload_n 0, 1) := by decide +kernel
theorem dX11_unit_26 : decode cX11_unit 26 = .ok (.iconst 0, 1) := by decide +kernel
theorem dX11_unit_27 : decode cX11_unit 27 = .ok (.aload_n 0, 1) := by decide +kernel
theorem dX11_unit_28 : decode cX11_unit 28 = .ok (.getfield 81, 3) := by decide +kernel
theorem dX11_unit_31 : decode cX11_unit 31 = .ok (.iconst 0, 1) := by decide +kernel
theorem dX11_unit_32 : decode cX11_unit 32 = .ok (.iaload, 1) := by decide +kernel
theorem dX11_unit_33 : decode cX11_unit 33 = .ok (.aload_n 0, 1) := by decide +kernel
theorem dX11_unit_34 : decode cX11_unit 34 = .ok (.getfield 81, 3) := by decide +kernel
theorem dX11_unit_37 : decode cX11_unit 37 = .ok (.iconst 1, 1) := by decide +kernel
theorem dX11_unit_38 : decode cX11_unit 38 = .ok (.iaload, 1) := by decide +kernel
theorem dX11_unit_39 : decode cX11_unit 39 = .ok (.aload_n 0, 1) := by decide +kernel
theorem dX11_unit_40 : decode cX11_unit 40 = .ok (.getfield 81, 3) := by decide +kernel
theorem dX11_unit_43 : decode cX11_unit 43 = .ok (.iconst 2, 1) := by decide +kernel
theorem dX11_unit_44 : decode cX11_unit 44 = .ok (.iaload, 1) := by decide +kernel
theorem dX11_unit_45 : decode cX11_unit 45 = .ok (.aload_n 0, 1) := by decide +kernel
theorem dX11_unit_46 : decode cX11_unit 46 = .ok (.getfield 81, 3) := by decide +kernel
theorem dX11_unit_49 : decode cX11_unit 49 = .ok (.iconst 4, 1) := by decide +kernel
theorem dX11_unit_50 : decode cX11_unit 50 = .ok (.iaload, 1) := by decide +kernel
theorem dX11_unit_51 : decode cX11_unit 51 = .ok (.iconst 1, 1) := by decide +kernel
theorem dX11_unit_52 : decode cX11_unit 52 = .ok (.if_icmp .ne 7, 3) := by decide +kernel
theorem dX11_unit_55 : decode cX11_unit 55 = .ok (.iconst 1, 1) := by decide +kernel
theorem dX11_unit_56 : decode cX11_unit 56 = .ok (.goto 4, 3) := by decide +kernel
theorem dX11_unit_59 : decode cX11_unit 59 = .ok (.iconst 0, 1) := by decide +kernel
theorem dX11_unit_60 : decode cX11_unit 60 = .ok (.invokevirtual 256, 3) := by decide +kernel
theorem dX11_unit_63 : decode cX11_unit 63 = .ok (.aload_n 0, 1) := by decide +kernel
theorem dX11_unit_64 : decode cX11_unit 64 = .ok (.aload_n 0, 1) := by decide +kernel
theorem dX11_unit_65 : decode cX11_unit 65 = .ok (.getfield 81, 3) := by decide +kernel
theorem dX11_unit_68 : decode cX11_unit 68 = .ok (.iconst 3, 1) := by decide +kernel
theorem dX11_unit_69 : decode cX11_unit 69 = .ok (.iaload, 1) := by decide +kernel
theorem dX11_unit_70 : decode cX11_unit 70 = .ok (.ifCond .ne 12, 3) := by decide +kernel
theorem dX11_unit_73 : decode cX11_unit 73 = .ok (.aload_n 0, 1) := by decide +kernel
theorem dX11_unit_74 : decode cX11_unit 74 = .ok (.getfield 171, 3) := by decide +kernel
theorem dX11_unit_77 : decode cX11_unit 77 = .ok (.iconst 0, 1) := by decide +kernel
theorem dX11_unit_78 : decode cX11_unit 78 = .ok (.iaload, 1) := by decide +kernel
theorem dX11_unit_79 : decode cX11_unit 79 = .ok (.goto 9, 3) := by decide +kernel
theorem dX11_unit_82 : decode cX11_unit 82 = .ok (.aload_n 0, 1) := by decide +kernel
theorem dX11_unit_83 : decode cX11_unit 83 = .ok (.getfield 81, 3) := by decide +kernel
theorem dX11_unit_86 : decode cX11_unit 86 = .ok (.iconst 3, 1) := by decide +kernel
theorem dX11_unit_87 : decode cX11_unit 87 = .ok (.iaload, 1) := by decide +kernel
theorem dX11_unit_88 : decode cX11_unit 88 = .ok (.putfield 264, 3) := by decide +kernel
theorem dX11_unit_91 : decode cX11_unit 91 = .ok (.aload_n 0, 1) := by decide +kernel
theorem dX11_unit_92 : decode cX11_unit 92 = .ok (.iconst 0, 1) := by decide +kernel
theorem dX11_unit_93 : decode cX11_unit 93 = .ok (.putfield 267, 3) := by decide +kernel
theorem dX11_unit_96 : decode cX11_unit 96 = .ok (.aload_n 0, 1) := by decide +kernel
theorem dX11_unit_97 : decode cX11_unit 97 = .ok (.iconst 0, 1) := by decide +kernel
theorem dX11_unit_98 : decode cX11_unit 98 = .ok (.putfield 270, 3) := by decide +kernel
theorem dX11_unit_101 : decode cX11_unit 101 = .ok (.aload_n 0, 1) := by decide +kernel
theorem dX11_unit_102 : decode cX11_unit 102 = .ok (.iconst 0, 1) := by decide +kernel
theorem dX11_unit_103 : decode cX11_unit 103 = .ok (.putfield 273, 3) := by decide +kernel
theorem dX11_unit_106 : decode cX11_unit 106 = .ok (.aload_n 0, 1) := by decide +kernel
theorem dX11_unit_107 : decode cX11_unit 107 = .ok (.iconst 0, 1) := by decide +kernel
theorem dX11_unit_108 : decode cX11_unit 108 = .ok (.putfield 276, 3) := by decide +kernel
theorem dX11_unit_111 : decode cX11_unit 111 = .ok (.aload_n 0, 1) := by decide +kernel
theorem dX11_unit_112 : decode cX11_unit 112 = .ok (.getfield 171, 3) := by decide +kernel
theorem dX11_unit_115 : decode cX11_unit 115 = .ok (.iconst 0, 1) := by decide +kernel
theorem dX11_unit_116 : decode cX11_unit 116 = .ok (.iaload, 1) := by decide +kernel
theorem dX11_unit_117 : decode cX11_unit 117 = .ok (.ireturn, 1) := by decide +kernel
theorem dX11_constant_0 : decode cX11_constant 0 = .ok (.aload_n 0, 1) := by decide +kernel
theorem dX11_constant_1 : decode cX11_constant 1 = .ok (.iconst 0, 1) := by decide +kernel
theorem dX11_constant_2 : decode cX11_constant 2 = .ok (.putfield 5, 3) := by decide +kernel
theorem dX11_constant_5 : decode cX11_constant 5 = .ok (.aload_n 0, 1) := by decide +kernel
theorem dX11_constant_6 : decode cX11_constant 6 = .ok (.getfield 260, 3) := by decide +kernel
theorem dX11_constant_9 : decode cX11_constant 9 = .ok (.ifCond .eq 15, 3) := by decide +kernel
theorem dX11_constant_12 : decode cX11_constant 12 = .ok (.iload_n 1, 1) := by decide +kernel
theorem dX11_constant_13 : decode cX11_constant 13 = .ok (.i2l, 1) := by decide +kernel
theorem dX11_constant_14 : decode cX11_constant 14 = .ok (.lconst 0, 1) := by decide +kernel
theorem dX11_constant_15 : decode cX11_constant 15 = .ok (.ldc2_w 178, 3) := by decide +kernel
theorem dX11_constant_18 : decode cX11_constant 18 = .ok (.invokestatic 65, 3) := by decide +kernel
theorem dX11_constant_21 : decode cX11_constant 21 = .ok (.ifCond .ne 5, 3) := by decide +kernel
theorem dX11_constant_24 : decode cX11_constant 24 = .ok (.iconst (-1), 1) := by decide +kernel
theorem dX11_constant_25 : decode cX11_constant 25 = .ok (.ireturn, 1) := by decide +kernel
theorem dX11_constant_26 : decode cX11_constant 26 = .ok (.iload_n 1, 1) := by decide +kernel
theorem dX11_constant_27 : decode cX11_constant 27 = .ok (.ifCond .ne 12, 3) := by decide +kernel
theorem dX11_constant_30 : decode cX11_constant 30 = .ok (.aload_n 0, 1) := by decide +kernel
theorem dX11_constant_31 : decode cX11_constant 31 = .ok (.getfield 199, 3) := by decide +kernel
theorem dX11_constant_34 : decode cX11_constant 34 = .ok (.iconst 0, 1) := by decide +kernel
theorem dX11_constant_35 : decode cX11_constant 35 = .ok (.laload, 1) := by decide +kernel
theorem dX11_constant_36 : decode cX11_constant 36 = .ok (.goto 29, 3) := by decide +kernel
theorem dX11_constant_39 : decode cX11_constant 39 = .ok (.iload_n 1, 1) := by decide +kernel
theorem dX11_constant_40 : decode cX11_constant 40 = .ok (.iconst 1, 1) := by decide +kernel
theorem dX11_constant_41 : decode cX11_constant 41 = .ok (.if_icmp .ne 12, 3) := by decide +kernel
theorem dX11_constant_44 : decode cX11_constant 44 = .ok (.aload_n 0, 1) := by decide +kernel
theorem dX11_constant_45 : decode cX11_constant 45 = .ok (.getfield 203, 3) := by decide +kernel
theorem dX11_constant_48 : decode cX11_constant 48 = .ok (.iconst 0, 1) := by decide +kernel
theorem dX11_constant_49 : decode cX11_constant 49 = .ok (.laload, 1) := by decide +kernel
theorem dX11_constant_50 : decode cX11_constant 50 = .ok (.goto 15, 3) := by decide +kernel
theorem dX11_constant_53 : decode cX11_constant 53 = .ok (.invokestatic 161, 3) := by decide +kernel
theorem dX11_constant_56 : decode cX11_constant 56 = .ok (.aload_n 0, 1) := by decide +kernel
theorem dX11_constant_57 : decode cX11_constant 57 = .ok (.getfield 173, 3) := by decide +kernel
theorem dX11_constant_60 : decode cX11_constant 60 = .ok (.iconst 0, 1) := by decide +kernel
theorem dX11_constant_61 : decode cX11_constant 61 = .ok (.iaload, 1) := by decide +kernel
theorem dX11_constant_62 : decode cX11_constant 62 = .ok (.invokestatic 165, 3) := by decide +kernel
theorem dX11_constant_65 : decode cX11_constant 65 = .ok (.l2i, 1) := by decide +kernel
theorem dX11_constant_66 : decode cX11_constant 66 = .ok (.ireturn, 1) := by decide +kernel
theorem dX11_isMode_0 : decode cX11_isMode 0 = .ok (.aload_n 0, 1) := by decide +kernel
theorem dX11_isMode_1 : decode cX11_isMode 1 = .ok (.getfield 260, 3) := by decide +kernel
theorem dX11_isMode_4 : decode cX11_isMode 4 = .ok (.ifCond .eq 19, 3) := by decide +kernel
theorem dX11_isMode_7 : decode cX11_isMode 7 = .ok (.iload_n 1, 1) := by decide +kernel
theorem dX11_isMode_8 : decode cX11_isMode 8 = .ok (.i2l, 1) := by decide +kernel
theorem dX11_isMode_9 : decode cX11_isMode 9 = .ok (.lconst 0, 1) := by decide +kernel
theorem dX11_isMode_10 : decode cX11_isMode 10 = .ok (.ldc2_w 178, 3) := by decide +kernel
theorem dX11_isMode_13 : decode cX11_isMode 13 = .ok (.invokestatic 65, 3) := by decide +kernel
theorem dX11_isMode_16 : decode cX11_isMode 16 = .ok (.ifCond .eq 7, 3) := by decide +kernel
theorem dX11_isMode_19 : decode cX11_isMode 19 = .ok (.iconst 1, 1) := by decide +kernel
theorem dX11_isMode_20 : decode cX11_isMode 20 = .ok (.goto 4, 3) := by decide +kernel
theorem dX11_isMode_23 : decode cX11_isMode 23 = .ok (.iconst 0, 1) := by decide +kernel
theorem dX11_isMode_24 : decode cX11_isMode 24 = .ok (.ireturn, 1) := by decide +kernel
theorem dX11_isWordless_0 : decode cX11_isWordless 0 = .ok (.aload_n 0, 1) := by decide +kernel
theorem dX11_isWordless_1 : decode cX11_isWordless 1 = .ok (.getfield 154, 3) := by decide +kernel
theorem dX11_isWordless_4 : decode cX11_isWordless 4 = .ok (.bipush 24, 2) := by decide +kernel
theorem dX11_isWordless_6 : decode cX11_isWordless 6 = .ok (.iload_n 1, 1) := by decide +kernel
theorem dX11_isWordless_7 : decode cX11_isWordless 7 = .ok (.imul, 1) := by decide +kernel
theorem dX11_isWordless_8 : decode cX11_isWordless 8 = .ok (.iload_n 2, 1) := by decide +kernel
theorem dX11_isWordless_9 : decode cX11_isWordless 9 = .ok (.iadd, 1) := by decide +kernel
theorem dX11_isWordless_10 : decode cX11_isWordless 10 = .ok (.iaload, 1) := by decide +kernel
theorem dX11_isWordless_11 : decode cX11_isWordless 11 = .ok (.istore_n 3, 1) := by decide +kernel
theorem dX11_isWordless_12 : decode cX11_isWordless 12 = .ok (.iload_n 3, 1) := by decide +kernel
theorem dX11_isWordless_13 : decode cX11_isWordless 13 = .ok (.aload_n 0, 1) := by decide +kernel
theorem dX11_isWordless_14 : decode cX11_isWordless 14 = .ok (.getfield 173, 3) := by decide +kernel
theorem dX11_isWordless_17 : decode cX11_isWordless 17 = .ok (.iconst 0, 1) := by decide +kernel
theorem dX11_isWordless_18 : decode cX11_isWordless 18 = .ok (.iaload, 1) := by decide +kernel
theorem dX11_isWordless_19 : decode cX11_isWordless 19 = .ok (.if_icmp .gt 32, 3) := by decide +kernel
theorem dX11_isWordless_22 : decode cX11_isWordless 22 = .ok (.aload_n 0, 1) := by decide +kernel
theorem dX11_isWordless_23 : decode cX11_isWordless 23 = .ok (.getfield 208, 3) := by decide +kernel
theorem dX11_isWordless_26 : decode cX11_isWordless 26 = .ok (.bipush 24, 2) := by decide +kernel
theorem dX11_isWordless_28 : decode cX11_isWordless 28 = .ok (.iload_n 1, 1) := by decide +kernel
theorem dX11_isWordless_29 : decode cX11_isWordless 29 = .ok (.imul, 1) := by decide +kernel
theorem dX11_isWordless_30 : decode cX11_isWordless 30 = .ok (.iload_n 2, 1) := by decide +kernel
theorem dX11_isWordless_31 : decode cX11_isWordless 31 = .ok (.iadd, 1) := by decide +kernel
theorem dX11_isWordless_32 : decode cX11_isWordless 32 = .ok (.laload, 1) := by decide +kernel
theorem dX11_isWordless_33 : decode cX11_isWordless 33 = .ok (.lconst 1, 1) := by decide +kernel
theorem dX11_isWordless_34 : decode cX11_isWordless 34 = .ok (.aload_n 0, 1) := by decide +kernel
theorem dX11_isWordless_35 : decode cX11_isWordless 35 = .ok (.getfield 173, 3) := by decide +kernel
theorem dX11_isWordless_38 : decode cX11_isWordless 38 = .ok (.iconst 0, 1) := by decide +kernel
theorem dX11_isWordless_39 : decode cX11_isWordless 39 = .ok (.iaload, 1) := by decide +kernel
theorem dX11_isWordless_40 : decode cX11_isWordless 40 = .ok (.iload_n 3, 1) := by decide +kernel
theorem dX11_isWordless_41 : decode cX11_isWordless 41 = .ok (.isub, 1) := by decide +kernel
theorem dX11_isWordless_42 : decode cX11_isWordless 42 = .ok (.lshl, 1) := by decide +kernel
theorem dX11_isWordless_43 : decode cX11_isWordless 43 = .ok (.lcmp, 1) := by decide +kernel
theorem dX11_isWordless_44 : decode cX11_isWordless 44 = .ok (.ifCond .ne 7, 3) := by decide +kernel
theorem dX11_isWordless_47 : decode cX11_isWordless 47 = .ok (.iconst 1, 1) := by decide +kernel
theorem dX11_isWordless_48 : decode cX11_isWordless 48 = .ok (.goto 4, 3) := by decide +kernel
theorem dX11_isWordless_51 : decode cX11_isWordless 51 = .ok (.iconst 0, 1) := by decide +kernel
theorem dX11_isWordless_52 : decode cX11_isWordless 52 = .ok (.ireturn, 1) := by decide +kernel
theorem dX11_stage_0 : decode cX11_stage 0 = .ok (.aload_n 0, 1) := by decide +kernel
theorem dX11_stage_1 : decode cX11_stage 1 = .ok (.iconst 0, 1) := by decide +kernel
theorem dX11_stage_2 : decode cX11_stage 2 = .ok (.putfield 5, 3) := by decide +kernel
theorem dX11_stage_5 : decode cX11_stage 5 = .ok (.aload_n 0, 1) := by decide +kernel
theorem dX11_stage_6 : decode cX11_stage 6 = .ok (.iload_n 1, 1) := by decide +kernel
theorem dX11_stage_7 : decode cX11_stage 7 = .ok (.invokevirtual 279, 3) := by decide +kernel
theorem dX11_stage_10 : decode cX11_stage 10 = .ok (.ifCond .eq 33, 3) := by decide +kernel
theorem dX11_stage_13 : decode cX11_stage 13 = .ok (.iload_n 2, 1) := by decide +kernel
theorem dX11_stage_14 : decode cX11_stage 14 = .ok (.i2l, 1) := by decide +kernel
theorem dX11_stage_15 : decode cX11_stage 15 = .ok (.lconst 0, 1) := by decide +kernel
theorem dX11_stage_16 : decode cX11_stage 16 = .ok (.aload_n 0, 1) := by decide +kernel
theorem dX11_stage_17 : decode cX11_stage 17 = .ok (.getfield 171, 3) := by decide +kernel
theorem dX11_stage_20 : decode cX11_stage 20 = .ok (.iconst 0, 1) := by decide +kernel
theorem dX11_stage_21 : decode cX11_stage 21 = .ok (.iaload, 1) := by decide +kernel
theorem dX11_stage_22 : decode cX11_stage 22 = .ok (.iconst 1, 1) := by decide +kernel
theorem dX11_stage_23 : decode cX11_stage 23 = .ok (.isub, 1) := by decide +kernel
theorem dX11_stage_24 : decode cX11_stage 24 = .ok (.i2l, 1) := by decide +kernel
theorem dX11_stage_25 : decode cX11_stage 25 = .ok (.invokestatic 65, 3) := by decide +kernel
theorem dX11_stage_28 : decode cX11_stage 28 = .ok (.ifCond .eq 15, 3) := by decide +kernel
theorem dX11_stage_31 : decode cX11_stage 31 = .ok (.iload_n 3, 1) := by decide +kernel
theorem dX11_stage_32 : decode cX11_stage 32 = .ok (.i2l, 1) := by decide +kernel
theorem dX11_stage_33 : decode cX11_stage 33 = .ok (.lconst 0, 1) := by decide +kernel
theorem dX11_stage_34 : decode cX11_stage 34 = .ok (.ldc2_w 178, 3) := by decide +kernel
theorem dX11_stage_37 : decode cX11_stage 37 = .ok (.invokestatic 65, 3) := by decide +kernel
theorem dX11_stage_40 : decode cX11_stage 40 = .ok (.ifCond .ne 5, 3) := by decide +kernel
theorem dX11_stage_43 : decode cX11_stage 43 = .ok (.iconst (-1), 1) := by decide +kernel
theorem dX11_stage_44 : decode cX11_stage 44 = .ok (.ireturn, 1) := by decide +kernel
theorem dX11_stage_45 : decode cX11_stage 45 = .ok (.iload_n 3, 1) := by decide +kernel
theorem dX11_stage_46 : decode cX11_stage 46 = .ok (.ifCond .ne 17, 3) := by decide +kernel
theorem dX11_stage_49 : decode cX11_stage 49 = .ok (.aload_n 0, 1) := by decide +kernel
theorem dX11_stage_50 : decode cX11_stage 50 = .ok (.getfield 154, 3) := by decide +kernel
theorem dX11_stage_53 : decode cX11_stage 53 = .ok (.bipush 24, 2) := by decide +kernel
theorem dX11_stage_55 : decode cX11_stage 55 = .ok (.iload_n 1, 1) := by decide +kernel
theorem dX11_stage_56 : decode cX11_stage 56 = .ok (.imul, 1) := by decide +kernel
theorem dX11_stage_57 : decode cX11_stage 57 = .ok (.iload_n 2, 1) := by decide +kernel
theorem dX11_stage_58 : decode cX11_stage 58 = .ok (.iadd, 1) := by decide +kernel
theorem dX11_stage_59 : decode cX11_stage 59 = .ok (.iaload, 1) := by decide +kernel
theorem dX11_stage_60 : decode cX11_stage 60 = .ok (.goto 37, 3) := by decide +kernel
theorem dX11_stage_63 : decode cX11_stage 63 = .ok (.iload_n 3, 1) := by decide +kernel
theorem dX11_stage_64 : decode cX11_stage 64 = .ok (.iconst 1, 1) := by decide +kernel
theorem dX11_stage_65 : decode cX11_stage 65 = .ok (.if_icmp .ne 18, 3) := by decide +kernel
theorem dX11_stage_68 : decode cX11_stage 68 = .ok (.aload_n 0, 1) := by decide +kernel
theorem dX11_stage_69 : decode cX11_stage 69 = .ok (.getfield 208, 3) := by decide +kernel
theorem dX11_stage_72 : decode cX11_stage 72 = .ok (.bipush 24, 2) := by decide +kernel
theorem dX11_stage_74 : decode cX11_stage 74 = .ok (.iload_n 1, 1) := by decide +kernel
theorem dX11_stage_75 : decode cX11_stage 75 = .ok (.imul, 1) := by decide +kernel
theorem dX11_stage_76 : decode cX11_stage 76 = .ok (.iload_n 2, 1) := by decide +kernel
theorem dX11_stage_77 : decode cX11_stage 77 = .ok (.iadd, 1) := by decide +kernel
theorem dX11_stage_78 : decode cX11_stage 78 = .ok (.laload, 1) := by decide +kernel
theorem dX11_stage_79 : decode cX11_stage 79 = .ok (.l2i, 1) := by decide +kernel
theorem dX11_stage_80 : decode cX11_stage 80 = .ok (.goto 17, 3) := by decide +kernel
theorem dX11_stage_83 : decode cX11_stage 83 = .ok (.aload_n 0, 1) := by decide +kernel
theorem dX11_stage_84 : decode cX11_stage 84 = .ok (.iload_n 1, 1) := by decide +kernel
theorem dX11_stage_85 : decode cX11_stage 85 = .ok (.iload_n 2, 1) := by decide +kernel
theorem dX11_stage_86 : decode cX11_stage 86 = .ok (.invokevirtual 282, 3) := by decide +kernel
theorem dX11_stage_89 : decode cX11_stage 89 = .ok (.ifCond .eq 7, 3) := by decide +kernel
theorem dX11_stage_92 : decode cX11_stage 92 = .ok (.iconst 1, 1) := by decide +kernel
theorem dX11_stage_93 : decode cX11_stage 93 = .ok (.goto 4, 3) := by decide +kernel
theorem dX11_stage_96 : decode cX11_stage 96 = .ok (.iconst 0, 1) := by decide +kernel
theorem dX11_stage_97 : decode cX11_stage 97 = .ok (.ireturn, 1) := by decide +kernel
theorem dX11_words_0 : decode cX11_words 0 = .ok (.iconst 0, 1) := by decide +kernel
theorem dX11_words_1 : decode cX11_words 1 = .ok (.istore_n 2, 1) := by decide +kernel
theorem dX11_words_2 : decode cX11_words 2 = .ok (.iconst 0, 1) := by decide +kernel
theorem dX11_words_3 : decode cX11_words 3 = .ok (.istore_n 3, 1) := by decide +kernel
theorem dX11_words_4 : decode cX11_words 4 = .ok (.iload_n 3, 1) := by decide +kernel
theorem dX11_words_5 : decode cX11_words 5 = .ok (.aload_n 0, 1) := by decide +kernel
theorem dX11_words_6 : decode cX11_words 6 = .ok (.getfield 171, 3) := by decide +kernel
theorem dX11_words_9 : decode cX11_words 9 = .ok (.iconst 0, 1) := by decide +kernel
theorem dX11_words_10 : decode cX11_words 10 = .ok (.iaload, 1) := by decide +kernel
theorem dX11_words_11 : decode cX11_words 11 = .ok (.if_icmp .ge 102, 3) := by decide +kernel
theorem dX11_words_14 : decode cX11_words 14 = .ok (.aload_n 0, 1) := by decide +kernel
theorem dX11_words_15 : decode cX11_words 15 = .ok (.iload_n 1, 1) := by decide +kernel
theorem dX11_words_16 : decode cX11_words 16 = .ok (.iload_n 3, 1) := by decide +kernel
theorem dX11_words_17 : decode cX11_words 17 = .ok (.invokevirtual 282, 3) := by decide +kernel
theorem dX11_words_20 : decode cX11_words 20 = .ok (.ifCond .ne 7, 3) := by decide +kernel
theorem dX11_words_23 : decode cX11_words 23 = .ok (.iconst 1, 1) := by decide +kernel
theorem dX11_words_24 : decode cX11_words 24 = .ok (.goto 4, 3) := by decide +kernel
theorem dX11_words_27 : decode cX11_words 27 = .ok (.iconst 0, 1) := by decide +kernel
theorem dX11_words_28 : decode cX11_words 28 = .ok (.istore 4, 2) := by decide +kernel
theorem dX11_words_30 : decode cX11_words 30 = .ok (.iconst 0, 1) := by decide +kernel
theorem dX11_words_31 : decode cX11_words 31 = .ok (.istore 5, 2) := by decide +kernel
theorem dX11_words_33 : decode cX11_words 33 = .ok (.iload 5, 2) := by decide +kernel
theorem dX11_words_35 : decode cX11_words 35 = .ok (.iload_n 3, 1) := by decide +kernel
theorem dX11_words_36 : decode cX11_words 36 = .ok (.if_icmp .ge 58, 3) := by decide +kernel
theorem dX11_words_39 : decode cX11_words 39 = .ok (.iload 4, 2) := by decide +kernel
theorem dX11_words_41 : decode cX11_words 41 = .ok (.ifCond .eq 44, 3) := by decide +kernel
theorem dX11_words_44 : decode cX11_words 44 = .ok (.aload_n 0, 1) := by decide +kernel
theorem dX11_words_45 : decode cX11_words 45 = .ok (.iload_n 1, 1) := by decide +kernel
theorem dX11_words_46 : decode cX11_words 46 = .ok (.iload 5, 2) := by decide +kernel
theorem dX11_words_48 : decode cX11_words 48 = .ok (.invokevirtual 282, 3) := by decide +kernel
theorem dX11_words_51 : decode cX11_words 51 = .ok (.ifCond .ne 30, 3) := by decide +kernel
theorem dX11_words_54 : decode cX11_words 54 = .ok (.aload_n 0, 1) := by decide +kernel
theorem dX11_words_55 : decode cX11_words 55 = .ok (.getfield 208, 3) := by decide +kernel
theorem dX11_words_58 : decode cX11_words 58 = .ok (.bipush 24, 2) := by decide +kernel
theorem dX11_words_60 : decode cX11_words 60 = .ok (.iload_n 1, 1) := by decide +kernel
theorem dX11_words_61 : decode cX11_words 61 = .ok (.imul, 1) := by decide +kernel
theorem dX11_words_62 : decode cX11_words 62 = .ok (.iload 5, 2) := by decide +kernel
theorem dX11_words_64 : decode cX11_words 64 = .ok (.iadd, 1) := by decide +kernel
theorem dX11_words_65 : decode cX11_words 65 = .ok (.laload, 1) := by decide +kernel
theorem dX11_words_66 : decode cX11_words 66 = .ok (.aload_n 0, 1) := by decide +kernel
theorem dX11_words_67 : decode cX11_words 67 = .ok (.getfield 208, 3) := by decide +kernel
theorem dX11_words_70 : decode cX11_words 70 = .ok (.bipush 24, 2) := by decide +kernel
theorem dX11_words_72 : decode cX11_words 72 = .ok (.iload_n 1, 1) := by decide +kernel
theorem dX11_words_73 : decode cX11_words 73 = .ok (.imul, 1) := by decide +kernel
theorem dX11_words_74 : decode cX11_words 74 = .ok (.iload_n 3, 1) := by decide +kernel
theorem dX11_words_75 : decode cX11_words 75 = .ok (.iadd, 1) := by decide +kernel
theorem dX11_words_76 : decode cX11_words 76 = .ok (.laload, 1) := by decide +kernel
theorem dX11_words_77 : decode cX11_words 77 = .ok (.lcmp, 1) := by decide +kernel
theorem dX11_words_78 : decode cX11_words 78 = .ok (.ifCond .eq 7, 3) := by decide +kernel
theorem dX11_words_81 : decode cX11_words 81 = .ok (.iconst 1, 1) := by decide +kernel
theorem dX11_words_82 : decode cX11_words 82 = .ok (.goto 4, 3) := by decide +kernel
theorem dX11_words_85 : decode cX11_words 85 = .ok (.iconst 0, 1) := by decide +kernel
theorem dX11_words_86 : decode cX11_words 86 = .ok (.istore 4, 2) := by decide +kernel
theorem dX11_words_88 : decode cX11_words 88 = .ok (.iinc 5 1, 3) := by decide +kernel
theorem dX11_words_91 : decode cX11_words 91 = .ok (.goto (-58), 3) := by decide +kernel
theorem dX11_words_94 : decode cX11_words 94 = .ok (.iload_n 2, 1) := by decide +kernel
theorem dX11_words_95 : decode cX11_words 95 = .ok (.iload 4, 2) := by decide +kernel
theorem dX11_words_97 : decode cX11_words 97 = .ok (.ifCond .eq 7, 3) := by decide +kernel
theorem dX11_words_100 : decode cX11_words 100 = .ok (.iconst 1, 1) := by decide +kernel
theorem dX11_words_101 : decode cX11_words 101 = .ok (.goto 4, 3) := by decide +kernel
theorem dX11_words_104 : decode cX11_words 104 = .ok (.iconst 0, 1) := by decide +kernel
theorem dX11_words_105 : decode cX11_words 105 = .ok (.iadd, 1) := by decide +kernel
theorem dX11_words_106 : decode cX11_words 106 = .ok (.istore_n 2, 1) := by decide +kernel
theorem dX11_words_107 : decode cX11_words 107 = .ok (.iinc 3 1, 3) := by decide +kernel
theorem dX11_words_110 : decode cX11_words 110 = .ok (.goto (-106), 3) := by decide +kernel
theorem dX11_words_113 : decode cX11_words 113 = .ok (.iload_n 2, 1) := by decide +kernel
theorem dX11_words_114 : decode cX11_words 114 = .ok (.ireturn, 1) := by decide +kernel
theorem dX11_wordlessFrom_0 : decode cX11_wordlessFrom 0 = .ok (.aload_n 0, 1) := by decide +kernel
theorem dX11_wordlessFrom_1 : decode cX11_wordlessFrom 1 = .ok (.getfield 171, 3) := by decide +kernel
theorem dX11_wordlessFrom_4 : decode cX11_wordlessFrom 4 = .ok (.iconst 0, 1) := by decide +kernel
theorem dX11_wordlessFrom_5 : decode cX11_wordlessFrom 5 = .ok (.iaload, 1) := by decide +kernel
theorem dX11_wordlessFrom_6 : decode cX11_wordlessFrom 6 = .ok (.istore_n 2, 1) := by decide +kernel
theorem dX11_wordlessFrom_7 : decode cX11_wordlessFrom 7 = .ok (.iload_n 2, 1) := by decide +kernel
theorem dX11_wordlessFrom_8 : decode cX11_wordlessFrom 8 = .ok (.ifCond .le 20, 3) := by decide +kernel
theorem dX11_wordlessFrom_11 : decode cX11_wordlessFrom 11 = .ok (.aload_n 0, 1) := by decide +kernel
theorem dX11_wordlessFrom_12 : decode cX11_wordlessFrom 12 = .ok (.iload_n 1, 1) := by decide +kernel
theorem dX11_wordlessFrom_13 : decode cX11_wordlessFrom 13 = .ok (.iload_n 2, 1) := by decide +kernel
theorem dX11_wordlessFrom_14 : decode cX11_wordlessFrom 14 = .ok (.iconst 1, 1) := by decide +kernel
theorem dX11_wordlessFrom_15 : decode cX11_wordlessFrom 15 = .ok (.isub, 1) := by decide +kernel
theorem dX11_wordlessFrom_16 : decode cX11_wordlessFrom 16 = .ok (.invokevirtual 282, 3) := by decide +kernel
theorem dX11_wordlessFrom_19 : decode cX11_wordlessFrom 19 = .ok (.ifCond .eq 9, 3) := by decide +kernel
theorem dX11_wordlessFrom_22 : decode cX11_wordlessFrom 22 = .ok (.iinc 2 (-1), 3) := by decide +kernel
theorem dX11_wordlessFrom_25 : decode cX11_wordlessFrom 25 = .ok (.goto (-18), 3) := by decide +kernel
theorem dX11_wordlessFrom_28 : decode cX11_wordlessFrom 28 = .ok (.iload_n 2, 1) := by decide +kernel
theorem dX11_wordlessFrom_29 : decode cX11_wordlessFrom 29 = .ok (.ireturn, 1) := by decide +kernel
theorem dX11_digitsIn_0 : decode cX11_digitsIn 0 = .ok (.iconst 0, 1) := by decide +kernel
theorem dX11_digitsIn_1 : decode cX11_digitsIn 1 = .ok (.istore_n 2, 1) := by decide +kernel
theorem dX11_digitsIn_2 : decode cX11_digitsIn 2 = .ok (.iconst 0, 1) := by decide +kernel
theorem dX11_digitsIn_3 : decode cX11_digitsIn 3 = .ok (.istore_n 3, 1) := by decide +kernel
theorem dX11_digitsIn_4 : decode cX11_digitsIn 4 = .ok (.iload_n 3, 1) := by decide +kernel
theorem dX11_digitsIn_5 : decode cX11_digitsIn 5 = .ok (.bipush 32, 2) := by decide +kernel
theorem dX11_digitsIn_7 : decode cX11_digitsIn 7 = .ok (.if_icmp .ge 31, 3) := by decide +kernel
theorem dX11_digitsIn_10 : decode cX11_digitsIn 10 = .ok (.iload_n 2, 1) := by decide +kernel
theorem dX11_digitsIn_11 : decode cX11_digitsIn 11 = .ok (.aload_n 0, 1) := by decide +kernel
theorem dX11_digitsIn_12 : decode cX11_digitsIn 12 = .ok (.getfield 189, 3) := by decide +kernel
theorem dX11_digitsIn_15 : decode cX11_digitsIn 15 = .ok (.bipush 32, 2) := by decide +kernel
theorem dX11_digitsIn_17 : decode cX11_digitsIn 17 = .ok (.iload_n 1, 1) := by decide +kernel
theorem dX11_digitsIn_18 : decode cX11_digitsIn 18 = .ok (.imul, 1) := by decide +kernel
theorem dX11_digitsIn_19 : decode cX11_digitsIn 19 = .ok (.iload_n 3, 1) := by decide +kernel
theorem dX11_digitsIn_20 : decode cX11_digitsIn 20 = .ok (.iadd, 1) := by decide +kernel
theorem dX11_digitsIn_21 : decode cX11_digitsIn 21 = .ok (.iaload, 1) := by decide +kernel
theorem dX11_digitsIn_22 : decode cX11_digitsIn 22 = .ok (.ifCond .ne 7, 3) := by decide +kernel
theorem dX11_digitsIn_25 : decode cX11_digitsIn 25 = .ok (.iconst 0, 1) := by decide +kernel
theorem dX11_digitsIn_26 : decode cX11_digitsIn 26 = .ok (.goto 4, 3) := by decide +kernel
theorem dX11_digitsIn_29 : decode cX11_digitsIn 29 = .ok (.iconst 1, 1) := by decide +kernel
theorem dX11_digitsIn_30 : decode cX11_digitsIn 30 = .ok (.iadd, 1) := by decide +kernel
theorem dX11_digitsIn_31 : decode cX11_digitsIn 31 = .ok (.istore_n 2, 1) := by decide +kernel
theorem dX11_digitsIn_32 : decode cX11_digitsIn 32 = .ok (.iinc 3 1, 3) := by decide +kernel
theorem dX11_digitsIn_35 : decode cX11_digitsIn 35 = .ok (.goto (-31), 3) := by decide +kernel
theorem dX11_digitsIn_38 : decode cX11_digitsIn 38 = .ok (.iload_n 2, 1) := by decide +kernel
theorem dX11_digitsIn_39 : decode cX11_digitsIn 39 = .ok (.ireturn, 1) := by decide +kernel
theorem dX11_mode_0 : decode cX11_mode 0 = .ok (.aload_n 0, 1) := by decide +kernel
theorem dX11_mode_1 : decode cX11_mode 1 = .ok (.iconst 0, 1) := by decide +kernel
theorem dX11_mode_2 : decode cX11_mode 2 = .ok (.putfield 5, 3) := by decide +kernel
theorem dX11_mode_5 : decode cX11_mode 5 = .ok (.aload_n 0, 1) := by decide +kernel
theorem dX11_mode_6 : decode cX11_mode 6 = .ok (.iload_n 1, 1) := by decide +kernel
theorem dX11_mode_7 : decode cX11_mode 7 = .ok (.invokevirtual 279, 3) := by decide +kernel
theorem dX11_mode_10 : decode cX11_mode 10 = .ok (.ifCond .ne 5, 3) := by decide +kernel
theorem dX11_mode_13 : decode cX11_mode 13 = .ok (.iconst (-1), 1) := by decide +kernel
theorem dX11_mode_14 : decode cX11_mode 14 = .ok (.ireturn, 1) := by decide +kernel
theorem dX11_mode_15 : decode cX11_mode 15 = .ok (.iload_n 2, 1) := by decide +kernel
theorem dX11_mode_16 : decode cX11_mode 16 = .ok (.tableswitch 68 0 4 #[36, 43, 50, 56, 62], 36) := by decide +kernel
theorem dX11_mode_52 : decode cX11_mode 52 = .ok (.aload_n 0, 1) := by decide +kernel
theorem dX11_mode_53 : decode cX11_mode 53 = .ok (.getfield 183, 3) := by decide +kernel
theorem dX11_mode_56 : decode cX11_mode 56 = .ok (.iload_n 1, 1) := by decide +kernel
theorem dX11_mode_57 : decode cX11_mode 57 = .ok (.iaload, 1) := by decide +kernel
theorem dX11_mode_58 : decode cX11_mode 58 = .ok (.ireturn, 1) := by decide +kernel
theorem dX11_mode_59 : decode cX11_mode 59 = .ok (.aload_n 0, 1) := by decide +kernel
theorem dX11_mode_60 : decode cX11_mode 60 = .ok (.getfield 186, 3) := by decide +kernel
theorem dX11_mode_63 : decode cX11_mode 63 = .ok (.iload_n 1, 1) := by decide +kernel
theorem dX11_mode_64 : decode cX11_mode 64 = .ok (.iaload, 1) := by decide +kernel
theorem dX11_mode_65 : decode cX11_mode 65 = .ok (.ireturn, 1) := by decide +kernel
theorem dX11_mode_66 : decode cX11_mode 66 = .ok (.aload_n 0, 1) := by decide +kernel
theorem dX11_mode_67 : decode cX11_mode 67 = .ok (.iload_n 1, 1) := by decide +kernel
theorem dX11_mode_68 : decode cX11_mode 68 = .ok (.invokevirtual 286, 3) := by decide +kernel
theorem dX11_mode_71 : decode cX11_mode 71 = .ok (.ireturn, 1) := by decide +kernel
theorem dX11_mode_72 : decode cX11_mode 72 = .ok (.aload_n 0, 1) := by decide +kernel
theorem dX11_mode_73 : decode cX11_mode 73 = .ok (.iload_n 1, 1) := by decide +kernel
theorem dX11_mode_74 : decode cX11_mode 74 = .ok (.invokevirtual 289, 3) := by decide +kernel
theorem dX11_mode_77 : decode cX11_mode 77 = .ok (.ireturn, 1) := by decide +kernel
theorem dX11_mode_78 : decode cX11_mode 78 = .ok (.aload_n 0, 1) := by decide +kernel
theorem dX11_mode_79 : decode cX11_mode 79 = .ok (.iload_n 1, 1) := by decide +kernel
theorem dX11_mode_80 : decode cX11_mode 80 = .ok (.invokevirtual 292, 3) := by decide +kernel
theorem dX11_mode_83 : decode cX11_mode 83 = .ok (.ireturn, 1) := by decide +kernel
theorem dX11_mode_84 : decode cX11_mode 84 = .ok (.iconst (-1), 1) := by decide +kernel
theorem dX11_mode_85 : decode cX11_mode 85 = .ok (.ireturn, 1) := by decide +kernel
theorem dX11_digit_0 : decode cX11_digit 0 = .ok (.aload_n 0, 1) := by decide +kernel
theorem dX11_digit_1 : decode cX11_digit 1 = .ok (.iconst 0, 1) := by decide +kernel
theorem dX11_digit_2 : decode cX11_digit 2 = .ok (.putfield 5, 3) := by decide +kernel
theorem dX11_digit_5 : decode cX11_digit 5 = .ok (.aload_n 0, 1) := by decide +kernel
theorem dX11_digit_6 : decode cX11_digit 6 = .ok (.iload_n 1, 1) := by decide +kernel
theorem dX11_digit_7 : decode cX11_digit 7 = .ok (.invokevirtual 279, 3) := by decide +kernel
theorem dX11_digit_10 : decode cX11_digit 10 = .ok (.ifCond .eq 29, 3) := by decide +kernel
theorem dX11_digit_13 : decode cX11_digit 13 = .ok (.iload_n 2, 1) := by decide +kernel
theorem dX11_digit_14 : decode cX11_digit 14 = .ok (.i2l, 1) := by decide +kernel
theorem dX11_digit_15 : decode cX11_digit 15 = .ok (.lconst 0, 1) := by decide +kernel
theorem dX11_digit_16 : decode cX11_digit 16 = .ok (.ldc2_w 295, 3) := by decide +kernel
theorem dX11_digit_19 : decode cX11_digit 19 = .ok (.invokestatic 65, 3) := by decide +kernel
theorem dX11_digit_22 : decode cX11_digit 22 = .ok (.ifCond .eq 17, 3) := by decide +kernel
theorem dX11_digit_25 : decode cX11_digit 25 = .ok (.aload_n 0, 1) := by decide +kernel
theorem dX11_digit_26 : decode cX11_digit 26 = .ok (.getfield 189, 3) := by decide +kernel
theorem dX11_digit_29 : decode cX11_digit 29 = .ok (.bipush 32, 2) := by decide +kernel
theorem dX11_digit_31 : decode cX11_digit 31 = .ok (.iload_n 1, 1) := by decide +kernel
theorem dX11_digit_32 : decode cX11_digit 32 = .ok (.imul, 1) := by decide +kernel
theorem dX11_digit_33 : decode cX11_digit 33 = .ok (.iload_n 2, 1) := by decide +kernel
theorem dX11_digit_34 : decode cX11_digit 34 = .ok (.iadd, 1) := by decide +kernel
theorem dX11_digit_35 : decode cX11_digit 35 = .ok (.iaload, 1) := by decide +kernel
theorem dX11_digit_36 : decode cX11_digit 36 = .ok (.goto 6, 3) := by decide +kernel
theorem dX11_digit_39 : decode cX11_digit 39 = .ok (.ldc_w 297, 3) := by decide +kernel
theorem dX11_digit_42 : decode cX11_digit 42 = .ok (.ireturn, 1) := by decide +kernel
theorem dX11_shifted_0 : decode cX11_shifted 0 = .ok (.iload 4, 2) := by decide +kernel
theorem dX11_shifted_2 : decode cX11_shifted 2 = .ok (.ifCond .ne 5, 3) := by decide +kernel
theorem dX11_shifted_5 : decode cX11_shifted 5 = .ok (.lload_n 2, 1) := by decide +kernel
theorem dX11_shifted_6 : decode cX11_shifted 6 = .ok (.lreturn, 1) := by decide +kernel
theorem dX11_shifted_7 : decode cX11_shifted 7 = .ok (.aload_n 0, 1) := by decide +kernel
theorem dX11_shifted_8 : decode cX11_shifted 8 = .ok (.getfield 196, 3) := by decide +kernel
theorem dX11_shifted_11 : decode cX11_shifted 11 = .ok (.iload_n 1, 1) := by decide +kernel
theorem dX11_shifted_12 : decode cX11_shifted 12 = .ok (.baload, 1) := by decide +kernel
theorem dX11_shifted_13 : decode cX11_shifted 13 = .ok (.ifCond .eq 17, 3) := by decide +kernel
theorem dX11_shifted_16 : decode cX11_shifted 16 = .ok (.lload_n 2, 1) := by decide +kernel
theorem dX11_shifted_17 : decode cX11_shifted 17 = .ok (.lconst 1, 1) := by decide +kernel
theorem dX11_shifted_18 : decode cX11_shifted 18 = .ok (.iload 4, 2) := by decide +kernel
theorem dX11_shifted_20 : decode cX11_shifted 20 = .ok (.iconst 1, 1) := by decide +kernel
theorem dX11_shifted_21 : decode cX11_shifted 21 = .ok (.isub, 1) := by decide +kernel
theorem dX11_shifted_22 : decode cX11_shifted 22 = .ok (.lshl, 1) := by decide +kernel
theorem dX11_shifted_23 : decode cX11_shifted 23 = .ok (.ladd, 1) := by decide +kernel
theorem dX11_shifted_24 : decode cX11_shifted 24 = .ok (.iload 4, 2) := by decide +kernel
theorem dX11_shifted_26 : decode cX11_shifted 26 = .ok (.lshr, 1) := by decide +kernel
theorem dX11_shifted_27 : decode cX11_shifted 27 = .ok (.goto 7, 3) := by decide +kernel
theorem dX11_shifted_30 : decode cX11_shifted 30 = .ok (.lload_n 2, 1) := by decide +kernel
theorem dX11_shifted_31 : decode cX11_shifted 31 = .ok (.iload 4, 2) := by decide +kernel
theorem dX11_shifted_33 : decode cX11_shifted 33 = .ok (.lshr, 1) := by decide +kernel
theorem dX11_shifted_34 : decode cX11_shifted 34 = .ok (.lreturn, 1) := by decide +kernel
theorem dX11_takenOut_0 : decode cX11_takenOut 0 = .ok (.lconst 0, 1) := by decide +kernel
theorem dX11_takenOut_1 : decode cX11_takenOut 1 = .ok (.lstore 5, 2) := by decide +kernel
theorem dX11_takenOut_3 : decode cX11_takenOut 3 = .ok (.iconst 0, 1) := by decide +kernel
theorem dX11_takenOut_4 : decode cX11_takenOut 4 = .ok (.istore 7, 2) := by decide +kernel
theorem dX11_takenOut_6 : decode cX11_takenOut 6 = .ok (.iload 7, 2) := by decide +kernel
theorem dX11_takenOut_8 : decode cX11_takenOut 8 = .ok (.bipush 32, 2) := by decide +kernel
theorem dX11_takenOut_10 : decode cX11_takenOut 10 = .ok (.if_icmp .ge 96, 3) := by decide +kernel
theorem dX11_takenOut_13 : decode cX11_takenOut 13 = .ok (.aload_n 0, 1) := by decide +kernel
theorem dX11_takenOut_14 : decode cX11_takenOut 14 = .ok (.getfield 189, 3) := by decide +kernel
theorem dX11_takenOut_17 : decode cX11_takenOut 17 = .ok (.bipush 32, 2) := by decide +kernel
theorem dX11_takenOut_19 : decode cX11_takenOut 19 = .ok (.aload_n 0, 1) := by decide +kernel
theorem dX11_takenOut_20 : decode cX11_takenOut 20 = .ok (.iload_n 1, 1) := by decide +kernel
theorem dX11_takenOut_21 : decode cX11_takenOut 21 = .ok (.iload_n 2, 1) := by decide +kernel
theorem dX11_takenOut_22 : decode cX11_takenOut 22 = .ok (.invokevirtual 180, 3) := by decide +kernel
theorem dX11_takenOut_25 : decode cX11_takenOut 25 = .ok (.imul, 1) := by decide +kernel
theorem dX11_takenOut_26 : decode cX11_takenOut 26 = .ok (.iload 7, 2) := by decide +kernel
theorem dX11_takenOut_28 : decode cX11_takenOut 28 = .ok (.iadd, 1) := by decide +kernel
theorem dX11_takenOut_29 : decode cX11_takenOut 29 = .ok (.iaload, 1) := by decide +kernel
theorem dX11_takenOut_30 : decode cX11_takenOut 30 = .ok (.istore 8, 2) := by decide +kernel
theorem dX11_takenOut_32 : decode cX11_takenOut 32 = .ok (.iload 8, 2) := by decide +kernel
theorem dX11_takenOut_34 : decode cX11_takenOut 34 = .ok (.ifCond .ne 6, 3) := by decide +kernel
theorem dX11_takenOut_37 : decode cX11_takenOut 37 = .ok (.goto 63, 3) := by decide +kernel
theorem dX11_takenOut_40 : decode cX11_takenOut 40 = .ok (.iload 7, 2) := by decide +kernel
theorem dX11_takenOut_42 : decode cX11_takenOut 42 = .ok (.aload_n 0, 1) := by decide +kernel
theorem dX11_takenOut_43 : decode cX11_takenOut 43 = .ok (.getfield 173, 3) := by decide +kernel
theorem dX11_takenOut_46 : decode cX11_takenOut 46 = .ok (.iload_n 1, 1) := by decide +kernel
theorem dX11_takenOut_47 : decode cX11_takenOut 47 = .ok (.iaload, 1) := by decide +kernel
theorem dX11_takenOut_48 : decode cX11_takenOut 48 = .ok (.if_icmp .le 17, 3) := by decide +kernel
theorem dX11_takenOut_51 : decode cX11_takenOut 51 = .ok (.lload_n 3, 1) := by decide +kernel
theorem dX11_takenOut_52 : decode cX11_takenOut 52 = .ok (.iload 7, 2) := by decide +kernel
theorem dX11_takenOut_54 : decode cX11_takenOut 54 = .ok (.aload_n 0, 1) := by decide +kernel
theorem dX11_takenOut_55 : decode cX11_takenOut 55 = .ok (.getfield 173, 3) := by decide +kernel
theorem dX11_takenOut_58 : decode cX11_takenOut 58 = .ok (.iload_n 1, 1) := by decide +kernel
theorem dX11_takenOut_59 : decode cX11_takenOut 59 = .ok (.iaload, 1) := by decide +kernel
theorem dX11_takenOut_60 : decode cX11_takenOut 60 = .ok (.isub, 1) := by decide +kernel
theorem dX11_takenOut_61 : decode cX11_takenOut 61 = .ok (.lshl, 1) := by decide +kernel
theorem dX11_takenOut_62 : decode cX11_takenOut 62 = .ok (.goto 18, 3) := by decide +kernel
theorem dX11_takenOut_65 : decode cX11_takenOut 65 = .ok (.aload_n 0, 1) := by decide +kernel
theorem dX11_takenOut_66 : decode cX11_takenOut 66 = .ok (.iload_n 1, 1) := by decide +kernel
theorem dX11_takenOut_67 : decode cX11_takenOut 67 = .ok (.lload_n 3, 1) := by decide +kernel
theorem dX11_takenOut_68 : decode cX11_takenOut 68 = .ok (.aload_n 0, 1) := by decide +kernel
theorem dX11_takenOut_69 : decode cX11_takenOut 69 = .ok (.getfield 173, 3) := by decide +kernel
theorem dX11_takenOut_72 : decode cX11_takenOut 72 = .ok (.iload_n 1, 1) := by decide +kernel
theorem dX11_takenOut_73 : decode cX11_takenOut 73 = .ok (.iaload, 1) := by decide +kernel
theorem dX11_takenOut_74 : decode cX11_takenOut 74 = .ok (.iload 7, 2) := by decide +kernel
theorem dX11_takenOut_76 : decode cX11_takenOut 76 = .ok (.isub, 1) := by decide +kernel
theorem dX11_takenOut_77 : decode cX11_takenOut 77 = .ok (.invokevirtual 298, 3) := by decide +kernel
theorem dX11_takenOut_80 : decode cX11_takenOut 80 = .ok (.lstore 9, 2) := by decide +kernel
theorem dX11_takenOut_82 : decode cX11_takenOut 82 = .ok (.lload 5, 2) := by decide +kernel
theorem dX11_takenOut_84 : decode cX11_takenOut 84 = .ok (.iload 8, 2) := by decide +kernel
theorem dX11_takenOut_86 : decode cX11_takenOut 86 = .ok (.ifCond .le 8, 3) := by decide +kernel
theorem dX11_takenOut_89 : decode cX11_takenOut 89 = .ok (.lload 9, 2) := by decide +kernel
theorem dX11_takenOut_91 : decode cX11_takenOut 91 = .ok (.goto 6, 3) := by decide +kernel
theorem dX11_takenOut_94 : decode cX11_takenOut 94 = .ok (.lload 9, 2) := by decide +kernel
theorem dX11_takenOut_96 : decode cX11_takenOut 96 = .ok (.lneg, 1) := by decide +kernel
theorem dX11_takenOut_97 : decode cX11_takenOut 97 = .ok (.ladd, 1) := by decide +kernel
theorem dX11_takenOut_98 : decode cX11_takenOut 98 = .ok (.lstore 5, 2) := by decide +kernel
theorem dX11_takenOut_100 : decode cX11_takenOut 100 = .ok (.iinc 7 1, 3) := by decide +kernel
theorem dX11_takenOut_103 : decode cX11_takenOut 103 = .ok (.goto (-97), 3) := by decide +kernel
theorem dX11_takenOut_106 : decode cX11_takenOut 106 = .ok (.lload 5, 2) := by decide +kernel
theorem dX11_takenOut_108 : decode cX11_takenOut 108 = .ok (.lreturn, 1) := by decide +kernel
theorem dX11_takenOut__0 : decode cX11_takenOut_ 0 = .ok (.aload_n 0, 1) := by decide +kernel
theorem dX11_takenOut__1 : decode cX11_takenOut_ 1 = .ok (.iconst 0, 1) := by decide +kernel
theorem dX11_takenOut__2 : decode cX11_takenOut_ 2 = .ok (.putfield 5, 3) := by decide +kernel
theorem dX11_takenOut__5 : decode cX11_takenOut_ 5 = .ok (.aload_n 0, 1) := by decide +kernel
theorem dX11_takenOut__6 : decode cX11_takenOut_ 6 = .ok (.iload_n 1, 1) := by decide +kernel
theorem dX11_takenOut__7 : decode cX11_takenOut_ 7 = .ok (.invokevirtual 279, 3) := by decide +kernel
theorem dX11_takenOut__10 : decode cX11_takenOut_ 10 = .ok (.ifCond .eq 29, 3) := by decide +kernel
theorem dX11_takenOut__13 : decode cX11_takenOut_ 13 = .ok (.iload_n 2, 1) := by decide +kernel
theorem dX11_takenOut__14 : decode cX11_takenOut_ 14 = .ok (.i2l, 1) := by decide +kernel
theorem dX11_takenOut__15 : decode cX11_takenOut_ 15 = .ok (.ldc2_w 302, 3) := by decide +kernel
theorem dX11_takenOut__18 : decode cX11_takenOut_ 18 = .ok (.ldc2_w 304, 3) := by decide +kernel
theorem dX11_takenOut__21 : decode cX11_takenOut_ 21 = .ok (.invokestatic 65, 3) := by decide +kernel
theorem dX11_takenOut__24 : decode cX11_takenOut_ 24 = .ok (.ifCond .eq 15, 3) := by decide +kernel
theorem dX11_takenOut__27 : decode cX11_takenOut_ 27 = .ok (.aload_n 0, 1) := by decide +kernel
theorem dX11_takenOut__28 : decode cX11_takenOut_ 28 = .ok (.iconst 0, 1) := by decide +kernel
theorem dX11_takenOut__29 : decode cX11_takenOut_ 29 = .ok (.iload_n 1, 1) := by decide +kernel
theorem dX11_takenOut__30 : decode cX11_takenOut_ 30 = .ok (.iload_n 2, 1) := by decide +kernel
theorem dX11_takenOut__31 : decode cX11_takenOut_ 31 = .ok (.i2l, 1) := by decide +kernel
theorem dX11_takenOut__32 : decode cX11_takenOut_ 32 = .ok (.invokevirtual 306, 3) := by decide +kernel
theorem dX11_takenOut__35 : decode cX11_takenOut_ 35 = .ok (.l2i, 1) := by decide +kernel
theorem dX11_takenOut__36 : decode cX11_takenOut_ 36 = .ok (.goto 6, 3) := by decide +kernel
theorem dX11_takenOut__39 : decode cX11_takenOut_ 39 = .ok (.ldc_w 297, 3) := by decide +kernel
theorem dX11_takenOut__42 : decode cX11_takenOut_ 42 = .ok (.ireturn, 1) := by decide +kernel
theorem dX11_isTurning_0 : decode cX11_isTurning 0 = .ok (.iload_n 0, 1) := by decide +kernel
theorem dX11_isTurning_1 : decode cX11_isTurning 1 = .ok (.iconst 1, 1) := by decide +kernel
theorem dX11_isTurning_2 : decode cX11_isTurning 2 = .ok (.if_icmp .eq 24, 3) := by decide +kernel
theorem dX11_isTurning_5 : decode cX11_isTurning 5 = .ok (.iload_n 0, 1) := by decide +kernel
theorem dX11_isTurning_6 : decode cX11_isTurning 6 = .ok (.iconst 3, 1) := by decide +kernel
theorem dX11_isTurning_7 : decode cX11_isTurning 7 = .ok (.if_icmp .eq 19, 3) := by decide +kernel
theorem dX11_isTurning_10 : decode cX11_isTurning 10 = .ok (.iload_n 0, 1) := by decide +kernel
theorem dX11_isTurning_11 : decode cX11_isTurning 11 = .ok (.bipush 6, 2) := by decide +kernel
theorem dX11_isTurning_13 : decode cX11_isTurning 13 = .ok (.if_icmp .eq 13, 3) := by decide +kernel
theorem dX11_isTurning_16 : decode cX11_isTurning 16 = .ok (.iload_n 0, 1) := by decide +kernel
theorem dX11_isTurning_17 : decode cX11_isTurning 17 = .ok (.bipush 7, 2) := by decide +kernel
theorem dX11_isTurning_19 : decode cX11_isTurning 19 = .ok (.if_icmp .eq 7, 3) := by decide +kernel
theorem dX11_isTurning_22 : decode cX11_isTurning 22 = .ok (.iconst 1, 1) := by decide +kernel
theorem dX11_isTurning_23 : decode cX11_isTurning 23 = .ok (.goto 4, 3) := by decide +kernel
theorem dX11_isTurning_26 : decode cX11_isTurning 26 = .ok (.iconst 0, 1) := by decide +kernel
theorem dX11_isTurning_27 : decode cX11_isTurning 27 = .ok (.ireturn, 1) := by decide +kernel
theorem dX11_isTo_0 : decode cX11_isTo 0 = .ok (.lload_n 0, 1) := by decide +kernel
theorem dX11_isTo_1 : decode cX11_isTo 1 = .ok (.lconst 1, 1) := by decide +kernel
theorem dX11_isTo_2 : decode cX11_isTo 2 = .ok (.iload_n 2, 1) := by decide +kernel
theorem dX11_isTo_3 : decode cX11_isTo 3 = .ok (.lshl, 1) := by decide +kernel
theorem dX11_isTo_4 : decode cX11_isTo 4 = .ok (.lneg, 1) := by decide +kernel
theorem dX11_isTo_5 : decode cX11_isTo 5 = .ok (.lconst 1, 1) := by decide +kernel
theorem dX11_isTo_6 : decode cX11_isTo 6 = .ok (.iload_n 2, 1) := by decide +kernel
theorem dX11_isTo_7 : decode cX11_isTo 7 = .ok (.lshl, 1) := by decide +kernel
theorem dX11_isTo_8 : decode cX11_isTo 8 = .ok (.invokestatic 65, 3) := by decide +kernel
theorem dX11_isTo_11 : decode cX11_isTo 11 = .ok (.ireturn, 1) := by decide +kernel
theorem dX11_bitsOf_0 : decode cX11_bitsOf 0 = .ok (.iconst 0, 1) := by decide +kernel
theorem dX11_bitsOf_1 : decode cX11_bitsOf 1 = .ok (.istore_n 2, 1) := by decide +kernel
theorem dX11_bitsOf_2 : decode cX11_bitsOf 2 = .ok (.lload_n 0, 1) := by decide +kernel
theorem dX11_bitsOf_3 : decode cX11_bitsOf 3 = .ok (.iload_n 2, 1) := by decide +kernel
theorem dX11_bitsOf_4 : decode cX11_bitsOf 4 = .ok (.lshr, 1) := by decide +kernel
theorem dX11_bitsOf_5 : decode cX11_bitsOf 5 = .ok (.lconst 0, 1) := by decide +kernel
theorem dX11_bitsOf_6 : decode cX11_bitsOf 6 = .ok (.lcmp, 1) := by decide +kernel
theorem dX11_bitsOf_7 : decode cX11_bitsOf 7 = .ok (.ifCond .le 9, 3) := by decide +kernel
theorem dX11_bitsOf_10 : decode cX11_bitsOf 10 = .ok (.iinc 2 1, 3) := by decide +kernel
theorem dX11_bitsOf_13 : decode cX11_bitsOf 13 = .ok (.goto (-11), 3) := by decide +kernel
theorem dX11_bitsOf_16 : decode cX11_bitsOf 16 = .ok (.iload_n 2, 1) := by decide +kernel
theorem dX11_bitsOf_17 : decode cX11_bitsOf 17 = .ok (.ireturn, 1) := by decide +kernel
theorem dX11_isGood_0 : decode cX11_isGood 0 = .ok (.aload_n 0, 1) := by decide +kernel
theorem dX11_isGood_1 : decode cX11_isGood 1 = .ok (.getfield 192, 3) := by decide +kernel
theorem dX11_isGood_4 : decode cX11_isGood 4 = .ok (.iload_n 1, 1) := by decide +kernel
theorem dX11_isGood_5 : decode cX11_isGood 5 = .ok (.iaload, 1) := by decide +kernel
theorem dX11_isGood_6 : decode cX11_isGood 6 = .ok (.istore 9, 2) := by decide +kernel
theorem dX11_isGood_8 : decode cX11_isGood 8 = .ok (.iload_n 2, 1) := by decide +kernel
theorem dX11_isGood_9 : decode cX11_isGood 9 = .ok (.tableswitch 218 0 7 #[47, 56, 98, 127, 179, 186, 195, 195], 47) := by decide +kernel
theorem dX11_isGood_56 : decode cX11_isGood 56 = .ok (.lload_n 3, 1) := by decide +kernel
theorem dX11_isGood_57 : decode cX11_isGood 57 = .ok (.iload 9, 2) := by decide +kernel
theorem dX11_isGood_59 : decode cX11_isGood 59 = .ok (.iconst 5, 1) := by decide +kernel
theorem dX11_isGood_60 : decode cX11_isGood 60 = .ok (.iadd, 1) := by decide +kernel
theorem dX11_isGood_61 : decode cX11_isGood 61 = .ok (.invokestatic 310, 3) := by decide +kernel
theorem dX11_isGood_64 : decode cX11_isGood 64 = .ok (.ireturn, 1) := by decide +kernel
theorem dX11_isGood_65 : decode cX11_isGood 65 = .ok (.lload_n 3, 1) := by decide +kernel
theorem dX11_isGood_66 : decode cX11_isGood 66 = .ok (.iload 9, 2) := by decide +kernel
theorem dX11_isGood_68 : decode cX11_isGood 68 = .ok (.iconst 5, 1) := by decide +kernel
theorem dX11_isGood_69 : decode cX11_isGood 69 = .ok (.iadd, 1) := by decide +kernel
theorem dX11_isGood_70 : decode cX11_isGood 70 = .ok (.invokestatic 310, 3) := by decide +kernel
theorem dX11_isGood_73 : decode cX11_isGood 73 = .ok (.ifCond .eq 32, 3) := by decide +kernel
theorem dX11_isGood_76 : decode cX11_isGood 76 = .ok (.lload 5, 2) := by decide +kernel
theorem dX11_isGood_78 : decode cX11_isGood 78 = .ok (.iload 9, 2) := by decide +kernel
theorem dX11_isGood_80 : decode cX11_isGood 80 = .ok (.iconst 5, 1) := by decide +kernel
theorem dX11_isGood_81 : decode cX11_isGood 81 = .ok (.iadd, 1) := by decide +kernel
theorem dX11_isGood_82 : decode cX11_isGood 82 = .ok (.invokestatic 310, 3) := by decide +kernel
theorem dX11_isGood_85 : decode cX11_isGood 85 = .ok (.ifCond .eq 20, 3) := by decide +kernel
theorem dX11_isGood_88 : decode cX11_isGood 88 = .ok (.lload_n 3, 1) := by decide +kernel
theorem dX11_isGood_89 : decode cX11_isGood 89 = .ok (.lconst 0, 1) := by decide +kernel
theorem dX11_isGood_90 : decode cX11_isGood 90 = .ok (.lcmp, 1) := by decide +kernel
theorem dX11_isGood_91 : decode cX11_isGood 91 = .ok (.ifCond .ne 10, 3) := by decide +kernel
theorem dX11_isGood_94 : decode cX11_isGood 94 = .ok (.lload 5, 2) := by decide +kernel
theorem dX11_isGood_96 : decode cX11_isGood 96 = .ok (.lconst 0, 1) := by decide +kernel
theorem dX11_isGood_97 : decode cX11_isGood 97 = .ok (.lcmp, 1) := by decide +kernel
theorem dX11_isGood_98 : decode cX11_isGood 98 = .ok (.ifCond .eq 7, 3) := by decide +kernel
theorem dX11_isGood_101 : decode cX11_isGood 101 = .ok (.iconst 1, 1) := by decide +kernel
theorem dX11_isGood_102 : decode cX11_isGood 102 = .ok (.goto 4, 3) := by decide +kernel
theorem dX11_isGood_105 : decode cX11_isGood 105 = .ok (.iconst 0, 1) := by decide +kernel
theorem dX11_isGood_106 : decode cX11_isGood 106 = .ok (.ireturn, 1) := by decide +kernel
theorem dX11_isGood_107 : decode cX11_isGood 107 = .ok (.lload_n 3, 1) := by decide +kernel
theorem dX11_isGood_108 : decode cX11_isGood 108 = .ok (.iload 9, 2) := by decide +kernel
theorem dX11_isGood_110 : decode cX11_isGood 110 = .ok (.iconst 4, 1) := by decide +kernel
theorem dX11_isGood_111 : decode cX11_isGood 111 = .ok (.iadd, 1) := by decide +kernel
theorem dX11_isGood_112 : decode cX11_isGood 112 = .ok (.invokestatic 310, 3) := by decide +kernel
theorem dX11_isGood_115 : decode cX11_isGood 115 = .ok (.ifCond .eq 19, 3) := by decide +kernel
theorem dX11_isGood_118 : decode cX11_isGood 118 = .ok (.lload 5, 2) := by decide +kernel
theorem dX11_isGood_120 : decode cX11_isGood 120 = .ok (.iload 9, 2) := by decide +kernel
theorem dX11_isGood_122 : decode cX11_isGood 122 = .ok (.iconst 4, 1) := by decide +kernel
theorem dX11_isGood_123 : decode cX11_isGood 123 = .ok (.iadd, 1) := by decide +kernel
theorem dX11_isGood_124 : decode cX11_isGood 124 = .ok (.invokestatic 310, 3) := by decide +kernel
theorem dX11_isGood_127 : decode cX11_isGood 127 = .ok (.ifCond .eq 7, 3) := by decide +kernel
theorem dX11_isGood_130 : decode cX11_isGood 130 = .ok (.iconst 1, 1) := by decide +kernel
theorem dX11_isGood_131 : decode cX11_isGood 131 = .ok (.goto 4, 3) := by decide +kernel
theorem dX11_isGood_134 : decode cX11_isGood 134 = .ok (.iconst 0, 1) := by decide +kernel
theorem dX11_isGood_135 : decode cX11_isGood 135 = .ok (.ireturn, 1) := by decide +kernel
theorem dX11_isGood_136 : decode cX11_isGood 136 = .ok (.lload_n 3, 1) := by decide +kernel
theorem dX11_isGood_137 : decode cX11_isGood 137 = .ok (.iload 9, 2) := by decide +kernel
theorem dX11_isGood_139 : decode cX11_isGood 139 = .ok (.iconst 4, 1) := by decide +kernel
theorem dX11_isGood_140 : decode cX11_isGood 140 = .ok (.iadd, 1) := by decide +kernel
theorem dX11_isGood_141 : decode cX11_isGood 141 = .ok (.invokestatic 310, 3) := by decide +kernel
theorem dX11_isGood_144 : decode cX11_isGood 144 = .ok (.ifCond .eq 42, 3) := by decide +kernel
theorem dX11_isGood_147 : decode cX11_isGood 147 = .ok (.lload 5, 2) := by decide +kernel
theorem dX11_isGood_149 : decode cX11_isGood 149 = .ok (.iload 9, 2) := by decide +kernel
theorem dX11_isGood_151 : decode cX11_isGood 151 = .ok (.iconst 4, 1) := by decide +kernel
theorem dX11_isGood_152 : decode cX11_isGood 152 = .ok (.iadd, 1) := by decide +kernel
theorem dX11_isGood_153 : decode cX11_isGood 153 = .ok (.invokestatic 310, 3) := by decide +kernel
theorem dX11_isGood_156 : decode cX11_isGood 156 = .ok (.ifCond .eq 30, 3) := by decide +kernel
theorem dX11_isGood_159 : decode cX11_isGood 159 = .ok (.lload 5, 2) := by decide +kernel
theorem dX11_isGood_161 : decode cX11_isGood 161 = .ok (.lconst 0, 1) := by decide +kernel
theorem dX11_isGood_162 : decode cX11_isGood 162 = .ok (.lcmp, 1) := by decide +kernel
theorem dX11_isGood_163 : decode cX11_isGood 163 = .ok (.ifCond .eq 23, 3) := by decide +kernel
theorem dX11_isGood_166 : decode cX11_isGood 166 = .ok (.lload_n 3, 1) := by decide +kernel
theorem dX11_isGood_167 : decode cX11_isGood 167 = .ok (.invokestatic 314, 3) := by decide +kernel
theorem dX11_isGood_170 : decode cX11_isGood 170 = .ok (.lload 5, 2) := by decide +kernel
theorem dX11_isGood_172 : decode cX11_isGood 172 = .ok (.invokestatic 314, 3) := by decide +kernel
theorem dX11_isGood_175 : decode cX11_isGood 175 = .ok (.bipush 6, 2) := by decide +kernel
theorem dX11_isGood_177 : decode cX11_isGood 177 = .ok (.lshl, 1) := by decide +kernel
theorem dX11_isGood_178 : decode cX11_isGood 178 = .ok (.lcmp, 1) := by decide +kernel
theorem dX11_isGood_179 : decode cX11_isGood 179 = .ok (.ifCond .gt 7, 3) := by decide +kernel
theorem dX11_isGood_182 : decode cX11_isGood 182 = .ok (.iconst 1, 1) := by decide +kernel
theorem dX11_isGood_183 : decode cX11_isGood 183 = .ok (.goto 4, 3) := by decide +kernel
theorem dX11_isGood_186 : decode cX11_isGood 186 = .ok (.iconst 0, 1) := by decide +kernel
theorem dX11_isGood_187 : decode cX11_isGood 187 = .ok (.ireturn, 1) := by decide +kernel
theorem dX11_isGood_188 : decode cX11_isGood 188 = .ok (.lload_n 3, 1) := by decide +kernel
theorem dX11_isGood_189 : decode cX11_isGood 189 = .ok (.iload 9, 2) := by decide +kernel
theorem dX11_isGood_191 : decode cX11_isGood 191 = .ok (.invokestatic 310, 3) := by decide +kernel
theorem dX11_isGood_194 : decode cX11_isGood 194 = .ok (.ireturn, 1) := by decide +kernel
theorem dX11_isGood_195 : decode cX11_isGood 195 = .ok (.lload_n 3, 1) := by decide +kernel
theorem dX11_isGood_196 : decode cX11_isGood 196 = .ok (.iload 9, 2) := by decide +kernel
theorem dX11_isGood_198 : decode cX11_isGood 198 = .ok (.iconst 2, 1) := by decide +kernel
theorem dX11_isGood_199 : decode cX11_isGood 199 = .ok (.iadd, 1) := by decide +kernel
theorem dX11_isGood_200 : decode cX11_isGood 200 = .ok (.invokestatic 310, 3) := by decide +kernel
theorem dX11_isGood_203 : decode cX11_isGood 203 = .ok (.ireturn, 1) := by decide +kernel
theorem dX11_isGood_204 : decode cX11_isGood 204 = .ok (.lload_n 3, 1) := by decide +kernel
theorem dX11_isGood_205 : decode cX11_isGood 205 = .ok (.lconst 0, 1) := by decide +kernel
theorem dX11_isGood_206 : decode cX11_isGood 206 = .ok (.lcmp, 1) := by decide +kernel
theorem dX11_isGood_207 : decode cX11_isGood 207 = .ok (.ifCond .le 18, 3) := by decide +kernel
theorem dX11_isGood_210 : decode cX11_isGood 210 = .ok (.lload_n 3, 1) := by decide +kernel
theorem dX11_isGood_211 : decode cX11_isGood 211 = .ok (.iload 9, 2) := by decide +kernel
theorem dX11_isGood_213 : decode cX11_isGood 213 = .ok (.iconst 5, 1) := by decide +kernel
theorem dX11_isGood_214 : decode cX11_isGood 214 = .ok (.iadd, 1) := by decide +kernel
theorem dX11_isGood_215 : decode cX11_isGood 215 = .ok (.invokestatic 310, 3) := by decide +kernel
theorem dX11_isGood_218 : decode cX11_isGood 218 = .ok (.ifCond .eq 7, 3) := by decide +kernel
theorem dX11_isGood_221 : decode cX11_isGood 221 = .ok (.iconst 1, 1) := by decide +kernel
theorem dX11_isGood_222 : decode cX11_isGood 222 = .ok (.goto 4, 3) := by decide +kernel
theorem dX11_isGood_225 : decode cX11_isGood 225 = .ok (.iconst 0, 1) := by decide +kernel
theorem dX11_isGood_226 : decode cX11_isGood 226 = .ok (.ireturn, 1) := by decide +kernel
theorem dX11_isGood_227 : decode cX11_isGood 227 = .ok (.lload_n 3, 1) := by decide +kernel
theorem dX11_isGood_228 : decode cX11_isGood 228 = .ok (.iload 9, 2) := by decide +kernel
theorem dX11_isGood_230 : decode cX11_isGood 230 = .ok (.iconst 4, 1) := by decide +kernel
theorem dX11_isGood_231 : decode cX11_isGood 231 = .ok (.iadd, 1) := by decide +kernel
theorem dX11_isGood_232 : decode cX11_isGood 232 = .ok (.invokestatic 310, 3) := by decide +kernel
theorem dX11_isGood_235 : decode cX11_isGood 235 = .ok (.ifCond .eq 31, 3) := by decide +kernel
theorem dX11_isGood_238 : decode cX11_isGood 238 = .ok (.lload 5, 2) := by decide +kernel
theorem dX11_isGood_240 : decode cX11_isGood 240 = .ok (.iload 9, 2) := by decide +kernel
theorem dX11_isGood_242 : decode cX11_isGood 242 = .ok (.iconst 4, 1) := by decide +kernel
theorem dX11_isGood_243 : decode cX11_isGood 243 = .ok (.iadd, 1) := by decide +kernel
theorem dX11_isGood_244 : decode cX11_isGood 244 = .ok (.invokestatic 310, 3) := by decide +kernel
theorem dX11_isGood_247 : decode cX11_isGood 247 = .ok (.ifCond .eq 19, 3) := by decide +kernel
theorem dX11_isGood_250 : decode cX11_isGood 250 = .ok (.lload 7, 2) := by decide +kernel
theorem dX11_isGood_252 : decode cX11_isGood 252 = .ok (.iload 9, 2) := by decide +kernel
theorem dX11_isGood_254 : decode cX11_isGood 254 = .ok (.iconst 5, 1) := by decide +kernel
theorem dX11_isGood_255 : decode cX11_isGood 255 = .ok (.iadd, 1) := by decide +kernel
theorem dX11_isGood_256 : decode cX11_isGood 256 = .ok (.invokestatic 310, 3) := by decide +kernel
theorem dX11_isGood_259 : decode cX11_isGood 259 = .ok (.ifCond .eq 7, 3) := by decide +kernel
theorem dX11_isGood_262 : decode cX11_isGood 262 = .ok (.iconst 1, 1) := by decide +kernel
theorem dX11_isGood_263 : decode cX11_isGood 263 = .ok (.goto 4, 3) := by decide +kernel
theorem dX11_isGood_266 : decode cX11_isGood 266 = .ok (.iconst 0, 1) := by decide +kernel
theorem dX11_isGood_267 : decode cX11_isGood 267 = .ok (.ireturn, 1) := by decide +kernel
theorem dX11_quarters_0 : decode cX11_quarters 0 = .ok (.ldc2_w 178, 3) := by decide +kernel
theorem dX11_quarters_3 : decode cX11_quarters 3 = .ok (.lload_n 2, 1) := by decide +kernel
theorem dX11_quarters_4 : decode cX11_quarters 4 = .ok (.lmul, 1) := by decide +kernel
theorem dX11_quarters_5 : decode cX11_quarters 5 = .ok (.aload_n 0, 1) := by decide +kernel
theorem dX11_quarters_6 : decode cX11_quarters 6 = .ok (.getfield 199, 3) := by decide +kernel
theorem dX11_quarters_9 : decode cX11_quarters 9 = .ok (.iload_n 1, 1) := by decide +kernel
theorem dX11_quarters_10 : decode cX11_quarters 10 = .ok (.laload, 1) := by decide +kernel
theorem dX11_quarters_11 : decode cX11_quarters 11 = .ok (.ladd, 1) := by decide +kernel
theorem dX11_quarters_12 : decode cX11_quarters 12 = .ok (.ldc2_w 178, 3) := by decide +kernel
theorem dX11_quarters_15 : decode cX11_quarters 15 = .ok (.aload_n 0, 1) := by decide +kernel
theorem dX11_quarters_16 : decode cX11_quarters 16 = .ok (.getfield 199, 3) := by decide +kernel
theorem dX11_quarters_19 : decode cX11_quarters 19 = .ok (.iload_n 1, 1) := by decide +kernel
theorem dX11_quarters_20 : decode cX11_quarters 20 = .ok (.laload, 1) := by decide +kernel
theorem dX11_quarters_21 : decode cX11_quarters 21 = .ok (.lmul, 1) := by decide +kernel
theorem dX11_quarters_22 : decode cX11_quarters 22 = .ok (.invokestatic 320, 3) := by decide +kernel
theorem dX11_quarters_25 : decode cX11_quarters 25 = .ok (.l2i, 1) := by decide +kernel
theorem dX11_quarters_26 : decode cX11_quarters 26 = .ok (.ireturn, 1) := by decide +kernel
theorem dX11_turns_0 : decode cX11_turns 0 = .ok (.iload_n 1, 1) := by decide +kernel
theorem dX11_turns_1 : decode cX11_turns 1 = .ok (.iconst 3, 1) := by decide +kernel
theorem dX11_turns_2 : decode cX11_turns 2 = .ok (.iand, 1) := by decide +kernel
theorem dX11_turns_3 : decode cX11_turns 3 = .ok (.istore 6, 2) := by decide +kernel
theorem dX11_turns_5 : decode cX11_turns 5 = .ok (.aload_n 0, 1) := by decide +kernel
theorem dX11_turns_6 : decode cX11_turns 6 = .ok (.iload 6, 2) := by decide +kernel
theorem dX11_turns_8 : decode cX11_turns 8 = .ok (.ifCond .ne 7, 3) := by decide +kernel
theorem dX11_turns_11 : decode cX11_turns 11 = .ok (.lload_n 2, 1) := by decide +kernel
theorem dX11_turns_12 : decode cX11_turns 12 = .ok (.goto 28, 3) := by decide +kernel
theorem dX11_turns_15 : decode cX11_turns 15 = .ok (.iload 6, 2) := by decide +kernel
theorem dX11_turns_17 : decode cX11_turns 17 = .ok (.iconst 1, 1) := by decide +kernel
theorem dX11_turns_18 : decode cX11_turns 18 = .ok (.if_icmp .ne 9, 3) := by decide +kernel
theorem dX11_turns_21 : decode cX11_turns 21 = .ok (.lload 4, 2) := by decide +kernel
theorem dX11_turns_23 : decode cX11_turns 23 = .ok (.lneg, 1) := by decide +kernel
theorem dX11_turns_24 : decode cX11_turns 24 = .ok (.goto 16, 3) := by decide +kernel
theorem dX11_turns_27 : decode cX11_turns 27 = .ok (.iload 6, 2) := by decide +kernel
theorem dX11_turns_29 : decode cX11_turns 29 = .ok (.iconst 2, 1) := by decide +kernel
theorem dX11_turns_30 : decode cX11_turns 30 = .ok (.if_icmp .ne 8, 3) := by decide +kernel
theorem dX11_turns_33 : decode cX11_turns 33 = .ok (.lload_n 2, 1) := by decide +kernel
theorem dX11_turns_34 : decode cX11_turns 34 = .ok (.lneg, 1) := by decide +kernel
theorem dX11_turns_35 : decode cX11_turns 35 = .ok (.goto 5, 3) := by decide +kernel
theorem dX11_turns_38 : decode cX11_turns 38 = .ok (.lload 4, 2) := by decide +kernel
theorem dX11_turns_40 : decode cX11_turns 40 = .ok (.putfield 324, 3) := by decide +kernel
theorem dX11_turns_43 : decode cX11_turns 43 = .ok (.aload_n 0, 1) := by decide +kernel
theorem dX11_turns_44 : decode cX11_turns 44 = .ok (.iload 6, 2) := by decide +kernel
theorem dX11_turns_46 : decode cX11_turns 46 = .ok (.ifCond .ne 8, 3) := by decide +kernel
theorem dX11_turns_49 : decode cX11_turns 49 = .ok (.lload 4, 2) := by decide +kernel
theorem dX11_turns_51 : decode cX11_turns 51 = .ok (.goto 27, 3) := by decide +kernel
theorem dX11_turns_54 : decode cX11_turns 54 = .ok (.iload 6, 2) := by decide +kernel
theorem dX11_turns_56 : decode cX11_turns 56 = .ok (.iconst 1, 1) := by decide +kernel
theorem dX11_turns_57 : decode cX11_turns 57 = .ok (.if_icmp .ne 7, 3) := by decide +kernel
theorem dX11_turns_60 : decode cX11_turns 60 = .ok (.lload_n 2, 1) := by decide +kernel
theorem dX11_turns_61 : decode cX11_turns 61 = .ok (.goto 17, 3) := by decide +kernel
theorem dX11_turns_64 : decode cX11_turns 64 = .ok (.iload 6, 2) := by decide +kernel
theorem dX11_turns_66 : decode cX11_turns 66 = .ok (.iconst 2, 1) := by decide +kernel
theorem dX11_turns_67 : decode cX11_turns 67 = .ok (.if_icmp .ne 9, 3) := by decide +kernel
theorem dX11_turns_70 : decode cX11_turns 70 = .ok (.lload 4, 2) := by decide +kernel
theorem dX11_turns_72 : decode cX11_turns 72 = .ok (.lneg, 1) := by decide +kernel
theorem dX11_turns_73 : decode cX11_turns 73 = .ok (.goto 5, 3) := by decide +kernel
theorem dX11_turns_76 : decode cX11_turns 76 = .ok (.lload_n 2, 1) := by decide +kernel
theorem dX11_turns_77 : decode cX11_turns 77 = .ok (.lneg, 1) := by decide +kernel
theorem dX11_turns_78 : decode cX11_turns 78 = .ok (.putfield 328, 3) := by decide +kernel
theorem dX11_turns_81 : decode cX11_turns 81 = .ok (.return_, 1) := by decide +kernel
theorem dX11_moved_0 : decode cX11_moved 0 = .ok (.iload 4, 2) := by decide +kernel
theorem dX11_moved_2 : decode cX11_moved 2 = .ok (.ifCond .lt 14, 3) := by decide +kernel
theorem dX11_moved_5 : decode cX11_moved 5 = .ok (.aload_n 0, 1) := by decide +kernel
theorem dX11_moved_6 : decode cX11_moved 6 = .ok (.iload_n 1, 1) := by decide +kernel
theorem dX11_moved_7 : decode cX11_moved 7 = .ok (.lload_n 2, 1) := by decide +kernel
theorem dX11_moved_8 : decode cX11_moved 8 = .ok (.iload 4, 2) := by decide +kernel
theorem dX11_moved_10 : decode cX11_moved 10 = .ok (.invokevirtual 298, 3) := by decide +kernel
theorem dX11_moved_13 : decode cX11_moved 13 = .ok (.goto 8, 3) := by decide +kernel
theorem dX11_moved_16 : decode cX11_moved 16 = .ok (.lload_n 2, 1) := by decide +kernel
theorem dX11_moved_17 : decode cX11_moved 17 = .ok (.iload 4, 2) := by decide +kernel
theorem dX11_moved_19 : decode cX11_moved 19 = .ok (.ineg, 1) := by decide +kernel
theorem dX11_moved_20 : decode cX11_moved 20 = .ok (.lshl, 1) := by decide +kernel
theorem dX11_moved_21 : decode cX11_moved 21 = .ok (.lreturn, 1) := by decide +kernel
theorem dX11_begins_0 : decode cX11_begins 0 = .ok (.lload_n 3, 1) := by decide +kernel
theorem dX11_begins_1 : decode cX11_begins 1 = .ok (.aload_n 0, 1) := by decide +kernel
theorem dX11_begins_2 : decode cX11_begins 2 = .ok (.getfield 194, 3) := by decide +kernel
theorem dX11_begins_5 : decode cX11_begins 5 = .ok (.iload_n 1, 1) := by decide +kernel
theorem dX11_begins_6 : decode cX11_begins 6 = .ok (.iaload, 1) := by decide +kernel
theorem dX11_begins_7 : decode cX11_begins 7 = .ok (.lshl, 1) := by decide +kernel
theorem dX11_begins_8 : decode cX11_begins 8 = .ok (.lstore 9, 2) := by decide +kernel
theorem dX11_begins_10 : decode cX11_begins 10 = .ok (.lload 5, 2) := by decide +kernel
theorem dX11_begins_12 : decode cX11_begins 12 = .ok (.aload_n 0, 1) := by decide +kernel
theorem dX11_begins_13 : decode cX11_begins 13 = .ok (.getfield 194, 3) := by decide +kernel
theorem dX11_begins_16 : decode cX11_begins 16 = .ok (.iload_n 1, 1) := by decide +kernel
theorem dX11_begins_17 : decode cX11_begins 17 = .ok (.iaload, 1) := by decide +kernel
theorem dX11_begins_18 : decode cX11_begins 18 = .ok (.lshl, 1) := by decide +kernel
theorem dX11_begins_19 : decode cX11_begins 19 = .ok (.lstore 11, 2) := by decide +kernel
theorem dX11_begins_21 : decode cX11_begins 21 = .ok (.aload_n 0, 1) := by decide +kernel
theorem dX11_begins_22 : decode cX11_begins 22 = .ok (.getfield 173, 3) := by decide +kernel
theorem dX11_begins_25 : decode cX11_begins 25 = .ok (.iload_n 1, 1) := by decide +kernel
theorem dX11_begins_26 : decode cX11_begins 26 = .ok (.iaload, 1) := by decide +kernel
theorem dX11_begins_27 : decode cX11_begins 27 = .ok (.istore 13, 2) := by decide +kernel
theorem dX11_begins_29 : decode cX11_begins 29 = .ok (.aload_n 0, 1) := by decide +kernel
theorem dX11_begins_30 : decode cX11_begins 30 = .ok (.lconst 0, 1) := by decide +kernel
theorem dX11_begins_31 : decode cX11_begins 31 = .ok (.putfield 331, 3) := by decide +kernel
theorem dX11_begins_34 : decode cX11_begins 34 = .ok (.aload_n 0, 1) := by decide +kernel
theorem dX11_begins_35 : decode cX11_begins 35 = .ok (.lconst 0, 1) := by decide +kernel
theorem dX11_begins_36 : decode cX11_begins 36 = .ok (.putfield 334, 3) := by decide +kernel
theorem dX11_begins_39 : decode cX11_begins 39 = .ok (.aload_n 0, 1) := by decide +kernel
theorem dX11_begins_40 : decode cX11_begins 40 = .ok (.iconst 0, 1) := by decide +kernel
theorem dX11_begins_41 : decode cX11_begins 41 = .ok (.putfield 337, 3) := by decide +kernel
theorem dX11_begins_44 : decode cX11_begins 44 = .ok (.iload_n 2, 1) := by decide +kernel
theorem dX11_begins_45 : decode cX11_begins 45 = .ok (.tableswitch 516 0 7 #[47, 94, 178, 231, 306, 329, 396, 449], 47) := by decide +kernel
theorem dX11_begins_92 : decode cX11_begins 92 = .ok (.aload_n 0, 1) := by decide +kernel
theorem dX11_begins_93 : decode cX11_begins 93 = .ok (.aload_n 0, 1) := by decide +kernel
theorem dX11_begins_94 : decode cX11_begins 94 = .ok (.iload_n 1, 1) := by decide +kernel
theorem dX11_begins_95 : decode cX11_begins 95 = .ok (.lload 9, 2) := by decide +kernel
theorem dX11_begins_97 : decode cX11_begins 97 = .ok (.invokevirtual 340, 3) := by decide +kernel
theorem dX11_begins_100 : decode cX11_begins 100 = .ok (.putfield 337, 3) := by decide +kernel
theorem dX11_begins_103 : decode cX11_begins 103 = .ok (.aload_n 0, 1) := by decide +kernel
theorem dX11_begins_104 : decode cX11_begins 104 = .ok (.aload_n 0, 1) := by decide +kernel
theorem dX11_begins_105 : decode cX11_begins 105 = .ok (.getfield 186, 3) := by decide +kernel
theorem dX11_begins_108 : decode cX11_begins 108 = .ok (.aload_n 0, 1) := by decide +kernel
theorem dX11_begins_109 : decode cX11_begins 109 = .ok (.iload_n 1, 1) := by decide +kernel
theorem dX11_begins_110 : decode cX11_begins 110 = .ok (.iconst 0, 1) := by decide +kernel
theorem dX11_begins_111 : decode cX11_begins 111 = .ok (.invokevirtual 180, 3) := by decide +kernel
theorem dX11_begins_114 : decode cX11_begins 114 = .ok (.iaload, 1) := by decide +kernel
theorem dX11_begins_115 : decode cX11_begins 115 = .ok (.i2l, 1) := by decide +kernel
theorem dX11_begins_116 : decode cX11_begins 116 = .ok (.putfield 344, 3) := by decide +kernel
theorem dX11_begins_119 : decode cX11_begins 119 = .ok (.aload_n 0, 1) := by decide +kernel
theorem dX11_begins_120 : decode cX11_begins 120 = .ok (.lload 9, 2) := by decide +kernel
theorem dX11_begins_122 : decode cX11_begins 122 = .ok (.aload_n 0, 1) := by decide +kernel
theorem dX11_begins_123 : decode cX11_begins 123 = .ok (.getfield 337, 3) := by decide +kernel
theorem dX11_begins_126 : decode cX11_begins 126 = .ok (.i2l, 1) := by decide +kernel
theorem dX11_begins_127 : decode cX11_begins 127 = .ok (.aload_n 0, 1) := by decide +kernel
theorem dX11_begins_128 : decode cX11_begins 128 = .ok (.getfield 199, 3) := by decide +kernel
theorem dX11_begins_131 : decode cX11_begins 131 = .ok (.iload_n 1, 1) := by decide +kernel
theorem dX11_begins_132 : decode cX11_begins 132 = .ok (.laload, 1) := by decide +kernel
theorem dX11_begins_133 : decode cX11_begins 133 = .ok (.lmul, 1) := by decide +kernel
theorem dX11_begins_134 : decode cX11_begins 134 = .ok (.lsub, 1) := by decide +kernel
theorem dX11_begins_135 : decode cX11_begins 135 = .ok (.putfield 331, 3) := by decide +kernel
theorem dX11_begins_138 : decode cX11_begins 138 = .ok (.return_, 1) := by decide +kernel
theorem dX11_begins_139 : decode cX11_begins 139 = .ok (.aload_n 0, 1) := by decide +kernel
theorem dX11_begins_140 : decode cX11_begins 140 = .ok (.lload 9, 2) := by decide +kernel
theorem dX11_begins_142 : decode cX11_begins 142 = .ok (.lconst 0, 1) := by decide +kernel
theorem dX11_begins_143 : decode cX11_begins 143 = .ok (.lcmp, 1) := by decide +kernel
theorem dX11_begins_144 : decode cX11_begins 144 = .ok (.ifCond .ge 9, 3) := by decide +kernel
theorem dX11_begins_147 : decode cX11_begins 147 = .ok (.lload 9, 2) := by decide +kernel
theorem dX11_begins_149 : decode cX11_begins 149 = .ok (.lneg, 1) := by decide +kernel
theorem dX11_begins_150 : decode cX11_begins 150 = .ok (.goto 5, 3) := by decide +kernel
theorem dX11_begins_153 : decode cX11_begins 153 = .ok (.lload 9, 2) := by decide +kernel
theorem dX11_begins_155 : decode cX11_begins 155 = .ok (.putfield 344, 3) := by decide +kernel
theorem dX11_begins_158 : decode cX11_begins 158 = .ok (.aload_n 0, 1) := by decide +kernel
theorem dX11_begins_159 : decode cX11_begins 159 = .ok (.lload 9, 2) := by decide +kernel
theorem dX11_begins_161 : decode cX11_begins 161 = .ok (.lconst 0, 1) := by decide +kernel
theorem dX11_begins_162 : decode cX11_begins 162 = .ok (.lcmp, 1) := by decide +kernel
theorem dX11_begins_163 : decode cX11_begins 163 = .ok (.ifCond .ge 9, 3) := by decide +kernel
theorem dX11_begins_166 : decode cX11_begins 166 = .ok (.lload 11, 2) := by decide +kernel
theorem dX11_begins_168 : decode cX11_begins 168 = .ok (.lneg, 1) := by decide +kernel
theorem dX11_begins_169 : decode cX11_begins 169 = .ok (.goto 5, 3) := by decide +kernel
theorem dX11_begins_172 : decode cX11_begins 172 = .ok (.lload 11, 2) := by decide +kernel
theorem dX11_begins_174 : decode cX11_begins 174 = .ok (.putfield 334, 3) := by decide +kernel
theorem dX11_begins_177 : decode cX11_begins 177 = .ok (.aload_n 0, 1) := by decide +kernel
theorem dX11_begins_178 : decode cX11_begins 178 = .ok (.lload 9, 2) := by decide +kernel
theorem dX11_begins_180 : decode cX11_begins 180 = .ok (.lconst 0, 1) := by decide +kernel
theorem dX11_begins_181 : decode cX11_begins 181 = .ok (.lcmp, 1) := by decide +kernel
theorem dX11_begins_182 : decode cX11_begins 182 = .ok (.ifCond .lt 7, 3) := by decide +kernel
theorem dX11_begins_185 : decode cX11_begins 185 = .ok (.lconst 0, 1) := by decide +kernel
theorem dX11_begins_186 : decode cX11_begins 186 = .ok (.goto 33, 3) := by decide +kernel
theorem dX11_begins_189 : decode cX11_begins 189 = .ok (.lload 11, 2) := by decide +kernel
theorem dX11_begins_191 : decode cX11_begins 191 = .ok (.lconst 0, 1) := by decide +kernel
theorem dX11_begins_192 : decode cX11_begins 192 = .ok (.lcmp, 1) := by decide +kernel
theorem dX11_begins_193 : decode cX11_begins 193 = .ok (.ifCond .lt 16, 3) := by decide +kernel
theorem dX11_begins_196 : decode cX11_begins 196 = .ok (.ldc2_w 178, 3) := by decide +kernel
theorem dX11_begins_199 : decode cX11_begins 199 = .ok (.aload_n 0, 1) := by decide +kernel
theorem dX11_begins_200 : decode cX11_begins 200 = .ok (.getfield 199, 3) := by decide +kernel
theorem dX11_begins_203 : decode cX11_begins 203 = .ok (.iload_n 1, 1) := by decide +kernel
theorem dX11_begins_204 : decode cX11_begins 204 = .ok (.laload, 1) := by decide +kernel
theorem dX11_begins_205 : decode cX11_begins 205 = .ok (.lmul, 1) := by decide +kernel
theorem dX11_begins_206 : decode cX11_begins 206 = .ok (.goto 13, 3) := by decide +kernel
theorem dX11_begins_209 : decode cX11_begins 209 = .ok (.ldc2_w 347, 3) := by decide +kernel
theorem dX11_begins_212 : decode cX11_begins 212 = .ok (.aload_n 0, 1) := by decide +kernel
theorem dX11_begins_213 : decode cX11_begins 213 = .ok (.getfield 199, 3) := by decide +kernel
theorem dX11_begins_216 : decode cX11_begins 216 = .ok (.iload_n 1, 1) := by decide +kernel
theorem dX11_begins_217 : decode cX11_begins 217 = .ok (.laload, 1) := by decide +kernel
theorem dX11_begins_218 : decode cX11_begins 218 = .ok (.lmul, 1) := by decide +kernel
theorem dX11_begins_219 : decode cX11_begins 219 = .ok (.putfield 331, 3) := by decide +kernel
theorem dX11_begins_222 : decode cX11_begins 222 = .ok (.return_, 1) := by decide +kernel
theorem dX11_begins_223 : decode cX11_begins 223 = .ok (.lload 11, 2) := by decide +kernel
theorem dX11_begins_225 : decode cX11_begins 225 = .ok (.invokestatic 314, 3) := by decide +kernel
theorem dX11_begins_228 : decode cX11_begins 228 = .ok (.lconst 1, 1) := by decide +kernel
theorem dX11_begins_229 : decode cX11_begins 229 = .ok (.iload 13, 2) := by decide +kernel
theorem dX11_begins_231 : decode cX11_begins 231 = .ok (.aload_n 0, 1) := by decide +kernel
theorem dX11_begins_232 : decode cX11_begins 232 = .ok (.getfield 337, 3) := by decide +kernel
theorem dX11_begins_235 : decode cX11_begins 235 = .ok (.iadd, 1) := by decide +kernel
theorem dX11_begins_236 : decode cX11_begins 236 = .ok (.lshl, 1) := by decide +kernel
theorem dX11_begins_237 : decode cX11_begins 237 = .ok (.lcmp, 1) := by decide +kernel
theorem dX11_begins_238 : decode cX11_begins 238 = .ok (.ifCond .le 16, 3) := by decide +kernel
theorem dX11_begins_241 : decode cX11_begins 241 = .ok (.aload_n 0, 1) := by decide +kernel
theorem dX11_begins_242 : decode cX11_begins 242 = .ok (.dup, 1) := by decide +kernel
theorem dX11_begins_243 : decode cX11_begins 243 = .ok (.getfield 337, 3) := by decide +kernel
theorem dX11_begins_246 : decode cX11_begins 246 = .ok (.iconst 1, 1) := by decide +kernel
theorem dX11_begins_247 : decode cX11_begins 247 = .ok (.iadd, 1) := by decide +kernel
theorem dX11_begins_248 : decode cX11_begins 248 = .ok (.putfield 337, 3) := by decide +kernel
theorem dX11_begins_251 : decode cX11_begins 251 = .ok (.goto (-28), 3) := by decide +kernel
theorem dX11_begins_254 : decode cX11_begins 254 = .ok (.aload_n 0, 1) := by decide +kernel
theorem dX11_begins_255 : decode cX11_begins 255 = .ok (.lload 9, 2) := by decide +kernel
theorem dX11_begins_257 : decode cX11_begins 257 = .ok (.putfield 344, 3) := by decide +kernel
theorem dX11_begins_260 : decode cX11_begins 260 = .ok (.aload_n 0, 1) := by decide +kernel
theorem dX11_begins_261 : decode cX11_begins 261 = .ok (.aload_n 0, 1) := by decide +kernel
theorem dX11_begins_262 : decode cX11_begins 262 = .ok (.iload_n 1, 1) := by decide +kernel
theorem dX11_begins_263 : decode cX11_begins 263 = .ok (.lload 11, 2) := by decide +kernel
theorem dX11_begins_265 : decode cX11_begins 265 = .ok (.aload_n 0, 1) := by decide +kernel
theorem dX11_begins_266 : decode cX11_begins 266 = .ok (.getfield 337, 3) := by decide +kernel
theorem dX11_begins_269 : decode cX11_begins 269 = .ok (.invokevirtual 298, 3) := by decide +kernel
theorem dX11_begins_272 : decode cX11_begins 272 = .ok (.putfield 331, 3) := by decide +kernel
theorem dX11_begins_275 : decode cX11_begins 275 = .ok (.return_, 1) := by decide +kernel
theorem dX11_begins_276 : decode cX11_begins 276 = .ok (.aload_n 0, 1) := by decide +kernel
theorem dX11_begins_277 : decode cX11_begins 277 = .ok (.lload 11, 2) := by decide +kernel
theorem dX11_begins_279 : decode cX11_begins 279 = .ok (.lconst 0, 1) := by decide +kernel
theorem dX11_begins_280 : decode cX11_begins 280 = .ok (.lcmp, 1) := by decide +kernel
theorem dX11_begins_281 : decode cX11_begins 281 = .ok (.ifCond .ge 9, 3) := by decide +kernel
theorem dX11_begins_284 : decode cX11_begins 284 = .ok (.lload 9, 2) := by decide +kernel
theorem dX11_begins_286 : decode cX11_begins 286 = .ok (.lneg, 1) := by decide +kernel
theorem dX11_begins_287 : decode cX11_begins 287 = .ok (.goto 5, 3) := by decide +kernel
theorem dX11_begins_290 : decode cX11_begins 290 = .ok (.lload 9, 2) := by decide +kernel
theorem dX11_begins_292 : decode cX11_begins 292 = .ok (.putfield 334, 3) := by decide +kernel
theorem dX11_begins_295 : decode cX11_begins 295 = .ok (.aload_n 0, 1) := by decide +kernel
theorem dX11_begins_296 : decode cX11_begins 296 = .ok (.lload 11, 2) := by decide +kernel
theorem dX11_begins_298 : decode cX11_begins 298 = .ok (.invokestatic 314, 3) := by decide +kernel
theorem dX11_begins_301 : decode cX11_begins 301 = .ok (.putfield 344, 3) := by decide +kernel
theorem dX11_begins_304 : decode cX11_begins 304 = .ok (.aload_n 0, 1) := by decide +kernel
theorem dX11_begins_305 : decode cX11_begins 305 = .ok (.getfield 334, 3) := by decide +kernel
theorem dX11_begins_308 : decode cX11_begins 308 = .ok (.invokestatic 314, 3) := by decide +kernel
theorem dX11_begins_311 : decode cX11_begins 311 = .ok (.aload_n 0, 1) := by decide +kernel
theorem dX11_begins_312 : decode cX11_begins 312 = .ok (.getfield 344, 3) := by decide +kernel
theorem dX11_begins_315 : decode cX11_begins 315 = .ok (.aload_n 0, 1) := by decide +kernel
theorem dX11_begins_316 : decode cX11_begins 316 = .ok (.getfield 337, 3) := by decide +kernel
theorem dX11_begins_319 : decode cX11_begins 319 = .ok (.lshl, 1) := by decide +kernel
theorem dX11_begins_320 : decode cX11_begins 320 = .ok (.lcmp, 1) := by decide +kernel
theorem dX11_begins_321 : decode cX11_begins 321 = .ok (.ifCond .le 16, 3) := by decide +kernel
theorem dX11_begins_324 : decode cX11_begins 324 = .ok (.aload_n 0, 1) := by decide +kernel
theorem dX11_begins_325 : decode cX11_begins 325 = .ok (.dup, 1) := by decide +kernel
theorem dX11_begins_326 : decode cX11_begins 326 = .ok (.getfield 337, 3) := by decide +kernel
theorem dX11_begins_329 : decode cX11_begins 329 = .ok (.iconst 1, 1) := by decide +kernel
theorem dX11_begins_330 : decode cX11_begins 330 = .ok (.iadd, 1) := by decide +kernel
theorem dX11_begins_331 : decode cX11_begins 331 = .ok (.putfield 337, 3) := by decide +kernel
theorem dX11_begins_334 : decode cX11_begins 334 = .ok (.goto (-30), 3) := by decide +kernel
theorem dX11_begins_337 : decode cX11_begins 337 = .ok (.aload_n 0, 1) := by decide +kernel
theorem dX11_begins_338 : decode cX11_begins 338 = .ok (.dup, 1) := by decide +kernel
theorem dX11_begins_339 : decode cX11_begins 339 = .ok (.getfield 344, 3) := by decide +kernel
theorem dX11_begins_342 : decode cX11_begins 342 = .ok (.aload_n 0, 1) := by decide +kernel
theorem dX11_begins_343 : decode cX11_begins 343 = .ok (.getfield 337, 3) := by decide +kernel
theorem dX11_begins_346 : decode cX11_begins 346 = .ok (.lshl, 1) := by decide +kernel
theorem dX11_begins_347 : decode cX11_begins 347 = .ok (.putfield 344, 3) := by decide +kernel
theorem dX11_begins_350 : decode cX11_begins 350 = .ok (.return_, 1) := by decide +kernel
theorem dX11_begins_351 : decode cX11_begins 351 = .ok (.aload_n 0, 1) := by decide +kernel
theorem dX11_begins_352 : decode cX11_begins 352 = .ok (.aload_n 0, 1) := by decide +kernel
theorem dX11_begins_353 : decode cX11_begins 353 = .ok (.getfield 186, 3) := by decide +kernel
theorem dX11_begins_356 : decode cX11_begins 356 = .ok (.aload_n 0, 1) := by decide +kernel
theorem dX11_begins_357 : decode cX11_begins 357 = .ok (.iload_n 1, 1) := by decide +kernel
theorem dX11_begins_358 : decode cX11_begins 358 = .ok (.iconst 2, 1) := by decide +kernel
theorem dX11_begins_359 : decode cX11_begins 359 = .ok (.invokevirtual 180, 3) := by decide +kernel
theorem dX11_begins_362 : decode cX11_begins 362 = .ok (.iaload, 1) := by decide +kernel
theorem dX11_begins_363 : decode cX11_begins 363 = .ok (.i2l, 1) := by decide +kernel
theorem dX11_begins_364 : decode cX11_begins 364 = .ok (.putfield 344, 3) := by decide +kernel
theorem dX11_begins_367 : decode cX11_begins 367 = .ok (.aload_n 0, 1) := by decide +kernel
theorem dX11_begins_368 : decode cX11_begins 368 = .ok (.lload 9, 2) := by decide +kernel
theorem dX11_begins_370 : decode cX11_begins 370 = .ok (.putfield 331, 3) := by decide +kernel
theorem dX11_begins_373 : decode cX11_begins 373 = .ok (.return_, 1) := by decide +kernel
theorem dX11_begins_374 : decode cX11_begins 374 = .ok (.aload_n 0, 1) := by decide +kernel
theorem dX11_begins_375 : decode cX11_begins 375 = .ok (.ldc2_w 178, 3) := by decide +kernel
theorem dX11_begins_378 : decode cX11_begins 378 = .ok (.lload 9, 2) := by decide +kernel
theorem dX11_begins_380 : decode cX11_begins 380 = .ok (.lmul, 1) := by decide +kernel
theorem dX11_begins_381 : decode cX11_begins 381 = .ok (.aload_n 0, 1) := by decide +kernel
theorem dX11_begins_382 : decode cX11_begins 382 = .ok (.getfield 203, 3) := by decide +kernel
theorem dX11_begins_385 : decode cX11_begins 385 = .ok (.iload_n 1, 1) := by decide +kernel
theorem dX11_begins_386 : decode cX11_begins 386 = .ok (.laload, 1) := by decide +kernel
theorem dX11_begins_387 : decode cX11_begins 387 = .ok (.ladd, 1) := by decide +kernel
theorem dX11_begins_388 : decode cX11_begins 388 = .ok (.ldc2_w 178, 3) := by decide +kernel
theorem dX11_begins_391 : decode cX11_begins 391 = .ok (.aload_n 0, 1) := by decide +kernel
theorem dX11_begins_392 : decode cX11_begins 392 = .ok (.getfield 203, 3) := by decide +kernel
theorem dX11_begins_395 : decode cX11_begins 395 = .ok (.iload_n 1, 1) := by decide +kernel
theorem dX11_begins_396 : decode cX11_begins 396 = .ok (.laload, 1) := by decide +kernel
theorem dX11_begins_397 : decode cX11_begins 397 = .ok (.lmul, 1) := by decide +kernel
theorem dX11_begins_398 : decode cX11_begins 398 = .ok (.invokestatic 320, 3) := by decide +kernel
theorem dX11_begins_401 : decode cX11_begins 401 = .ok (.l2i, 1) := by decide +kernel
theorem dX11_begins_402 : decode cX11_begins 402 = .ok (.putfield 337, 3) := by decide +kernel
theorem dX11_begins_405 : decode cX11_begins 405 = .ok (.aload_n 0, 1) := by decide +kernel
theorem dX11_begins_406 : decode cX11_begins 406 = .ok (.aload_n 0, 1) := by decide +kernel
theorem dX11_begins_407 : decode cX11_begins 407 = .ok (.getfield 186, 3) := by decide +kernel
theorem dX11_begins_410 : decode cX11_begins 410 = .ok (.aload_n 0, 1) := by decide +kernel
theorem dX11_begins_411 : decode cX11_begins 411 = .ok (.iload_n 1, 1) := by decide +kernel
theorem dX11_begins_412 : decode cX11_begins 412 = .ok (.iconst 2, 1) := by decide +kernel
theorem dX11_begins_413 : decode cX11_begins 413 = .ok (.invokevirtual 180, 3) := by decide +kernel
theorem dX11_begins_416 : decode cX11_begins 416 = .ok (.iaload, 1) := by decide +kernel
theorem dX11_begins_417 : decode cX11_begins 417 = .ok (.i2l, 1) := by decide +kernel
theorem dX11_begins_418 : decode cX11_begins 418 = .ok (.putfield 344, 3) := by decide +kernel
theorem dX11_begins_421 : decode cX11_begins 421 = .ok (.aload_n 0, 1) := by decide +kernel
theorem dX11_begins_422 : decode cX11_begins 422 = .ok (.lload 9, 2) := by decide +kernel
theorem dX11_begins_424 : decode cX11_begins 424 = .ok (.aload_n 0, 1) := by decide +kernel
theorem dX11_begins_425 : decode cX11_begins 425 = .ok (.getfield 337, 3) := by decide +kernel
theorem dX11_begins_428 : decode cX11_begins 428 = .ok (.i2l, 1) := by decide +kernel
theorem dX11_begins_429 : decode cX11_begins 429 = .ok (.aload_n 0, 1) := by decide +kernel
theorem dX11_begins_430 : decode cX11_begins 430 = .ok (.getfield 203, 3) := by decide +kernel
theorem dX11_begins_433 : decode cX11_begins 433 = .ok (.iload_n 1, 1) := by decide +kernel
theorem dX11_begins_434 : decode cX11_begins 434 = .ok (.laload, 1) := by decide +kernel
theorem dX11_begins_435 : decode cX11_begins 435 = .ok (.lmul, 1) := by decide +kernel
theorem dX11_begins_436 : decode cX11_begins 436 = .ok (.lsub, 1) := by decide +kernel
theorem dX11_begins_437 : decode cX11_begins 437 = .ok (.putfield 331, 3) := by decide +kernel
theorem dX11_begins_440 : decode cX11_begins 440 = .ok (.return_, 1) := by decide +kernel
theorem dX11_begins_441 : decode cX11_begins 441 = .ok (.aload_n 0, 1) := by decide +kernel
theorem dX11_begins_442 : decode cX11_begins 442 = .ok (.lload 9, 2) := by decide +kernel
theorem dX11_begins_444 : decode cX11_begins 444 = .ok (.invokestatic 349, 3) := by decide +kernel
theorem dX11_begins_447 : decode cX11_begins 447 = .ok (.iload 13, 2) := by decide +kernel
theorem dX11_begins_449 : decode cX11_begins 449 = .ok (.isub, 1) := by decide +kernel
theorem dX11_begins_450 : decode cX11_begins 450 = .ok (.putfield 337, 3) := by decide +kernel
theorem dX11_begins_453 : decode cX11_begins 453 = .ok (.aload_n 0, 1) := by decide +kernel
theorem dX11_begins_454 : decode cX11_begins 454 = .ok (.aload_n 0, 1) := by decide +kernel
theorem dX11_begins_455 : decode cX11_begins 455 = .ok (.iload_n 1, 1) := by decide +kernel
theorem dX11_begins_456 : decode cX11_begins 456 = .ok (.lload 9, 2) := by decide +kernel
theorem dX11_begins_458 : decode cX11_begins 458 = .ok (.aload_n 0, 1) := by decide +kernel
theorem dX11_begins_459 : decode cX11_begins 459 = .ok (.getfield 337, 3) := by decide +kernel
theorem dX11_begins_462 : decode cX11_begins 462 = .ok (.invokevirtual 353, 3) := by decide +kernel
theorem dX11_begins_465 : decode cX11_begins 465 = .ok (.lconst 1, 1) := by decide +kernel
theorem dX11_begins_466 : decode cX11_begins 466 = .ok (.iload 13, 2) := by decide +kernel
theorem dX11_begins_468 : decode cX11_begins 468 = .ok (.lshl, 1) := by decide +kernel
theorem dX11_begins_469 : decode cX11_begins 469 = .ok (.ladd, 1) := by decide +kernel
theorem dX11_begins_470 : decode cX11_begins 470 = .ok (.putfield 344, 3) := by decide +kernel
theorem dX11_begins_473 : decode cX11_begins 473 = .ok (.aload_n 0, 1) := by decide +kernel
theorem dX11_begins_474 : decode cX11_begins 474 = .ok (.aload_n 0, 1) := by decide +kernel
theorem dX11_begins_475 : decode cX11_begins 475 = .ok (.iload_n 1, 1) := by decide +kernel
theorem dX11_begins_476 : decode cX11_begins 476 = .ok (.lload 9, 2) := by decide +kernel
theorem dX11_begins_478 : decode cX11_begins 478 = .ok (.aload_n 0, 1) := by decide +kernel
theorem dX11_begins_479 : decode cX11_begins 479 = .ok (.getfield 337, 3) := by decide +kernel
theorem dX11_begins_482 : decode cX11_begins 482 = .ok (.invokevirtual 353, 3) := by decide +kernel
theorem dX11_begins_485 : decode cX11_begins 485 = .ok (.lconst 1, 1) := by decide +kernel
theorem dX11_begins_486 : decode cX11_begins 486 = .ok (.iload 13, 2) := by decide +kernel
theorem dX11_begins_488 : decode cX11_begins 488 = .ok (.lshl, 1) := by decide +kernel
theorem dX11_begins_489 : decode cX11_begins 489 = .ok (.lsub, 1) := by decide +kernel
theorem dX11_begins_490 : decode cX11_begins 490 = .ok (.putfield 334, 3) := by decide +kernel
theorem dX11_begins_493 : decode cX11_begins 493 = .ok (.return_, 1) := by decide +kernel
theorem dX11_begins_494 : decode cX11_begins 494 = .ok (.aload_n 0, 1) := by decide +kernel
theorem dX11_begins_495 : decode cX11_begins 495 = .ok (.lload 9, 2) := by decide +kernel
theorem dX11_begins_497 : decode cX11_begins 497 = .ok (.invokestatic 349, 3) := by decide +kernel
theorem dX11_begins_500 : decode cX11_begins 500 = .ok (.iload 13, 2) := by decide +kernel
theorem dX11_begins_502 : decode cX11_begins 502 = .ok (.isub, 1) := by decide +kernel
theorem dX11_begins_503 : decode cX11_begins 503 = .ok (.iconst 1, 1) := by decide +kernel
theorem dX11_begins_504 : decode cX11_begins 504 = .ok (.iadd, 1) := by decide +kernel
theorem dX11_begins_505 : decode cX11_begins 505 = .ok (.iconst 2, 1) := by decide +kernel
theorem dX11_begins_506 : decode cX11_begins 506 = .ok (.invokestatic 356, 3) := by decide +kernel
theorem dX11_begins_509 : decode cX11_begins 509 = .ok (.putfield 337, 3) := by decide +kernel
theorem dX11_begins_512 : decode cX11_begins 512 = .ok (.aload_n 0, 1) := by decide +kernel
theorem dX11_begins_513 : decode cX11_begins 513 = .ok (.aload_n 0, 1) := by decide +kernel
theorem dX11_begins_514 : decode cX11_begins 514 = .ok (.iload_n 1, 1) := by decide +kernel
theorem dX11_begins_515 : decode cX11_begins 515 = .ok (.lload 9, 2) := by decide +kernel
theorem dX11_begins_517 : decode cX11_begins 517 = .ok (.iconst 2, 1) := by decide +kernel
theorem dX11_begins_518 : decode cX11_begins 518 = .ok (.aload_n 0, 1) := by decide +kernel
theorem dX11_begins_519 : decode cX11_begins 519 = .ok (.getfield 337, 3) := by decide +kernel
theorem dX11_begins_522 : decode cX11_begins 522 = .ok (.imul, 1) := by decide +kernel
theorem dX11_begins_523 : decode cX11_begins 523 = .ok (.invokevirtual 353, 3) := by decide +kernel
theorem dX11_begins_526 : decode cX11_begins 526 = .ok (.lconst 1, 1) := by decide +kernel
theorem dX11_begins_527 : decode cX11_begins 527 = .ok (.iload 13, 2) := by decide +kernel
theorem dX11_begins_529 : decode cX11_begins 529 = .ok (.iconst 2, 1) := by decide +kernel
theorem dX11_begins_530 : decode cX11_begins 530 = .ok (.isub, 1) := by decide +kernel
theorem dX11_begins_531 : decode cX11_begins 531 = .ok (.lshl, 1) := by decide +kernel
theorem dX11_begins_532 : decode cX11_begins 532 = .ok (.ladd, 1) := by decide +kernel
theorem dX11_begins_533 : decode cX11_begins 533 = .ok (.putfield 344, 3) := by decide +kernel
theorem dX11_begins_536 : decode cX11_begins 536 = .ok (.aload_n 0, 1) := by decide +kernel
theorem dX11_begins_537 : decode cX11_begins 537 = .ok (.aload_n 0, 1) := by decide +kernel
theorem dX11_begins_538 : decode cX11_begins 538 = .ok (.iload_n 1, 1) := by decide +kernel
theorem dX11_begins_539 : decode cX11_begins 539 = .ok (.lload 9, 2) := by decide +kernel
theorem dX11_begins_541 : decode cX11_begins 541 = .ok (.iconst 2, 1) := by decide +kernel
theorem dX11_begins_542 : decode cX11_begins 542 = .ok (.aload_n 0, 1) := by decide +kernel
theorem dX11_begins_543 : decode cX11_begins 543 = .ok (.getfield 337, 3) := by decide +kernel
theorem dX11_begins_546 : decode cX11_begins 546 = .ok (.imul, 1) := by decide +kernel
theorem dX11_begins_547 : decode cX11_begins 547 = .ok (.invokevirtual 353, 3) := by decide +kernel
theorem dX11_begins_550 : decode cX11_begins 550 = .ok (.lconst 1, 1) := by decide +kernel
theorem dX11_begins_551 : decode cX11_begins 551 = .ok (.iload 13, 2) := by decide +kernel
theorem dX11_begins_553 : decode cX11_begins 553 = .ok (.iconst 2, 1) := by decide +kernel
theorem dX11_begins_554 : decode cX11_begins 554 = .ok (.isub, 1) := by decide +kernel
theorem dX11_begins_555 : decode cX11_begins 555 = .ok (.lshl, 1) := by decide +kernel
theorem dX11_begins_556 : decode cX11_begins 556 = .ok (.lsub, 1) := by decide +kernel
theorem dX11_begins_557 : decode cX11_begins 557 = .ok (.putfield 334, 3) := by decide +kernel
theorem dX11_begins_560 : decode cX11_begins 560 = .ok (.return_, 1) := by decide +kernel
theorem dX11_begins_561 : decode cX11_begins 561 = .ok (.aload_n 0, 1) := by decide +kernel
theorem dX11_begins_562 : decode cX11_begins 562 = .ok (.aload_n 0, 1) := by decide +kernel
theorem dX11_begins_563 : decode cX11_begins 563 = .ok (.iload_n 1, 1) := by decide +kernel
theorem dX11_begins_564 : decode cX11_begins 564 = .ok (.lload 7, 2) := by decide +kernel
theorem dX11_begins_566 : decode cX11_begins 566 = .ok (.aload_n 0, 1) := by decide +kernel
theorem dX11_begins_567 : decode cX11_begins 567 = .ok (.getfield 194, 3) := by decide +kernel
theorem dX11_begins_570 : decode cX11_begins 570 = .ok (.iload_n 1, 1) := by decide +kernel
theorem dX11_begins_571 : decode cX11_begins 571 = .ok (.iaload, 1) := by decide +kernel
theorem dX11_begins_572 : decode cX11_begins 572 = .ok (.lshl, 1) := by decide +kernel
theorem dX11_begins_573 : decode cX11_begins 573 = .ok (.invokevirtual 340, 3) := by decide +kernel
theorem dX11_begins_576 : decode cX11_begins 576 = .ok (.putfield 337, 3) := by decide +kernel
theorem dX11_begins_579 : decode cX11_begins 579 = .ok (.aload_n 0, 1) := by decide +kernel
theorem dX11_begins_580 : decode cX11_begins 580 = .ok (.aload_n 0, 1) := by decide +kernel
theorem dX11_begins_581 : decode cX11_begins 581 = .ok (.getfield 337, 3) := by decide +kernel
theorem dX11_begins_584 : decode cX11_begins 584 = .ok (.lload 9, 2) := by decide +kernel
theorem dX11_begins_586 : decode cX11_begins 586 = .ok (.lload 11, 2) := by decide +kernel
theorem dX11_begins_588 : decode cX11_begins 588 = .ok (.invokevirtual 358, 3) := by decide +kernel
theorem dX11_begins_591 : decode cX11_begins 591 = .ok (.aload_n 0, 1) := by decide +kernel
theorem dX11_begins_592 : decode cX11_begins 592 = .ok (.aload_n 0, 1) := by decide +kernel
theorem dX11_begins_593 : decode cX11_begins 593 = .ok (.getfield 324, 3) := by decide +kernel
theorem dX11_begins_596 : decode cX11_begins 596 = .ok (.putfield 344, 3) := by decide +kernel
theorem dX11_begins_599 : decode cX11_begins 599 = .ok (.aload_n 0, 1) := by decide +kernel
theorem dX11_begins_600 : decode cX11_begins 600 = .ok (.aload_n 0, 1) := by decide +kernel
theorem dX11_begins_601 : decode cX11_begins 601 = .ok (.getfield 328, 3) := by decide +kernel
theorem dX11_begins_604 : decode cX11_begins 604 = .ok (.putfield 334, 3) := by decide +kernel
theorem dX11_begins_607 : decode cX11_begins 607 = .ok (.aload_n 0, 1) := by decide +kernel
theorem dX11_begins_608 : decode cX11_begins 608 = .ok (.lload 7, 2) := by decide +kernel
theorem dX11_begins_610 : decode cX11_begins 610 = .ok (.aload_n 0, 1) := by decide +kernel
theorem dX11_begins_611 : decode cX11_begins 611 = .ok (.getfield 194, 3) := by decide +kernel
theorem dX11_begins_614 : decode cX11_begins 614 = .ok (.iload_n 1, 1) := by decide +kernel
theorem dX11_begins_615 : decode cX11_begins 615 = .ok (.iaload, 1) := by decide +kernel
theorem dX11_begins_616 : decode cX11_begins 616 = .ok (.lshl, 1) := by decide +kernel
theorem dX11_begins_617 : decode cX11_begins 617 = .ok (.aload_n 0, 1) := by decide +kernel
theorem dX11_begins_618 : decode cX11_begins 618 = .ok (.getfield 337, 3) := by decide +kernel
theorem dX11_begins_621 : decode cX11_begins 621 = .ok (.i2l, 1) := by decide +kernel
theorem dX11_begins_622 : decode cX11_begins 622 = .ok (.aload_n 0, 1) := by decide +kernel
theorem dX11_begins_623 : decode cX11_begins 623 = .ok (.getfield 199, 3) := by decide +kernel
theorem dX11_begins_626 : decode cX11_begins 626 = .ok (.iload_n 1, 1) := by decide +kernel
theorem dX11_begins_627 : decode cX11_begins 627 = .ok (.laload, 1) := by decide +kernel
theorem dX11_begins_628 : decode cX11_begins 628 = .ok (.lmul, 1) := by decide +kernel
theorem dX11_begins_629 : decode cX11_begins 629 = .ok (.lsub, 1) := by decide +kernel
theorem dX11_begins_630 : decode cX11_begins 630 = .ok (.putfield 331, 3) := by decide +kernel
theorem dX11_begins_633 : decode cX11_begins 633 = .ok (.return_, 1) := by decide +kernel
theorem dX11_steps_0 : decode cX11_steps 0 = .ok (.getstatic 362, 3) := by decide +kernel
theorem dX11_steps_3 : decode cX11_steps 3 = .ok (.iload_n 2, 1) := by decide +kernel
theorem dX11_steps_4 : decode cX11_steps 4 = .ok (.iaload, 1) := by decide +kernel
theorem dX11_steps_5 : decode cX11_steps 5 = .ok (.istore 4, 2) := by decide +kernel
theorem dX11_steps_7 : decode cX11_steps 7 = .ok (.aload_n 0, 1) := by decide +kernel
theorem dX11_steps_8 : decode cX11_steps 8 = .ok (.getfield 154, 3) := by decide +kernel
theorem dX11_steps_11 : decode cX11_steps 11 = .ok (.bipush 24, 2) := by decide +kernel
theorem dX11_steps_13 : decode cX11_steps 13 = .ok (.iload 4, 2) := by decide +kernel
theorem dX11_steps_15 : decode cX11_steps 15 = .ok (.imul, 1) := by decide +kernel
theorem dX11_steps_16 : decode cX11_steps 16 = .ok (.iload_n 3, 1) := by decide +kernel
theorem dX11_steps_17 : decode cX11_steps 17 = .ok (.iadd, 1) := by decide +kernel
theorem dX11_steps_18 : decode cX11_steps 18 = .ok (.iaload, 1) := by decide +kernel
theorem dX11_steps_19 : decode cX11_steps 19 = .ok (.istore 5, 2) := by decide +kernel
theorem dX11_steps_21 : decode cX11_steps 21 = .ok (.iload_n 2, 1) := by decide +kernel
theorem dX11_steps_22 : decode cX11_steps 22 = .ok (.invokestatic 365, 3) := by decide +kernel
theorem dX11_steps_25 : decode cX11_steps 25 = .ok (.ifCond .eq 20, 3) := by decide +kernel
theorem dX11_steps_28 : decode cX11_steps 28 = .ok (.aload_n 0, 1) := by decide +kernel
theorem dX11_steps_29 : decode cX11_steps 29 = .ok (.getfield 331, 3) := by decide +kernel
theorem dX11_steps_32 : decode cX11_steps 32 = .ok (.lconst 0, 1) := by decide +kernel
theorem dX11_steps_33 : decode cX11_steps 33 = .ok (.lcmp, 1) := by decide +kernel
theorem dX11_steps_34 : decode cX11_steps 34 = .ok (.ifCond .lt 7, 3) := by decide +kernel
theorem dX11_steps_37 : decode cX11_steps 37 = .ok (.iconst 1, 1) := by decide +kernel
theorem dX11_steps_38 : decode cX11_steps 38 = .ok (.goto 21, 3) := by decide +kernel
theorem dX11_steps_41 : decode cX11_steps 41 = .ok (.iconst 0, 1) := by decide +kernel
theorem dX11_steps_42 : decode cX11_steps 42 = .ok (.goto 17, 3) := by decide +kernel
theorem dX11_steps_45 : decode cX11_steps 45 = .ok (.aload_n 0, 1) := by decide +kernel
theorem dX11_steps_46 : decode cX11_steps 46 = .ok (.getfield 334, 3) := by decide +kernel
theorem dX11_steps_49 : decode cX11_steps 49 = .ok (.lconst 0, 1) := by decide +kernel
theorem dX11_steps_50 : decode cX11_steps 50 = .ok (.lcmp, 1) := by decide +kernel
theorem dX11_steps_51 : decode cX11_steps 51 = .ok (.ifCond .ge 7, 3) := by decide +kernel
theorem dX11_steps_54 : decode cX11_steps 54 = .ok (.iconst 1, 1) := by decide +kernel
theorem dX11_steps_55 : decode cX11_steps 55 = .ok (.goto 4, 3) := by decide +kernel
theorem dX11_steps_58 : decode cX11_steps 58 = .ok (.iconst 0, 1) := by decide +kernel
theorem dX11_steps_59 : decode cX11_steps 59 = .ok (.istore 6, 2) := by decide +kernel
theorem dX11_steps_61 : decode cX11_steps 61 = .ok (.iload 6, 2) := by decide +kernel
theorem dX11_steps_63 : decode cX11_steps 63 = .ok (.ifCond .eq 7, 3) := by decide +kernel
theorem dX11_steps_66 : decode cX11_steps 66 = .ok (.lconst 1, 1) := by decide +kernel
theorem dX11_steps_67 : decode cX11_steps 67 = .ok (.goto 6, 3) := by decide +kernel
theorem dX11_steps_70 : decode cX11_steps 70 = .ok (.ldc2_w 368, 3) := by decide +kernel
theorem dX11_steps_73 : decode cX11_steps 73 = .ok (.lstore 7, 2) := by decide +kernel
theorem dX11_steps_75 : decode cX11_steps 75 = .ok (.iload 4, 2) := by decide +kernel
theorem dX11_steps_77 : decode cX11_steps 77 = .ok (.iconst 1, 1) := by decide +kernel
theorem dX11_steps_78 : decode cX11_steps 78 = .ok (.if_icmp .ne 7, 3) := by decide +kernel
theorem dX11_steps_81 : decode cX11_steps 81 = .ok (.lconst 0, 1) := by decide +kernel
theorem dX11_steps_82 : decode cX11_steps 82 = .ok (.goto 14, 3) := by decide +kernel
theorem dX11_steps_85 : decode cX11_steps 85 = .ok (.aload_n 0, 1) := by decide +kernel
theorem dX11_steps_86 : decode cX11_steps 86 = .ok (.iload_n 1, 1) := by decide +kernel
theorem dX11_steps_87 : decode cX11_steps 87 = .ok (.aload_n 0, 1) := by decide +kernel
theorem dX11_steps_88 : decode cX11_steps 88 = .ok (.getfield 334, 3) := by decide +kernel
theorem dX11_steps_91 : decode cX11_steps 91 = .ok (.iload 5, 2) := by decide +kernel
theorem dX11_steps_93 : decode cX11_steps 93 = .ok (.invokevirtual 298, 3) := by decide +kernel
theorem dX11_steps_96 : decode cX11_steps 96 = .ok (.lstore 9, 2) := by decide +kernel
theorem dX11_steps_98 : decode cX11_steps 98 = .ok (.aload_n 0, 1) := by decide +kernel
theorem dX11_steps_99 : decode cX11_steps 99 = .ok (.iload_n 1, 1) := by decide +kernel
theorem dX11_steps_100 : decode cX11_steps 100 = .ok (.aload_n 0, 1) := by decide +kernel
theorem dX11_steps_101 : decode cX11_steps 101 = .ok (.getfield 344, 3) := by decide +kernel
theorem dX11_steps_104 : decode cX11_steps 104 = .ok (.iload 5, 2) := by decide +kernel
theorem dX11_steps_106 : decode cX11_steps 106 = .ok (.invokevirtual 298, 3) := by decide +kernel
theorem dX11_steps_109 : decode cX11_steps 109 = .ok (.lstore 11, 2) := by decide +kernel
theorem dX11_steps_111 : decode cX11_steps 111 = .ok (.aload_n 0, 1) := by decide +kernel
theorem dX11_steps_112 : decode cX11_steps 112 = .ok (.iload 4, 2) := by decide +kernel
theorem dX11_steps_114 : decode cX11_steps 114 = .ok (.iconst 2, 1) := by decide +kernel
theorem dX11_steps_115 : decode cX11_steps 115 = .ok (.if_icmp .ne 16, 3) := by decide +kernel
theorem dX11_steps_118 : decode cX11_steps 118 = .ok (.aload_n 0, 1) := by decide +kernel
theorem dX11_steps_119 : decode cX11_steps 119 = .ok (.getfield 344, 3) := by decide +kernel
theorem dX11_steps_122 : decode cX11_steps 122 = .ok (.lload 7, 2) := by decide +kernel
theorem dX11_steps_124 : decode cX11_steps 124 = .ok (.lload 9, 2) := by decide +kernel
theorem dX11_steps_126 : decode cX11_steps 126 = .ok (.lmul, 1) := by decide +kernel
theorem dX11_steps_127 : decode cX11_steps 127 = .ok (.ladd, 1) := by decide +kernel
theorem dX11_steps_128 : decode cX11_steps 128 = .ok (.goto 13, 3) := by decide +kernel
theorem dX11_steps_131 : decode cX11_steps 131 = .ok (.aload_n 0, 1) := by decide +kernel
theorem dX11_steps_132 : decode cX11_steps 132 = .ok (.getfield 344, 3) := by decide +kernel
theorem dX11_steps_135 : decode cX11_steps 135 = .ok (.lload 7, 2) := by decide +kernel
theorem dX11_steps_137 : decode cX11_steps 137 = .ok (.lload 9, 2) := by decide +kernel
theorem dX11_steps_139 : decode cX11_steps 139 = .ok (.lmul, 1) := by decide +kernel
theorem dX11_steps_140 : decode cX11_steps 140 = .ok (.lsub, 1) := by decide +kernel
theorem dX11_steps_141 : decode cX11_steps 141 = .ok (.putfield 344, 3) := by decide +kernel
theorem dX11_steps_144 : decode cX11_steps 144 = .ok (.aload_n 0, 1) := by decide +kernel
theorem dX11_steps_145 : decode cX11_steps 145 = .ok (.aload_n 0, 1) := by decide +kernel
theorem dX11_steps_146 : decode cX11_steps 146 = .ok (.getfield 334, 3) := by decide +kernel
theorem dX11_steps_149 : decode cX11_steps 149 = .ok (.lload 7, 2) := by decide +kernel
theorem dX11_steps_151 : decode cX11_steps 151 = .ok (.lload 11, 2) := by decide +kernel
theorem dX11_steps_153 : decode cX11_steps 153 = .ok (.lmul, 1) := by decide +kernel
theorem dX11_steps_154 : decode cX11_steps 154 = .ok (.ladd, 1) := by decide +kernel
theorem dX11_steps_155 : decode cX11_steps 155 = .ok (.putfield 334, 3) := by decide +kernel
theorem dX11_steps_158 : decode cX11_steps 158 = .ok (.aload_n 0, 1) := by decide +kernel
theorem dX11_steps_159 : decode cX11_steps 159 = .ok (.aload_n 0, 1) := by decide +kernel
theorem dX11_steps_160 : decode cX11_steps 160 = .ok (.getfield 331, 3) := by decide +kernel
theorem dX11_steps_163 : decode cX11_steps 163 = .ok (.lload 7, 2) := by decide +kernel
theorem dX11_steps_165 : decode cX11_steps 165 = .ok (.aload_n 0, 1) := by decide +kernel
theorem dX11_steps_166 : decode cX11_steps 166 = .ok (.getfield 208, 3) := by decide +kernel
theorem dX11_steps_169 : decode cX11_steps 169 = .ok (.bipush 24, 2) := by decide +kernel
theorem dX11_steps_171 : decode cX11_steps 171 = .ok (.aload_n 0, 1) := by decide +kernel
theorem dX11_steps_172 : decode cX11_steps 172 = .ok (.iload_n 1, 1) := by decide +kernel
theorem dX11_steps_173 : decode cX11_steps 173 = .ok (.iload 4, 2) := by decide +kernel
theorem dX11_steps_175 : decode cX11_steps 175 = .ok (.invokevirtual 180, 3) := by decide +kernel
theorem dX11_steps_178 : decode cX11_steps 178 = .ok (.imul, 1) := by decide +kernel
theorem dX11_steps_179 : decode cX11_steps 179 = .ok (.iload_n 3, 1) := by decide +kernel
theorem dX11_steps_180 : decode cX11_steps 180 = .ok (.iadd, 1) := by decide +kernel
theorem dX11_steps_181 : decode cX11_steps 181 = .ok (.laload, 1) := by decide +kernel
theorem dX11_steps_182 : decode cX11_steps 182 = .ok (.lmul, 1) := by decide +kernel
theorem dX11_steps_183 : decode cX11_steps 183 = .ok (.lsub, 1) := by decide +kernel
theorem dX11_steps_184 : decode cX11_steps 184 = .ok (.putfield 331, 3) := by decide +kernel
theorem dX11_steps_187 : decode cX11_steps 187 = .ok (.iload 6, 2) := by decide +kernel
theorem dX11_steps_189 : decode cX11_steps 189 = .ok (.ireturn, 1) := by decide +kernel
theorem dX11_out_0 : decode cX11_out 0 = .ok (.aload_n 0, 1) := by decide +kernel
theorem dX11_out_1 : decode cX11_out 1 = .ok (.getfield 194, 3) := by decide +kernel
theorem dX11_out_4 : decode cX11_out 4 = .ok (.iload_n 1, 1) := by decide +kernel
theorem dX11_out_5 : decode cX11_out 5 = .ok (.iaload, 1) := by decide +kernel
theorem dX11_out_6 : decode cX11_out 6 = .ok (.ifCond .ne 7, 3) := by decide +kernel
theorem dX11_out_9 : decode cX11_out 9 = .ok (.lload_n 2, 1) := by decide +kernel
theorem dX11_out_10 : decode cX11_out 10 = .ok (.goto 22, 3) := by decide +kernel
theorem dX11_out_13 : decode cX11_out 13 = .ok (.lload_n 2, 1) := by decide +kernel
theorem dX11_out_14 : decode cX11_out 14 = .ok (.lconst 1, 1) := by decide +kernel
theorem dX11_out_15 : decode cX11_out 15 = .ok (.aload_n 0, 1) := by decide +kernel
theorem dX11_out_16 : decode cX11_out 16 = .ok (.getfield 194, 3) := by decide +kernel
theorem dX11_out_19 : decode cX11_out 19 = .ok (.iload_n 1, 1) := by decide +kernel
theorem dX11_out_20 : decode cX11_out 20 = .ok (.iaload, 1) := by decide +kernel
theorem dX11_out_21 : decode cX11_out 21 = .ok (.iconst 1, 1) := by decide +kernel
theorem dX11_out_22 : decode cX11_out 22 = .ok (.isub, 1) := by decide +kernel
theorem dX11_out_23 : decode cX11_out 23 = .ok (.lshl, 1) := by decide +kernel
theorem dX11_out_24 : decode cX11_out 24 = .ok (.ladd, 1) := by decide +kernel
theorem dX11_out_25 : decode cX11_out 25 = .ok (.aload_n 0, 1) := by decide +kernel
theorem dX11_out_26 : decode cX11_out 26 = .ok (.getfield 194, 3) := by decide +kernel
theorem dX11_out_29 : decode cX11_out 29 = .ok (.iload_n 1, 1) := by decide +kernel
theorem dX11_out_30 : decode cX11_out 30 = .ok (.iaload, 1) := by decide +kernel
theorem dX11_out_31 : decode cX11_out 31 = .ok (.lshr, 1) := by decide +kernel
theorem dX11_out_32 : decode cX11_out 32 = .ok (.lreturn, 1) := by decide +kernel
theorem dX11_ends_0 : decode cX11_ends 0 = .ok (.aload_n 0, 1) := by decide +kernel
theorem dX11_ends_1 : decode cX11_ends 1 = .ok (.lconst 0, 1) := by decide +kernel
theorem dX11_ends_2 : decode cX11_ends 2 = .ok (.putfield 328, 3) := by decide +kernel
theorem dX11_ends_5 : decode cX11_ends 5 = .ok (.iload_n 2, 1) := by decide +kernel
theorem dX11_ends_6 : decode cX11_ends 6 = .ok (.tableswitch 222 0 7 #[46, 65, 90, 106, 122, 141, 167, 195], 46) := by decide +kernel
theorem dX11_ends_52 : decode cX11_ends 52 = .ok (.aload_n 0, 1) := by decide +kernel
theorem dX11_ends_53 : decode cX11_ends 53 = .ok (.aload_n 0, 1) := by decide +kernel
theorem dX11_ends_54 : decode cX11_ends 54 = .ok (.getfield 337, 3) := by decide +kernel
theorem dX11_ends_57 : decode cX11_ends 57 = .ok (.aload_n 0, 1) := by decide +kernel
theorem dX11_ends_58 : decode cX11_ends 58 = .ok (.getfield 344, 3) := by decide +kernel
theorem dX11_ends_61 : decode cX11_ends 61 = .ok (.aload_n 0, 1) := by decide +kernel
theorem dX11_ends_62 : decode cX11_ends 62 = .ok (.getfield 334, 3) := by decide +kernel
theorem dX11_ends_65 : decode cX11_ends 65 = .ok (.invokevirtual 358, 3) := by decide +kernel
theorem dX11_ends_68 : decode cX11_ends 68 = .ok (.goto 188, 3) := by decide +kernel
theorem dX11_ends_71 : decode cX11_ends 71 = .ok (.aload_n 0, 1) := by decide +kernel
theorem dX11_ends_72 : decode cX11_ends 72 = .ok (.aload_n 0, 1) := by decide +kernel
theorem dX11_ends_73 : decode cX11_ends 73 = .ok (.iload_n 1, 1) := by decide +kernel
theorem dX11_ends_74 : decode cX11_ends 74 = .ok (.iconst 0, 1) := by decide +kernel
theorem dX11_ends_75 : decode cX11_ends 75 = .ok (.aload_n 0, 1) := by decide +kernel
theorem dX11_ends_76 : decode cX11_ends 76 = .ok (.getfield 344, 3) := by decide +kernel
theorem dX11_ends_79 : decode cX11_ends 79 = .ok (.invokevirtual 306, 3) := by decide +kernel
theorem dX11_ends_82 : decode cX11_ends 82 = .ok (.putfield 324, 3) := by decide +kernel
theorem dX11_ends_85 : decode cX11_ends 85 = .ok (.aload_n 0, 1) := by decide +kernel
theorem dX11_ends_86 : decode cX11_ends 86 = .ok (.aload_n 0, 1) := by decide +kernel
theorem dX11_ends_87 : decode cX11_ends 87 = .ok (.getfield 331, 3) := by decide +kernel
theorem dX11_ends_90 : decode cX11_ends 90 = .ok (.putfield 328, 3) := by decide +kernel
theorem dX11_ends_93 : decode cX11_ends 93 = .ok (.goto 163, 3) := by decide +kernel
theorem dX11_ends_96 : decode cX11_ends 96 = .ok (.aload_n 0, 1) := by decide +kernel
theorem dX11_ends_97 : decode cX11_ends 97 = .ok (.aload_n 0, 1) := by decide +kernel
theorem dX11_ends_98 : decode cX11_ends 98 = .ok (.getfield 334, 3) := by decide +kernel
theorem dX11_ends_101 : decode cX11_ends 101 = .ok (.aload_n 0, 1) := by decide +kernel
theorem dX11_ends_102 : decode cX11_ends 102 = .ok (.getfield 337, 3) := by decide +kernel
theorem dX11_ends_105 : decode cX11_ends 105 = .ok (.lshl, 1) := by decide +kernel
theorem dX11_ends_106 : decode cX11_ends 106 = .ok (.putfield 324, 3) := by decide +kernel
theorem dX11_ends_109 : decode cX11_ends 109 = .ok (.goto 147, 3) := by decide +kernel
theorem dX11_ends_112 : decode cX11_ends 112 = .ok (.aload_n 0, 1) := by decide +kernel
theorem dX11_ends_113 : decode cX11_ends 113 = .ok (.aload_n 0, 1) := by decide +kernel
theorem dX11_ends_114 : decode cX11_ends 114 = .ok (.getfield 331, 3) := by decide +kernel
theorem dX11_ends_117 : decode cX11_ends 117 = .ok (.aload_n 0, 1) := by decide +kernel
theorem dX11_ends_118 : decode cX11_ends 118 = .ok (.getfield 337, 3) := by decide +kernel
theorem dX11_ends_121 : decode cX11_ends 121 = .ok (.lshl, 1) := by decide +kernel
theorem dX11_ends_122 : decode cX11_ends 122 = .ok (.putfield 324, 3) := by decide +kernel
theorem dX11_ends_125 : decode cX11_ends 125 = .ok (.goto 131, 3) := by decide +kernel
theorem dX11_ends_128 : decode cX11_ends 128 = .ok (.aload_n 0, 1) := by decide +kernel
theorem dX11_ends_129 : decode cX11_ends 129 = .ok (.aload_n 0, 1) := by decide +kernel
theorem dX11_ends_130 : decode cX11_ends 130 = .ok (.getfield 344, 3) := by decide +kernel
theorem dX11_ends_133 : decode cX11_ends 133 = .ok (.putfield 324, 3) := by decide +kernel
theorem dX11_ends_136 : decode cX11_ends 136 = .ok (.aload_n 0, 1) := by decide +kernel
theorem dX11_ends_137 : decode cX11_ends 137 = .ok (.aload_n 0, 1) := by decide +kernel
theorem dX11_ends_138 : decode cX11_ends 138 = .ok (.getfield 334, 3) := by decide +kernel
theorem dX11_ends_141 : decode cX11_ends 141 = .ok (.putfield 328, 3) := by decide +kernel
theorem dX11_ends_144 : decode cX11_ends 144 = .ok (.goto 112, 3) := by decide +kernel
theorem dX11_ends_147 : decode cX11_ends 147 = .ok (.aload_n 0, 1) := by decide +kernel
theorem dX11_ends_148 : decode cX11_ends 148 = .ok (.aload_n 0, 1) := by decide +kernel
theorem dX11_ends_149 : decode cX11_ends 149 = .ok (.iload_n 1, 1) := by decide +kernel
theorem dX11_ends_150 : decode cX11_ends 150 = .ok (.aload_n 0, 1) := by decide +kernel
theorem dX11_ends_151 : decode cX11_ends 151 = .ok (.getfield 344, 3) := by decide +kernel
theorem dX11_ends_154 : decode cX11_ends 154 = .ok (.aload_n 0, 1) := by decide +kernel
theorem dX11_ends_155 : decode cX11_ends 155 = .ok (.getfield 334, 3) := by decide +kernel
theorem dX11_ends_158 : decode cX11_ends 158 = .ok (.ladd, 1) := by decide +kernel
theorem dX11_ends_159 : decode cX11_ends 159 = .ok (.aload_n 0, 1) := by decide +kernel
theorem dX11_ends_160 : decode cX11_ends 160 = .ok (.getfield 337, 3) := by decide +kernel
theorem dX11_ends_163 : decode cX11_ends 163 = .ok (.ineg, 1) := by decide +kernel
theorem dX11_ends_164 : decode cX11_ends 164 = .ok (.invokevirtual 353, 3) := by decide +kernel
theorem dX11_ends_167 : decode cX11_ends 167 = .ok (.putfield 324, 3) := by decide +kernel
theorem dX11_ends_170 : decode cX11_ends 170 = .ok (.goto 86, 3) := by decide +kernel
theorem dX11_ends_173 : decode cX11_ends 173 = .ok (.aload_n 0, 1) := by decide +kernel
theorem dX11_ends_174 : decode cX11_ends 174 = .ok (.ldc2_w 178, 3) := by decide +kernel
theorem dX11_ends_177 : decode cX11_ends 177 = .ok (.aload_n 0, 1) := by decide +kernel
theorem dX11_ends_178 : decode cX11_ends 178 = .ok (.getfield 331, 3) := by decide +kernel
theorem dX11_ends_181 : decode cX11_ends 181 = .ok (.lmul, 1) := by decide +kernel
theorem dX11_ends_182 : decode cX11_ends 182 = .ok (.aload_n 0, 1) := by decide +kernel
theorem dX11_ends_183 : decode cX11_ends 183 = .ok (.getfield 337, 3) := by decide +kernel
theorem dX11_ends_186 : decode cX11_ends 186 = .ok (.i2l, 1) := by decide +kernel
theorem dX11_ends_187 : decode cX11_ends 187 = .ok (.aload_n 0, 1) := by decide +kernel
theorem dX11_ends_188 : decode cX11_ends 188 = .ok (.getfield 203, 3) := by decide +kernel
theorem dX11_ends_191 : decode cX11_ends 191 = .ok (.iload_n 1, 1) := by decide +kernel
theorem dX11_ends_192 : decode cX11_ends 192 = .ok (.laload, 1) := by decide +kernel
theorem dX11_ends_193 : decode cX11_ends 193 = .ok (.lmul, 1) := by decide +kernel
theorem dX11_ends_194 : decode cX11_ends 194 = .ok (.ladd, 1) := by decide +kernel
theorem dX11_ends_195 : decode cX11_ends 195 = .ok (.putfield 324, 3) := by decide +kernel
theorem dX11_ends_198 : decode cX11_ends 198 = .ok (.goto 58, 3) := by decide +kernel
theorem dX11_ends_201 : decode cX11_ends 201 = .ok (.aload_n 0, 1) := by decide +kernel
theorem dX11_ends_202 : decode cX11_ends 202 = .ok (.aload_n 0, 1) := by decide +kernel
theorem dX11_ends_203 : decode cX11_ends 203 = .ok (.iload_n 1, 1) := by decide +kernel
theorem dX11_ends_204 : decode cX11_ends 204 = .ok (.aload_n 0, 1) := by decide +kernel
theorem dX11_ends_205 : decode cX11_ends 205 = .ok (.iload_n 1, 1) := by decide +kernel
theorem dX11_ends_206 : decode cX11_ends 206 = .ok (.iconst 2, 1) := by decide +kernel
theorem dX11_ends_207 : decode cX11_ends 207 = .ok (.aload_n 0, 1) := by decide +kernel
theorem dX11_ends_208 : decode cX11_ends 208 = .ok (.getfield 344, 3) := by decide +kernel
theorem dX11_ends_211 : decode cX11_ends 211 = .ok (.invokevirtual 306, 3) := by decide +kernel
theorem dX11_ends_214 : decode cX11_ends 214 = .ok (.aload_n 0, 1) := by decide +kernel
theorem dX11_ends_215 : decode cX11_ends 215 = .ok (.getfield 337, 3) := by decide +kernel
theorem dX11_ends_218 : decode cX11_ends 218 = .ok (.ineg, 1) := by decide +kernel
theorem dX11_ends_219 : decode cX11_ends 219 = .ok (.invokevirtual 353, 3) := by decide +kernel
theorem dX11_ends_222 : decode cX11_ends 222 = .ok (.putfield 324, 3) := by decide +kernel
theorem dX11_ends_225 : decode cX11_ends 225 = .ok (.goto 31, 3) := by decide +kernel
theorem dX11_ends_228 : decode cX11_ends 228 = .ok (.aload_n 0, 1) := by decide +kernel
theorem dX11_ends_229 : decode cX11_ends 229 = .ok (.aload_n 0, 1) := by decide +kernel
theorem dX11_ends_230 : decode cX11_ends 230 = .ok (.iload_n 1, 1) := by decide +kernel
theorem dX11_ends_231 : decode cX11_ends 231 = .ok (.iconst 0, 1) := by decide +kernel
theorem dX11_ends_232 : decode cX11_ends 232 = .ok (.aload_n 0, 1) := by decide +kernel
theorem dX11_ends_233 : decode cX11_ends 233 = .ok (.getfield 344, 3) := by decide +kernel
theorem dX11_ends_236 : decode cX11_ends 236 = .ok (.invokevirtual 306, 3) := by decide +kernel
theorem dX11_ends_239 : decode cX11_ends 239 = .ok (.putfield 324, 3) := by decide +kernel
theorem dX11_ends_242 : decode cX11_ends 242 = .ok (.aload_n 0, 1) := by decide +kernel
theorem dX11_ends_243 : decode cX11_ends 243 = .ok (.aload_n 0, 1) := by decide +kernel
theorem dX11_ends_244 : decode cX11_ends 244 = .ok (.iload_n 1, 1) := by decide +kernel
theorem dX11_ends_245 : decode cX11_ends 245 = .ok (.iconst 0, 1) := by decide +kernel
theorem dX11_ends_246 : decode cX11_ends 246 = .ok (.aload_n 0, 1) := by decide +kernel
theorem dX11_ends_247 : decode cX11_ends 247 = .ok (.getfield 334, 3) := by decide +kernel
theorem dX11_ends_250 : decode cX11_ends 250 = .ok (.invokevirtual 306, 3) := by decide +kernel
theorem dX11_ends_253 : decode cX11_ends 253 = .ok (.putfield 328, 3) := by decide +kernel
theorem dX11_ends_256 : decode cX11_ends 256 = .ok (.aload_n 0, 1) := by decide +kernel
theorem dX11_ends_257 : decode cX11_ends 257 = .ok (.aload_n 0, 1) := by decide +kernel
theorem dX11_ends_258 : decode cX11_ends 258 = .ok (.iload_n 1, 1) := by decide +kernel
theorem dX11_ends_259 : decode cX11_ends 259 = .ok (.aload_n 0, 1) := by decide +kernel
theorem dX11_ends_260 : decode cX11_ends 260 = .ok (.getfield 324, 3) := by decide +kernel
theorem dX11_ends_263 : decode cX11_ends 263 = .ok (.invokevirtual 370, 3) := by decide +kernel
theorem dX11_ends_266 : decode cX11_ends 266 = .ok (.putfield 324, 3) := by decide +kernel
theorem dX11_ends_269 : decode cX11_ends 269 = .ok (.aload_n 0, 1) := by decide +kernel
theorem dX11_ends_270 : decode cX11_ends 270 = .ok (.aload_n 0, 1) := by decide +kernel
theorem dX11_ends_271 : decode cX11_ends 271 = .ok (.iload_n 1, 1) := by decide +kernel
theorem dX11_ends_272 : decode cX11_ends 272 = .ok (.aload_n 0, 1) := by decide +kernel
theorem dX11_ends_273 : decode cX11_ends 273 = .ok (.getfield 328, 3) := by decide +kernel
theorem dX11_ends_276 : decode cX11_ends 276 = .ok (.invokevirtual 370, 3) := by decide +kernel
theorem dX11_ends_279 : decode cX11_ends 279 = .ok (.putfield 328, 3) := by decide +kernel
theorem dX11_ends_282 : decode cX11_ends 282 = .ok (.return_, 1) := by decide +kernel
theorem dX11_comes_0 : decode cX11_comes 0 = .ok (.aload_n 0, 1) := by decide +kernel
theorem dX11_comes_1 : decode cX11_comes 1 = .ok (.iload_n 1, 1) := by decide +kernel
theorem dX11_comes_2 : decode cX11_comes 2 = .ok (.iload_n 2, 1) := by decide +kernel
theorem dX11_comes_3 : decode cX11_comes 3 = .ok (.lload_n 3, 1) := by decide +kernel
theorem dX11_comes_4 : decode cX11_comes 4 = .ok (.lload 5, 2) := by decide +kernel
theorem dX11_comes_6 : decode cX11_comes 6 = .ok (.lload 7, 2) := by decide +kernel
theorem dX11_comes_8 : decode cX11_comes 8 = .ok (.invokevirtual 374, 3) := by decide +kernel
theorem dX11_comes_11 : decode cX11_comes 11 = .ok (.ifCond .ne 5, 3) := by decide +kernel
theorem dX11_comes_14 : decode cX11_comes 14 = .ok (.iconst 0, 1) := by decide +kernel
theorem dX11_comes_15 : decode cX11_comes 15 = .ok (.ireturn, 1) := by decide +kernel
theorem dX11_comes_16 : decode cX11_comes 16 = .ok (.aload_n 0, 1) := by decide +kernel
theorem dX11_comes_17 : decode cX11_comes 17 = .ok (.iload_n 1, 1) := by decide +kernel
theorem dX11_comes_18 : decode cX11_comes 18 = .ok (.iload_n 2, 1) := by decide +kernel
theorem dX11_comes_19 : decode cX11_comes 19 = .ok (.lload_n 3, 1) := by decide +kernel
theorem dX11_comes_20 : decode cX11_comes 20 = .ok (.lload 5, 2) := by decide +kernel
theorem dX11_comes_22 : decode cX11_comes 22 = .ok (.lload 7, 2) := by decide +kernel
theorem dX11_comes_24 : decode cX11_comes 24 = .ok (.invokevirtual 378, 3) := by decide +kernel
theorem dX11_comes_27 : decode cX11_comes 27 = .ok (.iconst 0, 1) := by decide +kernel
theorem dX11_comes_28 : decode cX11_comes 28 = .ok (.istore 9, 2) := by decide +kernel
theorem dX11_comes_30 : decode cX11_comes 30 = .ok (.iload 9, 2) := by decide +kernel
theorem dX11_comes_32 : decode cX11_comes 32 = .ok (.aload_n 0, 1) := by decide +kernel
theorem dX11_comes_33 : decode cX11_comes 33 = .ok (.getfield 171, 3) := by decide +kernel
theorem dX11_comes_36 : decode cX11_comes 36 = .ok (.iload_n 1, 1) := by decide +kernel
theorem dX11_comes_37 : decode cX11_comes 37 = .ok (.iaload, 1) := by decide +kernel
theorem dX11_comes_38 : decode cX11_comes 38 = .ok (.if_icmp .ge 19, 3) := by decide +kernel
theorem dX11_comes_41 : decode cX11_comes 41 = .ok (.aload_n 0, 1) := by decide +kernel
theorem dX11_comes_42 : decode cX11_comes 42 = .ok (.iload_n 1, 1) := by decide +kernel
theorem dX11_comes_43 : decode cX11_comes 43 = .ok (.iload_n 2, 1) := by decide +kernel
theorem dX11_comes_44 : decode cX11_comes 44 = .ok (.iload 9, 2) := by decide +kernel
theorem dX11_comes_46 : decode cX11_comes 46 = .ok (.invokevirtual 382, 3) := by decide +kernel
theorem dX11_comes_49 : decode cX11_comes 49 = .ok (.istore 10, 2) := by decide +kernel
theorem dX11_comes_51 : decode cX11_comes 51 = .ok (.iinc 9 1, 3) := by decide +kernel
theorem dX11_comes_54 : decode cX11_comes 54 = .ok (.goto (-24), 3) := by decide +kernel
theorem dX11_comes_57 : decode cX11_comes 57 = .ok (.aload_n 0, 1) := by decide +kernel
theorem dX11_comes_58 : decode cX11_comes 58 = .ok (.iload_n 1, 1) := by decide +kernel
theorem dX11_comes_59 : decode cX11_comes 59 = .ok (.iload_n 2, 1) := by decide +kernel
theorem dX11_comes_60 : decode cX11_comes 60 = .ok (.invokevirtual 386, 3) := by decide +kernel
theorem dX11_comes_63 : decode cX11_comes 63 = .ok (.iconst 1, 1) := by decide +kernel
theorem dX11_comes_64 : decode cX11_comes 64 = .ok (.ireturn, 1) := by decide +kernel
theorem dX11_isKind_0 : decode cX11_isKind 0 = .ok (.aload_n 0, 1) := by decide +kernel
theorem dX11_isKind_1 : decode cX11_isKind 1 = .ok (.getfield 260, 3) := by decide +kernel
theorem dX11_isKind_4 : decode cX11_isKind 4 = .ok (.ifCond .eq 19, 3) := by decide +kernel
theorem dX11_isKind_7 : decode cX11_isKind 7 = .ok (.iload_n 1, 1) := by decide +kernel
theorem dX11_isKind_8 : decode cX11_isKind 8 = .ok (.i2l, 1) := by decide +kernel
theorem dX11_isKind_9 : decode cX11_isKind 9 = .ok (.lconst 0, 1) := by decide +kernel
theorem dX11_isKind_10 : decode cX11_isKind 10 = .ok (.ldc2_w 389, 3) := by decide +kernel
theorem dX11_isKind_13 : decode cX11_isKind 13 = .ok (.invokestatic 65, 3) := by decide +kernel
theorem dX11_isKind_16 : decode cX11_isKind 16 = .ok (.ifCond .eq 7, 3) := by decide +kernel
theorem dX11_isKind_19 : decode cX11_isKind 19 = .ok (.iconst 1, 1) := by decide +kernel
theorem dX11_isKind_20 : decode cX11_isKind 20 = .ok (.goto 4, 3) := by decide +kernel
theorem dX11_isKind_23 : decode cX11_isKind 23 = .ok (.iconst 0, 1) := by decide +kernel
theorem dX11_isKind_24 : decode cX11_isKind 24 = .ok (.ireturn, 1) := by decide +kernel
theorem dX11_value_0 : decode cX11_value 0 = .ok (.aload_n 0, 1) := by decide +kernel
theorem dX11_value_1 : decode cX11_value 1 = .ok (.iconst 0, 1) := by decide +kernel
theorem dX11_value_2 : decode cX11_value 2 = .ok (.putfield 5, 3) := by decide +kernel
theorem dX11_value_5 : decode cX11_value 5 = .ok (.aload_n 0, 1) := by decide +kernel
theorem dX11_value_6 : decode cX11_value 6 = .ok (.iload_n 1, 1) := by decide +kernel
theorem dX11_value_7 : decode cX11_value 7 = .ok (.invokevirtual 391, 3) := by decide +kernel
theorem dX11_value_10 : decode cX11_value 10 = .ok (.ifCond .eq 30, 3) := by decide +kernel
theorem dX11_value_13 : decode cX11_value 13 = .ok (.iload 5, 2) := by decide +kernel
theorem dX11_value_15 : decode cX11_value 15 = .ok (.i2l, 1) := by decide +kernel
theorem dX11_value_16 : decode cX11_value 16 = .ok (.lconst 0, 1) := by decide +kernel
theorem dX11_value_17 : decode cX11_value 17 = .ok (.lconst 1, 1) := by decide +kernel
theorem dX11_value_18 : decode cX11_value 18 = .ok (.invokestatic 65, 3) := by decide +kernel
theorem dX11_value_21 : decode cX11_value 21 = .ok (.ifCond .eq 19, 3) := by decide +kernel
theorem dX11_value_24 : decode cX11_value 24 = .ok (.aload_n 0, 1) := by decide +kernel
theorem dX11_value_25 : decode cX11_value 25 = .ok (.iconst 0, 1) := by decide +kernel
theorem dX11_value_26 : decode cX11_value 26 = .ok (.iload_n 1, 1) := by decide +kernel
theorem dX11_value_27 : decode cX11_value 27 = .ok (.iload_n 2, 1) := by decide +kernel
theorem dX11_value_28 : decode cX11_value 28 = .ok (.i2l, 1) := by decide +kernel
theorem dX11_value_29 : decode cX11_value 29 = .ok (.iload_n 3, 1) := by decide +kernel
theorem dX11_value_30 : decode cX11_value 30 = .ok (.i2l, 1) := by decide +kernel
theorem dX11_value_31 : decode cX11_value 31 = .ok (.iload 4, 2) := by decide +kernel
theorem dX11_value_33 : decode cX11_value 33 = .ok (.i2l, 1) := by decide +kernel
theorem dX11_value_34 : decode cX11_value 34 = .ok (.invokevirtual 394, 3) := by decide +kernel
theorem dX11_value_37 : decode cX11_value 37 = .ok (.ifCond .ne 7, 3) := by decide +kernel
theorem dX11_value_40 : decode cX11_value 40 = .ok (.ldc_w 297, 3) := by decide +kernel
theorem dX11_value_43 : decode cX11_value 43 = .ok (.ireturn, 1) := by decide +kernel
theorem dX11_value_44 : decode cX11_value 44 = .ok (.iload 5, 2) := by decide +kernel
theorem dX11_value_46 : decode cX11_value 46 = .ok (.ifCond .ne 10, 3) := by decide +kernel
theorem dX11_value_49 : decode cX11_value 49 = .ok (.aload_n 0, 1) := by decide +kernel
theorem dX11_value_50 : decode cX11_value 50 = .ok (.getfield 324, 3) := by decide +kernel
theorem dX11_value_53 : decode cX11_value 53 = .ok (.goto 7, 3) := by decide +kernel
theorem dX11_value_56 : decode cX11_value 56 = .ok (.aload_n 0, 1) := by decide +kernel
theorem dX11_value_57 : decode cX11_value 57 = .ok (.getfield 328, 3) := by decide +kernel
theorem dX11_value_60 : decode cX11_value 60 = .ok (.l2i, 1) := by decide +kernel
theorem dX11_value_61 : decode cX11_value 61 = .ok (.ireturn, 1) := by decide +kernel
theorem dX11_finest_0 : decode cX11_finest 0 = .ok (.aload_n 0, 1) := by decide +kernel
theorem dX11_finest_1 : decode cX11_finest 1 = .ok (.iconst 0, 1) := by decide +kernel
theorem dX11_finest_2 : decode cX11_finest 2 = .ok (.putfield 5, 3) := by decide +kernel
theorem dX11_finest_5 : decode cX11_finest 5 = .ok (.aload_n 0, 1) := by decide +kernel
theorem dX11_finest_6 : decode cX11_finest 6 = .ok (.iload_n 1, 1) := by decide +kernel
theorem dX11_finest_7 : decode cX11_finest 7 = .ok (.invokevirtual 391, 3) := by decide +kernel
theorem dX11_finest_10 : decode cX11_finest 10 = .ok (.ifCond .eq 30, 3) := by decide +kernel
theorem dX11_finest_13 : decode cX11_finest 13 = .ok (.iload 5, 2) := by decide +kernel
theorem dX11_finest_15 : decode cX11_finest 15 = .ok (.i2l, 1) := by decide +kernel
theorem dX11_finest_16 : decode cX11_finest 16 = .ok (.lconst 0, 1) := by decide +kernel
theorem dX11_finest_17 : decode cX11_finest 17 = .ok (.lconst 1, 1) := by decide +kernel
theorem dX11_finest_18 : decode cX11_finest 18 = .ok (.invokestatic 65, 3) := by decide +kernel
theorem dX11_finest_21 : decode cX11_finest 21 = .ok (.ifCond .eq 19, 3) := by decide +kernel
theorem dX11_finest_24 : decode cX11_finest 24 = .ok (.aload_n 0, 1) := by decide +kernel
theorem dX11_finest_25 : decode cX11_finest 25 = .ok (.iconst 0, 1) := by decide +kernel
theorem dX11_finest_26 : decode cX11_finest 26 = .ok (.iload_n 1, 1) := by decide +kernel
theorem dX11_finest_27 : decode cX11_finest 27 = .ok (.iload_n 2, 1) := by decide +kernel
theorem dX11_finest_28 : decode cX11_finest 28 = .ok (.i2l, 1) := by decide +kernel
theorem dX11_finest_29 : decode cX11_finest 29 = .ok (.iload_n 3, 1) := by decide +kernel
theorem dX11_finest_30 : decode cX11_finest 30 = .ok (.i2l, 1) := by decide +kernel
theorem dX11_finest_31 : decode cX11_finest 31 = .ok (.iload 4, 2) := by decide +kernel
theorem dX11_finest_33 : decode cX11_finest 33 = .ok (.i2l, 1) := by decide +kernel
theorem dX11_finest_34 : decode cX11_finest 34 = .ok (.invokevirtual 374, 3) := by decide +kernel
theorem dX11_finest_37 : decode cX11_finest 37 = .ok (.ifCond .ne 7, 3) := by decide +kernel
theorem dX11_finest_40 : decode cX11_finest 40 = .ok (.ldc_w 297, 3) := by decide +kernel
theorem dX11_finest_43 : decode cX11_finest 43 = .ok (.ireturn, 1) := by decide +kernel
theorem dX11_finest_44 : decode cX11_finest 44 = .ok (.bipush 22, 2) := by decide +kernel
theorem dX11_finest_46 : decode cX11_finest 46 = .ok (.aload_n 0, 1) := by decide +kernel
theorem dX11_finest_47 : decode cX11_finest 47 = .ok (.getfield 192, 3) := by decide +kernel
theorem dX11_finest_50 : decode cX11_finest 50 = .ok (.iconst 0, 1) := by decide +kernel
theorem dX11_finest_51 : decode cX11_finest 51 = .ok (.iaload, 1) := by decide +kernel
theorem dX11_finest_52 : decode cX11_finest 52 = .ok (.isub, 1) := by decide +kernel
theorem dX11_finest_53 : decode cX11_finest 53 = .ok (.istore 6, 2) := by decide +kernel
theorem dX11_finest_55 : decode cX11_finest 55 = .ok (.aload_n 0, 1) := by decide +kernel
theorem dX11_finest_56 : decode cX11_finest 56 = .ok (.iconst 1, 1) := by decide +kernel
theorem dX11_finest_57 : decode cX11_finest 57 = .ok (.iload_n 1, 1) := by decide +kernel
theorem dX11_finest_58 : decode cX11_finest 58 = .ok (.iload_n 2, 1) := by decide +kernel
theorem dX11_finest_59 : decode cX11_finest 59 = .ok (.i2l, 1) := by decide +kernel
theorem dX11_finest_60 : decode cX11_finest 60 = .ok (.iload 6, 2) := by decide +kernel
theorem dX11_finest_62 : decode cX11_finest 62 = .ok (.lshl, 1) := by decide +kernel
theorem dX11_finest_63 : decode cX11_finest 63 = .ok (.iload_n 3, 1) := by decide +kernel
theorem dX11_finest_64 : decode cX11_finest 64 = .ok (.i2l, 1) := by decide +kernel
theorem dX11_finest_65 : decode cX11_finest 65 = .ok (.iload 6, 2) := by decide +kernel
theorem dX11_finest_67 : decode cX11_finest 67 = .ok (.lshl, 1) := by decide +kernel
theorem dX11_finest_68 : decode cX11_finest 68 = .ok (.iload 4, 2) := by decide +kernel
theorem dX11_finest_70 : decode cX11_finest 70 = .ok (.i2l, 1) := by decide +kernel
theorem dX11_finest_71 : decode cX11_finest 71 = .ok (.iload 6, 2) := by decide +kernel
theorem dX11_finest_73 : decode cX11_finest 73 = .ok (.lshl, 1) := by decide +kernel
theorem dX11_finest_74 : decode cX11_finest 74 = .ok (.invokevirtual 394, 3) := by decide +kernel
theorem dX11_finest_77 : decode cX11_finest 77 = .ok (.ifCond .ne 7, 3) := by decide +kernel
theorem dX11_finest_80 : decode cX11_finest 80 = .ok (.ldc_w 297, 3) := by decide +kernel
theorem dX11_finest_83 : decode cX11_finest 83 = .ok (.ireturn, 1) := by decide +kernel
theorem dX11_finest_84 : decode cX11_finest 84 = .ok (.iload 5, 2) := by decide +kernel
theorem dX11_finest_86 : decode cX11_finest 86 = .ok (.ifCond .ne 10, 3) := by decide +kernel
theorem dX11_finest_89 : decode cX11_finest 89 = .ok (.aload_n 0, 1) := by decide +kernel
theorem dX11_finest_90 : decode cX11_finest 90 = .ok (.getfield 324, 3) := by decide +kernel
theorem dX11_finest_93 : decode cX11_finest 93 = .ok (.goto 7, 3) := by decide +kernel
theorem dX11_finest_96 : decode cX11_finest 96 = .ok (.aload_n 0, 1) := by decide +kernel
theorem dX11_finest_97 : decode cX11_finest 97 = .ok (.getfield 328, 3) := by decide +kernel
theorem dX11_finest_100 : decode cX11_finest 100 = .ok (.l2i, 1) := by decide +kernel
theorem dX11_finest_101 : decode cX11_finest 101 = .ok (.ireturn, 1) := by decide +kernel
theorem dX11_apart_0 : decode cX11_apart 0 = .ok (.aload_n 0, 1) := by decide +kernel
theorem dX11_apart_1 : decode cX11_apart 1 = .ok (.iconst 0, 1) := by decide +kernel
theorem dX11_apart_2 : decode cX11_apart 2 = .ok (.putfield 5, 3) := by decide +kernel
theorem dX11_apart_5 : decode cX11_apart 5 = .ok (.aload_n 0, 1) := by decide +kernel
theorem dX11_apart_6 : decode cX11_apart 6 = .ok (.iload_n 1, 1) := by decide +kernel
theorem dX11_apart_7 : decode cX11_apart 7 = .ok (.invokevirtual 391, 3) := by decide +kernel
theorem dX11_apart_10 : decode cX11_apart 10 = .ok (.ifCond .eq 30, 3) := by decide +kernel
theorem dX11_apart_13 : decode cX11_apart 13 = .ok (.iload 5, 2) := by decide +kernel
theorem dX11_apart_15 : decode cX11_apart 15 = .ok (.i2l, 1) := by decide +kernel
theorem dX11_apart_16 : decode cX11_apart 16 = .ok (.lconst 0, 1) := by decide +kernel
theorem dX11_apart_17 : decode cX11_apart 17 = .ok (.lconst 1, 1) := by decide +kernel
theorem dX11_apart_18 : decode cX11_apart 18 = .ok (.invokestatic 65, 3) := by decide +kernel
theorem dX11_apart_21 : decode cX11_apart 21 = .ok (.ifCond .eq 19, 3) := by decide +kernel
theorem dX11_apart_24 : decode cX11_apart 24 = .ok (.aload_n 0, 1) := by decide +kernel
theorem dX11_apart_25 : decode cX11_apart 25 = .ok (.iconst 0, 1) := by decide +kernel
theorem dX11_apart_26 : decode cX11_apart 26 = .ok (.iload_n 1, 1) := by decide +kernel
theorem dX11_apart_27 : decode cX11_apart 27 = .ok (.iload_n 2, 1) := by decide +kernel
theorem dX11_apart_28 : decode cX11_apart 28 = .ok (.i2l, 1) := by decide +kernel
theorem dX11_apart_29 : decode cX11_apart 29 = .ok (.iload_n 3, 1) := by decide +kernel
theorem dX11_apart_30 : decode cX11_apart 30 = .ok (.i2l, 1) := by decide +kernel
theorem dX11_apart_31 : decode cX11_apart 31 = .ok (.iload 4, 2) := by decide +kernel
theorem dX11_apart_33 : decode cX11_apart 33 = .ok (.i2l, 1) := by decide +kernel
theorem dX11_apart_34 : decode cX11_apart 34 = .ok (.invokevirtual 394, 3) := by decide +kernel
theorem dX11_apart_37 : decode cX11_apart 37 = .ok (.ifCond .ne 7, 3) := by decide +kernel
theorem dX11_apart_40 : decode cX11_apart 40 = .ok (.ldc2_w 397, 3) := by decide +kernel
theorem dX11_apart_43 : decode cX11_apart 43 = .ok (.lreturn, 1) := by decide +kernel
theorem dX11_apart_44 : decode cX11_apart 44 = .ok (.bipush 22, 2) := by decide +kernel
theorem dX11_apart_46 : decode cX11_apart 46 = .ok (.aload_n 0, 1) := by decide +kernel
theorem dX11_apart_47 : decode cX11_apart 47 = .ok (.getfield 192, 3) := by decide +kernel
theorem dX11_apart_50 : decode cX11_apart 50 = .ok (.iconst 0, 1) := by decide +kernel
theorem dX11_apart_51 : decode cX11_apart 51 = .ok (.iaload, 1) := by decide +kernel
theorem dX11_apart_52 : decode cX11_apart 52 = .ok (.isub, 1) := by decide +kernel
theorem dX11_apart_53 : decode cX11_apart 53 = .ok (.istore 6, 2) := by decide +kernel
theorem dX11_apart_55 : decode cX11_apart 55 = .ok (.iload 5, 2) := by decide +kernel
theorem dX11_apart_57 : decode cX11_apart 57 = .ok (.ifCond .ne 10, 3) := by decide +kernel
theorem dX11_apart_60 : decode cX11_apart 60 = .ok (.aload_n 0, 1) := by decide +kernel
theorem dX11_apart_61 : decode cX11_apart 61 = .ok (.getfield 324, 3) := by decide +kernel
theorem dX11_apart_64 : decode cX11_apart 64 = .ok (.goto 7, 3) := by decide +kernel
theorem dX11_apart_67 : decode cX11_apart 67 = .ok (.aload_n 0, 1) := by decide +kernel
theorem dX11_apart_68 : decode cX11_apart 68 = .ok (.getfield 328, 3) := by decide +kernel
theorem dX11_apart_71 : decode cX11_apart 71 = .ok (.iload 6, 2) := by decide +kernel
theorem dX11_apart_73 : decode cX11_apart 73 = .ok (.lshl, 1) := by decide +kernel
theorem dX11_apart_74 : decode cX11_apart 74 = .ok (.lstore 7, 2) := by decide +kernel
theorem dX11_apart_76 : decode cX11_apart 76 = .ok (.aload_n 0, 1) := by decide +kernel
theorem dX11_apart_77 : decode cX11_apart 77 = .ok (.iconst 1, 1) := by decide +kernel
theorem dX11_apart_78 : decode cX11_apart 78 = .ok (.iload_n 1, 1) := by decide +kernel
theorem dX11_apart_79 : decode cX11_apart 79 = .ok (.iload_n 2, 1) := by decide +kernel
theorem dX11_apart_80 : decode cX11_apart 80 = .ok (.i2l, 1) := by decide +kernel
theorem dX11_apart_81 : decode cX11_apart 81 = .ok (.iload 6, 2) := by decide +kernel
theorem dX11_apart_83 : decode cX11_apart 83 = .ok (.lshl, 1) := by decide +kernel
theorem dX11_apart_84 : decode cX11_apart 84 = .ok (.iload_n 3, 1) := by decide +kernel
theorem dX11_apart_85 : decode cX11_apart 85 = .ok (.i2l, 1) := by decide +kernel
theorem dX11_apart_86 : decode cX11_apart 86 = .ok (.iload 6, 2) := by decide +kernel
theorem dX11_apart_88 : decode cX11_apart 88 = .ok (.lshl, 1) := by decide +kernel
theorem dX11_apart_89 : decode cX11_apart 89 = .ok (.iload 4, 2) := by decide +kernel
theorem dX11_apart_91 : decode cX11_apart 91 = .ok (.i2l, 1) := by decide +kernel
theorem dX11_apart_92 : decode cX11_apart 92 = .ok (.iload 6, 2) := by decide +kernel
theorem dX11_apart_94 : decode cX11_apart 94 = .ok (.lshl, 1) := by decide +kernel
theorem dX11_apart_95 : decode cX11_apart 95 = .ok (.invokevirtual 394, 3) := by decide +kernel
theorem dX11_apart_98 : decode cX11_apart 98 = .ok (.ifCond .ne 7, 3) := by decide +kernel
theorem dX11_apart_101 : decode cX11_apart 101 = .ok (.ldc2_w 397, 3) := by decide +kernel
theorem dX11_apart_104 : decode cX11_apart 104 = .ok (.lreturn, 1) := by decide +kernel
theorem dX11_apart_105 : decode cX11_apart 105 = .ok (.lload 7, 2) := by decide +kernel
theorem dX11_apart_107 : decode cX11_apart 107 = .ok (.iload 5, 2) := by decide +kernel
theorem dX11_apart_109 : decode cX11_apart 109 = .ok (.ifCond .ne 10, 3) := by decide +kernel
theorem dX11_apart_112 : decode cX11_apart 112 = .ok (.aload_n 0, 1) := by decide +kernel
theorem dX11_apart_113 : decode cX11_apart 113 = .ok (.getfield 324, 3) := by decide +kernel
theorem dX11_apart_116 : decode cX11_apart 116 = .ok (.goto 7, 3) := by decide +kernel
theorem dX11_apart_119 : decode cX11_apart 119 = .ok (.aload_n 0, 1) := by decide +kernel
theorem dX11_apart_120 : decode cX11_apart 120 = .ok (.getfield 328, 3) := by decide +kernel
theorem dX11_apart_123 : decode cX11_apart 123 = .ok (.lsub, 1) := by decide +kernel
theorem dX11_apart_124 : decode cX11_apart 124 = .ok (.invokestatic 314, 3) := by decide +kernel
theorem dX11_apart_127 : decode cX11_apart 127 = .ok (.lreturn, 1) := by decide +kernel
theorem dX11_sweep_0 : decode cX11_sweep 0 = .ok (.aload_n 0, 1) := by decide +kernel
theorem dX11_sweep_1 : decode cX11_sweep 1 = .ok (.iconst 0, 1) := by decide +kernel
theorem dX11_sweep_2 : decode cX11_sweep 2 = .ok (.putfield 5, 3) := by decide +kernel
theorem dX11_sweep_5 : decode cX11_sweep 5 = .ok (.aload_n 0, 1) := by decide +kernel
theorem dX11_sweep_6 : decode cX11_sweep 6 = .ok (.iload_n 1, 1) := by decide +kernel
theorem dX11_sweep_7 : decode cX11_sweep 7 = .ok (.invokevirtual 391, 3) := by decide +kernel
theorem dX11_sweep_10 : decode cX11_sweep 10 = .ok (.ifCond .eq 37, 3) := by decide +kernel
theorem dX11_sweep_13 : decode cX11_sweep 13 = .ok (.iload_n 1, 1) := by decide +kernel
theorem dX11_sweep_14 : decode cX11_sweep 14 = .ok (.invokestatic 132, 3) := by decide +kernel
theorem dX11_sweep_17 : decode cX11_sweep 17 = .ok (.iconst 1, 1) := by decide +kernel
theorem dX11_sweep_18 : decode cX11_sweep 18 = .ok (.if_icmp .ne 29, 3) := by decide +kernel
theorem dX11_sweep_21 : decode cX11_sweep 21 = .ok (.iload 4, 2) := by decide +kernel
theorem dX11_sweep_23 : decode cX11_sweep 23 = .ok (.i2l, 1) := by decide +kernel
theorem dX11_sweep_24 : decode cX11_sweep 24 = .ok (.lconst 1, 1) := by decide +kernel
theorem dX11_sweep_25 : decode cX11_sweep 25 = .ok (.ldc2_w 399, 3) := by decide +kernel
theorem dX11_sweep_28 : decode cX11_sweep 28 = .ok (.invokestatic 65, 3) := by decide +kernel
theorem dX11_sweep_31 : decode cX11_sweep 31 = .ok (.ifCond .eq 16, 3) := by decide +kernel
theorem dX11_sweep_34 : decode cX11_sweep 34 = .ok (.iload 5, 2) := by decide +kernel
theorem dX11_sweep_36 : decode cX11_sweep 36 = .ok (.i2l, 1) := by decide +kernel
theorem dX11_sweep_37 : decode cX11_sweep 37 = .ok (.lconst 0, 1) := by decide +kernel
theorem dX11_sweep_38 : decode cX11_sweep 38 = .ok (.ldc2_w 206, 3) := by decide +kernel
theorem dX11_sweep_41 : decode cX11_sweep 41 = .ok (.invokestatic 65, 3) := by decide +kernel
theorem dX11_sweep_44 : decode cX11_sweep 44 = .ok (.ifCond .ne 7, 3) := by decide +kernel
theorem dX11_sweep_47 : decode cX11_sweep 47 = .ok (.ldc2_w 403, 3) := by decide +kernel
theorem dX11_sweep_50 : decode cX11_sweep 50 = .ok (.lreturn, 1) := by decide +kernel
theorem dX11_sweep_51 : decode cX11_sweep 51 = .ok (.bipush 22, 2) := by decide +kernel
theorem dX11_sweep_53 : decode cX11_sweep 53 = .ok (.aload_n 0, 1) := by decide +kernel
theorem dX11_sweep_54 : decode cX11_sweep 54 = .ok (.getfield 192, 3) := by decide +kernel
theorem dX11_sweep_57 : decode cX11_sweep 57 = .ok (.iconst 0, 1) := by decide +kernel
theorem dX11_sweep_58 : decode cX11_sweep 58 = .ok (.iaload, 1) := by decide +kernel
theorem dX11_sweep_59 : decode cX11_sweep 59 = .ok (.isub, 1) := by decide +kernel
theorem dX11_sweep_60 : decode cX11_sweep 60 = .ok (.istore 6, 2) := by decide +kernel
theorem dX11_sweep_62 : decode cX11_sweep 62 = .ok (.ldc2_w 368, 3) := by decide +kernel
theorem dX11_sweep_65 : decode cX11_sweep 65 = .ok (.lstore 7, 2) := by decide +kernel
theorem dX11_sweep_67 : decode cX11_sweep 67 = .ok (.lconst 0, 1) := by decide +kernel
theorem dX11_sweep_68 : decode cX11_sweep 68 = .ok (.lstore 9, 2) := by decide +kernel
theorem dX11_sweep_70 : decode cX11_sweep 70 = .ok (.ldc2_w 403, 3) := by decide +kernel
theorem dX11_sweep_73 : decode cX11_sweep 73 = .ok (.lstore 11, 2) := by decide +kernel
theorem dX11_sweep_75 : decode cX11_sweep 75 = .ok (.iconst 0, 1) := by decide +kernel
theorem dX11_sweep_76 : decode cX11_sweep 76 = .ok (.istore 13, 2) := by decide +kernel
theorem dX11_sweep_78 : decode cX11_sweep 78 = .ok (.iconst 0, 1) := by decide +kernel
theorem dX11_sweep_79 : decode cX11_sweep 79 = .ok (.istore 14, 2) := by decide +kernel
theorem dX11_sweep_81 : decode cX11_sweep 81 = .ok (.iconst 0, 1) := by decide +kernel
theorem dX11_sweep_82 : decode cX11_sweep 82 = .ok (.istore 15, 2) := by decide +kernel
theorem dX11_sweep_84 : decode cX11_sweep 84 = .ok (.iload 15, 2) := by decide +kernel
theorem dX11_sweep_86 : decode cX11_sweep 86 = .ok (.iload 4, 2) := by decide +kernel
theorem dX11_sweep_88 : decode cX11_sweep 88 = .ok (.if_icmp .ge 116, 3) := by decide +kernel
theorem dX11_sweep_91 : decode cX11_sweep 91 = .ok (.iload_n 2, 1) := by decide +kernel
theorem dX11_sweep_92 : decode cX11_sweep 92 = .ok (.i2l, 1) := by decide +kernel
theorem dX11_sweep_93 : decode cX11_sweep 93 = .ok (.iload_n 3, 1) := by decide +kernel
theorem dX11_sweep_94 : decode cX11_sweep 94 = .ok (.i2l, 1) := by decide +kernel
theorem dX11_sweep_95 : decode cX11_sweep 95 = .ok (.iload 15, 2) := by decide +kernel
theorem dX11_sweep_97 : decode cX11_sweep 97 = .ok (.i2l, 1) := by decide +kernel
theorem dX11_sweep_98 : decode cX11_sweep 98 = .ok (.lmul, 1) := by decide +kernel
theorem dX11_sweep_99 : decode cX11_sweep 99 = .ok (.ladd, 1) := by decide +kernel
theorem dX11_sweep_100 : decode cX11_sweep 100 = .ok (.lstore 16, 2) := by decide +kernel
theorem dX11_sweep_102 : decode cX11_sweep 102 = .ok (.aload_n 0, 1) := by decide +kernel
theorem dX11_sweep_103 : decode cX11_sweep 103 = .ok (.iconst 0, 1) := by decide +kernel
theorem dX11_sweep_104 : decode cX11_sweep 104 = .ok (.iload_n 1, 1) := by decide +kernel
theorem dX11_sweep_105 : decode cX11_sweep 105 = .ok (.lload 16, 2) := by decide +kernel
theorem dX11_sweep_107 : decode cX11_sweep 107 = .ok (.lconst 0, 1) := by decide +kernel
theorem dX11_sweep_108 : decode cX11_sweep 108 = .ok (.lconst 0, 1) := by decide +kernel
theorem dX11_sweep_109 : decode cX11_sweep 109 = .ok (.invokevirtual 394, 3) := by decide +kernel
theorem dX11_sweep_112 : decode cX11_sweep 112 = .ok (.ifCond .ne 9, 3) := by decide +kernel
theorem dX11_sweep_115 : decode cX11_sweep 115 = .ok (.iinc 14 1, 3) := by decide +kernel
theorem dX11_sweep_118 : decode cX11_sweep 118 = .ok (.goto 80, 3) := by decide +kernel
theorem dX11_sweep_121 : decode cX11_sweep 121 = .ok (.aload_n 0, 1) := by decide +kernel
theorem dX11_sweep_122 : decode cX11_sweep 122 = .ok (.getfield 324, 3) := by decide +kernel
theorem dX11_sweep_125 : decode cX11_sweep 125 = .ok (.lstore 18, 2) := by decide +kernel
theorem dX11_sweep_127 : decode cX11_sweep 127 = .ok (.iload 13, 2) := by decide +kernel
theorem dX11_sweep_129 : decode cX11_sweep 129 = .ok (.lload 18, 2) := by decide +kernel
theorem dX11_sweep_131 : decode cX11_sweep 131 = .ok (.lload 11, 2) := by decide +kernel
theorem dX11_sweep_133 : decode cX11_sweep 133 = .ok (.lcmp, 1) := by decide +kernel
theorem dX11_sweep_134 : decode cX11_sweep 134 = .ok (.ifCond .ge 7, 3) := by decide +kernel
theorem dX11_sweep_137 : decode cX11_sweep 137 = .ok (.iconst 1, 1) := by decide +kernel
theorem dX11_sweep_138 : decode cX11_sweep 138 = .ok (.goto 4, 3) := by decide +kernel
theorem dX11_sweep_141 : decode cX11_sweep 141 = .ok (.iconst 0, 1) := by decide +kernel
theorem dX11_sweep_142 : decode cX11_sweep 142 = .ok (.iadd, 1) := by decide +kernel
theorem dX11_sweep_143 : decode cX11_sweep 143 = .ok (.istore 13, 2) := by decide +kernel
theorem dX11_sweep_145 : decode cX11_sweep 145 = .ok (.lload 18, 2) := by decide +kernel
theorem dX11_sweep_147 : decode cX11_sweep 147 = .ok (.lstore 11, 2) := by decide +kernel
theorem dX11_sweep_149 : decode cX11_sweep 149 = .ok (.aload_n 0, 1) := by decide +kernel
theorem dX11_sweep_150 : decode cX11_sweep 150 = .ok (.iconst 1, 1) := by decide +kernel
theorem dX11_sweep_151 : decode cX11_sweep 151 = .ok (.iload_n 1, 1) := by decide +kernel
theorem dX11_sweep_152 : decode cX11_sweep 152 = .ok (.lload 16, 2) := by decide +kernel
theorem dX11_sweep_154 : decode cX11_sweep 154 = .ok (.iload 6, 2) := by decide +kernel
theorem dX11_sweep_156 : decode cX11_sweep 156 = .ok (.lshl, 1) := by decide +kernel
theorem dX11_sweep_157 : decode cX11_sweep 157 = .ok (.lconst 0, 1) := by decide +kernel
theorem dX11_sweep_158 : decode cX11_sweep 158 = .ok (.lconst 0, 1) := by decide +kernel
theorem dX11_sweep_159 : decode cX11_sweep 159 = .ok (.invokevirtual 394, 3) := by decide +kernel
theorem dX11_sweep_162 : decode cX11_sweep 162 = .ok (.istore 20, 2) := by decide +kernel
theorem dX11_sweep_164 : decode cX11_sweep 164 = .ok (.lload 18, 2) := by decide +kernel
theorem dX11_sweep_166 : decode cX11_sweep 166 = .ok (.iload 6, 2) := by decide +kernel
theorem dX11_sweep_168 : decode cX11_sweep 168 = .ok (.lshl, 1) := by decide +kernel
theorem dX11_sweep_169 : decode cX11_sweep 169 = .ok (.aload_n 0, 1) := by decide +kernel
theorem dX11_sweep_170 : decode cX11_sweep 170 = .ok (.getfield 324, 3) := by decide +kernel
theorem dX11_sweep_173 : decode cX11_sweep 173 = .ok (.lsub, 1) := by decide +kernel
theorem dX11_sweep_174 : decode cX11_sweep 174 = .ok (.invokestatic 314, 3) := by decide +kernel
theorem dX11_sweep_177 : decode cX11_sweep 177 = .ok (.lstore 21, 2) := by decide +kernel
theorem dX11_sweep_179 : decode cX11_sweep 179 = .ok (.lload 21, 2) := by decide +kernel
theorem dX11_sweep_181 : decode cX11_sweep 181 = .ok (.lload 7, 2) := by decide +kernel
theorem dX11_sweep_183 : decode cX11_sweep 183 = .ok (.lcmp, 1) := by decide +kernel
theorem dX11_sweep_184 : decode cX11_sweep 184 = .ok (.ifCond .gt 6, 3) := by decide +kernel
theorem dX11_sweep_187 : decode cX11_sweep 187 = .ok (.goto 11, 3) := by decide +kernel
theorem dX11_sweep_190 : decode cX11_sweep 190 = .ok (.lload 21, 2) := by decide +kernel
theorem dX11_sweep_192 : decode cX11_sweep 192 = .ok (.lstore 7, 2) := by decide +kernel
theorem dX11_sweep_194 : decode cX11_sweep 194 = .ok (.lload 16, 2) := by decide +kernel
theorem dX11_sweep_196 : decode cX11_sweep 196 = .ok (.lstore 9, 2) := by decide +kernel
theorem dX11_sweep_198 : decode cX11_sweep 198 = .ok (.iinc 15 1, 3) := by decide +kernel
theorem dX11_sweep_201 : decode cX11_sweep 201 = .ok (.goto (-117), 3) := by decide +kernel
theorem dX11_sweep_204 : decode cX11_sweep 204 = .ok (.iload 5, 2) := by decide +kernel
theorem dX11_sweep_206 : decode cX11_sweep 206 = .ok (.iconst 1, 1) := by decide +kernel
theorem dX11_sweep_207 : decode cX11_sweep 207 = .ok (.if_icmp .le 19, 3) := by decide +kernel
theorem dX11_sweep_210 : decode cX11_sweep 210 = .ok (.iload 5, 2) := by decide +kernel
theorem dX11_sweep_212 : decode cX11_sweep 212 = .ok (.iconst 2, 1) := by decide +kernel
theorem dX11_sweep_213 : decode cX11_sweep 213 = .ok (.if_icmp .ne 9, 3) := by decide +kernel
theorem dX11_sweep_216 : decode cX11_sweep 216 = .ok (.iload 13, 2) := by decide +kernel
theorem dX11_sweep_218 : decode cX11_sweep 218 = .ok (.i2l, 1) := by decide +kernel
theorem dX11_sweep_219 : decode cX11_sweep 219 = .ok (.goto 6, 3) := by decide +kernel
theorem dX11_sweep_222 : decode cX11_sweep 222 = .ok (.iload 14, 2) := by decide +kernel
theorem dX11_sweep_224 : decode cX11_sweep 224 = .ok (.i2l, 1) := by decide +kernel
theorem dX11_sweep_225 : decode cX11_sweep 225 = .ok (.lreturn, 1) := by decide +kernel
theorem dX11_sweep_226 : decode cX11_sweep 226 = .ok (.iload 14, 2) := by decide +kernel
theorem dX11_sweep_228 : decode cX11_sweep 228 = .ok (.iload 4, 2) := by decide +kernel
theorem dX11_sweep_230 : decode cX11_sweep 230 = .ok (.if_icmp .ne 9, 3) := by decide +kernel
theorem dX11_sweep_233 : decode cX11_sweep 233 = .ok (.ldc2_w 403, 3) := by decide +kernel
theorem dX11_sweep_236 : decode cX11_sweep 236 = .ok (.goto 15, 3) := by decide +kernel
theorem dX11_sweep_239 : decode cX11_sweep 239 = .ok (.iload 5, 2) := by decide +kernel
theorem dX11_sweep_241 : decode cX11_sweep 241 = .ok (.ifCond .ne 8, 3) := by decide +kernel
theorem dX11_sweep_244 : decode cX11_sweep 244 = .ok (.lload 7, 2) := by decide +kernel
theorem dX11_sweep_246 : decode cX11_sweep 246 = .ok (.goto 5, 3) := by decide +kernel
theorem dX11_sweep_249 : decode cX11_sweep 249 = .ok (.lload 9, 2) := by decide +kernel
theorem dX11_sweep_251 : decode cX11_sweep 251 = .ok (.lreturn, 1) := by decide +kernel
theorem dX11_offBy_0 : decode cX11_offBy 0 = .ok (.getstatic 362, 3) := by decide +kernel
theorem dX11_offBy_3 : decode cX11_offBy 3 = .ok (.iload_n 1, 1) := by decide +kernel
theorem dX11_offBy_4 : decode cX11_offBy 4 = .ok (.iaload, 1) := by decide +kernel
theorem dX11_offBy_5 : decode cX11_offBy 5 = .ok (.istore_n 3, 1) := by decide +kernel
theorem dX11_offBy_6 : decode cX11_offBy 6 = .ok (.aload_n 0, 1) := by decide +kernel
theorem dX11_offBy_7 : decode cX11_offBy 7 = .ok (.getfield 208, 3) := by decide +kernel
theorem dX11_offBy_10 : decode cX11_offBy 10 = .ok (.bipush 24, 2) := by decide +kernel
theorem dX11_offBy_12 : decode cX11_offBy 12 = .ok (.iload_n 3, 1) := by decide +kernel
theorem dX11_offBy_13 : decode cX11_offBy 13 = .ok (.imul, 1) := by decide +kernel
theorem dX11_offBy_14 : decode cX11_offBy 14 = .ok (.iload_n 2, 1) := by decide +kernel
theorem dX11_offBy_15 : decode cX11_offBy 15 = .ok (.iadd, 1) := by decide +kernel
theorem dX11_offBy_16 : decode cX11_offBy 16 = .ok (.iconst 1, 1) := by decide +kernel
theorem dX11_offBy_17 : decode cX11_offBy 17 = .ok (.isub, 1) := by decide +kernel
theorem dX11_offBy_18 : decode cX11_offBy 18 = .ok (.laload, 1) := by decide +kernel
theorem dX11_offBy_19 : decode cX11_offBy 19 = .ok (.lstore 4, 2) := by decide +kernel
theorem dX11_offBy_21 : decode cX11_offBy 21 = .ok (.iload_n 1, 1) := by decide +kernel
theorem dX11_offBy_22 : decode cX11_offBy 22 = .ok (.ifCond .ne 17, 3) := by decide +kernel
theorem dX11_offBy_25 : decode cX11_offBy 25 = .ok (.lload 4, 2) := by decide +kernel
theorem dX11_offBy_27 : decode cX11_offBy 27 = .ok (.iconst 4, 1) := by decide +kernel
theorem dX11_offBy_28 : decode cX11_offBy 28 = .ok (.iload_n 2, 1) := by decide +kernel
theorem dX11_offBy_29 : decode cX11_offBy 29 = .ok (.imul, 1) := by decide +kernel
theorem dX11_offBy_30 : decode cX11_offBy 30 = .ok (.i2l, 1) := by decide +kernel
theorem dX11_offBy_31 : decode cX11_offBy 31 = .ok (.ladd, 1) := by decide +kernel
theorem dX11_offBy_32 : decode cX11_offBy 32 = .ok (.ldc2_w 405, 3) := by decide +kernel
theorem dX11_offBy_35 : decode cX11_offBy 35 = .ok (.ladd, 1) := by decide +kernel
theorem dX11_offBy_36 : decode cX11_offBy 36 = .ok (.goto 19, 3) := by decide +kernel
theorem dX11_offBy_39 : decode cX11_offBy 39 = .ok (.ldc2_w 178, 3) := by decide +kernel
theorem dX11_offBy_42 : decode cX11_offBy 42 = .ok (.lload 4, 2) := by decide +kernel
theorem dX11_offBy_44 : decode cX11_offBy 44 = .ok (.lmul, 1) := by decide +kernel
theorem dX11_offBy_45 : decode cX11_offBy 45 = .ok (.bipush 8, 2) := by decide +kernel
theorem dX11_offBy_47 : decode cX11_offBy 47 = .ok (.iload_n 2, 1) := by decide +kernel
theorem dX11_offBy_48 : decode cX11_offBy 48 = .ok (.imul, 1) := by decide +kernel
theorem dX11_offBy_49 : decode cX11_offBy 49 = .ok (.i2l, 1) := by decide +kernel
theorem dX11_offBy_50 : decode cX11_offBy 50 = .ok (.ladd, 1) := by decide +kernel
theorem dX11_offBy_51 : decode cX11_offBy 51 = .ok (.ldc2_w 405, 3) := by decide +kernel
theorem dX11_offBy_54 : decode cX11_offBy 54 = .ok (.ladd, 1) := by decide +kernel
theorem dX11_offBy_55 : decode cX11_offBy 55 = .ok (.lstore 6, 2) := by decide +kernel
theorem dX11_offBy_57 : decode cX11_offBy 57 = .ok (.lload 6, 2) := by decide +kernel
theorem dX11_offBy_59 : decode cX11_offBy 59 = .ok (.aload_n 0, 1) := by decide +kernel
theorem dX11_offBy_60 : decode cX11_offBy 60 = .ok (.getfield 194, 3) := by decide +kernel
theorem dX11_offBy_63 : decode cX11_offBy 63 = .ok (.iconst 0, 1) := by decide +kernel
theorem dX11_offBy_64 : decode cX11_offBy 64 = .ok (.iaload, 1) := by decide +kernel
theorem dX11_offBy_65 : decode cX11_offBy 65 = .ok (.lshr, 1) := by decide +kernel
theorem dX11_offBy_66 : decode cX11_offBy 66 = .ok (.ldc2_w 178, 3) := by decide +kernel
theorem dX11_offBy_69 : decode cX11_offBy 69 = .ok (.ladd, 1) := by decide +kernel
theorem dX11_offBy_70 : decode cX11_offBy 70 = .ok (.lreturn, 1) := by decide +kernel
theorem dX11_hasOff_0 : decode cX11_hasOff 0 = .ok (.aload_n 0, 1) := by decide +kernel
theorem dX11_hasOff_1 : decode cX11_hasOff 1 = .ok (.getfield 260, 3) := by decide +kernel
theorem dX11_hasOff_4 : decode cX11_hasOff 4 = .ok (.ifCond .eq 17, 3) := by decide +kernel
theorem dX11_hasOff_7 : decode cX11_hasOff 7 = .ok (.iload_n 1, 1) := by decide +kernel
theorem dX11_hasOff_8 : decode cX11_hasOff 8 = .ok (.ifCond .eq 9, 3) := by decide +kernel
theorem dX11_hasOff_11 : decode cX11_hasOff 11 = .ok (.iload_n 1, 1) := by decide +kernel
theorem dX11_hasOff_12 : decode cX11_hasOff 12 = .ok (.bipush 6, 2) := by decide +kernel
theorem dX11_hasOff_14 : decode cX11_hasOff 14 = .ok (.if_icmp .ne 7, 3) := by decide +kernel
theorem dX11_hasOff_17 : decode cX11_hasOff 17 = .ok (.iconst 1, 1) := by decide +kernel
theorem dX11_hasOff_18 : decode cX11_hasOff 18 = .ok (.goto 4, 3) := by decide +kernel
theorem dX11_hasOff_21 : decode cX11_hasOff 21 = .ok (.iconst 0, 1) := by decide +kernel
theorem dX11_hasOff_22 : decode cX11_hasOff 22 = .ok (.ireturn, 1) := by decide +kernel
theorem dX11_off_0 : decode cX11_off 0 = .ok (.aload_n 0, 1) := by decide +kernel
theorem dX11_off_1 : decode cX11_off 1 = .ok (.iconst 0, 1) := by decide +kernel
theorem dX11_off_2 : decode cX11_off 2 = .ok (.putfield 5, 3) := by decide +kernel
theorem dX11_off_5 : decode cX11_off 5 = .ok (.aload_n 0, 1) := by decide +kernel
theorem dX11_off_6 : decode cX11_off 6 = .ok (.iload_n 1, 1) := by decide +kernel
theorem dX11_off_7 : decode cX11_off 7 = .ok (.invokevirtual 407, 3) := by decide +kernel
theorem dX11_off_10 : decode cX11_off 10 = .ok (.ifCond .eq 18, 3) := by decide +kernel
theorem dX11_off_13 : decode cX11_off 13 = .ok (.aload_n 0, 1) := by decide +kernel
theorem dX11_off_14 : decode cX11_off 14 = .ok (.iload_n 1, 1) := by decide +kernel
theorem dX11_off_15 : decode cX11_off 15 = .ok (.aload_n 0, 1) := by decide +kernel
theorem dX11_off_16 : decode cX11_off 16 = .ok (.getfield 171, 3) := by decide +kernel
theorem dX11_off_19 : decode cX11_off 19 = .ok (.iconst 0, 1) := by decide +kernel
theorem dX11_off_20 : decode cX11_off 20 = .ok (.iaload, 1) := by decide +kernel
