theorem dX3_init_0 : decode cX3_init 0 = .ok (.aload_n 0, 1) := by decide +kernel
theorem dX3_init_1 : decode cX3_init 1 = .ok (.invokespecial 1, 3) := by decide +kernel
theorem dX3_init_4 : decode cX3_init 4 = .ok (.aload_n 0, 1) := by decide +kernel
theorem dX3_init_5 : decode cX3_init 5 = .ok (.iconst 0, 1) := by decide +kernel
theorem dX3_init_6 : decode cX3_init 6 = .ok (.anewarray 7, 3) := by decide +kernel
theorem dX3_init_9 : decode cX3_init 9 = .ok (.putfield 9, 3) := by decide +kernel
theorem dX3_init_12 : decode cX3_init 12 = .ok (.aload_n 0, 1) := by decide +kernel
theorem dX3_init_13 : decode cX3_init 13 = .ok (.iconst 0, 1) := by decide +kernel
theorem dX3_init_14 : decode cX3_init 14 = .ok (.anewarray 15, 3) := by decide +kernel
theorem dX3_init_17 : decode cX3_init 17 = .ok (.putfield 17, 3) := by decide +kernel
theorem dX3_init_20 : decode cX3_init 20 = .ok (.return_, 1) := by decide +kernel
theorem dX3_add_0 : decode cX3_add 0 = .ok (.aload_n 0, 1) := by decide +kernel
theorem dX3_add_1 : decode cX3_add 1 = .ok (.getfield 9, 3) := by decide +kernel
theorem dX3_add_4 : decode cX3_add 4 = .ok (.arraylength, 1) := by decide +kernel
theorem dX3_add_5 : decode cX3_add 5 = .ok (.iconst 1, 1) := by decide +kernel
theorem dX3_add_6 : decode cX3_add 6 = .ok (.iadd, 1) := by decide +kernel
theorem dX3_add_7 : decode cX3_add 7 = .ok (.anewarray 7, 3) := by decide +kernel
theorem dX3_add_10 : decode cX3_add 10 = .ok (.astore 5, 2) := by decide +kernel
theorem dX3_add_12 : decode cX3_add 12 = .ok (.iconst 0, 1) := by decide +kernel
theorem dX3_add_13 : decode cX3_add 13 = .ok (.istore 6, 2) := by decide +kernel
theorem dX3_add_15 : decode cX3_add 15 = .ok (.iload 6, 2) := by decide +kernel
theorem dX3_add_17 : decode cX3_add 17 = .ok (.aload_n 0, 1) := by decide +kernel
theorem dX3_add_18 : decode cX3_add 18 = .ok (.getfield 9, 3) := by decide +kernel
theorem dX3_add_21 : decode cX3_add 21 = .ok (.arraylength, 1) := by decide +kernel
theorem dX3_add_22 : decode cX3_add 22 = .ok (.if_icmp .ge 21, 3) := by decide +kernel
theorem dX3_add_25 : decode cX3_add 25 = .ok (.aload 5, 2) := by decide +kernel
theorem dX3_add_27 : decode cX3_add 27 = .ok (.iload 6, 2) := by decide +kernel
theorem dX3_add_29 : decode cX3_add 29 = .ok (.aload_n 0, 1) := by decide +kernel
theorem dX3_add_30 : decode cX3_add 30 = .ok (.getfield 9, 3) := by decide +kernel
theorem dX3_add_33 : decode cX3_add 33 = .ok (.iload 6, 2) := by decide +kernel
theorem dX3_add_35 : decode cX3_add 35 = .ok (.aaload, 1) := by decide +kernel
theorem dX3_add_36 : decode cX3_add 36 = .ok (.aastore, 1) := by decide +kernel
theorem dX3_add_37 : decode cX3_add 37 = .ok (.iinc 6 1, 3) := by decide +kernel
theorem dX3_add_40 : decode cX3_add 40 = .ok (.goto (-25), 3) := by decide +kernel
theorem dX3_add_43 : decode cX3_add 43 = .ok (.new 7, 3) := by decide +kernel
theorem dX3_add_46 : decode cX3_add 46 = .ok (.dup, 1) := by decide +kernel
theorem dX3_add_47 : decode cX3_add 47 = .ok (.invokespecial 34, 3) := by decide +kernel
theorem dX3_add_50 : decode cX3_add 50 = .ok (.astore 6, 2) := by decide +kernel
theorem dX3_add_52 : decode cX3_add 52 = .ok (.aload 6, 2) := by decide +kernel
theorem dX3_add_54 : decode cX3_add 54 = .ok (.iload_n 1, 1) := by decide +kernel
theorem dX3_add_55 : decode cX3_add 55 = .ok (.putfield 35, 3) := by decide +kernel
theorem dX3_add_58 : decode cX3_add 58 = .ok (.aload 6, 2) := by decide +kernel
theorem dX3_add_60 : decode cX3_add 60 = .ok (.iload_n 2, 1) := by decide +kernel
theorem dX3_add_61 : decode cX3_add 61 = .ok (.putfield 38, 3) := by decide +kernel
theorem dX3_add_64 : decode cX3_add 64 = .ok (.aload 6, 2) := by decide +kernel
theorem dX3_add_66 : decode cX3_add 66 = .ok (.iload_n 3, 1) := by decide +kernel
theorem dX3_add_67 : decode cX3_add 67 = .ok (.putfield 41, 3) := by decide +kernel
theorem dX3_add_70 : decode cX3_add 70 = .ok (.aload 6, 2) := by decide +kernel
theorem dX3_add_72 : decode cX3_add 72 = .ok (.aload 4, 2) := by decide +kernel
theorem dX3_add_74 : decode cX3_add 74 = .ok (.putfield 44, 3) := by decide +kernel
theorem dX3_add_77 : decode cX3_add 77 = .ok (.aload 5, 2) := by decide +kernel
theorem dX3_add_79 : decode cX3_add 79 = .ok (.aload_n 0, 1) := by decide +kernel
theorem dX3_add_80 : decode cX3_add 80 = .ok (.getfield 9, 3) := by decide +kernel
theorem dX3_add_83 : decode cX3_add 83 = .ok (.arraylength, 1) := by decide +kernel
theorem dX3_add_84 : decode cX3_add 84 = .ok (.aload 6, 2) := by decide +kernel
theorem dX3_add_86 : decode cX3_add 86 = .ok (.aastore, 1) := by decide +kernel
theorem dX3_add_87 : decode cX3_add 87 = .ok (.aload_n 0, 1) := by decide +kernel
theorem dX3_add_88 : decode cX3_add 88 = .ok (.aload 5, 2) := by decide +kernel
theorem dX3_add_90 : decode cX3_add 90 = .ok (.putfield 9, 3) := by decide +kernel
theorem dX3_add_93 : decode cX3_add 93 = .ok (.aload_n 0, 1) := by decide +kernel
theorem dX3_add_94 : decode cX3_add 94 = .ok (.invokevirtual 47, 3) := by decide +kernel
theorem dX3_add_97 : decode cX3_add 97 = .ok (.return_, 1) := by decide +kernel
theorem dX3_reckon_0 : decode cX3_reckon 0 = .ok (.aload_n 0, 1) := by decide +kernel
theorem dX3_reckon_1 : decode cX3_reckon 1 = .ok (.getfield 9, 3) := by decide +kernel
theorem dX3_reckon_4 : decode cX3_reckon 4 = .ok (.arraylength, 1) := by decide +kernel
theorem dX3_reckon_5 : decode cX3_reckon 5 = .ok (.istore_n 1, 1) := by decide +kernel
theorem dX3_reckon_6 : decode cX3_reckon 6 = .ok (.iload_n 1, 1) := by decide +kernel
theorem dX3_reckon_7 : decode cX3_reckon 7 = .ok (.newarray .int, 2) := by decide +kernel
theorem dX3_reckon_9 : decode cX3_reckon 9 = .ok (.astore_n 2, 1) := by decide +kernel
theorem dX3_reckon_10 : decode cX3_reckon 10 = .ok (.iload_n 1, 1) := by decide +kernel
theorem dX3_reckon_11 : decode cX3_reckon 11 = .ok (.newarray .int, 2) := by decide +kernel
theorem dX3_reckon_13 : decode cX3_reckon 13 = .ok (.astore_n 3, 1) := by decide +kernel
theorem dX3_reckon_14 : decode cX3_reckon 14 = .ok (.iconst 1, 1) := by decide +kernel
theorem dX3_reckon_15 : decode cX3_reckon 15 = .ok (.istore 4, 2) := by decide +kernel
theorem dX3_reckon_17 : decode cX3_reckon 17 = .ok (.iload 4, 2) := by decide +kernel
theorem dX3_reckon_19 : decode cX3_reckon 19 = .ok (.ifCond .eq 233, 3) := by decide +kernel
theorem dX3_reckon_22 : decode cX3_reckon 22 = .ok (.iconst 0, 1) := by decide +kernel
theorem dX3_reckon_23 : decode cX3_reckon 23 = .ok (.istore 4, 2) := by decide +kernel
theorem dX3_reckon_25 : decode cX3_reckon 25 = .ok (.iconst 0, 1) := by decide +kernel
theorem dX3_reckon_26 : decode cX3_reckon 26 = .ok (.istore 5, 2) := by decide +kernel
theorem dX3_reckon_28 : decode cX3_reckon 28 = .ok (.iload 5, 2) := by decide +kernel
theorem dX3_reckon_30 : decode cX3_reckon 30 = .ok (.iload_n 1, 1) := by decide +kernel
theorem dX3_reckon_31 : decode cX3_reckon 31 = .ok (.if_icmp .ge 14, 3) := by decide +kernel
theorem dX3_reckon_34 : decode cX3_reckon 34 = .ok (.aload_n 3, 1) := by decide +kernel
theorem dX3_reckon_35 : decode cX3_reckon 35 = .ok (.iload 5, 2) := by decide +kernel
theorem dX3_reckon_37 : decode cX3_reckon 37 = .ok (.iconst 0, 1) := by decide +kernel
theorem dX3_reckon_38 : decode cX3_reckon 38 = .ok (.iastore, 1) := by decide +kernel
theorem dX3_reckon_39 : decode cX3_reckon 39 = .ok (.iinc 5 1, 3) := by decide +kernel
theorem dX3_reckon_42 : decode cX3_reckon 42 = .ok (.goto (-14), 3) := by decide +kernel
theorem dX3_reckon_45 : decode cX3_reckon 45 = .ok (.iconst 0, 1) := by decide +kernel
theorem dX3_reckon_46 : decode cX3_reckon 46 = .ok (.istore 5, 2) := by decide +kernel
theorem dX3_reckon_48 : decode cX3_reckon 48 = .ok (.iload 5, 2) := by decide +kernel
theorem dX3_reckon_50 : decode cX3_reckon 50 = .ok (.iload_n 1, 1) := by decide +kernel
theorem dX3_reckon_51 : decode cX3_reckon 51 = .ok (.if_icmp .ge 103, 3) := by decide +kernel
theorem dX3_reckon_54 : decode cX3_reckon 54 = .ok (.aload_n 0, 1) := by decide +kernel
theorem dX3_reckon_55 : decode cX3_reckon 55 = .ok (.getfield 9, 3) := by decide +kernel
theorem dX3_reckon_58 : decode cX3_reckon 58 = .ok (.iload 5, 2) := by decide +kernel
theorem dX3_reckon_60 : decode cX3_reckon 60 = .ok (.aaload, 1) := by decide +kernel
theorem dX3_reckon_61 : decode cX3_reckon 61 = .ok (.astore 6, 2) := by decide +kernel
theorem dX3_reckon_63 : decode cX3_reckon 63 = .ok (.aload 6, 2) := by decide +kernel
theorem dX3_reckon_65 : decode cX3_reckon 65 = .ok (.getfield 50, 3) := by decide +kernel
theorem dX3_reckon_68 : decode cX3_reckon 68 = .ok (.ifCond .eq 80, 3) := by decide +kernel
theorem dX3_reckon_71 : decode cX3_reckon 71 = .ok (.aload 6, 2) := by decide +kernel
theorem dX3_reckon_73 : decode cX3_reckon 73 = .ok (.getfield 44, 3) := by decide +kernel
theorem dX3_reckon_76 : decode cX3_reckon 76 = .ok (.arraylength, 1) := by decide +kernel
theorem dX3_reckon_77 : decode cX3_reckon 77 = .ok (.ifCond .ne 6, 3) := by decide +kernel
theorem dX3_reckon_80 : decode cX3_reckon 80 = .ok (.goto 68, 3) := by decide +kernel
theorem dX3_reckon_83 : decode cX3_reckon 83 = .ok (.aload 6, 2) := by decide +kernel
theorem dX3_reckon_85 : decode cX3_reckon 85 = .ok (.getfield 44, 3) := by decide +kernel
theorem dX3_reckon_88 : decode cX3_reckon 88 = .ok (.arraylength, 1) := by decide +kernel
theorem dX3_reckon_89 : decode cX3_reckon 89 = .ok (.iconst 1, 1) := by decide +kernel
theorem dX3_reckon_90 : decode cX3_reckon 90 = .ok (.if_icmp .ne 7, 3) := by decide +kernel
theorem dX3_reckon_93 : decode cX3_reckon 93 = .ok (.iconst 0, 1) := by decide +kernel
theorem dX3_reckon_94 : decode cX3_reckon 94 = .ok (.goto 9, 3) := by decide +kernel
theorem dX3_reckon_97 : decode cX3_reckon 97 = .ok (.aload_n 2, 1) := by decide +kernel
theorem dX3_reckon_98 : decode cX3_reckon 98 = .ok (.iload 5, 2) := by decide +kernel
theorem dX3_reckon_100 : decode cX3_reckon 100 = .ok (.iaload, 1) := by decide +kernel
theorem dX3_reckon_101 : decode cX3_reckon 101 = .ok (.iconst 2, 1) := by decide +kernel
theorem dX3_reckon_102 : decode cX3_reckon 102 = .ok (.idiv, 1) := by decide +kernel
theorem dX3_reckon_103 : decode cX3_reckon 103 = .ok (.istore 7, 2) := by decide +kernel
theorem dX3_reckon_105 : decode cX3_reckon 105 = .ok (.aload_n 3, 1) := by decide +kernel
theorem dX3_reckon_106 : decode cX3_reckon 106 = .ok (.aload 6, 2) := by decide +kernel
theorem dX3_reckon_108 : decode cX3_reckon 108 = .ok (.getfield 44, 3) := by decide +kernel
theorem dX3_reckon_111 : decode cX3_reckon 111 = .ok (.iconst 0, 1) := by decide +kernel
theorem dX3_reckon_112 : decode cX3_reckon 112 = .ok (.iaload, 1) := by decide +kernel
theorem dX3_reckon_113 : decode cX3_reckon 113 = .ok (.dup2, 1) := by decide +kernel
theorem dX3_reckon_114 : decode cX3_reckon 114 = .ok (.iaload, 1) := by decide +kernel
theorem dX3_reckon_115 : decode cX3_reckon 115 = .ok (.aload_n 2, 1) := by decide +kernel
theorem dX3_reckon_116 : decode cX3_reckon 116 = .ok (.iload 5, 2) := by decide +kernel
theorem dX3_reckon_118 : decode cX3_reckon 118 = .ok (.iaload, 1) := by decide +kernel
theorem dX3_reckon_119 : decode cX3_reckon 119 = .ok (.iload 7, 2) := by decide +kernel
theorem dX3_reckon_121 : decode cX3_reckon 121 = .ok (.isub, 1) := by decide +kernel
theorem dX3_reckon_122 : decode cX3_reckon 122 = .ok (.iadd, 1) := by decide +kernel
theorem dX3_reckon_123 : decode cX3_reckon 123 = .ok (.iastore, 1) := by decide +kernel
theorem dX3_reckon_124 : decode cX3_reckon 124 = .ok (.aload 6, 2) := by decide +kernel
theorem dX3_reckon_126 : decode cX3_reckon 126 = .ok (.getfield 44, 3) := by decide +kernel
theorem dX3_reckon_129 : decode cX3_reckon 129 = .ok (.arraylength, 1) := by decide +kernel
theorem dX3_reckon_130 : decode cX3_reckon 130 = .ok (.iconst 1, 1) := by decide +kernel
theorem dX3_reckon_131 : decode cX3_reckon 131 = .ok (.if_icmp .le 17, 3) := by decide +kernel
theorem dX3_reckon_134 : decode cX3_reckon 134 = .ok (.aload_n 3, 1) := by decide +kernel
theorem dX3_reckon_135 : decode cX3_reckon 135 = .ok (.aload 6, 2) := by decide +kernel
theorem dX3_reckon_137 : decode cX3_reckon 137 = .ok (.getfield 44, 3) := by decide +kernel
theorem dX3_reckon_140 : decode cX3_reckon 140 = .ok (.iconst 1, 1) := by decide +kernel
theorem dX3_reckon_141 : decode cX3_reckon 141 = .ok (.iaload, 1) := by decide +kernel
theorem dX3_reckon_142 : decode cX3_reckon 142 = .ok (.dup2, 1) := by decide +kernel
theorem dX3_reckon_143 : decode cX3_reckon 143 = .ok (.iaload, 1) := by decide +kernel
theorem dX3_reckon_144 : decode cX3_reckon 144 = .ok (.iload 7, 2) := by decide +kernel
theorem dX3_reckon_146 : decode cX3_reckon 146 = .ok (.iadd, 1) := by decide +kernel
theorem dX3_reckon_147 : decode cX3_reckon 147 = .ok (.iastore, 1) := by decide +kernel
theorem dX3_reckon_148 : decode cX3_reckon 148 = .ok (.iinc 5 1, 3) := by decide +kernel
theorem dX3_reckon_151 : decode cX3_reckon 151 = .ok (.goto (-103), 3) := by decide +kernel
theorem dX3_reckon_154 : decode cX3_reckon 154 = .ok (.iconst 0, 1) := by decide +kernel
theorem dX3_reckon_155 : decode cX3_reckon 155 = .ok (.istore 5, 2) := by decide +kernel
theorem dX3_reckon_157 : decode cX3_reckon 157 = .ok (.iload 5, 2) := by decide +kernel
theorem dX3_reckon_159 : decode cX3_reckon 159 = .ok (.iload_n 1, 1) := by decide +kernel
theorem dX3_reckon_160 : decode cX3_reckon 160 = .ok (.if_icmp .ge 89, 3) := by decide +kernel
theorem dX3_reckon_163 : decode cX3_reckon 163 = .ok (.aload_n 0, 1) := by decide +kernel
theorem dX3_reckon_164 : decode cX3_reckon 164 = .ok (.getfield 9, 3) := by decide +kernel
theorem dX3_reckon_167 : decode cX3_reckon 167 = .ok (.iload 5, 2) := by decide +kernel
theorem dX3_reckon_169 : decode cX3_reckon 169 = .ok (.aaload, 1) := by decide +kernel
theorem dX3_reckon_170 : decode cX3_reckon 170 = .ok (.getfield 50, 3) := by decide +kernel
theorem dX3_reckon_173 : decode cX3_reckon 173 = .ok (.ifCond .eq 32, 3) := by decide +kernel
theorem dX3_reckon_176 : decode cX3_reckon 176 = .ok (.aload_n 0, 1) := by decide +kernel
theorem dX3_reckon_177 : decode cX3_reckon 177 = .ok (.getfield 9, 3) := by decide +kernel
theorem dX3_reckon_180 : decode cX3_reckon 180 = .ok (.iload 5, 2) := by decide +kernel
theorem dX3_reckon_182 : decode cX3_reckon 182 = .ok (.aaload, 1) := by decide +kernel
theorem dX3_reckon_183 : decode cX3_reckon 183 = .ok (.getfield 35, 3) := by decide +kernel
theorem dX3_reckon_186 : decode cX3_reckon 186 = .ok (.aload_n 3, 1) := by decide +kernel
theorem dX3_reckon_187 : decode cX3_reckon 187 = .ok (.iload 5, 2) := by decide +kernel
theorem dX3_reckon_189 : decode cX3_reckon 189 = .ok (.iaload, 1) := by decide +kernel
theorem dX3_reckon_190 : decode cX3_reckon 190 = .ok (.iadd, 1) := by decide +kernel
theorem dX3_reckon_191 : decode cX3_reckon 191 = .ok (.aload_n 0, 1) := by decide +kernel
theorem dX3_reckon_192 : decode cX3_reckon 192 = .ok (.getfield 9, 3) := by decide +kernel
theorem dX3_reckon_195 : decode cX3_reckon 195 = .ok (.iload 5, 2) := by decide +kernel
theorem dX3_reckon_197 : decode cX3_reckon 197 = .ok (.aaload, 1) := by decide +kernel
theorem dX3_reckon_198 : decode cX3_reckon 198 = .ok (.getfield 54, 3) := by decide +kernel
theorem dX3_reckon_201 : decode cX3_reckon 201 = .ok (.isub, 1) := by decide +kernel
theorem dX3_reckon_202 : decode cX3_reckon 202 = .ok (.goto 4, 3) := by decide +kernel
theorem dX3_reckon_205 : decode cX3_reckon 205 = .ok (.iconst 0, 1) := by decide +kernel
theorem dX3_reckon_206 : decode cX3_reckon 206 = .ok (.istore 6, 2) := by decide +kernel
theorem dX3_reckon_208 : decode cX3_reckon 208 = .ok (.iload 6, 2) := by decide +kernel
theorem dX3_reckon_210 : decode cX3_reckon 210 = .ok (.ifCond .ge 6, 3) := by decide +kernel
theorem dX3_reckon_213 : decode cX3_reckon 213 = .ok (.iconst 0, 1) := by decide +kernel
theorem dX3_reckon_214 : decode cX3_reckon 214 = .ok (.istore 6, 2) := by decide +kernel
theorem dX3_reckon_216 : decode cX3_reckon 216 = .ok (.iload 4, 2) := by decide +kernel
theorem dX3_reckon_218 : decode cX3_reckon 218 = .ok (.ifCond .ne 12, 3) := by decide +kernel
theorem dX3_reckon_221 : decode cX3_reckon 221 = .ok (.iload 6, 2) := by decide +kernel
theorem dX3_reckon_223 : decode cX3_reckon 223 = .ok (.aload_n 2, 1) := by decide +kernel
theorem dX3_reckon_224 : decode cX3_reckon 224 = .ok (.iload 5, 2) := by decide +kernel
theorem dX3_reckon_226 : decode cX3_reckon 226 = .ok (.iaload, 1) := by decide +kernel
theorem dX3_reckon_227 : decode cX3_reckon 227 = .ok (.if_icmp .eq 7, 3) := by decide +kernel
theorem dX3_reckon_230 : decode cX3_reckon 230 = .ok (.iconst 1, 1) := by decide +kernel
theorem dX3_reckon_231 : decode cX3_reckon 231 = .ok (.goto 4, 3) := by decide +kernel
theorem dX3_reckon_234 : decode cX3_reckon 234 = .ok (.iconst 0, 1) := by decide +kernel
theorem dX3_reckon_235 : decode cX3_reckon 235 = .ok (.istore 4, 2) := by decide +kernel
theorem dX3_reckon_237 : decode cX3_reckon 237 = .ok (.aload_n 2, 1) := by decide +kernel
theorem dX3_reckon_238 : decode cX3_reckon 238 = .ok (.iload 5, 2) := by decide +kernel
theorem dX3_reckon_240 : decode cX3_reckon 240 = .ok (.iload 6, 2) := by decide +kernel
theorem dX3_reckon_242 : decode cX3_reckon 242 = .ok (.iastore, 1) := by decide +kernel
theorem dX3_reckon_243 : decode cX3_reckon 243 = .ok (.iinc 5 1, 3) := by decide +kernel
theorem dX3_reckon_246 : decode cX3_reckon 246 = .ok (.goto (-89), 3) := by decide +kernel
theorem dX3_reckon_249 : decode cX3_reckon 249 = .ok (.goto (-232), 3) := by decide +kernel
theorem dX3_reckon_252 : decode cX3_reckon 252 = .ok (.iconst 2, 1) := by decide +kernel
theorem dX3_reckon_253 : decode cX3_reckon 253 = .ok (.anewarray 15, 3) := by decide +kernel
theorem dX3_reckon_256 : decode cX3_reckon 256 = .ok (.dup, 1) := by decide +kernel
theorem dX3_reckon_257 : decode cX3_reckon 257 = .ok (.iconst 0, 1) := by decide +kernel
theorem dX3_reckon_258 : decode cX3_reckon 258 = .ok (.aload_n 2, 1) := by decide +kernel
theorem dX3_reckon_259 : decode cX3_reckon 259 = .ok (.aastore, 1) := by decide +kernel
theorem dX3_reckon_260 : decode cX3_reckon 260 = .ok (.dup, 1) := by decide +kernel
theorem dX3_reckon_261 : decode cX3_reckon 261 = .ok (.iconst 1, 1) := by decide +kernel
theorem dX3_reckon_262 : decode cX3_reckon 262 = .ok (.aload_n 3, 1) := by decide +kernel
theorem dX3_reckon_263 : decode cX3_reckon 263 = .ok (.aastore, 1) := by decide +kernel
theorem dX3_reckon_264 : decode cX3_reckon 264 = .ok (.areturn, 1) := by decide +kernel
theorem dX3_drop_0 : decode cX3_drop 0 = .ok (.iconst 0, 1) := by decide +kernel
theorem dX3_drop_1 : decode cX3_drop 1 = .ok (.istore_n 1, 1) := by decide +kernel
theorem dX3_drop_2 : decode cX3_drop 2 = .ok (.iload_n 1, 1) := by decide +kernel
theorem dX3_drop_3 : decode cX3_drop 3 = .ok (.aload_n 0, 1) := by decide +kernel
theorem dX3_drop_4 : decode cX3_drop 4 = .ok (.getfield 9, 3) := by decide +kernel
theorem dX3_drop_7 : decode cX3_drop 7 = .ok (.arraylength, 1) := by decide +kernel
theorem dX3_drop_8 : decode cX3_drop 8 = .ok (.if_icmp .ge 135, 3) := by decide +kernel
theorem dX3_drop_11 : decode cX3_drop 11 = .ok (.aload_n 0, 1) := by decide +kernel
theorem dX3_drop_12 : decode cX3_drop 12 = .ok (.getfield 9, 3) := by decide +kernel
theorem dX3_drop_15 : decode cX3_drop 15 = .ok (.iload_n 1, 1) := by decide +kernel
theorem dX3_drop_16 : decode cX3_drop 16 = .ok (.aaload, 1) := by decide +kernel
theorem dX3_drop_17 : decode cX3_drop 17 = .ok (.astore_n 2, 1) := by decide +kernel
theorem dX3_drop_18 : decode cX3_drop 18 = .ok (.aload_n 2, 1) := by decide +kernel
theorem dX3_drop_19 : decode cX3_drop 19 = .ok (.getfield 50, 3) := by decide +kernel
theorem dX3_drop_22 : decode cX3_drop 22 = .ok (.ifCond .eq 115, 3) := by decide +kernel
theorem dX3_drop_25 : decode cX3_drop 25 = .ok (.aload_n 2, 1) := by decide +kernel
theorem dX3_drop_26 : decode cX3_drop 26 = .ok (.getfield 41, 3) := by decide +kernel
theorem dX3_drop_29 : decode cX3_drop 29 = .ok (.ifCond .gt 108, 3) := by decide +kernel
theorem dX3_drop_32 : decode cX3_drop 32 = .ok (.aload_n 2, 1) := by decide +kernel
theorem dX3_drop_33 : decode cX3_drop 33 = .ok (.getfield 44, 3) := by decide +kernel
theorem dX3_drop_36 : decode cX3_drop 36 = .ok (.arraylength, 1) := by decide +kernel
theorem dX3_drop_37 : decode cX3_drop 37 = .ok (.ifCond .le 6, 3) := by decide +kernel
theorem dX3_drop_40 : decode cX3_drop 40 = .ok (.goto 97, 3) := by decide +kernel
theorem dX3_drop_43 : decode cX3_drop 43 = .ok (.aload_n 2, 1) := by decide +kernel
theorem dX3_drop_44 : decode cX3_drop 44 = .ok (.iconst 0, 1) := by decide +kernel
theorem dX3_drop_45 : decode cX3_drop 45 = .ok (.putfield 50, 3) := by decide +kernel
theorem dX3_drop_48 : decode cX3_drop 48 = .ok (.aload_n 0, 1) := by decide +kernel
theorem dX3_drop_49 : decode cX3_drop 49 = .ok (.getfield 9, 3) := by decide +kernel
theorem dX3_drop_52 : decode cX3_drop 52 = .ok (.astore_n 3, 1) := by decide +kernel
theorem dX3_drop_53 : decode cX3_drop 53 = .ok (.aload_n 3, 1) := by decide +kernel
theorem dX3_drop_54 : decode cX3_drop 54 = .ok (.arraylength, 1) := by decide +kernel
theorem dX3_drop_55 : decode cX3_drop 55 = .ok (.istore 4, 2) := by decide +kernel
theorem dX3_drop_57 : decode cX3_drop 57 = .ok (.iconst 0, 1) := by decide +kernel
theorem dX3_drop_58 : decode cX3_drop 58 = .ok (.istore 5, 2) := by decide +kernel
theorem dX3_drop_60 : decode cX3_drop 60 = .ok (.iload 5, 2) := by decide +kernel
theorem dX3_drop_62 : decode cX3_drop 62 = .ok (.iload 4, 2) := by decide +kernel
theorem dX3_drop_64 : decode cX3_drop 64 = .ok (.if_icmp .ge 21, 3) := by decide +kernel
theorem dX3_drop_67 : decode cX3_drop 67 = .ok (.aload_n 3, 1) := by decide +kernel
theorem dX3_drop_68 : decode cX3_drop 68 = .ok (.iload 5, 2) := by decide +kernel
theorem dX3_drop_70 : decode cX3_drop 70 = .ok (.aaload, 1) := by decide +kernel
theorem dX3_drop_71 : decode cX3_drop 71 = .ok (.astore 6, 2) := by decide +kernel
theorem dX3_drop_73 : decode cX3_drop 73 = .ok (.aload 6, 2) := by decide +kernel
theorem dX3_drop_75 : decode cX3_drop 75 = .ok (.iload_n 1, 1) := by decide +kernel
theorem dX3_drop_76 : decode cX3_drop 76 = .ok (.invokevirtual 57, 3) := by decide +kernel
theorem dX3_drop_79 : decode cX3_drop 79 = .ok (.iinc 5 1, 3) := by decide +kernel
theorem dX3_drop_82 : decode cX3_drop 82 = .ok (.goto (-22), 3) := by decide +kernel
theorem dX3_drop_85 : decode cX3_drop 85 = .ok (.aload_n 0, 1) := by decide +kernel
theorem dX3_drop_86 : decode cX3_drop 86 = .ok (.getfield 17, 3) := by decide +kernel
theorem dX3_drop_89 : decode cX3_drop 89 = .ok (.astore_n 3, 1) := by decide +kernel
theorem dX3_drop_90 : decode cX3_drop 90 = .ok (.aload_n 3, 1) := by decide +kernel
theorem dX3_drop_91 : decode cX3_drop 91 = .ok (.arraylength, 1) := by decide +kernel
theorem dX3_drop_92 : decode cX3_drop 92 = .ok (.istore 4, 2) := by decide +kernel
theorem dX3_drop_94 : decode cX3_drop 94 = .ok (.iconst 0, 1) := by decide +kernel
theorem dX3_drop_95 : decode cX3_drop 95 = .ok (.istore 5, 2) := by decide +kernel
theorem dX3_drop_97 : decode cX3_drop 97 = .ok (.iload 5, 2) := by decide +kernel
theorem dX3_drop_99 : decode cX3_drop 99 = .ok (.iload 4, 2) := by decide +kernel
theorem dX3_drop_101 : decode cX3_drop 101 = .ok (.if_icmp .ge 36, 3) := by decide +kernel
theorem dX3_drop_104 : decode cX3_drop 104 = .ok (.aload_n 3, 1) := by decide +kernel
theorem dX3_drop_105 : decode cX3_drop 105 = .ok (.iload 5, 2) := by decide +kernel
theorem dX3_drop_107 : decode cX3_drop 107 = .ok (.aaload, 1) := by decide +kernel
theorem dX3_drop_108 : decode cX3_drop 108 = .ok (.astore 6, 2) := by decide +kernel
theorem dX3_drop_110 : decode cX3_drop 110 = .ok (.aload 6, 2) := by decide +kernel
theorem dX3_drop_112 : decode cX3_drop 112 = .ok (.iconst 0, 1) := by decide +kernel
theorem dX3_drop_113 : decode cX3_drop 113 = .ok (.iaload, 1) := by decide +kernel
theorem dX3_drop_114 : decode cX3_drop 114 = .ok (.iload_n 1, 1) := by decide +kernel
theorem dX3_drop_115 : decode cX3_drop 115 = .ok (.if_icmp .eq 11, 3) := by decide +kernel
theorem dX3_drop_118 : decode cX3_drop 118 = .ok (.aload 6, 2) := by decide +kernel
theorem dX3_drop_120 : decode cX3_drop 120 = .ok (.iconst 1, 1) := by decide +kernel
theorem dX3_drop_121 : decode cX3_drop 121 = .ok (.iaload, 1) := by decide +kernel
theorem dX3_drop_122 : decode cX3_drop 122 = .ok (.iload_n 1, 1) := by decide +kernel
theorem dX3_drop_123 : decode cX3_drop 123 = .ok (.if_icmp .ne 8, 3) := by decide +kernel
theorem dX3_drop_126 : decode cX3_drop 126 = .ok (.aload 6, 2) := by decide +kernel
theorem dX3_drop_128 : decode cX3_drop 128 = .ok (.iconst 2, 1) := by decide +kernel
theorem dX3_drop_129 : decode cX3_drop 129 = .ok (.iconst 1, 1) := by decide +kernel
theorem dX3_drop_130 : decode cX3_drop 130 = .ok (.iastore, 1) := by decide +kernel
theorem dX3_drop_131 : decode cX3_drop 131 = .ok (.iinc 5 1, 3) := by decide +kernel
theorem dX3_drop_134 : decode cX3_drop 134 = .ok (.goto (-37), 3) := by decide +kernel
theorem dX3_drop_137 : decode cX3_drop 137 = .ok (.iinc 1 1, 3) := by decide +kernel
theorem dX3_drop_140 : decode cX3_drop 140 = .ok (.goto (-138), 3) := by decide +kernel
theorem dX3_drop_143 : decode cX3_drop 143 = .ok (.return_, 1) := by decide +kernel
theorem dX3_giveWay_0 : decode cX3_giveWay 0 = .ok (.iconst 1, 1) := by decide +kernel
theorem dX3_giveWay_1 : decode cX3_giveWay 1 = .ok (.istore_n 1, 1) := by decide +kernel
theorem dX3_giveWay_2 : decode cX3_giveWay 2 = .ok (.iload_n 1, 1) := by decide +kernel
theorem dX3_giveWay_3 : decode cX3_giveWay 3 = .ok (.ifCond .eq 249, 3) := by decide +kernel
theorem dX3_giveWay_6 : decode cX3_giveWay 6 = .ok (.iconst 0, 1) := by decide +kernel
theorem dX3_giveWay_7 : decode cX3_giveWay 7 = .ok (.istore_n 1, 1) := by decide +kernel
theorem dX3_giveWay_8 : decode cX3_giveWay 8 = .ok (.aload_n 0, 1) := by decide +kernel
theorem dX3_giveWay_9 : decode cX3_giveWay 9 = .ok (.getfield 9, 3) := by decide +kernel
theorem dX3_giveWay_12 : decode cX3_giveWay 12 = .ok (.arraylength, 1) := by decide +kernel
theorem dX3_giveWay_13 : decode cX3_giveWay 13 = .ok (.newarray .boolean, 2) := by decide +kernel
theorem dX3_giveWay_15 : decode cX3_giveWay 15 = .ok (.astore_n 2, 1) := by decide +kernel
theorem dX3_giveWay_16 : decode cX3_giveWay 16 = .ok (.aload_n 0, 1) := by decide +kernel
theorem dX3_giveWay_17 : decode cX3_giveWay 17 = .ok (.getfield 9, 3) := by decide +kernel
theorem dX3_giveWay_20 : decode cX3_giveWay 20 = .ok (.arraylength, 1) := by decide +kernel
theorem dX3_giveWay_21 : decode cX3_giveWay 21 = .ok (.newarray .boolean, 2) := by decide +kernel
theorem dX3_giveWay_23 : decode cX3_giveWay 23 = .ok (.astore_n 3, 1) := by decide +kernel
theorem dX3_giveWay_24 : decode cX3_giveWay 24 = .ok (.aload_n 0, 1) := by decide +kernel
theorem dX3_giveWay_25 : decode cX3_giveWay 25 = .ok (.invokevirtual 61, 3) := by decide +kernel
theorem dX3_giveWay_28 : decode cX3_giveWay 28 = .ok (.astore 4, 2) := by decide +kernel
theorem dX3_giveWay_30 : decode cX3_giveWay 30 = .ok (.iconst 0, 1) := by decide +kernel
theorem dX3_giveWay_31 : decode cX3_giveWay 31 = .ok (.istore 5, 2) := by decide +kernel
theorem dX3_giveWay_33 : decode cX3_giveWay 33 = .ok (.iload 5, 2) := by decide +kernel
theorem dX3_giveWay_35 : decode cX3_giveWay 35 = .ok (.aload_n 0, 1) := by decide +kernel
theorem dX3_giveWay_36 : decode cX3_giveWay 36 = .ok (.getfield 9, 3) := by decide +kernel
theorem dX3_giveWay_39 : decode cX3_giveWay 39 = .ok (.arraylength, 1) := by decide +kernel
theorem dX3_giveWay_40 : decode cX3_giveWay 40 = .ok (.if_icmp .ge 120, 3) := by decide +kernel
theorem dX3_giveWay_43 : decode cX3_giveWay 43 = .ok (.aload_n 0, 1) := by decide +kernel
theorem dX3_giveWay_44 : decode cX3_giveWay 44 = .ok (.getfield 9, 3) := by decide +kernel
theorem dX3_giveWay_47 : decode cX3_giveWay 47 = .ok (.iload 5, 2) := by decide +kernel
theorem dX3_giveWay_49 : decode cX3_giveWay 49 = .ok (.aaload, 1) := by decide +kernel
theorem dX3_giveWay_50 : decode cX3_giveWay 50 = .ok (.getfield 50, 3) := by decide +kernel
theorem dX3_giveWay_53 : decode cX3_giveWay 53 = .ok (.ifCond .ne 6, 3) := by decide +kernel
theorem dX3_giveWay_56 : decode cX3_giveWay 56 = .ok (.goto 98, 3) := by decide +kernel
theorem dX3_giveWay_59 : decode cX3_giveWay 59 = .ok (.aload_n 2, 1) := by decide +kernel
theorem dX3_giveWay_60 : decode cX3_giveWay 60 = .ok (.iload 5, 2) := by decide +kernel
theorem dX3_giveWay_62 : decode cX3_giveWay 62 = .ok (.aload 4, 2) := by decide +kernel
theorem dX3_giveWay_64 : decode cX3_giveWay 64 = .ok (.iconst 1, 1) := by decide +kernel
theorem dX3_giveWay_65 : decode cX3_giveWay 65 = .ok (.aaload, 1) := by decide +kernel
theorem dX3_giveWay_66 : decode cX3_giveWay 66 = .ok (.iload 5, 2) := by decide +kernel
theorem dX3_giveWay_68 : decode cX3_giveWay 68 = .ok (.iaload, 1) := by decide +kernel
theorem dX3_giveWay_69 : decode cX3_giveWay 69 = .ok (.aload_n 0, 1) := by decide +kernel
theorem dX3_giveWay_70 : decode cX3_giveWay 70 = .ok (.getfield 9, 3) := by decide +kernel
theorem dX3_giveWay_73 : decode cX3_giveWay 73 = .ok (.iload 5, 2) := by decide +kernel
theorem dX3_giveWay_75 : decode cX3_giveWay 75 = .ok (.aaload, 1) := by decide +kernel
theorem dX3_giveWay_76 : decode cX3_giveWay 76 = .ok (.getfield 38, 3) := by decide +kernel
theorem dX3_giveWay_79 : decode cX3_giveWay 79 = .ok (.if_icmp .le 7, 3) := by decide +kernel
theorem dX3_giveWay_82 : decode cX3_giveWay 82 = .ok (.iconst 1, 1) := by decide +kernel
theorem dX3_giveWay_83 : decode cX3_giveWay 83 = .ok (.goto 4, 3) := by decide +kernel
theorem dX3_giveWay_86 : decode cX3_giveWay 86 = .ok (.iconst 0, 1) := by decide +kernel
theorem dX3_giveWay_87 : decode cX3_giveWay 87 = .ok (.bastore, 1) := by decide +kernel
theorem dX3_giveWay_88 : decode cX3_giveWay 88 = .ok (.aload_n 3, 1) := by decide +kernel
theorem dX3_giveWay_89 : decode cX3_giveWay 89 = .ok (.iload 5, 2) := by decide +kernel
theorem dX3_giveWay_91 : decode cX3_giveWay 91 = .ok (.aload_n 0, 1) := by decide +kernel
theorem dX3_giveWay_92 : decode cX3_giveWay 92 = .ok (.getfield 9, 3) := by decide +kernel
theorem dX3_giveWay_95 : decode cX3_giveWay 95 = .ok (.iload 5, 2) := by decide +kernel
theorem dX3_giveWay_97 : decode cX3_giveWay 97 = .ok (.aaload, 1) := by decide +kernel
theorem dX3_giveWay_98 : decode cX3_giveWay 98 = .ok (.getfield 41, 3) := by decide +kernel
theorem dX3_giveWay_101 : decode cX3_giveWay 101 = .ok (.ifCond .le 27, 3) := by decide +kernel
theorem dX3_giveWay_104 : decode cX3_giveWay 104 = .ok (.aload_n 0, 1) := by decide +kernel
theorem dX3_giveWay_105 : decode cX3_giveWay 105 = .ok (.getfield 9, 3) := by decide +kernel
theorem dX3_giveWay_108 : decode cX3_giveWay 108 = .ok (.iload 5, 2) := by decide +kernel
theorem dX3_giveWay_110 : decode cX3_giveWay 110 = .ok (.aaload, 1) := by decide +kernel
theorem dX3_giveWay_111 : decode cX3_giveWay 111 = .ok (.getfield 41, 3) := by decide +kernel
theorem dX3_giveWay_114 : decode cX3_giveWay 114 = .ok (.aload 4, 2) := by decide +kernel
theorem dX3_giveWay_116 : decode cX3_giveWay 116 = .ok (.iconst 0, 1) := by decide +kernel
theorem dX3_giveWay_117 : decode cX3_giveWay 117 = .ok (.aaload, 1) := by decide +kernel
theorem dX3_giveWay_118 : decode cX3_giveWay 118 = .ok (.iload 5, 2) := by decide +kernel
theorem dX3_giveWay_120 : decode cX3_giveWay 120 = .ok (.iaload, 1) := by decide +kernel
theorem dX3_giveWay_121 : decode cX3_giveWay 121 = .ok (.if_icmp .ge 7, 3) := by decide +kernel
theorem dX3_giveWay_124 : decode cX3_giveWay 124 = .ok (.iconst 1, 1) := by decide +kernel
theorem dX3_giveWay_125 : decode cX3_giveWay 125 = .ok (.goto 4, 3) := by decide +kernel
theorem dX3_giveWay_128 : decode cX3_giveWay 128 = .ok (.iconst 0, 1) := by decide +kernel
theorem dX3_giveWay_129 : decode cX3_giveWay 129 = .ok (.bastore, 1) := by decide +kernel
theorem dX3_giveWay_130 : decode cX3_giveWay 130 = .ok (.iload_n 1, 1) := by decide +kernel
theorem dX3_giveWay_131 : decode cX3_giveWay 131 = .ok (.ifCond .ne 17, 3) := by decide +kernel
theorem dX3_giveWay_134 : decode cX3_giveWay 134 = .ok (.aload_n 2, 1) := by decide +kernel
theorem dX3_giveWay_135 : decode cX3_giveWay 135 = .ok (.iload 5, 2) := by decide +kernel
theorem dX3_giveWay_137 : decode cX3_giveWay 137 = .ok (.baload, 1) := by decide +kernel
theorem dX3_giveWay_138 : decode cX3_giveWay 138 = .ok (.ifCond .ne 10, 3) := by decide +kernel
theorem dX3_giveWay_141 : decode cX3_giveWay 141 = .ok (.aload_n 3, 1) := by decide +kernel
theorem dX3_giveWay_142 : decode cX3_giveWay 142 = .ok (.iload 5, 2) := by decide +kernel
theorem dX3_giveWay_144 : decode cX3_giveWay 144 = .ok (.baload, 1) := by decide +kernel
theorem dX3_giveWay_145 : decode cX3_giveWay 145 = .ok (.ifCond .eq 7, 3) := by decide +kernel
theorem dX3_giveWay_148 : decode cX3_giveWay 148 = .ok (.iconst 1, 1) := by decide +kernel
theorem dX3_giveWay_149 : decode cX3_giveWay 149 = .ok (.goto 4, 3) := by decide +kernel
theorem dX3_giveWay_152 : decode cX3_giveWay 152 = .ok (.iconst 0, 1) := by decide +kernel
theorem dX3_giveWay_153 : decode cX3_giveWay 153 = .ok (.istore_n 1, 1) := by decide +kernel
theorem dX3_giveWay_154 : decode cX3_giveWay 154 = .ok (.iinc 5 1, 3) := by decide +kernel
theorem dX3_giveWay_157 : decode cX3_giveWay 157 = .ok (.goto (-124), 3) := by decide +kernel
theorem dX3_giveWay_160 : decode cX3_giveWay 160 = .ok (.iconst 0, 1) := by decide +kernel
theorem dX3_giveWay_161 : decode cX3_giveWay 161 = .ok (.istore 5, 2) := by decide +kernel
theorem dX3_giveWay_163 : decode cX3_giveWay 163 = .ok (.iload 5, 2) := by decide +kernel
theorem dX3_giveWay_165 : decode cX3_giveWay 165 = .ok (.aload_n 0, 1) := by decide +kernel
theorem dX3_giveWay_166 : decode cX3_giveWay 166 = .ok (.getfield 9, 3) := by decide +kernel
theorem dX3_giveWay_169 : decode cX3_giveWay 169 = .ok (.arraylength, 1) := by decide +kernel
theorem dX3_giveWay_170 : decode cX3_giveWay 170 = .ok (.if_icmp .ge 75, 3) := by decide +kernel
theorem dX3_giveWay_173 : decode cX3_giveWay 173 = .ok (.aload_n 0, 1) := by decide +kernel
theorem dX3_giveWay_174 : decode cX3_giveWay 174 = .ok (.getfield 9, 3) := by decide +kernel
theorem dX3_giveWay_177 : decode cX3_giveWay 177 = .ok (.astore 6, 2) := by decide +kernel
theorem dX3_giveWay_179 : decode cX3_giveWay 179 = .ok (.aload 6, 2) := by decide +kernel
theorem dX3_giveWay_181 : decode cX3_giveWay 181 = .ok (.arraylength, 1) := by decide +kernel
theorem dX3_giveWay_182 : decode cX3_giveWay 182 = .ok (.istore 7, 2) := by decide +kernel
theorem dX3_giveWay_184 : decode cX3_giveWay 184 = .ok (.iconst 0, 1) := by decide +kernel
theorem dX3_giveWay_185 : decode cX3_giveWay 185 = .ok (.istore 8, 2) := by decide +kernel
theorem dX3_giveWay_187 : decode cX3_giveWay 187 = .ok (.iload 8, 2) := by decide +kernel
theorem dX3_giveWay_189 : decode cX3_giveWay 189 = .ok (.iload 7, 2) := by decide +kernel
theorem dX3_giveWay_191 : decode cX3_giveWay 191 = .ok (.if_icmp .ge 30, 3) := by decide +kernel
theorem dX3_giveWay_194 : decode cX3_giveWay 194 = .ok (.aload 6, 2) := by decide +kernel
theorem dX3_giveWay_196 : decode cX3_giveWay 196 = .ok (.iload 8, 2) := by decide +kernel
theorem dX3_giveWay_198 : decode cX3_giveWay 198 = .ok (.aaload, 1) := by decide +kernel
theorem dX3_giveWay_199 : decode cX3_giveWay 199 = .ok (.astore 9, 2) := by decide +kernel
theorem dX3_giveWay_201 : decode cX3_giveWay 201 = .ok (.aload_n 2, 1) := by decide +kernel
theorem dX3_giveWay_202 : decode cX3_giveWay 202 = .ok (.iload 5, 2) := by decide +kernel
theorem dX3_giveWay_204 : decode cX3_giveWay 204 = .ok (.baload, 1) := by decide +kernel
theorem dX3_giveWay_205 : decode cX3_giveWay 205 = .ok (.ifCond .eq 10, 3) := by decide +kernel
theorem dX3_giveWay_208 : decode cX3_giveWay 208 = .ok (.aload 9, 2) := by decide +kernel
theorem dX3_giveWay_210 : decode cX3_giveWay 210 = .ok (.iload 5, 2) := by decide +kernel
theorem dX3_giveWay_212 : decode cX3_giveWay 212 = .ok (.invokevirtual 57, 3) := by decide +kernel
theorem dX3_giveWay_215 : decode cX3_giveWay 215 = .ok (.iinc 8 1, 3) := by decide +kernel
theorem dX3_giveWay_218 : decode cX3_giveWay 218 = .ok (.goto (-31), 3) := by decide +kernel
theorem dX3_giveWay_221 : decode cX3_giveWay 221 = .ok (.aload_n 3, 1) := by decide +kernel
theorem dX3_giveWay_222 : decode cX3_giveWay 222 = .ok (.iload 5, 2) := by decide +kernel
theorem dX3_giveWay_224 : decode cX3_giveWay 224 = .ok (.baload, 1) := by decide +kernel
theorem dX3_giveWay_225 : decode cX3_giveWay 225 = .ok (.ifCond .eq 14, 3) := by decide +kernel
theorem dX3_giveWay_228 : decode cX3_giveWay 228 = .ok (.aload_n 0, 1) := by decide +kernel
theorem dX3_giveWay_229 : decode cX3_giveWay 229 = .ok (.getfield 9, 3) := by decide +kernel
theorem dX3_giveWay_232 : decode cX3_giveWay 232 = .ok (.iload 5, 2) := by decide +kernel
theorem dX3_giveWay_234 : decode cX3_giveWay 234 = .ok (.aaload, 1) := by decide +kernel
theorem dX3_giveWay_235 : decode cX3_giveWay 235 = .ok (.iconst 0, 1) := by decide +kernel
theorem dX3_giveWay_236 : decode cX3_giveWay 236 = .ok (.putfield 41, 3) := by decide +kernel
theorem dX3_giveWay_239 : decode cX3_giveWay 239 = .ok (.iinc 5 1, 3) := by decide +kernel
theorem dX3_giveWay_242 : decode cX3_giveWay 242 = .ok (.goto (-79), 3) := by decide +kernel
theorem dX3_giveWay_245 : decode cX3_giveWay 245 = .ok (.aload_n 0, 1) := by decide +kernel
theorem dX3_giveWay_246 : decode cX3_giveWay 246 = .ok (.invokevirtual 65, 3) := by decide +kernel
theorem dX3_giveWay_249 : decode cX3_giveWay 249 = .ok (.goto (-247), 3) := by decide +kernel
theorem dX3_giveWay_252 : decode cX3_giveWay 252 = .ok (.return_, 1) := by decide +kernel
theorem dX3_hanging_0 : decode cX3_hanging 0 = .ok (.iconst 0, 1) := by decide +kernel
theorem dX3_hanging_1 : decode cX3_hanging 1 = .ok (.istore_n 1, 1) := by decide +kernel
theorem dX3_hanging_2 : decode cX3_hanging 2 = .ok (.aload_n 0, 1) := by decide +kernel
theorem dX3_hanging_3 : decode cX3_hanging 3 = .ok (.getfield 9, 3) := by decide +kernel
theorem dX3_hanging_6 : decode cX3_hanging 6 = .ok (.astore_n 2, 1) := by decide +kernel
theorem dX3_hanging_7 : decode cX3_hanging 7 = .ok (.aload_n 2, 1) := by decide +kernel
theorem dX3_hanging_8 : decode cX3_hanging 8 = .ok (.arraylength, 1) := by decide +kernel
theorem dX3_hanging_9 : decode cX3_hanging 9 = .ok (.istore_n 3, 1) := by decide +kernel
theorem dX3_hanging_10 : decode cX3_hanging 10 = .ok (.iconst 0, 1) := by decide +kernel
theorem dX3_hanging_11 : decode cX3_hanging 11 = .ok (.istore 4, 2) := by decide +kernel
theorem dX3_hanging_13 : decode cX3_hanging 13 = .ok (.iload 4, 2) := by decide +kernel
theorem dX3_hanging_15 : decode cX3_hanging 15 = .ok (.iload_n 3, 1) := by decide +kernel
theorem dX3_hanging_16 : decode cX3_hanging 16 = .ok (.if_icmp .ge 31, 3) := by decide +kernel
theorem dX3_hanging_19 : decode cX3_hanging 19 = .ok (.aload_n 2, 1) := by decide +kernel
theorem dX3_hanging_20 : decode cX3_hanging 20 = .ok (.iload 4, 2) := by decide +kernel
theorem dX3_hanging_22 : decode cX3_hanging 22 = .ok (.aaload, 1) := by decide +kernel
theorem dX3_hanging_23 : decode cX3_hanging 23 = .ok (.astore 5, 2) := by decide +kernel
theorem dX3_hanging_25 : decode cX3_hanging 25 = .ok (.iload_n 1, 1) := by decide +kernel
theorem dX3_hanging_26 : decode cX3_hanging 26 = .ok (.aload 5, 2) := by decide +kernel
theorem dX3_hanging_28 : decode cX3_hanging 28 = .ok (.getfield 50, 3) := by decide +kernel
theorem dX3_hanging_31 : decode cX3_hanging 31 = .ok (.ifCond .eq 7, 3) := by decide +kernel
theorem dX3_hanging_34 : decode cX3_hanging 34 = .ok (.iconst 1, 1) := by decide +kernel
theorem dX3_hanging_35 : decode cX3_hanging 35 = .ok (.goto 4, 3) := by decide +kernel
theorem dX3_hanging_38 : decode cX3_hanging 38 = .ok (.iconst 0, 1) := by decide +kernel
theorem dX3_hanging_39 : decode cX3_hanging 39 = .ok (.iadd, 1) := by decide +kernel
theorem dX3_hanging_40 : decode cX3_hanging 40 = .ok (.istore_n 1, 1) := by decide +kernel
theorem dX3_hanging_41 : decode cX3_hanging 41 = .ok (.iinc 4 1, 3) := by decide +kernel
theorem dX3_hanging_44 : decode cX3_hanging 44 = .ok (.goto (-31), 3) := by decide +kernel
theorem dX3_hanging_47 : decode cX3_hanging 47 = .ok (.iload_n 1, 1) := by decide +kernel
theorem dX3_hanging_48 : decode cX3_hanging 48 = .ok (.ireturn, 1) := by decide +kernel
theorem dX3_stairs_0 : decode cX3_stairs 0 = .ok (.iconst 0, 1) := by decide +kernel
theorem dX3_stairs_1 : decode cX3_stairs 1 = .ok (.istore_n 1, 1) := by decide +kernel
theorem dX3_stairs_2 : decode cX3_stairs 2 = .ok (.aload_n 0, 1) := by decide +kernel
theorem dX3_stairs_3 : decode cX3_stairs 3 = .ok (.getfield 17, 3) := by decide +kernel
theorem dX3_stairs_6 : decode cX3_stairs 6 = .ok (.astore_n 2, 1) := by decide +kernel
theorem dX3_stairs_7 : decode cX3_stairs 7 = .ok (.aload_n 2, 1) := by decide +kernel
theorem dX3_stairs_8 : decode cX3_stairs 8 = .ok (.arraylength, 1) := by decide +kernel
theorem dX3_stairs_9 : decode cX3_stairs 9 = .ok (.istore_n 3, 1) := by decide +kernel
theorem dX3_stairs_10 : decode cX3_stairs 10 = .ok (.iconst 0, 1) := by decide +kernel
theorem dX3_stairs_11 : decode cX3_stairs 11 = .ok (.istore 4, 2) := by decide +kernel
theorem dX3_stairs_13 : decode cX3_stairs 13 = .ok (.iload 4, 2) := by decide +kernel
theorem dX3_stairs_15 : decode cX3_stairs 15 = .ok (.iload_n 3, 1) := by decide +kernel
theorem dX3_stairs_16 : decode cX3_stairs 16 = .ok (.if_icmp .ge 24, 3) := by decide +kernel
theorem dX3_stairs_19 : decode cX3_stairs 19 = .ok (.aload_n 2, 1) := by decide +kernel
theorem dX3_stairs_20 : decode cX3_stairs 20 = .ok (.iload 4, 2) := by decide +kernel
theorem dX3_stairs_22 : decode cX3_stairs 22 = .ok (.aaload, 1) := by decide +kernel
theorem dX3_stairs_23 : decode cX3_stairs 23 = .ok (.astore 5, 2) := by decide +kernel
theorem dX3_stairs_25 : decode cX3_stairs 25 = .ok (.iload_n 1, 1) := by decide +kernel
theorem dX3_stairs_26 : decode cX3_stairs 26 = .ok (.iconst 1, 1) := by decide +kernel
theorem dX3_stairs_27 : decode cX3_stairs 27 = .ok (.aload 5, 2) := by decide +kernel
theorem dX3_stairs_29 : decode cX3_stairs 29 = .ok (.iconst 2, 1) := by decide +kernel
theorem dX3_stairs_30 : decode cX3_stairs 30 = .ok (.iaload, 1) := by decide +kernel
theorem dX3_stairs_31 : decode cX3_stairs 31 = .ok (.isub, 1) := by decide +kernel
theorem dX3_stairs_32 : decode cX3_stairs 32 = .ok (.iadd, 1) := by decide +kernel
theorem dX3_stairs_33 : decode cX3_stairs 33 = .ok (.istore_n 1, 1) := by decide +kernel
theorem dX3_stairs_34 : decode cX3_stairs 34 = .ok (.iinc 4 1, 3) := by decide +kernel
theorem dX3_stairs_37 : decode cX3_stairs 37 = .ok (.goto (-24), 3) := by decide +kernel
theorem dX3_stairs_40 : decode cX3_stairs 40 = .ok (.iload_n 1, 1) := by decide +kernel
theorem dX3_stairs_41 : decode cX3_stairs 41 = .ok (.ireturn, 1) := by decide +kernel
theorem dX3_power_0 : decode cX3_power 0 = .ok (.iconst 0, 1) := by decide +kernel
theorem dX3_power_1 : decode cX3_power 1 = .ok (.istore_n 1, 1) := by decide +kernel
theorem dX3_power_2 : decode cX3_power 2 = .ok (.aload_n 0, 1) := by decide +kernel
theorem dX3_power_3 : decode cX3_power 3 = .ok (.getfield 9, 3) := by decide +kernel
theorem dX3_power_6 : decode cX3_power 6 = .ok (.astore_n 2, 1) := by decide +kernel
theorem dX3_power_7 : decode cX3_power 7 = .ok (.aload_n 2, 1) := by decide +kernel
theorem dX3_power_8 : decode cX3_power 8 = .ok (.arraylength, 1) := by decide +kernel
theorem dX3_power_9 : decode cX3_power 9 = .ok (.istore_n 3, 1) := by decide +kernel
theorem dX3_power_10 : decode cX3_power 10 = .ok (.iconst 0, 1) := by decide +kernel
theorem dX3_power_11 : decode cX3_power 11 = .ok (.istore 4, 2) := by decide +kernel
theorem dX3_power_13 : decode cX3_power 13 = .ok (.iload 4, 2) := by decide +kernel
theorem dX3_power_15 : decode cX3_power 15 = .ok (.iload_n 3, 1) := by decide +kernel
theorem dX3_power_16 : decode cX3_power 16 = .ok (.if_icmp .ge 35, 3) := by decide +kernel
theorem dX3_power_19 : decode cX3_power 19 = .ok (.aload_n 2, 1) := by decide +kernel
theorem dX3_power_20 : decode cX3_power 20 = .ok (.iload 4, 2) := by decide +kernel
theorem dX3_power_22 : decode cX3_power 22 = .ok (.aaload, 1) := by decide +kernel
theorem dX3_power_23 : decode cX3_power 23 = .ok (.astore 5, 2) := by decide +kernel
theorem dX3_power_25 : decode cX3_power 25 = .ok (.iload_n 1, 1) := by decide +kernel
theorem dX3_power_26 : decode cX3_power 26 = .ok (.aload 5, 2) := by decide +kernel
theorem dX3_power_28 : decode cX3_power 28 = .ok (.getfield 50, 3) := by decide +kernel
theorem dX3_power_31 : decode cX3_power 31 = .ok (.ifCond .eq 11, 3) := by decide +kernel
theorem dX3_power_34 : decode cX3_power 34 = .ok (.aload 5, 2) := by decide +kernel
theorem dX3_power_36 : decode cX3_power 36 = .ok (.getfield 41, 3) := by decide +kernel
theorem dX3_power_39 : decode cX3_power 39 = .ok (.goto 4, 3) := by decide +kernel
theorem dX3_power_42 : decode cX3_power 42 = .ok (.iconst 0, 1) := by decide +kernel
theorem dX3_power_43 : decode cX3_power 43 = .ok (.iadd, 1) := by decide +kernel
theorem dX3_power_44 : decode cX3_power 44 = .ok (.istore_n 1, 1) := by decide +kernel
theorem dX3_power_45 : decode cX3_power 45 = .ok (.iinc 4 1, 3) := by decide +kernel
theorem dX3_power_48 : decode cX3_power 48 = .ok (.goto (-35), 3) := by decide +kernel
theorem dX3_power_51 : decode cX3_power 51 = .ok (.iload_n 1, 1) := by decide +kernel
theorem dX3_power_52 : decode cX3_power 52 = .ok (.ireturn, 1) := by decide +kernel
theorem dX3_pass_0 : decode cX3_pass 0 = .ok (.aload_n 0, 1) := by decide +kernel
theorem dX3_pass_1 : decode cX3_pass 1 = .ok (.getfield 9, 3) := by decide +kernel
theorem dX3_pass_4 : decode cX3_pass 4 = .ok (.astore_n 1, 1) := by decide +kernel
theorem dX3_pass_5 : decode cX3_pass 5 = .ok (.aload_n 1, 1) := by decide +kernel
theorem dX3_pass_6 : decode cX3_pass 6 = .ok (.arraylength, 1) := by decide +kernel
theorem dX3_pass_7 : decode cX3_pass 7 = .ok (.istore_n 2, 1) := by decide +kernel
theorem dX3_pass_8 : decode cX3_pass 8 = .ok (.iconst 0, 1) := by decide +kernel
theorem dX3_pass_9 : decode cX3_pass 9 = .ok (.istore_n 3, 1) := by decide +kernel
theorem dX3_pass_10 : decode cX3_pass 10 = .ok (.iload_n 3, 1) := by decide +kernel
theorem dX3_pass_11 : decode cX3_pass 11 = .ok (.iload_n 2, 1) := by decide +kernel
theorem dX3_pass_12 : decode cX3_pass 12 = .ok (.if_icmp .ge 39, 3) := by decide +kernel
theorem dX3_pass_15 : decode cX3_pass 15 = .ok (.aload_n 1, 1) := by decide +kernel
theorem dX3_pass_16 : decode cX3_pass 16 = .ok (.iload_n 3, 1) := by decide +kernel
theorem dX3_pass_17 : decode cX3_pass 17 = .ok (.aaload, 1) := by decide +kernel
theorem dX3_pass_18 : decode cX3_pass 18 = .ok (.astore 4, 2) := by decide +kernel
theorem dX3_pass_20 : decode cX3_pass 20 = .ok (.aload 4, 2) := by decide +kernel
theorem dX3_pass_22 : decode cX3_pass 22 = .ok (.aload 4, 2) := by decide +kernel
theorem dX3_pass_24 : decode cX3_pass 24 = .ok (.getfield 41, 3) := by decide +kernel
theorem dX3_pass_27 : decode cX3_pass 27 = .ok (.iconst 2, 1) := by decide +kernel
theorem dX3_pass_28 : decode cX3_pass 28 = .ok (.if_icmp .le 13, 3) := by decide +kernel
theorem dX3_pass_31 : decode cX3_pass 31 = .ok (.aload 4, 2) := by decide +kernel
theorem dX3_pass_33 : decode cX3_pass 33 = .ok (.getfield 41, 3) := by decide +kernel
theorem dX3_pass_36 : decode cX3_pass 36 = .ok (.iconst 2, 1) := by decide +kernel
theorem dX3_pass_37 : decode cX3_pass 37 = .ok (.isub, 1) := by decide +kernel
theorem dX3_pass_38 : decode cX3_pass 38 = .ok (.goto 4, 3) := by decide +kernel
theorem dX3_pass_41 : decode cX3_pass 41 = .ok (.iconst 0, 1) := by decide +kernel
theorem dX3_pass_42 : decode cX3_pass 42 = .ok (.putfield 41, 3) := by decide +kernel
theorem dX3_pass_45 : decode cX3_pass 45 = .ok (.iinc 3 1, 3) := by decide +kernel
theorem dX3_pass_48 : decode cX3_pass 48 = .ok (.goto (-38), 3) := by decide +kernel
theorem dX3_pass_51 : decode cX3_pass 51 = .ok (.aload_n 0, 1) := by decide +kernel
theorem dX3_pass_52 : decode cX3_pass 52 = .ok (.invokevirtual 65, 3) := by decide +kernel
theorem dX3_pass_55 : decode cX3_pass 55 = .ok (.aload_n 0, 1) := by decide +kernel
theorem dX3_pass_56 : decode cX3_pass 56 = .ok (.invokevirtual 47, 3) := by decide +kernel
theorem dX3_pass_59 : decode cX3_pass 59 = .ok (.aload_n 0, 1) := by decide +kernel
theorem dX3_pass_60 : decode cX3_pass 60 = .ok (.dup, 1) := by decide +kernel
theorem dX3_pass_61 : decode cX3_pass 61 = .ok (.getfield 30, 3) := by decide +kernel
theorem dX3_pass_64 : decode cX3_pass 64 = .ok (.iconst 1, 1) := by decide +kernel
theorem dX3_pass_65 : decode cX3_pass 65 = .ok (.iadd, 1) := by decide +kernel
theorem dX3_pass_66 : decode cX3_pass 66 = .ok (.putfield 30, 3) := by decide +kernel
theorem dX3_pass_69 : decode cX3_pass 69 = .ok (.return_, 1) := by decide +kernel
theorem dX3_isSame_0 : decode cX3_isSame 0 = .ok (.iconst 0, 1) := by decide +kernel
theorem dX3_isSame_1 : decode cX3_isSame 1 = .ok (.istore_n 2, 1) := by decide +kernel
theorem dX3_isSame_2 : decode cX3_isSame 2 = .ok (.iconst 0, 1) := by decide +kernel
theorem dX3_isSame_3 : decode cX3_isSame 3 = .ok (.istore_n 3, 1) := by decide +kernel
theorem dX3_isSame_4 : decode cX3_isSame 4 = .ok (.iconst 0, 1) := by decide +kernel
theorem dX3_isSame_5 : decode cX3_isSame 5 = .ok (.istore 4, 2) := by decide +kernel
theorem dX3_isSame_7 : decode cX3_isSame 7 = .ok (.iconst 0, 1) := by decide +kernel
theorem dX3_isSame_8 : decode cX3_isSame 8 = .ok (.istore 5, 2) := by decide +kernel
theorem dX3_isSame_10 : decode cX3_isSame 10 = .ok (.aload_n 0, 1) := by decide +kernel
theorem dX3_isSame_11 : decode cX3_isSame 11 = .ok (.invokevirtual 61, 3) := by decide +kernel
theorem dX3_isSame_14 : decode cX3_isSame 14 = .ok (.astore 6, 2) := by decide +kernel
theorem dX3_isSame_16 : decode cX3_isSame 16 = .ok (.iconst 0, 1) := by decide +kernel
theorem dX3_isSame_17 : decode cX3_isSame 17 = .ok (.istore 7, 2) := by decide +kernel
theorem dX3_isSame_19 : decode cX3_isSame 19 = .ok (.iload 7, 2) := by decide +kernel
theorem dX3_isSame_21 : decode cX3_isSame 21 = .ok (.aload_n 0, 1) := by decide +kernel
theorem dX3_isSame_22 : decode cX3_isSame 22 = .ok (.getfield 9, 3) := by decide +kernel
theorem dX3_isSame_25 : decode cX3_isSame 25 = .ok (.arraylength, 1) := by decide +kernel
theorem dX3_isSame_26 : decode cX3_isSame 26 = .ok (.if_icmp .ge 336, 3) := by decide +kernel
theorem dX3_isSame_29 : decode cX3_isSame 29 = .ok (.aload_n 0, 1) := by decide +kernel
theorem dX3_isSame_30 : decode cX3_isSame 30 = .ok (.getfield 9, 3) := by decide +kernel
theorem dX3_isSame_33 : decode cX3_isSame 33 = .ok (.iload 7, 2) := by decide +kernel
theorem dX3_isSame_35 : decode cX3_isSame 35 = .ok (.aaload, 1) := by decide +kernel
theorem dX3_isSame_36 : decode cX3_isSame 36 = .ok (.astore 8, 2) := by decide +kernel
theorem dX3_isSame_38 : decode cX3_isSame 38 = .ok (.iconst 0, 1) := by decide +kernel
theorem dX3_isSame_39 : decode cX3_isSame 39 = .ok (.istore 9, 2) := by decide +kernel
theorem dX3_isSame_41 : decode cX3_isSame 41 = .ok (.aload_n 0, 1) := by decide +kernel
theorem dX3_isSame_42 : decode cX3_isSame 42 = .ok (.getfield 9, 3) := by decide +kernel
theorem dX3_isSame_45 : decode cX3_isSame 45 = .ok (.astore 10, 2) := by decide +kernel
theorem dX3_isSame_47 : decode cX3_isSame 47 = .ok (.aload 10, 2) := by decide +kernel
theorem dX3_isSame_49 : decode cX3_isSame 49 = .ok (.arraylength, 1) := by decide +kernel
theorem dX3_isSame_50 : decode cX3_isSame 50 = .ok (.istore 11, 2) := by decide +kernel
theorem dX3_isSame_52 : decode cX3_isSame 52 = .ok (.iconst 0, 1) := by decide +kernel
theorem dX3_isSame_53 : decode cX3_isSame 53 = .ok (.istore 12, 2) := by decide +kernel
theorem dX3_isSame_55 : decode cX3_isSame 55 = .ok (.iload 12, 2) := by decide +kernel
theorem dX3_isSame_57 : decode cX3_isSame 57 = .ok (.iload 11, 2) := by decide +kernel
theorem dX3_isSame_59 : decode cX3_isSame 59 = .ok (.if_icmp .ge 44, 3) := by decide +kernel
theorem dX3_isSame_62 : decode cX3_isSame 62 = .ok (.aload 10, 2) := by decide +kernel
theorem dX3_isSame_64 : decode cX3_isSame 64 = .ok (.iload 12, 2) := by decide +kernel
theorem dX3_isSame_66 : decode cX3_isSame 66 = .ok (.aaload, 1) := by decide +kernel
theorem dX3_isSame_67 : decode cX3_isSame 67 = .ok (.astore 13, 2) := by decide +kernel
theorem dX3_isSame_69 : decode cX3_isSame 69 = .ok (.iload 9, 2) := by decide +kernel
theorem dX3_isSame_71 : decode cX3_isSame 71 = .ok (.aload 13, 2) := by decide +kernel
theorem dX3_isSame_73 : decode cX3_isSame 73 = .ok (.getfield 50, 3) := by decide +kernel
theorem dX3_isSame_76 : decode cX3_isSame 76 = .ok (.ifCond .eq 17, 3) := by decide +kernel
theorem dX3_isSame_79 : decode cX3_isSame 79 = .ok (.aload 13, 2) := by decide +kernel
theorem dX3_isSame_81 : decode cX3_isSame 81 = .ok (.iload 7, 2) := by decide +kernel
theorem dX3_isSame_83 : decode cX3_isSame 83 = .ok (.invokevirtual 68, 3) := by decide +kernel
theorem dX3_isSame_86 : decode cX3_isSame 86 = .ok (.ifCond .eq 7, 3) := by decide +kernel
theorem dX3_isSame_89 : decode cX3_isSame 89 = .ok (.iconst 1, 1) := by decide +kernel
theorem dX3_isSame_90 : decode cX3_isSame 90 = .ok (.goto 4, 3) := by decide +kernel
theorem dX3_isSame_93 : decode cX3_isSame 93 = .ok (.iconst 0, 1) := by decide +kernel
theorem dX3_isSame_94 : decode cX3_isSame 94 = .ok (.iadd, 1) := by decide +kernel
theorem dX3_isSame_95 : decode cX3_isSame 95 = .ok (.istore 9, 2) := by decide +kernel
theorem dX3_isSame_97 : decode cX3_isSame 97 = .ok (.iinc 12 1, 3) := by decide +kernel
theorem dX3_isSame_100 : decode cX3_isSame 100 = .ok (.goto (-45), 3) := by decide +kernel
theorem dX3_isSame_103 : decode cX3_isSame 103 = .ok (.aload 6, 2) := by decide +kernel
theorem dX3_isSame_105 : decode cX3_isSame 105 = .ok (.iconst 0, 1) := by decide +kernel
theorem dX3_isSame_106 : decode cX3_isSame 106 = .ok (.aaload, 1) := by decide +kernel
theorem dX3_isSame_107 : decode cX3_isSame 107 = .ok (.iload 7, 2) := by decide +kernel
theorem dX3_isSame_109 : decode cX3_isSame 109 = .ok (.iaload, 1) := by decide +kernel
theorem dX3_isSame_110 : decode cX3_isSame 110 = .ok (.istore 10, 2) := by decide +kernel
theorem dX3_isSame_112 : decode cX3_isSame 112 = .ok (.bipush 10, 2) := by decide +kernel
theorem dX3_isSame_114 : decode cX3_isSame 114 = .ok (.newarray .int, 2) := by decide +kernel
theorem dX3_isSame_116 : decode cX3_isSame 116 = .ok (.dup, 1) := by decide +kernel
theorem dX3_isSame_117 : decode cX3_isSame 117 = .ok (.iconst 0, 1) := by decide +kernel
theorem dX3_isSame_118 : decode cX3_isSame 118 = .ok (.aload 8, 2) := by decide +kernel
theorem dX3_isSame_120 : decode cX3_isSame 120 = .ok (.getfield 35, 3) := by decide +kernel
theorem dX3_isSame_123 : decode cX3_isSame 123 = .ok (.iastore, 1) := by decide +kernel
theorem dX3_isSame_124 : decode cX3_isSame 124 = .ok (.dup, 1) := by decide +kernel
theorem dX3_isSame_125 : decode cX3_isSame 125 = .ok (.iconst 1, 1) := by decide +kernel
theorem dX3_isSame_126 : decode cX3_isSame 126 = .ok (.aload 8, 2) := by decide +kernel
theorem dX3_isSame_128 : decode cX3_isSame 128 = .ok (.getfield 38, 3) := by decide +kernel
theorem dX3_isSame_131 : decode cX3_isSame 131 = .ok (.iastore, 1) := by decide +kernel
theorem dX3_isSame_132 : decode cX3_isSame 132 = .ok (.dup, 1) := by decide +kernel
theorem dX3_isSame_133 : decode cX3_isSame 133 = .ok (.iconst 2, 1) := by decide +kernel
theorem dX3_isSame_134 : decode cX3_isSame 134 = .ok (.aload 8, 2) := by decide +kernel
theorem dX3_isSame_136 : decode cX3_isSame 136 = .ok (.getfield 50, 3) := by decide +kernel
theorem dX3_isSame_139 : decode cX3_isSame 139 = .ok (.ifCond .eq 7, 3) := by decide +kernel
theorem dX3_isSame_142 : decode cX3_isSame 142 = .ok (.iconst 1, 1) := by decide +kernel
theorem dX3_isSame_143 : decode cX3_isSame 143 = .ok (.goto 4, 3) := by decide +kernel
theorem dX3_isSame_146 : decode cX3_isSame 146 = .ok (.iconst 0, 1) := by decide +kernel
theorem dX3_isSame_147 : decode cX3_isSame 147 = .ok (.iastore, 1) := by decide +kernel
theorem dX3_isSame_148 : decode cX3_isSame 148 = .ok (.dup, 1) := by decide +kernel
theorem dX3_isSame_149 : decode cX3_isSame 149 = .ok (.iconst 3, 1) := by decide +kernel
theorem dX3_isSame_150 : decode cX3_isSame 150 = .ok (.aload 8, 2) := by decide +kernel
theorem dX3_isSame_152 : decode cX3_isSame 152 = .ok (.getfield 50, 3) := by decide +kernel
theorem dX3_isSame_155 : decode cX3_isSame 155 = .ok (.ifCond .eq 11, 3) := by decide +kernel
theorem dX3_isSame_158 : decode cX3_isSame 158 = .ok (.aload 8, 2) := by decide +kernel
theorem dX3_isSame_160 : decode cX3_isSame 160 = .ok (.getfield 41, 3) := by decide +kernel
theorem dX3_isSame_163 : decode cX3_isSame 163 = .ok (.goto 4, 3) := by decide +kernel
theorem dX3_isSame_166 : decode cX3_isSame 166 = .ok (.iconst 0, 1) := by decide +kernel
theorem dX3_isSame_167 : decode cX3_isSame 167 = .ok (.iastore, 1) := by decide +kernel
theorem dX3_isSame_168 : decode cX3_isSame 168 = .ok (.dup, 1) := by decide +kernel
theorem dX3_isSame_169 : decode cX3_isSame 169 = .ok (.iconst 4, 1) := by decide +kernel
theorem dX3_isSame_170 : decode cX3_isSame 170 = .ok (.aload 8, 2) := by decide +kernel
theorem dX3_isSame_172 : decode cX3_isSame 172 = .ok (.getfield 44, 3) := by decide +kernel
theorem dX3_isSame_175 : decode cX3_isSame 175 = .ok (.arraylength, 1) := by decide +kernel
theorem dX3_isSame_176 : decode cX3_isSame 176 = .ok (.ifCond .le 13, 3) := by decide +kernel
theorem dX3_isSame_179 : decode cX3_isSame 179 = .ok (.aload 8, 2) := by decide +kernel
theorem dX3_isSame_181 : decode cX3_isSame 181 = .ok (.getfield 44, 3) := by decide +kernel
theorem dX3_isSame_184 : decode cX3_isSame 184 = .ok (.iconst 0, 1) := by decide +kernel
theorem dX3_isSame_185 : decode cX3_isSame 185 = .ok (.iaload, 1) := by decide +kernel
theorem dX3_isSame_186 : decode cX3_isSame 186 = .ok (.goto 4, 3) := by decide +kernel
theorem dX3_isSame_189 : decode cX3_isSame 189 = .ok (.iconst (-1), 1) := by decide +kernel
theorem dX3_isSame_190 : decode cX3_isSame 190 = .ok (.iastore, 1) := by decide +kernel
theorem dX3_isSame_191 : decode cX3_isSame 191 = .ok (.dup, 1) := by decide +kernel
theorem dX3_isSame_192 : decode cX3_isSame 192 = .ok (.iconst 5, 1) := by decide +kernel
theorem dX3_isSame_193 : decode cX3_isSame 193 = .ok (.aload 8, 2) := by decide +kernel
theorem dX3_isSame_195 : decode cX3_isSame 195 = .ok (.getfield 44, 3) := by decide +kernel
theorem dX3_isSame_198 : decode cX3_isSame 198 = .ok (.arraylength, 1) := by decide +kernel
theorem dX3_isSame_199 : decode cX3_isSame 199 = .ok (.iconst 1, 1) := by decide +kernel
theorem dX3_isSame_200 : decode cX3_isSame 200 = .ok (.if_icmp .le 13, 3) := by decide +kernel
theorem dX3_isSame_203 : decode cX3_isSame 203 = .ok (.aload 8, 2) := by decide +kernel
theorem dX3_isSame_205 : decode cX3_isSame 205 = .ok (.getfield 44, 3) := by decide +kernel
theorem dX3_isSame_208 : decode cX3_isSame 208 = .ok (.iconst 1, 1) := by decide +kernel
theorem dX3_isSame_209 : decode cX3_isSame 209 = .ok (.iaload, 1) := by decide +kernel
theorem dX3_isSame_210 : decode cX3_isSame 210 = .ok (.goto 4, 3) := by decide +kernel
theorem dX3_isSame_213 : decode cX3_isSame 213 = .ok (.iconst (-1), 1) := by decide +kernel
theorem dX3_isSame_214 : decode cX3_isSame 214 = .ok (.iastore, 1) := by decide +kernel
theorem dX3_isSame_215 : decode cX3_isSame 215 = .ok (.dup, 1) := by decide +kernel
theorem dX3_isSame_216 : decode cX3_isSame 216 = .ok (.bipush 6, 2) := by decide +kernel
theorem dX3_isSame_218 : decode cX3_isSame 218 = .ok (.aload 8, 2) := by decide +kernel
theorem dX3_isSame_220 : decode cX3_isSame 220 = .ok (.getfield 54, 3) := by decide +kernel
theorem dX3_isSame_223 : decode cX3_isSame 223 = .ok (.iastore, 1) := by decide +kernel
theorem dX3_isSame_224 : decode cX3_isSame 224 = .ok (.dup, 1) := by decide +kernel
theorem dX3_isSame_225 : decode cX3_isSame 225 = .ok (.bipush 7, 2) := by decide +kernel
theorem dX3_isSame_227 : decode cX3_isSame 227 = .ok (.iload 10, 2) := by decide +kernel
theorem dX3_isSame_229 : decode cX3_isSame 229 = .ok (.iastore, 1) := by decide +kernel
theorem dX3_isSame_230 : decode cX3_isSame 230 = .ok (.dup, 1) := by decide +kernel
theorem dX3_isSame_231 : decode cX3_isSame 231 = .ok (.bipush 8, 2) := by decide +kernel
theorem dX3_isSame_233 : decode cX3_isSame 233 = .ok (.aload 6, 2) := by decide +kernel
theorem dX3_isSame_235 : decode cX3_isSame 235 = .ok (.iconst 1, 1) := by decide +kernel
theorem dX3_isSame_236 : decode cX3_isSame 236 = .ok (.aaload, 1) := by decide +kernel
theorem dX3_isSame_237 : decode cX3_isSame 237 = .ok (.iload 7, 2) := by decide +kernel
theorem dX3_isSame_239 : decode cX3_isSame 239 = .ok (.iaload, 1) := by decide +kernel
theorem dX3_isSame_240 : decode cX3_isSame 240 = .ok (.iastore, 1) := by decide +kernel
theorem dX3_isSame_241 : decode cX3_isSame 241 = .ok (.dup, 1) := by decide +kernel
theorem dX3_isSame_242 : decode cX3_isSame 242 = .ok (.bipush 9, 2) := by decide +kernel
theorem dX3_isSame_244 : decode cX3_isSame 244 = .ok (.aload 8, 2) := by decide +kernel
theorem dX3_isSame_246 : decode cX3_isSame 246 = .ok (.getfield 50, 3) := by decide +kernel
theorem dX3_isSame_249 : decode cX3_isSame 249 = .ok (.ifCond .eq 8, 3) := by decide +kernel
theorem dX3_isSame_252 : decode cX3_isSame 252 = .ok (.iload 9, 2) := by decide +kernel
theorem dX3_isSame_254 : decode cX3_isSame 254 = .ok (.goto 4, 3) := by decide +kernel
theorem dX3_isSame_257 : decode cX3_isSame 257 = .ok (.iconst 0, 1) := by decide +kernel
theorem dX3_isSame_258 : decode cX3_isSame 258 = .ok (.iastore, 1) := by decide +kernel
theorem dX3_isSame_259 : decode cX3_isSame 259 = .ok (.astore 11, 2) := by decide +kernel
theorem dX3_isSame_261 : decode cX3_isSame 261 = .ok (.iconst 0, 1) := by decide +kernel
theorem dX3_isSame_262 : decode cX3_isSame 262 = .ok (.istore 12, 2) := by decide +kernel
theorem dX3_isSame_264 : decode cX3_isSame 264 = .ok (.iload 12, 2) := by decide +kernel
theorem dX3_isSame_266 : decode cX3_isSame 266 = .ok (.bipush 10, 2) := by decide +kernel
theorem dX3_isSame_268 : decode cX3_isSame 268 = .ok (.if_icmp .ge 27, 3) := by decide +kernel
theorem dX3_isSame_271 : decode cX3_isSame 271 = .ok (.aload_n 1, 1) := by decide +kernel
theorem dX3_isSame_272 : decode cX3_isSame 272 = .ok (.iload 7, 2) := by decide +kernel
theorem dX3_isSame_274 : decode cX3_isSame 274 = .ok (.iload 12, 2) := by decide +kernel
theorem dX3_isSame_276 : decode cX3_isSame 276 = .ok (.invokevirtual 72, 3) := by decide +kernel
theorem dX3_isSame_279 : decode cX3_isSame 279 = .ok (.aload 11, 2) := by decide +kernel
theorem dX3_isSame_281 : decode cX3_isSame 281 = .ok (.iload 12, 2) := by decide +kernel
theorem dX3_isSame_283 : decode cX3_isSame 283 = .ok (.iaload, 1) := by decide +kernel
theorem dX3_isSame_284 : decode cX3_isSame 284 = .ok (.if_icmp .eq 5, 3) := by decide +kernel
theorem dX3_isSame_287 : decode cX3_isSame 287 = .ok (.iconst 0, 1) := by decide +kernel
theorem dX3_isSame_288 : decode cX3_isSame 288 = .ok (.ireturn, 1) := by decide +kernel
theorem dX3_isSame_289 : decode cX3_isSame 289 = .ok (.iinc 12 1, 3) := by decide +kernel
theorem dX3_isSame_292 : decode cX3_isSame 292 = .ok (.goto (-28), 3) := by decide +kernel
theorem dX3_isSame_295 : decode cX3_isSame 295 = .ok (.iload 5, 2) := by decide +kernel
theorem dX3_isSame_297 : decode cX3_isSame 297 = .ok (.iload 10, 2) := by decide +kernel
theorem dX3_isSame_299 : decode cX3_isSame 299 = .ok (.iadd, 1) := by decide +kernel
theorem dX3_isSame_300 : decode cX3_isSame 300 = .ok (.istore 5, 2) := by decide +kernel
theorem dX3_isSame_302 : decode cX3_isSame 302 = .ok (.aload 8, 2) := by decide +kernel
theorem dX3_isSame_304 : decode cX3_isSame 304 = .ok (.getfield 50, 3) := by decide +kernel
theorem dX3_isSame_307 : decode cX3_isSame 307 = .ok (.ifCond .ne 6, 3) := by decide +kernel
theorem dX3_isSame_310 : decode cX3_isSame 310 = .ok (.goto 46, 3) := by decide +kernel
theorem dX3_isSame_313 : decode cX3_isSame 313 = .ok (.iload_n 2, 1) := by decide +kernel
theorem dX3_isSame_314 : decode cX3_isSame 314 = .ok (.aload 8, 2) := by decide +kernel
theorem dX3_isSame_316 : decode cX3_isSame 316 = .ok (.getfield 41, 3) := by decide +kernel
theorem dX3_isSame_319 : decode cX3_isSame 319 = .ok (.ifCond .le 7, 3) := by decide +kernel
theorem dX3_isSame_322 : decode cX3_isSame 322 = .ok (.iconst 1, 1) := by decide +kernel
theorem dX3_isSame_323 : decode cX3_isSame 323 = .ok (.goto 4, 3) := by decide +kernel
theorem dX3_isSame_326 : decode cX3_isSame 326 = .ok (.iconst 0, 1) := by decide +kernel
theorem dX3_isSame_327 : decode cX3_isSame 327 = .ok (.iadd, 1) := by decide +kernel
theorem dX3_isSame_328 : decode cX3_isSame 328 = .ok (.istore_n 2, 1) := by decide +kernel
theorem dX3_isSame_329 : decode cX3_isSame 329 = .ok (.iload 4, 2) := by decide +kernel
theorem dX3_isSame_331 : decode cX3_isSame 331 = .ok (.aload 8, 2) := by decide +kernel
theorem dX3_isSame_333 : decode cX3_isSame 333 = .ok (.getfield 41, 3) := by decide +kernel
theorem dX3_isSame_336 : decode cX3_isSame 336 = .ok (.ifCond .le 8, 3) := by decide +kernel
theorem dX3_isSame_339 : decode cX3_isSame 339 = .ok (.iload 10, 2) := by decide +kernel
theorem dX3_isSame_341 : decode cX3_isSame 341 = .ok (.goto 4, 3) := by decide +kernel
theorem dX3_isSame_344 : decode cX3_isSame 344 = .ok (.iconst 0, 1) := by decide +kernel
theorem dX3_isSame_345 : decode cX3_isSame 345 = .ok (.iadd, 1) := by decide +kernel
theorem dX3_isSame_346 : decode cX3_isSame 346 = .ok (.istore 4, 2) := by decide +kernel
theorem dX3_isSame_348 : decode cX3_isSame 348 = .ok (.iload_n 3, 1) := by decide +kernel
theorem dX3_isSame_349 : decode cX3_isSame 349 = .ok (.aload 8, 2) := by decide +kernel
theorem dX3_isSame_351 : decode cX3_isSame 351 = .ok (.getfield 54, 3) := by decide +kernel
theorem dX3_isSame_354 : decode cX3_isSame 354 = .ok (.iadd, 1) := by decide +kernel
theorem dX3_isSame_355 : decode cX3_isSame 355 = .ok (.istore_n 3, 1) := by decide +kernel
theorem dX3_isSame_356 : decode cX3_isSame 356 = .ok (.iinc 7 1, 3) := by decide +kernel
theorem dX3_isSame_359 : decode cX3_isSame 359 = .ok (.goto (-340), 3) := by decide +kernel
theorem dX3_isSame_362 : decode cX3_isSame 362 = .ok (.iconst 0, 1) := by decide +kernel
theorem dX3_isSame_363 : decode cX3_isSame 363 = .ok (.istore 7, 2) := by decide +kernel
theorem dX3_isSame_365 : decode cX3_isSame 365 = .ok (.iload 7, 2) := by decide +kernel
theorem dX3_isSame_367 : decode cX3_isSame 367 = .ok (.aload_n 0, 1) := by decide +kernel
theorem dX3_isSame_368 : decode cX3_isSame 368 = .ok (.getfield 17, 3) := by decide +kernel
theorem dX3_isSame_371 : decode cX3_isSame 371 = .ok (.arraylength, 1) := by decide +kernel
theorem dX3_isSame_372 : decode cX3_isSame 372 = .ok (.if_icmp .ge 47, 3) := by decide +kernel
theorem dX3_isSame_375 : decode cX3_isSame 375 = .ok (.iconst 0, 1) := by decide +kernel
theorem dX3_isSame_376 : decode cX3_isSame 376 = .ok (.istore 8, 2) := by decide +kernel
theorem dX3_isSame_378 : decode cX3_isSame 378 = .ok (.iload 8, 2) := by decide +kernel
theorem dX3_isSame_380 : decode cX3_isSame 380 = .ok (.iconst 3, 1) := by decide +kernel
theorem dX3_isSame_381 : decode cX3_isSame 381 = .ok (.if_icmp .ge 32, 3) := by decide +kernel
theorem dX3_isSame_384 : decode cX3_isSame 384 = .ok (.aload_n 1, 1) := by decide +kernel
theorem dX3_isSame_385 : decode cX3_isSame 385 = .ok (.iload 7, 2) := by decide +kernel
theorem dX3_isSame_387 : decode cX3_isSame 387 = .ok (.iload 8, 2) := by decide +kernel
theorem dX3_isSame_389 : decode cX3_isSame 389 = .ok (.invokevirtual 78, 3) := by decide +kernel
theorem dX3_isSame_392 : decode cX3_isSame 392 = .ok (.aload_n 0, 1) := by decide +kernel
theorem dX3_isSame_393 : decode cX3_isSame 393 = .ok (.getfield 17, 3) := by decide +kernel
theorem dX3_isSame_396 : decode cX3_isSame 396 = .ok (.iload 7, 2) := by decide +kernel
theorem dX3_isSame_398 : decode cX3_isSame 398 = .ok (.aaload, 1) := by decide +kernel
theorem dX3_isSame_399 : decode cX3_isSame 399 = .ok (.iload 8, 2) := by decide +kernel
theorem dX3_isSame_401 : decode cX3_isSame 401 = .ok (.iaload, 1) := by decide +kernel
theorem dX3_isSame_402 : decode cX3_isSame 402 = .ok (.if_icmp .eq 5, 3) := by decide +kernel
theorem dX3_isSame_405 : decode cX3_isSame 405 = .ok (.iconst 0, 1) := by decide +kernel
theorem dX3_isSame_406 : decode cX3_isSame 406 = .ok (.ireturn, 1) := by decide +kernel
theorem dX3_isSame_407 : decode cX3_isSame 407 = .ok (.iinc 8 1, 3) := by decide +kernel
theorem dX3_isSame_410 : decode cX3_isSame 410 = .ok (.goto (-32), 3) := by decide +kernel
theorem dX3_isSame_413 : decode cX3_isSame 413 = .ok (.iinc 7 1, 3) := by decide +kernel
theorem dX3_isSame_416 : decode cX3_isSame 416 = .ok (.goto (-51), 3) := by decide +kernel
theorem dX3_isSame_419 : decode cX3_isSame 419 = .ok (.bipush 8, 2) := by decide +kernel
theorem dX3_isSame_421 : decode cX3_isSame 421 = .ok (.newarray .int, 2) := by decide +kernel
theorem dX3_isSame_423 : decode cX3_isSame 423 = .ok (.dup, 1) := by decide +kernel
theorem dX3_isSame_424 : decode cX3_isSame 424 = .ok (.iconst 0, 1) := by decide +kernel
theorem dX3_isSame_425 : decode cX3_isSame 425 = .ok (.aload_n 0, 1) := by decide +kernel
theorem dX3_isSame_426 : decode cX3_isSame 426 = .ok (.getfield 30, 3) := by decide +kernel
theorem dX3_isSame_429 : decode cX3_isSame 429 = .ok (.iastore, 1) := by decide +kernel
theorem dX3_isSame_430 : decode cX3_isSame 430 = .ok (.dup, 1) := by decide +kernel
theorem dX3_isSame_431 : decode cX3_isSame 431 = .ok (.iconst 1, 1) := by decide +kernel
theorem dX3_isSame_432 : decode cX3_isSame 432 = .ok (.aload_n 0, 1) := by decide +kernel
theorem dX3_isSame_433 : decode cX3_isSame 433 = .ok (.getfield 9, 3) := by decide +kernel
theorem dX3_isSame_436 : decode cX3_isSame 436 = .ok (.arraylength, 1) := by decide +kernel
theorem dX3_isSame_437 : decode cX3_isSame 437 = .ok (.iastore, 1) := by decide +kernel
theorem dX3_isSame_438 : decode cX3_isSame 438 = .ok (.dup, 1) := by decide +kernel
theorem dX3_isSame_439 : decode cX3_isSame 439 = .ok (.iconst 2, 1) := by decide +kernel
theorem dX3_isSame_440 : decode cX3_isSame 440 = .ok (.aload_n 0, 1) := by decide +kernel
theorem dX3_isSame_441 : decode cX3_isSame 441 = .ok (.invokevirtual 81, 3) := by decide +kernel
theorem dX3_isSame_444 : decode cX3_isSame 444 = .ok (.iastore, 1) := by decide +kernel
theorem dX3_isSame_445 : decode cX3_isSame 445 = .ok (.dup, 1) := by decide +kernel
theorem dX3_isSame_446 : decode cX3_isSame 446 = .ok (.iconst 3, 1) := by decide +kernel
theorem dX3_isSame_447 : decode cX3_isSame 447 = .ok (.iload_n 2, 1) := by decide +kernel
theorem dX3_isSame_448 : decode cX3_isSame 448 = .ok (.iastore, 1) := by decide +kernel
theorem dX3_isSame_449 : decode cX3_isSame 449 = .ok (.dup, 1) := by decide +kernel
theorem dX3_isSame_450 : decode cX3_isSame 450 = .ok (.iconst 4, 1) := by decide +kernel
theorem dX3_isSame_451 : decode cX3_isSame 451 = .ok (.aload_n 0, 1) := by decide +kernel
theorem dX3_isSame_452 : decode cX3_isSame 452 = .ok (.invokevirtual 85, 3) := by decide +kernel
theorem dX3_isSame_455 : decode cX3_isSame 455 = .ok (.iastore, 1) := by decide +kernel
theorem dX3_isSame_456 : decode cX3_isSame 456 = .ok (.dup, 1) := by decide +kernel
theorem dX3_isSame_457 : decode cX3_isSame 457 = .ok (.iconst 5, 1) := by decide +kernel
theorem dX3_isSame_458 : decode cX3_isSame 458 = .ok (.aload_n 0, 1) := by decide +kernel
theorem dX3_isSame_459 : decode cX3_isSame 459 = .ok (.invokevirtual 87, 3) := by decide +kernel
theorem dX3_isSame_462 : decode cX3_isSame 462 = .ok (.iastore, 1) := by decide +kernel
theorem dX3_isSame_463 : decode cX3_isSame 463 = .ok (.dup, 1) := by decide +kernel
theorem dX3_isSame_464 : decode cX3_isSame 464 = .ok (.bipush 6, 2) := by decide +kernel
theorem dX3_isSame_466 : decode cX3_isSame 466 = .ok (.iload_n 3, 1) := by decide +kernel
theorem dX3_isSame_467 : decode cX3_isSame 467 = .ok (.iastore, 1) := by decide +kernel
theorem dX3_isSame_468 : decode cX3_isSame 468 = .ok (.dup, 1) := by decide +kernel
theorem dX3_isSame_469 : decode cX3_isSame 469 = .ok (.bipush 7, 2) := by decide +kernel
theorem dX3_isSame_471 : decode cX3_isSame 471 = .ok (.iload 4, 2) := by decide +kernel
theorem dX3_isSame_473 : decode cX3_isSame 473 = .ok (.iastore, 1) := by decide +kernel
theorem dX3_isSame_474 : decode cX3_isSame 474 = .ok (.astore 7, 2) := by decide +kernel
theorem dX3_isSame_476 : decode cX3_isSame 476 = .ok (.iconst 0, 1) := by decide +kernel
theorem dX3_isSame_477 : decode cX3_isSame 477 = .ok (.istore 8, 2) := by decide +kernel
theorem dX3_isSame_479 : decode cX3_isSame 479 = .ok (.iload 8, 2) := by decide +kernel
theorem dX3_isSame_481 : decode cX3_isSame 481 = .ok (.bipush 8, 2) := by decide +kernel
theorem dX3_isSame_483 : decode cX3_isSame 483 = .ok (.if_icmp .ge 25, 3) := by decide +kernel
theorem dX3_isSame_486 : decode cX3_isSame 486 = .ok (.aload_n 1, 1) := by decide +kernel
theorem dX3_isSame_487 : decode cX3_isSame 487 = .ok (.iload 8, 2) := by decide +kernel
theorem dX3_isSame_489 : decode cX3_isSame 489 = .ok (.invokevirtual 89, 3) := by decide +kernel
theorem dX3_isSame_492 : decode cX3_isSame 492 = .ok (.aload 7, 2) := by decide +kernel
theorem dX3_isSame_494 : decode cX3_isSame 494 = .ok (.iload 8, 2) := by decide +kernel
theorem dX3_isSame_496 : decode cX3_isSame 496 = .ok (.iaload, 1) := by decide +kernel
theorem dX3_isSame_497 : decode cX3_isSame 497 = .ok (.if_icmp .eq 5, 3) := by decide +kernel
theorem dX3_isSame_500 : decode cX3_isSame 500 = .ok (.iconst 0, 1) := by decide +kernel
theorem dX3_isSame_501 : decode cX3_isSame 501 = .ok (.ireturn, 1) := by decide +kernel
theorem dX3_isSame_502 : decode cX3_isSame 502 = .ok (.iinc 8 1, 3) := by decide +kernel
theorem dX3_isSame_505 : decode cX3_isSame 505 = .ok (.goto (-26), 3) := by decide +kernel
theorem dX3_isSame_508 : decode cX3_isSame 508 = .ok (.aload_n 1, 1) := by decide +kernel
theorem dX3_isSame_509 : decode cX3_isSame 509 = .ok (.invokevirtual 93, 3) := by decide +kernel
theorem dX3_isSame_512 : decode cX3_isSame 512 = .ok (.aload_n 0, 1) := by decide +kernel
theorem dX3_isSame_513 : decode cX3_isSame 513 = .ok (.invokevirtual 81, 3) := by decide +kernel
theorem dX3_isSame_516 : decode cX3_isSame 516 = .ok (.ifCond .ne 7, 3) := by decide +kernel
theorem dX3_isSame_519 : decode cX3_isSame 519 = .ok (.dconst 0, 1) := by decide +kernel
theorem dX3_isSame_520 : decode cX3_isSame 520 = .ok (.goto 12, 3) := by decide +kernel
theorem dX3_isSame_523 : decode cX3_isSame 523 = .ok (.iload 5, 2) := by decide +kernel
theorem dX3_isSame_525 : decode cX3_isSame 525 = .ok (.i2d, 1) := by decide +kernel
theorem dX3_isSame_526 : decode cX3_isSame 526 = .ok (.aload_n 0, 1) := by decide +kernel
theorem dX3_isSame_527 : decode cX3_isSame 527 = .ok (.invokevirtual 81, 3) := by decide +kernel
theorem dX3_isSame_530 : decode cX3_isSame 530 = .ok (.i2d, 1) := by decide +kernel
theorem dX3_isSame_531 : decode cX3_isSame 531 = .ok (.ddiv, 1) := by decide +kernel
theorem dX3_isSame_532 : decode cX3_isSame 532 = .ok (.dcmp .l, 1) := by decide +kernel
theorem dX3_isSame_533 : decode cX3_isSame 533 = .ok (.ifCond .ne 7, 3) := by decide +kernel
theorem dX3_isSame_536 : decode cX3_isSame 536 = .ok (.iconst 1, 1) := by decide +kernel
theorem dX3_isSame_537 : decode cX3_isSame 537 = .ok (.goto 4, 3) := by decide +kernel
theorem dX3_isSame_540 : decode cX3_isSame 540 = .ok (.iconst 0, 1) := by decide +kernel
theorem dX3_isSame_541 : decode cX3_isSame 541 = .ok (.ireturn, 1) := by decide +kernel
