theorem dX3_init_0 : decode cX3_init 0 = .ok (.aload_n 0, 1) := by decide +kernel
theorem dX3_init_1 : decode cX3_init 1 = .ok (.invokespecial 1, 3) := by decide +kernel
theorem dX3_init_4 : decode cX3_init 4 = .ok (.aload_n 0, 1) := by decide +kernel
theorem dX3_init_5 : decode cX3_init 5 = .ok (.sipush 280, 3) := by decide +kernel
theorem dX3_init_8 : decode cX3_init 8 = .ok (.newarray .int, 2) := by decide +kernel
theorem dX3_init_10 : decode cX3_init 10 = .ok (.putfield 9, 3) := by decide +kernel
theorem dX3_init_13 : decode cX3_init 13 = .ok (.aload_n 0, 1) := by decide +kernel
theorem dX3_init_14 : decode cX3_init 14 = .ok (.bipush 90, 2) := by decide +kernel
theorem dX3_init_16 : decode cX3_init 16 = .ok (.newarray .int, 2) := by decide +kernel
theorem dX3_init_18 : decode cX3_init 18 = .ok (.putfield 13, 3) := by decide +kernel
theorem dX3_init_21 : decode cX3_init 21 = .ok (.aload_n 0, 1) := by decide +kernel
theorem dX3_init_22 : decode cX3_init 22 = .ok (.iconst 1, 1) := by decide +kernel
theorem dX3_init_23 : decode cX3_init 23 = .ok (.newarray .int, 2) := by decide +kernel
theorem dX3_init_25 : decode cX3_init 25 = .ok (.dup, 1) := by decide +kernel
theorem dX3_init_26 : decode cX3_init 26 = .ok (.iconst 0, 1) := by decide +kernel
theorem dX3_init_27 : decode cX3_init 27 = .ok (.iconst 0, 1) := by decide +kernel
theorem dX3_init_28 : decode cX3_init 28 = .ok (.iastore, 1) := by decide +kernel
theorem dX3_init_29 : decode cX3_init 29 = .ok (.putfield 16, 3) := by decide +kernel
theorem dX3_init_32 : decode cX3_init 32 = .ok (.aload_n 0, 1) := by decide +kernel
theorem dX3_init_33 : decode cX3_init 33 = .ok (.bipush 40, 2) := by decide +kernel
theorem dX3_init_35 : decode cX3_init 35 = .ok (.newarray .int, 2) := by decide +kernel
theorem dX3_init_37 : decode cX3_init 37 = .ok (.putfield 19, 3) := by decide +kernel
theorem dX3_init_40 : decode cX3_init 40 = .ok (.aload_n 0, 1) := by decide +kernel
theorem dX3_init_41 : decode cX3_init 41 = .ok (.bipush 40, 2) := by decide +kernel
theorem dX3_init_43 : decode cX3_init 43 = .ok (.newarray .int, 2) := by decide +kernel
theorem dX3_init_45 : decode cX3_init 45 = .ok (.putfield 22, 3) := by decide +kernel
theorem dX3_init_48 : decode cX3_init 48 = .ok (.aload_n 0, 1) := by decide +kernel
theorem dX3_init_49 : decode cX3_init 49 = .ok (.bipush 40, 2) := by decide +kernel
theorem dX3_init_51 : decode cX3_init 51 = .ok (.newarray .int, 2) := by decide +kernel
theorem dX3_init_53 : decode cX3_init 53 = .ok (.putfield 25, 3) := by decide +kernel
theorem dX3_init_56 : decode cX3_init 56 = .ok (.return_, 1) := by decide +kernel
theorem dX3_thrown_0 : decode cX3_thrown 0 = .ok (.aload_n 0, 1) := by decide +kernel
theorem dX3_thrown_1 : decode cX3_thrown 1 = .ok (.getfield 28, 3) := by decide +kernel
theorem dX3_thrown_4 : decode cX3_thrown 4 = .ok (.ireturn, 1) := by decide +kernel
theorem dX3_fail_0 : decode cX3_fail 0 = .ok (.aload_n 0, 1) := by decide +kernel
theorem dX3_fail_1 : decode cX3_fail 1 = .ok (.iload_n 1, 1) := by decide +kernel
theorem dX3_fail_2 : decode cX3_fail 2 = .ok (.putfield 28, 3) := by decide +kernel
theorem dX3_fail_5 : decode cX3_fail 5 = .ok (.iconst 0, 1) := by decide +kernel
theorem dX3_fail_6 : decode cX3_fail 6 = .ok (.ireturn, 1) := by decide +kernel
theorem dX3_isIn_0 : decode cX3_isIn 0 = .ok (.iload_n 0, 1) := by decide +kernel
theorem dX3_isIn_1 : decode cX3_isIn 1 = .ok (.iload_n 1, 1) := by decide +kernel
theorem dX3_isIn_2 : decode cX3_isIn 2 = .ok (.if_icmp .lt 12, 3) := by decide +kernel
theorem dX3_isIn_5 : decode cX3_isIn 5 = .ok (.iload_n 0, 1) := by decide +kernel
theorem dX3_isIn_6 : decode cX3_isIn 6 = .ok (.iload_n 2, 1) := by decide +kernel
theorem dX3_isIn_7 : decode cX3_isIn 7 = .ok (.if_icmp .gt 7, 3) := by decide +kernel
theorem dX3_isIn_10 : decode cX3_isIn 10 = .ok (.iconst 1, 1) := by decide +kernel
theorem dX3_isIn_11 : decode cX3_isIn 11 = .ok (.goto 4, 3) := by decide +kernel
theorem dX3_isIn_14 : decode cX3_isIn 14 = .ok (.iconst 0, 1) := by decide +kernel
theorem dX3_isIn_15 : decode cX3_isIn 15 = .ok (.ireturn, 1) := by decide +kernel
theorem dX3_isStone_0 : decode cX3_isStone 0 = .ok (.iload_n 1, 1) := by decide +kernel
theorem dX3_isStone_1 : decode cX3_isStone 1 = .ok (.iconst 0, 1) := by decide +kernel
theorem dX3_isStone_2 : decode cX3_isStone 2 = .ok (.aload_n 0, 1) := by decide +kernel
theorem dX3_isStone_3 : decode cX3_isStone 3 = .ok (.getfield 32, 3) := by decide +kernel
theorem dX3_isStone_6 : decode cX3_isStone 6 = .ok (.iconst 1, 1) := by decide +kernel
theorem dX3_isStone_7 : decode cX3_isStone 7 = .ok (.isub, 1) := by decide +kernel
theorem dX3_isStone_8 : decode cX3_isStone 8 = .ok (.invokestatic 35, 3) := by decide +kernel
theorem dX3_isStone_11 : decode cX3_isStone 11 = .ok (.ireturn, 1) := by decide +kernel
theorem dX3_to_0 : decode cX3_to 0 = .ok (.aload_n 0, 1) := by decide +kernel
theorem dX3_to_1 : decode cX3_to 1 = .ok (.getfield 9, 3) := by decide +kernel
theorem dX3_to_4 : decode cX3_to 4 = .ok (.bipush 7, 2) := by decide +kernel
theorem dX3_to_6 : decode cX3_to 6 = .ok (.iload_n 1, 1) := by decide +kernel
theorem dX3_to_7 : decode cX3_to 7 = .ok (.imul, 1) := by decide +kernel
theorem dX3_to_8 : decode cX3_to 8 = .ok (.iload_n 2, 1) := by decide +kernel
theorem dX3_to_9 : decode cX3_to 9 = .ok (.iadd, 1) := by decide +kernel
theorem dX3_to_10 : decode cX3_to 10 = .ok (.iaload, 1) := by decide +kernel
theorem dX3_to_11 : decode cX3_to 11 = .ok (.ireturn, 1) := by decide +kernel
theorem dX3_put_0 : decode cX3_put 0 = .ok (.aload_n 0, 1) := by decide +kernel
theorem dX3_put_1 : decode cX3_put 1 = .ok (.getfield 9, 3) := by decide +kernel
theorem dX3_put_4 : decode cX3_put 4 = .ok (.bipush 7, 2) := by decide +kernel
theorem dX3_put_6 : decode cX3_put 6 = .ok (.iload_n 1, 1) := by decide +kernel
theorem dX3_put_7 : decode cX3_put 7 = .ok (.imul, 1) := by decide +kernel
theorem dX3_put_8 : decode cX3_put 8 = .ok (.iload_n 2, 1) := by decide +kernel
theorem dX3_put_9 : decode cX3_put 9 = .ok (.iadd, 1) := by decide +kernel
theorem dX3_put_10 : decode cX3_put 10 = .ok (.iload_n 3, 1) := by decide +kernel
theorem dX3_put_11 : decode cX3_put 11 = .ok (.iastore, 1) := by decide +kernel
theorem dX3_put_12 : decode cX3_put 12 = .ok (.return_, 1) := by decide +kernel
theorem dX3_hangs_0 : decode cX3_hangs 0 = .ok (.aload_n 0, 1) := by decide +kernel
theorem dX3_hangs_1 : decode cX3_hangs 1 = .ok (.iload_n 1, 1) := by decide +kernel
theorem dX3_hangs_2 : decode cX3_hangs 2 = .ok (.iconst 2, 1) := by decide +kernel
theorem dX3_hangs_3 : decode cX3_hangs 3 = .ok (.invokevirtual 39, 3) := by decide +kernel
theorem dX3_hangs_6 : decode cX3_hangs 6 = .ok (.iconst 1, 1) := by decide +kernel
theorem dX3_hangs_7 : decode cX3_hangs 7 = .ok (.if_icmp .ne 7, 3) := by decide +kernel
theorem dX3_hangs_10 : decode cX3_hangs 10 = .ok (.iconst 1, 1) := by decide +kernel
theorem dX3_hangs_11 : decode cX3_hangs 11 = .ok (.goto 4, 3) := by decide +kernel
theorem dX3_hangs_14 : decode cX3_hangs 14 = .ok (.iconst 0, 1) := by decide +kernel
theorem dX3_hangs_15 : decode cX3_hangs 15 = .ok (.ireturn, 1) := by decide +kernel
theorem dX3_st_0 : decode cX3_st 0 = .ok (.aload_n 0, 1) := by decide +kernel
theorem dX3_st_1 : decode cX3_st 1 = .ok (.getfield 13, 3) := by decide +kernel
theorem dX3_st_4 : decode cX3_st 4 = .ok (.iconst 3, 1) := by decide +kernel
theorem dX3_st_5 : decode cX3_st 5 = .ok (.iload_n 1, 1) := by decide +kernel
theorem dX3_st_6 : decode cX3_st 6 = .ok (.imul, 1) := by decide +kernel
theorem dX3_st_7 : decode cX3_st 7 = .ok (.iload_n 2, 1) := by decide +kernel
theorem dX3_st_8 : decode cX3_st 8 = .ok (.iadd, 1) := by decide +kernel
theorem dX3_st_9 : decode cX3_st 9 = .ok (.iaload, 1) := by decide +kernel
theorem dX3_st_10 : decode cX3_st 10 = .ok (.ireturn, 1) := by decide +kernel
theorem dX3_reckon_0 : decode cX3_reckon 0 = .ok (.iconst 0, 1) := by decide +kernel
theorem dX3_reckon_1 : decode cX3_reckon 1 = .ok (.istore_n 1, 1) := by decide +kernel
theorem dX3_reckon_2 : decode cX3_reckon 2 = .ok (.iload_n 1, 1) := by decide +kernel
theorem dX3_reckon_3 : decode cX3_reckon 3 = .ok (.aload_n 0, 1) := by decide +kernel
theorem dX3_reckon_4 : decode cX3_reckon 4 = .ok (.getfield 32, 3) := by decide +kernel
theorem dX3_reckon_7 : decode cX3_reckon 7 = .ok (.if_icmp .ge 16, 3) := by decide +kernel
theorem dX3_reckon_10 : decode cX3_reckon 10 = .ok (.aload_n 0, 1) := by decide +kernel
theorem dX3_reckon_11 : decode cX3_reckon 11 = .ok (.getfield 22, 3) := by decide +kernel
theorem dX3_reckon_14 : decode cX3_reckon 14 = .ok (.iload_n 1, 1) := by decide +kernel
theorem dX3_reckon_15 : decode cX3_reckon 15 = .ok (.iconst 0, 1) := by decide +kernel
theorem dX3_reckon_16 : decode cX3_reckon 16 = .ok (.iastore, 1) := by decide +kernel
theorem dX3_reckon_17 : decode cX3_reckon 17 = .ok (.iinc 1 1, 3) := by decide +kernel
theorem dX3_reckon_20 : decode cX3_reckon 20 = .ok (.goto (-18), 3) := by decide +kernel
theorem dX3_reckon_23 : decode cX3_reckon 23 = .ok (.aload_n 0, 1) := by decide +kernel
theorem dX3_reckon_24 : decode cX3_reckon 24 = .ok (.getfield 32, 3) := by decide +kernel
theorem dX3_reckon_27 : decode cX3_reckon 27 = .ok (.iconst 1, 1) := by decide +kernel
theorem dX3_reckon_28 : decode cX3_reckon 28 = .ok (.isub, 1) := by decide +kernel
theorem dX3_reckon_29 : decode cX3_reckon 29 = .ok (.istore_n 1, 1) := by decide +kernel
theorem dX3_reckon_30 : decode cX3_reckon 30 = .ok (.iload_n 1, 1) := by decide +kernel
theorem dX3_reckon_31 : decode cX3_reckon 31 = .ok (.ifCond .lt 152, 3) := by decide +kernel
theorem dX3_reckon_34 : decode cX3_reckon 34 = .ok (.aload_n 0, 1) := by decide +kernel
theorem dX3_reckon_35 : decode cX3_reckon 35 = .ok (.getfield 19, 3) := by decide +kernel
theorem dX3_reckon_38 : decode cX3_reckon 38 = .ok (.iload_n 1, 1) := by decide +kernel
theorem dX3_reckon_39 : decode cX3_reckon 39 = .ok (.aload_n 0, 1) := by decide +kernel
theorem dX3_reckon_40 : decode cX3_reckon 40 = .ok (.iload_n 1, 1) := by decide +kernel
theorem dX3_reckon_41 : decode cX3_reckon 41 = .ok (.invokevirtual 43, 3) := by decide +kernel
theorem dX3_reckon_44 : decode cX3_reckon 44 = .ok (.ifCond .eq 31, 3) := by decide +kernel
theorem dX3_reckon_47 : decode cX3_reckon 47 = .ok (.iconst 0, 1) := by decide +kernel
theorem dX3_reckon_48 : decode cX3_reckon 48 = .ok (.aload_n 0, 1) := by decide +kernel
theorem dX3_reckon_49 : decode cX3_reckon 49 = .ok (.iload_n 1, 1) := by decide +kernel
theorem dX3_reckon_50 : decode cX3_reckon 50 = .ok (.iconst 0, 1) := by decide +kernel
theorem dX3_reckon_51 : decode cX3_reckon 51 = .ok (.invokevirtual 39, 3) := by decide +kernel
theorem dX3_reckon_54 : decode cX3_reckon 54 = .ok (.aload_n 0, 1) := by decide +kernel
theorem dX3_reckon_55 : decode cX3_reckon 55 = .ok (.getfield 22, 3) := by decide +kernel
theorem dX3_reckon_58 : decode cX3_reckon 58 = .ok (.iload_n 1, 1) := by decide +kernel
theorem dX3_reckon_59 : decode cX3_reckon 59 = .ok (.iaload, 1) := by decide +kernel
theorem dX3_reckon_60 : decode cX3_reckon 60 = .ok (.iadd, 1) := by decide +kernel
theorem dX3_reckon_61 : decode cX3_reckon 61 = .ok (.aload_n 0, 1) := by decide +kernel
theorem dX3_reckon_62 : decode cX3_reckon 62 = .ok (.iload_n 1, 1) := by decide +kernel
theorem dX3_reckon_63 : decode cX3_reckon 63 = .ok (.bipush 6, 2) := by decide +kernel
theorem dX3_reckon_65 : decode cX3_reckon 65 = .ok (.invokevirtual 39, 3) := by decide +kernel
theorem dX3_reckon_68 : decode cX3_reckon 68 = .ok (.isub, 1) := by decide +kernel
theorem dX3_reckon_69 : decode cX3_reckon 69 = .ok (.invokestatic 47, 3) := by decide +kernel
theorem dX3_reckon_72 : decode cX3_reckon 72 = .ok (.goto 4, 3) := by decide +kernel
theorem dX3_reckon_75 : decode cX3_reckon 75 = .ok (.iconst 0, 1) := by decide +kernel
theorem dX3_reckon_76 : decode cX3_reckon 76 = .ok (.iastore, 1) := by decide +kernel
theorem dX3_reckon_77 : decode cX3_reckon 77 = .ok (.aload_n 0, 1) := by decide +kernel
theorem dX3_reckon_78 : decode cX3_reckon 78 = .ok (.iload_n 1, 1) := by decide +kernel
theorem dX3_reckon_79 : decode cX3_reckon 79 = .ok (.invokevirtual 43, 3) := by decide +kernel
theorem dX3_reckon_82 : decode cX3_reckon 82 = .ok (.ifCond .eq 95, 3) := by decide +kernel
theorem dX3_reckon_85 : decode cX3_reckon 85 = .ok (.aload_n 0, 1) := by decide +kernel
theorem dX3_reckon_86 : decode cX3_reckon 86 = .ok (.iload_n 1, 1) := by decide +kernel
theorem dX3_reckon_87 : decode cX3_reckon 87 = .ok (.iconst 4, 1) := by decide +kernel
theorem dX3_reckon_88 : decode cX3_reckon 88 = .ok (.invokevirtual 39, 3) := by decide +kernel
theorem dX3_reckon_91 : decode cX3_reckon 91 = .ok (.iconst (-1), 1) := by decide +kernel
theorem dX3_reckon_92 : decode cX3_reckon 92 = .ok (.if_icmp .ne 6, 3) := by decide +kernel
theorem dX3_reckon_95 : decode cX3_reckon 95 = .ok (.goto 82, 3) := by decide +kernel
theorem dX3_reckon_98 : decode cX3_reckon 98 = .ok (.aload_n 0, 1) := by decide +kernel
theorem dX3_reckon_99 : decode cX3_reckon 99 = .ok (.iload_n 1, 1) := by decide +kernel
theorem dX3_reckon_100 : decode cX3_reckon 100 = .ok (.iconst 5, 1) := by decide +kernel
theorem dX3_reckon_101 : decode cX3_reckon 101 = .ok (.invokevirtual 39, 3) := by decide +kernel
theorem dX3_reckon_104 : decode cX3_reckon 104 = .ok (.iconst (-1), 1) := by decide +kernel
theorem dX3_reckon_105 : decode cX3_reckon 105 = .ok (.if_icmp .ne 7, 3) := by decide +kernel
theorem dX3_reckon_108 : decode cX3_reckon 108 = .ok (.iconst 1, 1) := by decide +kernel
theorem dX3_reckon_109 : decode cX3_reckon 109 = .ok (.goto 4, 3) := by decide +kernel
theorem dX3_reckon_112 : decode cX3_reckon 112 = .ok (.iconst 0, 1) := by decide +kernel
theorem dX3_reckon_113 : decode cX3_reckon 113 = .ok (.istore_n 2, 1) := by decide +kernel
theorem dX3_reckon_114 : decode cX3_reckon 114 = .ok (.aload_n 0, 1) := by decide +kernel
theorem dX3_reckon_115 : decode cX3_reckon 115 = .ok (.getfield 22, 3) := by decide +kernel
theorem dX3_reckon_118 : decode cX3_reckon 118 = .ok (.aload_n 0, 1) := by decide +kernel
theorem dX3_reckon_119 : decode cX3_reckon 119 = .ok (.iload_n 1, 1) := by decide +kernel
theorem dX3_reckon_120 : decode cX3_reckon 120 = .ok (.iconst 4, 1) := by decide +kernel
theorem dX3_reckon_121 : decode cX3_reckon 121 = .ok (.invokevirtual 39, 3) := by decide +kernel
theorem dX3_reckon_124 : decode cX3_reckon 124 = .ok (.dup2, 1) := by decide +kernel
theorem dX3_reckon_125 : decode cX3_reckon 125 = .ok (.iaload, 1) := by decide +kernel
theorem dX3_reckon_126 : decode cX3_reckon 126 = .ok (.iload_n 2, 1) := by decide +kernel
theorem dX3_reckon_127 : decode cX3_reckon 127 = .ok (.ifCond .eq 12, 3) := by decide +kernel
theorem dX3_reckon_130 : decode cX3_reckon 130 = .ok (.aload_n 0, 1) := by decide +kernel
theorem dX3_reckon_131 : decode cX3_reckon 131 = .ok (.getfield 19, 3) := by decide +kernel
theorem dX3_reckon_134 : decode cX3_reckon 134 = .ok (.iload_n 1, 1) := by decide +kernel
theorem dX3_reckon_135 : decode cX3_reckon 135 = .ok (.iaload, 1) := by decide +kernel
theorem dX3_reckon_136 : decode cX3_reckon 136 = .ok (.goto 13, 3) := by decide +kernel
theorem dX3_reckon_139 : decode cX3_reckon 139 = .ok (.aload_n 0, 1) := by decide +kernel
theorem dX3_reckon_140 : decode cX3_reckon 140 = .ok (.getfield 19, 3) := by decide +kernel
theorem dX3_reckon_143 : decode cX3_reckon 143 = .ok (.iload_n 1, 1) := by decide +kernel
theorem dX3_reckon_144 : decode cX3_reckon 144 = .ok (.iaload, 1) := by decide +kernel
theorem dX3_reckon_145 : decode cX3_reckon 145 = .ok (.iconst 1, 1) := by decide +kernel
theorem dX3_reckon_146 : decode cX3_reckon 146 = .ok (.iadd, 1) := by decide +kernel
theorem dX3_reckon_147 : decode cX3_reckon 147 = .ok (.iconst 2, 1) := by decide +kernel
theorem dX3_reckon_148 : decode cX3_reckon 148 = .ok (.idiv, 1) := by decide +kernel
theorem dX3_reckon_149 : decode cX3_reckon 149 = .ok (.iadd, 1) := by decide +kernel
theorem dX3_reckon_150 : decode cX3_reckon 150 = .ok (.iastore, 1) := by decide +kernel
theorem dX3_reckon_151 : decode cX3_reckon 151 = .ok (.iload_n 2, 1) := by decide +kernel
theorem dX3_reckon_152 : decode cX3_reckon 152 = .ok (.ifCond .ne 25, 3) := by decide +kernel
theorem dX3_reckon_155 : decode cX3_reckon 155 = .ok (.aload_n 0, 1) := by decide +kernel
theorem dX3_reckon_156 : decode cX3_reckon 156 = .ok (.getfield 22, 3) := by decide +kernel
theorem dX3_reckon_159 : decode cX3_reckon 159 = .ok (.aload_n 0, 1) := by decide +kernel
theorem dX3_reckon_160 : decode cX3_reckon 160 = .ok (.iload_n 1, 1) := by decide +kernel
theorem dX3_reckon_161 : decode cX3_reckon 161 = .ok (.iconst 5, 1) := by decide +kernel
theorem dX3_reckon_162 : decode cX3_reckon 162 = .ok (.invokevirtual 39, 3) := by decide +kernel
theorem dX3_reckon_165 : decode cX3_reckon 165 = .ok (.dup2, 1) := by decide +kernel
theorem dX3_reckon_166 : decode cX3_reckon 166 = .ok (.iaload, 1) := by decide +kernel
theorem dX3_reckon_167 : decode cX3_reckon 167 = .ok (.aload_n 0, 1) := by decide +kernel
theorem dX3_reckon_168 : decode cX3_reckon 168 = .ok (.getfield 19, 3) := by decide +kernel
theorem dX3_reckon_171 : decode cX3_reckon 171 = .ok (.iload_n 1, 1) := by decide +kernel
theorem dX3_reckon_172 : decode cX3_reckon 172 = .ok (.iaload, 1) := by decide +kernel
theorem dX3_reckon_173 : decode cX3_reckon 173 = .ok (.iconst 2, 1) := by decide +kernel
theorem dX3_reckon_174 : decode cX3_reckon 174 = .ok (.idiv, 1) := by decide +kernel
theorem dX3_reckon_175 : decode cX3_reckon 175 = .ok (.iadd, 1) := by decide +kernel
theorem dX3_reckon_176 : decode cX3_reckon 176 = .ok (.iastore, 1) := by decide +kernel
theorem dX3_reckon_177 : decode cX3_reckon 177 = .ok (.iinc 1 (-1), 3) := by decide +kernel
theorem dX3_reckon_180 : decode cX3_reckon 180 = .ok (.goto (-150), 3) := by decide +kernel
theorem dX3_reckon_183 : decode cX3_reckon 183 = .ok (.return_, 1) := by decide +kernel
theorem dX3_isHeldBy_0 : decode cX3_isHeldBy 0 = .ok (.aload_n 0, 1) := by decide +kernel
theorem dX3_isHeldBy_1 : decode cX3_isHeldBy 1 = .ok (.iload_n 1, 1) := by decide +kernel
theorem dX3_isHeldBy_2 : decode cX3_isHeldBy 2 = .ok (.iconst 4, 1) := by decide +kernel
theorem dX3_isHeldBy_3 : decode cX3_isHeldBy 3 = .ok (.invokevirtual 39, 3) := by decide +kernel
theorem dX3_isHeldBy_6 : decode cX3_isHeldBy 6 = .ok (.iload_n 2, 1) := by decide +kernel
theorem dX3_isHeldBy_7 : decode cX3_isHeldBy 7 = .ok (.if_icmp .eq 13, 3) := by decide +kernel
theorem dX3_isHeldBy_10 : decode cX3_isHeldBy 10 = .ok (.aload_n 0, 1) := by decide +kernel
theorem dX3_isHeldBy_11 : decode cX3_isHeldBy 11 = .ok (.iload_n 1, 1) := by decide +kernel
theorem dX3_isHeldBy_12 : decode cX3_isHeldBy 12 = .ok (.iconst 5, 1) := by decide +kernel
theorem dX3_isHeldBy_13 : decode cX3_isHeldBy 13 = .ok (.invokevirtual 39, 3) := by decide +kernel
theorem dX3_isHeldBy_16 : decode cX3_isHeldBy 16 = .ok (.iload_n 2, 1) := by decide +kernel
theorem dX3_isHeldBy_17 : decode cX3_isHeldBy 17 = .ok (.if_icmp .ne 7, 3) := by decide +kernel
theorem dX3_isHeldBy_20 : decode cX3_isHeldBy 20 = .ok (.iconst 1, 1) := by decide +kernel
theorem dX3_isHeldBy_21 : decode cX3_isHeldBy 21 = .ok (.goto 4, 3) := by decide +kernel
theorem dX3_isHeldBy_24 : decode cX3_isHeldBy 24 = .ok (.iconst 0, 1) := by decide +kernel
theorem dX3_isHeldBy_25 : decode cX3_isHeldBy 25 = .ok (.ireturn, 1) := by decide +kernel
theorem dX3_tear_0 : decode cX3_tear 0 = .ok (.iconst 0, 1) := by decide +kernel
theorem dX3_tear_1 : decode cX3_tear 1 = .ok (.istore_n 2, 1) := by decide +kernel
theorem dX3_tear_2 : decode cX3_tear 2 = .ok (.iload_n 1, 1) := by decide +kernel
theorem dX3_tear_3 : decode cX3_tear 3 = .ok (.iconst 1, 1) := by decide +kernel
theorem dX3_tear_4 : decode cX3_tear 4 = .ok (.iadd, 1) := by decide +kernel
theorem dX3_tear_5 : decode cX3_tear 5 = .ok (.istore_n 3, 1) := by decide +kernel
theorem dX3_tear_6 : decode cX3_tear 6 = .ok (.iload_n 3, 1) := by decide +kernel
theorem dX3_tear_7 : decode cX3_tear 7 = .ok (.aload_n 0, 1) := by decide +kernel
theorem dX3_tear_8 : decode cX3_tear 8 = .ok (.getfield 32, 3) := by decide +kernel
theorem dX3_tear_11 : decode cX3_tear 11 = .ok (.if_icmp .ge 60, 3) := by decide +kernel
theorem dX3_tear_14 : decode cX3_tear 14 = .ok (.aload_n 0, 1) := by decide +kernel
theorem dX3_tear_15 : decode cX3_tear 15 = .ok (.iload_n 3, 1) := by decide +kernel
theorem dX3_tear_16 : decode cX3_tear 16 = .ok (.invokevirtual 43, 3) := by decide +kernel
theorem dX3_tear_19 : decode cX3_tear 19 = .ok (.ifCond .eq 46, 3) := by decide +kernel
theorem dX3_tear_22 : decode cX3_tear 22 = .ok (.aload_n 0, 1) := by decide +kernel
theorem dX3_tear_23 : decode cX3_tear 23 = .ok (.iload_n 3, 1) := by decide +kernel
theorem dX3_tear_24 : decode cX3_tear 24 = .ok (.iload_n 1, 1) := by decide +kernel
theorem dX3_tear_25 : decode cX3_tear 25 = .ok (.invokevirtual 52, 3) := by decide +kernel
theorem dX3_tear_28 : decode cX3_tear 28 = .ok (.ifCond .ne 6, 3) := by decide +kernel
theorem dX3_tear_31 : decode cX3_tear 31 = .ok (.goto 34, 3) := by decide +kernel
theorem dX3_tear_34 : decode cX3_tear 34 = .ok (.iconst 1, 1) := by decide +kernel
theorem dX3_tear_35 : decode cX3_tear 35 = .ok (.istore_n 2, 1) := by decide +kernel
theorem dX3_tear_36 : decode cX3_tear 36 = .ok (.aload_n 0, 1) := by decide +kernel
theorem dX3_tear_37 : decode cX3_tear 37 = .ok (.iload_n 3, 1) := by decide +kernel
theorem dX3_tear_38 : decode cX3_tear 38 = .ok (.iconst 4, 1) := by decide +kernel
theorem dX3_tear_39 : decode cX3_tear 39 = .ok (.invokevirtual 39, 3) := by decide +kernel
theorem dX3_tear_42 : decode cX3_tear 42 = .ok (.iload_n 1, 1) := by decide +kernel
theorem dX3_tear_43 : decode cX3_tear 43 = .ok (.if_icmp .ne 15, 3) := by decide +kernel
theorem dX3_tear_46 : decode cX3_tear 46 = .ok (.aload_n 0, 1) := by decide +kernel
theorem dX3_tear_47 : decode cX3_tear 47 = .ok (.iload_n 3, 1) := by decide +kernel
theorem dX3_tear_48 : decode cX3_tear 48 = .ok (.iconst 4, 1) := by decide +kernel
theorem dX3_tear_49 : decode cX3_tear 49 = .ok (.aload_n 0, 1) := by decide +kernel
theorem dX3_tear_50 : decode cX3_tear 50 = .ok (.iload_n 3, 1) := by decide +kernel
theorem dX3_tear_51 : decode cX3_tear 51 = .ok (.iconst 5, 1) := by decide +kernel
theorem dX3_tear_52 : decode cX3_tear 52 = .ok (.invokevirtual 39, 3) := by decide +kernel
theorem dX3_tear_55 : decode cX3_tear 55 = .ok (.invokevirtual 56, 3) := by decide +kernel
theorem dX3_tear_58 : decode cX3_tear 58 = .ok (.aload_n 0, 1) := by decide +kernel
theorem dX3_tear_59 : decode cX3_tear 59 = .ok (.iload_n 3, 1) := by decide +kernel
theorem dX3_tear_60 : decode cX3_tear 60 = .ok (.iconst 5, 1) := by decide +kernel
theorem dX3_tear_61 : decode cX3_tear 61 = .ok (.iconst (-1), 1) := by decide +kernel
theorem dX3_tear_62 : decode cX3_tear 62 = .ok (.invokevirtual 56, 3) := by decide +kernel
theorem dX3_tear_65 : decode cX3_tear 65 = .ok (.iinc 3 1, 3) := by decide +kernel
theorem dX3_tear_68 : decode cX3_tear 68 = .ok (.goto (-62), 3) := by decide +kernel
theorem dX3_tear_71 : decode cX3_tear 71 = .ok (.iload_n 2, 1) := by decide +kernel
theorem dX3_tear_72 : decode cX3_tear 72 = .ok (.ireturn, 1) := by decide +kernel
theorem dX3_fall_0 : decode cX3_fall 0 = .ok (.aload_n 0, 1) := by decide +kernel
theorem dX3_fall_1 : decode cX3_fall 1 = .ok (.iload_n 1, 1) := by decide +kernel
theorem dX3_fall_2 : decode cX3_fall 2 = .ok (.iconst 2, 1) := by decide +kernel
theorem dX3_fall_3 : decode cX3_fall 3 = .ok (.iconst 0, 1) := by decide +kernel
theorem dX3_fall_4 : decode cX3_fall 4 = .ok (.invokevirtual 56, 3) := by decide +kernel
theorem dX3_fall_7 : decode cX3_fall 7 = .ok (.aload_n 0, 1) := by decide +kernel
theorem dX3_fall_8 : decode cX3_fall 8 = .ok (.iload_n 1, 1) := by decide +kernel
theorem dX3_fall_9 : decode cX3_fall 9 = .ok (.invokevirtual 60, 3) := by decide +kernel
theorem dX3_fall_12 : decode cX3_fall 12 = .ok (.pop, 1) := by decide +kernel
theorem dX3_fall_13 : decode cX3_fall 13 = .ok (.aload_n 0, 1) := by decide +kernel
theorem dX3_fall_14 : decode cX3_fall 14 = .ok (.iload_n 1, 1) := by decide +kernel
theorem dX3_fall_15 : decode cX3_fall 15 = .ok (.iconst 3, 1) := by decide +kernel
theorem dX3_fall_16 : decode cX3_fall 16 = .ok (.iconst 0, 1) := by decide +kernel
theorem dX3_fall_17 : decode cX3_fall 17 = .ok (.invokevirtual 56, 3) := by decide +kernel
theorem dX3_fall_20 : decode cX3_fall 20 = .ok (.aload_n 0, 1) := by decide +kernel
theorem dX3_fall_21 : decode cX3_fall 21 = .ok (.iload_n 1, 1) := by decide +kernel
theorem dX3_fall_22 : decode cX3_fall 22 = .ok (.iconst 4, 1) := by decide +kernel
theorem dX3_fall_23 : decode cX3_fall 23 = .ok (.iconst (-1), 1) := by decide +kernel
theorem dX3_fall_24 : decode cX3_fall 24 = .ok (.invokevirtual 56, 3) := by decide +kernel
theorem dX3_fall_27 : decode cX3_fall 27 = .ok (.aload_n 0, 1) := by decide +kernel
theorem dX3_fall_28 : decode cX3_fall 28 = .ok (.iload_n 1, 1) := by decide +kernel
theorem dX3_fall_29 : decode cX3_fall 29 = .ok (.iconst 5, 1) := by decide +kernel
theorem dX3_fall_30 : decode cX3_fall 30 = .ok (.iconst (-1), 1) := by decide +kernel
theorem dX3_fall_31 : decode cX3_fall 31 = .ok (.invokevirtual 56, 3) := by decide +kernel
theorem dX3_fall_34 : decode cX3_fall 34 = .ok (.iconst 0, 1) := by decide +kernel
theorem dX3_fall_35 : decode cX3_fall 35 = .ok (.istore_n 2, 1) := by decide +kernel
theorem dX3_fall_36 : decode cX3_fall 36 = .ok (.iload_n 2, 1) := by decide +kernel
theorem dX3_fall_37 : decode cX3_fall 37 = .ok (.aload_n 0, 1) := by decide +kernel
theorem dX3_fall_38 : decode cX3_fall 38 = .ok (.getfield 63, 3) := by decide +kernel
theorem dX3_fall_41 : decode cX3_fall 41 = .ok (.if_icmp .ge 40, 3) := by decide +kernel
theorem dX3_fall_44 : decode cX3_fall 44 = .ok (.aload_n 0, 1) := by decide +kernel
theorem dX3_fall_45 : decode cX3_fall 45 = .ok (.iload_n 2, 1) := by decide +kernel
theorem dX3_fall_46 : decode cX3_fall 46 = .ok (.iconst 0, 1) := by decide +kernel
theorem dX3_fall_47 : decode cX3_fall 47 = .ok (.invokevirtual 66, 3) := by decide +kernel
theorem dX3_fall_50 : decode cX3_fall 50 = .ok (.iload_n 1, 1) := by decide +kernel
theorem dX3_fall_51 : decode cX3_fall 51 = .ok (.if_icmp .eq 13, 3) := by decide +kernel
theorem dX3_fall_54 : decode cX3_fall 54 = .ok (.aload_n 0, 1) := by decide +kernel
theorem dX3_fall_55 : decode cX3_fall 55 = .ok (.iload_n 2, 1) := by decide +kernel
theorem dX3_fall_56 : decode cX3_fall 56 = .ok (.iconst 1, 1) := by decide +kernel
theorem dX3_fall_57 : decode cX3_fall 57 = .ok (.invokevirtual 66, 3) := by decide +kernel
theorem dX3_fall_60 : decode cX3_fall 60 = .ok (.iload_n 1, 1) := by decide +kernel
theorem dX3_fall_61 : decode cX3_fall 61 = .ok (.if_icmp .ne 14, 3) := by decide +kernel
theorem dX3_fall_64 : decode cX3_fall 64 = .ok (.aload_n 0, 1) := by decide +kernel
theorem dX3_fall_65 : decode cX3_fall 65 = .ok (.getfield 13, 3) := by decide +kernel
theorem dX3_fall_68 : decode cX3_fall 68 = .ok (.iconst 3, 1) := by decide +kernel
theorem dX3_fall_69 : decode cX3_fall 69 = .ok (.iload_n 2, 1) := by decide +kernel
theorem dX3_fall_70 : decode cX3_fall 70 = .ok (.imul, 1) := by decide +kernel
theorem dX3_fall_71 : decode cX3_fall 71 = .ok (.iconst 2, 1) := by decide +kernel
theorem dX3_fall_72 : decode cX3_fall 72 = .ok (.iadd, 1) := by decide +kernel
theorem dX3_fall_73 : decode cX3_fall 73 = .ok (.iconst 1, 1) := by decide +kernel
theorem dX3_fall_74 : decode cX3_fall 74 = .ok (.iastore, 1) := by decide +kernel
theorem dX3_fall_75 : decode cX3_fall 75 = .ok (.iinc 2 1, 3) := by decide +kernel
theorem dX3_fall_78 : decode cX3_fall 78 = .ok (.goto (-42), 3) := by decide +kernel
theorem dX3_fall_81 : decode cX3_fall 81 = .ok (.return_, 1) := by decide +kernel
theorem dX3_drop_0 : decode cX3_drop 0 = .ok (.iconst 0, 1) := by decide +kernel
theorem dX3_drop_1 : decode cX3_drop 1 = .ok (.istore_n 1, 1) := by decide +kernel
theorem dX3_drop_2 : decode cX3_drop 2 = .ok (.iload_n 1, 1) := by decide +kernel
theorem dX3_drop_3 : decode cX3_drop 3 = .ok (.aload_n 0, 1) := by decide +kernel
theorem dX3_drop_4 : decode cX3_drop 4 = .ok (.getfield 32, 3) := by decide +kernel
theorem dX3_drop_7 : decode cX3_drop 7 = .ok (.if_icmp .ge 41, 3) := by decide +kernel
theorem dX3_drop_10 : decode cX3_drop 10 = .ok (.aload_n 0, 1) := by decide +kernel
theorem dX3_drop_11 : decode cX3_drop 11 = .ok (.iload_n 1, 1) := by decide +kernel
theorem dX3_drop_12 : decode cX3_drop 12 = .ok (.invokevirtual 43, 3) := by decide +kernel
theorem dX3_drop_15 : decode cX3_drop 15 = .ok (.ifCond .eq 27, 3) := by decide +kernel
theorem dX3_drop_18 : decode cX3_drop 18 = .ok (.aload_n 0, 1) := by decide +kernel
theorem dX3_drop_19 : decode cX3_drop 19 = .ok (.iload_n 1, 1) := by decide +kernel
theorem dX3_drop_20 : decode cX3_drop 20 = .ok (.iconst 3, 1) := by decide +kernel
theorem dX3_drop_21 : decode cX3_drop 21 = .ok (.invokevirtual 39, 3) := by decide +kernel
theorem dX3_drop_24 : decode cX3_drop 24 = .ok (.ifCond .ne 18, 3) := by decide +kernel
theorem dX3_drop_27 : decode cX3_drop 27 = .ok (.aload_n 0, 1) := by decide +kernel
theorem dX3_drop_28 : decode cX3_drop 28 = .ok (.iload_n 1, 1) := by decide +kernel
theorem dX3_drop_29 : decode cX3_drop 29 = .ok (.iconst 4, 1) := by decide +kernel
theorem dX3_drop_30 : decode cX3_drop 30 = .ok (.invokevirtual 39, 3) := by decide +kernel
theorem dX3_drop_33 : decode cX3_drop 33 = .ok (.iconst (-1), 1) := by decide +kernel
theorem dX3_drop_34 : decode cX3_drop 34 = .ok (.if_icmp .ne 8, 3) := by decide +kernel
theorem dX3_drop_37 : decode cX3_drop 37 = .ok (.aload_n 0, 1) := by decide +kernel
theorem dX3_drop_38 : decode cX3_drop 38 = .ok (.iload_n 1, 1) := by decide +kernel
theorem dX3_drop_39 : decode cX3_drop 39 = .ok (.invokevirtual 69, 3) := by decide +kernel
theorem dX3_drop_42 : decode cX3_drop 42 = .ok (.iinc 1 1, 3) := by decide +kernel
theorem dX3_drop_45 : decode cX3_drop 45 = .ok (.goto (-43), 3) := by decide +kernel
theorem dX3_drop_48 : decode cX3_drop 48 = .ok (.return_, 1) := by decide +kernel
theorem dX3_giveWay_0 : decode cX3_giveWay 0 = .ok (.iconst 1, 1) := by decide +kernel
theorem dX3_giveWay_1 : decode cX3_giveWay 1 = .ok (.istore_n 1, 1) := by decide +kernel
theorem dX3_giveWay_2 : decode cX3_giveWay 2 = .ok (.iload_n 1, 1) := by decide +kernel
theorem dX3_giveWay_3 : decode cX3_giveWay 3 = .ok (.ifCond .eq 102, 3) := by decide +kernel
theorem dX3_giveWay_6 : decode cX3_giveWay 6 = .ok (.iconst 0, 1) := by decide +kernel
theorem dX3_giveWay_7 : decode cX3_giveWay 7 = .ok (.istore_n 1, 1) := by decide +kernel
theorem dX3_giveWay_8 : decode cX3_giveWay 8 = .ok (.aload_n 0, 1) := by decide +kernel
theorem dX3_giveWay_9 : decode cX3_giveWay 9 = .ok (.invokevirtual 73, 3) := by decide +kernel
theorem dX3_giveWay_12 : decode cX3_giveWay 12 = .ok (.iconst 0, 1) := by decide +kernel
theorem dX3_giveWay_13 : decode cX3_giveWay 13 = .ok (.istore_n 2, 1) := by decide +kernel
theorem dX3_giveWay_14 : decode cX3_giveWay 14 = .ok (.iload_n 2, 1) := by decide +kernel
theorem dX3_giveWay_15 : decode cX3_giveWay 15 = .ok (.aload_n 0, 1) := by decide +kernel
theorem dX3_giveWay_16 : decode cX3_giveWay 16 = .ok (.getfield 32, 3) := by decide +kernel
theorem dX3_giveWay_19 : decode cX3_giveWay 19 = .ok (.if_icmp .ge 79, 3) := by decide +kernel
theorem dX3_giveWay_22 : decode cX3_giveWay 22 = .ok (.aload_n 0, 1) := by decide +kernel
theorem dX3_giveWay_23 : decode cX3_giveWay 23 = .ok (.iload_n 2, 1) := by decide +kernel
theorem dX3_giveWay_24 : decode cX3_giveWay 24 = .ok (.invokevirtual 43, 3) := by decide +kernel
theorem dX3_giveWay_27 : decode cX3_giveWay 27 = .ok (.ifCond .ne 6, 3) := by decide +kernel
theorem dX3_giveWay_30 : decode cX3_giveWay 30 = .ok (.goto 62, 3) := by decide +kernel
theorem dX3_giveWay_33 : decode cX3_giveWay 33 = .ok (.aload_n 0, 1) := by decide +kernel
theorem dX3_giveWay_34 : decode cX3_giveWay 34 = .ok (.getfield 22, 3) := by decide +kernel
theorem dX3_giveWay_37 : decode cX3_giveWay 37 = .ok (.iload_n 2, 1) := by decide +kernel
theorem dX3_giveWay_38 : decode cX3_giveWay 38 = .ok (.iaload, 1) := by decide +kernel
theorem dX3_giveWay_39 : decode cX3_giveWay 39 = .ok (.aload_n 0, 1) := by decide +kernel
theorem dX3_giveWay_40 : decode cX3_giveWay 40 = .ok (.iload_n 2, 1) := by decide +kernel
theorem dX3_giveWay_41 : decode cX3_giveWay 41 = .ok (.iconst 1, 1) := by decide +kernel
theorem dX3_giveWay_42 : decode cX3_giveWay 42 = .ok (.invokevirtual 39, 3) := by decide +kernel
theorem dX3_giveWay_45 : decode cX3_giveWay 45 = .ok (.if_icmp .le 11, 3) := by decide +kernel
theorem dX3_giveWay_48 : decode cX3_giveWay 48 = .ok (.iload_n 1, 1) := by decide +kernel
theorem dX3_giveWay_49 : decode cX3_giveWay 49 = .ok (.aload_n 0, 1) := by decide +kernel
theorem dX3_giveWay_50 : decode cX3_giveWay 50 = .ok (.iload_n 2, 1) := by decide +kernel
theorem dX3_giveWay_51 : decode cX3_giveWay 51 = .ok (.invokevirtual 60, 3) := by decide +kernel
theorem dX3_giveWay_54 : decode cX3_giveWay 54 = .ok (.ior, 1) := by decide +kernel
theorem dX3_giveWay_55 : decode cX3_giveWay 55 = .ok (.istore_n 1, 1) := by decide +kernel
theorem dX3_giveWay_56 : decode cX3_giveWay 56 = .ok (.aload_n 0, 1) := by decide +kernel
theorem dX3_giveWay_57 : decode cX3_giveWay 57 = .ok (.iload_n 2, 1) := by decide +kernel
theorem dX3_giveWay_58 : decode cX3_giveWay 58 = .ok (.iconst 3, 1) := by decide +kernel
theorem dX3_giveWay_59 : decode cX3_giveWay 59 = .ok (.invokevirtual 39, 3) := by decide +kernel
theorem dX3_giveWay_62 : decode cX3_giveWay 62 = .ok (.ifCond .eq 30, 3) := by decide +kernel
theorem dX3_giveWay_65 : decode cX3_giveWay 65 = .ok (.aload_n 0, 1) := by decide +kernel
theorem dX3_giveWay_66 : decode cX3_giveWay 66 = .ok (.iload_n 2, 1) := by decide +kernel
theorem dX3_giveWay_67 : decode cX3_giveWay 67 = .ok (.iconst 3, 1) := by decide +kernel
theorem dX3_giveWay_68 : decode cX3_giveWay 68 = .ok (.invokevirtual 39, 3) := by decide +kernel
theorem dX3_giveWay_71 : decode cX3_giveWay 71 = .ok (.aload_n 0, 1) := by decide +kernel
theorem dX3_giveWay_72 : decode cX3_giveWay 72 = .ok (.getfield 19, 3) := by decide +kernel
theorem dX3_giveWay_75 : decode cX3_giveWay 75 = .ok (.iload_n 2, 1) := by decide +kernel
theorem dX3_giveWay_76 : decode cX3_giveWay 76 = .ok (.iaload, 1) := by decide +kernel
theorem dX3_giveWay_77 : decode cX3_giveWay 77 = .ok (.if_icmp .lt 6, 3) := by decide +kernel
theorem dX3_giveWay_80 : decode cX3_giveWay 80 = .ok (.goto 12, 3) := by decide +kernel
theorem dX3_giveWay_83 : decode cX3_giveWay 83 = .ok (.aload_n 0, 1) := by decide +kernel
theorem dX3_giveWay_84 : decode cX3_giveWay 84 = .ok (.iload_n 2, 1) := by decide +kernel
theorem dX3_giveWay_85 : decode cX3_giveWay 85 = .ok (.iconst 3, 1) := by decide +kernel
theorem dX3_giveWay_86 : decode cX3_giveWay 86 = .ok (.iconst 0, 1) := by decide +kernel
theorem dX3_giveWay_87 : decode cX3_giveWay 87 = .ok (.invokevirtual 56, 3) := by decide +kernel
theorem dX3_giveWay_90 : decode cX3_giveWay 90 = .ok (.iconst 1, 1) := by decide +kernel
theorem dX3_giveWay_91 : decode cX3_giveWay 91 = .ok (.istore_n 1, 1) := by decide +kernel
theorem dX3_giveWay_92 : decode cX3_giveWay 92 = .ok (.iinc 2 1, 3) := by decide +kernel
theorem dX3_giveWay_95 : decode cX3_giveWay 95 = .ok (.goto (-81), 3) := by decide +kernel
theorem dX3_giveWay_98 : decode cX3_giveWay 98 = .ok (.aload_n 0, 1) := by decide +kernel
theorem dX3_giveWay_99 : decode cX3_giveWay 99 = .ok (.invokevirtual 76, 3) := by decide +kernel
theorem dX3_giveWay_102 : decode cX3_giveWay 102 = .ok (.goto (-100), 3) := by decide +kernel
theorem dX3_giveWay_105 : decode cX3_giveWay 105 = .ok (.aload_n 0, 1) := by decide +kernel
theorem dX3_giveWay_106 : decode cX3_giveWay 106 = .ok (.invokevirtual 73, 3) := by decide +kernel
theorem dX3_giveWay_109 : decode cX3_giveWay 109 = .ok (.return_, 1) := by decide +kernel
theorem dX3_hanging_0 : decode cX3_hanging 0 = .ok (.iconst 0, 1) := by decide +kernel
theorem dX3_hanging_1 : decode cX3_hanging 1 = .ok (.istore_n 1, 1) := by decide +kernel
theorem dX3_hanging_2 : decode cX3_hanging 2 = .ok (.iconst 0, 1) := by decide +kernel
theorem dX3_hanging_3 : decode cX3_hanging 3 = .ok (.istore_n 2, 1) := by decide +kernel
theorem dX3_hanging_4 : decode cX3_hanging 4 = .ok (.iload_n 2, 1) := by decide +kernel
theorem dX3_hanging_5 : decode cX3_hanging 5 = .ok (.aload_n 0, 1) := by decide +kernel
theorem dX3_hanging_6 : decode cX3_hanging 6 = .ok (.getfield 32, 3) := by decide +kernel
theorem dX3_hanging_9 : decode cX3_hanging 9 = .ok (.if_icmp .ge 18, 3) := by decide +kernel
theorem dX3_hanging_12 : decode cX3_hanging 12 = .ok (.iload_n 1, 1) := by decide +kernel
theorem dX3_hanging_13 : decode cX3_hanging 13 = .ok (.aload_n 0, 1) := by decide +kernel
theorem dX3_hanging_14 : decode cX3_hanging 14 = .ok (.iload_n 2, 1) := by decide +kernel
theorem dX3_hanging_15 : decode cX3_hanging 15 = .ok (.iconst 2, 1) := by decide +kernel
theorem dX3_hanging_16 : decode cX3_hanging 16 = .ok (.invokevirtual 39, 3) := by decide +kernel
theorem dX3_hanging_19 : decode cX3_hanging 19 = .ok (.iadd, 1) := by decide +kernel
theorem dX3_hanging_20 : decode cX3_hanging 20 = .ok (.istore_n 1, 1) := by decide +kernel
theorem dX3_hanging_21 : decode cX3_hanging 21 = .ok (.iinc 2 1, 3) := by decide +kernel
theorem dX3_hanging_24 : decode cX3_hanging 24 = .ok (.goto (-20), 3) := by decide +kernel
theorem dX3_hanging_27 : decode cX3_hanging 27 = .ok (.iload_n 1, 1) := by decide +kernel
theorem dX3_hanging_28 : decode cX3_hanging 28 = .ok (.ireturn, 1) := by decide +kernel
theorem dX3_stone_0 : decode cX3_stone 0 = .ok (.bipush 7, 2) := by decide +kernel
theorem dX3_stone_2 : decode cX3_stone 2 = .ok (.newarray .int, 2) := by decide +kernel
theorem dX3_stone_4 : decode cX3_stone 4 = .ok (.dup, 1) := by decide +kernel
theorem dX3_stone_5 : decode cX3_stone 5 = .ok (.iconst 0, 1) := by decide +kernel
theorem dX3_stone_6 : decode cX3_stone 6 = .ok (.iload_n 1, 1) := by decide +kernel
theorem dX3_stone_7 : decode cX3_stone 7 = .ok (.iastore, 1) := by decide +kernel
theorem dX3_stone_8 : decode cX3_stone 8 = .ok (.dup, 1) := by decide +kernel
theorem dX3_stone_9 : decode cX3_stone 9 = .ok (.iconst 1, 1) := by decide +kernel
theorem dX3_stone_10 : decode cX3_stone 10 = .ok (.iload_n 2, 1) := by decide +kernel
theorem dX3_stone_11 : decode cX3_stone 11 = .ok (.iastore, 1) := by decide +kernel
theorem dX3_stone_12 : decode cX3_stone 12 = .ok (.dup, 1) := by decide +kernel
theorem dX3_stone_13 : decode cX3_stone 13 = .ok (.iconst 2, 1) := by decide +kernel
theorem dX3_stone_14 : decode cX3_stone 14 = .ok (.iconst 1, 1) := by decide +kernel
theorem dX3_stone_15 : decode cX3_stone 15 = .ok (.iastore, 1) := by decide +kernel
theorem dX3_stone_16 : decode cX3_stone 16 = .ok (.dup, 1) := by decide +kernel
theorem dX3_stone_17 : decode cX3_stone 17 = .ok (.iconst 3, 1) := by decide +kernel
theorem dX3_stone_18 : decode cX3_stone 18 = .ok (.iload_n 3, 1) := by decide +kernel
theorem dX3_stone_19 : decode cX3_stone 19 = .ok (.iastore, 1) := by decide +kernel
theorem dX3_stone_20 : decode cX3_stone 20 = .ok (.dup, 1) := by decide +kernel
theorem dX3_stone_21 : decode cX3_stone 21 = .ok (.iconst 4, 1) := by decide +kernel
theorem dX3_stone_22 : decode cX3_stone 22 = .ok (.iload 4, 2) := by decide +kernel
theorem dX3_stone_24 : decode cX3_stone 24 = .ok (.iastore, 1) := by decide +kernel
theorem dX3_stone_25 : decode cX3_stone 25 = .ok (.dup, 1) := by decide +kernel
theorem dX3_stone_26 : decode cX3_stone 26 = .ok (.iconst 5, 1) := by decide +kernel
theorem dX3_stone_27 : decode cX3_stone 27 = .ok (.iload 5, 2) := by decide +kernel
theorem dX3_stone_29 : decode cX3_stone 29 = .ok (.iastore, 1) := by decide +kernel
theorem dX3_stone_30 : decode cX3_stone 30 = .ok (.dup, 1) := by decide +kernel
theorem dX3_stone_31 : decode cX3_stone 31 = .ok (.bipush 6, 2) := by decide +kernel
theorem dX3_stone_33 : decode cX3_stone 33 = .ok (.iconst 0, 1) := by decide +kernel
theorem dX3_stone_34 : decode cX3_stone 34 = .ok (.iastore, 1) := by decide +kernel
theorem dX3_stone_35 : decode cX3_stone 35 = .ok (.astore 6, 2) := by decide +kernel
theorem dX3_stone_37 : decode cX3_stone 37 = .ok (.aload 6, 2) := by decide +kernel
theorem dX3_stone_39 : decode cX3_stone 39 = .ok (.iconst 0, 1) := by decide +kernel
theorem dX3_stone_40 : decode cX3_stone 40 = .ok (.aload_n 0, 1) := by decide +kernel
theorem dX3_stone_41 : decode cX3_stone 41 = .ok (.getfield 9, 3) := by decide +kernel
theorem dX3_stone_44 : decode cX3_stone 44 = .ok (.bipush 7, 2) := by decide +kernel
theorem dX3_stone_46 : decode cX3_stone 46 = .ok (.aload_n 0, 1) := by decide +kernel
theorem dX3_stone_47 : decode cX3_stone 47 = .ok (.getfield 32, 3) := by decide +kernel
theorem dX3_stone_50 : decode cX3_stone 50 = .ok (.imul, 1) := by decide +kernel
theorem dX3_stone_51 : decode cX3_stone 51 = .ok (.bipush 7, 2) := by decide +kernel
theorem dX3_stone_53 : decode cX3_stone 53 = .ok (.invokestatic 79, 3) := by decide +kernel
theorem dX3_stone_56 : decode cX3_stone 56 = .ok (.aload_n 0, 1) := by decide +kernel
theorem dX3_stone_57 : decode cX3_stone 57 = .ok (.dup, 1) := by decide +kernel
theorem dX3_stone_58 : decode cX3_stone 58 = .ok (.getfield 32, 3) := by decide +kernel
theorem dX3_stone_61 : decode cX3_stone 61 = .ok (.iconst 1, 1) := by decide +kernel
theorem dX3_stone_62 : decode cX3_stone 62 = .ok (.iadd, 1) := by decide +kernel
theorem dX3_stone_63 : decode cX3_stone 63 = .ok (.putfield 32, 3) := by decide +kernel
theorem dX3_stone_66 : decode cX3_stone 66 = .ok (.aload_n 0, 1) := by decide +kernel
theorem dX3_stone_67 : decode cX3_stone 67 = .ok (.invokevirtual 85, 3) := by decide +kernel
theorem dX3_stone_70 : decode cX3_stone 70 = .ok (.aload_n 0, 1) := by decide +kernel
theorem dX3_stone_71 : decode cX3_stone 71 = .ok (.getfield 32, 3) := by decide +kernel
theorem dX3_stone_74 : decode cX3_stone 74 = .ok (.iconst 1, 1) := by decide +kernel
theorem dX3_stone_75 : decode cX3_stone 75 = .ok (.isub, 1) := by decide +kernel
theorem dX3_stone_76 : decode cX3_stone 76 = .ok (.ireturn, 1) := by decide +kernel
theorem dX3_conjure_0 : decode cX3_conjure 0 = .ok (.aload_n 0, 1) := by decide +kernel
theorem dX3_conjure_1 : decode cX3_conjure 1 = .ok (.iconst 0, 1) := by decide +kernel
theorem dX3_conjure_2 : decode cX3_conjure 2 = .ok (.putfield 28, 3) := by decide +kernel
theorem dX3_conjure_5 : decode cX3_conjure 5 = .ok (.iload_n 1, 1) := by decide +kernel
theorem dX3_conjure_6 : decode cX3_conjure 6 = .ok (.iconst 1, 1) := by decide +kernel
theorem dX3_conjure_7 : decode cX3_conjure 7 = .ok (.bipush 20, 2) := by decide +kernel
theorem dX3_conjure_9 : decode cX3_conjure 9 = .ok (.invokestatic 35, 3) := by decide +kernel
theorem dX3_conjure_12 : decode cX3_conjure 12 = .ok (.ifCond .eq 24, 3) := by decide +kernel
theorem dX3_conjure_15 : decode cX3_conjure 15 = .ok (.iload_n 2, 1) := by decide +kernel
theorem dX3_conjure_16 : decode cX3_conjure 16 = .ok (.iconst 1, 1) := by decide +kernel
theorem dX3_conjure_17 : decode cX3_conjure 17 = .ok (.bipush 60, 2) := by decide +kernel
theorem dX3_conjure_19 : decode cX3_conjure 19 = .ok (.invokestatic 35, 3) := by decide +kernel
theorem dX3_conjure_22 : decode cX3_conjure 22 = .ok (.ifCond .eq 14, 3) := by decide +kernel
theorem dX3_conjure_25 : decode cX3_conjure 25 = .ok (.iload_n 3, 1) := by decide +kernel
theorem dX3_conjure_26 : decode cX3_conjure 26 = .ok (.iconst 1, 1) := by decide +kernel
theorem dX3_conjure_27 : decode cX3_conjure 27 = .ok (.sipush 200, 3) := by decide +kernel
theorem dX3_conjure_30 : decode cX3_conjure 30 = .ok (.invokestatic 35, 3) := by decide +kernel
theorem dX3_conjure_33 : decode cX3_conjure 33 = .ok (.ifCond .ne 9, 3) := by decide +kernel
theorem dX3_conjure_36 : decode cX3_conjure 36 = .ok (.aload_n 0, 1) := by decide +kernel
theorem dX3_conjure_37 : decode cX3_conjure 37 = .ok (.iconst 1, 1) := by decide +kernel
theorem dX3_conjure_38 : decode cX3_conjure 38 = .ok (.invokevirtual 88, 3) := by decide +kernel
theorem dX3_conjure_41 : decode cX3_conjure 41 = .ok (.ireturn, 1) := by decide +kernel
theorem dX3_conjure_42 : decode cX3_conjure 42 = .ok (.aload_n 0, 1) := by decide +kernel
theorem dX3_conjure_43 : decode cX3_conjure 43 = .ok (.getfield 32, 3) := by decide +kernel
theorem dX3_conjure_46 : decode cX3_conjure 46 = .ok (.bipush 40, 2) := by decide +kernel
theorem dX3_conjure_48 : decode cX3_conjure 48 = .ok (.if_icmp .ne 11, 3) := by decide +kernel
theorem dX3_conjure_51 : decode cX3_conjure 51 = .ok (.aload_n 0, 1) := by decide +kernel
theorem dX3_conjure_52 : decode cX3_conjure 52 = .ok (.iconst 2, 1) := by decide +kernel
theorem dX3_conjure_53 : decode cX3_conjure 53 = .ok (.invokevirtual 88, 3) := by decide +kernel
theorem dX3_conjure_56 : decode cX3_conjure 56 = .ok (.goto 12, 3) := by decide +kernel
theorem dX3_conjure_59 : decode cX3_conjure 59 = .ok (.aload_n 0, 1) := by decide +kernel
theorem dX3_conjure_60 : decode cX3_conjure 60 = .ok (.iload_n 1, 1) := by decide +kernel
theorem dX3_conjure_61 : decode cX3_conjure 61 = .ok (.iload_n 2, 1) := by decide +kernel
theorem dX3_conjure_62 : decode cX3_conjure 62 = .ok (.iload_n 3, 1) := by decide +kernel
theorem dX3_conjure_63 : decode cX3_conjure 63 = .ok (.iconst (-1), 1) := by decide +kernel
theorem dX3_conjure_64 : decode cX3_conjure 64 = .ok (.iconst (-1), 1) := by decide +kernel
theorem dX3_conjure_65 : decode cX3_conjure 65 = .ok (.invokevirtual 92, 3) := by decide +kernel
theorem dX3_conjure_68 : decode cX3_conjure 68 = .ok (.ireturn, 1) := by decide +kernel
theorem dX3_hang_0 : decode cX3_hang 0 = .ok (.aload_n 0, 1) := by decide +kernel
theorem dX3_hang_1 : decode cX3_hang 1 = .ok (.iconst 0, 1) := by decide +kernel
theorem dX3_hang_2 : decode cX3_hang 2 = .ok (.putfield 28, 3) := by decide +kernel
theorem dX3_hang_5 : decode cX3_hang 5 = .ok (.iload_n 1, 1) := by decide +kernel
theorem dX3_hang_6 : decode cX3_hang 6 = .ok (.iconst 1, 1) := by decide +kernel
theorem dX3_hang_7 : decode cX3_hang 7 = .ok (.bipush 20, 2) := by decide +kernel
theorem dX3_hang_9 : decode cX3_hang 9 = .ok (.invokestatic 35, 3) := by decide +kernel
theorem dX3_hang_12 : decode cX3_hang 12 = .ok (.ifCond .eq 19, 3) := by decide +kernel
theorem dX3_hang_15 : decode cX3_hang 15 = .ok (.iload_n 2, 1) := by decide +kernel
theorem dX3_hang_16 : decode cX3_hang 16 = .ok (.iconst 1, 1) := by decide +kernel
theorem dX3_hang_17 : decode cX3_hang 17 = .ok (.bipush 60, 2) := by decide +kernel
theorem dX3_hang_19 : decode cX3_hang 19 = .ok (.invokestatic 35, 3) := by decide +kernel
theorem dX3_hang_22 : decode cX3_hang 22 = .ok (.ifCond .eq 9, 3) := by decide +kernel
theorem dX3_hang_25 : decode cX3_hang 25 = .ok (.iload_n 3, 1) := by decide +kernel
theorem dX3_hang_26 : decode cX3_hang 26 = .ok (.iload 4, 2) := by decide +kernel
theorem dX3_hang_28 : decode cX3_hang 28 = .ok (.if_icmp .ne 9, 3) := by decide +kernel
theorem dX3_hang_31 : decode cX3_hang 31 = .ok (.aload_n 0, 1) := by decide +kernel
theorem dX3_hang_32 : decode cX3_hang 32 = .ok (.iconst 1, 1) := by decide +kernel
theorem dX3_hang_33 : decode cX3_hang 33 = .ok (.invokevirtual 88, 3) := by decide +kernel
theorem dX3_hang_36 : decode cX3_hang 36 = .ok (.ireturn, 1) := by decide +kernel
theorem dX3_hang_37 : decode cX3_hang 37 = .ok (.aload_n 0, 1) := by decide +kernel
theorem dX3_hang_38 : decode cX3_hang 38 = .ok (.iload_n 3, 1) := by decide +kernel
theorem dX3_hang_39 : decode cX3_hang 39 = .ok (.invokevirtual 96, 3) := by decide +kernel
theorem dX3_hang_42 : decode cX3_hang 42 = .ok (.ifCond .eq 18, 3) := by decide +kernel
theorem dX3_hang_45 : decode cX3_hang 45 = .ok (.iload 4, 2) := by decide +kernel
theorem dX3_hang_47 : decode cX3_hang 47 = .ok (.iconst (-1), 1) := by decide +kernel
theorem dX3_hang_48 : decode cX3_hang 48 = .ok (.if_icmp .eq 18, 3) := by decide +kernel
theorem dX3_hang_51 : decode cX3_hang 51 = .ok (.aload_n 0, 1) := by decide +kernel
theorem dX3_hang_52 : decode cX3_hang 52 = .ok (.iload 4, 2) := by decide +kernel
theorem dX3_hang_54 : decode cX3_hang 54 = .ok (.invokevirtual 96, 3) := by decide +kernel
theorem dX3_hang_57 : decode cX3_hang 57 = .ok (.ifCond .ne 9, 3) := by decide +kernel
theorem dX3_hang_60 : decode cX3_hang 60 = .ok (.aload_n 0, 1) := by decide +kernel
theorem dX3_hang_61 : decode cX3_hang 61 = .ok (.iconst 2, 1) := by decide +kernel
theorem dX3_hang_62 : decode cX3_hang 62 = .ok (.invokevirtual 88, 3) := by decide +kernel
theorem dX3_hang_65 : decode cX3_hang 65 = .ok (.ireturn, 1) := by decide +kernel
theorem dX3_hang_66 : decode cX3_hang 66 = .ok (.aload_n 0, 1) := by decide +kernel
theorem dX3_hang_67 : decode cX3_hang 67 = .ok (.getfield 32, 3) := by decide +kernel
theorem dX3_hang_70 : decode cX3_hang 70 = .ok (.bipush 40, 2) := by decide +kernel
theorem dX3_hang_72 : decode cX3_hang 72 = .ok (.if_icmp .eq 26, 3) := by decide +kernel
theorem dX3_hang_75 : decode cX3_hang 75 = .ok (.aload_n 0, 1) := by decide +kernel
theorem dX3_hang_76 : decode cX3_hang 76 = .ok (.iload_n 3, 1) := by decide +kernel
theorem dX3_hang_77 : decode cX3_hang 77 = .ok (.invokevirtual 43, 3) := by decide +kernel
theorem dX3_hang_80 : decode cX3_hang 80 = .ok (.ifCond .eq 18, 3) := by decide +kernel
theorem dX3_hang_83 : decode cX3_hang 83 = .ok (.iload 4, 2) := by decide +kernel
theorem dX3_hang_85 : decode cX3_hang 85 = .ok (.iconst (-1), 1) := by decide +kernel
theorem dX3_hang_86 : decode cX3_hang 86 = .ok (.if_icmp .eq 18, 3) := by decide +kernel
theorem dX3_hang_89 : decode cX3_hang 89 = .ok (.aload_n 0, 1) := by decide +kernel
theorem dX3_hang_90 : decode cX3_hang 90 = .ok (.iload 4, 2) := by decide +kernel
theorem dX3_hang_92 : decode cX3_hang 92 = .ok (.invokevirtual 43, 3) := by decide +kernel
theorem dX3_hang_95 : decode cX3_hang 95 = .ok (.ifCond .ne 9, 3) := by decide +kernel
theorem dX3_hang_98 : decode cX3_hang 98 = .ok (.aload_n 0, 1) := by decide +kernel
theorem dX3_hang_99 : decode cX3_hang 99 = .ok (.iconst 3, 1) := by decide +kernel
theorem dX3_hang_100 : decode cX3_hang 100 = .ok (.invokevirtual 88, 3) := by decide +kernel
theorem dX3_hang_103 : decode cX3_hang 103 = .ok (.ireturn, 1) := by decide +kernel
theorem dX3_hang_104 : decode cX3_hang 104 = .ok (.aload_n 0, 1) := by decide +kernel
theorem dX3_hang_105 : decode cX3_hang 105 = .ok (.iload_n 1, 1) := by decide +kernel
theorem dX3_hang_106 : decode cX3_hang 106 = .ok (.iload_n 2, 1) := by decide +kernel
theorem dX3_hang_107 : decode cX3_hang 107 = .ok (.iconst 0, 1) := by decide +kernel
theorem dX3_hang_108 : decode cX3_hang 108 = .ok (.iload_n 3, 1) := by decide +kernel
theorem dX3_hang_109 : decode cX3_hang 109 = .ok (.iload 4, 2) := by decide +kernel
theorem dX3_hang_111 : decode cX3_hang 111 = .ok (.invokevirtual 92, 3) := by decide +kernel
theorem dX3_hang_114 : decode cX3_hang 114 = .ok (.ireturn, 1) := by decide +kernel
theorem dX3_prop_0 : decode cX3_prop 0 = .ok (.aload_n 0, 1) := by decide +kernel
theorem dX3_prop_1 : decode cX3_prop 1 = .ok (.iconst 0, 1) := by decide +kernel
theorem dX3_prop_2 : decode cX3_prop 2 = .ok (.putfield 28, 3) := by decide +kernel
theorem dX3_prop_5 : decode cX3_prop 5 = .ok (.aload_n 0, 1) := by decide +kernel
theorem dX3_prop_6 : decode cX3_prop 6 = .ok (.iload_n 1, 1) := by decide +kernel
theorem dX3_prop_7 : decode cX3_prop 7 = .ok (.invokevirtual 96, 3) := by decide +kernel
theorem dX3_prop_10 : decode cX3_prop 10 = .ok (.ifCond .ne 9, 3) := by decide +kernel
theorem dX3_prop_13 : decode cX3_prop 13 = .ok (.aload_n 0, 1) := by decide +kernel
theorem dX3_prop_14 : decode cX3_prop 14 = .ok (.iconst 1, 1) := by decide +kernel
theorem dX3_prop_15 : decode cX3_prop 15 = .ok (.invokevirtual 88, 3) := by decide +kernel
theorem dX3_prop_18 : decode cX3_prop 18 = .ok (.ireturn, 1) := by decide +kernel
theorem dX3_prop_19 : decode cX3_prop 19 = .ok (.iload_n 2, 1) := by decide +kernel
theorem dX3_prop_20 : decode cX3_prop 20 = .ok (.iconst 0, 1) := by decide +kernel
theorem dX3_prop_21 : decode cX3_prop 21 = .ok (.bipush 60, 2) := by decide +kernel
theorem dX3_prop_23 : decode cX3_prop 23 = .ok (.invokestatic 35, 3) := by decide +kernel
theorem dX3_prop_26 : decode cX3_prop 26 = .ok (.ifCond .ne 9, 3) := by decide +kernel
theorem dX3_prop_29 : decode cX3_prop 29 = .ok (.aload_n 0, 1) := by decide +kernel
theorem dX3_prop_30 : decode cX3_prop 30 = .ok (.iconst 2, 1) := by decide +kernel
theorem dX3_prop_31 : decode cX3_prop 31 = .ok (.invokevirtual 88, 3) := by decide +kernel
theorem dX3_prop_34 : decode cX3_prop 34 = .ok (.ireturn, 1) := by decide +kernel
theorem dX3_prop_35 : decode cX3_prop 35 = .ok (.aload_n 0, 1) := by decide +kernel
theorem dX3_prop_36 : decode cX3_prop 36 = .ok (.iload_n 1, 1) := by decide +kernel
theorem dX3_prop_37 : decode cX3_prop 37 = .ok (.invokevirtual 43, 3) := by decide +kernel
theorem dX3_prop_40 : decode cX3_prop 40 = .ok (.ifCond .ne 9, 3) := by decide +kernel
theorem dX3_prop_43 : decode cX3_prop 43 = .ok (.aload_n 0, 1) := by decide +kernel
theorem dX3_prop_44 : decode cX3_prop 44 = .ok (.iconst 3, 1) := by decide +kernel
theorem dX3_prop_45 : decode cX3_prop 45 = .ok (.invokevirtual 88, 3) := by decide +kernel
theorem dX3_prop_48 : decode cX3_prop 48 = .ok (.ireturn, 1) := by decide +kernel
theorem dX3_prop_49 : decode cX3_prop 49 = .ok (.aload_n 0, 1) := by decide +kernel
theorem dX3_prop_50 : decode cX3_prop 50 = .ok (.invokevirtual 99, 3) := by decide +kernel
theorem dX3_prop_53 : decode cX3_prop 53 = .ok (.istore_n 3, 1) := by decide +kernel
theorem dX3_prop_54 : decode cX3_prop 54 = .ok (.aload_n 0, 1) := by decide +kernel
theorem dX3_prop_55 : decode cX3_prop 55 = .ok (.iload_n 1, 1) := by decide +kernel
theorem dX3_prop_56 : decode cX3_prop 56 = .ok (.bipush 6, 2) := by decide +kernel
theorem dX3_prop_58 : decode cX3_prop 58 = .ok (.iload_n 2, 1) := by decide +kernel
theorem dX3_prop_59 : decode cX3_prop 59 = .ok (.invokevirtual 56, 3) := by decide +kernel
theorem dX3_prop_62 : decode cX3_prop 62 = .ok (.aload_n 0, 1) := by decide +kernel
theorem dX3_prop_63 : decode cX3_prop 63 = .ok (.invokevirtual 85, 3) := by decide +kernel
theorem dX3_prop_66 : decode cX3_prop 66 = .ok (.iload_n 3, 1) := by decide +kernel
theorem dX3_prop_67 : decode cX3_prop 67 = .ok (.aload_n 0, 1) := by decide +kernel
theorem dX3_prop_68 : decode cX3_prop 68 = .ok (.invokevirtual 99, 3) := by decide +kernel
theorem dX3_prop_71 : decode cX3_prop 71 = .ok (.isub, 1) := by decide +kernel
theorem dX3_prop_72 : decode cX3_prop 72 = .ok (.ireturn, 1) := by decide +kernel
theorem dX3_renew_0 : decode cX3_renew 0 = .ok (.aload_n 0, 1) := by decide +kernel
theorem dX3_renew_1 : decode cX3_renew 1 = .ok (.iconst 0, 1) := by decide +kernel
theorem dX3_renew_2 : decode cX3_renew 2 = .ok (.putfield 28, 3) := by decide +kernel
theorem dX3_renew_5 : decode cX3_renew 5 = .ok (.aload_n 0, 1) := by decide +kernel
theorem dX3_renew_6 : decode cX3_renew 6 = .ok (.iload_n 1, 1) := by decide +kernel
theorem dX3_renew_7 : decode cX3_renew 7 = .ok (.invokevirtual 96, 3) := by decide +kernel
theorem dX3_renew_10 : decode cX3_renew 10 = .ok (.ifCond .ne 9, 3) := by decide +kernel
theorem dX3_renew_13 : decode cX3_renew 13 = .ok (.aload_n 0, 1) := by decide +kernel
theorem dX3_renew_14 : decode cX3_renew 14 = .ok (.iconst 1, 1) := by decide +kernel
theorem dX3_renew_15 : decode cX3_renew 15 = .ok (.invokevirtual 88, 3) := by decide +kernel
theorem dX3_renew_18 : decode cX3_renew 18 = .ok (.ireturn, 1) := by decide +kernel
theorem dX3_renew_19 : decode cX3_renew 19 = .ok (.iload_n 2, 1) := by decide +kernel
theorem dX3_renew_20 : decode cX3_renew 20 = .ok (.iconst 1, 1) := by decide +kernel
theorem dX3_renew_21 : decode cX3_renew 21 = .ok (.sipush 200, 3) := by decide +kernel
theorem dX3_renew_24 : decode cX3_renew 24 = .ok (.invokestatic 35, 3) := by decide +kernel
theorem dX3_renew_27 : decode cX3_renew 27 = .ok (.ifCond .ne 9, 3) := by decide +kernel
theorem dX3_renew_30 : decode cX3_renew 30 = .ok (.aload_n 0, 1) := by decide +kernel
theorem dX3_renew_31 : decode cX3_renew 31 = .ok (.iconst 2, 1) := by decide +kernel
theorem dX3_renew_32 : decode cX3_renew 32 = .ok (.invokevirtual 88, 3) := by decide +kernel
theorem dX3_renew_35 : decode cX3_renew 35 = .ok (.ireturn, 1) := by decide +kernel
theorem dX3_renew_36 : decode cX3_renew 36 = .ok (.aload_n 0, 1) := by decide +kernel
theorem dX3_renew_37 : decode cX3_renew 37 = .ok (.iload_n 1, 1) := by decide +kernel
theorem dX3_renew_38 : decode cX3_renew 38 = .ok (.iconst 3, 1) := by decide +kernel
theorem dX3_renew_39 : decode cX3_renew 39 = .ok (.invokevirtual 39, 3) := by decide +kernel
theorem dX3_renew_42 : decode cX3_renew 42 = .ok (.istore_n 3, 1) := by decide +kernel
theorem dX3_renew_43 : decode cX3_renew 43 = .ok (.aload_n 0, 1) := by decide +kernel
theorem dX3_renew_44 : decode cX3_renew 44 = .ok (.invokevirtual 73, 3) := by decide +kernel
theorem dX3_renew_47 : decode cX3_renew 47 = .ok (.iload_n 3, 1) := by decide +kernel
theorem dX3_renew_48 : decode cX3_renew 48 = .ok (.ifCond .eq 13, 3) := by decide +kernel
theorem dX3_renew_51 : decode cX3_renew 51 = .ok (.iload_n 2, 1) := by decide +kernel
theorem dX3_renew_52 : decode cX3_renew 52 = .ok (.aload_n 0, 1) := by decide +kernel
theorem dX3_renew_53 : decode cX3_renew 53 = .ok (.getfield 19, 3) := by decide +kernel
theorem dX3_renew_56 : decode cX3_renew 56 = .ok (.iload_n 1, 1) := by decide +kernel
theorem dX3_renew_57 : decode cX3_renew 57 = .ok (.iaload, 1) := by decide +kernel
theorem dX3_renew_58 : decode cX3_renew 58 = .ok (.if_icmp .ge 9, 3) := by decide +kernel
theorem dX3_renew_61 : decode cX3_renew 61 = .ok (.aload_n 0, 1) := by decide +kernel
theorem dX3_renew_62 : decode cX3_renew 62 = .ok (.iconst 3, 1) := by decide +kernel
theorem dX3_renew_63 : decode cX3_renew 63 = .ok (.invokevirtual 88, 3) := by decide +kernel
theorem dX3_renew_66 : decode cX3_renew 66 = .ok (.ireturn, 1) := by decide +kernel
theorem dX3_renew_67 : decode cX3_renew 67 = .ok (.aload_n 0, 1) := by decide +kernel
theorem dX3_renew_68 : decode cX3_renew 68 = .ok (.iload_n 1, 1) := by decide +kernel
theorem dX3_renew_69 : decode cX3_renew 69 = .ok (.iconst 3, 1) := by decide +kernel
theorem dX3_renew_70 : decode cX3_renew 70 = .ok (.iload_n 2, 1) := by decide +kernel
theorem dX3_renew_71 : decode cX3_renew 71 = .ok (.invokevirtual 56, 3) := by decide +kernel
theorem dX3_renew_74 : decode cX3_renew 74 = .ok (.iload_n 3, 1) := by decide +kernel
theorem dX3_renew_75 : decode cX3_renew 75 = .ok (.ireturn, 1) := by decide +kernel
theorem dX3_stair_0 : decode cX3_stair 0 = .ok (.aload_n 0, 1) := by decide +kernel
theorem dX3_stair_1 : decode cX3_stair 1 = .ok (.iconst 0, 1) := by decide +kernel
theorem dX3_stair_2 : decode cX3_stair 2 = .ok (.putfield 28, 3) := by decide +kernel
theorem dX3_stair_5 : decode cX3_stair 5 = .ok (.aload_n 0, 1) := by decide +kernel
theorem dX3_stair_6 : decode cX3_stair 6 = .ok (.iload_n 1, 1) := by decide +kernel
theorem dX3_stair_7 : decode cX3_stair 7 = .ok (.invokevirtual 96, 3) := by decide +kernel
theorem dX3_stair_10 : decode cX3_stair 10 = .ok (.ifCond .eq 11, 3) := by decide +kernel
theorem dX3_stair_13 : decode cX3_stair 13 = .ok (.aload_n 0, 1) := by decide +kernel
theorem dX3_stair_14 : decode cX3_stair 14 = .ok (.iload_n 2, 1) := by decide +kernel
theorem dX3_stair_15 : decode cX3_stair 15 = .ok (.invokevirtual 96, 3) := by decide +kernel
theorem dX3_stair_18 : decode cX3_stair 18 = .ok (.ifCond .ne 9, 3) := by decide +kernel
theorem dX3_stair_21 : decode cX3_stair 21 = .ok (.aload_n 0, 1) := by decide +kernel
theorem dX3_stair_22 : decode cX3_stair 22 = .ok (.iconst 1, 1) := by decide +kernel
theorem dX3_stair_23 : decode cX3_stair 23 = .ok (.invokevirtual 88, 3) := by decide +kernel
theorem dX3_stair_26 : decode cX3_stair 26 = .ok (.ireturn, 1) := by decide +kernel
theorem dX3_stair_27 : decode cX3_stair 27 = .ok (.iload_n 1, 1) := by decide +kernel
theorem dX3_stair_28 : decode cX3_stair 28 = .ok (.iload_n 2, 1) := by decide +kernel
theorem dX3_stair_29 : decode cX3_stair 29 = .ok (.if_icmp .ne 9, 3) := by decide +kernel
theorem dX3_stair_32 : decode cX3_stair 32 = .ok (.aload_n 0, 1) := by decide +kernel
theorem dX3_stair_33 : decode cX3_stair 33 = .ok (.iconst 2, 1) := by decide +kernel
theorem dX3_stair_34 : decode cX3_stair 34 = .ok (.invokevirtual 88, 3) := by decide +kernel
theorem dX3_stair_37 : decode cX3_stair 37 = .ok (.ireturn, 1) := by decide +kernel
theorem dX3_stair_38 : decode cX3_stair 38 = .ok (.aload_n 0, 1) := by decide +kernel
theorem dX3_stair_39 : decode cX3_stair 39 = .ok (.getfield 63, 3) := by decide +kernel
theorem dX3_stair_42 : decode cX3_stair 42 = .ok (.bipush 30, 2) := by decide +kernel
theorem dX3_stair_44 : decode cX3_stair 44 = .ok (.if_icmp .eq 19, 3) := by decide +kernel
theorem dX3_stair_47 : decode cX3_stair 47 = .ok (.aload_n 0, 1) := by decide +kernel
theorem dX3_stair_48 : decode cX3_stair 48 = .ok (.iload_n 1, 1) := by decide +kernel
theorem dX3_stair_49 : decode cX3_stair 49 = .ok (.invokevirtual 43, 3) := by decide +kernel
theorem dX3_stair_52 : decode cX3_stair 52 = .ok (.ifCond .eq 11, 3) := by decide +kernel
theorem dX3_stair_55 : decode cX3_stair 55 = .ok (.aload_n 0, 1) := by decide +kernel
theorem dX3_stair_56 : decode cX3_stair 56 = .ok (.iload_n 2, 1) := by decide +kernel
theorem dX3_stair_57 : decode cX3_stair 57 = .ok (.invokevirtual 43, 3) := by decide +kernel
theorem dX3_stair_60 : decode cX3_stair 60 = .ok (.ifCond .ne 9, 3) := by decide +kernel
theorem dX3_stair_63 : decode cX3_stair 63 = .ok (.aload_n 0, 1) := by decide +kernel
theorem dX3_stair_64 : decode cX3_stair 64 = .ok (.iconst 3, 1) := by decide +kernel
theorem dX3_stair_65 : decode cX3_stair 65 = .ok (.invokevirtual 88, 3) := by decide +kernel
theorem dX3_stair_68 : decode cX3_stair 68 = .ok (.ireturn, 1) := by decide +kernel
theorem dX3_stair_69 : decode cX3_stair 69 = .ok (.iconst 3, 1) := by decide +kernel
theorem dX3_stair_70 : decode cX3_stair 70 = .ok (.newarray .int, 2) := by decide +kernel
theorem dX3_stair_72 : decode cX3_stair 72 = .ok (.dup, 1) := by decide +kernel
theorem dX3_stair_73 : decode cX3_stair 73 = .ok (.iconst 0, 1) := by decide +kernel
theorem dX3_stair_74 : decode cX3_stair 74 = .ok (.iload_n 1, 1) := by decide +kernel
theorem dX3_stair_75 : decode cX3_stair 75 = .ok (.iastore, 1) := by decide +kernel
theorem dX3_stair_76 : decode cX3_stair 76 = .ok (.dup, 1) := by decide +kernel
theorem dX3_stair_77 : decode cX3_stair 77 = .ok (.iconst 1, 1) := by decide +kernel
theorem dX3_stair_78 : decode cX3_stair 78 = .ok (.iload_n 2, 1) := by decide +kernel
theorem dX3_stair_79 : decode cX3_stair 79 = .ok (.iastore, 1) := by decide +kernel
theorem dX3_stair_80 : decode cX3_stair 80 = .ok (.dup, 1) := by decide +kernel
theorem dX3_stair_81 : decode cX3_stair 81 = .ok (.iconst 2, 1) := by decide +kernel
theorem dX3_stair_82 : decode cX3_stair 82 = .ok (.iconst 0, 1) := by decide +kernel
theorem dX3_stair_83 : decode cX3_stair 83 = .ok (.iastore, 1) := by decide +kernel
theorem dX3_stair_84 : decode cX3_stair 84 = .ok (.astore_n 3, 1) := by decide +kernel
theorem dX3_stair_85 : decode cX3_stair 85 = .ok (.aload_n 3, 1) := by decide +kernel
theorem dX3_stair_86 : decode cX3_stair 86 = .ok (.iconst 0, 1) := by decide +kernel
theorem dX3_stair_87 : decode cX3_stair 87 = .ok (.aload_n 0, 1) := by decide +kernel
theorem dX3_stair_88 : decode cX3_stair 88 = .ok (.getfield 13, 3) := by decide +kernel
theorem dX3_stair_91 : decode cX3_stair 91 = .ok (.iconst 3, 1) := by decide +kernel
theorem dX3_stair_92 : decode cX3_stair 92 = .ok (.aload_n 0, 1) := by decide +kernel
theorem dX3_stair_93 : decode cX3_stair 93 = .ok (.getfield 63, 3) := by decide +kernel
theorem dX3_stair_96 : decode cX3_stair 96 = .ok (.imul, 1) := by decide +kernel
theorem dX3_stair_97 : decode cX3_stair 97 = .ok (.iconst 3, 1) := by decide +kernel
theorem dX3_stair_98 : decode cX3_stair 98 = .ok (.invokestatic 79, 3) := by decide +kernel
theorem dX3_stair_101 : decode cX3_stair 101 = .ok (.aload_n 0, 1) := by decide +kernel
theorem dX3_stair_102 : decode cX3_stair 102 = .ok (.dup, 1) := by decide +kernel
theorem dX3_stair_103 : decode cX3_stair 103 = .ok (.getfield 63, 3) := by decide +kernel
theorem dX3_stair_106 : decode cX3_stair 106 = .ok (.iconst 1, 1) := by decide +kernel
theorem dX3_stair_107 : decode cX3_stair 107 = .ok (.iadd, 1) := by decide +kernel
theorem dX3_stair_108 : decode cX3_stair 108 = .ok (.putfield 63, 3) := by decide +kernel
theorem dX3_stair_111 : decode cX3_stair 111 = .ok (.aload_n 0, 1) := by decide +kernel
theorem dX3_stair_112 : decode cX3_stair 112 = .ok (.getfield 63, 3) := by decide +kernel
theorem dX3_stair_115 : decode cX3_stair 115 = .ok (.iconst 1, 1) := by decide +kernel
theorem dX3_stair_116 : decode cX3_stair 116 = .ok (.isub, 1) := by decide +kernel
theorem dX3_stair_117 : decode cX3_stair 117 = .ok (.ireturn, 1) := by decide +kernel
theorem dX3_isStair_0 : decode cX3_isStair 0 = .ok (.iload_n 1, 1) := by decide +kernel
theorem dX3_isStair_1 : decode cX3_isStair 1 = .ok (.iconst 0, 1) := by decide +kernel
theorem dX3_isStair_2 : decode cX3_isStair 2 = .ok (.aload_n 0, 1) := by decide +kernel
theorem dX3_isStair_3 : decode cX3_isStair 3 = .ok (.getfield 63, 3) := by decide +kernel
theorem dX3_isStair_6 : decode cX3_isStair 6 = .ok (.iconst 1, 1) := by decide +kernel
theorem dX3_isStair_7 : decode cX3_isStair 7 = .ok (.isub, 1) := by decide +kernel
theorem dX3_isStair_8 : decode cX3_isStair 8 = .ok (.invokestatic 35, 3) := by decide +kernel
theorem dX3_isStair_11 : decode cX3_isStair 11 = .ok (.ireturn, 1) := by decide +kernel
theorem dX3_swap_0 : decode cX3_swap 0 = .ok (.aload_n 0, 1) := by decide +kernel
theorem dX3_swap_1 : decode cX3_swap 1 = .ok (.aload_n 0, 1) := by decide +kernel
theorem dX3_swap_2 : decode cX3_swap 2 = .ok (.iload_n 1, 1) := by decide +kernel
theorem dX3_swap_3 : decode cX3_swap 3 = .ok (.invokevirtual 103, 3) := by decide +kernel
theorem dX3_swap_6 : decode cX3_swap 6 = .ok (.ifCond .eq 11, 3) := by decide +kernel
theorem dX3_swap_9 : decode cX3_swap 9 = .ok (.aload_n 0, 1) := by decide +kernel
theorem dX3_swap_10 : decode cX3_swap 10 = .ok (.iload_n 2, 1) := by decide +kernel
theorem dX3_swap_11 : decode cX3_swap 11 = .ok (.invokevirtual 103, 3) := by decide +kernel
theorem dX3_swap_14 : decode cX3_swap 14 = .ok (.ifCond .ne 7, 3) := by decide +kernel
theorem dX3_swap_17 : decode cX3_swap 17 = .ok (.iconst 1, 1) := by decide +kernel
theorem dX3_swap_18 : decode cX3_swap 18 = .ok (.goto 33, 3) := by decide +kernel
theorem dX3_swap_21 : decode cX3_swap 21 = .ok (.iload_n 1, 1) := by decide +kernel
theorem dX3_swap_22 : decode cX3_swap 22 = .ok (.iload_n 2, 1) := by decide +kernel
theorem dX3_swap_23 : decode cX3_swap 23 = .ok (.if_icmp .ne 7, 3) := by decide +kernel
theorem dX3_swap_26 : decode cX3_swap 26 = .ok (.iconst 2, 1) := by decide +kernel
theorem dX3_swap_27 : decode cX3_swap 27 = .ok (.goto 24, 3) := by decide +kernel
theorem dX3_swap_30 : decode cX3_swap 30 = .ok (.aload_n 0, 1) := by decide +kernel
theorem dX3_swap_31 : decode cX3_swap 31 = .ok (.iload_n 1, 1) := by decide +kernel
theorem dX3_swap_32 : decode cX3_swap 32 = .ok (.iconst 2, 1) := by decide +kernel
theorem dX3_swap_33 : decode cX3_swap 33 = .ok (.invokevirtual 66, 3) := by decide +kernel
theorem dX3_swap_36 : decode cX3_swap 36 = .ok (.aload_n 0, 1) := by decide +kernel
theorem dX3_swap_37 : decode cX3_swap 37 = .ok (.iload_n 2, 1) := by decide +kernel
theorem dX3_swap_38 : decode cX3_swap 38 = .ok (.iconst 2, 1) := by decide +kernel
theorem dX3_swap_39 : decode cX3_swap 39 = .ok (.invokevirtual 66, 3) := by decide +kernel
theorem dX3_swap_42 : decode cX3_swap 42 = .ok (.iadd, 1) := by decide +kernel
theorem dX3_swap_43 : decode cX3_swap 43 = .ok (.ifCond .le 7, 3) := by decide +kernel
theorem dX3_swap_46 : decode cX3_swap 46 = .ok (.iconst 3, 1) := by decide +kernel
theorem dX3_swap_47 : decode cX3_swap 47 = .ok (.goto 4, 3) := by decide +kernel
theorem dX3_swap_50 : decode cX3_swap 50 = .ok (.iconst 0, 1) := by decide +kernel
theorem dX3_swap_51 : decode cX3_swap 51 = .ok (.putfield 28, 3) := by decide +kernel
theorem dX3_swap_54 : decode cX3_swap 54 = .ok (.aload_n 0, 1) := by decide +kernel
theorem dX3_swap_55 : decode cX3_swap 55 = .ok (.getfield 28, 3) := by decide +kernel
theorem dX3_swap_58 : decode cX3_swap 58 = .ok (.ifCond .ne 33, 3) := by decide +kernel
theorem dX3_swap_61 : decode cX3_swap 61 = .ok (.aload_n 0, 1) := by decide +kernel
theorem dX3_swap_62 : decode cX3_swap 62 = .ok (.iload_n 1, 1) := by decide +kernel
theorem dX3_swap_63 : decode cX3_swap 63 = .ok (.iconst 0, 1) := by decide +kernel
theorem dX3_swap_64 : decode cX3_swap 64 = .ok (.invokevirtual 66, 3) := by decide +kernel
theorem dX3_swap_67 : decode cX3_swap 67 = .ok (.aload_n 0, 1) := by decide +kernel
theorem dX3_swap_68 : decode cX3_swap 68 = .ok (.iload_n 2, 1) := by decide +kernel
theorem dX3_swap_69 : decode cX3_swap 69 = .ok (.iconst 1, 1) := by decide +kernel
theorem dX3_swap_70 : decode cX3_swap 70 = .ok (.invokevirtual 66, 3) := by decide +kernel
theorem dX3_swap_73 : decode cX3_swap 73 = .ok (.if_icmp .eq 18, 3) := by decide +kernel
theorem dX3_swap_76 : decode cX3_swap 76 = .ok (.aload_n 0, 1) := by decide +kernel
theorem dX3_swap_77 : decode cX3_swap 77 = .ok (.iload_n 2, 1) := by decide +kernel
theorem dX3_swap_78 : decode cX3_swap 78 = .ok (.iconst 0, 1) := by decide +kernel
theorem dX3_swap_79 : decode cX3_swap 79 = .ok (.invokevirtual 66, 3) := by decide +kernel
theorem dX3_swap_82 : decode cX3_swap 82 = .ok (.aload_n 0, 1) := by decide +kernel
theorem dX3_swap_83 : decode cX3_swap 83 = .ok (.iload_n 1, 1) := by decide +kernel
theorem dX3_swap_84 : decode cX3_swap 84 = .ok (.iconst 1, 1) := by decide +kernel
theorem dX3_swap_85 : decode cX3_swap 85 = .ok (.invokevirtual 66, 3) := by decide +kernel
theorem dX3_swap_88 : decode cX3_swap 88 = .ok (.if_icmp .ne 5, 3) := by decide +kernel
theorem dX3_swap_91 : decode cX3_swap 91 = .ok (.iconst 0, 1) := by decide +kernel
theorem dX3_swap_92 : decode cX3_swap 92 = .ok (.ireturn, 1) := by decide +kernel
theorem dX3_swap_93 : decode cX3_swap 93 = .ok (.aload_n 0, 1) := by decide +kernel
theorem dX3_swap_94 : decode cX3_swap 94 = .ok (.iload_n 1, 1) := by decide +kernel
theorem dX3_swap_95 : decode cX3_swap 95 = .ok (.iconst 1, 1) := by decide +kernel
theorem dX3_swap_96 : decode cX3_swap 96 = .ok (.invokevirtual 66, 3) := by decide +kernel
theorem dX3_swap_99 : decode cX3_swap 99 = .ok (.istore_n 3, 1) := by decide +kernel
theorem dX3_swap_100 : decode cX3_swap 100 = .ok (.aload_n 0, 1) := by decide +kernel
theorem dX3_swap_101 : decode cX3_swap 101 = .ok (.getfield 13, 3) := by decide +kernel
theorem dX3_swap_104 : decode cX3_swap 104 = .ok (.iconst 3, 1) := by decide +kernel
theorem dX3_swap_105 : decode cX3_swap 105 = .ok (.iload_n 1, 1) := by decide +kernel
theorem dX3_swap_106 : decode cX3_swap 106 = .ok (.imul, 1) := by decide +kernel
theorem dX3_swap_107 : decode cX3_swap 107 = .ok (.iconst 1, 1) := by decide +kernel
theorem dX3_swap_108 : decode cX3_swap 108 = .ok (.iadd, 1) := by decide +kernel
theorem dX3_swap_109 : decode cX3_swap 109 = .ok (.aload_n 0, 1) := by decide +kernel
theorem dX3_swap_110 : decode cX3_swap 110 = .ok (.iload_n 2, 1) := by decide +kernel
theorem dX3_swap_111 : decode cX3_swap 111 = .ok (.iconst 1, 1) := by decide +kernel
theorem dX3_swap_112 : decode cX3_swap 112 = .ok (.invokevirtual 66, 3) := by decide +kernel
theorem dX3_swap_115 : decode cX3_swap 115 = .ok (.iastore, 1) := by decide +kernel
theorem dX3_swap_116 : decode cX3_swap 116 = .ok (.aload_n 0, 1) := by decide +kernel
theorem dX3_swap_117 : decode cX3_swap 117 = .ok (.getfield 13, 3) := by decide +kernel
theorem dX3_swap_120 : decode cX3_swap 120 = .ok (.iconst 3, 1) := by decide +kernel
theorem dX3_swap_121 : decode cX3_swap 121 = .ok (.iload_n 2, 1) := by decide +kernel
theorem dX3_swap_122 : decode cX3_swap 122 = .ok (.imul, 1) := by decide +kernel
theorem dX3_swap_123 : decode cX3_swap 123 = .ok (.iconst 1, 1) := by decide +kernel
theorem dX3_swap_124 : decode cX3_swap 124 = .ok (.iadd, 1) := by decide +kernel
theorem dX3_swap_125 : decode cX3_swap 125 = .ok (.iload_n 3, 1) := by decide +kernel
theorem dX3_swap_126 : decode cX3_swap 126 = .ok (.iastore, 1) := by decide +kernel
theorem dX3_swap_127 : decode cX3_swap 127 = .ok (.iconst 1, 1) := by decide +kernel
theorem dX3_swap_128 : decode cX3_swap 128 = .ok (.ireturn, 1) := by decide +kernel
theorem dX3_joins_0 : decode cX3_joins 0 = .ok (.aload_n 0, 1) := by decide +kernel
theorem dX3_joins_1 : decode cX3_joins 1 = .ok (.iconst 0, 1) := by decide +kernel
theorem dX3_joins_2 : decode cX3_joins 2 = .ok (.putfield 28, 3) := by decide +kernel
theorem dX3_joins_5 : decode cX3_joins 5 = .ok (.aload_n 0, 1) := by decide +kernel
theorem dX3_joins_6 : decode cX3_joins 6 = .ok (.iload_n 1, 1) := by decide +kernel
theorem dX3_joins_7 : decode cX3_joins 7 = .ok (.invokevirtual 103, 3) := by decide +kernel
theorem dX3_joins_10 : decode cX3_joins 10 = .ok (.ifCond .eq 21, 3) := by decide +kernel
theorem dX3_joins_13 : decode cX3_joins 13 = .ok (.iload_n 2, 1) := by decide +kernel
theorem dX3_joins_14 : decode cX3_joins 14 = .ok (.iconst 0, 1) := by decide +kernel
theorem dX3_joins_15 : decode cX3_joins 15 = .ok (.iconst 2, 1) := by decide +kernel
theorem dX3_joins_16 : decode cX3_joins 16 = .ok (.invokestatic 35, 3) := by decide +kernel
theorem dX3_joins_19 : decode cX3_joins 19 = .ok (.ifCond .eq 12, 3) := by decide +kernel
theorem dX3_joins_22 : decode cX3_joins 22 = .ok (.aload_n 0, 1) := by decide +kernel
theorem dX3_joins_23 : decode cX3_joins 23 = .ok (.iload_n 1, 1) := by decide +kernel
theorem dX3_joins_24 : decode cX3_joins 24 = .ok (.iload_n 2, 1) := by decide +kernel
theorem dX3_joins_25 : decode cX3_joins 25 = .ok (.invokevirtual 66, 3) := by decide +kernel
theorem dX3_joins_28 : decode cX3_joins 28 = .ok (.goto 8, 3) := by decide +kernel
theorem dX3_joins_31 : decode cX3_joins 31 = .ok (.aload_n 0, 1) := by decide +kernel
theorem dX3_joins_32 : decode cX3_joins 32 = .ok (.iconst 1, 1) := by decide +kernel
theorem dX3_joins_33 : decode cX3_joins 33 = .ok (.invokevirtual 88, 3) := by decide +kernel
theorem dX3_joins_36 : decode cX3_joins 36 = .ok (.ireturn, 1) := by decide +kernel
theorem dX3_steps_0 : decode cX3_steps 0 = .ok (.aload_n 0, 1) := by decide +kernel
theorem dX3_steps_1 : decode cX3_steps 1 = .ok (.iconst 0, 1) := by decide +kernel
theorem dX3_steps_2 : decode cX3_steps 2 = .ok (.putfield 28, 3) := by decide +kernel
theorem dX3_steps_5 : decode cX3_steps 5 = .ok (.aload_n 0, 1) := by decide +kernel
theorem dX3_steps_6 : decode cX3_steps 6 = .ok (.iload_n 1, 1) := by decide +kernel
theorem dX3_steps_7 : decode cX3_steps 7 = .ok (.invokevirtual 96, 3) := by decide +kernel
theorem dX3_steps_10 : decode cX3_steps 10 = .ok (.ifCond .eq 11, 3) := by decide +kernel
theorem dX3_steps_13 : decode cX3_steps 13 = .ok (.aload_n 0, 1) := by decide +kernel
theorem dX3_steps_14 : decode cX3_steps 14 = .ok (.iload_n 2, 1) := by decide +kernel
theorem dX3_steps_15 : decode cX3_steps 15 = .ok (.invokevirtual 96, 3) := by decide +kernel
theorem dX3_steps_18 : decode cX3_steps 18 = .ok (.ifCond .ne 9, 3) := by decide +kernel
theorem dX3_steps_21 : decode cX3_steps 21 = .ok (.aload_n 0, 1) := by decide +kernel
theorem dX3_steps_22 : decode cX3_steps 22 = .ok (.iconst 1, 1) := by decide +kernel
theorem dX3_steps_23 : decode cX3_steps 23 = .ok (.invokevirtual 88, 3) := by decide +kernel
theorem dX3_steps_26 : decode cX3_steps 26 = .ok (.ireturn, 1) := by decide +kernel
theorem dX3_steps_27 : decode cX3_steps 27 = .ok (.aload_n 0, 1) := by decide +kernel
theorem dX3_steps_28 : decode cX3_steps 28 = .ok (.iload_n 1, 1) := by decide +kernel
theorem dX3_steps_29 : decode cX3_steps 29 = .ok (.invokevirtual 43, 3) := by decide +kernel
theorem dX3_steps_32 : decode cX3_steps 32 = .ok (.ifCond .eq 11, 3) := by decide +kernel
theorem dX3_steps_35 : decode cX3_steps 35 = .ok (.aload_n 0, 1) := by decide +kernel
theorem dX3_steps_36 : decode cX3_steps 36 = .ok (.iload_n 2, 1) := by decide +kernel
theorem dX3_steps_37 : decode cX3_steps 37 = .ok (.invokevirtual 43, 3) := by decide +kernel
theorem dX3_steps_40 : decode cX3_steps 40 = .ok (.ifCond .ne 5, 3) := by decide +kernel
theorem dX3_steps_43 : decode cX3_steps 43 = .ok (.iconst (-1), 1) := by decide +kernel
theorem dX3_steps_44 : decode cX3_steps 44 = .ok (.ireturn, 1) := by decide +kernel
theorem dX3_steps_45 : decode cX3_steps 45 = .ok (.iconst 0, 1) := by decide +kernel
theorem dX3_steps_46 : decode cX3_steps 46 = .ok (.istore_n 3, 1) := by decide +kernel
theorem dX3_steps_47 : decode cX3_steps 47 = .ok (.iload_n 3, 1) := by decide +kernel
theorem dX3_steps_48 : decode cX3_steps 48 = .ok (.aload_n 0, 1) := by decide +kernel
theorem dX3_steps_49 : decode cX3_steps 49 = .ok (.getfield 32, 3) := by decide +kernel
theorem dX3_steps_52 : decode cX3_steps 52 = .ok (.if_icmp .ge 25, 3) := by decide +kernel
theorem dX3_steps_55 : decode cX3_steps 55 = .ok (.aload_n 0, 1) := by decide +kernel
theorem dX3_steps_56 : decode cX3_steps 56 = .ok (.getfield 25, 3) := by decide +kernel
theorem dX3_steps_59 : decode cX3_steps 59 = .ok (.iload_n 3, 1) := by decide +kernel
theorem dX3_steps_60 : decode cX3_steps 60 = .ok (.iload_n 3, 1) := by decide +kernel
theorem dX3_steps_61 : decode cX3_steps 61 = .ok (.iload_n 1, 1) := by decide +kernel
theorem dX3_steps_62 : decode cX3_steps 62 = .ok (.if_icmp .ne 7, 3) := by decide +kernel
theorem dX3_steps_65 : decode cX3_steps 65 = .ok (.iconst 0, 1) := by decide +kernel
theorem dX3_steps_66 : decode cX3_steps 66 = .ok (.goto 4, 3) := by decide +kernel
theorem dX3_steps_69 : decode cX3_steps 69 = .ok (.iconst (-1), 1) := by decide +kernel
theorem dX3_steps_70 : decode cX3_steps 70 = .ok (.iastore, 1) := by decide +kernel
theorem dX3_steps_71 : decode cX3_steps 71 = .ok (.iinc 3 1, 3) := by decide +kernel
theorem dX3_steps_74 : decode cX3_steps 74 = .ok (.goto (-27), 3) := by decide +kernel
theorem dX3_steps_77 : decode cX3_steps 77 = .ok (.iconst 0, 1) := by decide +kernel
theorem dX3_steps_78 : decode cX3_steps 78 = .ok (.istore_n 3, 1) := by decide +kernel
theorem dX3_steps_79 : decode cX3_steps 79 = .ok (.iload_n 3, 1) := by decide +kernel
theorem dX3_steps_80 : decode cX3_steps 80 = .ok (.aload_n 0, 1) := by decide +kernel
theorem dX3_steps_81 : decode cX3_steps 81 = .ok (.getfield 32, 3) := by decide +kernel
theorem dX3_steps_84 : decode cX3_steps 84 = .ok (.if_icmp .ge 145, 3) := by decide +kernel
theorem dX3_steps_87 : decode cX3_steps 87 = .ok (.aload_n 0, 1) := by decide +kernel
theorem dX3_steps_88 : decode cX3_steps 88 = .ok (.getfield 25, 3) := by decide +kernel
theorem dX3_steps_91 : decode cX3_steps 91 = .ok (.iload_n 2, 1) := by decide +kernel
theorem dX3_steps_92 : decode cX3_steps 92 = .ok (.iaload, 1) := by decide +kernel
theorem dX3_steps_93 : decode cX3_steps 93 = .ok (.iconst (-1), 1) := by decide +kernel
theorem dX3_steps_94 : decode cX3_steps 94 = .ok (.if_icmp .ne 135, 3) := by decide +kernel
theorem dX3_steps_97 : decode cX3_steps 97 = .ok (.iconst 0, 1) := by decide +kernel
theorem dX3_steps_98 : decode cX3_steps 98 = .ok (.istore 4, 2) := by decide +kernel
theorem dX3_steps_100 : decode cX3_steps 100 = .ok (.iload 4, 2) := by decide +kernel
theorem dX3_steps_102 : decode cX3_steps 102 = .ok (.aload_n 0, 1) := by decide +kernel
theorem dX3_steps_103 : decode cX3_steps 103 = .ok (.getfield 63, 3) := by decide +kernel
theorem dX3_steps_106 : decode cX3_steps 106 = .ok (.if_icmp .ge 117, 3) := by decide +kernel
theorem dX3_steps_109 : decode cX3_steps 109 = .ok (.aload_n 0, 1) := by decide +kernel
theorem dX3_steps_110 : decode cX3_steps 110 = .ok (.iload 4, 2) := by decide +kernel
theorem dX3_steps_112 : decode cX3_steps 112 = .ok (.iconst 2, 1) := by decide +kernel
theorem dX3_steps_113 : decode cX3_steps 113 = .ok (.invokevirtual 66, 3) := by decide +kernel
theorem dX3_steps_116 : decode cX3_steps 116 = .ok (.iconst 1, 1) := by decide +kernel
theorem dX3_steps_117 : decode cX3_steps 117 = .ok (.if_icmp .ne 6, 3) := by decide +kernel
theorem dX3_steps_120 : decode cX3_steps 120 = .ok (.goto 97, 3) := by decide +kernel
theorem dX3_steps_123 : decode cX3_steps 123 = .ok (.aload_n 0, 1) := by decide +kernel
theorem dX3_steps_124 : decode cX3_steps 124 = .ok (.getfield 25, 3) := by decide +kernel
theorem dX3_steps_127 : decode cX3_steps 127 = .ok (.aload_n 0, 1) := by decide +kernel
theorem dX3_steps_128 : decode cX3_steps 128 = .ok (.iload 4, 2) := by decide +kernel
theorem dX3_steps_130 : decode cX3_steps 130 = .ok (.iconst 0, 1) := by decide +kernel
theorem dX3_steps_131 : decode cX3_steps 131 = .ok (.invokevirtual 66, 3) := by decide +kernel
theorem dX3_steps_134 : decode cX3_steps 134 = .ok (.iaload, 1) := by decide +kernel
theorem dX3_steps_135 : decode cX3_steps 135 = .ok (.iload_n 3, 1) := by decide +kernel
theorem dX3_steps_136 : decode cX3_steps 136 = .ok (.if_icmp .ne 34, 3) := by decide +kernel
theorem dX3_steps_139 : decode cX3_steps 139 = .ok (.aload_n 0, 1) := by decide +kernel
theorem dX3_steps_140 : decode cX3_steps 140 = .ok (.getfield 25, 3) := by decide +kernel
theorem dX3_steps_143 : decode cX3_steps 143 = .ok (.aload_n 0, 1) := by decide +kernel
theorem dX3_steps_144 : decode cX3_steps 144 = .ok (.iload 4, 2) := by decide +kernel
theorem dX3_steps_146 : decode cX3_steps 146 = .ok (.iconst 1, 1) := by decide +kernel
theorem dX3_steps_147 : decode cX3_steps 147 = .ok (.invokevirtual 66, 3) := by decide +kernel
theorem dX3_steps_150 : decode cX3_steps 150 = .ok (.iaload, 1) := by decide +kernel
theorem dX3_steps_151 : decode cX3_steps 151 = .ok (.iconst (-1), 1) := by decide +kernel
theorem dX3_steps_152 : decode cX3_steps 152 = .ok (.if_icmp .ne 18, 3) := by decide +kernel
theorem dX3_steps_155 : decode cX3_steps 155 = .ok (.aload_n 0, 1) := by decide +kernel
theorem dX3_steps_156 : decode cX3_steps 156 = .ok (.getfield 25, 3) := by decide +kernel
theorem dX3_steps_159 : decode cX3_steps 159 = .ok (.aload_n 0, 1) := by decide +kernel
theorem dX3_steps_160 : decode cX3_steps 160 = .ok (.iload 4, 2) := by decide +kernel
theorem dX3_steps_162 : decode cX3_steps 162 = .ok (.iconst 1, 1) := by decide +kernel
theorem dX3_steps_163 : decode cX3_steps 163 = .ok (.invokevirtual 66, 3) := by decide +kernel
theorem dX3_steps_166 : decode cX3_steps 166 = .ok (.iload_n 3, 1) := by decide +kernel
theorem dX3_steps_167 : decode cX3_steps 167 = .ok (.iconst 1, 1) := by decide +kernel
theorem dX3_steps_168 : decode cX3_steps 168 = .ok (.iadd, 1) := by decide +kernel
theorem dX3_steps_169 : decode cX3_steps 169 = .ok (.iastore, 1) := by decide +kernel
theorem dX3_steps_170 : decode cX3_steps 170 = .ok (.aload_n 0, 1) := by decide +kernel
theorem dX3_steps_171 : decode cX3_steps 171 = .ok (.getfield 25, 3) := by decide +kernel
theorem dX3_steps_174 : decode cX3_steps 174 = .ok (.aload_n 0, 1) := by decide +kernel
theorem dX3_steps_175 : decode cX3_steps 175 = .ok (.iload 4, 2) := by decide +kernel
theorem dX3_steps_177 : decode cX3_steps 177 = .ok (.iconst 1, 1) := by decide +kernel
theorem dX3_steps_178 : decode cX3_steps 178 = .ok (.invokevirtual 66, 3) := by decide +kernel
theorem dX3_steps_181 : decode cX3_steps 181 = .ok (.iaload, 1) := by decide +kernel
theorem dX3_steps_182 : decode cX3_steps 182 = .ok (.iload_n 3, 1) := by decide +kernel
theorem dX3_steps_183 : decode cX3_steps 183 = .ok (.if_icmp .ne 34, 3) := by decide +kernel
theorem dX3_steps_186 : decode cX3_steps 186 = .ok (.aload_n 0, 1) := by decide +kernel
theorem dX3_steps_187 : decode cX3_steps 187 = .ok (.getfield 25, 3) := by decide +kernel
theorem dX3_steps_190 : decode cX3_steps 190 = .ok (.aload_n 0, 1) := by decide +kernel
theorem dX3_steps_191 : decode cX3_steps 191 = .ok (.iload 4, 2) := by decide +kernel
theorem dX3_steps_193 : decode cX3_steps 193 = .ok (.iconst 0, 1) := by decide +kernel
theorem dX3_steps_194 : decode cX3_steps 194 = .ok (.invokevirtual 66, 3) := by decide +kernel
theorem dX3_steps_197 : decode cX3_steps 197 = .ok (.iaload, 1) := by decide +kernel
theorem dX3_steps_198 : decode cX3_steps 198 = .ok (.iconst (-1), 1) := by decide +kernel
theorem dX3_steps_199 : decode cX3_steps 199 = .ok (.if_icmp .ne 18, 3) := by decide +kernel
theorem dX3_steps_202 : decode cX3_steps 202 = .ok (.aload_n 0, 1) := by decide +kernel
theorem dX3_steps_203 : decode cX3_steps 203 = .ok (.getfield 25, 3) := by decide +kernel
theorem dX3_steps_206 : decode cX3_steps 206 = .ok (.aload_n 0, 1) := by decide +kernel
theorem dX3_steps_207 : decode cX3_steps 207 = .ok (.iload 4, 2) := by decide +kernel
theorem dX3_steps_209 : decode cX3_steps 209 = .ok (.iconst 0, 1) := by decide +kernel
theorem dX3_steps_210 : decode cX3_steps 210 = .ok (.invokevirtual 66, 3) := by decide +kernel
theorem dX3_steps_213 : decode cX3_steps 213 = .ok (.iload_n 3, 1) := by decide +kernel
theorem dX3_steps_214 : decode cX3_steps 214 = .ok (.iconst 1, 1) := by decide +kernel
theorem dX3_steps_215 : decode cX3_steps 215 = .ok (.iadd, 1) := by decide +kernel
theorem dX3_steps_216 : decode cX3_steps 216 = .ok (.iastore, 1) := by decide +kernel
theorem dX3_steps_217 : decode cX3_steps 217 = .ok (.iinc 4 1, 3) := by decide +kernel
theorem dX3_steps_220 : decode cX3_steps 220 = .ok (.goto (-120), 3) := by decide +kernel
theorem dX3_steps_223 : decode cX3_steps 223 = .ok (.iinc 3 1, 3) := by decide +kernel
theorem dX3_steps_226 : decode cX3_steps 226 = .ok (.goto (-147), 3) := by decide +kernel
theorem dX3_steps_229 : decode cX3_steps 229 = .ok (.aload_n 0, 1) := by decide +kernel
theorem dX3_steps_230 : decode cX3_steps 230 = .ok (.getfield 25, 3) := by decide +kernel
theorem dX3_steps_233 : decode cX3_steps 233 = .ok (.iload_n 2, 1) := by decide +kernel
theorem dX3_steps_234 : decode cX3_steps 234 = .ok (.iaload, 1) := by decide +kernel
theorem dX3_steps_235 : decode cX3_steps 235 = .ok (.ireturn, 1) := by decide +kernel
theorem dX3_holdsFrom_0 : decode cX3_holdsFrom 0 = .ok (.iconst 0, 1) := by decide +kernel
theorem dX3_holdsFrom_1 : decode cX3_holdsFrom 1 = .ok (.istore_n 2, 1) := by decide +kernel
theorem dX3_holdsFrom_2 : decode cX3_holdsFrom 2 = .ok (.iload_n 1, 1) := by decide +kernel
theorem dX3_holdsFrom_3 : decode cX3_holdsFrom 3 = .ok (.iconst 1, 1) := by decide +kernel
theorem dX3_holdsFrom_4 : decode cX3_holdsFrom 4 = .ok (.iadd, 1) := by decide +kernel
theorem dX3_holdsFrom_5 : decode cX3_holdsFrom 5 = .ok (.istore_n 3, 1) := by decide +kernel
theorem dX3_holdsFrom_6 : decode cX3_holdsFrom 6 = .ok (.iload_n 3, 1) := by decide +kernel
theorem dX3_holdsFrom_7 : decode cX3_holdsFrom 7 = .ok (.aload_n 0, 1) := by decide +kernel
theorem dX3_holdsFrom_8 : decode cX3_holdsFrom 8 = .ok (.getfield 32, 3) := by decide +kernel
theorem dX3_holdsFrom_11 : decode cX3_holdsFrom 11 = .ok (.if_icmp .ge 34, 3) := by decide +kernel
theorem dX3_holdsFrom_14 : decode cX3_holdsFrom 14 = .ok (.iload_n 2, 1) := by decide +kernel
theorem dX3_holdsFrom_15 : decode cX3_holdsFrom 15 = .ok (.aload_n 0, 1) := by decide +kernel
theorem dX3_holdsFrom_16 : decode cX3_holdsFrom 16 = .ok (.iload_n 3, 1) := by decide +kernel
theorem dX3_holdsFrom_17 : decode cX3_holdsFrom 17 = .ok (.invokevirtual 43, 3) := by decide +kernel
theorem dX3_holdsFrom_20 : decode cX3_holdsFrom 20 = .ok (.ifCond .eq 16, 3) := by decide +kernel
theorem dX3_holdsFrom_23 : decode cX3_holdsFrom 23 = .ok (.aload_n 0, 1) := by decide +kernel
theorem dX3_holdsFrom_24 : decode cX3_holdsFrom 24 = .ok (.iload_n 3, 1) := by decide +kernel
theorem dX3_holdsFrom_25 : decode cX3_holdsFrom 25 = .ok (.iload_n 1, 1) := by decide +kernel
theorem dX3_holdsFrom_26 : decode cX3_holdsFrom 26 = .ok (.invokevirtual 52, 3) := by decide +kernel
theorem dX3_holdsFrom_29 : decode cX3_holdsFrom 29 = .ok (.ifCond .eq 7, 3) := by decide +kernel
theorem dX3_holdsFrom_32 : decode cX3_holdsFrom 32 = .ok (.iconst 1, 1) := by decide +kernel
theorem dX3_holdsFrom_33 : decode cX3_holdsFrom 33 = .ok (.goto 4, 3) := by decide +kernel
theorem dX3_holdsFrom_36 : decode cX3_holdsFrom 36 = .ok (.iconst 0, 1) := by decide +kernel
theorem dX3_holdsFrom_37 : decode cX3_holdsFrom 37 = .ok (.iadd, 1) := by decide +kernel
theorem dX3_holdsFrom_38 : decode cX3_holdsFrom 38 = .ok (.istore_n 2, 1) := by decide +kernel
theorem dX3_holdsFrom_39 : decode cX3_holdsFrom 39 = .ok (.iinc 3 1, 3) := by decide +kernel
theorem dX3_holdsFrom_42 : decode cX3_holdsFrom 42 = .ok (.goto (-36), 3) := by decide +kernel
theorem dX3_holdsFrom_45 : decode cX3_holdsFrom 45 = .ok (.iload_n 2, 1) := by decide +kernel
theorem dX3_holdsFrom_46 : decode cX3_holdsFrom 46 = .ok (.ireturn, 1) := by decide +kernel
theorem dX3_stoneTold_0 : decode cX3_stoneTold 0 = .ok (.iload_n 2, 1) := by decide +kernel
theorem dX3_stoneTold_1 : decode cX3_stoneTold 1 = .ok (.tableswitch 71 7 9 #[27, 34, 53], 27) := by decide +kernel
theorem dX3_stoneTold_28 : decode cX3_stoneTold 28 = .ok (.aload_n 0, 1) := by decide +kernel
theorem dX3_stoneTold_29 : decode cX3_stoneTold 29 = .ok (.getfield 19, 3) := by decide +kernel
theorem dX3_stoneTold_32 : decode cX3_stoneTold 32 = .ok (.iload_n 1, 1) := by decide +kernel
theorem dX3_stoneTold_33 : decode cX3_stoneTold 33 = .ok (.iaload, 1) := by decide +kernel
theorem dX3_stoneTold_34 : decode cX3_stoneTold 34 = .ok (.ireturn, 1) := by decide +kernel
theorem dX3_stoneTold_35 : decode cX3_stoneTold 35 = .ok (.aload_n 0, 1) := by decide +kernel
theorem dX3_stoneTold_36 : decode cX3_stoneTold 36 = .ok (.iload_n 1, 1) := by decide +kernel
theorem dX3_stoneTold_37 : decode cX3_stoneTold 37 = .ok (.invokevirtual 43, 3) := by decide +kernel
theorem dX3_stoneTold_40 : decode cX3_stoneTold 40 = .ok (.ifCond .eq 12, 3) := by decide +kernel
theorem dX3_stoneTold_43 : decode cX3_stoneTold 43 = .ok (.aload_n 0, 1) := by decide +kernel
theorem dX3_stoneTold_44 : decode cX3_stoneTold 44 = .ok (.getfield 22, 3) := by decide +kernel
theorem dX3_stoneTold_47 : decode cX3_stoneTold 47 = .ok (.iload_n 1, 1) := by decide +kernel
theorem dX3_stoneTold_48 : decode cX3_stoneTold 48 = .ok (.iaload, 1) := by decide +kernel
theorem dX3_stoneTold_49 : decode cX3_stoneTold 49 = .ok (.goto 4, 3) := by decide +kernel
theorem dX3_stoneTold_52 : decode cX3_stoneTold 52 = .ok (.iconst 0, 1) := by decide +kernel
theorem dX3_stoneTold_53 : decode cX3_stoneTold 53 = .ok (.ireturn, 1) := by decide +kernel
theorem dX3_stoneTold_54 : decode cX3_stoneTold 54 = .ok (.aload_n 0, 1) := by decide +kernel
theorem dX3_stoneTold_55 : decode cX3_stoneTold 55 = .ok (.iload_n 1, 1) := by decide +kernel
theorem dX3_stoneTold_56 : decode cX3_stoneTold 56 = .ok (.invokevirtual 43, 3) := by decide +kernel
theorem dX3_stoneTold_59 : decode cX3_stoneTold 59 = .ok (.ifCond .eq 11, 3) := by decide +kernel
theorem dX3_stoneTold_62 : decode cX3_stoneTold 62 = .ok (.aload_n 0, 1) := by decide +kernel
theorem dX3_stoneTold_63 : decode cX3_stoneTold 63 = .ok (.iload_n 1, 1) := by decide +kernel
theorem dX3_stoneTold_64 : decode cX3_stoneTold 64 = .ok (.invokevirtual 106, 3) := by decide +kernel
theorem dX3_stoneTold_67 : decode cX3_stoneTold 67 = .ok (.goto 4, 3) := by decide +kernel
theorem dX3_stoneTold_70 : decode cX3_stoneTold 70 = .ok (.iconst 0, 1) := by decide +kernel
theorem dX3_stoneTold_71 : decode cX3_stoneTold 71 = .ok (.ireturn, 1) := by decide +kernel
theorem dX3_stoneTold_72 : decode cX3_stoneTold 72 = .ok (.aload_n 0, 1) := by decide +kernel
theorem dX3_stoneTold_73 : decode cX3_stoneTold 73 = .ok (.iload_n 1, 1) := by decide +kernel
theorem dX3_stoneTold_74 : decode cX3_stoneTold 74 = .ok (.iload_n 2, 1) := by decide +kernel
theorem dX3_stoneTold_75 : decode cX3_stoneTold 75 = .ok (.invokevirtual 39, 3) := by decide +kernel
theorem dX3_stoneTold_78 : decode cX3_stoneTold 78 = .ok (.ireturn, 1) := by decide +kernel
theorem dX3_stone__0 : decode cX3_stone_ 0 = .ok (.aload_n 0, 1) := by decide +kernel
theorem dX3_stone__1 : decode cX3_stone_ 1 = .ok (.iconst 0, 1) := by decide +kernel
theorem dX3_stone__2 : decode cX3_stone_ 2 = .ok (.putfield 28, 3) := by decide +kernel
theorem dX3_stone__5 : decode cX3_stone_ 5 = .ok (.aload_n 0, 1) := by decide +kernel
theorem dX3_stone__6 : decode cX3_stone_ 6 = .ok (.iload_n 1, 1) := by decide +kernel
theorem dX3_stone__7 : decode cX3_stone_ 7 = .ok (.invokevirtual 96, 3) := by decide +kernel
theorem dX3_stone__10 : decode cX3_stone_ 10 = .ok (.ifCond .eq 13, 3) := by decide +kernel
theorem dX3_stone__13 : decode cX3_stone_ 13 = .ok (.iload_n 2, 1) := by decide +kernel
theorem dX3_stone__14 : decode cX3_stone_ 14 = .ok (.iconst 0, 1) := by decide +kernel
theorem dX3_stone__15 : decode cX3_stone_ 15 = .ok (.bipush 9, 2) := by decide +kernel
theorem dX3_stone__17 : decode cX3_stone_ 17 = .ok (.invokestatic 35, 3) := by decide +kernel
theorem dX3_stone__20 : decode cX3_stone_ 20 = .ok (.ifCond .ne 9, 3) := by decide +kernel
theorem dX3_stone__23 : decode cX3_stone_ 23 = .ok (.aload_n 0, 1) := by decide +kernel
theorem dX3_stone__24 : decode cX3_stone_ 24 = .ok (.iconst 1, 1) := by decide +kernel
theorem dX3_stone__25 : decode cX3_stone_ 25 = .ok (.invokevirtual 88, 3) := by decide +kernel
theorem dX3_stone__28 : decode cX3_stone_ 28 = .ok (.ireturn, 1) := by decide +kernel
theorem dX3_stone__29 : decode cX3_stone_ 29 = .ok (.aload_n 0, 1) := by decide +kernel
theorem dX3_stone__30 : decode cX3_stone_ 30 = .ok (.invokevirtual 73, 3) := by decide +kernel
theorem dX3_stone__33 : decode cX3_stone_ 33 = .ok (.aload_n 0, 1) := by decide +kernel
theorem dX3_stone__34 : decode cX3_stone_ 34 = .ok (.iload_n 1, 1) := by decide +kernel
theorem dX3_stone__35 : decode cX3_stone_ 35 = .ok (.iload_n 2, 1) := by decide +kernel
theorem dX3_stone__36 : decode cX3_stone_ 36 = .ok (.invokevirtual 109, 3) := by decide +kernel
theorem dX3_stone__39 : decode cX3_stone_ 39 = .ok (.ireturn, 1) := by decide +kernel
theorem dX3_first_0 : decode cX3_first 0 = .ok (.aload_n 0, 1) := by decide +kernel
theorem dX3_first_1 : decode cX3_first 1 = .ok (.iconst 0, 1) := by decide +kernel
theorem dX3_first_2 : decode cX3_first 2 = .ok (.putfield 28, 3) := by decide +kernel
theorem dX3_first_5 : decode cX3_first 5 = .ok (.aload_n 0, 1) := by decide +kernel
theorem dX3_first_6 : decode cX3_first 6 = .ok (.iload_n 1, 1) := by decide +kernel
theorem dX3_first_7 : decode cX3_first 7 = .ok (.invokevirtual 96, 3) := by decide +kernel
theorem dX3_first_10 : decode cX3_first 10 = .ok (.ifCond .ne 9, 3) := by decide +kernel
theorem dX3_first_13 : decode cX3_first 13 = .ok (.aload_n 0, 1) := by decide +kernel
theorem dX3_first_14 : decode cX3_first 14 = .ok (.iconst 1, 1) := by decide +kernel
theorem dX3_first_15 : decode cX3_first 15 = .ok (.invokevirtual 88, 3) := by decide +kernel
theorem dX3_first_18 : decode cX3_first 18 = .ok (.ireturn, 1) := by decide +kernel
theorem dX3_first_19 : decode cX3_first 19 = .ok (.aload_n 0, 1) := by decide +kernel
theorem dX3_first_20 : decode cX3_first 20 = .ok (.iload_n 1, 1) := by decide +kernel
theorem dX3_first_21 : decode cX3_first 21 = .ok (.invokevirtual 43, 3) := by decide +kernel
theorem dX3_first_24 : decode cX3_first 24 = .ok (.ifCond .ne 5, 3) := by decide +kernel
theorem dX3_first_27 : decode cX3_first 27 = .ok (.iconst (-1), 1) := by decide +kernel
theorem dX3_first_28 : decode cX3_first 28 = .ok (.ireturn, 1) := by decide +kernel
theorem dX3_first_29 : decode cX3_first 29 = .ok (.iload_n 1, 1) := by decide +kernel
theorem dX3_first_30 : decode cX3_first 30 = .ok (.istore_n 2, 1) := by decide +kernel
theorem dX3_first_31 : decode cX3_first 31 = .ok (.aload_n 0, 1) := by decide +kernel
theorem dX3_first_32 : decode cX3_first 32 = .ok (.iload_n 2, 1) := by decide +kernel
theorem dX3_first_33 : decode cX3_first 33 = .ok (.iconst 4, 1) := by decide +kernel
theorem dX3_first_34 : decode cX3_first 34 = .ok (.invokevirtual 39, 3) := by decide +kernel
theorem dX3_first_37 : decode cX3_first 37 = .ok (.iconst (-1), 1) := by decide +kernel
theorem dX3_first_38 : decode cX3_first 38 = .ok (.if_icmp .eq 13, 3) := by decide +kernel
theorem dX3_first_41 : decode cX3_first 41 = .ok (.aload_n 0, 1) := by decide +kernel
theorem dX3_first_42 : decode cX3_first 42 = .ok (.iload_n 2, 1) := by decide +kernel
theorem dX3_first_43 : decode cX3_first 43 = .ok (.iconst 4, 1) := by decide +kernel
theorem dX3_first_44 : decode cX3_first 44 = .ok (.invokevirtual 39, 3) := by decide +kernel
theorem dX3_first_47 : decode cX3_first 47 = .ok (.istore_n 2, 1) := by decide +kernel
theorem dX3_first_48 : decode cX3_first 48 = .ok (.goto (-17), 3) := by decide +kernel
theorem dX3_first_51 : decode cX3_first 51 = .ok (.iload_n 2, 1) := by decide +kernel
theorem dX3_first_52 : decode cX3_first 52 = .ok (.ireturn, 1) := by decide +kernel
theorem dX3_counted_0 : decode cX3_counted 0 = .ok (.iconst 0, 1) := by decide +kernel
theorem dX3_counted_1 : decode cX3_counted 1 = .ok (.istore_n 2, 1) := by decide +kernel
theorem dX3_counted_2 : decode cX3_counted 2 = .ok (.iload_n 1, 1) := by decide +kernel
theorem dX3_counted_3 : decode cX3_counted 3 = .ok (.ifCond .ne 10, 3) := by decide +kernel
theorem dX3_counted_6 : decode cX3_counted 6 = .ok (.aload_n 0, 1) := by decide +kernel
theorem dX3_counted_7 : decode cX3_counted 7 = .ok (.getfield 16, 3) := by decide +kernel
theorem dX3_counted_10 : decode cX3_counted 10 = .ok (.iconst 0, 1) := by decide +kernel
theorem dX3_counted_11 : decode cX3_counted 11 = .ok (.iaload, 1) := by decide +kernel
theorem dX3_counted_12 : decode cX3_counted 12 = .ok (.ireturn, 1) := by decide +kernel
theorem dX3_counted_13 : decode cX3_counted 13 = .ok (.iload_n 1, 1) := by decide +kernel
theorem dX3_counted_14 : decode cX3_counted 14 = .ok (.iconst 1, 1) := by decide +kernel
theorem dX3_counted_15 : decode cX3_counted 15 = .ok (.if_icmp .ne 8, 3) := by decide +kernel
theorem dX3_counted_18 : decode cX3_counted 18 = .ok (.aload_n 0, 1) := by decide +kernel
theorem dX3_counted_19 : decode cX3_counted 19 = .ok (.getfield 32, 3) := by decide +kernel
theorem dX3_counted_22 : decode cX3_counted 22 = .ok (.ireturn, 1) := by decide +kernel
theorem dX3_counted_23 : decode cX3_counted 23 = .ok (.iconst 0, 1) := by decide +kernel
theorem dX3_counted_24 : decode cX3_counted 24 = .ok (.istore_n 3, 1) := by decide +kernel
theorem dX3_counted_25 : decode cX3_counted 25 = .ok (.iload_n 3, 1) := by decide +kernel
theorem dX3_counted_26 : decode cX3_counted 26 = .ok (.aload_n 0, 1) := by decide +kernel
theorem dX3_counted_27 : decode cX3_counted 27 = .ok (.getfield 63, 3) := by decide +kernel
theorem dX3_counted_30 : decode cX3_counted 30 = .ok (.if_icmp .ge 25, 3) := by decide +kernel
theorem dX3_counted_33 : decode cX3_counted 33 = .ok (.iload_n 1, 1) := by decide +kernel
theorem dX3_counted_34 : decode cX3_counted 34 = .ok (.iconst 4, 1) := by decide +kernel
theorem dX3_counted_35 : decode cX3_counted 35 = .ok (.if_icmp .ne 20, 3) := by decide +kernel
theorem dX3_counted_38 : decode cX3_counted 38 = .ok (.iload_n 2, 1) := by decide +kernel
theorem dX3_counted_39 : decode cX3_counted 39 = .ok (.iconst 1, 1) := by decide +kernel
theorem dX3_counted_40 : decode cX3_counted 40 = .ok (.aload_n 0, 1) := by decide +kernel
theorem dX3_counted_41 : decode cX3_counted 41 = .ok (.iload_n 3, 1) := by decide +kernel
theorem dX3_counted_42 : decode cX3_counted 42 = .ok (.iconst 2, 1) := by decide +kernel
theorem dX3_counted_43 : decode cX3_counted 43 = .ok (.invokevirtual 66, 3) := by decide +kernel
theorem dX3_counted_46 : decode cX3_counted 46 = .ok (.isub, 1) := by decide +kernel
theorem dX3_counted_47 : decode cX3_counted 47 = .ok (.iadd, 1) := by decide +kernel
theorem dX3_counted_48 : decode cX3_counted 48 = .ok (.istore_n 2, 1) := by decide +kernel
theorem dX3_counted_49 : decode cX3_counted 49 = .ok (.iinc 3 1, 3) := by decide +kernel
theorem dX3_counted_52 : decode cX3_counted 52 = .ok (.goto (-27), 3) := by decide +kernel
theorem dX3_counted_55 : decode cX3_counted 55 = .ok (.iconst 0, 1) := by decide +kernel
theorem dX3_counted_56 : decode cX3_counted 56 = .ok (.istore_n 3, 1) := by decide +kernel
theorem dX3_counted_57 : decode cX3_counted 57 = .ok (.iload_n 3, 1) := by decide +kernel
theorem dX3_counted_58 : decode cX3_counted 58 = .ok (.aload_n 0, 1) := by decide +kernel
theorem dX3_counted_59 : decode cX3_counted 59 = .ok (.getfield 32, 3) := by decide +kernel
theorem dX3_counted_62 : decode cX3_counted 62 = .ok (.if_icmp .ge 116, 3) := by decide +kernel
theorem dX3_counted_65 : decode cX3_counted 65 = .ok (.iload_n 1, 1) := by decide +kernel
theorem dX3_counted_66 : decode cX3_counted 66 = .ok (.iconst 4, 1) := by decide +kernel
theorem dX3_counted_67 : decode cX3_counted 67 = .ok (.if_icmp .eq 111, 3) := by decide +kernel
theorem dX3_counted_70 : decode cX3_counted 70 = .ok (.aload_n 0, 1) := by decide +kernel
theorem dX3_counted_71 : decode cX3_counted 71 = .ok (.iload_n 3, 1) := by decide +kernel
theorem dX3_counted_72 : decode cX3_counted 72 = .ok (.invokevirtual 43, 3) := by decide +kernel
theorem dX3_counted_75 : decode cX3_counted 75 = .ok (.ifCond .ne 6, 3) := by decide +kernel
theorem dX3_counted_78 : decode cX3_counted 78 = .ok (.goto 94, 3) := by decide +kernel
theorem dX3_counted_81 : decode cX3_counted 81 = .ok (.aload_n 0, 1) := by decide +kernel
theorem dX3_counted_82 : decode cX3_counted 82 = .ok (.iload_n 3, 1) := by decide +kernel
theorem dX3_counted_83 : decode cX3_counted 83 = .ok (.iconst 3, 1) := by decide +kernel
theorem dX3_counted_84 : decode cX3_counted 84 = .ok (.invokevirtual 39, 3) := by decide +kernel
theorem dX3_counted_87 : decode cX3_counted 87 = .ok (.ifCond .le 7, 3) := by decide +kernel
theorem dX3_counted_90 : decode cX3_counted 90 = .ok (.iconst 1, 1) := by decide +kernel
theorem dX3_counted_91 : decode cX3_counted 91 = .ok (.goto 4, 3) := by decide +kernel
theorem dX3_counted_94 : decode cX3_counted 94 = .ok (.iconst 0, 1) := by decide +kernel
theorem dX3_counted_95 : decode cX3_counted 95 = .ok (.istore 4, 2) := by decide +kernel
theorem dX3_counted_97 : decode cX3_counted 97 = .ok (.iload_n 2, 1) := by decide +kernel
theorem dX3_counted_98 : decode cX3_counted 98 = .ok (.iload_n 1, 1) := by decide +kernel
theorem dX3_counted_99 : decode cX3_counted 99 = .ok (.iconst 2, 1) := by decide +kernel
theorem dX3_counted_100 : decode cX3_counted 100 = .ok (.if_icmp .ne 7, 3) := by decide +kernel
theorem dX3_counted_103 : decode cX3_counted 103 = .ok (.iconst 1, 1) := by decide +kernel
theorem dX3_counted_104 : decode cX3_counted 104 = .ok (.goto 66, 3) := by decide +kernel
theorem dX3_counted_107 : decode cX3_counted 107 = .ok (.iload_n 1, 1) := by decide +kernel
theorem dX3_counted_108 : decode cX3_counted 108 = .ok (.iconst 3, 1) := by decide +kernel
theorem dX3_counted_109 : decode cX3_counted 109 = .ok (.if_icmp .ne 16, 3) := by decide +kernel
theorem dX3_counted_112 : decode cX3_counted 112 = .ok (.iload 4, 2) := by decide +kernel
theorem dX3_counted_114 : decode cX3_counted 114 = .ok (.ifCond .eq 7, 3) := by decide +kernel
theorem dX3_counted_117 : decode cX3_counted 117 = .ok (.iconst 1, 1) := by decide +kernel
theorem dX3_counted_118 : decode cX3_counted 118 = .ok (.goto 52, 3) := by decide +kernel
theorem dX3_counted_121 : decode cX3_counted 121 = .ok (.iconst 0, 1) := by decide +kernel
theorem dX3_counted_122 : decode cX3_counted 122 = .ok (.goto 48, 3) := by decide +kernel
theorem dX3_counted_125 : decode cX3_counted 125 = .ok (.iload_n 1, 1) := by decide +kernel
theorem dX3_counted_126 : decode cX3_counted 126 = .ok (.iconst 5, 1) := by decide +kernel
theorem dX3_counted_127 : decode cX3_counted 127 = .ok (.if_icmp .ne 12, 3) := by decide +kernel
theorem dX3_counted_130 : decode cX3_counted 130 = .ok (.aload_n 0, 1) := by decide +kernel
theorem dX3_counted_131 : decode cX3_counted 131 = .ok (.iload_n 3, 1) := by decide +kernel
theorem dX3_counted_132 : decode cX3_counted 132 = .ok (.iconst 3, 1) := by decide +kernel
theorem dX3_counted_133 : decode cX3_counted 133 = .ok (.invokevirtual 39, 3) := by decide +kernel
theorem dX3_counted_136 : decode cX3_counted 136 = .ok (.goto 34, 3) := by decide +kernel
theorem dX3_counted_139 : decode cX3_counted 139 = .ok (.iload_n 1, 1) := by decide +kernel
theorem dX3_counted_140 : decode cX3_counted 140 = .ok (.bipush 6, 2) := by decide +kernel
theorem dX3_counted_142 : decode cX3_counted 142 = .ok (.if_icmp .ne 13, 3) := by decide +kernel
theorem dX3_counted_145 : decode cX3_counted 145 = .ok (.aload_n 0, 1) := by decide +kernel
theorem dX3_counted_146 : decode cX3_counted 146 = .ok (.iload_n 3, 1) := by decide +kernel
theorem dX3_counted_147 : decode cX3_counted 147 = .ok (.bipush 6, 2) := by decide +kernel
theorem dX3_counted_149 : decode cX3_counted 149 = .ok (.invokevirtual 39, 3) := by decide +kernel
theorem dX3_counted_152 : decode cX3_counted 152 = .ok (.goto 18, 3) := by decide +kernel
theorem dX3_counted_155 : decode cX3_counted 155 = .ok (.iload 4, 2) := by decide +kernel
theorem dX3_counted_157 : decode cX3_counted 157 = .ok (.ifCond .eq 12, 3) := by decide +kernel
theorem dX3_counted_160 : decode cX3_counted 160 = .ok (.aload_n 0, 1) := by decide +kernel
theorem dX3_counted_161 : decode cX3_counted 161 = .ok (.getfield 19, 3) := by decide +kernel
theorem dX3_counted_164 : decode cX3_counted 164 = .ok (.iload_n 3, 1) := by decide +kernel
theorem dX3_counted_165 : decode cX3_counted 165 = .ok (.iaload, 1) := by decide +kernel
theorem dX3_counted_166 : decode cX3_counted 166 = .ok (.goto 4, 3) := by decide +kernel
theorem dX3_counted_169 : decode cX3_counted 169 = .ok (.iconst 0, 1) := by decide +kernel
theorem dX3_counted_170 : decode cX3_counted 170 = .ok (.iadd, 1) := by decide +kernel
theorem dX3_counted_171 : decode cX3_counted 171 = .ok (.istore_n 2, 1) := by decide +kernel
theorem dX3_counted_172 : decode cX3_counted 172 = .ok (.iinc 3 1, 3) := by decide +kernel
theorem dX3_counted_175 : decode cX3_counted 175 = .ok (.goto (-118), 3) := by decide +kernel
theorem dX3_counted_178 : decode cX3_counted 178 = .ok (.iload_n 2, 1) := by decide +kernel
theorem dX3_counted_179 : decode cX3_counted 179 = .ok (.ireturn, 1) := by decide +kernel
theorem dX3_count_0 : decode cX3_count 0 = .ok (.aload_n 0, 1) := by decide +kernel
theorem dX3_count_1 : decode cX3_count 1 = .ok (.iconst 0, 1) := by decide +kernel
theorem dX3_count_2 : decode cX3_count 2 = .ok (.putfield 28, 3) := by decide +kernel
theorem dX3_count_5 : decode cX3_count 5 = .ok (.iload_n 1, 1) := by decide +kernel
theorem dX3_count_6 : decode cX3_count 6 = .ok (.iconst 0, 1) := by decide +kernel
theorem dX3_count_7 : decode cX3_count 7 = .ok (.bipush 7, 2) := by decide +kernel
theorem dX3_count_9 : decode cX3_count 9 = .ok (.invokestatic 35, 3) := by decide +kernel
theorem dX3_count_12 : decode cX3_count 12 = .ok (.ifCond .ne 9, 3) := by decide +kernel
theorem dX3_count_15 : decode cX3_count 15 = .ok (.aload_n 0, 1) := by decide +kernel
theorem dX3_count_16 : decode cX3_count 16 = .ok (.iconst 1, 1) := by decide +kernel
theorem dX3_count_17 : decode cX3_count 17 = .ok (.invokevirtual 88, 3) := by decide +kernel
theorem dX3_count_20 : decode cX3_count 20 = .ok (.ireturn, 1) := by decide +kernel
theorem dX3_count_21 : decode cX3_count 21 = .ok (.aload_n 0, 1) := by decide +kernel
theorem dX3_count_22 : decode cX3_count 22 = .ok (.invokevirtual 73, 3) := by decide +kernel
theorem dX3_count_25 : decode cX3_count 25 = .ok (.aload_n 0, 1) := by decide +kernel
theorem dX3_count_26 : decode cX3_count 26 = .ok (.iload_n 1, 1) := by decide +kernel
theorem dX3_count_27 : decode cX3_count 27 = .ok (.invokevirtual 112, 3) := by decide +kernel
theorem dX3_count_30 : decode cX3_count 30 = .ok (.ireturn, 1) := by decide +kernel
theorem dX3_dayOn_0 : decode cX3_dayOn 0 = .ok (.iconst 0, 1) := by decide +kernel
theorem dX3_dayOn_1 : decode cX3_dayOn 1 = .ok (.istore_n 1, 1) := by decide +kernel
theorem dX3_dayOn_2 : decode cX3_dayOn 2 = .ok (.iload_n 1, 1) := by decide +kernel
theorem dX3_dayOn_3 : decode cX3_dayOn 3 = .ok (.aload_n 0, 1) := by decide +kernel
theorem dX3_dayOn_4 : decode cX3_dayOn 4 = .ok (.getfield 32, 3) := by decide +kernel
theorem dX3_dayOn_7 : decode cX3_dayOn 7 = .ok (.if_icmp .ge 27, 3) := by decide +kernel
theorem dX3_dayOn_10 : decode cX3_dayOn 10 = .ok (.aload_n 0, 1) := by decide +kernel
theorem dX3_dayOn_11 : decode cX3_dayOn 11 = .ok (.iload_n 1, 1) := by decide +kernel
theorem dX3_dayOn_12 : decode cX3_dayOn 12 = .ok (.iconst 3, 1) := by decide +kernel
theorem dX3_dayOn_13 : decode cX3_dayOn 13 = .ok (.iconst 0, 1) := by decide +kernel
theorem dX3_dayOn_14 : decode cX3_dayOn 14 = .ok (.aload_n 0, 1) := by decide +kernel
theorem dX3_dayOn_15 : decode cX3_dayOn 15 = .ok (.iload_n 1, 1) := by decide +kernel
theorem dX3_dayOn_16 : decode cX3_dayOn 16 = .ok (.iconst 3, 1) := by decide +kernel
theorem dX3_dayOn_17 : decode cX3_dayOn 17 = .ok (.invokevirtual 39, 3) := by decide +kernel
theorem dX3_dayOn_20 : decode cX3_dayOn 20 = .ok (.iconst 2, 1) := by decide +kernel
theorem dX3_dayOn_21 : decode cX3_dayOn 21 = .ok (.isub, 1) := by decide +kernel
theorem dX3_dayOn_22 : decode cX3_dayOn 22 = .ok (.invokestatic 47, 3) := by decide +kernel
theorem dX3_dayOn_25 : decode cX3_dayOn 25 = .ok (.invokevirtual 56, 3) := by decide +kernel
theorem dX3_dayOn_28 : decode cX3_dayOn 28 = .ok (.iinc 1 1, 3) := by decide +kernel
theorem dX3_dayOn_31 : decode cX3_dayOn 31 = .ok (.goto (-29), 3) := by decide +kernel
theorem dX3_dayOn_34 : decode cX3_dayOn 34 = .ok (.aload_n 0, 1) := by decide +kernel
theorem dX3_dayOn_35 : decode cX3_dayOn 35 = .ok (.invokevirtual 76, 3) := by decide +kernel
theorem dX3_dayOn_38 : decode cX3_dayOn 38 = .ok (.aload_n 0, 1) := by decide +kernel
theorem dX3_dayOn_39 : decode cX3_dayOn 39 = .ok (.invokevirtual 85, 3) := by decide +kernel
theorem dX3_dayOn_42 : decode cX3_dayOn 42 = .ok (.aload_n 0, 1) := by decide +kernel
theorem dX3_dayOn_43 : decode cX3_dayOn 43 = .ok (.getfield 16, 3) := by decide +kernel
theorem dX3_dayOn_46 : decode cX3_dayOn 46 = .ok (.iconst 0, 1) := by decide +kernel
theorem dX3_dayOn_47 : decode cX3_dayOn 47 = .ok (.dup2, 1) := by decide +kernel
theorem dX3_dayOn_48 : decode cX3_dayOn 48 = .ok (.iaload, 1) := by decide +kernel
theorem dX3_dayOn_49 : decode cX3_dayOn 49 = .ok (.iconst 1, 1) := by decide +kernel
theorem dX3_dayOn_50 : decode cX3_dayOn 50 = .ok (.iadd, 1) := by decide +kernel
theorem dX3_dayOn_51 : decode cX3_dayOn 51 = .ok (.iastore, 1) := by decide +kernel
theorem dX3_dayOn_52 : decode cX3_dayOn 52 = .ok (.return_, 1) := by decide +kernel
theorem dX3_daysOn_0 : decode cX3_daysOn 0 = .ok (.iconst 0, 1) := by decide +kernel
theorem dX3_daysOn_1 : decode cX3_daysOn 1 = .ok (.istore_n 2, 1) := by decide +kernel
theorem dX3_daysOn_2 : decode cX3_daysOn 2 = .ok (.iload_n 2, 1) := by decide +kernel
theorem dX3_daysOn_3 : decode cX3_daysOn 3 = .ok (.iload_n 1, 1) := by decide +kernel
theorem dX3_daysOn_4 : decode cX3_daysOn 4 = .ok (.if_icmp .ge 13, 3) := by decide +kernel
theorem dX3_daysOn_7 : decode cX3_daysOn 7 = .ok (.aload_n 0, 1) := by decide +kernel
theorem dX3_daysOn_8 : decode cX3_daysOn 8 = .ok (.invokevirtual 115, 3) := by decide +kernel
theorem dX3_daysOn_11 : decode cX3_daysOn 11 = .ok (.iinc 2 1, 3) := by decide +kernel
theorem dX3_daysOn_14 : decode cX3_daysOn 14 = .ok (.goto (-12), 3) := by decide +kernel
theorem dX3_daysOn_17 : decode cX3_daysOn 17 = .ok (.return_, 1) := by decide +kernel
theorem dX3_pass_0 : decode cX3_pass 0 = .ok (.aload_n 0, 1) := by decide +kernel
theorem dX3_pass_1 : decode cX3_pass 1 = .ok (.iconst 0, 1) := by decide +kernel
theorem dX3_pass_2 : decode cX3_pass 2 = .ok (.putfield 28, 3) := by decide +kernel
theorem dX3_pass_5 : decode cX3_pass 5 = .ok (.iload_n 1, 1) := by decide +kernel
theorem dX3_pass_6 : decode cX3_pass 6 = .ok (.iconst 1, 1) := by decide +kernel
theorem dX3_pass_7 : decode cX3_pass 7 = .ok (.bipush 120, 2) := by decide +kernel
theorem dX3_pass_9 : decode cX3_pass 9 = .ok (.invokestatic 35, 3) := by decide +kernel
theorem dX3_pass_12 : decode cX3_pass 12 = .ok (.ifCond .ne 9, 3) := by decide +kernel
theorem dX3_pass_15 : decode cX3_pass 15 = .ok (.aload_n 0, 1) := by decide +kernel
theorem dX3_pass_16 : decode cX3_pass 16 = .ok (.iconst 1, 1) := by decide +kernel
theorem dX3_pass_17 : decode cX3_pass 17 = .ok (.invokevirtual 88, 3) := by decide +kernel
theorem dX3_pass_20 : decode cX3_pass 20 = .ok (.ireturn, 1) := by decide +kernel
theorem dX3_pass_21 : decode cX3_pass 21 = .ok (.aload_n 0, 1) := by decide +kernel
theorem dX3_pass_22 : decode cX3_pass 22 = .ok (.invokevirtual 99, 3) := by decide +kernel
theorem dX3_pass_25 : decode cX3_pass 25 = .ok (.istore_n 2, 1) := by decide +kernel
theorem dX3_pass_26 : decode cX3_pass 26 = .ok (.aload_n 0, 1) := by decide +kernel
theorem dX3_pass_27 : decode cX3_pass 27 = .ok (.iload_n 1, 1) := by decide +kernel
theorem dX3_pass_28 : decode cX3_pass 28 = .ok (.invokevirtual 118, 3) := by decide +kernel
theorem dX3_pass_31 : decode cX3_pass 31 = .ok (.iload_n 2, 1) := by decide +kernel
theorem dX3_pass_32 : decode cX3_pass 32 = .ok (.aload_n 0, 1) := by decide +kernel
theorem dX3_pass_33 : decode cX3_pass 33 = .ok (.invokevirtual 99, 3) := by decide +kernel
theorem dX3_pass_36 : decode cX3_pass 36 = .ok (.isub, 1) := by decide +kernel
theorem dX3_pass_37 : decode cX3_pass 37 = .ok (.ireturn, 1) := by decide +kernel
theorem dX3_kept_0 : decode cX3_kept 0 = .ok (.iconst 3, 1) := by decide +kernel
theorem dX3_kept_1 : decode cX3_kept 1 = .ok (.anewarray 121, 3) := by decide +kernel
theorem dX3_kept_4 : decode cX3_kept 4 = .ok (.dup, 1) := by decide +kernel
theorem dX3_kept_5 : decode cX3_kept 5 = .ok (.iconst 0, 1) := by decide +kernel
theorem dX3_kept_6 : decode cX3_kept 6 = .ok (.aload_n 0, 1) := by decide +kernel
theorem dX3_kept_7 : decode cX3_kept 7 = .ok (.getfield 9, 3) := by decide +kernel
theorem dX3_kept_10 : decode cX3_kept 10 = .ok (.invokevirtual 122, 3) := by decide +kernel
theorem dX3_kept_13 : decode cX3_kept 13 = .ok (.checkcast 121, 3) := by decide +kernel
theorem dX3_kept_16 : decode cX3_kept 16 = .ok (.aastore, 1) := by decide +kernel
theorem dX3_kept_17 : decode cX3_kept 17 = .ok (.dup, 1) := by decide +kernel
theorem dX3_kept_18 : decode cX3_kept 18 = .ok (.iconst 1, 1) := by decide +kernel
theorem dX3_kept_19 : decode cX3_kept 19 = .ok (.aload_n 0, 1) := by decide +kernel
theorem dX3_kept_20 : decode cX3_kept 20 = .ok (.getfield 13, 3) := by decide +kernel
theorem dX3_kept_23 : decode cX3_kept 23 = .ok (.invokevirtual 122, 3) := by decide +kernel
theorem dX3_kept_26 : decode cX3_kept 26 = .ok (.checkcast 121, 3) := by decide +kernel
theorem dX3_kept_29 : decode cX3_kept 29 = .ok (.aastore, 1) := by decide +kernel
theorem dX3_kept_30 : decode cX3_kept 30 = .ok (.dup, 1) := by decide +kernel
theorem dX3_kept_31 : decode cX3_kept 31 = .ok (.iconst 2, 1) := by decide +kernel
theorem dX3_kept_32 : decode cX3_kept 32 = .ok (.aload_n 0, 1) := by decide +kernel
theorem dX3_kept_33 : decode cX3_kept 33 = .ok (.getfield 16, 3) := by decide +kernel
theorem dX3_kept_36 : decode cX3_kept 36 = .ok (.invokevirtual 122, 3) := by decide +kernel
theorem dX3_kept_39 : decode cX3_kept 39 = .ok (.checkcast 121, 3) := by decide +kernel
theorem dX3_kept_42 : decode cX3_kept 42 = .ok (.aastore, 1) := by decide +kernel
theorem dX3_kept_43 : decode cX3_kept 43 = .ok (.areturn, 1) := by decide +kernel
theorem dX3_bringBack_0 : decode cX3_bringBack 0 = .ok (.aload_n 1, 1) := by decide +kernel
theorem dX3_bringBack_1 : decode cX3_bringBack 1 = .ok (.iconst 0, 1) := by decide +kernel
theorem dX3_bringBack_2 : decode cX3_bringBack 2 = .ok (.aaload, 1) := by decide +kernel
theorem dX3_bringBack_3 : decode cX3_bringBack 3 = .ok (.iconst 0, 1) := by decide +kernel
theorem dX3_bringBack_4 : decode cX3_bringBack 4 = .ok (.aload_n 0, 1) := by decide +kernel
theorem dX3_bringBack_5 : decode cX3_bringBack 5 = .ok (.getfield 9, 3) := by decide +kernel
theorem dX3_bringBack_8 : decode cX3_bringBack 8 = .ok (.iconst 0, 1) := by decide +kernel
theorem dX3_bringBack_9 : decode cX3_bringBack 9 = .ok (.aload_n 0, 1) := by decide +kernel
theorem dX3_bringBack_10 : decode cX3_bringBack 10 = .ok (.getfield 9, 3) := by decide +kernel
theorem dX3_bringBack_13 : decode cX3_bringBack 13 = .ok (.arraylength, 1) := by decide +kernel
theorem dX3_bringBack_14 : decode cX3_bringBack 14 = .ok (.invokestatic 79, 3) := by decide +kernel
theorem dX3_bringBack_17 : decode cX3_bringBack 17 = .ok (.aload_n 1, 1) := by decide +kernel
theorem dX3_bringBack_18 : decode cX3_bringBack 18 = .ok (.iconst 1, 1) := by decide +kernel
theorem dX3_bringBack_19 : decode cX3_bringBack 19 = .ok (.aaload, 1) := by decide +kernel
theorem dX3_bringBack_20 : decode cX3_bringBack 20 = .ok (.iconst 0, 1) := by decide +kernel
theorem dX3_bringBack_21 : decode cX3_bringBack 21 = .ok (.aload_n 0, 1) := by decide +kernel
theorem dX3_bringBack_22 : decode cX3_bringBack 22 = .ok (.getfield 13, 3) := by decide +kernel
theorem dX3_bringBack_25 : decode cX3_bringBack 25 = .ok (.iconst 0, 1) := by decide +kernel
theorem dX3_bringBack_26 : decode cX3_bringBack 26 = .ok (.aload_n 0, 1) := by decide +kernel
theorem dX3_bringBack_27 : decode cX3_bringBack 27 = .ok (.getfield 13, 3) := by decide +kernel
theorem dX3_bringBack_30 : decode cX3_bringBack 30 = .ok (.arraylength, 1) := by decide +kernel
theorem dX3_bringBack_31 : decode cX3_bringBack 31 = .ok (.invokestatic 79, 3) := by decide +kernel
theorem dX3_bringBack_34 : decode cX3_bringBack 34 = .ok (.aload_n 0, 1) := by decide +kernel
theorem dX3_bringBack_35 : decode cX3_bringBack 35 = .ok (.getfield 16, 3) := by decide +kernel
theorem dX3_bringBack_38 : decode cX3_bringBack 38 = .ok (.iconst 0, 1) := by decide +kernel
theorem dX3_bringBack_39 : decode cX3_bringBack 39 = .ok (.aload_n 1, 1) := by decide +kernel
theorem dX3_bringBack_40 : decode cX3_bringBack 40 = .ok (.iconst 2, 1) := by decide +kernel
theorem dX3_bringBack_41 : decode cX3_bringBack 41 = .ok (.aaload, 1) := by decide +kernel
theorem dX3_bringBack_42 : decode cX3_bringBack 42 = .ok (.iconst 0, 1) := by decide +kernel
theorem dX3_bringBack_43 : decode cX3_bringBack 43 = .ok (.iaload, 1) := by decide +kernel
theorem dX3_bringBack_44 : decode cX3_bringBack 44 = .ok (.iastore, 1) := by decide +kernel
theorem dX3_bringBack_45 : decode cX3_bringBack 45 = .ok (.return_, 1) := by decide +kernel
theorem dX3_without_0 : decode cX3_without 0 = .ok (.aload_n 0, 1) := by decide +kernel
theorem dX3_without_1 : decode cX3_without 1 = .ok (.iconst 0, 1) := by decide +kernel
theorem dX3_without_2 : decode cX3_without 2 = .ok (.putfield 28, 3) := by decide +kernel
theorem dX3_without_5 : decode cX3_without 5 = .ok (.aload_n 0, 1) := by decide +kernel
theorem dX3_without_6 : decode cX3_without 6 = .ok (.iload_n 1, 1) := by decide +kernel
theorem dX3_without_7 : decode cX3_without 7 = .ok (.invokevirtual 96, 3) := by decide +kernel
theorem dX3_without_10 : decode cX3_without 10 = .ok (.ifCond .ne 9, 3) := by decide +kernel
theorem dX3_without_13 : decode cX3_without 13 = .ok (.aload_n 0, 1) := by decide +kernel
theorem dX3_without_14 : decode cX3_without 14 = .ok (.iconst 1, 1) := by decide +kernel
theorem dX3_without_15 : decode cX3_without 15 = .ok (.invokevirtual 88, 3) := by decide +kernel
theorem dX3_without_18 : decode cX3_without 18 = .ok (.ireturn, 1) := by decide +kernel
theorem dX3_without_19 : decode cX3_without 19 = .ok (.aload_n 0, 1) := by decide +kernel
theorem dX3_without_20 : decode cX3_without 20 = .ok (.invokevirtual 126, 3) := by decide +kernel
theorem dX3_without_23 : decode cX3_without 23 = .ok (.astore_n 2, 1) := by decide +kernel
theorem dX3_without_24 : decode cX3_without 24 = .ok (.aload_n 0, 1) := by decide +kernel
theorem dX3_without_25 : decode cX3_without 25 = .ok (.invokevirtual 99, 3) := by decide +kernel
theorem dX3_without_28 : decode cX3_without 28 = .ok (.istore_n 3, 1) := by decide +kernel
theorem dX3_without_29 : decode cX3_without 29 = .ok (.aload_n 0, 1) := by decide +kernel
theorem dX3_without_30 : decode cX3_without 30 = .ok (.iload_n 1, 1) := by decide +kernel
theorem dX3_without_31 : decode cX3_without 31 = .ok (.iconst 3, 1) := by decide +kernel
theorem dX3_without_32 : decode cX3_without 32 = .ok (.iconst 0, 1) := by decide +kernel
theorem dX3_without_33 : decode cX3_without 33 = .ok (.invokevirtual 56, 3) := by decide +kernel
theorem dX3_without_36 : decode cX3_without 36 = .ok (.aload_n 0, 1) := by decide +kernel
theorem dX3_without_37 : decode cX3_without 37 = .ok (.iload_n 1, 1) := by decide +kernel
theorem dX3_without_38 : decode cX3_without 38 = .ok (.iconst 4, 1) := by decide +kernel
theorem dX3_without_39 : decode cX3_without 39 = .ok (.iconst (-1), 1) := by decide +kernel
theorem dX3_without_40 : decode cX3_without 40 = .ok (.invokevirtual 56, 3) := by decide +kernel
theorem dX3_without_43 : decode cX3_without 43 = .ok (.aload_n 0, 1) := by decide +kernel
theorem dX3_without_44 : decode cX3_without 44 = .ok (.iload_n 1, 1) := by decide +kernel
theorem dX3_without_45 : decode cX3_without 45 = .ok (.iconst 5, 1) := by decide +kernel
theorem dX3_without_46 : decode cX3_without 46 = .ok (.iconst (-1), 1) := by decide +kernel
theorem dX3_without_47 : decode cX3_without 47 = .ok (.invokevirtual 56, 3) := by decide +kernel
theorem dX3_without_50 : decode cX3_without 50 = .ok (.aload_n 0, 1) := by decide +kernel
theorem dX3_without_51 : decode cX3_without 51 = .ok (.invokevirtual 76, 3) := by decide +kernel
theorem dX3_without_54 : decode cX3_without 54 = .ok (.aload_n 0, 1) := by decide +kernel
theorem dX3_without_55 : decode cX3_without 55 = .ok (.invokevirtual 85, 3) := by decide +kernel
theorem dX3_without_58 : decode cX3_without 58 = .ok (.iload_n 3, 1) := by decide +kernel
theorem dX3_without_59 : decode cX3_without 59 = .ok (.aload_n 0, 1) := by decide +kernel
theorem dX3_without_60 : decode cX3_without 60 = .ok (.invokevirtual 99, 3) := by decide +kernel
theorem dX3_without_63 : decode cX3_without 63 = .ok (.isub, 1) := by decide +kernel
theorem dX3_without_64 : decode cX3_without 64 = .ok (.istore 4, 2) := by decide +kernel
theorem dX3_without_66 : decode cX3_without 66 = .ok (.aload_n 0, 1) := by decide +kernel
theorem dX3_without_67 : decode cX3_without 67 = .ok (.aload_n 2, 1) := by decide +kernel
theorem dX3_without_68 : decode cX3_without 68 = .ok (.invokevirtual 130, 3) := by decide +kernel
theorem dX3_without_71 : decode cX3_without 71 = .ok (.iload 4, 2) := by decide +kernel
theorem dX3_without_73 : decode cX3_without 73 = .ok (.ireturn, 1) := by decide +kernel
theorem dX3_lasts_0 : decode cX3_lasts 0 = .ok (.aload_n 0, 1) := by decide +kernel
theorem dX3_lasts_1 : decode cX3_lasts 1 = .ok (.iconst 0, 1) := by decide +kernel
theorem dX3_lasts_2 : decode cX3_lasts 2 = .ok (.putfield 28, 3) := by decide +kernel
theorem dX3_lasts_5 : decode cX3_lasts 5 = .ok (.aload_n 0, 1) := by decide +kernel
theorem dX3_lasts_6 : decode cX3_lasts 6 = .ok (.iload_n 1, 1) := by decide +kernel
theorem dX3_lasts_7 : decode cX3_lasts 7 = .ok (.invokevirtual 96, 3) := by decide +kernel
theorem dX3_lasts_10 : decode cX3_lasts 10 = .ok (.ifCond .ne 9, 3) := by decide +kernel
theorem dX3_lasts_13 : decode cX3_lasts 13 = .ok (.aload_n 0, 1) := by decide +kernel
theorem dX3_lasts_14 : decode cX3_lasts 14 = .ok (.iconst 1, 1) := by decide +kernel
theorem dX3_lasts_15 : decode cX3_lasts 15 = .ok (.invokevirtual 88, 3) := by decide +kernel
theorem dX3_lasts_18 : decode cX3_lasts 18 = .ok (.ireturn, 1) := by decide +kernel
theorem dX3_lasts_19 : decode cX3_lasts 19 = .ok (.aload_n 0, 1) := by decide +kernel
theorem dX3_lasts_20 : decode cX3_lasts 20 = .ok (.invokevirtual 126, 3) := by decide +kernel
theorem dX3_lasts_23 : decode cX3_lasts 23 = .ok (.astore_n 2, 1) := by decide +kernel
theorem dX3_lasts_24 : decode cX3_lasts 24 = .ok (.iconst 0, 1) := by decide +kernel
theorem dX3_lasts_25 : decode cX3_lasts 25 = .ok (.istore_n 3, 1) := by decide +kernel
theorem dX3_lasts_26 : decode cX3_lasts 26 = .ok (.iload_n 3, 1) := by decide +kernel
theorem dX3_lasts_27 : decode cX3_lasts 27 = .ok (.bipush 120, 2) := by decide +kernel
theorem dX3_lasts_29 : decode cX3_lasts 29 = .ok (.if_icmp .ge 21, 3) := by decide +kernel
theorem dX3_lasts_32 : decode cX3_lasts 32 = .ok (.aload_n 0, 1) := by decide +kernel
theorem dX3_lasts_33 : decode cX3_lasts 33 = .ok (.iload_n 1, 1) := by decide +kernel
theorem dX3_lasts_34 : decode cX3_lasts 34 = .ok (.invokevirtual 43, 3) := by decide +kernel
theorem dX3_lasts_37 : decode cX3_lasts 37 = .ok (.ifCond .eq 13, 3) := by decide +kernel
theorem dX3_lasts_40 : decode cX3_lasts 40 = .ok (.aload_n 0, 1) := by decide +kernel
theorem dX3_lasts_41 : decode cX3_lasts 41 = .ok (.invokevirtual 115, 3) := by decide +kernel
theorem dX3_lasts_44 : decode cX3_lasts 44 = .ok (.iinc 3 1, 3) := by decide +kernel
theorem dX3_lasts_47 : decode cX3_lasts 47 = .ok (.goto (-21), 3) := by decide +kernel
theorem dX3_lasts_50 : decode cX3_lasts 50 = .ok (.aload_n 0, 1) := by decide +kernel
theorem dX3_lasts_51 : decode cX3_lasts 51 = .ok (.iload_n 1, 1) := by decide +kernel
theorem dX3_lasts_52 : decode cX3_lasts 52 = .ok (.invokevirtual 43, 3) := by decide +kernel
theorem dX3_lasts_55 : decode cX3_lasts 55 = .ok (.ifCond .eq 5, 3) := by decide +kernel
theorem dX3_lasts_58 : decode cX3_lasts 58 = .ok (.iconst (-1), 1) := by decide +kernel
theorem dX3_lasts_59 : decode cX3_lasts 59 = .ok (.istore_n 3, 1) := by decide +kernel
theorem dX3_lasts_60 : decode cX3_lasts 60 = .ok (.aload_n 0, 1) := by decide +kernel
theorem dX3_lasts_61 : decode cX3_lasts 61 = .ok (.aload_n 2, 1) := by decide +kernel
theorem dX3_lasts_62 : decode cX3_lasts 62 = .ok (.invokevirtual 130, 3) := by decide +kernel
theorem dX3_lasts_65 : decode cX3_lasts 65 = .ok (.iload_n 3, 1) := by decide +kernel
theorem dX3_lasts_66 : decode cX3_lasts 66 = .ok (.ireturn, 1) := by decide +kernel
theorem dX3_foresee_0 : decode cX3_foresee 0 = .ok (.aload_n 0, 1) := by decide +kernel
theorem dX3_foresee_1 : decode cX3_foresee 1 = .ok (.iconst 0, 1) := by decide +kernel
theorem dX3_foresee_2 : decode cX3_foresee 2 = .ok (.putfield 28, 3) := by decide +kernel
theorem dX3_foresee_5 : decode cX3_foresee 5 = .ok (.iload_n 1, 1) := by decide +kernel
theorem dX3_foresee_6 : decode cX3_foresee 6 = .ok (.iconst 1, 1) := by decide +kernel
theorem dX3_foresee_7 : decode cX3_foresee 7 = .ok (.bipush 120, 2) := by decide +kernel
theorem dX3_foresee_9 : decode cX3_foresee 9 = .ok (.invokestatic 35, 3) := by decide +kernel
theorem dX3_foresee_12 : decode cX3_foresee 12 = .ok (.ifCond .ne 9, 3) := by decide +kernel
theorem dX3_foresee_15 : decode cX3_foresee 15 = .ok (.aload_n 0, 1) := by decide +kernel
theorem dX3_foresee_16 : decode cX3_foresee 16 = .ok (.iconst 1, 1) := by decide +kernel
theorem dX3_foresee_17 : decode cX3_foresee 17 = .ok (.invokevirtual 88, 3) := by decide +kernel
theorem dX3_foresee_20 : decode cX3_foresee 20 = .ok (.ireturn, 1) := by decide +kernel
theorem dX3_foresee_21 : decode cX3_foresee 21 = .ok (.iload_n 2, 1) := by decide +kernel
theorem dX3_foresee_22 : decode cX3_foresee 22 = .ok (.iconst 0, 1) := by decide +kernel
theorem dX3_foresee_23 : decode cX3_foresee 23 = .ok (.iconst 2, 1) := by decide +kernel
theorem dX3_foresee_24 : decode cX3_foresee 24 = .ok (.invokestatic 35, 3) := by decide +kernel
theorem dX3_foresee_27 : decode cX3_foresee 27 = .ok (.ifCond .ne 9, 3) := by decide +kernel
theorem dX3_foresee_30 : decode cX3_foresee 30 = .ok (.aload_n 0, 1) := by decide +kernel
theorem dX3_foresee_31 : decode cX3_foresee 31 = .ok (.iconst 2, 1) := by decide +kernel
theorem dX3_foresee_32 : decode cX3_foresee 32 = .ok (.invokevirtual 88, 3) := by decide +kernel
theorem dX3_foresee_35 : decode cX3_foresee 35 = .ok (.ireturn, 1) := by decide +kernel
theorem dX3_foresee_36 : decode cX3_foresee 36 = .ok (.aload_n 0, 1) := by decide +kernel
theorem dX3_foresee_37 : decode cX3_foresee 37 = .ok (.invokevirtual 126, 3) := by decide +kernel
theorem dX3_foresee_40 : decode cX3_foresee 40 = .ok (.astore_n 3, 1) := by decide +kernel
theorem dX3_foresee_41 : decode cX3_foresee 41 = .ok (.aload_n 0, 1) := by decide +kernel
theorem dX3_foresee_42 : decode cX3_foresee 42 = .ok (.iload_n 1, 1) := by decide +kernel
theorem dX3_foresee_43 : decode cX3_foresee 43 = .ok (.invokevirtual 118, 3) := by decide +kernel
theorem dX3_foresee_46 : decode cX3_foresee 46 = .ok (.aload_n 0, 1) := by decide +kernel
theorem dX3_foresee_47 : decode cX3_foresee 47 = .ok (.iload_n 2, 1) := by decide +kernel
theorem dX3_foresee_48 : decode cX3_foresee 48 = .ok (.ifCond .ne 7, 3) := by decide +kernel
theorem dX3_foresee_51 : decode cX3_foresee 51 = .ok (.iconst 2, 1) := by decide +kernel
theorem dX3_foresee_52 : decode cX3_foresee 52 = .ok (.goto 13, 3) := by decide +kernel
theorem dX3_foresee_55 : decode cX3_foresee 55 = .ok (.iload_n 2, 1) := by decide +kernel
theorem dX3_foresee_56 : decode cX3_foresee 56 = .ok (.iconst 1, 1) := by decide +kernel
theorem dX3_foresee_57 : decode cX3_foresee 57 = .ok (.if_icmp .ne 7, 3) := by decide +kernel
theorem dX3_foresee_60 : decode cX3_foresee 60 = .ok (.iconst 4, 1) := by decide +kernel
theorem dX3_foresee_61 : decode cX3_foresee 61 = .ok (.goto 4, 3) := by decide +kernel
theorem dX3_foresee_64 : decode cX3_foresee 64 = .ok (.iconst 5, 1) := by decide +kernel
theorem dX3_foresee_65 : decode cX3_foresee 65 = .ok (.invokevirtual 112, 3) := by decide +kernel
theorem dX3_foresee_68 : decode cX3_foresee 68 = .ok (.istore 4, 2) := by decide +kernel
theorem dX3_foresee_70 : decode cX3_foresee 70 = .ok (.aload_n 0, 1) := by decide +kernel
theorem dX3_foresee_71 : decode cX3_foresee 71 = .ok (.aload_n 3, 1) := by decide +kernel
theorem dX3_foresee_72 : decode cX3_foresee 72 = .ok (.invokevirtual 130, 3) := by decide +kernel
theorem dX3_foresee_75 : decode cX3_foresee 75 = .ok (.iload 4, 2) := by decide +kernel
theorem dX3_foresee_77 : decode cX3_foresee 77 = .ok (.ireturn, 1) := by decide +kernel
theorem dX3_advise_0 : decode cX3_advise 0 = .ok (.aload_n 0, 1) := by decide +kernel
theorem dX3_advise_1 : decode cX3_advise 1 = .ok (.iconst 0, 1) := by decide +kernel
theorem dX3_advise_2 : decode cX3_advise 2 = .ok (.putfield 28, 3) := by decide +kernel
theorem dX3_advise_5 : decode cX3_advise 5 = .ok (.iload_n 1, 1) := by decide +kernel
theorem dX3_advise_6 : decode cX3_advise 6 = .ok (.iconst 1, 1) := by decide +kernel
theorem dX3_advise_7 : decode cX3_advise 7 = .ok (.bipush 60, 2) := by decide +kernel
theorem dX3_advise_9 : decode cX3_advise 9 = .ok (.invokestatic 35, 3) := by decide +kernel
theorem dX3_advise_12 : decode cX3_advise 12 = .ok (.ifCond .eq 13, 3) := by decide +kernel
theorem dX3_advise_15 : decode cX3_advise 15 = .ok (.iload_n 2, 1) := by decide +kernel
theorem dX3_advise_16 : decode cX3_advise 16 = .ok (.iconst 1, 1) := by decide +kernel
theorem dX3_advise_17 : decode cX3_advise 17 = .ok (.bipush 60, 2) := by decide +kernel
theorem dX3_advise_19 : decode cX3_advise 19 = .ok (.invokestatic 35, 3) := by decide +kernel
theorem dX3_advise_22 : decode cX3_advise 22 = .ok (.ifCond .ne 9, 3) := by decide +kernel
theorem dX3_advise_25 : decode cX3_advise 25 = .ok (.aload_n 0, 1) := by decide +kernel
theorem dX3_advise_26 : decode cX3_advise 26 = .ok (.iconst 1, 1) := by decide +kernel
theorem dX3_advise_27 : decode cX3_advise 27 = .ok (.invokevirtual 88, 3) := by decide +kernel
theorem dX3_advise_30 : decode cX3_advise 30 = .ok (.ireturn, 1) := by decide +kernel
theorem dX3_advise_31 : decode cX3_advise 31 = .ok (.aload_n 0, 1) := by decide +kernel
theorem dX3_advise_32 : decode cX3_advise 32 = .ok (.invokevirtual 126, 3) := by decide +kernel
theorem dX3_advise_35 : decode cX3_advise 35 = .ok (.astore_n 3, 1) := by decide +kernel
theorem dX3_advise_36 : decode cX3_advise 36 = .ok (.aload_n 0, 1) := by decide +kernel
theorem dX3_advise_37 : decode cX3_advise 37 = .ok (.iload_n 2, 1) := by decide +kernel
theorem dX3_advise_38 : decode cX3_advise 38 = .ok (.invokevirtual 118, 3) := by decide +kernel
theorem dX3_advise_41 : decode cX3_advise 41 = .ok (.iconst (-1), 1) := by decide +kernel
theorem dX3_advise_42 : decode cX3_advise 42 = .ok (.istore 4, 2) := by decide +kernel
theorem dX3_advise_44 : decode cX3_advise 44 = .ok (.aload_n 0, 1) := by decide +kernel
theorem dX3_advise_45 : decode cX3_advise 45 = .ok (.invokevirtual 99, 3) := by decide +kernel
theorem dX3_advise_48 : decode cX3_advise 48 = .ok (.istore 5, 2) := by decide +kernel
theorem dX3_advise_50 : decode cX3_advise 50 = .ok (.aload_n 0, 1) := by decide +kernel
theorem dX3_advise_51 : decode cX3_advise 51 = .ok (.aload_n 3, 1) := by decide +kernel
theorem dX3_advise_52 : decode cX3_advise 52 = .ok (.invokevirtual 130, 3) := by decide +kernel
theorem dX3_advise_55 : decode cX3_advise 55 = .ok (.iconst 0, 1) := by decide +kernel
theorem dX3_advise_56 : decode cX3_advise 56 = .ok (.istore 6, 2) := by decide +kernel
theorem dX3_advise_58 : decode cX3_advise 58 = .ok (.iload 6, 2) := by decide +kernel
theorem dX3_advise_60 : decode cX3_advise 60 = .ok (.aload_n 0, 1) := by decide +kernel
theorem dX3_advise_61 : decode cX3_advise 61 = .ok (.getfield 32, 3) := by decide +kernel
theorem dX3_advise_64 : decode cX3_advise 64 = .ok (.if_icmp .ge 82, 3) := by decide +kernel
theorem dX3_advise_67 : decode cX3_advise 67 = .ok (.aload_n 0, 1) := by decide +kernel
theorem dX3_advise_68 : decode cX3_advise 68 = .ok (.iload 6, 2) := by decide +kernel
theorem dX3_advise_70 : decode cX3_advise 70 = .ok (.invokevirtual 43, 3) := by decide +kernel
theorem dX3_advise_73 : decode cX3_advise 73 = .ok (.ifCond .ne 6, 3) := by decide +kernel
theorem dX3_advise_76 : decode cX3_advise 76 = .ok (.goto 64, 3) := by decide +kernel
theorem dX3_advise_79 : decode cX3_advise 79 = .ok (.aload_n 0, 1) := by decide +kernel
theorem dX3_advise_80 : decode cX3_advise 80 = .ok (.iload 6, 2) := by decide +kernel
theorem dX3_advise_82 : decode cX3_advise 82 = .ok (.bipush 6, 2) := by decide +kernel
theorem dX3_advise_84 : decode cX3_advise 84 = .ok (.bipush 60, 2) := by decide +kernel
theorem dX3_advise_86 : decode cX3_advise 86 = .ok (.aload_n 0, 1) := by decide +kernel
theorem dX3_advise_87 : decode cX3_advise 87 = .ok (.iload 6, 2) := by decide +kernel
theorem dX3_advise_89 : decode cX3_advise 89 = .ok (.bipush 6, 2) := by decide +kernel
theorem dX3_advise_91 : decode cX3_advise 91 = .ok (.invokevirtual 39, 3) := by decide +kernel
theorem dX3_advise_94 : decode cX3_advise 94 = .ok (.iload_n 1, 1) := by decide +kernel
theorem dX3_advise_95 : decode cX3_advise 95 = .ok (.iadd, 1) := by decide +kernel
theorem dX3_advise_96 : decode cX3_advise 96 = .ok (.invokestatic 134, 3) := by decide +kernel
theorem dX3_advise_99 : decode cX3_advise 99 = .ok (.invokevirtual 56, 3) := by decide +kernel
theorem dX3_advise_102 : decode cX3_advise 102 = .ok (.aload_n 0, 1) := by decide +kernel
theorem dX3_advise_103 : decode cX3_advise 103 = .ok (.invokevirtual 85, 3) := by decide +kernel
theorem dX3_advise_106 : decode cX3_advise 106 = .ok (.aload_n 0, 1) := by decide +kernel
theorem dX3_advise_107 : decode cX3_advise 107 = .ok (.iload_n 2, 1) := by decide +kernel
theorem dX3_advise_108 : decode cX3_advise 108 = .ok (.invokevirtual 118, 3) := by decide +kernel
theorem dX3_advise_111 : decode cX3_advise 111 = .ok (.aload_n 0, 1) := by decide +kernel
theorem dX3_advise_112 : decode cX3_advise 112 = .ok (.invokevirtual 99, 3) := by decide +kernel
theorem dX3_advise_115 : decode cX3_advise 115 = .ok (.istore 7, 2) := by decide +kernel
theorem dX3_advise_117 : decode cX3_advise 117 = .ok (.aload_n 0, 1) := by decide +kernel
theorem dX3_advise_118 : decode cX3_advise 118 = .ok (.aload_n 3, 1) := by decide +kernel
theorem dX3_advise_119 : decode cX3_advise 119 = .ok (.invokevirtual 130, 3) := by decide +kernel
theorem dX3_advise_122 : decode cX3_advise 122 = .ok (.iload 7, 2) := by decide +kernel
theorem dX3_advise_124 : decode cX3_advise 124 = .ok (.iload 5, 2) := by decide +kernel
theorem dX3_advise_126 : decode cX3_advise 126 = .ok (.if_icmp .gt 6, 3) := by decide +kernel
theorem dX3_advise_129 : decode cX3_advise 129 = .ok (.goto 11, 3) := by decide +kernel
theorem dX3_advise_132 : decode cX3_advise 132 = .ok (.iload 6, 2) := by decide +kernel
theorem dX3_advise_134 : decode cX3_advise 134 = .ok (.istore 4, 2) := by decide +kernel
theorem dX3_advise_136 : decode cX3_advise 136 = .ok (.iload 7, 2) := by decide +kernel
theorem dX3_advise_138 : decode cX3_advise 138 = .ok (.istore 5, 2) := by decide +kernel
theorem dX3_advise_140 : decode cX3_advise 140 = .ok (.iinc 6 1, 3) := by decide +kernel
theorem dX3_advise_143 : decode cX3_advise 143 = .ok (.goto (-85), 3) := by decide +kernel
theorem dX3_advise_146 : decode cX3_advise 146 = .ok (.iload 4, 2) := by decide +kernel
theorem dX3_advise_148 : decode cX3_advise 148 = .ok (.ireturn, 1) := by decide +kernel
theorem dX3_mean_0 : decode cX3_mean 0 = .ok (.aload_n 0, 1) := by decide +kernel
theorem dX3_mean_1 : decode cX3_mean 1 = .ok (.iconst 0, 1) := by decide +kernel
theorem dX3_mean_2 : decode cX3_mean 2 = .ok (.putfield 28, 3) := by decide +kernel
theorem dX3_mean_5 : decode cX3_mean 5 = .ok (.aload_n 0, 1) := by decide +kernel
theorem dX3_mean_6 : decode cX3_mean 6 = .ok (.invokevirtual 73, 3) := by decide +kernel
theorem dX3_mean_9 : decode cX3_mean 9 = .ok (.iconst 0, 1) := by decide +kernel
theorem dX3_mean_10 : decode cX3_mean 10 = .ok (.istore_n 1, 1) := by decide +kernel
theorem dX3_mean_11 : decode cX3_mean 11 = .ok (.iconst 0, 1) := by decide +kernel
theorem dX3_mean_12 : decode cX3_mean 12 = .ok (.istore_n 2, 1) := by decide +kernel
theorem dX3_mean_13 : decode cX3_mean 13 = .ok (.iload_n 2, 1) := by decide +kernel
theorem dX3_mean_14 : decode cX3_mean 14 = .ok (.aload_n 0, 1) := by decide +kernel
theorem dX3_mean_15 : decode cX3_mean 15 = .ok (.getfield 32, 3) := by decide +kernel
theorem dX3_mean_18 : decode cX3_mean 18 = .ok (.if_icmp .ge 18, 3) := by decide +kernel
theorem dX3_mean_21 : decode cX3_mean 21 = .ok (.iload_n 1, 1) := by decide +kernel
theorem dX3_mean_22 : decode cX3_mean 22 = .ok (.aload_n 0, 1) := by decide +kernel
theorem dX3_mean_23 : decode cX3_mean 23 = .ok (.getfield 19, 3) := by decide +kernel
theorem dX3_mean_26 : decode cX3_mean 26 = .ok (.iload_n 2, 1) := by decide +kernel
theorem dX3_mean_27 : decode cX3_mean 27 = .ok (.iaload, 1) := by decide +kernel
theorem dX3_mean_28 : decode cX3_mean 28 = .ok (.iadd, 1) := by decide +kernel
theorem dX3_mean_29 : decode cX3_mean 29 = .ok (.istore_n 1, 1) := by decide +kernel
theorem dX3_mean_30 : decode cX3_mean 30 = .ok (.iinc 2 1, 3) := by decide +kernel
theorem dX3_mean_33 : decode cX3_mean 33 = .ok (.goto (-20), 3) := by decide +kernel
theorem dX3_mean_36 : decode cX3_mean 36 = .ok (.aload_n 0, 1) := by decide +kernel
theorem dX3_mean_37 : decode cX3_mean 37 = .ok (.invokevirtual 99, 3) := by decide +kernel
theorem dX3_mean_40 : decode cX3_mean 40 = .ok (.ifCond .ne 7, 3) := by decide +kernel
theorem dX3_mean_43 : decode cX3_mean 43 = .ok (.dconst 0, 1) := by decide +kernel
theorem dX3_mean_44 : decode cX3_mean 44 = .ok (.goto 11, 3) := by decide +kernel
theorem dX3_mean_47 : decode cX3_mean 47 = .ok (.iload_n 1, 1) := by decide +kernel
theorem dX3_mean_48 : decode cX3_mean 48 = .ok (.i2d, 1) := by decide +kernel
theorem dX3_mean_49 : decode cX3_mean 49 = .ok (.aload_n 0, 1) := by decide +kernel
theorem dX3_mean_50 : decode cX3_mean 50 = .ok (.invokevirtual 99, 3) := by decide +kernel
theorem dX3_mean_53 : decode cX3_mean 53 = .ok (.i2d, 1) := by decide +kernel
theorem dX3_mean_54 : decode cX3_mean 54 = .ok (.ddiv, 1) := by decide +kernel
theorem dX3_mean_55 : decode cX3_mean 55 = .ok (.dreturn, 1) := by decide +kernel
theorem dX3_digest_0 : decode cX3_digest 0 = .ok (.aload_n 0, 1) := by decide +kernel
theorem dX3_digest_1 : decode cX3_digest 1 = .ok (.iconst 0, 1) := by decide +kernel
theorem dX3_digest_2 : decode cX3_digest 2 = .ok (.putfield 28, 3) := by decide +kernel
theorem dX3_digest_5 : decode cX3_digest 5 = .ok (.aload_n 0, 1) := by decide +kernel
theorem dX3_digest_6 : decode cX3_digest 6 = .ok (.invokevirtual 73, 3) := by decide +kernel
theorem dX3_digest_9 : decode cX3_digest 9 = .ok (.ldc2_w 137, 3) := by decide +kernel
theorem dX3_digest_12 : decode cX3_digest 12 = .ok (.lstore_n 1, 1) := by decide +kernel
theorem dX3_digest_13 : decode cX3_digest 13 = .ok (.iconst 0, 1) := by decide +kernel
theorem dX3_digest_14 : decode cX3_digest 14 = .ok (.istore_n 3, 1) := by decide +kernel
theorem dX3_digest_15 : decode cX3_digest 15 = .ok (.iload_n 3, 1) := by decide +kernel
theorem dX3_digest_16 : decode cX3_digest 16 = .ok (.bipush 8, 2) := by decide +kernel
theorem dX3_digest_18 : decode cX3_digest 18 = .ok (.if_icmp .ge 22, 3) := by decide +kernel
theorem dX3_digest_21 : decode cX3_digest 21 = .ok (.lload_n 1, 1) := by decide +kernel
theorem dX3_digest_22 : decode cX3_digest 22 = .ok (.ldc2_w 139, 3) := by decide +kernel
theorem dX3_digest_25 : decode cX3_digest 25 = .ok (.lmul, 1) := by decide +kernel
theorem dX3_digest_26 : decode cX3_digest 26 = .ok (.aload_n 0, 1) := by decide +kernel
theorem dX3_digest_27 : decode cX3_digest 27 = .ok (.iload_n 3, 1) := by decide +kernel
theorem dX3_digest_28 : decode cX3_digest 28 = .ok (.invokevirtual 112, 3) := by decide +kernel
theorem dX3_digest_31 : decode cX3_digest 31 = .ok (.i2l, 1) := by decide +kernel
theorem dX3_digest_32 : decode cX3_digest 32 = .ok (.ladd, 1) := by decide +kernel
theorem dX3_digest_33 : decode cX3_digest 33 = .ok (.lstore_n 1, 1) := by decide +kernel
theorem dX3_digest_34 : decode cX3_digest 34 = .ok (.iinc 3 1, 3) := by decide +kernel
theorem dX3_digest_37 : decode cX3_digest 37 = .ok (.goto (-22), 3) := by decide +kernel
theorem dX3_digest_40 : decode cX3_digest 40 = .ok (.iconst 0, 1) := by decide +kernel
theorem dX3_digest_41 : decode cX3_digest 41 = .ok (.istore_n 3, 1) := by decide +kernel
theorem dX3_digest_42 : decode cX3_digest 42 = .ok (.iload_n 3, 1) := by decide +kernel
theorem dX3_digest_43 : decode cX3_digest 43 = .ok (.aload_n 0, 1) := by decide +kernel
theorem dX3_digest_44 : decode cX3_digest 44 = .ok (.getfield 32, 3) := by decide +kernel
theorem dX3_digest_47 : decode cX3_digest 47 = .ok (.if_icmp .ge 40, 3) := by decide +kernel
theorem dX3_digest_50 : decode cX3_digest 50 = .ok (.iconst 0, 1) := by decide +kernel
theorem dX3_digest_51 : decode cX3_digest 51 = .ok (.istore 4, 2) := by decide +kernel
theorem dX3_digest_53 : decode cX3_digest 53 = .ok (.iload 4, 2) := by decide +kernel
theorem dX3_digest_55 : decode cX3_digest 55 = .ok (.bipush 10, 2) := by decide +kernel
theorem dX3_digest_57 : decode cX3_digest 57 = .ok (.if_icmp .ge 24, 3) := by decide +kernel
theorem dX3_digest_60 : decode cX3_digest 60 = .ok (.lload_n 1, 1) := by decide +kernel
theorem dX3_digest_61 : decode cX3_digest 61 = .ok (.ldc2_w 139, 3) := by decide +kernel
theorem dX3_digest_64 : decode cX3_digest 64 = .ok (.lmul, 1) := by decide +kernel
theorem dX3_digest_65 : decode cX3_digest 65 = .ok (.aload_n 0, 1) := by decide +kernel
theorem dX3_digest_66 : decode cX3_digest 66 = .ok (.iload_n 3, 1) := by decide +kernel
theorem dX3_digest_67 : decode cX3_digest 67 = .ok (.iload 4, 2) := by decide +kernel
theorem dX3_digest_69 : decode cX3_digest 69 = .ok (.invokevirtual 109, 3) := by decide +kernel
theorem dX3_digest_72 : decode cX3_digest 72 = .ok (.i2l, 1) := by decide +kernel
theorem dX3_digest_73 : decode cX3_digest 73 = .ok (.ladd, 1) := by decide +kernel
theorem dX3_digest_74 : decode cX3_digest 74 = .ok (.lstore_n 1, 1) := by decide +kernel
theorem dX3_digest_75 : decode cX3_digest 75 = .ok (.iinc 4 1, 3) := by decide +kernel
theorem dX3_digest_78 : decode cX3_digest 78 = .ok (.goto (-25), 3) := by decide +kernel
theorem dX3_digest_81 : decode cX3_digest 81 = .ok (.iinc 3 1, 3) := by decide +kernel
theorem dX3_digest_84 : decode cX3_digest 84 = .ok (.goto (-42), 3) := by decide +kernel
theorem dX3_digest_87 : decode cX3_digest 87 = .ok (.iconst 0, 1) := by decide +kernel
theorem dX3_digest_88 : decode cX3_digest 88 = .ok (.istore_n 3, 1) := by decide +kernel
theorem dX3_digest_89 : decode cX3_digest 89 = .ok (.iload_n 3, 1) := by decide +kernel
theorem dX3_digest_90 : decode cX3_digest 90 = .ok (.aload_n 0, 1) := by decide +kernel
theorem dX3_digest_91 : decode cX3_digest 91 = .ok (.getfield 63, 3) := by decide +kernel
theorem dX3_digest_94 : decode cX3_digest 94 = .ok (.if_icmp .ge 39, 3) := by decide +kernel
theorem dX3_digest_97 : decode cX3_digest 97 = .ok (.iconst 0, 1) := by decide +kernel
theorem dX3_digest_98 : decode cX3_digest 98 = .ok (.istore 4, 2) := by decide +kernel
theorem dX3_digest_100 : decode cX3_digest 100 = .ok (.iload 4, 2) := by decide +kernel
theorem dX3_digest_102 : decode cX3_digest 102 = .ok (.iconst 3, 1) := by decide +kernel
theorem dX3_digest_103 : decode cX3_digest 103 = .ok (.if_icmp .ge 24, 3) := by decide +kernel
theorem dX3_digest_106 : decode cX3_digest 106 = .ok (.lload_n 1, 1) := by decide +kernel
theorem dX3_digest_107 : decode cX3_digest 107 = .ok (.ldc2_w 139, 3) := by decide +kernel
theorem dX3_digest_110 : decode cX3_digest 110 = .ok (.lmul, 1) := by decide +kernel
theorem dX3_digest_111 : decode cX3_digest 111 = .ok (.aload_n 0, 1) := by decide +kernel
theorem dX3_digest_112 : decode cX3_digest 112 = .ok (.iload_n 3, 1) := by decide +kernel
theorem dX3_digest_113 : decode cX3_digest 113 = .ok (.iload 4, 2) := by decide +kernel
theorem dX3_digest_115 : decode cX3_digest 115 = .ok (.invokevirtual 66, 3) := by decide +kernel
theorem dX3_digest_118 : decode cX3_digest 118 = .ok (.i2l, 1) := by decide +kernel
theorem dX3_digest_119 : decode cX3_digest 119 = .ok (.ladd, 1) := by decide +kernel
theorem dX3_digest_120 : decode cX3_digest 120 = .ok (.lstore_n 1, 1) := by decide +kernel
theorem dX3_digest_121 : decode cX3_digest 121 = .ok (.iinc 4 1, 3) := by decide +kernel
theorem dX3_digest_124 : decode cX3_digest 124 = .ok (.goto (-24), 3) := by decide +kernel
theorem dX3_digest_127 : decode cX3_digest 127 = .ok (.iinc 3 1, 3) := by decide +kernel
theorem dX3_digest_130 : decode cX3_digest 130 = .ok (.goto (-41), 3) := by decide +kernel
theorem dX3_digest_133 : decode cX3_digest 133 = .ok (.lload_n 1, 1) := by decide +kernel
theorem dX3_digest_134 : decode cX3_digest 134 = .ok (.lreturn, 1) := by decide +kernel
