theorem dX6_endYear_75 : decode cX6_endYear 75 = .ok (.iload_n 3, 1) := by decide +kernel
theorem dX6_endYear_76 : decode cX6_endYear 76 = .ok (.isub, 1) := by decide +kernel
theorem dX6_endYear_77 : decode cX6_endYear 77 = .ok (.iastore, 1) := by decide +kernel
theorem dX6_endYear_78 : decode cX6_endYear 78 = .ok (.iload_n 1, 1) := by decide +kernel
theorem dX6_endYear_79 : decode cX6_endYear 79 = .ok (.iload_n 3, 1) := by decide +kernel
theorem dX6_endYear_80 : decode cX6_endYear 80 = .ok (.iadd, 1) := by decide +kernel
theorem dX6_endYear_81 : decode cX6_endYear 81 = .ok (.istore_n 1, 1) := by decide +kernel
theorem dX6_endYear_82 : decode cX6_endYear 82 = .ok (.aload_n 0, 1) := by decide +kernel
theorem dX6_endYear_83 : decode cX6_endYear 83 = .ok (.getfield 18, 3) := by decide +kernel
theorem dX6_endYear_86 : decode cX6_endYear 86 = .ok (.iload_n 2, 1) := by decide +kernel
theorem dX6_endYear_87 : decode cX6_endYear 87 = .ok (.aload_n 0, 1) := by decide +kernel
theorem dX6_endYear_88 : decode cX6_endYear 88 = .ok (.getfield 21, 3) := by decide +kernel
theorem dX6_endYear_91 : decode cX6_endYear 91 = .ok (.iload_n 2, 1) := by decide +kernel
theorem dX6_endYear_92 : decode cX6_endYear 92 = .ok (.iaload, 1) := by decide +kernel
theorem dX6_endYear_93 : decode cX6_endYear 93 = .ok (.ifCond .le 21, 3) := by decide +kernel
theorem dX6_endYear_96 : decode cX6_endYear 96 = .ok (.sipush 200, 3) := by decide +kernel
theorem dX6_endYear_99 : decode cX6_endYear 99 = .ok (.aload_n 0, 1) := by decide +kernel
theorem dX6_endYear_100 : decode cX6_endYear 100 = .ok (.getfield 18, 3) := by decide +kernel
theorem dX6_endYear_103 : decode cX6_endYear 103 = .ok (.iload_n 2, 1) := by decide +kernel
theorem dX6_endYear_104 : decode cX6_endYear 104 = .ok (.iaload, 1) := by decide +kernel
theorem dX6_endYear_105 : decode cX6_endYear 105 = .ok (.bipush 20, 2) := by decide +kernel
theorem dX6_endYear_107 : decode cX6_endYear 107 = .ok (.iadd, 1) := by decide +kernel
theorem dX6_endYear_108 : decode cX6_endYear 108 = .ok (.invokestatic 99, 3) := by decide +kernel
theorem dX6_endYear_111 : decode cX6_endYear 111 = .ok (.goto 17, 3) := by decide +kernel
theorem dX6_endYear_114 : decode cX6_endYear 114 = .ok (.bipush 50, 2) := by decide +kernel
theorem dX6_endYear_116 : decode cX6_endYear 116 = .ok (.aload_n 0, 1) := by decide +kernel
theorem dX6_endYear_117 : decode cX6_endYear 117 = .ok (.getfield 18, 3) := by decide +kernel
theorem dX6_endYear_120 : decode cX6_endYear 120 = .ok (.iload_n 2, 1) := by decide +kernel
theorem dX6_endYear_121 : decode cX6_endYear 121 = .ok (.iaload, 1) := by decide +kernel
theorem dX6_endYear_122 : decode cX6_endYear 122 = .ok (.bipush 10, 2) := by decide +kernel
theorem dX6_endYear_124 : decode cX6_endYear 124 = .ok (.isub, 1) := by decide +kernel
theorem dX6_endYear_125 : decode cX6_endYear 125 = .ok (.invokestatic 104, 3) := by decide +kernel
theorem dX6_endYear_128 : decode cX6_endYear 128 = .ok (.iastore, 1) := by decide +kernel
theorem dX6_endYear_129 : decode cX6_endYear 129 = .ok (.iinc 2 1, 3) := by decide +kernel
theorem dX6_endYear_132 : decode cX6_endYear 132 = .ok (.goto (-128), 3) := by decide +kernel
theorem dX6_endYear_135 : decode cX6_endYear 135 = .ok (.aload_n 0, 1) := by decide +kernel
theorem dX6_endYear_136 : decode cX6_endYear 136 = .ok (.dup, 1) := by decide +kernel
theorem dX6_endYear_137 : decode cX6_endYear 137 = .ok (.getfield 65, 3) := by decide +kernel
theorem dX6_endYear_140 : decode cX6_endYear 140 = .ok (.iload_n 1, 1) := by decide +kernel
theorem dX6_endYear_141 : decode cX6_endYear 141 = .ok (.iadd, 1) := by decide +kernel
theorem dX6_endYear_142 : decode cX6_endYear 142 = .ok (.putfield 65, 3) := by decide +kernel
theorem dX6_endYear_145 : decode cX6_endYear 145 = .ok (.iconst 0, 1) := by decide +kernel
theorem dX6_endYear_146 : decode cX6_endYear 146 = .ok (.istore_n 2, 1) := by decide +kernel
theorem dX6_endYear_147 : decode cX6_endYear 147 = .ok (.iload_n 2, 1) := by decide +kernel
theorem dX6_endYear_148 : decode cX6_endYear 148 = .ok (.aload_n 0, 1) := by decide +kernel
theorem dX6_endYear_149 : decode cX6_endYear 149 = .ok (.getfield 58, 3) := by decide +kernel
theorem dX6_endYear_152 : decode cX6_endYear 152 = .ok (.if_icmp .ge 28, 3) := by decide +kernel
theorem dX6_endYear_155 : decode cX6_endYear 155 = .ok (.aload_n 0, 1) := by decide +kernel
theorem dX6_endYear_156 : decode cX6_endYear 156 = .ok (.iload_n 2, 1) := by decide +kernel
theorem dX6_endYear_157 : decode cX6_endYear 157 = .ok (.aload_n 0, 1) := by decide +kernel
theorem dX6_endYear_158 : decode cX6_endYear 158 = .ok (.getfield 24, 3) := by decide +kernel
theorem dX6_endYear_161 : decode cX6_endYear 161 = .ok (.iload_n 2, 1) := by decide +kernel
theorem dX6_endYear_162 : decode cX6_endYear 162 = .ok (.iaload, 1) := by decide +kernel
theorem dX6_endYear_163 : decode cX6_endYear 163 = .ok (.invokevirtual 107, 3) := by decide +kernel
theorem dX6_endYear_166 : decode cX6_endYear 166 = .ok (.pop, 1) := by decide +kernel
theorem dX6_endYear_167 : decode cX6_endYear 167 = .ok (.aload_n 0, 1) := by decide +kernel
theorem dX6_endYear_168 : decode cX6_endYear 168 = .ok (.getfield 21, 3) := by decide +kernel
theorem dX6_endYear_171 : decode cX6_endYear 171 = .ok (.iload_n 2, 1) := by decide +kernel
theorem dX6_endYear_172 : decode cX6_endYear 172 = .ok (.iconst 0, 1) := by decide +kernel
theorem dX6_endYear_173 : decode cX6_endYear 173 = .ok (.iastore, 1) := by decide +kernel
theorem dX6_endYear_174 : decode cX6_endYear 174 = .ok (.iinc 2 1, 3) := by decide +kernel
theorem dX6_endYear_177 : decode cX6_endYear 177 = .ok (.goto (-30), 3) := by decide +kernel
theorem dX6_endYear_180 : decode cX6_endYear 180 = .ok (.iconst 0, 1) := by decide +kernel
theorem dX6_endYear_181 : decode cX6_endYear 181 = .ok (.istore_n 2, 1) := by decide +kernel
theorem dX6_endYear_182 : decode cX6_endYear 182 = .ok (.iload_n 2, 1) := by decide +kernel
theorem dX6_endYear_183 : decode cX6_endYear 183 = .ok (.aload_n 0, 1) := by decide +kernel
theorem dX6_endYear_184 : decode cX6_endYear 184 = .ok (.getfield 68, 3) := by decide +kernel
theorem dX6_endYear_187 : decode cX6_endYear 187 = .ok (.if_icmp .ge 31, 3) := by decide +kernel
theorem dX6_endYear_190 : decode cX6_endYear 190 = .ok (.aload_n 0, 1) := by decide +kernel
theorem dX6_endYear_191 : decode cX6_endYear 191 = .ok (.getfield 37, 3) := by decide +kernel
theorem dX6_endYear_194 : decode cX6_endYear 194 = .ok (.iconst 5, 1) := by decide +kernel
theorem dX6_endYear_195 : decode cX6_endYear 195 = .ok (.iload_n 2, 1) := by decide +kernel
theorem dX6_endYear_196 : decode cX6_endYear 196 = .ok (.imul, 1) := by decide +kernel
theorem dX6_endYear_197 : decode cX6_endYear 197 = .ok (.iconst 3, 1) := by decide +kernel
theorem dX6_endYear_198 : decode cX6_endYear 198 = .ok (.iadd, 1) := by decide +kernel
theorem dX6_endYear_199 : decode cX6_endYear 199 = .ok (.iconst 2, 1) := by decide +kernel
theorem dX6_endYear_200 : decode cX6_endYear 200 = .ok (.aload_n 0, 1) := by decide +kernel
theorem dX6_endYear_201 : decode cX6_endYear 201 = .ok (.getfield 37, 3) := by decide +kernel
theorem dX6_endYear_204 : decode cX6_endYear 204 = .ok (.iconst 5, 1) := by decide +kernel
theorem dX6_endYear_205 : decode cX6_endYear 205 = .ok (.iload_n 2, 1) := by decide +kernel
theorem dX6_endYear_206 : decode cX6_endYear 206 = .ok (.imul, 1) := by decide +kernel
theorem dX6_endYear_207 : decode cX6_endYear 207 = .ok (.iconst 1, 1) := by decide +kernel
theorem dX6_endYear_208 : decode cX6_endYear 208 = .ok (.iadd, 1) := by decide +kernel
theorem dX6_endYear_209 : decode cX6_endYear 209 = .ok (.iaload, 1) := by decide +kernel
theorem dX6_endYear_210 : decode cX6_endYear 210 = .ok (.imul, 1) := by decide +kernel
theorem dX6_endYear_211 : decode cX6_endYear 211 = .ok (.iastore, 1) := by decide +kernel
theorem dX6_endYear_212 : decode cX6_endYear 212 = .ok (.iinc 2 1, 3) := by decide +kernel
theorem dX6_endYear_215 : decode cX6_endYear 215 = .ok (.goto (-33), 3) := by decide +kernel
theorem dX6_endYear_218 : decode cX6_endYear 218 = .ok (.aload_n 0, 1) := by decide +kernel
theorem dX6_endYear_219 : decode cX6_endYear 219 = .ok (.iconst 0, 1) := by decide +kernel
theorem dX6_endYear_220 : decode cX6_endYear 220 = .ok (.putfield 71, 3) := by decide +kernel
theorem dX6_endYear_223 : decode cX6_endYear 223 = .ok (.aload_n 0, 1) := by decide +kernel
theorem dX6_endYear_224 : decode cX6_endYear 224 = .ok (.dup, 1) := by decide +kernel
theorem dX6_endYear_225 : decode cX6_endYear 225 = .ok (.getfield 74, 3) := by decide +kernel
theorem dX6_endYear_228 : decode cX6_endYear 228 = .ok (.iconst 1, 1) := by decide +kernel
theorem dX6_endYear_229 : decode cX6_endYear 229 = .ok (.iadd, 1) := by decide +kernel
theorem dX6_endYear_230 : decode cX6_endYear 230 = .ok (.putfield 74, 3) := by decide +kernel
theorem dX6_endYear_233 : decode cX6_endYear 233 = .ok (.iload_n 1, 1) := by decide +kernel
theorem dX6_endYear_234 : decode cX6_endYear 234 = .ok (.ireturn, 1) := by decide +kernel
theorem dX7_init_0 : decode cX7_init 0 = .ok (.aload_n 0, 1) := by decide +kernel
theorem dX7_init_1 : decode cX7_init 1 = .ok (.invokespecial 1, 3) := by decide +kernel
theorem dX7_init_4 : decode cX7_init 4 = .ok (.aload_n 0, 1) := by decide +kernel
theorem dX7_init_5 : decode cX7_init 5 = .ok (.new 7, 3) := by decide +kernel
theorem dX7_init_8 : decode cX7_init 8 = .ok (.dup, 1) := by decide +kernel
theorem dX7_init_9 : decode cX7_init 9 = .ok (.invokespecial 9, 3) := by decide +kernel
theorem dX7_init_12 : decode cX7_init 12 = .ok (.putfield 10, 3) := by decide +kernel
theorem dX7_init_15 : decode cX7_init 15 = .ok (.aload_n 0, 1) := by decide +kernel
theorem dX7_init_16 : decode cX7_init 16 = .ok (.new 7, 3) := by decide +kernel
theorem dX7_init_19 : decode cX7_init 19 = .ok (.dup, 1) := by decide +kernel
theorem dX7_init_20 : decode cX7_init 20 = .ok (.invokespecial 9, 3) := by decide +kernel
theorem dX7_init_23 : decode cX7_init 23 = .ok (.putfield 16, 3) := by decide +kernel
theorem dX7_init_26 : decode cX7_init 26 = .ok (.return_, 1) := by decide +kernel
theorem dX7_thrown_0 : decode cX7_thrown 0 = .ok (.aload_n 0, 1) := by decide +kernel
theorem dX7_thrown_1 : decode cX7_thrown 1 = .ok (.getfield 19, 3) := by decide +kernel
theorem dX7_thrown_4 : decode cX7_thrown 4 = .ok (.ireturn, 1) := by decide +kernel
theorem dX7_no_0 : decode cX7_no 0 = .ok (.aload_n 0, 1) := by decide +kernel
theorem dX7_no_1 : decode cX7_no 1 = .ok (.iload_n 1, 1) := by decide +kernel
theorem dX7_no_2 : decode cX7_no 2 = .ok (.putfield 19, 3) := by decide +kernel
theorem dX7_no_5 : decode cX7_no 5 = .ok (.iconst 0, 1) := by decide +kernel
theorem dX7_no_6 : decode cX7_no 6 = .ok (.ireturn, 1) := by decide +kernel
theorem dX7_isIn_0 : decode cX7_isIn 0 = .ok (.iload_n 0, 1) := by decide +kernel
theorem dX7_isIn_1 : decode cX7_isIn 1 = .ok (.iload_n 1, 1) := by decide +kernel
theorem dX7_isIn_2 : decode cX7_isIn 2 = .ok (.if_icmp .lt 12, 3) := by decide +kernel
theorem dX7_isIn_5 : decode cX7_isIn 5 = .ok (.iload_n 0, 1) := by decide +kernel
theorem dX7_isIn_6 : decode cX7_isIn 6 = .ok (.iload_n 2, 1) := by decide +kernel
theorem dX7_isIn_7 : decode cX7_isIn 7 = .ok (.if_icmp .gt 7, 3) := by decide +kernel
theorem dX7_isIn_10 : decode cX7_isIn 10 = .ok (.iconst 1, 1) := by decide +kernel
theorem dX7_isIn_11 : decode cX7_isIn 11 = .ok (.goto 4, 3) := by decide +kernel
theorem dX7_isIn_14 : decode cX7_isIn 14 = .ok (.iconst 0, 1) := by decide +kernel
theorem dX7_isIn_15 : decode cX7_isIn 15 = .ok (.ireturn, 1) := by decide +kernel
theorem dX7_isGrower_0 : decode cX7_isGrower 0 = .ok (.iload_n 1, 1) := by decide +kernel
theorem dX7_isGrower_1 : decode cX7_isGrower 1 = .ok (.iconst 0, 1) := by decide +kernel
theorem dX7_isGrower_2 : decode cX7_isGrower 2 = .ok (.aload_n 0, 1) := by decide +kernel
theorem dX7_isGrower_3 : decode cX7_isGrower 3 = .ok (.getfield 10, 3) := by decide +kernel
theorem dX7_isGrower_6 : decode cX7_isGrower 6 = .ok (.getfield 23, 3) := by decide +kernel
theorem dX7_isGrower_9 : decode cX7_isGrower 9 = .ok (.iconst 1, 1) := by decide +kernel
theorem dX7_isGrower_10 : decode cX7_isGrower 10 = .ok (.isub, 1) := by decide +kernel
theorem dX7_isGrower_11 : decode cX7_isGrower 11 = .ok (.invokestatic 26, 3) := by decide +kernel
theorem dX7_isGrower_14 : decode cX7_isGrower 14 = .ok (.ireturn, 1) := by decide +kernel
theorem dX7_isHouse_0 : decode cX7_isHouse 0 = .ok (.iload_n 1, 1) := by decide +kernel
theorem dX7_isHouse_1 : decode cX7_isHouse 1 = .ok (.iconst 0, 1) := by decide +kernel
theorem dX7_isHouse_2 : decode cX7_isHouse 2 = .ok (.aload_n 0, 1) := by decide +kernel
theorem dX7_isHouse_3 : decode cX7_isHouse 3 = .ok (.getfield 10, 3) := by decide +kernel
theorem dX7_isHouse_6 : decode cX7_isHouse 6 = .ok (.getfield 30, 3) := by decide +kernel
theorem dX7_isHouse_9 : decode cX7_isHouse 9 = .ok (.iconst 1, 1) := by decide +kernel
theorem dX7_isHouse_10 : decode cX7_isHouse 10 = .ok (.isub, 1) := by decide +kernel
theorem dX7_isHouse_11 : decode cX7_isHouse 11 = .ok (.invokestatic 26, 3) := by decide +kernel
theorem dX7_isHouse_14 : decode cX7_isHouse 14 = .ok (.ireturn, 1) := by decide +kernel
theorem dX7_addGrower_0 : decode cX7_addGrower 0 = .ok (.aload_n 0, 1) := by decide +kernel
theorem dX7_addGrower_1 : decode cX7_addGrower 1 = .ok (.iconst 0, 1) := by decide +kernel
theorem dX7_addGrower_2 : decode cX7_addGrower 2 = .ok (.putfield 19, 3) := by decide +kernel
theorem dX7_addGrower_5 : decode cX7_addGrower 5 = .ok (.iload_n 1, 1) := by decide +kernel
theorem dX7_addGrower_6 : decode cX7_addGrower 6 = .ok (.iconst 0, 1) := by decide +kernel
theorem dX7_addGrower_7 : decode cX7_addGrower 7 = .ok (.ldc 33, 2) := by decide +kernel
theorem dX7_addGrower_9 : decode cX7_addGrower 9 = .ok (.invokestatic 26, 3) := by decide +kernel
theorem dX7_addGrower_12 : decode cX7_addGrower 12 = .ok (.ifCond .ne 9, 3) := by decide +kernel
theorem dX7_addGrower_15 : decode cX7_addGrower 15 = .ok (.aload_n 0, 1) := by decide +kernel
theorem dX7_addGrower_16 : decode cX7_addGrower 16 = .ok (.iconst 1, 1) := by decide +kernel
theorem dX7_addGrower_17 : decode cX7_addGrower 17 = .ok (.invokevirtual 34, 3) := by decide +kernel
theorem dX7_addGrower_20 : decode cX7_addGrower 20 = .ok (.ireturn, 1) := by decide +kernel
theorem dX7_addGrower_21 : decode cX7_addGrower 21 = .ok (.aload_n 0, 1) := by decide +kernel
theorem dX7_addGrower_22 : decode cX7_addGrower 22 = .ok (.getfield 10, 3) := by decide +kernel
theorem dX7_addGrower_25 : decode cX7_addGrower 25 = .ok (.getfield 23, 3) := by decide +kernel
theorem dX7_addGrower_28 : decode cX7_addGrower 28 = .ok (.bipush 6, 2) := by decide +kernel
theorem dX7_addGrower_30 : decode cX7_addGrower 30 = .ok (.if_icmp .ne 9, 3) := by decide +kernel
theorem dX7_addGrower_33 : decode cX7_addGrower 33 = .ok (.aload_n 0, 1) := by decide +kernel
theorem dX7_addGrower_34 : decode cX7_addGrower 34 = .ok (.iconst 2, 1) := by decide +kernel
theorem dX7_addGrower_35 : decode cX7_addGrower 35 = .ok (.invokevirtual 34, 3) := by decide +kernel
theorem dX7_addGrower_38 : decode cX7_addGrower 38 = .ok (.ireturn, 1) := by decide +kernel
theorem dX7_addGrower_39 : decode cX7_addGrower 39 = .ok (.aload_n 0, 1) := by decide +kernel
theorem dX7_addGrower_40 : decode cX7_addGrower 40 = .ok (.getfield 10, 3) := by decide +kernel
theorem dX7_addGrower_43 : decode cX7_addGrower 43 = .ok (.getfield 38, 3) := by decide +kernel
theorem dX7_addGrower_46 : decode cX7_addGrower 46 = .ok (.aload_n 0, 1) := by decide +kernel
theorem dX7_addGrower_47 : decode cX7_addGrower 47 = .ok (.getfield 10, 3) := by decide +kernel
theorem dX7_addGrower_50 : decode cX7_addGrower 50 = .ok (.getfield 23, 3) := by decide +kernel
theorem dX7_addGrower_53 : decode cX7_addGrower 53 = .ok (.iload_n 1, 1) := by decide +kernel
theorem dX7_addGrower_54 : decode cX7_addGrower 54 = .ok (.iastore, 1) := by decide +kernel
theorem dX7_addGrower_55 : decode cX7_addGrower 55 = .ok (.aload_n 0, 1) := by decide +kernel
theorem dX7_addGrower_56 : decode cX7_addGrower 56 = .ok (.getfield 10, 3) := by decide +kernel
theorem dX7_addGrower_59 : decode cX7_addGrower 59 = .ok (.getfield 42, 3) := by decide +kernel
theorem dX7_addGrower_62 : decode cX7_addGrower 62 = .ok (.aload_n 0, 1) := by decide +kernel
theorem dX7_addGrower_63 : decode cX7_addGrower 63 = .ok (.getfield 10, 3) := by decide +kernel
theorem dX7_addGrower_66 : decode cX7_addGrower 66 = .ok (.getfield 23, 3) := by decide +kernel
theorem dX7_addGrower_69 : decode cX7_addGrower 69 = .ok (.bipush 100, 2) := by decide +kernel
theorem dX7_addGrower_71 : decode cX7_addGrower 71 = .ok (.iastore, 1) := by decide +kernel
theorem dX7_addGrower_72 : decode cX7_addGrower 72 = .ok (.aload_n 0, 1) := by decide +kernel
theorem dX7_addGrower_73 : decode cX7_addGrower 73 = .ok (.getfield 10, 3) := by decide +kernel
theorem dX7_addGrower_76 : decode cX7_addGrower 76 = .ok (.dup, 1) := by decide +kernel
theorem dX7_addGrower_77 : decode cX7_addGrower 77 = .ok (.getfield 23, 3) := by decide +kernel
theorem dX7_addGrower_80 : decode cX7_addGrower 80 = .ok (.iconst 1, 1) := by decide +kernel
theorem dX7_addGrower_81 : decode cX7_addGrower 81 = .ok (.iadd, 1) := by decide +kernel
theorem dX7_addGrower_82 : decode cX7_addGrower 82 = .ok (.putfield 23, 3) := by decide +kernel
theorem dX7_addGrower_85 : decode cX7_addGrower 85 = .ok (.aload_n 0, 1) := by decide +kernel
theorem dX7_addGrower_86 : decode cX7_addGrower 86 = .ok (.getfield 10, 3) := by decide +kernel
theorem dX7_addGrower_89 : decode cX7_addGrower 89 = .ok (.getfield 23, 3) := by decide +kernel
theorem dX7_addGrower_92 : decode cX7_addGrower 92 = .ok (.iconst 1, 1) := by decide +kernel
theorem dX7_addGrower_93 : decode cX7_addGrower 93 = .ok (.isub, 1) := by decide +kernel
theorem dX7_addGrower_94 : decode cX7_addGrower 94 = .ok (.ireturn, 1) := by decide +kernel
theorem dX7_at_0 : decode cX7_at 0 = .ok (.iconst (-1), 1) := by decide +kernel
theorem dX7_at_1 : decode cX7_at 1 = .ok (.istore_n 3, 1) := by decide +kernel
theorem dX7_at_2 : decode cX7_at 2 = .ok (.iconst 0, 1) := by decide +kernel
theorem dX7_at_3 : decode cX7_at 3 = .ok (.istore 4, 2) := by decide +kernel
theorem dX7_at_5 : decode cX7_at 5 = .ok (.iload 4, 2) := by decide +kernel
theorem dX7_at_7 : decode cX7_at 7 = .ok (.aload_n 0, 1) := by decide +kernel
theorem dX7_at_8 : decode cX7_at 8 = .ok (.getfield 10, 3) := by decide +kernel
theorem dX7_at_11 : decode cX7_at 11 = .ok (.getfield 30, 3) := by decide +kernel
theorem dX7_at_14 : decode cX7_at 14 = .ok (.if_icmp .ge 89, 3) := by decide +kernel
theorem dX7_at_17 : decode cX7_at 17 = .ok (.bipush 7, 2) := by decide +kernel
theorem dX7_at_19 : decode cX7_at 19 = .ok (.iload 4, 2) := by decide +kernel
theorem dX7_at_21 : decode cX7_at 21 = .ok (.imul, 1) := by decide +kernel
theorem dX7_at_22 : decode cX7_at 22 = .ok (.istore 5, 2) := by decide +kernel
theorem dX7_at_24 : decode cX7_at 24 = .ok (.iload_n 1, 1) := by decide +kernel
theorem dX7_at_25 : decode cX7_at 25 = .ok (.aload_n 0, 1) := by decide +kernel
theorem dX7_at_26 : decode cX7_at 26 = .ok (.getfield 10, 3) := by decide +kernel
theorem dX7_at_29 : decode cX7_at 29 = .ok (.getfield 45, 3) := by decide +kernel
theorem dX7_at_32 : decode cX7_at 32 = .ok (.iload 5, 2) := by decide +kernel
theorem dX7_at_34 : decode cX7_at 34 = .ok (.iconst 1, 1) := by decide +kernel
theorem dX7_at_35 : decode cX7_at 35 = .ok (.iadd, 1) := by decide +kernel
theorem dX7_at_36 : decode cX7_at 36 = .ok (.iaload, 1) := by decide +kernel
theorem dX7_at_37 : decode cX7_at 37 = .ok (.isub, 1) := by decide +kernel
theorem dX7_at_38 : decode cX7_at 38 = .ok (.iconst 0, 1) := by decide +kernel
theorem dX7_at_39 : decode cX7_at 39 = .ok (.aload_n 0, 1) := by decide +kernel
theorem dX7_at_40 : decode cX7_at 40 = .ok (.getfield 10, 3) := by decide +kernel
theorem dX7_at_43 : decode cX7_at 43 = .ok (.getfield 45, 3) := by decide +kernel
theorem dX7_at_46 : decode cX7_at 46 = .ok (.iload 5, 2) := by decide +kernel
theorem dX7_at_48 : decode cX7_at 48 = .ok (.iconst 3, 1) := by decide +kernel
theorem dX7_at_49 : decode cX7_at 49 = .ok (.iadd, 1) := by decide +kernel
theorem dX7_at_50 : decode cX7_at 50 = .ok (.iaload, 1) := by decide +kernel
theorem dX7_at_51 : decode cX7_at 51 = .ok (.iconst 1, 1) := by decide +kernel
theorem dX7_at_52 : decode cX7_at 52 = .ok (.isub, 1) := by decide +kernel
theorem dX7_at_53 : decode cX7_at 53 = .ok (.invokestatic 26, 3) := by decide +kernel
theorem dX7_at_56 : decode cX7_at 56 = .ok (.ifCond .eq 41, 3) := by decide +kernel
theorem dX7_at_59 : decode cX7_at 59 = .ok (.iload_n 2, 1) := by decide +kernel
theorem dX7_at_60 : decode cX7_at 60 = .ok (.aload_n 0, 1) := by decide +kernel
theorem dX7_at_61 : decode cX7_at 61 = .ok (.getfield 10, 3) := by decide +kernel
theorem dX7_at_64 : decode cX7_at 64 = .ok (.getfield 45, 3) := by decide +kernel
theorem dX7_at_67 : decode cX7_at 67 = .ok (.iload 5, 2) := by decide +kernel
theorem dX7_at_69 : decode cX7_at 69 = .ok (.iconst 2, 1) := by decide +kernel
theorem dX7_at_70 : decode cX7_at 70 = .ok (.iadd, 1) := by decide +kernel
theorem dX7_at_71 : decode cX7_at 71 = .ok (.iaload, 1) := by decide +kernel
theorem dX7_at_72 : decode cX7_at 72 = .ok (.isub, 1) := by decide +kernel
theorem dX7_at_73 : decode cX7_at 73 = .ok (.iconst 0, 1) := by decide +kernel
theorem dX7_at_74 : decode cX7_at 74 = .ok (.aload_n 0, 1) := by decide +kernel
theorem dX7_at_75 : decode cX7_at 75 = .ok (.getfield 10, 3) := by decide +kernel
theorem dX7_at_78 : decode cX7_at 78 = .ok (.getfield 45, 3) := by decide +kernel
theorem dX7_at_81 : decode cX7_at 81 = .ok (.iload 5, 2) := by decide +kernel
theorem dX7_at_83 : decode cX7_at 83 = .ok (.iconst 4, 1) := by decide +kernel
theorem dX7_at_84 : decode cX7_at 84 = .ok (.iadd, 1) := by decide +kernel
theorem dX7_at_85 : decode cX7_at 85 = .ok (.iaload, 1) := by decide +kernel
theorem dX7_at_86 : decode cX7_at 86 = .ok (.iconst 1, 1) := by decide +kernel
theorem dX7_at_87 : decode cX7_at 87 = .ok (.isub, 1) := by decide +kernel
theorem dX7_at_88 : decode cX7_at 88 = .ok (.invokestatic 26, 3) := by decide +kernel
theorem dX7_at_91 : decode cX7_at 91 = .ok (.ifCond .eq 6, 3) := by decide +kernel
theorem dX7_at_94 : decode cX7_at 94 = .ok (.iload 4, 2) := by decide +kernel
theorem dX7_at_96 : decode cX7_at 96 = .ok (.istore_n 3, 1) := by decide +kernel
theorem dX7_at_97 : decode cX7_at 97 = .ok (.iinc 4 1, 3) := by decide +kernel
theorem dX7_at_100 : decode cX7_at 100 = .ok (.goto (-95), 3) := by decide +kernel
theorem dX7_at_103 : decode cX7_at 103 = .ok (.iload_n 3, 1) := by decide +kernel
theorem dX7_at_104 : decode cX7_at 104 = .ok (.ireturn, 1) := by decide +kernel
theorem dX7_build_0 : decode cX7_build 0 = .ok (.aload_n 0, 1) := by decide +kernel
theorem dX7_build_1 : decode cX7_build 1 = .ok (.iconst 0, 1) := by decide +kernel
theorem dX7_build_2 : decode cX7_build 2 = .ok (.putfield 19, 3) := by decide +kernel
theorem dX7_build_5 : decode cX7_build 5 = .ok (.aload_n 0, 1) := by decide +kernel
theorem dX7_build_6 : decode cX7_build 6 = .ok (.iload_n 1, 1) := by decide +kernel
theorem dX7_build_7 : decode cX7_build 7 = .ok (.invokevirtual 48, 3) := by decide +kernel
theorem dX7_build_10 : decode cX7_build 10 = .ok (.ifCond .ne 9, 3) := by decide +kernel
theorem dX7_build_13 : decode cX7_build 13 = .ok (.aload_n 0, 1) := by decide +kernel
theorem dX7_build_14 : decode cX7_build 14 = .ok (.iconst 1, 1) := by decide +kernel
theorem dX7_build_15 : decode cX7_build 15 = .ok (.invokevirtual 34, 3) := by decide +kernel
theorem dX7_build_18 : decode cX7_build 18 = .ok (.ireturn, 1) := by decide +kernel
theorem dX7_build_19 : decode cX7_build 19 = .ok (.iload 4, 2) := by decide +kernel
theorem dX7_build_21 : decode cX7_build 21 = .ok (.iconst 1, 1) := by decide +kernel
theorem dX7_build_22 : decode cX7_build 22 = .ok (.bipush 6, 2) := by decide +kernel
theorem dX7_build_24 : decode cX7_build 24 = .ok (.invokestatic 26, 3) := by decide +kernel
theorem dX7_build_27 : decode cX7_build 27 = .ok (.ifCond .eq 63, 3) := by decide +kernel
theorem dX7_build_30 : decode cX7_build 30 = .ok (.iload 5, 2) := by decide +kernel
theorem dX7_build_32 : decode cX7_build 32 = .ok (.iconst 1, 1) := by decide +kernel
theorem dX7_build_33 : decode cX7_build 33 = .ok (.bipush 6, 2) := by decide +kernel
theorem dX7_build_35 : decode cX7_build 35 = .ok (.invokestatic 26, 3) := by decide +kernel
theorem dX7_build_38 : decode cX7_build 38 = .ok (.ifCond .eq 52, 3) := by decide +kernel
theorem dX7_build_41 : decode cX7_build 41 = .ok (.iload_n 2, 1) := by decide +kernel
theorem dX7_build_42 : decode cX7_build 42 = .ok (.iconst 0, 1) := by decide +kernel
theorem dX7_build_43 : decode cX7_build 43 = .ok (.bipush 20, 2) := by decide +kernel
theorem dX7_build_45 : decode cX7_build 45 = .ok (.iload 4, 2) := by decide +kernel
theorem dX7_build_47 : decode cX7_build 47 = .ok (.isub, 1) := by decide +kernel
theorem dX7_build_48 : decode cX7_build 48 = .ok (.invokestatic 26, 3) := by decide +kernel
theorem dX7_build_51 : decode cX7_build 51 = .ok (.ifCond .eq 39, 3) := by decide +kernel
theorem dX7_build_54 : decode cX7_build 54 = .ok (.iload_n 3, 1) := by decide +kernel
theorem dX7_build_55 : decode cX7_build 55 = .ok (.iconst 0, 1) := by decide +kernel
theorem dX7_build_56 : decode cX7_build 56 = .ok (.bipush 20, 2) := by decide +kernel
theorem dX7_build_58 : decode cX7_build 58 = .ok (.iload 5, 2) := by decide +kernel
theorem dX7_build_60 : decode cX7_build 60 = .ok (.isub, 1) := by decide +kernel
theorem dX7_build_61 : decode cX7_build 61 = .ok (.invokestatic 26, 3) := by decide +kernel
theorem dX7_build_64 : decode cX7_build 64 = .ok (.ifCond .eq 26, 3) := by decide +kernel
theorem dX7_build_67 : decode cX7_build 67 = .ok (.iload 6, 2) := by decide +kernel
theorem dX7_build_69 : decode cX7_build 69 = .ok (.iconst 1, 1) := by decide +kernel
theorem dX7_build_70 : decode cX7_build 70 = .ok (.bipush 9, 2) := by decide +kernel
theorem dX7_build_72 : decode cX7_build 72 = .ok (.invokestatic 26, 3) := by decide +kernel
theorem dX7_build_75 : decode cX7_build 75 = .ok (.ifCond .eq 15, 3) := by decide +kernel
theorem dX7_build_78 : decode cX7_build 78 = .ok (.iload 7, 2) := by decide +kernel
theorem dX7_build_80 : decode cX7_build 80 = .ok (.iconst 1, 1) := by decide +kernel
theorem dX7_build_81 : decode cX7_build 81 = .ok (.sipush 1000, 3) := by decide +kernel
theorem dX7_build_84 : decode cX7_build 84 = .ok (.invokestatic 26, 3) := by decide +kernel
theorem dX7_build_87 : decode cX7_build 87 = .ok (.ifCond .ne 9, 3) := by decide +kernel
theorem dX7_build_90 : decode cX7_build 90 = .ok (.aload_n 0, 1) := by decide +kernel
theorem dX7_build_91 : decode cX7_build 91 = .ok (.iconst 2, 1) := by decide +kernel
theorem dX7_build_92 : decode cX7_build 92 = .ok (.invokevirtual 34, 3) := by decide +kernel
theorem dX7_build_95 : decode cX7_build 95 = .ok (.ireturn, 1) := by decide +kernel
theorem dX7_build_96 : decode cX7_build 96 = .ok (.aload_n 0, 1) := by decide +kernel
theorem dX7_build_97 : decode cX7_build 97 = .ok (.getfield 10, 3) := by decide +kernel
theorem dX7_build_100 : decode cX7_build 100 = .ok (.getfield 30, 3) := by decide +kernel
theorem dX7_build_103 : decode cX7_build 103 = .ok (.bipush 12, 2) := by decide +kernel
theorem dX7_build_105 : decode cX7_build 105 = .ok (.if_icmp .ge 7, 3) := by decide +kernel
theorem dX7_build_108 : decode cX7_build 108 = .ok (.iconst 1, 1) := by decide +kernel
theorem dX7_build_109 : decode cX7_build 109 = .ok (.goto 4, 3) := by decide +kernel
theorem dX7_build_112 : decode cX7_build 112 = .ok (.iconst 0, 1) := by decide +kernel
theorem dX7_build_113 : decode cX7_build 113 = .ok (.istore 8, 2) := by decide +kernel
theorem dX7_build_115 : decode cX7_build 115 = .ok (.iconst 0, 1) := by decide +kernel
theorem dX7_build_116 : decode cX7_build 116 = .ok (.istore 9, 2) := by decide +kernel
theorem dX7_build_118 : decode cX7_build 118 = .ok (.iload 9, 2) := by decide +kernel
theorem dX7_build_120 : decode cX7_build 120 = .ok (.iload 4, 2) := by decide +kernel
theorem dX7_build_122 : decode cX7_build 122 = .ok (.iload 5, 2) := by decide +kernel
theorem dX7_build_124 : decode cX7_build 124 = .ok (.imul, 1) := by decide +kernel
theorem dX7_build_125 : decode cX7_build 125 = .ok (.if_icmp .ge 43, 3) := by decide +kernel
theorem dX7_build_128 : decode cX7_build 128 = .ok (.iload 8, 2) := by decide +kernel
theorem dX7_build_130 : decode cX7_build 130 = .ok (.ifCond .eq 29, 3) := by decide +kernel
theorem dX7_build_133 : decode cX7_build 133 = .ok (.aload_n 0, 1) := by decide +kernel
theorem dX7_build_134 : decode cX7_build 134 = .ok (.iload_n 2, 1) := by decide +kernel
theorem dX7_build_135 : decode cX7_build 135 = .ok (.iload 9, 2) := by decide +kernel
theorem dX7_build_137 : decode cX7_build 137 = .ok (.iload 4, 2) := by decide +kernel
theorem dX7_build_139 : decode cX7_build 139 = .ok (.irem, 1) := by decide +kernel
theorem dX7_build_140 : decode cX7_build 140 = .ok (.iadd, 1) := by decide +kernel
theorem dX7_build_141 : decode cX7_build 141 = .ok (.iload_n 3, 1) := by decide +kernel
theorem dX7_build_142 : decode cX7_build 142 = .ok (.iload 9, 2) := by decide +kernel
theorem dX7_build_144 : decode cX7_build 144 = .ok (.iload 4, 2) := by decide +kernel
theorem dX7_build_146 : decode cX7_build 146 = .ok (.idiv, 1) := by decide +kernel
theorem dX7_build_147 : decode cX7_build 147 = .ok (.iadd, 1) := by decide +kernel
theorem dX7_build_148 : decode cX7_build 148 = .ok (.invokevirtual 52, 3) := by decide +kernel
theorem dX7_build_151 : decode cX7_build 151 = .ok (.iconst (-1), 1) := by decide +kernel
theorem dX7_build_152 : decode cX7_build 152 = .ok (.if_icmp .ne 7, 3) := by decide +kernel
theorem dX7_build_155 : decode cX7_build 155 = .ok (.iconst 1, 1) := by decide +kernel
theorem dX7_build_156 : decode cX7_build 156 = .ok (.goto 4, 3) := by decide +kernel
theorem dX7_build_159 : decode cX7_build 159 = .ok (.iconst 0, 1) := by decide +kernel
theorem dX7_build_160 : decode cX7_build 160 = .ok (.istore 8, 2) := by decide +kernel
theorem dX7_build_162 : decode cX7_build 162 = .ok (.iinc 9 1, 3) := by decide +kernel
theorem dX7_build_165 : decode cX7_build 165 = .ok (.goto (-47), 3) := by decide +kernel
theorem dX7_build_168 : decode cX7_build 168 = .ok (.iload 8, 2) := by decide +kernel
theorem dX7_build_170 : decode cX7_build 170 = .ok (.ifCond .ne 9, 3) := by decide +kernel
theorem dX7_build_173 : decode cX7_build 173 = .ok (.aload_n 0, 1) := by decide +kernel
theorem dX7_build_174 : decode cX7_build 174 = .ok (.iconst 3, 1) := by decide +kernel
theorem dX7_build_175 : decode cX7_build 175 = .ok (.invokevirtual 34, 3) := by decide +kernel
theorem dX7_build_178 : decode cX7_build 178 = .ok (.ireturn, 1) := by decide +kernel
theorem dX7_build_179 : decode cX7_build 179 = .ok (.bipush 7, 2) := by decide +kernel
theorem dX7_build_181 : decode cX7_build 181 = .ok (.newarray .int, 2) := by decide +kernel
theorem dX7_build_183 : decode cX7_build 183 = .ok (.dup, 1) := by decide +kernel
theorem dX7_build_184 : decode cX7_build 184 = .ok (.iconst 0, 1) := by decide +kernel
theorem dX7_build_185 : decode cX7_build 185 = .ok (.iload_n 1, 1) := by decide +kernel
theorem dX7_build_186 : decode cX7_build 186 = .ok (.iastore, 1) := by decide +kernel
theorem dX7_build_187 : decode cX7_build 187 = .ok (.dup, 1) := by decide +kernel
theorem dX7_build_188 : decode cX7_build 188 = .ok (.iconst 1, 1) := by decide +kernel
theorem dX7_build_189 : decode cX7_build 189 = .ok (.iload_n 2, 1) := by decide +kernel
theorem dX7_build_190 : decode cX7_build 190 = .ok (.iastore, 1) := by decide +kernel
theorem dX7_build_191 : decode cX7_build 191 = .ok (.dup, 1) := by decide +kernel
theorem dX7_build_192 : decode cX7_build 192 = .ok (.iconst 2, 1) := by decide +kernel
theorem dX7_build_193 : decode cX7_build 193 = .ok (.iload_n 3, 1) := by decide +kernel
theorem dX7_build_194 : decode cX7_build 194 = .ok (.iastore, 1) := by decide +kernel
theorem dX7_build_195 : decode cX7_build 195 = .ok (.dup, 1) := by decide +kernel
theorem dX7_build_196 : decode cX7_build 196 = .ok (.iconst 3, 1) := by decide +kernel
theorem dX7_build_197 : decode cX7_build 197 = .ok (.iload 4, 2) := by decide +kernel
theorem dX7_build_199 : decode cX7_build 199 = .ok (.iastore, 1) := by decide +kernel
theorem dX7_build_200 : decode cX7_build 200 = .ok (.dup, 1) := by decide +kernel
theorem dX7_build_201 : decode cX7_build 201 = .ok (.iconst 4, 1) := by decide +kernel
theorem dX7_build_202 : decode cX7_build 202 = .ok (.iload 5, 2) := by decide +kernel
theorem dX7_build_204 : decode cX7_build 204 = .ok (.iastore, 1) := by decide +kernel
theorem dX7_build_205 : decode cX7_build 205 = .ok (.dup, 1) := by decide +kernel
theorem dX7_build_206 : decode cX7_build 206 = .ok (.iconst 5, 1) := by decide +kernel
theorem dX7_build_207 : decode cX7_build 207 = .ok (.iload 6, 2) := by decide +kernel
theorem dX7_build_209 : decode cX7_build 209 = .ok (.iastore, 1) := by decide +kernel
theorem dX7_build_210 : decode cX7_build 210 = .ok (.dup, 1) := by decide +kernel
theorem dX7_build_211 : decode cX7_build 211 = .ok (.bipush 6, 2) := by decide +kernel
theorem dX7_build_213 : decode cX7_build 213 = .ok (.iload 7, 2) := by decide +kernel
theorem dX7_build_215 : decode cX7_build 215 = .ok (.iastore, 1) := by decide +kernel
theorem dX7_build_216 : decode cX7_build 216 = .ok (.astore 9, 2) := by decide +kernel
theorem dX7_build_218 : decode cX7_build 218 = .ok (.aload 9, 2) := by decide +kernel
theorem dX7_build_220 : decode cX7_build 220 = .ok (.iconst 0, 1) := by decide +kernel
theorem dX7_build_221 : decode cX7_build 221 = .ok (.aload_n 0, 1) := by decide +kernel
theorem dX7_build_222 : decode cX7_build 222 = .ok (.getfield 10, 3) := by decide +kernel
theorem dX7_build_225 : decode cX7_build 225 = .ok (.getfield 45, 3) := by decide +kernel
theorem dX7_build_228 : decode cX7_build 228 = .ok (.bipush 7, 2) := by decide +kernel
theorem dX7_build_230 : decode cX7_build 230 = .ok (.aload_n 0, 1) := by decide +kernel
theorem dX7_build_231 : decode cX7_build 231 = .ok (.getfield 10, 3) := by decide +kernel
theorem dX7_build_234 : decode cX7_build 234 = .ok (.getfield 30, 3) := by decide +kernel
theorem dX7_build_237 : decode cX7_build 237 = .ok (.imul, 1) := by decide +kernel
theorem dX7_build_238 : decode cX7_build 238 = .ok (.bipush 7, 2) := by decide +kernel
theorem dX7_build_240 : decode cX7_build 240 = .ok (.invokestatic 56, 3) := by decide +kernel
theorem dX7_build_243 : decode cX7_build 243 = .ok (.aload_n 0, 1) := by decide +kernel
theorem dX7_build_244 : decode cX7_build 244 = .ok (.getfield 10, 3) := by decide +kernel
theorem dX7_build_247 : decode cX7_build 247 = .ok (.dup, 1) := by decide +kernel
theorem dX7_build_248 : decode cX7_build 248 = .ok (.getfield 30, 3) := by decide +kernel
theorem dX7_build_251 : decode cX7_build 251 = .ok (.iconst 1, 1) := by decide +kernel
theorem dX7_build_252 : decode cX7_build 252 = .ok (.iadd, 1) := by decide +kernel
theorem dX7_build_253 : decode cX7_build 253 = .ok (.putfield 30, 3) := by decide +kernel
theorem dX7_build_256 : decode cX7_build 256 = .ok (.aload_n 0, 1) := by decide +kernel
theorem dX7_build_257 : decode cX7_build 257 = .ok (.getfield 10, 3) := by decide +kernel
theorem dX7_build_260 : decode cX7_build 260 = .ok (.getfield 30, 3) := by decide +kernel
theorem dX7_build_263 : decode cX7_build 263 = .ok (.iconst 1, 1) := by decide +kernel
theorem dX7_build_264 : decode cX7_build 264 = .ok (.isub, 1) := by decide +kernel
theorem dX7_build_265 : decode cX7_build 265 = .ok (.ireturn, 1) := by decide +kernel
theorem dX7_setNet_0 : decode cX7_setNet 0 = .ok (.aload_n 0, 1) := by decide +kernel
theorem dX7_setNet_1 : decode cX7_setNet 1 = .ok (.iconst 0, 1) := by decide +kernel
theorem dX7_setNet_2 : decode cX7_setNet 2 = .ok (.putfield 19, 3) := by decide +kernel
theorem dX7_setNet_5 : decode cX7_setNet 5 = .ok (.aload_n 0, 1) := by decide +kernel
theorem dX7_setNet_6 : decode cX7_setNet 6 = .ok (.iload_n 1, 1) := by decide +kernel
theorem dX7_setNet_7 : decode cX7_setNet 7 = .ok (.invokevirtual 62, 3) := by decide +kernel
theorem dX7_setNet_10 : decode cX7_setNet 10 = .ok (.ifCond .ne 10, 3) := by decide +kernel
theorem dX7_setNet_13 : decode cX7_setNet 13 = .ok (.aload_n 0, 1) := by decide +kernel
theorem dX7_setNet_14 : decode cX7_setNet 14 = .ok (.iconst 1, 1) := by decide +kernel
theorem dX7_setNet_15 : decode cX7_setNet 15 = .ok (.putfield 19, 3) := by decide +kernel
theorem dX7_setNet_18 : decode cX7_setNet 18 = .ok (.iconst 0, 1) := by decide +kernel
theorem dX7_setNet_19 : decode cX7_setNet 19 = .ok (.ireturn, 1) := by decide +kernel
theorem dX7_setNet_20 : decode cX7_setNet 20 = .ok (.aload_n 0, 1) := by decide +kernel
theorem dX7_setNet_21 : decode cX7_setNet 21 = .ok (.getfield 10, 3) := by decide +kernel
theorem dX7_setNet_24 : decode cX7_setNet 24 = .ok (.getfield 65, 3) := by decide +kernel
theorem dX7_setNet_27 : decode cX7_setNet 27 = .ok (.iload_n 1, 1) := by decide +kernel
theorem dX7_setNet_28 : decode cX7_setNet 28 = .ok (.baload, 1) := by decide +kernel
theorem dX7_setNet_29 : decode cX7_setNet 29 = .ok (.istore_n 3, 1) := by decide +kernel
theorem dX7_setNet_30 : decode cX7_setNet 30 = .ok (.aload_n 0, 1) := by decide +kernel
theorem dX7_setNet_31 : decode cX7_setNet 31 = .ok (.getfield 10, 3) := by decide +kernel
theorem dX7_setNet_34 : decode cX7_setNet 34 = .ok (.getfield 65, 3) := by decide +kernel
theorem dX7_setNet_37 : decode cX7_setNet 37 = .ok (.iload_n 1, 1) := by decide +kernel
theorem dX7_setNet_38 : decode cX7_setNet 38 = .ok (.iload_n 2, 1) := by decide +kernel
theorem dX7_setNet_39 : decode cX7_setNet 39 = .ok (.bastore, 1) := by decide +kernel
theorem dX7_setNet_40 : decode cX7_setNet 40 = .ok (.iload_n 3, 1) := by decide +kernel
theorem dX7_setNet_41 : decode cX7_setNet 41 = .ok (.ireturn, 1) := by decide +kernel
theorem dX7_insure_0 : decode cX7_insure 0 = .ok (.aload_n 0, 1) := by decide +kernel
theorem dX7_insure_1 : decode cX7_insure 1 = .ok (.iconst 0, 1) := by decide +kernel
theorem dX7_insure_2 : decode cX7_insure 2 = .ok (.putfield 19, 3) := by decide +kernel
theorem dX7_insure_5 : decode cX7_insure 5 = .ok (.aload_n 0, 1) := by decide +kernel
theorem dX7_insure_6 : decode cX7_insure 6 = .ok (.iload_n 1, 1) := by decide +kernel
theorem dX7_insure_7 : decode cX7_insure 7 = .ok (.invokevirtual 48, 3) := by decide +kernel
theorem dX7_insure_10 : decode cX7_insure 10 = .ok (.ifCond .ne 9, 3) := by decide +kernel
theorem dX7_insure_13 : decode cX7_insure 13 = .ok (.aload_n 0, 1) := by decide +kernel
theorem dX7_insure_14 : decode cX7_insure 14 = .ok (.iconst 1, 1) := by decide +kernel
theorem dX7_insure_15 : decode cX7_insure 15 = .ok (.invokevirtual 34, 3) := by decide +kernel
theorem dX7_insure_18 : decode cX7_insure 18 = .ok (.ireturn, 1) := by decide +kernel
theorem dX7_insure_19 : decode cX7_insure 19 = .ok (.iload_n 2, 1) := by decide +kernel
theorem dX7_insure_20 : decode cX7_insure 20 = .ok (.iconst 0, 1) := by decide +kernel
theorem dX7_insure_21 : decode cX7_insure 21 = .ok (.sipush 10000, 3) := by decide +kernel
theorem dX7_insure_24 : decode cX7_insure 24 = .ok (.invokestatic 26, 3) := by decide +kernel
theorem dX7_insure_27 : decode cX7_insure 27 = .ok (.ifCond .eq 24, 3) := by decide +kernel
theorem dX7_insure_30 : decode cX7_insure 30 = .ok (.iload_n 3, 1) := by decide +kernel
theorem dX7_insure_31 : decode cX7_insure 31 = .ok (.iconst 1, 1) := by decide +kernel
theorem dX7_insure_32 : decode cX7_insure 32 = .ok (.ldc 69, 2) := by decide +kernel
theorem dX7_insure_34 : decode cX7_insure 34 = .ok (.invokestatic 26, 3) := by decide +kernel
theorem dX7_insure_37 : decode cX7_insure 37 = .ok (.ifCond .eq 14, 3) := by decide +kernel
theorem dX7_insure_40 : decode cX7_insure 40 = .ok (.iload 4, 2) := by decide +kernel
theorem dX7_insure_42 : decode cX7_insure 42 = .ok (.iconst 1, 1) := by decide +kernel
theorem dX7_insure_43 : decode cX7_insure 43 = .ok (.bipush 100, 2) := by decide +kernel
theorem dX7_insure_45 : decode cX7_insure 45 = .ok (.invokestatic 26, 3) := by decide +kernel
theorem dX7_insure_48 : decode cX7_insure 48 = .ok (.ifCond .ne 9, 3) := by decide +kernel
theorem dX7_insure_51 : decode cX7_insure 51 = .ok (.aload_n 0, 1) := by decide +kernel
theorem dX7_insure_52 : decode cX7_insure 52 = .ok (.iconst 2, 1) := by decide +kernel
theorem dX7_insure_53 : decode cX7_insure 53 = .ok (.invokevirtual 34, 3) := by decide +kernel
theorem dX7_insure_56 : decode cX7_insure 56 = .ok (.ireturn, 1) := by decide +kernel
theorem dX7_insure_57 : decode cX7_insure 57 = .ok (.aload_n 0, 1) := by decide +kernel
theorem dX7_insure_58 : decode cX7_insure 58 = .ok (.getfield 10, 3) := by decide +kernel
theorem dX7_insure_61 : decode cX7_insure 61 = .ok (.getfield 70, 3) := by decide +kernel
theorem dX7_insure_64 : decode cX7_insure 64 = .ok (.iconst 3, 1) := by decide +kernel
theorem dX7_insure_65 : decode cX7_insure 65 = .ok (.iload_n 1, 1) := by decide +kernel
theorem dX7_insure_66 : decode cX7_insure 66 = .ok (.imul, 1) := by decide +kernel
theorem dX7_insure_67 : decode cX7_insure 67 = .ok (.iconst 1, 1) := by decide +kernel
theorem dX7_insure_68 : decode cX7_insure 68 = .ok (.iadd, 1) := by decide +kernel
theorem dX7_insure_69 : decode cX7_insure 69 = .ok (.iaload, 1) := by decide +kernel
theorem dX7_insure_70 : decode cX7_insure 70 = .ok (.istore 5, 2) := by decide +kernel
theorem dX7_insure_72 : decode cX7_insure 72 = .ok (.aload_n 0, 1) := by decide +kernel
theorem dX7_insure_73 : decode cX7_insure 73 = .ok (.getfield 10, 3) := by decide +kernel
theorem dX7_insure_76 : decode cX7_insure 76 = .ok (.getfield 70, 3) := by decide +kernel
theorem dX7_insure_79 : decode cX7_insure 79 = .ok (.iconst 3, 1) := by decide +kernel
theorem dX7_insure_80 : decode cX7_insure 80 = .ok (.iload_n 1, 1) := by decide +kernel
theorem dX7_insure_81 : decode cX7_insure 81 = .ok (.imul, 1) := by decide +kernel
theorem dX7_insure_82 : decode cX7_insure 82 = .ok (.iload_n 2, 1) := by decide +kernel
theorem dX7_insure_83 : decode cX7_insure 83 = .ok (.iastore, 1) := by decide +kernel
theorem dX7_insure_84 : decode cX7_insure 84 = .ok (.aload_n 0, 1) := by decide +kernel
theorem dX7_insure_85 : decode cX7_insure 85 = .ok (.getfield 10, 3) := by decide +kernel
theorem dX7_insure_88 : decode cX7_insure 88 = .ok (.getfield 70, 3) := by decide +kernel
theorem dX7_insure_91 : decode cX7_insure 91 = .ok (.iconst 3, 1) := by decide +kernel
theorem dX7_insure_92 : decode cX7_insure 92 = .ok (.iload_n 1, 1) := by decide +kernel
theorem dX7_insure_93 : decode cX7_insure 93 = .ok (.imul, 1) := by decide +kernel
theorem dX7_insure_94 : decode cX7_insure 94 = .ok (.iconst 1, 1) := by decide +kernel
theorem dX7_insure_95 : decode cX7_insure 95 = .ok (.iadd, 1) := by decide +kernel
theorem dX7_insure_96 : decode cX7_insure 96 = .ok (.iload_n 3, 1) := by decide +kernel
theorem dX7_insure_97 : decode cX7_insure 97 = .ok (.iastore, 1) := by decide +kernel
theorem dX7_insure_98 : decode cX7_insure 98 = .ok (.aload_n 0, 1) := by decide +kernel
theorem dX7_insure_99 : decode cX7_insure 99 = .ok (.getfield 10, 3) := by decide +kernel
theorem dX7_insure_102 : decode cX7_insure 102 = .ok (.getfield 70, 3) := by decide +kernel
theorem dX7_insure_105 : decode cX7_insure 105 = .ok (.iconst 3, 1) := by decide +kernel
theorem dX7_insure_106 : decode cX7_insure 106 = .ok (.iload_n 1, 1) := by decide +kernel
theorem dX7_insure_107 : decode cX7_insure 107 = .ok (.imul, 1) := by decide +kernel
theorem dX7_insure_108 : decode cX7_insure 108 = .ok (.iconst 2, 1) := by decide +kernel
theorem dX7_insure_109 : decode cX7_insure 109 = .ok (.iadd, 1) := by decide +kernel
theorem dX7_insure_110 : decode cX7_insure 110 = .ok (.iload 4, 2) := by decide +kernel
theorem dX7_insure_112 : decode cX7_insure 112 = .ok (.iastore, 1) := by decide +kernel
theorem dX7_insure_113 : decode cX7_insure 113 = .ok (.iload 5, 2) := by decide +kernel
theorem dX7_insure_115 : decode cX7_insure 115 = .ok (.ireturn, 1) := by decide +kernel
theorem dX7_mend_0 : decode cX7_mend 0 = .ok (.aload_n 0, 1) := by decide +kernel
theorem dX7_mend_1 : decode cX7_mend 1 = .ok (.iconst 0, 1) := by decide +kernel
theorem dX7_mend_2 : decode cX7_mend 2 = .ok (.putfield 19, 3) := by decide +kernel
theorem dX7_mend_5 : decode cX7_mend 5 = .ok (.aload_n 0, 1) := by decide +kernel
theorem dX7_mend_6 : decode cX7_mend 6 = .ok (.iload_n 1, 1) := by decide +kernel
theorem dX7_mend_7 : decode cX7_mend 7 = .ok (.invokevirtual 62, 3) := by decide +kernel
theorem dX7_mend_10 : decode cX7_mend 10 = .ok (.ifCond .ne 9, 3) := by decide +kernel
theorem dX7_mend_13 : decode cX7_mend 13 = .ok (.aload_n 0, 1) := by decide +kernel
theorem dX7_mend_14 : decode cX7_mend 14 = .ok (.iconst 1, 1) := by decide +kernel
theorem dX7_mend_15 : decode cX7_mend 15 = .ok (.invokevirtual 34, 3) := by decide +kernel
theorem dX7_mend_18 : decode cX7_mend 18 = .ok (.ireturn, 1) := by decide +kernel
theorem dX7_mend_19 : decode cX7_mend 19 = .ok (.aload_n 0, 1) := by decide +kernel
theorem dX7_mend_20 : decode cX7_mend 20 = .ok (.getfield 10, 3) := by decide +kernel
theorem dX7_mend_23 : decode cX7_mend 23 = .ok (.getfield 45, 3) := by decide +kernel
theorem dX7_mend_26 : decode cX7_mend 26 = .ok (.bipush 7, 2) := by decide +kernel
theorem dX7_mend_28 : decode cX7_mend 28 = .ok (.iload_n 1, 1) := by decide +kernel
theorem dX7_mend_29 : decode cX7_mend 29 = .ok (.imul, 1) := by decide +kernel
theorem dX7_mend_30 : decode cX7_mend 30 = .ok (.iaload, 1) := by decide +kernel
theorem dX7_mend_31 : decode cX7_mend 31 = .ok (.istore_n 2, 1) := by decide +kernel
theorem dX7_mend_32 : decode cX7_mend 32 = .ok (.aload_n 0, 1) := by decide +kernel
theorem dX7_mend_33 : decode cX7_mend 33 = .ok (.getfield 10, 3) := by decide +kernel
theorem dX7_mend_36 : decode cX7_mend 36 = .ok (.iload_n 1, 1) := by decide +kernel
theorem dX7_mend_37 : decode cX7_mend 37 = .ok (.invokevirtual 73, 3) := by decide +kernel
theorem dX7_mend_40 : decode cX7_mend 40 = .ok (.istore_n 3, 1) := by decide +kernel
theorem dX7_mend_41 : decode cX7_mend 41 = .ok (.iload_n 3, 1) := by decide +kernel
theorem dX7_mend_42 : decode cX7_mend 42 = .ok (.aload_n 0, 1) := by decide +kernel
theorem dX7_mend_43 : decode cX7_mend 43 = .ok (.getfield 10, 3) := by decide +kernel
theorem dX7_mend_46 : decode cX7_mend 46 = .ok (.getfield 38, 3) := by decide +kernel
theorem dX7_mend_49 : decode cX7_mend 49 = .ok (.iload_n 2, 1) := by decide +kernel
theorem dX7_mend_50 : decode cX7_mend 50 = .ok (.iaload, 1) := by decide +kernel
theorem dX7_mend_51 : decode cX7_mend 51 = .ok (.if_icmp .le 9, 3) := by decide +kernel
theorem dX7_mend_54 : decode cX7_mend 54 = .ok (.aload_n 0, 1) := by decide +kernel
theorem dX7_mend_55 : decode cX7_mend 55 = .ok (.iconst 2, 1) := by decide +kernel
theorem dX7_mend_56 : decode cX7_mend 56 = .ok (.invokevirtual 34, 3) := by decide +kernel
theorem dX7_mend_59 : decode cX7_mend 59 = .ok (.ireturn, 1) := by decide +kernel
theorem dX7_mend_60 : decode cX7_mend 60 = .ok (.aload_n 0, 1) := by decide +kernel
theorem dX7_mend_61 : decode cX7_mend 61 = .ok (.getfield 10, 3) := by decide +kernel
theorem dX7_mend_64 : decode cX7_mend 64 = .ok (.getfield 38, 3) := by decide +kernel
theorem dX7_mend_67 : decode cX7_mend 67 = .ok (.iload_n 2, 1) := by decide +kernel
theorem dX7_mend_68 : decode cX7_mend 68 = .ok (.dup2, 1) := by decide +kernel
theorem dX7_mend_69 : decode cX7_mend 69 = .ok (.iaload, 1) := by decide +kernel
theorem dX7_mend_70 : decode cX7_mend 70 = .ok (.iload_n 3, 1) := by decide +kernel
theorem dX7_mend_71 : decode cX7_mend 71 = .ok (.isub, 1) := by decide +kernel
theorem dX7_mend_72 : decode cX7_mend 72 = .ok (.iastore, 1) := by decide +kernel
theorem dX7_mend_73 : decode cX7_mend 73 = .ok (.iconst 0, 1) := by decide +kernel
theorem dX7_mend_74 : decode cX7_mend 74 = .ok (.istore 4, 2) := by decide +kernel
theorem dX7_mend_76 : decode cX7_mend 76 = .ok (.iload 4, 2) := by decide +kernel
theorem dX7_mend_78 : decode cX7_mend 78 = .ok (.aload_n 0, 1) := by decide +kernel
theorem dX7_mend_79 : decode cX7_mend 79 = .ok (.getfield 10, 3) := by decide +kernel
theorem dX7_mend_82 : decode cX7_mend 82 = .ok (.iload_n 1, 1) := by decide +kernel
theorem dX7_mend_83 : decode cX7_mend 83 = .ok (.invokevirtual 76, 3) := by decide +kernel
theorem dX7_mend_86 : decode cX7_mend 86 = .ok (.if_icmp .ge 25, 3) := by decide +kernel
theorem dX7_mend_89 : decode cX7_mend 89 = .ok (.aload_n 0, 1) := by decide +kernel
theorem dX7_mend_90 : decode cX7_mend 90 = .ok (.getfield 10, 3) := by decide +kernel
theorem dX7_mend_93 : decode cX7_mend 93 = .ok (.getfield 79, 3) := by decide +kernel
theorem dX7_mend_96 : decode cX7_mend 96 = .ok (.bipush 36, 2) := by decide +kernel
theorem dX7_mend_98 : decode cX7_mend 98 = .ok (.iload_n 1, 1) := by decide +kernel
theorem dX7_mend_99 : decode cX7_mend 99 = .ok (.imul, 1) := by decide +kernel
theorem dX7_mend_100 : decode cX7_mend 100 = .ok (.iload 4, 2) := by decide +kernel
theorem dX7_mend_102 : decode cX7_mend 102 = .ok (.iadd, 1) := by decide +kernel
theorem dX7_mend_103 : decode cX7_mend 103 = .ok (.iconst 0, 1) := by decide +kernel
theorem dX7_mend_104 : decode cX7_mend 104 = .ok (.iastore, 1) := by decide +kernel
theorem dX7_mend_105 : decode cX7_mend 105 = .ok (.iinc 4 1, 3) := by decide +kernel
theorem dX7_mend_108 : decode cX7_mend 108 = .ok (.goto (-32), 3) := by decide +kernel
theorem dX7_mend_111 : decode cX7_mend 111 = .ok (.iload_n 3, 1) := by decide +kernel
theorem dX7_mend_112 : decode cX7_mend 112 = .ok (.ireturn, 1) := by decide +kernel
theorem dX7_growerTold_0 : decode cX7_growerTold 0 = .ok (.iconst 0, 1) := by decide +kernel
theorem dX7_growerTold_1 : decode cX7_growerTold 1 = .ok (.istore_n 3, 1) := by decide +kernel
theorem dX7_growerTold_2 : decode cX7_growerTold 2 = .ok (.iconst 0, 1) := by decide +kernel
theorem dX7_growerTold_3 : decode cX7_growerTold 3 = .ok (.istore 4, 2) := by decide +kernel
theorem dX7_growerTold_5 : decode cX7_growerTold 5 = .ok (.iload 4, 2) := by decide +kernel
theorem dX7_growerTold_7 : decode cX7_growerTold 7 = .ok (.aload_n 0, 1) := by decide +kernel
theorem dX7_growerTold_8 : decode cX7_growerTold 8 = .ok (.getfield 10, 3) := by decide +kernel
theorem dX7_growerTold_11 : decode cX7_growerTold 11 = .ok (.getfield 30, 3) := by decide +kernel
theorem dX7_growerTold_14 : decode cX7_growerTold 14 = .ok (.if_icmp .ge 34, 3) := by decide +kernel
theorem dX7_growerTold_17 : decode cX7_growerTold 17 = .ok (.iload_n 3, 1) := by decide +kernel
theorem dX7_growerTold_18 : decode cX7_growerTold 18 = .ok (.aload_n 0, 1) := by decide +kernel
theorem dX7_growerTold_19 : decode cX7_growerTold 19 = .ok (.getfield 10, 3) := by decide +kernel
theorem dX7_growerTold_22 : decode cX7_growerTold 22 = .ok (.getfield 45, 3) := by decide +kernel
theorem dX7_growerTold_25 : decode cX7_growerTold 25 = .ok (.bipush 7, 2) := by decide +kernel
theorem dX7_growerTold_27 : decode cX7_growerTold 27 = .ok (.iload 4, 2) := by decide +kernel
theorem dX7_growerTold_29 : decode cX7_growerTold 29 = .ok (.imul, 1) := by decide +kernel
theorem dX7_growerTold_30 : decode cX7_growerTold 30 = .ok (.iaload, 1) := by decide +kernel
theorem dX7_growerTold_31 : decode cX7_growerTold 31 = .ok (.iload_n 1, 1) := by decide +kernel
theorem dX7_growerTold_32 : decode cX7_growerTold 32 = .ok (.if_icmp .ne 7, 3) := by decide +kernel
theorem dX7_growerTold_35 : decode cX7_growerTold 35 = .ok (.iconst 1, 1) := by decide +kernel
theorem dX7_growerTold_36 : decode cX7_growerTold 36 = .ok (.goto 4, 3) := by decide +kernel
theorem dX7_growerTold_39 : decode cX7_growerTold 39 = .ok (.iconst 0, 1) := by decide +kernel
theorem dX7_growerTold_40 : decode cX7_growerTold 40 = .ok (.iadd, 1) := by decide +kernel
theorem dX7_growerTold_41 : decode cX7_growerTold 41 = .ok (.istore_n 3, 1) := by decide +kernel
theorem dX7_growerTold_42 : decode cX7_growerTold 42 = .ok (.iinc 4 1, 3) := by decide +kernel
theorem dX7_growerTold_45 : decode cX7_growerTold 45 = .ok (.goto (-40), 3) := by decide +kernel
theorem dX7_growerTold_48 : decode cX7_growerTold 48 = .ok (.bipush 10, 2) := by decide +kernel
theorem dX7_growerTold_50 : decode cX7_growerTold 50 = .ok (.newarray .int, 2) := by decide +kernel
theorem dX7_growerTold_52 : decode cX7_growerTold 52 = .ok (.dup, 1) := by decide +kernel
theorem dX7_growerTold_53 : decode cX7_growerTold 53 = .ok (.iconst 0, 1) := by decide +kernel
theorem dX7_growerTold_54 : decode cX7_growerTold 54 = .ok (.aload_n 0, 1) := by decide +kernel
theorem dX7_growerTold_55 : decode cX7_growerTold 55 = .ok (.getfield 10, 3) := by decide +kernel
theorem dX7_growerTold_58 : decode cX7_growerTold 58 = .ok (.getfield 38, 3) := by decide +kernel
theorem dX7_growerTold_61 : decode cX7_growerTold 61 = .ok (.iload_n 1, 1) := by decide +kernel
theorem dX7_growerTold_62 : decode cX7_growerTold 62 = .ok (.iaload, 1) := by decide +kernel
theorem dX7_growerTold_63 : decode cX7_growerTold 63 = .ok (.iastore, 1) := by decide +kernel
theorem dX7_growerTold_64 : decode cX7_growerTold 64 = .ok (.dup, 1) := by decide +kernel
theorem dX7_growerTold_65 : decode cX7_growerTold 65 = .ok (.iconst 1, 1) := by decide +kernel
theorem dX7_growerTold_66 : decode cX7_growerTold 66 = .ok (.aload_n 0, 1) := by decide +kernel
theorem dX7_growerTold_67 : decode cX7_growerTold 67 = .ok (.getfield 10, 3) := by decide +kernel
theorem dX7_growerTold_70 : decode cX7_growerTold 70 = .ok (.getfield 70, 3) := by decide +kernel
theorem dX7_growerTold_73 : decode cX7_growerTold 73 = .ok (.iconst 3, 1) := by decide +kernel
theorem dX7_growerTold_74 : decode cX7_growerTold 74 = .ok (.iload_n 1, 1) := by decide +kernel
theorem dX7_growerTold_75 : decode cX7_growerTold 75 = .ok (.imul, 1) := by decide +kernel
theorem dX7_growerTold_76 : decode cX7_growerTold 76 = .ok (.iaload, 1) := by decide +kernel
theorem dX7_growerTold_77 : decode cX7_growerTold 77 = .ok (.iastore, 1) := by decide +kernel
theorem dX7_growerTold_78 : decode cX7_growerTold 78 = .ok (.dup, 1) := by decide +kernel
theorem dX7_growerTold_79 : decode cX7_growerTold 79 = .ok (.iconst 2, 1) := by decide +kernel
theorem dX7_growerTold_80 : decode cX7_growerTold 80 = .ok (.aload_n 0, 1) := by decide +kernel
theorem dX7_growerTold_81 : decode cX7_growerTold 81 = .ok (.getfield 10, 3) := by decide +kernel
theorem dX7_growerTold_84 : decode cX7_growerTold 84 = .ok (.getfield 70, 3) := by decide +kernel
theorem dX7_growerTold_87 : decode cX7_growerTold 87 = .ok (.iconst 3, 1) := by decide +kernel
theorem dX7_growerTold_88 : decode cX7_growerTold 88 = .ok (.iload_n 1, 1) := by decide +kernel
theorem dX7_growerTold_89 : decode cX7_growerTold 89 = .ok (.imul, 1) := by decide +kernel
theorem dX7_growerTold_90 : decode cX7_growerTold 90 = .ok (.iconst 1, 1) := by decide +kernel
theorem dX7_growerTold_91 : decode cX7_growerTold 91 = .ok (.iadd, 1) := by decide +kernel
theorem dX7_growerTold_92 : decode cX7_growerTold 92 = .ok (.iaload, 1) := by decide +kernel
theorem dX7_growerTold_93 : decode cX7_growerTold 93 = .ok (.iastore, 1) := by decide +kernel
theorem dX7_growerTold_94 : decode cX7_growerTold 94 = .ok (.dup, 1) := by decide +kernel
theorem dX7_growerTold_95 : decode cX7_growerTold 95 = .ok (.iconst 3, 1) := by decide +kernel
theorem dX7_growerTold_96 : decode cX7_growerTold 96 = .ok (.aload_n 0, 1) := by decide +kernel
theorem dX7_growerTold_97 : decode cX7_growerTold 97 = .ok (.getfield 10, 3) := by decide +kernel
theorem dX7_growerTold_100 : decode cX7_growerTold 100 = .ok (.getfield 70, 3) := by decide +kernel
theorem dX7_growerTold_103 : decode cX7_growerTold 103 = .ok (.iconst 3, 1) := by decide +kernel
theorem dX7_growerTold_104 : decode cX7_growerTold 104 = .ok (.iload_n 1, 1) := by decide +kernel
theorem dX7_growerTold_105 : decode cX7_growerTold 105 = .ok (.imul, 1) := by decide +kernel
theorem dX7_growerTold_106 : decode cX7_growerTold 106 = .ok (.iconst 2, 1) := by decide +kernel
theorem dX7_growerTold_107 : decode cX7_growerTold 107 = .ok (.iadd, 1) := by decide +kernel
theorem dX7_growerTold_108 : decode cX7_growerTold 108 = .ok (.iaload, 1) := by decide +kernel
theorem dX7_growerTold_109 : decode cX7_growerTold 109 = .ok (.iastore, 1) := by decide +kernel
theorem dX7_growerTold_110 : decode cX7_growerTold 110 = .ok (.dup, 1) := by decide +kernel
theorem dX7_growerTold_111 : decode cX7_growerTold 111 = .ok (.iconst 4, 1) := by decide +kernel
theorem dX7_growerTold_112 : decode cX7_growerTold 112 = .ok (.aload_n 0, 1) := by decide +kernel
theorem dX7_growerTold_113 : decode cX7_growerTold 113 = .ok (.getfield 10, 3) := by decide +kernel
theorem dX7_growerTold_116 : decode cX7_growerTold 116 = .ok (.getfield 42, 3) := by decide +kernel
theorem dX7_growerTold_119 : decode cX7_growerTold 119 = .ok (.iload_n 1, 1) := by decide +kernel
theorem dX7_growerTold_120 : decode cX7_growerTold 120 = .ok (.iaload, 1) := by decide +kernel
theorem dX7_growerTold_121 : decode cX7_growerTold 121 = .ok (.iastore, 1) := by decide +kernel
theorem dX7_growerTold_122 : decode cX7_growerTold 122 = .ok (.dup, 1) := by decide +kernel
theorem dX7_growerTold_123 : decode cX7_growerTold 123 = .ok (.iconst 5, 1) := by decide +kernel
theorem dX7_growerTold_124 : decode cX7_growerTold 124 = .ok (.aload_n 0, 1) := by decide +kernel
theorem dX7_growerTold_125 : decode cX7_growerTold 125 = .ok (.getfield 10, 3) := by decide +kernel
theorem dX7_growerTold_128 : decode cX7_growerTold 128 = .ok (.getfield 82, 3) := by decide +kernel
theorem dX7_growerTold_131 : decode cX7_growerTold 131 = .ok (.iload_n 1, 1) := by decide +kernel
theorem dX7_growerTold_132 : decode cX7_growerTold 132 = .ok (.iaload, 1) := by decide +kernel
theorem dX7_growerTold_133 : decode cX7_growerTold 133 = .ok (.iastore, 1) := by decide +kernel
theorem dX7_growerTold_134 : decode cX7_growerTold 134 = .ok (.dup, 1) := by decide +kernel
theorem dX7_growerTold_135 : decode cX7_growerTold 135 = .ok (.bipush 6, 2) := by decide +kernel
theorem dX7_growerTold_137 : decode cX7_growerTold 137 = .ok (.aload_n 0, 1) := by decide +kernel
theorem dX7_growerTold_138 : decode cX7_growerTold 138 = .ok (.getfield 10, 3) := by decide +kernel
theorem dX7_growerTold_141 : decode cX7_growerTold 141 = .ok (.getfield 85, 3) := by decide +kernel
theorem dX7_growerTold_144 : decode cX7_growerTold 144 = .ok (.iload_n 1, 1) := by decide +kernel
theorem dX7_growerTold_145 : decode cX7_growerTold 145 = .ok (.iaload, 1) := by decide +kernel
theorem dX7_growerTold_146 : decode cX7_growerTold 146 = .ok (.iastore, 1) := by decide +kernel
theorem dX7_growerTold_147 : decode cX7_growerTold 147 = .ok (.dup, 1) := by decide +kernel
theorem dX7_growerTold_148 : decode cX7_growerTold 148 = .ok (.bipush 7, 2) := by decide +kernel
theorem dX7_growerTold_150 : decode cX7_growerTold 150 = .ok (.iload_n 3, 1) := by decide +kernel
theorem dX7_growerTold_151 : decode cX7_growerTold 151 = .ok (.iastore, 1) := by decide +kernel
theorem dX7_growerTold_152 : decode cX7_growerTold 152 = .ok (.dup, 1) := by decide +kernel
theorem dX7_growerTold_153 : decode cX7_growerTold 153 = .ok (.bipush 8, 2) := by decide +kernel
theorem dX7_growerTold_155 : decode cX7_growerTold 155 = .ok (.aload_n 0, 1) := by decide +kernel
theorem dX7_growerTold_156 : decode cX7_growerTold 156 = .ok (.getfield 10, 3) := by decide +kernel
theorem dX7_growerTold_159 : decode cX7_growerTold 159 = .ok (.iload_n 1, 1) := by decide +kernel
theorem dX7_growerTold_160 : decode cX7_growerTold 160 = .ok (.invokevirtual 88, 3) := by decide +kernel
theorem dX7_growerTold_163 : decode cX7_growerTold 163 = .ok (.iastore, 1) := by decide +kernel
theorem dX7_growerTold_164 : decode cX7_growerTold 164 = .ok (.dup, 1) := by decide +kernel
theorem dX7_growerTold_165 : decode cX7_growerTold 165 = .ok (.bipush 9, 2) := by decide +kernel
theorem dX7_growerTold_167 : decode cX7_growerTold 167 = .ok (.aload_n 0, 1) := by decide +kernel
theorem dX7_growerTold_168 : decode cX7_growerTold 168 = .ok (.getfield 10, 3) := by decide +kernel
theorem dX7_growerTold_171 : decode cX7_growerTold 171 = .ok (.iload_n 1, 1) := by decide +kernel
theorem dX7_growerTold_172 : decode cX7_growerTold 172 = .ok (.invokevirtual 91, 3) := by decide +kernel
theorem dX7_growerTold_175 : decode cX7_growerTold 175 = .ok (.iastore, 1) := by decide +kernel
theorem dX7_growerTold_176 : decode cX7_growerTold 176 = .ok (.astore 4, 2) := by decide +kernel
theorem dX7_growerTold_178 : decode cX7_growerTold 178 = .ok (.aload 4, 2) := by decide +kernel
theorem dX7_growerTold_180 : decode cX7_growerTold 180 = .ok (.iload_n 2, 1) := by decide +kernel
theorem dX7_growerTold_181 : decode cX7_growerTold 181 = .ok (.iaload, 1) := by decide +kernel
theorem dX7_growerTold_182 : decode cX7_growerTold 182 = .ok (.ireturn, 1) := by decide +kernel
theorem dX7_grower_0 : decode cX7_grower 0 = .ok (.aload_n 0, 1) := by decide +kernel
theorem dX7_grower_1 : decode cX7_grower 1 = .ok (.iconst 0, 1) := by decide +kernel
theorem dX7_grower_2 : decode cX7_grower 2 = .ok (.putfield 19, 3) := by decide +kernel
theorem dX7_grower_5 : decode cX7_grower 5 = .ok (.aload_n 0, 1) := by decide +kernel
theorem dX7_grower_6 : decode cX7_grower 6 = .ok (.iload_n 1, 1) := by decide +kernel
theorem dX7_grower_7 : decode cX7_grower 7 = .ok (.invokevirtual 48, 3) := by decide +kernel
theorem dX7_grower_10 : decode cX7_grower 10 = .ok (.ifCond .eq 22, 3) := by decide +kernel
theorem dX7_grower_13 : decode cX7_grower 13 = .ok (.iload_n 2, 1) := by decide +kernel
theorem dX7_grower_14 : decode cX7_grower 14 = .ok (.iconst 0, 1) := by decide +kernel
theorem dX7_grower_15 : decode cX7_grower 15 = .ok (.bipush 9, 2) := by decide +kernel
theorem dX7_grower_17 : decode cX7_grower 17 = .ok (.invokestatic 26, 3) := by decide +kernel
theorem dX7_grower_20 : decode cX7_grower 20 = .ok (.ifCond .eq 12, 3) := by decide +kernel
theorem dX7_grower_23 : decode cX7_grower 23 = .ok (.aload_n 0, 1) := by decide +kernel
theorem dX7_grower_24 : decode cX7_grower 24 = .ok (.iload_n 1, 1) := by decide +kernel
theorem dX7_grower_25 : decode cX7_grower 25 = .ok (.iload_n 2, 1) := by decide +kernel
theorem dX7_grower_26 : decode cX7_grower 26 = .ok (.invokevirtual 94, 3) := by decide +kernel
theorem dX7_grower_29 : decode cX7_grower 29 = .ok (.goto 8, 3) := by decide +kernel
theorem dX7_grower_32 : decode cX7_grower 32 = .ok (.aload_n 0, 1) := by decide +kernel
theorem dX7_grower_33 : decode cX7_grower 33 = .ok (.iconst 1, 1) := by decide +kernel
theorem dX7_grower_34 : decode cX7_grower 34 = .ok (.invokevirtual 34, 3) := by decide +kernel
theorem dX7_grower_37 : decode cX7_grower 37 = .ok (.ireturn, 1) := by decide +kernel
theorem dX7_houseTold_0 : decode cX7_houseTold 0 = .ok (.iload_n 2, 1) := by decide +kernel
theorem dX7_houseTold_1 : decode cX7_houseTold 1 = .ok (.bipush 7, 2) := by decide +kernel
theorem dX7_houseTold_3 : decode cX7_houseTold 3 = .ok (.if_icmp .ge 18, 3) := by decide +kernel
theorem dX7_houseTold_6 : decode cX7_houseTold 6 = .ok (.aload_n 0, 1) := by decide +kernel
theorem dX7_houseTold_7 : decode cX7_houseTold 7 = .ok (.getfield 10, 3) := by decide +kernel
theorem dX7_houseTold_10 : decode cX7_houseTold 10 = .ok (.getfield 45, 3) := by decide +kernel
theorem dX7_houseTold_13 : decode cX7_houseTold 13 = .ok (.bipush 7, 2) := by decide +kernel
theorem dX7_houseTold_15 : decode cX7_houseTold 15 = .ok (.iload_n 1, 1) := by decide +kernel
theorem dX7_houseTold_16 : decode cX7_houseTold 16 = .ok (.imul, 1) := by decide +kernel
theorem dX7_houseTold_17 : decode cX7_houseTold 17 = .ok (.iload_n 2, 1) := by decide +kernel
theorem dX7_houseTold_18 : decode cX7_houseTold 18 = .ok (.iadd, 1) := by decide +kernel
theorem dX7_houseTold_19 : decode cX7_houseTold 19 = .ok (.iaload, 1) := by decide +kernel
theorem dX7_houseTold_20 : decode cX7_houseTold 20 = .ok (.ireturn, 1) := by decide +kernel
theorem dX7_houseTold_21 : decode cX7_houseTold 21 = .ok (.iload_n 2, 1) := by decide +kernel
theorem dX7_houseTold_22 : decode cX7_houseTold 22 = .ok (.bipush 7, 2) := by decide +kernel
theorem dX7_houseTold_24 : decode cX7_houseTold 24 = .ok (.if_icmp .ne 21, 3) := by decide +kernel
theorem dX7_houseTold_27 : decode cX7_houseTold 27 = .ok (.aload_n 0, 1) := by decide +kernel
theorem dX7_houseTold_28 : decode cX7_houseTold 28 = .ok (.getfield 10, 3) := by decide +kernel
theorem dX7_houseTold_31 : decode cX7_houseTold 31 = .ok (.getfield 65, 3) := by decide +kernel
theorem dX7_houseTold_34 : decode cX7_houseTold 34 = .ok (.iload_n 1, 1) := by decide +kernel
theorem dX7_houseTold_35 : decode cX7_houseTold 35 = .ok (.baload, 1) := by decide +kernel
theorem dX7_houseTold_36 : decode cX7_houseTold 36 = .ok (.ifCond .eq 7, 3) := by decide +kernel
theorem dX7_houseTold_39 : decode cX7_houseTold 39 = .ok (.iconst 1, 1) := by decide +kernel
theorem dX7_houseTold_40 : decode cX7_houseTold 40 = .ok (.goto 4, 3) := by decide +kernel
theorem dX7_houseTold_43 : decode cX7_houseTold 43 = .ok (.iconst 0, 1) := by decide +kernel
theorem dX7_houseTold_44 : decode cX7_houseTold 44 = .ok (.ireturn, 1) := by decide +kernel
theorem dX7_houseTold_45 : decode cX7_houseTold 45 = .ok (.iload_n 2, 1) := by decide +kernel
theorem dX7_houseTold_46 : decode cX7_houseTold 46 = .ok (.bipush 10, 2) := by decide +kernel
theorem dX7_houseTold_48 : decode cX7_houseTold 48 = .ok (.if_icmp .ne 14, 3) := by decide +kernel
theorem dX7_houseTold_51 : decode cX7_houseTold 51 = .ok (.aload_n 0, 1) := by decide +kernel
theorem dX7_houseTold_52 : decode cX7_houseTold 52 = .ok (.getfield 10, 3) := by decide +kernel
theorem dX7_houseTold_55 : decode cX7_houseTold 55 = .ok (.iload_n 1, 1) := by decide +kernel
theorem dX7_houseTold_56 : decode cX7_houseTold 56 = .ok (.invokevirtual 73, 3) := by decide +kernel
theorem dX7_houseTold_59 : decode cX7_houseTold 59 = .ok (.goto 15, 3) := by decide +kernel
theorem dX7_houseTold_62 : decode cX7_houseTold 62 = .ok (.aload_n 0, 1) := by decide +kernel
theorem dX7_houseTold_63 : decode cX7_houseTold 63 = .ok (.getfield 10, 3) := by decide +kernel
theorem dX7_houseTold_66 : decode cX7_houseTold 66 = .ok (.iload_n 1, 1) := by decide +kernel
theorem dX7_houseTold_67 : decode cX7_houseTold 67 = .ok (.iload_n 2, 1) := by decide +kernel
theorem dX7_houseTold_68 : decode cX7_houseTold 68 = .ok (.bipush 7, 2) := by decide +kernel
theorem dX7_houseTold_70 : decode cX7_houseTold 70 = .ok (.isub, 1) := by decide +kernel
theorem dX7_houseTold_71 : decode cX7_houseTold 71 = .ok (.invokevirtual 97, 3) := by decide +kernel
theorem dX7_houseTold_74 : decode cX7_houseTold 74 = .ok (.ireturn, 1) := by decide +kernel
theorem dX7_house_0 : decode cX7_house 0 = .ok (.aload_n 0, 1) := by decide +kernel
theorem dX7_house_1 : decode cX7_house 1 = .ok (.iconst 0, 1) := by decide +kernel
theorem dX7_house_2 : decode cX7_house 2 = .ok (.putfield 19, 3) := by decide +kernel
theorem dX7_house_5 : decode cX7_house 5 = .ok (.aload_n 0, 1) := by decide +kernel
theorem dX7_house_6 : decode cX7_house 6 = .ok (.iload_n 1, 1) := by decide +kernel
theorem dX7_house_7 : decode cX7_house 7 = .ok (.invokevirtual 62, 3) := by decide +kernel
theorem dX7_house_10 : decode cX7_house 10 = .ok (.ifCond .eq 22, 3) := by decide +kernel
theorem dX7_house_13 : decode cX7_house 13 = .ok (.iload_n 2, 1) := by decide +kernel
theorem dX7_house_14 : decode cX7_house 14 = .ok (.iconst 0, 1) := by decide +kernel
theorem dX7_house_15 : decode cX7_house 15 = .ok (.bipush 10, 2) := by decide +kernel
theorem dX7_house_17 : decode cX7_house 17 = .ok (.invokestatic 26, 3) := by decide +kernel
theorem dX7_house_20 : decode cX7_house 20 = .ok (.ifCond .eq 12, 3) := by decide +kernel
theorem dX7_house_23 : decode cX7_house 23 = .ok (.aload_n 0, 1) := by decide +kernel
theorem dX7_house_24 : decode cX7_house 24 = .ok (.iload_n 1, 1) := by decide +kernel
theorem dX7_house_25 : decode cX7_house 25 = .ok (.iload_n 2, 1) := by decide +kernel
theorem dX7_house_26 : decode cX7_house 26 = .ok (.invokevirtual 100, 3) := by decide +kernel
theorem dX7_house_29 : decode cX7_house 29 = .ok (.goto 8, 3) := by decide +kernel
theorem dX7_house_32 : decode cX7_house 32 = .ok (.aload_n 0, 1) := by decide +kernel
theorem dX7_house_33 : decode cX7_house 33 = .ok (.iconst 1, 1) := by decide +kernel
theorem dX7_house_34 : decode cX7_house 34 = .ok (.invokevirtual 34, 3) := by decide +kernel
theorem dX7_house_37 : decode cX7_house 37 = .ok (.ireturn, 1) := by decide +kernel
theorem dX7_pane_0 : decode cX7_pane 0 = .ok (.aload_n 0, 1) := by decide +kernel
theorem dX7_pane_1 : decode cX7_pane 1 = .ok (.iconst 0, 1) := by decide +kernel
theorem dX7_pane_2 : decode cX7_pane 2 = .ok (.putfield 19, 3) := by decide +kernel
theorem dX7_pane_5 : decode cX7_pane 5 = .ok (.iload_n 1, 1) := by decide +kernel
theorem dX7_pane_6 : decode cX7_pane 6 = .ok (.iconst 0, 1) := by decide +kernel
theorem dX7_pane_7 : decode cX7_pane 7 = .ok (.bipush 19, 2) := by decide +kernel
theorem dX7_pane_9 : decode cX7_pane 9 = .ok (.invokestatic 26, 3) := by decide +kernel
theorem dX7_pane_12 : decode cX7_pane 12 = .ok (.ifCond .eq 13, 3) := by decide +kernel
theorem dX7_pane_15 : decode cX7_pane 15 = .ok (.iload_n 2, 1) := by decide +kernel
theorem dX7_pane_16 : decode cX7_pane 16 = .ok (.iconst 0, 1) := by decide +kernel
theorem dX7_pane_17 : decode cX7_pane 17 = .ok (.bipush 19, 2) := by decide +kernel
theorem dX7_pane_19 : decode cX7_pane 19 = .ok (.invokestatic 26, 3) := by decide +kernel
theorem dX7_pane_22 : decode cX7_pane 22 = .ok (.ifCond .ne 9, 3) := by decide +kernel
theorem dX7_pane_25 : decode cX7_pane 25 = .ok (.aload_n 0, 1) := by decide +kernel
theorem dX7_pane_26 : decode cX7_pane 26 = .ok (.iconst 1, 1) := by decide +kernel
theorem dX7_pane_27 : decode cX7_pane 27 = .ok (.invokevirtual 34, 3) := by decide +kernel
theorem dX7_pane_30 : decode cX7_pane 30 = .ok (.ireturn, 1) := by decide +kernel
theorem dX7_pane_31 : decode cX7_pane 31 = .ok (.aload_n 0, 1) := by decide +kernel
theorem dX7_pane_32 : decode cX7_pane 32 = .ok (.iload_n 1, 1) := by decide +kernel
theorem dX7_pane_33 : decode cX7_pane 33 = .ok (.iload_n 2, 1) := by decide +kernel
theorem dX7_pane_34 : decode cX7_pane 34 = .ok (.invokevirtual 52, 3) := by decide +kernel
theorem dX7_pane_37 : decode cX7_pane 37 = .ok (.istore_n 3, 1) := by decide +kernel
theorem dX7_pane_38 : decode cX7_pane 38 = .ok (.iload_n 3, 1) := by decide +kernel
theorem dX7_pane_39 : decode cX7_pane 39 = .ok (.iconst (-1), 1) := by decide +kernel
theorem dX7_pane_40 : decode cX7_pane 40 = .ok (.if_icmp .ne 7, 3) := by decide +kernel
theorem dX7_pane_43 : decode cX7_pane 43 = .ok (.iconst (-1), 1) := by decide +kernel
theorem dX7_pane_44 : decode cX7_pane 44 = .ok (.goto 64, 3) := by decide +kernel
theorem dX7_pane_47 : decode cX7_pane 47 = .ok (.aload_n 0, 1) := by decide +kernel
theorem dX7_pane_48 : decode cX7_pane 48 = .ok (.getfield 10, 3) := by decide +kernel
theorem dX7_pane_51 : decode cX7_pane 51 = .ok (.getfield 79, 3) := by decide +kernel
theorem dX7_pane_54 : decode cX7_pane 54 = .ok (.bipush 36, 2) := by decide +kernel
theorem dX7_pane_56 : decode cX7_pane 56 = .ok (.iload_n 3, 1) := by decide +kernel
theorem dX7_pane_57 : decode cX7_pane 57 = .ok (.imul, 1) := by decide +kernel
theorem dX7_pane_58 : decode cX7_pane 58 = .ok (.iload_n 1, 1) := by decide +kernel
theorem dX7_pane_59 : decode cX7_pane 59 = .ok (.iadd, 1) := by decide +kernel
theorem dX7_pane_60 : decode cX7_pane 60 = .ok (.aload_n 0, 1) := by decide +kernel
theorem dX7_pane_61 : decode cX7_pane 61 = .ok (.getfield 10, 3) := by decide +kernel
theorem dX7_pane_64 : decode cX7_pane 64 = .ok (.getfield 45, 3) := by decide +kernel
theorem dX7_pane_67 : decode cX7_pane 67 = .ok (.bipush 7, 2) := by decide +kernel
theorem dX7_pane_69 : decode cX7_pane 69 = .ok (.iload_n 3, 1) := by decide +kernel
theorem dX7_pane_70 : decode cX7_pane 70 = .ok (.imul, 1) := by decide +kernel
theorem dX7_pane_71 : decode cX7_pane 71 = .ok (.iconst 1, 1) := by decide +kernel
theorem dX7_pane_72 : decode cX7_pane 72 = .ok (.iadd, 1) := by decide +kernel
theorem dX7_pane_73 : decode cX7_pane 73 = .ok (.iaload, 1) := by decide +kernel
theorem dX7_pane_74 : decode cX7_pane 74 = .ok (.isub, 1) := by decide +kernel
theorem dX7_pane_75 : decode cX7_pane 75 = .ok (.iload_n 2, 1) := by decide +kernel
theorem dX7_pane_76 : decode cX7_pane 76 = .ok (.aload_n 0, 1) := by decide +kernel
theorem dX7_pane_77 : decode cX7_pane 77 = .ok (.getfield 10, 3) := by decide +kernel
theorem dX7_pane_80 : decode cX7_pane 80 = .ok (.getfield 45, 3) := by decide +kernel
theorem dX7_pane_83 : decode cX7_pane 83 = .ok (.bipush 7, 2) := by decide +kernel
theorem dX7_pane_85 : decode cX7_pane 85 = .ok (.iload_n 3, 1) := by decide +kernel
theorem dX7_pane_86 : decode cX7_pane 86 = .ok (.imul, 1) := by decide +kernel
theorem dX7_pane_87 : decode cX7_pane 87 = .ok (.iconst 2, 1) := by decide +kernel
theorem dX7_pane_88 : decode cX7_pane 88 = .ok (.iadd, 1) := by decide +kernel
theorem dX7_pane_89 : decode cX7_pane 89 = .ok (.iaload, 1) := by decide +kernel
theorem dX7_pane_90 : decode cX7_pane 90 = .ok (.isub, 1) := by decide +kernel
theorem dX7_pane_91 : decode cX7_pane 91 = .ok (.aload_n 0, 1) := by decide +kernel
theorem dX7_pane_92 : decode cX7_pane 92 = .ok (.getfield 10, 3) := by decide +kernel
theorem dX7_pane_95 : decode cX7_pane 95 = .ok (.getfield 45, 3) := by decide +kernel
theorem dX7_pane_98 : decode cX7_pane 98 = .ok (.bipush 7, 2) := by decide +kernel
theorem dX7_pane_100 : decode cX7_pane 100 = .ok (.iload_n 3, 1) := by decide +kernel
theorem dX7_pane_101 : decode cX7_pane 101 = .ok (.imul, 1) := by decide +kernel
theorem dX7_pane_102 : decode cX7_pane 102 = .ok (.iconst 3, 1) := by decide +kernel
theorem dX7_pane_103 : decode cX7_pane 103 = .ok (.iadd, 1) := by decide +kernel
theorem dX7_pane_104 : decode cX7_pane 104 = .ok (.iaload, 1) := by decide +kernel
theorem dX7_pane_105 : decode cX7_pane 105 = .ok (.imul, 1) := by decide +kernel
theorem dX7_pane_106 : decode cX7_pane 106 = .ok (.iadd, 1) := by decide +kernel
theorem dX7_pane_107 : decode cX7_pane 107 = .ok (.iaload, 1) := by decide +kernel
theorem dX7_pane_108 : decode cX7_pane 108 = .ok (.ireturn, 1) := by decide +kernel
theorem dX7_fund_0 : decode cX7_fund 0 = .ok (.aload_n 0, 1) := by decide +kernel
theorem dX7_fund_1 : decode cX7_fund 1 = .ok (.iconst 0, 1) := by decide +kernel
theorem dX7_fund_2 : decode cX7_fund 2 = .ok (.putfield 19, 3) := by decide +kernel
theorem dX7_fund_5 : decode cX7_fund 5 = .ok (.iload_n 1, 1) := by decide +kernel
theorem dX7_fund_6 : decode cX7_fund 6 = .ok (.iconst 1, 1) := by decide +kernel
theorem dX7_fund_7 : decode cX7_fund 7 = .ok (.ldc 33, 2) := by decide +kernel
theorem dX7_fund_9 : decode cX7_fund 9 = .ok (.invokestatic 26, 3) := by decide +kernel
theorem dX7_fund_12 : decode cX7_fund 12 = .ok (.ifCond .ne 9, 3) := by decide +kernel
theorem dX7_fund_15 : decode cX7_fund 15 = .ok (.aload_n 0, 1) := by decide +kernel
theorem dX7_fund_16 : decode cX7_fund 16 = .ok (.iconst 1, 1) := by decide +kernel
theorem dX7_fund_17 : decode cX7_fund 17 = .ok (.invokevirtual 34, 3) := by decide +kernel
theorem dX7_fund_20 : decode cX7_fund 20 = .ok (.ireturn, 1) := by decide +kernel
theorem dX7_fund_21 : decode cX7_fund 21 = .ok (.aload_n 0, 1) := by decide +kernel
theorem dX7_fund_22 : decode cX7_fund 22 = .ok (.getfield 10, 3) := by decide +kernel
theorem dX7_fund_25 : decode cX7_fund 25 = .ok (.getfield 103, 3) := by decide +kernel
theorem dX7_fund_28 : decode cX7_fund 28 = .ok (.iload_n 1, 1) := by decide +kernel
theorem dX7_fund_29 : decode cX7_fund 29 = .ok (.iadd, 1) := by decide +kernel
theorem dX7_fund_30 : decode cX7_fund 30 = .ok (.ldc 106, 2) := by decide +kernel
theorem dX7_fund_32 : decode cX7_fund 32 = .ok (.if_icmp .le 9, 3) := by decide +kernel
theorem dX7_fund_35 : decode cX7_fund 35 = .ok (.aload_n 0, 1) := by decide +kernel
theorem dX7_fund_36 : decode cX7_fund 36 = .ok (.iconst 2, 1) := by decide +kernel
theorem dX7_fund_37 : decode cX7_fund 37 = .ok (.invokevirtual 34, 3) := by decide +kernel
theorem dX7_fund_40 : decode cX7_fund 40 = .ok (.ireturn, 1) := by decide +kernel
theorem dX7_fund_41 : decode cX7_fund 41 = .ok (.aload_n 0, 1) := by decide +kernel
theorem dX7_fund_42 : decode cX7_fund 42 = .ok (.getfield 10, 3) := by decide +kernel
theorem dX7_fund_45 : decode cX7_fund 45 = .ok (.dup, 1) := by decide +kernel
theorem dX7_fund_46 : decode cX7_fund 46 = .ok (.getfield 103, 3) := by decide +kernel
theorem dX7_fund_49 : decode cX7_fund 49 = .ok (.iload_n 1, 1) := by decide +kernel
theorem dX7_fund_50 : decode cX7_fund 50 = .ok (.iadd, 1) := by decide +kernel
theorem dX7_fund_51 : decode cX7_fund 51 = .ok (.putfield 103, 3) := by decide +kernel
theorem dX7_fund_54 : decode cX7_fund 54 = .ok (.aload_n 0, 1) := by decide +kernel
theorem dX7_fund_55 : decode cX7_fund 55 = .ok (.getfield 10, 3) := by decide +kernel
theorem dX7_fund_58 : decode cX7_fund 58 = .ok (.getfield 103, 3) := by decide +kernel
theorem dX7_fund_61 : decode cX7_fund 61 = .ok (.ireturn, 1) := by decide +kernel
theorem dX7_addLayer_0 : decode cX7_addLayer 0 = .ok (.aload_n 0, 1) := by decide +kernel
theorem dX7_addLayer_1 : decode cX7_addLayer 1 = .ok (.iconst 0, 1) := by decide +kernel
theorem dX7_addLayer_2 : decode cX7_addLayer 2 = .ok (.putfield 19, 3) := by decide +kernel
theorem dX7_addLayer_5 : decode cX7_addLayer 5 = .ok (.iload_n 1, 1) := by decide +kernel
theorem dX7_addLayer_6 : decode cX7_addLayer 6 = .ok (.iconst 0, 1) := by decide +kernel
theorem dX7_addLayer_7 : decode cX7_addLayer 7 = .ok (.ldc 69, 2) := by decide +kernel
theorem dX7_addLayer_9 : decode cX7_addLayer 9 = .ok (.invokestatic 26, 3) := by decide +kernel
theorem dX7_addLayer_12 : decode cX7_addLayer 12 = .ok (.ifCond .eq 23, 3) := by decide +kernel
theorem dX7_addLayer_15 : decode cX7_addLayer 15 = .ok (.iload_n 2, 1) := by decide +kernel
theorem dX7_addLayer_16 : decode cX7_addLayer 16 = .ok (.iconst 1, 1) := by decide +kernel
theorem dX7_addLayer_17 : decode cX7_addLayer 17 = .ok (.ldc 69, 2) := by decide +kernel
theorem dX7_addLayer_19 : decode cX7_addLayer 19 = .ok (.invokestatic 26, 3) := by decide +kernel
theorem dX7_addLayer_22 : decode cX7_addLayer 22 = .ok (.ifCond .eq 13, 3) := by decide +kernel
theorem dX7_addLayer_25 : decode cX7_addLayer 25 = .ok (.iload_n 3, 1) := by decide +kernel
theorem dX7_addLayer_26 : decode cX7_addLayer 26 = .ok (.iconst 1, 1) := by decide +kernel
theorem dX7_addLayer_27 : decode cX7_addLayer 27 = .ok (.bipush 100, 2) := by decide +kernel
theorem dX7_addLayer_29 : decode cX7_addLayer 29 = .ok (.invokestatic 26, 3) := by decide +kernel
theorem dX7_addLayer_32 : decode cX7_addLayer 32 = .ok (.ifCond .ne 9, 3) := by decide +kernel
theorem dX7_addLayer_35 : decode cX7_addLayer 35 = .ok (.aload_n 0, 1) := by decide +kernel
theorem dX7_addLayer_36 : decode cX7_addLayer 36 = .ok (.iconst 1, 1) := by decide +kernel
theorem dX7_addLayer_37 : decode cX7_addLayer 37 = .ok (.invokevirtual 34, 3) := by decide +kernel
theorem dX7_addLayer_40 : decode cX7_addLayer 40 = .ok (.ireturn, 1) := by decide +kernel
theorem dX7_addLayer_41 : decode cX7_addLayer 41 = .ok (.aload_n 0, 1) := by decide +kernel
theorem dX7_addLayer_42 : decode cX7_addLayer 42 = .ok (.getfield 10, 3) := by decide +kernel
theorem dX7_addLayer_45 : decode cX7_addLayer 45 = .ok (.getfield 107, 3) := by decide +kernel
theorem dX7_addLayer_48 : decode cX7_addLayer 48 = .ok (.bipush 6, 2) := by decide +kernel
theorem dX7_addLayer_50 : decode cX7_addLayer 50 = .ok (.if_icmp .ne 9, 3) := by decide +kernel
theorem dX7_addLayer_53 : decode cX7_addLayer 53 = .ok (.aload_n 0, 1) := by decide +kernel
theorem dX7_addLayer_54 : decode cX7_addLayer 54 = .ok (.iconst 2, 1) := by decide +kernel
theorem dX7_addLayer_55 : decode cX7_addLayer 55 = .ok (.invokevirtual 34, 3) := by decide +kernel
theorem dX7_addLayer_58 : decode cX7_addLayer 58 = .ok (.ireturn, 1) := by decide +kernel
theorem dX7_addLayer_59 : decode cX7_addLayer 59 = .ok (.iconst 5, 1) := by decide +kernel
theorem dX7_addLayer_60 : decode cX7_addLayer 60 = .ok (.newarray .int, 2) := by decide +kernel
theorem dX7_addLayer_62 : decode cX7_addLayer 62 = .ok (.dup, 1) := by decide +kernel
theorem dX7_addLayer_63 : decode cX7_addLayer 63 = .ok (.iconst 0, 1) := by decide +kernel
theorem dX7_addLayer_64 : decode cX7_addLayer 64 = .ok (.iload_n 1, 1) := by decide +kernel
theorem dX7_addLayer_65 : decode cX7_addLayer 65 = .ok (.iastore, 1) := by decide +kernel
theorem dX7_addLayer_66 : decode cX7_addLayer 66 = .ok (.dup, 1) := by decide +kernel
theorem dX7_addLayer_67 : decode cX7_addLayer 67 = .ok (.iconst 1, 1) := by decide +kernel
theorem dX7_addLayer_68 : decode cX7_addLayer 68 = .ok (.iload_n 2, 1) := by decide +kernel
theorem dX7_addLayer_69 : decode cX7_addLayer 69 = .ok (.iastore, 1) := by decide +kernel
theorem dX7_addLayer_70 : decode cX7_addLayer 70 = .ok (.dup, 1) := by decide +kernel
theorem dX7_addLayer_71 : decode cX7_addLayer 71 = .ok (.iconst 2, 1) := by decide +kernel
theorem dX7_addLayer_72 : decode cX7_addLayer 72 = .ok (.iload_n 3, 1) := by decide +kernel
theorem dX7_addLayer_73 : decode cX7_addLayer 73 = .ok (.iastore, 1) := by decide +kernel
theorem dX7_addLayer_74 : decode cX7_addLayer 74 = .ok (.dup, 1) := by decide +kernel
theorem dX7_addLayer_75 : decode cX7_addLayer 75 = .ok (.iconst 3, 1) := by decide +kernel
theorem dX7_addLayer_76 : decode cX7_addLayer 76 = .ok (.iconst 2, 1) := by decide +kernel
theorem dX7_addLayer_77 : decode cX7_addLayer 77 = .ok (.iload_n 2, 1) := by decide +kernel
theorem dX7_addLayer_78 : decode cX7_addLayer 78 = .ok (.imul, 1) := by decide +kernel
theorem dX7_addLayer_79 : decode cX7_addLayer 79 = .ok (.iastore, 1) := by decide +kernel
theorem dX7_addLayer_80 : decode cX7_addLayer 80 = .ok (.dup, 1) := by decide +kernel
theorem dX7_addLayer_81 : decode cX7_addLayer 81 = .ok (.iconst 4, 1) := by decide +kernel
theorem dX7_addLayer_82 : decode cX7_addLayer 82 = .ok (.iconst 0, 1) := by decide +kernel
theorem dX7_addLayer_83 : decode cX7_addLayer 83 = .ok (.iastore, 1) := by decide +kernel
theorem dX7_addLayer_84 : decode cX7_addLayer 84 = .ok (.astore 4, 2) := by decide +kernel
theorem dX7_addLayer_86 : decode cX7_addLayer 86 = .ok (.aload 4, 2) := by decide +kernel
theorem dX7_addLayer_88 : decode cX7_addLayer 88 = .ok (.iconst 0, 1) := by decide +kernel
theorem dX7_addLayer_89 : decode cX7_addLayer 89 = .ok (.aload_n 0, 1) := by decide +kernel
theorem dX7_addLayer_90 : decode cX7_addLayer 90 = .ok (.getfield 10, 3) := by decide +kernel
theorem dX7_addLayer_93 : decode cX7_addLayer 93 = .ok (.getfield 110, 3) := by decide +kernel
theorem dX7_addLayer_96 : decode cX7_addLayer 96 = .ok (.iconst 5, 1) := by decide +kernel
theorem dX7_addLayer_97 : decode cX7_addLayer 97 = .ok (.aload_n 0, 1) := by decide +kernel
theorem dX7_addLayer_98 : decode cX7_addLayer 98 = .ok (.getfield 10, 3) := by decide +kernel
theorem dX7_addLayer_101 : decode cX7_addLayer 101 = .ok (.getfield 107, 3) := by decide +kernel
theorem dX7_addLayer_104 : decode cX7_addLayer 104 = .ok (.imul, 1) := by decide +kernel
theorem dX7_addLayer_105 : decode cX7_addLayer 105 = .ok (.iconst 5, 1) := by decide +kernel
theorem dX7_addLayer_106 : decode cX7_addLayer 106 = .ok (.invokestatic 56, 3) := by decide +kernel
theorem dX7_addLayer_109 : decode cX7_addLayer 109 = .ok (.aload_n 0, 1) := by decide +kernel
theorem dX7_addLayer_110 : decode cX7_addLayer 110 = .ok (.getfield 10, 3) := by decide +kernel
theorem dX7_addLayer_113 : decode cX7_addLayer 113 = .ok (.dup, 1) := by decide +kernel
theorem dX7_addLayer_114 : decode cX7_addLayer 114 = .ok (.getfield 107, 3) := by decide +kernel
theorem dX7_addLayer_117 : decode cX7_addLayer 117 = .ok (.iconst 1, 1) := by decide +kernel
theorem dX7_addLayer_118 : decode cX7_addLayer 118 = .ok (.iadd, 1) := by decide +kernel
theorem dX7_addLayer_119 : decode cX7_addLayer 119 = .ok (.putfield 107, 3) := by decide +kernel
theorem dX7_addLayer_122 : decode cX7_addLayer 122 = .ok (.aload_n 0, 1) := by decide +kernel
theorem dX7_addLayer_123 : decode cX7_addLayer 123 = .ok (.getfield 10, 3) := by decide +kernel
theorem dX7_addLayer_126 : decode cX7_addLayer 126 = .ok (.getfield 107, 3) := by decide +kernel
theorem dX7_addLayer_129 : decode cX7_addLayer 129 = .ok (.iconst 1, 1) := by decide +kernel
theorem dX7_addLayer_130 : decode cX7_addLayer 130 = .ok (.isub, 1) := by decide +kernel
theorem dX7_addLayer_131 : decode cX7_addLayer 131 = .ok (.ireturn, 1) := by decide +kernel
theorem dX7_layer_0 : decode cX7_layer 0 = .ok (.aload_n 0, 1) := by decide +kernel
theorem dX7_layer_1 : decode cX7_layer 1 = .ok (.iconst 0, 1) := by decide +kernel
theorem dX7_layer_2 : decode cX7_layer 2 = .ok (.putfield 19, 3) := by decide +kernel
theorem dX7_layer_5 : decode cX7_layer 5 = .ok (.iload_n 1, 1) := by decide +kernel
theorem dX7_layer_6 : decode cX7_layer 6 = .ok (.iconst 0, 1) := by decide +kernel
theorem dX7_layer_7 : decode cX7_layer 7 = .ok (.aload_n 0, 1) := by decide +kernel
theorem dX7_layer_8 : decode cX7_layer 8 = .ok (.getfield 10, 3) := by decide +kernel
theorem dX7_layer_11 : decode cX7_layer 11 = .ok (.getfield 107, 3) := by decide +kernel
theorem dX7_layer_14 : decode cX7_layer 14 = .ok (.iconst 1, 1) := by decide +kernel
theorem dX7_layer_15 : decode cX7_layer 15 = .ok (.isub, 1) := by decide +kernel
theorem dX7_layer_16 : decode cX7_layer 16 = .ok (.invokestatic 26, 3) := by decide +kernel
theorem dX7_layer_19 : decode cX7_layer 19 = .ok (.ifCond .eq 28, 3) := by decide +kernel
theorem dX7_layer_22 : decode cX7_layer 22 = .ok (.iload_n 2, 1) := by decide +kernel
theorem dX7_layer_23 : decode cX7_layer 23 = .ok (.iconst 0, 1) := by decide +kernel
theorem dX7_layer_24 : decode cX7_layer 24 = .ok (.iconst 4, 1) := by decide +kernel
theorem dX7_layer_25 : decode cX7_layer 25 = .ok (.invokestatic 26, 3) := by decide +kernel
theorem dX7_layer_28 : decode cX7_layer 28 = .ok (.ifCond .eq 19, 3) := by decide +kernel
theorem dX7_layer_31 : decode cX7_layer 31 = .ok (.aload_n 0, 1) := by decide +kernel
theorem dX7_layer_32 : decode cX7_layer 32 = .ok (.getfield 10, 3) := by decide +kernel
theorem dX7_layer_35 : decode cX7_layer 35 = .ok (.getfield 110, 3) := by decide +kernel
theorem dX7_layer_38 : decode cX7_layer 38 = .ok (.iconst 5, 1) := by decide +kernel
theorem dX7_layer_39 : decode cX7_layer 39 = .ok (.iload_n 1, 1) := by decide +kernel
theorem dX7_layer_40 : decode cX7_layer 40 = .ok (.imul, 1) := by decide +kernel
theorem dX7_layer_41 : decode cX7_layer 41 = .ok (.iload_n 2, 1) := by decide +kernel
theorem dX7_layer_42 : decode cX7_layer 42 = .ok (.iadd, 1) := by decide +kernel
theorem dX7_layer_43 : decode cX7_layer 43 = .ok (.iaload, 1) := by decide +kernel
theorem dX7_layer_44 : decode cX7_layer 44 = .ok (.goto 8, 3) := by decide +kernel
theorem dX7_layer_47 : decode cX7_layer 47 = .ok (.aload_n 0, 1) := by decide +kernel
theorem dX7_layer_48 : decode cX7_layer 48 = .ok (.iconst 1, 1) := by decide +kernel
theorem dX7_layer_49 : decode cX7_layer 49 = .ok (.invokevirtual 34, 3) := by decide +kernel
theorem dX7_layer_52 : decode cX7_layer 52 = .ok (.ireturn, 1) := by decide +kernel
theorem dX7_counted_0 : decode cX7_counted 0 = .ok (.iconst 0, 1) := by decide +kernel
theorem dX7_counted_1 : decode cX7_counted 1 = .ok (.istore_n 2, 1) := by decide +kernel
theorem dX7_counted_2 : decode cX7_counted 2 = .ok (.iconst 0, 1) := by decide +kernel
theorem dX7_counted_3 : decode cX7_counted 3 = .ok (.istore_n 3, 1) := by decide +kernel
theorem dX7_counted_4 : decode cX7_counted 4 = .ok (.iconst 0, 1) := by decide +kernel
theorem dX7_counted_5 : decode cX7_counted 5 = .ok (.istore 4, 2) := by decide +kernel
theorem dX7_counted_7 : decode cX7_counted 7 = .ok (.iload 4, 2) := by decide +kernel
theorem dX7_counted_9 : decode cX7_counted 9 = .ok (.aload_n 0, 1) := by decide +kernel
theorem dX7_counted_10 : decode cX7_counted 10 = .ok (.getfield 10, 3) := by decide +kernel
theorem dX7_counted_13 : decode cX7_counted 13 = .ok (.getfield 23, 3) := by decide +kernel
theorem dX7_counted_16 : decode cX7_counted 16 = .ok (.if_icmp .ge 22, 3) := by decide +kernel
theorem dX7_counted_19 : decode cX7_counted 19 = .ok (.iload_n 2, 1) := by decide +kernel
theorem dX7_counted_20 : decode cX7_counted 20 = .ok (.aload_n 0, 1) := by decide +kernel
theorem dX7_counted_21 : decode cX7_counted 21 = .ok (.getfield 10, 3) := by decide +kernel
theorem dX7_counted_24 : decode cX7_counted 24 = .ok (.getfield 85, 3) := by decide +kernel
theorem dX7_counted_27 : decode cX7_counted 27 = .ok (.iload 4, 2) := by decide +kernel
theorem dX7_counted_29 : decode cX7_counted 29 = .ok (.iaload, 1) := by decide +kernel
theorem dX7_counted_30 : decode cX7_counted 30 = .ok (.iadd, 1) := by decide +kernel
theorem dX7_counted_31 : decode cX7_counted 31 = .ok (.istore_n 2, 1) := by decide +kernel
theorem dX7_counted_32 : decode cX7_counted 32 = .ok (.iinc 4 1, 3) := by decide +kernel
theorem dX7_counted_35 : decode cX7_counted 35 = .ok (.goto (-28), 3) := by decide +kernel
theorem dX7_counted_38 : decode cX7_counted 38 = .ok (.iconst 0, 1) := by decide +kernel
theorem dX7_counted_39 : decode cX7_counted 39 = .ok (.istore 4, 2) := by decide +kernel
theorem dX7_counted_41 : decode cX7_counted 41 = .ok (.iload 4, 2) := by decide +kernel
theorem dX7_counted_43 : decode cX7_counted 43 = .ok (.aload_n 0, 1) := by decide +kernel
theorem dX7_counted_44 : decode cX7_counted 44 = .ok (.getfield 10, 3) := by decide +kernel
theorem dX7_counted_47 : decode cX7_counted 47 = .ok (.getfield 30, 3) := by decide +kernel
theorem dX7_counted_50 : decode cX7_counted 50 = .ok (.if_icmp .ge 21, 3) := by decide +kernel
theorem dX7_counted_53 : decode cX7_counted 53 = .ok (.iload_n 3, 1) := by decide +kernel
theorem dX7_counted_54 : decode cX7_counted 54 = .ok (.aload_n 0, 1) := by decide +kernel
theorem dX7_counted_55 : decode cX7_counted 55 = .ok (.getfield 10, 3) := by decide +kernel
theorem dX7_counted_58 : decode cX7_counted 58 = .ok (.iload 4, 2) := by decide +kernel
theorem dX7_counted_60 : decode cX7_counted 60 = .ok (.invokevirtual 76, 3) := by decide +kernel
theorem dX7_counted_63 : decode cX7_counted 63 = .ok (.iadd, 1) := by decide +kernel
theorem dX7_counted_64 : decode cX7_counted 64 = .ok (.istore_n 3, 1) := by decide +kernel
theorem dX7_counted_65 : decode cX7_counted 65 = .ok (.iinc 4 1, 3) := by decide +kernel
theorem dX7_counted_68 : decode cX7_counted 68 = .ok (.goto (-27), 3) := by decide +kernel
theorem dX7_counted_71 : decode cX7_counted 71 = .ok (.bipush 11, 2) := by decide +kernel
theorem dX7_counted_73 : decode cX7_counted 73 = .ok (.newarray .int, 2) := by decide +kernel
theorem dX7_counted_75 : decode cX7_counted 75 = .ok (.dup, 1) := by decide +kernel
theorem dX7_counted_76 : decode cX7_counted 76 = .ok (.iconst 0, 1) := by decide +kernel
theorem dX7_counted_77 : decode cX7_counted 77 = .ok (.aload_n 0, 1) := by decide +kernel
theorem dX7_counted_78 : decode cX7_counted 78 = .ok (.getfield 10, 3) := by decide +kernel
theorem dX7_counted_81 : decode cX7_counted 81 = .ok (.getfield 23, 3) := by decide +kernel
theorem dX7_counted_84 : decode cX7_counted 84 = .ok (.iastore, 1) := by decide +kernel
theorem dX7_counted_85 : decode cX7_counted 85 = .ok (.dup, 1) := by decide +kernel
theorem dX7_counted_86 : decode cX7_counted 86 = .ok (.iconst 1, 1) := by decide +kernel
theorem dX7_counted_87 : decode cX7_counted 87 = .ok (.aload_n 0, 1) := by decide +kernel
theorem dX7_counted_88 : decode cX7_counted 88 = .ok (.getfield 10, 3) := by decide +kernel
theorem dX7_counted_91 : decode cX7_counted 91 = .ok (.getfield 30, 3) := by decide +kernel
theorem dX7_counted_94 : decode cX7_counted 94 = .ok (.iastore, 1) := by decide +kernel
theorem dX7_counted_95 : decode cX7_counted 95 = .ok (.dup, 1) := by decide +kernel
theorem dX7_counted_96 : decode cX7_counted 96 = .ok (.iconst 2, 1) := by decide +kernel
theorem dX7_counted_97 : decode cX7_counted 97 = .ok (.aload_n 0, 1) := by decide +kernel
theorem dX7_counted_98 : decode cX7_counted 98 = .ok (.getfield 10, 3) := by decide +kernel
theorem dX7_counted_101 : decode cX7_counted 101 = .ok (.getfield 107, 3) := by decide +kernel
theorem dX7_counted_104 : decode cX7_counted 104 = .ok (.iastore, 1) := by decide +kernel
theorem dX7_counted_105 : decode cX7_counted 105 = .ok (.dup, 1) := by decide +kernel
theorem dX7_counted_106 : decode cX7_counted 106 = .ok (.iconst 3, 1) := by decide +kernel
theorem dX7_counted_107 : decode cX7_counted 107 = .ok (.aload_n 0, 1) := by decide +kernel
theorem dX7_counted_108 : decode cX7_counted 108 = .ok (.getfield 10, 3) := by decide +kernel
theorem dX7_counted_111 : decode cX7_counted 111 = .ok (.getfield 103, 3) := by decide +kernel
theorem dX7_counted_114 : decode cX7_counted 114 = .ok (.iastore, 1) := by decide +kernel
theorem dX7_counted_115 : decode cX7_counted 115 = .ok (.dup, 1) := by decide +kernel
theorem dX7_counted_116 : decode cX7_counted 116 = .ok (.iconst 4, 1) := by decide +kernel
theorem dX7_counted_117 : decode cX7_counted 117 = .ok (.iload_n 2, 1) := by decide +kernel
theorem dX7_counted_118 : decode cX7_counted 118 = .ok (.iastore, 1) := by decide +kernel
theorem dX7_counted_119 : decode cX7_counted 119 = .ok (.dup, 1) := by decide +kernel
theorem dX7_counted_120 : decode cX7_counted 120 = .ok (.iconst 5, 1) := by decide +kernel
theorem dX7_counted_121 : decode cX7_counted 121 = .ok (.aload_n 0, 1) := by decide +kernel
theorem dX7_counted_122 : decode cX7_counted 122 = .ok (.getfield 10, 3) := by decide +kernel
theorem dX7_counted_125 : decode cX7_counted 125 = .ok (.getfield 113, 3) := by decide +kernel
theorem dX7_counted_128 : decode cX7_counted 128 = .ok (.iastore, 1) := by decide +kernel
theorem dX7_counted_129 : decode cX7_counted 129 = .ok (.dup, 1) := by decide +kernel
theorem dX7_counted_130 : decode cX7_counted 130 = .ok (.bipush 6, 2) := by decide +kernel
theorem dX7_counted_132 : decode cX7_counted 132 = .ok (.aload_n 0, 1) := by decide +kernel
theorem dX7_counted_133 : decode cX7_counted 133 = .ok (.getfield 10, 3) := by decide +kernel
theorem dX7_counted_136 : decode cX7_counted 136 = .ok (.getfield 116, 3) := by decide +kernel
theorem dX7_counted_139 : decode cX7_counted 139 = .ok (.iastore, 1) := by decide +kernel
theorem dX7_counted_140 : decode cX7_counted 140 = .ok (.dup, 1) := by decide +kernel
theorem dX7_counted_141 : decode cX7_counted 141 = .ok (.bipush 7, 2) := by decide +kernel
theorem dX7_counted_143 : decode cX7_counted 143 = .ok (.iload_n 3, 1) := by decide +kernel
theorem dX7_counted_144 : decode cX7_counted 144 = .ok (.iastore, 1) := by decide +kernel
theorem dX7_counted_145 : decode cX7_counted 145 = .ok (.dup, 1) := by decide +kernel
theorem dX7_counted_146 : decode cX7_counted 146 = .ok (.bipush 8, 2) := by decide +kernel
theorem dX7_counted_148 : decode cX7_counted 148 = .ok (.aload_n 0, 1) := by decide +kernel
theorem dX7_counted_149 : decode cX7_counted 149 = .ok (.getfield 10, 3) := by decide +kernel
theorem dX7_counted_152 : decode cX7_counted 152 = .ok (.iconst (-1), 1) := by decide +kernel
theorem dX7_counted_153 : decode cX7_counted 153 = .ok (.iconst 1, 1) := by decide +kernel
theorem dX7_counted_154 : decode cX7_counted 154 = .ok (.invokevirtual 97, 3) := by decide +kernel
theorem dX7_counted_157 : decode cX7_counted 157 = .ok (.iastore, 1) := by decide +kernel
theorem dX7_counted_158 : decode cX7_counted 158 = .ok (.dup, 1) := by decide +kernel
theorem dX7_counted_159 : decode cX7_counted 159 = .ok (.bipush 9, 2) := by decide +kernel
theorem dX7_counted_161 : decode cX7_counted 161 = .ok (.aload_n 0, 1) := by decide +kernel
theorem dX7_counted_162 : decode cX7_counted 162 = .ok (.getfield 10, 3) := by decide +kernel
theorem dX7_counted_165 : decode cX7_counted 165 = .ok (.iconst (-1), 1) := by decide +kernel
theorem dX7_counted_166 : decode cX7_counted 166 = .ok (.iconst 2, 1) := by decide +kernel
theorem dX7_counted_167 : decode cX7_counted 167 = .ok (.invokevirtual 97, 3) := by decide +kernel
theorem dX7_counted_170 : decode cX7_counted 170 = .ok (.iastore, 1) := by decide +kernel
theorem dX7_counted_171 : decode cX7_counted 171 = .ok (.dup, 1) := by decide +kernel
theorem dX7_counted_172 : decode cX7_counted 172 = .ok (.bipush 10, 2) := by decide +kernel
theorem dX7_counted_174 : decode cX7_counted 174 = .ok (.aload_n 0, 1) := by decide +kernel
theorem dX7_counted_175 : decode cX7_counted 175 = .ok (.getfield 10, 3) := by decide +kernel
theorem dX7_counted_178 : decode cX7_counted 178 = .ok (.iconst (-1), 1) := by decide +kernel
theorem dX7_counted_179 : decode cX7_counted 179 = .ok (.invokevirtual 91, 3) := by decide +kernel
theorem dX7_counted_182 : decode cX7_counted 182 = .ok (.iastore, 1) := by decide +kernel
theorem dX7_counted_183 : decode cX7_counted 183 = .ok (.astore 4, 2) := by decide +kernel
theorem dX7_counted_185 : decode cX7_counted 185 = .ok (.aload 4, 2) := by decide +kernel
theorem dX7_counted_187 : decode cX7_counted 187 = .ok (.iload_n 1, 1) := by decide +kernel
theorem dX7_counted_188 : decode cX7_counted 188 = .ok (.iaload, 1) := by decide +kernel
theorem dX7_counted_189 : decode cX7_counted 189 = .ok (.ireturn, 1) := by decide +kernel
theorem dX7_count_0 : decode cX7_count 0 = .ok (.aload_n 0, 1) := by decide +kernel
theorem dX7_count_1 : decode cX7_count 1 = .ok (.iconst 0, 1) := by decide +kernel
theorem dX7_count_2 : decode cX7_count 2 = .ok (.putfield 19, 3) := by decide +kernel
theorem dX7_count_5 : decode cX7_count 5 = .ok (.iload_n 1, 1) := by decide +kernel
theorem dX7_count_6 : decode cX7_count 6 = .ok (.iconst 0, 1) := by decide +kernel
theorem dX7_count_7 : decode cX7_count 7 = .ok (.bipush 10, 2) := by decide +kernel
theorem dX7_count_9 : decode cX7_count 9 = .ok (.invokestatic 26, 3) := by decide +kernel
theorem dX7_count_12 : decode cX7_count 12 = .ok (.ifCond .eq 11, 3) := by decide +kernel
theorem dX7_count_15 : decode cX7_count 15 = .ok (.aload_n 0, 1) := by decide +kernel
theorem dX7_count_16 : decode cX7_count 16 = .ok (.iload_n 1, 1) := by decide +kernel
theorem dX7_count_17 : decode cX7_count 17 = .ok (.invokevirtual 119, 3) := by decide +kernel
theorem dX7_count_20 : decode cX7_count 20 = .ok (.goto 8, 3) := by decide +kernel
theorem dX7_count_23 : decode cX7_count 23 = .ok (.aload_n 0, 1) := by decide +kernel
theorem dX7_count_24 : decode cX7_count 24 = .ok (.iconst 1, 1) := by decide +kernel
theorem dX7_count_25 : decode cX7_count 25 = .ok (.invokevirtual 34, 3) := by decide +kernel
theorem dX7_count_28 : decode cX7_count 28 = .ok (.ireturn, 1) := by decide +kernel
theorem dX7_endYear_0 : decode cX7_endYear 0 = .ok (.aload_n 0, 1) := by decide +kernel
theorem dX7_endYear_1 : decode cX7_endYear 1 = .ok (.iconst 0, 1) := by decide +kernel
theorem dX7_endYear_2 : decode cX7_endYear 2 = .ok (.putfield 19, 3) := by decide +kernel
theorem dX7_endYear_5 : decode cX7_endYear 5 = .ok (.aload_n 0, 1) := by decide +kernel
theorem dX7_endYear_6 : decode cX7_endYear 6 = .ok (.getfield 10, 3) := by decide +kernel
theorem dX7_endYear_9 : decode cX7_endYear 9 = .ok (.invokevirtual 122, 3) := by decide +kernel
theorem dX7_endYear_12 : decode cX7_endYear 12 = .ok (.ireturn, 1) := by decide +kernel
theorem dX7_isStorm_0 : decode cX7_isStorm 0 = .ok (.iload_n 0, 1) := by decide +kernel
theorem dX7_isStorm_1 : decode cX7_isStorm 1 = .ok (.bipush (-20), 2) := by decide +kernel
theorem dX7_isStorm_3 : decode cX7_isStorm 3 = .ok (.bipush 39, 2) := by decide +kernel
theorem dX7_isStorm_5 : decode cX7_isStorm 5 = .ok (.invokestatic 26, 3) := by decide +kernel
theorem dX7_isStorm_8 : decode cX7_isStorm 8 = .ok (.ifCond .eq 70, 3) := by decide +kernel
theorem dX7_isStorm_11 : decode cX7_isStorm 11 = .ok (.iload_n 1, 1) := by decide +kernel
theorem dX7_isStorm_12 : decode cX7_isStorm 12 = .ok (.bipush (-20), 2) := by decide +kernel
theorem dX7_isStorm_14 : decode cX7_isStorm 14 = .ok (.bipush 39, 2) := by decide +kernel
theorem dX7_isStorm_16 : decode cX7_isStorm 16 = .ok (.invokestatic 26, 3) := by decide +kernel
theorem dX7_isStorm_19 : decode cX7_isStorm 19 = .ok (.ifCond .eq 59, 3) := by decide +kernel
theorem dX7_isStorm_22 : decode cX7_isStorm 22 = .ok (.iload_n 2, 1) := by decide +kernel
theorem dX7_isStorm_23 : decode cX7_isStorm 23 = .ok (.bipush (-3), 2) := by decide +kernel
theorem dX7_isStorm_25 : decode cX7_isStorm 25 = .ok (.iconst 3, 1) := by decide +kernel
theorem dX7_isStorm_26 : decode cX7_isStorm 26 = .ok (.invokestatic 26, 3) := by decide +kernel
theorem dX7_isStorm_29 : decode cX7_isStorm 29 = .ok (.ifCond .eq 49, 3) := by decide +kernel
theorem dX7_isStorm_32 : decode cX7_isStorm 32 = .ok (.iload_n 3, 1) := by decide +kernel
theorem dX7_isStorm_33 : decode cX7_isStorm 33 = .ok (.bipush (-3), 2) := by decide +kernel
theorem dX7_isStorm_35 : decode cX7_isStorm 35 = .ok (.iconst 3, 1) := by decide +kernel
theorem dX7_isStorm_36 : decode cX7_isStorm 36 = .ok (.invokestatic 26, 3) := by decide +kernel
theorem dX7_isStorm_39 : decode cX7_isStorm 39 = .ok (.ifCond .eq 39, 3) := by decide +kernel
theorem dX7_isStorm_42 : decode cX7_isStorm 42 = .ok (.iload 4, 2) := by decide +kernel
theorem dX7_isStorm_44 : decode cX7_isStorm 44 = .ok (.iconst 0, 1) := by decide +kernel
theorem dX7_isStorm_45 : decode cX7_isStorm 45 = .ok (.iconst 5, 1) := by decide +kernel
theorem dX7_isStorm_46 : decode cX7_isStorm 46 = .ok (.invokestatic 26, 3) := by decide +kernel
theorem dX7_isStorm_49 : decode cX7_isStorm 49 = .ok (.ifCond .eq 29, 3) := by decide +kernel
theorem dX7_isStorm_52 : decode cX7_isStorm 52 = .ok (.iload 5, 2) := by decide +kernel
theorem dX7_isStorm_54 : decode cX7_isStorm 54 = .ok (.iconst 1, 1) := by decide +kernel
theorem dX7_isStorm_55 : decode cX7_isStorm 55 = .ok (.bipush 20, 2) := by decide +kernel
theorem dX7_isStorm_57 : decode cX7_isStorm 57 = .ok (.invokestatic 26, 3) := by decide +kernel
theorem dX7_isStorm_60 : decode cX7_isStorm 60 = .ok (.ifCond .eq 18, 3) := by decide +kernel
theorem dX7_isStorm_63 : decode cX7_isStorm 63 = .ok (.iload 6, 2) := by decide +kernel
theorem dX7_isStorm_65 : decode cX7_isStorm 65 = .ok (.iconst 1, 1) := by decide +kernel
theorem dX7_isStorm_66 : decode cX7_isStorm 66 = .ok (.bipush 30, 2) := by decide +kernel
theorem dX7_isStorm_68 : decode cX7_isStorm 68 = .ok (.invokestatic 26, 3) := by decide +kernel
theorem dX7_isStorm_71 : decode cX7_isStorm 71 = .ok (.ifCond .eq 7, 3) := by decide +kernel
theorem dX7_isStorm_74 : decode cX7_isStorm 74 = .ok (.iconst 1, 1) := by decide +kernel
theorem dX7_isStorm_75 : decode cX7_isStorm 75 = .ok (.goto 4, 3) := by decide +kernel
theorem dX7_isStorm_78 : decode cX7_isStorm 78 = .ok (.iconst 0, 1) := by decide +kernel
theorem dX7_isStorm_79 : decode cX7_isStorm 79 = .ok (.ireturn, 1) := by decide +kernel
theorem dX7_storm_0 : decode cX7_storm 0 = .ok (.aload_n 0, 1) := by decide +kernel
theorem dX7_storm_1 : decode cX7_storm 1 = .ok (.iconst 0, 1) := by decide +kernel
theorem dX7_storm_2 : decode cX7_storm 2 = .ok (.putfield 19, 3) := by decide +kernel
theorem dX7_storm_5 : decode cX7_storm 5 = .ok (.iload_n 1, 1) := by decide +kernel
theorem dX7_storm_6 : decode cX7_storm 6 = .ok (.iload_n 2, 1) := by decide +kernel
theorem dX7_storm_7 : decode cX7_storm 7 = .ok (.iload_n 3, 1) := by decide +kernel
theorem dX7_storm_8 : decode cX7_storm 8 = .ok (.iload 4, 2) := by decide +kernel
theorem dX7_storm_10 : decode cX7_storm 10 = .ok (.iload 5, 2) := by decide +kernel
theorem dX7_storm_12 : decode cX7_storm 12 = .ok (.iload 6, 2) := by decide +kernel
theorem dX7_storm_14 : decode cX7_storm 14 = .ok (.iload 7, 2) := by decide +kernel
theorem dX7_storm_16 : decode cX7_storm 16 = .ok (.invokestatic 126, 3) := by decide +kernel
theorem dX7_storm_19 : decode cX7_storm 19 = .ok (.ifCond .ne 9, 3) := by decide +kernel
theorem dX7_storm_22 : decode cX7_storm 22 = .ok (.aload_n 0, 1) := by decide +kernel
theorem dX7_storm_23 : decode cX7_storm 23 = .ok (.iconst 1, 1) := by decide +kernel
theorem dX7_storm_24 : decode cX7_storm 24 = .ok (.invokevirtual 34, 3) := by decide +kernel
theorem dX7_storm_27 : decode cX7_storm 27 = .ok (.ireturn, 1) := by decide +kernel
theorem dX7_storm_28 : decode cX7_storm 28 = .ok (.aload_n 0, 1) := by decide +kernel
theorem dX7_storm_29 : decode cX7_storm 29 = .ok (.getfield 10, 3) := by decide +kernel
theorem dX7_storm_32 : decode cX7_storm 32 = .ok (.getfield 113, 3) := by decide +kernel
theorem dX7_storm_35 : decode cX7_storm 35 = .ok (.bipush 30, 2) := by decide +kernel
theorem dX7_storm_37 : decode cX7_storm 37 = .ok (.if_icmp .ne 9, 3) := by decide +kernel
theorem dX7_storm_40 : decode cX7_storm 40 = .ok (.aload_n 0, 1) := by decide +kernel
theorem dX7_storm_41 : decode cX7_storm 41 = .ok (.iconst 2, 1) := by decide +kernel
theorem dX7_storm_42 : decode cX7_storm 42 = .ok (.invokevirtual 34, 3) := by decide +kernel
theorem dX7_storm_45 : decode cX7_storm 45 = .ok (.ireturn, 1) := by decide +kernel
theorem dX7_storm_46 : decode cX7_storm 46 = .ok (.aload_n 0, 1) := by decide +kernel
theorem dX7_storm_47 : decode cX7_storm 47 = .ok (.getfield 10, 3) := by decide +kernel
theorem dX7_storm_50 : decode cX7_storm 50 = .ok (.iload_n 1, 1) := by decide +kernel
theorem dX7_storm_51 : decode cX7_storm 51 = .ok (.iload_n 2, 1) := by decide +kernel
theorem dX7_storm_52 : decode cX7_storm 52 = .ok (.iload_n 3, 1) := by decide +kernel
theorem dX7_storm_53 : decode cX7_storm 53 = .ok (.iload 4, 2) := by decide +kernel
theorem dX7_storm_55 : decode cX7_storm 55 = .ok (.iload 5, 2) := by decide +kernel
theorem dX7_storm_57 : decode cX7_storm 57 = .ok (.iload 6, 2) := by decide +kernel
theorem dX7_storm_59 : decode cX7_storm 59 = .ok (.iload 7, 2) := by decide +kernel
theorem dX7_storm_61 : decode cX7_storm 61 = .ok (.invokevirtual 130, 3) := by decide +kernel
theorem dX7_storm_64 : decode cX7_storm 64 = .ok (.aload_n 0, 1) := by decide +kernel
theorem dX7_storm_65 : decode cX7_storm 65 = .ok (.getfield 10, 3) := by decide +kernel
theorem dX7_storm_68 : decode cX7_storm 68 = .ok (.getfield 134, 3) := by decide +kernel
theorem dX7_storm_71 : decode cX7_storm 71 = .ok (.iconst 0, 1) := by decide +kernel
theorem dX7_storm_72 : decode cX7_storm 72 = .ok (.aload_n 0, 1) := by decide +kernel
theorem dX7_storm_73 : decode cX7_storm 73 = .ok (.getfield 10, 3) := by decide +kernel
theorem dX7_storm_76 : decode cX7_storm 76 = .ok (.getfield 137, 3) := by decide +kernel
theorem dX7_storm_79 : decode cX7_storm 79 = .ok (.bipush 6, 2) := by decide +kernel
theorem dX7_storm_81 : decode cX7_storm 81 = .ok (.aload_n 0, 1) := by decide +kernel
theorem dX7_storm_82 : decode cX7_storm 82 = .ok (.getfield 10, 3) := by decide +kernel
theorem dX7_storm_85 : decode cX7_storm 85 = .ok (.getfield 113, 3) := by decide +kernel
theorem dX7_storm_88 : decode cX7_storm 88 = .ok (.imul, 1) := by decide +kernel
theorem dX7_storm_89 : decode cX7_storm 89 = .ok (.bipush 6, 2) := by decide +kernel
theorem dX7_storm_91 : decode cX7_storm 91 = .ok (.invokestatic 56, 3) := by decide +kernel
theorem dX7_storm_94 : decode cX7_storm 94 = .ok (.aload_n 0, 1) := by decide +kernel
theorem dX7_storm_95 : decode cX7_storm 95 = .ok (.getfield 10, 3) := by decide +kernel
theorem dX7_storm_98 : decode cX7_storm 98 = .ok (.dup, 1) := by decide +kernel
theorem dX7_storm_99 : decode cX7_storm 99 = .ok (.getfield 113, 3) := by decide +kernel
theorem dX7_storm_102 : decode cX7_storm 102 = .ok (.iconst 1, 1) := by decide +kernel
theorem dX7_storm_103 : decode cX7_storm 103 = .ok (.iadd, 1) := by decide +kernel
theorem dX7_storm_104 : decode cX7_storm 104 = .ok (.putfield 113, 3) := by decide +kernel
theorem dX7_storm_107 : decode cX7_storm 107 = .ok (.aload_n 0, 1) := by decide +kernel
theorem dX7_storm_108 : decode cX7_storm 108 = .ok (.getfield 10, 3) := by decide +kernel
theorem dX7_storm_111 : decode cX7_storm 111 = .ok (.getfield 134, 3) := by decide +kernel
theorem dX7_storm_114 : decode cX7_storm 114 = .ok (.iconst 3, 1) := by decide +kernel
theorem dX7_storm_115 : decode cX7_storm 115 = .ok (.iaload, 1) := by decide +kernel
theorem dX7_storm_116 : decode cX7_storm 116 = .ok (.ireturn, 1) := by decide +kernel
theorem dX7_told_0 : decode cX7_told 0 = .ok (.aload_n 0, 1) := by decide +kernel
theorem dX7_told_1 : decode cX7_told 1 = .ok (.iconst 0, 1) := by decide +kernel
theorem dX7_told_2 : decode cX7_told 2 = .ok (.putfield 19, 3) := by decide +kernel
theorem dX7_told_5 : decode cX7_told 5 = .ok (.iload_n 1, 1) := by decide +kernel
theorem dX7_told_6 : decode cX7_told 6 = .ok (.iconst 0, 1) := by decide +kernel
theorem dX7_told_7 : decode cX7_told 7 = .ok (.aload_n 0, 1) := by decide +kernel
theorem dX7_told_8 : decode cX7_told 8 = .ok (.getfield 10, 3) := by decide +kernel
theorem dX7_told_11 : decode cX7_told 11 = .ok (.getfield 113, 3) := by decide +kernel
theorem dX7_told_14 : decode cX7_told 14 = .ok (.iconst 1, 1) := by decide +kernel
theorem dX7_told_15 : decode cX7_told 15 = .ok (.isub, 1) := by decide +kernel
theorem dX7_told_16 : decode cX7_told 16 = .ok (.invokestatic 26, 3) := by decide +kernel
theorem dX7_told_19 : decode cX7_told 19 = .ok (.ifCond .eq 29, 3) := by decide +kernel
theorem dX7_told_22 : decode cX7_told 22 = .ok (.iload_n 2, 1) := by decide +kernel
theorem dX7_told_23 : decode cX7_told 23 = .ok (.iconst 0, 1) := by decide +kernel
theorem dX7_told_24 : decode cX7_told 24 = .ok (.iconst 5, 1) := by decide +kernel
theorem dX7_told_25 : decode cX7_told 25 = .ok (.invokestatic 26, 3) := by decide +kernel
theorem dX7_told_28 : decode cX7_told 28 = .ok (.ifCond .eq 20, 3) := by decide +kernel
theorem dX7_told_31 : decode cX7_told 31 = .ok (.aload_n 0, 1) := by decide +kernel
theorem dX7_told_32 : decode cX7_told 32 = .ok (.getfield 10, 3) := by decide +kernel
theorem dX7_told_35 : decode cX7_told 35 = .ok (.getfield 137, 3) := by decide +kernel
theorem dX7_told_38 : decode cX7_told 38 = .ok (.bipush 6, 2) := by decide +kernel
theorem dX7_told_40 : decode cX7_told 40 = .ok (.iload_n 1, 1) := by decide +kernel
theorem dX7_told_41 : decode cX7_told 41 = .ok (.imul, 1) := by decide +kernel
theorem dX7_told_42 : decode cX7_told 42 = .ok (.iload_n 2, 1) := by decide +kernel
theorem dX7_told_43 : decode cX7_told 43 = .ok (.iadd, 1) := by decide +kernel
theorem dX7_told_44 : decode cX7_told 44 = .ok (.iaload, 1) := by decide +kernel
theorem dX7_told_45 : decode cX7_told 45 = .ok (.goto 8, 3) := by decide +kernel
theorem dX7_told_48 : decode cX7_told 48 = .ok (.aload_n 0, 1) := by decide +kernel
theorem dX7_told_49 : decode cX7_told 49 = .ok (.iconst 1, 1) := by decide +kernel
theorem dX7_told_50 : decode cX7_told 50 = .ok (.invokevirtual 34, 3) := by decide +kernel
theorem dX7_told_53 : decode cX7_told 53 = .ok (.ireturn, 1) := by decide +kernel
theorem dX7_wouldBe_0 : decode cX7_wouldBe 0 = .ok (.aload_n 0, 1) := by decide +kernel
theorem dX7_wouldBe_1 : decode cX7_wouldBe 1 = .ok (.iconst 0, 1) := by decide +kernel
theorem dX7_wouldBe_2 : decode cX7_wouldBe 2 = .ok (.putfield 19, 3) := by decide +kernel
theorem dX7_wouldBe_5 : decode cX7_wouldBe 5 = .ok (.iload_n 1, 1) := by decide +kernel
theorem dX7_wouldBe_6 : decode cX7_wouldBe 6 = .ok (.iload_n 2, 1) := by decide +kernel
theorem dX7_wouldBe_7 : decode cX7_wouldBe 7 = .ok (.iload_n 3, 1) := by decide +kernel
theorem dX7_wouldBe_8 : decode cX7_wouldBe 8 = .ok (.iload 4, 2) := by decide +kernel
theorem dX7_wouldBe_10 : decode cX7_wouldBe 10 = .ok (.iload 5, 2) := by decide +kernel
theorem dX7_wouldBe_12 : decode cX7_wouldBe 12 = .ok (.iload 6, 2) := by decide +kernel
theorem dX7_wouldBe_14 : decode cX7_wouldBe 14 = .ok (.iload 7, 2) := by decide +kernel
theorem dX7_wouldBe_16 : decode cX7_wouldBe 16 = .ok (.invokestatic 126, 3) := by decide +kernel
theorem dX7_wouldBe_19 : decode cX7_wouldBe 19 = .ok (.ifCond .ne 9, 3) := by decide +kernel
theorem dX7_wouldBe_22 : decode cX7_wouldBe 22 = .ok (.aload_n 0, 1) := by decide +kernel
theorem dX7_wouldBe_23 : decode cX7_wouldBe 23 = .ok (.iconst 1, 1) := by decide +kernel
theorem dX7_wouldBe_24 : decode cX7_wouldBe 24 = .ok (.invokevirtual 34, 3) := by decide +kernel
theorem dX7_wouldBe_27 : decode cX7_wouldBe 27 = .ok (.ireturn, 1) := by decide +kernel
theorem dX7_wouldBe_28 : decode cX7_wouldBe 28 = .ok (.iload 8, 2) := by decide +kernel
theorem dX7_wouldBe_30 : decode cX7_wouldBe 30 = .ok (.iconst 0, 1) := by decide +kernel
theorem dX7_wouldBe_31 : decode cX7_wouldBe 31 = .ok (.iconst 5, 1) := by decide +kernel
theorem dX7_wouldBe_32 : decode cX7_wouldBe 32 = .ok (.invokestatic 26, 3) := by decide +kernel
theorem dX7_wouldBe_35 : decode cX7_wouldBe 35 = .ok (.ifCond .ne 9, 3) := by decide +kernel
theorem dX7_wouldBe_38 : decode cX7_wouldBe 38 = .ok (.aload_n 0, 1) := by decide +kernel
theorem dX7_wouldBe_39 : decode cX7_wouldBe 39 = .ok (.iconst 2, 1) := by decide +kernel
theorem dX7_wouldBe_40 : decode cX7_wouldBe 40 = .ok (.invokevirtual 34, 3) := by decide +kernel
theorem dX7_wouldBe_43 : decode cX7_wouldBe 43 = .ok (.ireturn, 1) := by decide +kernel
theorem dX7_wouldBe_44 : decode cX7_wouldBe 44 = .ok (.aload_n 0, 1) := by decide +kernel
theorem dX7_wouldBe_45 : decode cX7_wouldBe 45 = .ok (.getfield 16, 3) := by decide +kernel
theorem dX7_wouldBe_48 : decode cX7_wouldBe 48 = .ok (.aload_n 0, 1) := by decide +kernel
theorem dX7_wouldBe_49 : decode cX7_wouldBe 49 = .ok (.getfield 10, 3) := by decide +kernel
theorem dX7_wouldBe_52 : decode cX7_wouldBe 52 = .ok (.invokevirtual 140, 3) := by decide +kernel
theorem dX7_wouldBe_55 : decode cX7_wouldBe 55 = .ok (.aload_n 0, 1) := by decide +kernel
theorem dX7_wouldBe_56 : decode cX7_wouldBe 56 = .ok (.getfield 16, 3) := by decide +kernel
theorem dX7_wouldBe_59 : decode cX7_wouldBe 59 = .ok (.iload_n 1, 1) := by decide +kernel
theorem dX7_wouldBe_60 : decode cX7_wouldBe 60 = .ok (.iload_n 2, 1) := by decide +kernel
theorem dX7_wouldBe_61 : decode cX7_wouldBe 61 = .ok (.iload_n 3, 1) := by decide +kernel
theorem dX7_wouldBe_62 : decode cX7_wouldBe 62 = .ok (.iload 4, 2) := by decide +kernel
theorem dX7_wouldBe_64 : decode cX7_wouldBe 64 = .ok (.iload 5, 2) := by decide +kernel
theorem dX7_wouldBe_66 : decode cX7_wouldBe 66 = .ok (.iload 6, 2) := by decide +kernel
theorem dX7_wouldBe_68 : decode cX7_wouldBe 68 = .ok (.iload 7, 2) := by decide +kernel
theorem dX7_wouldBe_70 : decode cX7_wouldBe 70 = .ok (.invokevirtual 130, 3) := by decide +kernel
theorem dX7_wouldBe_73 : decode cX7_wouldBe 73 = .ok (.aload_n 0, 1) := by decide +kernel
theorem dX7_wouldBe_74 : decode cX7_wouldBe 74 = .ok (.getfield 16, 3) := by decide +kernel
theorem dX7_wouldBe_77 : decode cX7_wouldBe 77 = .ok (.getfield 134, 3) := by decide +kernel
theorem dX7_wouldBe_80 : decode cX7_wouldBe 80 = .ok (.iload 8, 2) := by decide +kernel
theorem dX7_wouldBe_82 : decode cX7_wouldBe 82 = .ok (.iaload, 1) := by decide +kernel
theorem dX7_wouldBe_83 : decode cX7_wouldBe 83 = .ok (.ireturn, 1) := by decide +kernel
theorem dX7_worst_0 : decode cX7_worst 0 = .ok (.aload_n 0, 1) := by decide +kernel
theorem dX7_worst_1 : decode cX7_worst 1 = .ok (.iconst 0, 1) := by decide +kernel
theorem dX7_worst_2 : decode cX7_worst 2 = .ok (.putfield 19, 3) := by decide +kernel
theorem dX7_worst_5 : decode cX7_worst 5 = .ok (.iload_n 1, 1) := by decide +kernel
theorem dX7_worst_6 : decode cX7_worst 6 = .ok (.iconst 0, 1) := by decide +kernel
theorem dX7_worst_7 : decode cX7_worst 7 = .ok (.iconst 5, 1) := by decide +kernel
theorem dX7_worst_8 : decode cX7_worst 8 = .ok (.invokestatic 26, 3) := by decide +kernel
theorem dX7_worst_11 : decode cX7_worst 11 = .ok (.ifCond .eq 13, 3) := by decide +kernel
theorem dX7_worst_14 : decode cX7_worst 14 = .ok (.iload_n 2, 1) := by decide +kernel
theorem dX7_worst_15 : decode cX7_worst 15 = .ok (.iconst 1, 1) := by decide +kernel
theorem dX7_worst_16 : decode cX7_worst 16 = .ok (.bipush 20, 2) := by decide +kernel
theorem dX7_worst_18 : decode cX7_worst 18 = .ok (.invokestatic 26, 3) := by decide +kernel
theorem dX7_worst_21 : decode cX7_worst 21 = .ok (.ifCond .ne 9, 3) := by decide +kernel
theorem dX7_worst_24 : decode cX7_worst 24 = .ok (.aload_n 0, 1) := by decide +kernel
theorem dX7_worst_25 : decode cX7_worst 25 = .ok (.iconst 1, 1) := by decide +kernel
theorem dX7_worst_26 : decode cX7_worst 26 = .ok (.invokevirtual 34, 3) := by decide +kernel
theorem dX7_worst_29 : decode cX7_worst 29 = .ok (.ireturn, 1) := by decide +kernel
theorem dX7_worst_30 : decode cX7_worst 30 = .ok (.iconst (-1), 1) := by decide +kernel
theorem dX7_worst_31 : decode cX7_worst 31 = .ok (.istore_n 3, 1) := by decide +kernel
theorem dX7_worst_32 : decode cX7_worst 32 = .ok (.iconst 0, 1) := by decide +kernel
theorem dX7_worst_33 : decode cX7_worst 33 = .ok (.istore 4, 2) := by decide +kernel
theorem dX7_worst_35 : decode cX7_worst 35 = .ok (.iconst 0, 1) := by decide +kernel
theorem dX7_worst_36 : decode cX7_worst 36 = .ok (.istore 5, 2) := by decide +kernel
theorem dX7_worst_38 : decode cX7_worst 38 = .ok (.iload 5, 2) := by decide +kernel
theorem dX7_worst_40 : decode cX7_worst 40 = .ok (.bipush 20, 2) := by decide +kernel
theorem dX7_worst_42 : decode cX7_worst 42 = .ok (.if_icmp .ge 67, 3) := by decide +kernel
theorem dX7_worst_45 : decode cX7_worst 45 = .ok (.aload_n 0, 1) := by decide +kernel
theorem dX7_worst_46 : decode cX7_worst 46 = .ok (.getfield 16, 3) := by decide +kernel
theorem dX7_worst_49 : decode cX7_worst 49 = .ok (.aload_n 0, 1) := by decide +kernel
theorem dX7_worst_50 : decode cX7_worst 50 = .ok (.getfield 10, 3) := by decide +kernel
theorem dX7_worst_53 : decode cX7_worst 53 = .ok (.invokevirtual 140, 3) := by decide +kernel
theorem dX7_worst_56 : decode cX7_worst 56 = .ok (.aload_n 0, 1) := by decide +kernel
theorem dX7_worst_57 : decode cX7_worst 57 = .ok (.getfield 16, 3) := by decide +kernel
theorem dX7_worst_60 : decode cX7_worst 60 = .ok (.iconst 0, 1) := by decide +kernel
theorem dX7_worst_61 : decode cX7_worst 61 = .ok (.iload 5, 2) := by decide +kernel
theorem dX7_worst_63 : decode cX7_worst 63 = .ok (.iconst 2, 1) := by decide +kernel
theorem dX7_worst_64 : decode cX7_worst 64 = .ok (.iconst 0, 1) := by decide +kernel
theorem dX7_worst_65 : decode cX7_worst 65 = .ok (.iload_n 1, 1) := by decide +kernel
theorem dX7_worst_66 : decode cX7_worst 66 = .ok (.iload_n 2, 1) := by decide +kernel
theorem dX7_worst_67 : decode cX7_worst 67 = .ok (.bipush 12, 2) := by decide +kernel
theorem dX7_worst_69 : decode cX7_worst 69 = .ok (.invokevirtual 130, 3) := by decide +kernel
theorem dX7_worst_72 : decode cX7_worst 72 = .ok (.aload_n 0, 1) := by decide +kernel
theorem dX7_worst_73 : decode cX7_worst 73 = .ok (.getfield 16, 3) := by decide +kernel
theorem dX7_worst_76 : decode cX7_worst 76 = .ok (.getfield 134, 3) := by decide +kernel
theorem dX7_worst_79 : decode cX7_worst 79 = .ok (.iconst 3, 1) := by decide +kernel
theorem dX7_worst_80 : decode cX7_worst 80 = .ok (.iaload, 1) := by decide +kernel
theorem dX7_worst_81 : decode cX7_worst 81 = .ok (.iload 4, 2) := by decide +kernel
theorem dX7_worst_83 : decode cX7_worst 83 = .ok (.if_icmp .gt 6, 3) := by decide +kernel
theorem dX7_worst_86 : decode cX7_worst 86 = .ok (.goto 17, 3) := by decide +kernel
theorem dX7_worst_89 : decode cX7_worst 89 = .ok (.aload_n 0, 1) := by decide +kernel
theorem dX7_worst_90 : decode cX7_worst 90 = .ok (.getfield 16, 3) := by decide +kernel
theorem dX7_worst_93 : decode cX7_worst 93 = .ok (.getfield 134, 3) := by decide +kernel
theorem dX7_worst_96 : decode cX7_worst 96 = .ok (.iconst 3, 1) := by decide +kernel
theorem dX7_worst_97 : decode cX7_worst 97 = .ok (.iaload, 1) := by decide +kernel
theorem dX7_worst_98 : decode cX7_worst 98 = .ok (.istore 4, 2) := by decide +kernel
theorem dX7_worst_100 : decode cX7_worst 100 = .ok (.iload 5, 2) := by decide +kernel
theorem dX7_worst_102 : decode cX7_worst 102 = .ok (.istore_n 3, 1) := by decide +kernel
theorem dX7_worst_103 : decode cX7_worst 103 = .ok (.iinc 5 1, 3) := by decide +kernel
theorem dX7_worst_106 : decode cX7_worst 106 = .ok (.goto (-68), 3) := by decide +kernel
theorem dX7_worst_109 : decode cX7_worst 109 = .ok (.iload_n 3, 1) := by decide +kernel
theorem dX7_worst_110 : decode cX7_worst 110 = .ok (.ireturn, 1) := by decide +kernel
theorem dX7_damage_0 : decode cX7_damage 0 = .ok (.aload_n 0, 1) := by decide +kernel
theorem dX7_damage_1 : decode cX7_damage 1 = .ok (.getfield 16, 3) := by decide +kernel
theorem dX7_damage_4 : decode cX7_damage 4 = .ok (.aload_n 0, 1) := by decide +kernel
theorem dX7_damage_5 : decode cX7_damage 5 = .ok (.getfield 10, 3) := by decide +kernel
theorem dX7_damage_8 : decode cX7_damage 8 = .ok (.invokevirtual 140, 3) := by decide +kernel
theorem dX7_damage_11 : decode cX7_damage 11 = .ok (.iload_n 1, 1) := by decide +kernel
theorem dX7_damage_12 : decode cX7_damage 12 = .ok (.iconst (-1), 1) := by decide +kernel
theorem dX7_damage_13 : decode cX7_damage 13 = .ok (.if_icmp .eq 13, 3) := by decide +kernel
theorem dX7_damage_16 : decode cX7_damage 16 = .ok (.aload_n 0, 1) := by decide +kernel
theorem dX7_damage_17 : decode cX7_damage 17 = .ok (.getfield 16, 3) := by decide +kernel
theorem dX7_damage_20 : decode cX7_damage 20 = .ok (.getfield 65, 3) := by decide +kernel
theorem dX7_damage_23 : decode cX7_damage 23 = .ok (.iload_n 1, 1) := by decide +kernel
theorem dX7_damage_24 : decode cX7_damage 24 = .ok (.iconst 1, 1) := by decide +kernel
theorem dX7_damage_25 : decode cX7_damage 25 = .ok (.bastore, 1) := by decide +kernel
theorem dX7_damage_26 : decode cX7_damage 26 = .ok (.aload_n 0, 1) := by decide +kernel
theorem dX7_damage_27 : decode cX7_damage 27 = .ok (.getfield 16, 3) := by decide +kernel
theorem dX7_damage_30 : decode cX7_damage 30 = .ok (.iconst 0, 1) := by decide +kernel
theorem dX7_damage_31 : decode cX7_damage 31 = .ok (.iload_n 2, 1) := by decide +kernel
theorem dX7_damage_32 : decode cX7_damage 32 = .ok (.iconst 2, 1) := by decide +kernel
theorem dX7_damage_33 : decode cX7_damage 33 = .ok (.iconst 0, 1) := by decide +kernel
theorem dX7_damage_34 : decode cX7_damage 34 = .ok (.iload_n 3, 1) := by decide +kernel
theorem dX7_damage_35 : decode cX7_damage 35 = .ok (.iload 4, 2) := by decide +kernel
theorem dX7_damage_37 : decode cX7_damage 37 = .ok (.bipush 12, 2) := by decide +kernel
theorem dX7_damage_39 : decode cX7_damage 39 = .ok (.invokevirtual 130, 3) := by decide +kernel
theorem dX7_damage_42 : decode cX7_damage 42 = .ok (.aload_n 0, 1) := by decide +kernel
theorem dX7_damage_43 : decode cX7_damage 43 = .ok (.getfield 16, 3) := by decide +kernel
theorem dX7_damage_46 : decode cX7_damage 46 = .ok (.getfield 134, 3) := by decide +kernel
theorem dX7_damage_49 : decode cX7_damage 49 = .ok (.iconst 2, 1) := by decide +kernel
theorem dX7_damage_50 : decode cX7_damage 50 = .ok (.iaload, 1) := by decide +kernel
theorem dX7_damage_51 : decode cX7_damage 51 = .ok (.ireturn, 1) := by decide +kernel
theorem dX7_advise_0 : decode cX7_advise 0 = .ok (.aload_n 0, 1) := by decide +kernel
theorem dX7_advise_1 : decode cX7_advise 1 = .ok (.iconst 0, 1) := by decide +kernel
theorem dX7_advise_2 : decode cX7_advise 2 = .ok (.putfield 19, 3) := by decide +kernel
theorem dX7_advise_5 : decode cX7_advise 5 = .ok (.iload_n 1, 1) := by decide +kernel
theorem dX7_advise_6 : decode cX7_advise 6 = .ok (.iconst 0, 1) := by decide +kernel
theorem dX7_advise_7 : decode cX7_advise 7 = .ok (.bipush 19, 2) := by decide +kernel
theorem dX7_advise_9 : decode cX7_advise 9 = .ok (.invokestatic 26, 3) := by decide +kernel
theorem dX7_advise_12 : decode cX7_advise 12 = .ok (.ifCond .eq 22, 3) := by decide +kernel
theorem dX7_advise_15 : decode cX7_advise 15 = .ok (.iload_n 2, 1) := by decide +kernel
theorem dX7_advise_16 : decode cX7_advise 16 = .ok (.iconst 0, 1) := by decide +kernel
theorem dX7_advise_17 : decode cX7_advise 17 = .ok (.iconst 5, 1) := by decide +kernel
theorem dX7_advise_18 : decode cX7_advise 18 = .ok (.invokestatic 26, 3) := by decide +kernel
theorem dX7_advise_21 : decode cX7_advise 21 = .ok (.ifCond .eq 13, 3) := by decide +kernel
theorem dX7_advise_24 : decode cX7_advise 24 = .ok (.iload_n 3, 1) := by decide +kernel
theorem dX7_advise_25 : decode cX7_advise 25 = .ok (.iconst 1, 1) := by decide +kernel
theorem dX7_advise_26 : decode cX7_advise 26 = .ok (.bipush 20, 2) := by decide +kernel
theorem dX7_advise_28 : decode cX7_advise 28 = .ok (.invokestatic 26, 3) := by decide +kernel
theorem dX7_advise_31 : decode cX7_advise 31 = .ok (.ifCond .ne 9, 3) := by decide +kernel
theorem dX7_advise_34 : decode cX7_advise 34 = .ok (.aload_n 0, 1) := by decide +kernel
theorem dX7_advise_35 : decode cX7_advise 35 = .ok (.iconst 1, 1) := by decide +kernel
theorem dX7_advise_36 : decode cX7_advise 36 = .ok (.invokevirtual 34, 3) := by decide +kernel
theorem dX7_advise_39 : decode cX7_advise 39 = .ok (.ireturn, 1) := by decide +kernel
theorem dX7_advise_40 : decode cX7_advise 40 = .ok (.iconst (-1), 1) := by decide +kernel
theorem dX7_advise_41 : decode cX7_advise 41 = .ok (.istore 4, 2) := by decide +kernel
theorem dX7_advise_43 : decode cX7_advise 43 = .ok (.aload_n 0, 1) := by decide +kernel
theorem dX7_advise_44 : decode cX7_advise 44 = .ok (.iconst (-1), 1) := by decide +kernel
theorem dX7_advise_45 : decode cX7_advise 45 = .ok (.iload_n 1, 1) := by decide +kernel
theorem dX7_advise_46 : decode cX7_advise 46 = .ok (.iload_n 2, 1) := by decide +kernel
theorem dX7_advise_47 : decode cX7_advise 47 = .ok (.iload_n 3, 1) := by decide +kernel
theorem dX7_advise_48 : decode cX7_advise 48 = .ok (.invokevirtual 144, 3) := by decide +kernel
theorem dX7_advise_51 : decode cX7_advise 51 = .ok (.istore 5, 2) := by decide +kernel
theorem dX7_advise_53 : decode cX7_advise 53 = .ok (.iconst 0, 1) := by decide +kernel
theorem dX7_advise_54 : decode cX7_advise 54 = .ok (.istore 6, 2) := by decide +kernel
theorem dX7_advise_56 : decode cX7_advise 56 = .ok (.iload 6, 2) := by decide +kernel
theorem dX7_advise_58 : decode cX7_advise 58 = .ok (.aload_n 0, 1) := by decide +kernel
theorem dX7_advise_59 : decode cX7_advise 59 = .ok (.getfield 10, 3) := by decide +kernel
theorem dX7_advise_62 : decode cX7_advise 62 = .ok (.getfield 30, 3) := by decide +kernel
theorem dX7_advise_65 : decode cX7_advise 65 = .ok (.if_icmp .ge 56, 3) := by decide +kernel
theorem dX7_advise_68 : decode cX7_advise 68 = .ok (.aload_n 0, 1) := by decide +kernel
theorem dX7_advise_69 : decode cX7_advise 69 = .ok (.getfield 10, 3) := by decide +kernel
theorem dX7_advise_72 : decode cX7_advise 72 = .ok (.getfield 65, 3) := by decide +kernel
theorem dX7_advise_75 : decode cX7_advise 75 = .ok (.iload 6, 2) := by decide +kernel
theorem dX7_advise_77 : decode cX7_advise 77 = .ok (.baload, 1) := by decide +kernel
theorem dX7_advise_78 : decode cX7_advise 78 = .ok (.ifCond .eq 8, 3) := by decide +kernel
theorem dX7_advise_81 : decode cX7_advise 81 = .ok (.iload 5, 2) := by decide +kernel
theorem dX7_advise_83 : decode cX7_advise 83 = .ok (.goto 12, 3) := by decide +kernel
theorem dX7_advise_86 : decode cX7_advise 86 = .ok (.aload_n 0, 1) := by decide +kernel
theorem dX7_advise_87 : decode cX7_advise 87 = .ok (.iload 6, 2) := by decide +kernel
theorem dX7_advise_89 : decode cX7_advise 89 = .ok (.iload_n 1, 1) := by decide +kernel
theorem dX7_advise_90 : decode cX7_advise 90 = .ok (.iload_n 2, 1) := by decide +kernel
theorem dX7_advise_91 : decode cX7_advise 91 = .ok (.iload_n 3, 1) := by decide +kernel
theorem dX7_advise_92 : decode cX7_advise 92 = .ok (.invokevirtual 144, 3) := by decide +kernel
theorem dX7_advise_95 : decode cX7_advise 95 = .ok (.istore 7, 2) := by decide +kernel
theorem dX7_advise_97 : decode cX7_advise 97 = .ok (.iload 7, 2) := by decide +kernel
theorem dX7_advise_99 : decode cX7_advise 99 = .ok (.iload 5, 2) := by decide +kernel
theorem dX7_advise_101 : decode cX7_advise 101 = .ok (.if_icmp .lt 6, 3) := by decide +kernel
theorem dX7_advise_104 : decode cX7_advise 104 = .ok (.goto 11, 3) := by decide +kernel
theorem dX7_advise_107 : decode cX7_advise 107 = .ok (.iload 7, 2) := by decide +kernel
theorem dX7_advise_109 : decode cX7_advise 109 = .ok (.istore 5, 2) := by decide +kernel
theorem dX7_advise_111 : decode cX7_advise 111 = .ok (.iload 6, 2) := by decide +kernel
theorem dX7_advise_113 : decode cX7_advise 113 = .ok (.istore 4, 2) := by decide +kernel
theorem dX7_advise_115 : decode cX7_advise 115 = .ok (.iinc 6 1, 3) := by decide +kernel
theorem dX7_advise_118 : decode cX7_advise 118 = .ok (.goto (-62), 3) := by decide +kernel
theorem dX7_advise_121 : decode cX7_advise 121 = .ok (.iload 4, 2) := by decide +kernel
theorem dX7_advise_123 : decode cX7_advise 123 = .ok (.ireturn, 1) := by decide +kernel
theorem dX7_loss_0 : decode cX7_loss 0 = .ok (.aload_n 0, 1) := by decide +kernel
theorem dX7_loss_1 : decode cX7_loss 1 = .ok (.iconst 0, 1) := by decide +kernel
theorem dX7_loss_2 : decode cX7_loss 2 = .ok (.putfield 19, 3) := by decide +kernel
theorem dX7_loss_5 : decode cX7_loss 5 = .ok (.aload_n 0, 1) := by decide +kernel
theorem dX7_loss_6 : decode cX7_loss 6 = .ok (.getfield 10, 3) := by decide +kernel
theorem dX7_loss_9 : decode cX7_loss 9 = .ok (.getfield 30, 3) := by decide +kernel
theorem dX7_loss_12 : decode cX7_loss 12 = .ok (.ifCond .ne 7, 3) := by decide +kernel
theorem dX7_loss_15 : decode cX7_loss 15 = .ok (.dconst 0, 1) := by decide +kernel
theorem dX7_loss_16 : decode cX7_loss 16 = .ok (.goto 22, 3) := by decide +kernel
theorem dX7_loss_19 : decode cX7_loss 19 = .ok (.aload_n 0, 1) := by decide +kernel
theorem dX7_loss_20 : decode cX7_loss 20 = .ok (.getfield 10, 3) := by decide +kernel
theorem dX7_loss_23 : decode cX7_loss 23 = .ok (.iconst (-1), 1) := by decide +kernel
theorem dX7_loss_24 : decode cX7_loss 24 = .ok (.invokevirtual 91, 3) := by decide +kernel
theorem dX7_loss_27 : decode cX7_loss 27 = .ok (.i2d, 1) := by decide +kernel
theorem dX7_loss_28 : decode cX7_loss 28 = .ok (.aload_n 0, 1) := by decide +kernel
theorem dX7_loss_29 : decode cX7_loss 29 = .ok (.getfield 10, 3) := by decide +kernel
theorem dX7_loss_32 : decode cX7_loss 32 = .ok (.iconst (-1), 1) := by decide +kernel
theorem dX7_loss_33 : decode cX7_loss 33 = .ok (.invokevirtual 88, 3) := by decide +kernel
theorem dX7_loss_36 : decode cX7_loss 36 = .ok (.i2d, 1) := by decide +kernel
theorem dX7_loss_37 : decode cX7_loss 37 = .ok (.ddiv, 1) := by decide +kernel
theorem dX7_loss_38 : decode cX7_loss 38 = .ok (.dreturn, 1) := by decide +kernel
theorem dX7_digest_0 : decode cX7_digest 0 = .ok (.aload_n 0, 1) := by decide +kernel
theorem dX7_digest_1 : decode cX7_digest 1 = .ok (.iconst 0, 1) := by decide +kernel
theorem dX7_digest_2 : decode cX7_digest 2 = .ok (.putfield 19, 3) := by decide +kernel
theorem dX7_digest_5 : decode cX7_digest 5 = .ok (.ldc2_w 148, 3) := by decide +kernel
theorem dX7_digest_8 : decode cX7_digest 8 = .ok (.lstore_n 1, 1) := by decide +kernel
theorem dX7_digest_9 : decode cX7_digest 9 = .ok (.iconst 0, 1) := by decide +kernel
theorem dX7_digest_10 : decode cX7_digest 10 = .ok (.istore_n 3, 1) := by decide +kernel
theorem dX7_digest_11 : decode cX7_digest 11 = .ok (.iload_n 3, 1) := by decide +kernel
theorem dX7_digest_12 : decode cX7_digest 12 = .ok (.bipush 11, 2) := by decide +kernel
theorem dX7_digest_14 : decode cX7_digest 14 = .ok (.if_icmp .ge 22, 3) := by decide +kernel
theorem dX7_digest_17 : decode cX7_digest 17 = .ok (.lload_n 1, 1) := by decide +kernel
theorem dX7_digest_18 : decode cX7_digest 18 = .ok (.ldc2_w 150, 3) := by decide +kernel
theorem dX7_digest_21 : decode cX7_digest 21 = .ok (.lmul, 1) := by decide +kernel
theorem dX7_digest_22 : decode cX7_digest 22 = .ok (.aload_n 0, 1) := by decide +kernel
theorem dX7_digest_23 : decode cX7_digest 23 = .ok (.iload_n 3, 1) := by decide +kernel
theorem dX7_digest_24 : decode cX7_digest 24 = .ok (.invokevirtual 119, 3) := by decide +kernel
theorem dX7_digest_27 : decode cX7_digest 27 = .ok (.i2l, 1) := by decide +kernel
theorem dX7_digest_28 : decode cX7_digest 28 = .ok (.ladd, 1) := by decide +kernel
theorem dX7_digest_29 : decode cX7_digest 29 = .ok (.lstore_n 1, 1) := by decide +kernel
theorem dX7_digest_30 : decode cX7_digest 30 = .ok (.iinc 3 1, 3) := by decide +kernel
theorem dX7_digest_33 : decode cX7_digest 33 = .ok (.goto (-22), 3) := by decide +kernel
theorem dX7_digest_36 : decode cX7_digest 36 = .ok (.iconst 0, 1) := by decide +kernel
theorem dX7_digest_37 : decode cX7_digest 37 = .ok (.istore_n 3, 1) := by decide +kernel
theorem dX7_digest_38 : decode cX7_digest 38 = .ok (.iload_n 3, 1) := by decide +kernel
theorem dX7_digest_39 : decode cX7_digest 39 = .ok (.aload_n 0, 1) := by decide +kernel
theorem dX7_digest_40 : decode cX7_digest 40 = .ok (.getfield 10, 3) := by decide +kernel
theorem dX7_digest_43 : decode cX7_digest 43 = .ok (.getfield 23, 3) := by decide +kernel
theorem dX7_digest_46 : decode cX7_digest 46 = .ok (.if_icmp .ge 40, 3) := by decide +kernel
theorem dX7_digest_49 : decode cX7_digest 49 = .ok (.iconst 0, 1) := by decide +kernel
theorem dX7_digest_50 : decode cX7_digest 50 = .ok (.istore 4, 2) := by decide +kernel
theorem dX7_digest_52 : decode cX7_digest 52 = .ok (.iload 4, 2) := by decide +kernel
theorem dX7_digest_54 : decode cX7_digest 54 = .ok (.bipush 10, 2) := by decide +kernel
theorem dX7_digest_56 : decode cX7_digest 56 = .ok (.if_icmp .ge 24, 3) := by decide +kernel
theorem dX7_digest_59 : decode cX7_digest 59 = .ok (.lload_n 1, 1) := by decide +kernel
theorem dX7_digest_60 : decode cX7_digest 60 = .ok (.ldc2_w 150, 3) := by decide +kernel
theorem dX7_digest_63 : decode cX7_digest 63 = .ok (.lmul, 1) := by decide +kernel
theorem dX7_digest_64 : decode cX7_digest 64 = .ok (.aload_n 0, 1) := by decide +kernel
theorem dX7_digest_65 : decode cX7_digest 65 = .ok (.iload_n 3, 1) := by decide +kernel
theorem dX7_digest_66 : decode cX7_digest 66 = .ok (.iload 4, 2) := by decide +kernel
theorem dX7_digest_68 : decode cX7_digest 68 = .ok (.invokevirtual 94, 3) := by decide +kernel
theorem dX7_digest_71 : decode cX7_digest 71 = .ok (.i2l, 1) := by decide +kernel
theorem dX7_digest_72 : decode cX7_digest 72 = .ok (.ladd, 1) := by decide +kernel
theorem dX7_digest_73 : decode cX7_digest 73 = .ok (.lstore_n 1, 1) := by decide +kernel
theorem dX7_digest_74 : decode cX7_digest 74 = .ok (.iinc 4 1, 3) := by decide +kernel
theorem dX7_digest_77 : decode cX7_digest 77 = .ok (.goto (-25), 3) := by decide +kernel
theorem dX7_digest_80 : decode cX7_digest 80 = .ok (.iinc 3 1, 3) := by decide +kernel
theorem dX7_digest_83 : decode cX7_digest 83 = .ok (.goto (-45), 3) := by decide +kernel
theorem dX7_digest_86 : decode cX7_digest 86 = .ok (.iconst 0, 1) := by decide +kernel
theorem dX7_digest_87 : decode cX7_digest 87 = .ok (.istore_n 3, 1) := by decide +kernel
theorem dX7_digest_88 : decode cX7_digest 88 = .ok (.iload_n 3, 1) := by decide +kernel
theorem dX7_digest_89 : decode cX7_digest 89 = .ok (.aload_n 0, 1) := by decide +kernel
theorem dX7_digest_90 : decode cX7_digest 90 = .ok (.getfield 10, 3) := by decide +kernel
theorem dX7_digest_93 : decode cX7_digest 93 = .ok (.getfield 30, 3) := by decide +kernel
theorem dX7_digest_96 : decode cX7_digest 96 = .ok (.if_icmp .ge 85, 3) := by decide +kernel
theorem dX7_digest_99 : decode cX7_digest 99 = .ok (.iconst 0, 1) := by decide +kernel
theorem dX7_digest_100 : decode cX7_digest 100 = .ok (.istore 4, 2) := by decide +kernel
theorem dX7_digest_102 : decode cX7_digest 102 = .ok (.iload 4, 2) := by decide +kernel
theorem dX7_digest_104 : decode cX7_digest 104 = .ok (.bipush 11, 2) := by decide +kernel
theorem dX7_digest_106 : decode cX7_digest 106 = .ok (.if_icmp .ge 24, 3) := by decide +kernel
theorem dX7_digest_109 : decode cX7_digest 109 = .ok (.lload_n 1, 1) := by decide +kernel
theorem dX7_digest_110 : decode cX7_digest 110 = .ok (.ldc2_w 150, 3) := by decide +kernel
theorem dX7_digest_113 : decode cX7_digest 113 = .ok (.lmul, 1) := by decide +kernel
theorem dX7_digest_114 : decode cX7_digest 114 = .ok (.aload_n 0, 1) := by decide +kernel
theorem dX7_digest_115 : decode cX7_digest 115 = .ok (.iload_n 3, 1) := by decide +kernel
theorem dX7_digest_116 : decode cX7_digest 116 = .ok (.iload 4, 2) := by decide +kernel
theorem dX7_digest_118 : decode cX7_digest 118 = .ok (.invokevirtual 100, 3) := by decide +kernel
theorem dX7_digest_121 : decode cX7_digest 121 = .ok (.i2l, 1) := by decide +kernel
theorem dX7_digest_122 : decode cX7_digest 122 = .ok (.ladd, 1) := by decide +kernel
theorem dX7_digest_123 : decode cX7_digest 123 = .ok (.lstore_n 1, 1) := by decide +kernel
theorem dX7_digest_124 : decode cX7_digest 124 = .ok (.iinc 4 1, 3) := by decide +kernel
theorem dX7_digest_127 : decode cX7_digest 127 = .ok (.goto (-25), 3) := by decide +kernel
theorem dX7_digest_130 : decode cX7_digest 130 = .ok (.iconst 0, 1) := by decide +kernel
theorem dX7_digest_131 : decode cX7_digest 131 = .ok (.istore 4, 2) := by decide +kernel
theorem dX7_digest_133 : decode cX7_digest 133 = .ok (.iload 4, 2) := by decide +kernel
theorem dX7_digest_135 : decode cX7_digest 135 = .ok (.aload_n 0, 1) := by decide +kernel
theorem dX7_digest_136 : decode cX7_digest 136 = .ok (.getfield 10, 3) := by decide +kernel
theorem dX7_digest_139 : decode cX7_digest 139 = .ok (.iload_n 3, 1) := by decide +kernel
theorem dX7_digest_140 : decode cX7_digest 140 = .ok (.invokevirtual 76, 3) := by decide +kernel
theorem dX7_digest_143 : decode cX7_digest 143 = .ok (.if_icmp .ge 32, 3) := by decide +kernel
theorem dX7_digest_146 : decode cX7_digest 146 = .ok (.lload_n 1, 1) := by decide +kernel
theorem dX7_digest_147 : decode cX7_digest 147 = .ok (.ldc2_w 150, 3) := by decide +kernel
theorem dX7_digest_150 : decode cX7_digest 150 = .ok (.lmul, 1) := by decide +kernel
theorem dX7_digest_151 : decode cX7_digest 151 = .ok (.aload_n 0, 1) := by decide +kernel
theorem dX7_digest_152 : decode cX7_digest 152 = .ok (.getfield 10, 3) := by decide +kernel
theorem dX7_digest_155 : decode cX7_digest 155 = .ok (.getfield 79, 3) := by decide +kernel
theorem dX7_digest_158 : decode cX7_digest 158 = .ok (.bipush 36, 2) := by decide +kernel
theorem dX7_digest_160 : decode cX7_digest 160 = .ok (.iload_n 3, 1) := by decide +kernel
theorem dX7_digest_161 : decode cX7_digest 161 = .ok (.imul, 1) := by decide +kernel
theorem dX7_digest_162 : decode cX7_digest 162 = .ok (.iload 4, 2) := by decide +kernel
theorem dX7_digest_164 : decode cX7_digest 164 = .ok (.iadd, 1) := by decide +kernel
theorem dX7_digest_165 : decode cX7_digest 165 = .ok (.iaload, 1) := by decide +kernel
theorem dX7_digest_166 : decode cX7_digest 166 = .ok (.i2l, 1) := by decide +kernel
theorem dX7_digest_167 : decode cX7_digest 167 = .ok (.ladd, 1) := by decide +kernel
theorem dX7_digest_168 : decode cX7_digest 168 = .ok (.lstore_n 1, 1) := by decide +kernel
theorem dX7_digest_169 : decode cX7_digest 169 = .ok (.iinc 4 1, 3) := by decide +kernel
theorem dX7_digest_172 : decode cX7_digest 172 = .ok (.goto (-39), 3) := by decide +kernel
theorem dX7_digest_175 : decode cX7_digest 175 = .ok (.iinc 3 1, 3) := by decide +kernel
theorem dX7_digest_178 : decode cX7_digest 178 = .ok (.goto (-90), 3) := by decide +kernel
theorem dX7_digest_181 : decode cX7_digest 181 = .ok (.iconst 0, 1) := by decide +kernel
theorem dX7_digest_182 : decode cX7_digest 182 = .ok (.istore_n 3, 1) := by decide +kernel
theorem dX7_digest_183 : decode cX7_digest 183 = .ok (.iload_n 3, 1) := by decide +kernel
theorem dX7_digest_184 : decode cX7_digest 184 = .ok (.iconst 5, 1) := by decide +kernel
theorem dX7_digest_185 : decode cX7_digest 185 = .ok (.aload_n 0, 1) := by decide +kernel
theorem dX7_digest_186 : decode cX7_digest 186 = .ok (.getfield 10, 3) := by decide +kernel
theorem dX7_digest_189 : decode cX7_digest 189 = .ok (.getfield 107, 3) := by decide +kernel
theorem dX7_digest_192 : decode cX7_digest 192 = .ok (.imul, 1) := by decide +kernel
theorem dX7_digest_193 : decode cX7_digest 193 = .ok (.if_icmp .ge 26, 3) := by decide +kernel
theorem dX7_digest_196 : decode cX7_digest 196 = .ok (.lload_n 1, 1) := by decide +kernel
theorem dX7_digest_197 : decode cX7_digest 197 = .ok (.ldc2_w 150, 3) := by decide +kernel
theorem dX7_digest_200 : decode cX7_digest 200 = .ok (.lmul, 1) := by decide +kernel
theorem dX7_digest_201 : decode cX7_digest 201 = .ok (.aload_n 0, 1) := by decide +kernel
theorem dX7_digest_202 : decode cX7_digest 202 = .ok (.getfield 10, 3) := by decide +kernel
theorem dX7_digest_205 : decode cX7_digest 205 = .ok (.getfield 110, 3) := by decide +kernel
theorem dX7_digest_208 : decode cX7_digest 208 = .ok (.iload_n 3, 1) := by decide +kernel
theorem dX7_digest_209 : decode cX7_digest 209 = .ok (.iaload, 1) := by decide +kernel
theorem dX7_digest_210 : decode cX7_digest 210 = .ok (.i2l, 1) := by decide +kernel
theorem dX7_digest_211 : decode cX7_digest 211 = .ok (.ladd, 1) := by decide +kernel
theorem dX7_digest_212 : decode cX7_digest 212 = .ok (.lstore_n 1, 1) := by decide +kernel
theorem dX7_digest_213 : decode cX7_digest 213 = .ok (.iinc 3 1, 3) := by decide +kernel
theorem dX7_digest_216 : decode cX7_digest 216 = .ok (.goto (-33), 3) := by decide +kernel
theorem dX7_digest_219 : decode cX7_digest 219 = .ok (.iconst 0, 1) := by decide +kernel
theorem dX7_digest_220 : decode cX7_digest 220 = .ok (.istore_n 3, 1) := by decide +kernel
theorem dX7_digest_221 : decode cX7_digest 221 = .ok (.iload_n 3, 1) := by decide +kernel
theorem dX7_digest_222 : decode cX7_digest 222 = .ok (.bipush 6, 2) := by decide +kernel
theorem dX7_digest_224 : decode cX7_digest 224 = .ok (.aload_n 0, 1) := by decide +kernel
theorem dX7_digest_225 : decode cX7_digest 225 = .ok (.getfield 10, 3) := by decide +kernel
theorem dX7_digest_228 : decode cX7_digest 228 = .ok (.getfield 113, 3) := by decide +kernel
theorem dX7_digest_231 : decode cX7_digest 231 = .ok (.imul, 1) := by decide +kernel
theorem dX7_digest_232 : decode cX7_digest 232 = .ok (.if_icmp .ge 26, 3) := by decide +kernel
theorem dX7_digest_235 : decode cX7_digest 235 = .ok (.lload_n 1, 1) := by decide +kernel
theorem dX7_digest_236 : decode cX7_digest 236 = .ok (.ldc2_w 150, 3) := by decide +kernel
theorem dX7_digest_239 : decode cX7_digest 239 = .ok (.lmul, 1) := by decide +kernel
theorem dX7_digest_240 : decode cX7_digest 240 = .ok (.aload_n 0, 1) := by decide +kernel
theorem dX7_digest_241 : decode cX7_digest 241 = .ok (.getfield 10, 3) := by decide +kernel
theorem dX7_digest_244 : decode cX7_digest 244 = .ok (.getfield 137, 3) := by decide +kernel
theorem dX7_digest_247 : decode cX7_digest 247 = .ok (.iload_n 3, 1) := by decide +kernel
theorem dX7_digest_248 : decode cX7_digest 248 = .ok (.iaload, 1) := by decide +kernel
theorem dX7_digest_249 : decode cX7_digest 249 = .ok (.i2l, 1) := by decide +kernel
theorem dX7_digest_250 : decode cX7_digest 250 = .ok (.ladd, 1) := by decide +kernel
theorem dX7_digest_251 : decode cX7_digest 251 = .ok (.lstore_n 1, 1) := by decide +kernel
theorem dX7_digest_252 : decode cX7_digest 252 = .ok (.iinc 3 1, 3) := by decide +kernel
theorem dX7_digest_255 : decode cX7_digest 255 = .ok (.goto (-34), 3) := by decide +kernel
theorem dX7_digest_258 : decode cX7_digest 258 = .ok (.lload_n 1, 1) := by decide +kernel
theorem dX7_digest_259 : decode cX7_digest 259 = .ok (.lreturn, 1) := by decide +kernel
theorem dJ9_abs_0f7a4_0 : decode cJ9_abs_0f7a4 0 = .ok (.iload_n 0, 1) := by decide +kernel
theorem dJ9_abs_0f7a4_1 : decode cJ9_abs_0f7a4 1 = .ok (.ifCond .ge 8, 3) := by decide +kernel
theorem dJ9_abs_0f7a4_4 : decode cJ9_abs_0f7a4 4 = .ok (.iload_n 0, 1) := by decide +kernel
theorem dJ9_abs_0f7a4_5 : decode cJ9_abs_0f7a4 5 = .ok (.ineg, 1) := by decide +kernel
theorem dJ9_abs_0f7a4_6 : decode cJ9_abs_0f7a4 6 = .ok (.goto 4, 3) := by decide +kernel
theorem dJ9_abs_0f7a4_9 : decode cJ9_abs_0f7a4 9 = .ok (.iload_n 0, 1) := by decide +kernel
theorem dJ9_abs_0f7a4_10 : decode cJ9_abs_0f7a4 10 = .ok (.ireturn, 1) := by decide +kernel
theorem dJ9_max_7cf53_0 : decode cJ9_max_7cf53 0 = .ok (.iload_n 0, 1) := by decide +kernel
theorem dJ9_max_7cf53_1 : decode cJ9_max_7cf53 1 = .ok (.iload_n 1, 1) := by decide +kernel
theorem dJ9_max_7cf53_2 : decode cJ9_max_7cf53 2 = .ok (.if_icmp .lt 7, 3) := by decide +kernel
theorem dJ9_max_7cf53_5 : decode cJ9_max_7cf53 5 = .ok (.iload_n 0, 1) := by decide +kernel
theorem dJ9_max_7cf53_6 : decode cJ9_max_7cf53 6 = .ok (.goto 4, 3) := by decide +kernel
theorem dJ9_max_7cf53_9 : decode cJ9_max_7cf53 9 = .ok (.iload_n 1, 1) := by decide +kernel
theorem dJ9_max_7cf53_10 : decode cJ9_max_7cf53 10 = .ok (.ireturn, 1) := by decide +kernel
theorem dJ9_min_7cf53_0 : decode cJ9_min_7cf53 0 = .ok (.iload_n 0, 1) := by decide +kernel
theorem dJ9_min_7cf53_1 : decode cJ9_min_7cf53 1 = .ok (.iload_n 1, 1) := by decide +kernel
theorem dJ9_min_7cf53_2 : decode cJ9_min_7cf53 2 = .ok (.if_icmp .gt 7, 3) := by decide +kernel
theorem dJ9_min_7cf53_5 : decode cJ9_min_7cf53 5 = .ok (.iload_n 0, 1) := by decide +kernel
theorem dJ9_min_7cf53_6 : decode cJ9_min_7cf53 6 = .ok (.goto 4, 3) := by decide +kernel
theorem dJ9_min_7cf53_9 : decode cJ9_min_7cf53 9 = .ok (.iload_n 1, 1) := by decide +kernel
theorem dJ9_min_7cf53_10 : decode cJ9_min_7cf53 10 = .ok (.ireturn, 1) := by decide +kernel
theorem dJxa1e45_init_da8c8_0 : decode cJxa1e45_init_da8c8 0 = .ok (.aload_n 0, 1) := by decide +kernel
theorem dJxa1e45_init_da8c8_1 : decode cJxa1e45_init_da8c8 1 = .ok (.invokespecial 1, 3) := by decide +kernel
theorem dJxa1e45_init_da8c8_4 : decode cJxa1e45_init_da8c8 4 = .ok (.return_, 1) := by decide +kernel
theorem dJxc12de_init_da8c8_0 : decode cJxc12de_init_da8c8 0 = .ok (.aload_n 0, 1) := by decide +kernel
theorem dJxc12de_init_da8c8_1 : decode cJxc12de_init_da8c8 1 = .ok (.invokespecial 1, 3) := by decide +kernel
theorem dJxc12de_init_da8c8_4 : decode cJxc12de_init_da8c8 4 = .ok (.aload_n 0, 1) := by decide +kernel
theorem dJxc12de_init_da8c8_5 : decode cJxc12de_init_da8c8 5 = .ok (.iconst 0, 1) := by decide +kernel
theorem dJxc12de_init_da8c8_6 : decode cJxc12de_init_da8c8 6 = .ok (.putfield 7, 3) := by decide +kernel
theorem dJxc12de_init_da8c8_9 : decode cJxc12de_init_da8c8 9 = .ok (.return_, 1) := by decide +kernel
theorem dJx4a65c_init_da8c8_0 : decode cJx4a65c_init_da8c8 0 = .ok (.aload_n 0, 1) := by decide +kernel
theorem dJx4a65c_init_da8c8_1 : decode cJx4a65c_init_da8c8 1 = .ok (.invokespecial 1, 3) := by decide +kernel
theorem dJx4a65c_init_da8c8_4 : decode cJx4a65c_init_da8c8 4 = .ok (.aload_n 0, 1) := by decide +kernel
theorem dJx4a65c_init_da8c8_5 : decode cJx4a65c_init_da8c8 5 = .ok (.getstatic 39, 3) := by decide +kernel
theorem dJx4a65c_init_da8c8_8 : decode cJx4a65c_init_da8c8 8 = .ok (.putfield 9, 3) := by decide +kernel
theorem dJx4a65c_init_da8c8_11 : decode cJx4a65c_init_da8c8 11 = .ok (.return_, 1) := by decide +kernel
theorem dJx4a65c_grow_92f84_0 : decode cJx4a65c_grow_92f84 0 = .ok (.aload_n 0, 1) := by decide +kernel
theorem dJx4a65c_grow_92f84_1 : decode cJx4a65c_grow_92f84 1 = .ok (.getfield 9, 3) := by decide +kernel
theorem dJx4a65c_grow_92f84_4 : decode cJx4a65c_grow_92f84 4 = .ok (.arraylength, 1) := by decide +kernel
theorem dJx4a65c_grow_92f84_5 : decode cJx4a65c_grow_92f84 5 = .ok (.istore_n 2, 1) := by decide +kernel
theorem dJx4a65c_grow_92f84_6 : decode cJx4a65c_grow_92f84 6 = .ok (.iload_n 2, 1) := by decide +kernel
theorem dJx4a65c_grow_92f84_7 : decode cJx4a65c_grow_92f84 7 = .ok (.ifCond .gt 13, 3) := by decide +kernel
theorem dJx4a65c_grow_92f84_10 : decode cJx4a65c_grow_92f84 10 = .ok (.aload_n 0, 1) := by decide +kernel
theorem dJx4a65c_grow_92f84_11 : decode cJx4a65c_grow_92f84 11 = .ok (.getfield 9, 3) := by decide +kernel
theorem dJx4a65c_grow_92f84_14 : decode cJx4a65c_grow_92f84 14 = .ok (.getstatic 39, 3) := by decide +kernel
theorem dJx4a65c_grow_92f84_17 : decode cJx4a65c_grow_92f84 17 = .ok (.if_acmp .eq 28, 3) := by decide +kernel
theorem dJx4a65c_grow_92f84_20 : decode cJx4a65c_grow_92f84 20 = .ok (.iload_n 2, 1) := by decide +kernel
theorem dJx4a65c_grow_92f84_21 : decode cJx4a65c_grow_92f84 21 = .ok (.iload_n 1, 1) := by decide +kernel
theorem dJx4a65c_grow_92f84_22 : decode cJx4a65c_grow_92f84 22 = .ok (.iload_n 2, 1) := by decide +kernel
theorem dJx4a65c_grow_92f84_23 : decode cJx4a65c_grow_92f84 23 = .ok (.isub, 1) := by decide +kernel
theorem dJx4a65c_grow_92f84_24 : decode cJx4a65c_grow_92f84 24 = .ok (.iload_n 2, 1) := by decide +kernel
theorem dJx4a65c_grow_92f84_25 : decode cJx4a65c_grow_92f84 25 = .ok (.iconst 1, 1) := by decide +kernel
theorem dJx4a65c_grow_92f84_26 : decode cJx4a65c_grow_92f84 26 = .ok (.ishr, 1) := by decide +kernel
theorem dJx4a65c_grow_92f84_27 : decode cJx4a65c_grow_92f84 27 = .ok (.invokestatic 73, 3) := by decide +kernel
theorem dJx4a65c_grow_92f84_30 : decode cJx4a65c_grow_92f84 30 = .ok (.istore_n 3, 1) := by decide +kernel
theorem dJx4a65c_grow_92f84_31 : decode cJx4a65c_grow_92f84 31 = .ok (.aload_n 0, 1) := by decide +kernel
theorem dJx4a65c_grow_92f84_32 : decode cJx4a65c_grow_92f84 32 = .ok (.aload_n 0, 1) := by decide +kernel
theorem dJx4a65c_grow_92f84_33 : decode cJx4a65c_grow_92f84 33 = .ok (.getfield 9, 3) := by decide +kernel
theorem dJx4a65c_grow_92f84_36 : decode cJx4a65c_grow_92f84 36 = .ok (.iload_n 3, 1) := by decide +kernel
theorem dJx4a65c_grow_92f84_37 : decode cJx4a65c_grow_92f84 37 = .ok (.invokestatic 66, 3) := by decide +kernel
theorem dJx4a65c_grow_92f84_40 : decode cJx4a65c_grow_92f84 40 = .ok (.dup_x1, 1) := by decide +kernel
theorem dJx4a65c_grow_92f84_41 : decode cJx4a65c_grow_92f84 41 = .ok (.putfield 9, 3) := by decide +kernel
theorem dJx4a65c_grow_92f84_44 : decode cJx4a65c_grow_92f84 44 = .ok (.areturn, 1) := by decide +kernel
theorem dJx4a65c_grow_92f84_45 : decode cJx4a65c_grow_92f84 45 = .ok (.aload_n 0, 1) := by decide +kernel
theorem dJx4a65c_grow_92f84_46 : decode cJx4a65c_grow_92f84 46 = .ok (.bipush 10, 2) := by decide +kernel
theorem dJx4a65c_grow_92f84_48 : decode cJx4a65c_grow_92f84 48 = .ok (.iload_n 1, 1) := by decide +kernel
theorem dJx4a65c_grow_92f84_49 : decode cJx4a65c_grow_92f84 49 = .ok (.invokestatic 79, 3) := by decide +kernel
theorem dJx4a65c_grow_92f84_52 : decode cJx4a65c_grow_92f84 52 = .ok (.anewarray 7, 3) := by decide +kernel
theorem dJx4a65c_grow_92f84_55 : decode cJx4a65c_grow_92f84 55 = .ok (.dup_x1, 1) := by decide +kernel
theorem dJx4a65c_grow_92f84_56 : decode cJx4a65c_grow_92f84 56 = .ok (.putfield 9, 3) := by decide +kernel
theorem dJx4a65c_grow_92f84_59 : decode cJx4a65c_grow_92f84 59 = .ok (.areturn, 1) := by decide +kernel
theorem dJx4a65c_grow_d5877_0 : decode cJx4a65c_grow_d5877 0 = .ok (.aload_n 0, 1) := by decide +kernel
theorem dJx4a65c_grow_d5877_1 : decode cJx4a65c_grow_d5877 1 = .ok (.aload_n 0, 1) := by decide +kernel
theorem dJx4a65c_grow_d5877_2 : decode cJx4a65c_grow_d5877 2 = .ok (.getfield 48, 3) := by decide +kernel
theorem dJx4a65c_grow_d5877_5 : decode cJx4a65c_grow_d5877 5 = .ok (.iconst 1, 1) := by decide +kernel
theorem dJx4a65c_grow_d5877_6 : decode cJx4a65c_grow_d5877 6 = .ok (.iadd, 1) := by decide +kernel
theorem dJx4a65c_grow_d5877_7 : decode cJx4a65c_grow_d5877 7 = .ok (.invokevirtual 69, 3) := by decide +kernel
theorem dJx4a65c_grow_d5877_10 : decode cJx4a65c_grow_d5877 10 = .ok (.areturn, 1) := by decide +kernel
theorem dJx4a65c_size_8abf5_0 : decode cJx4a65c_size_8abf5 0 = .ok (.aload_n 0, 1) := by decide +kernel
theorem dJx4a65c_size_8abf5_1 : decode cJx4a65c_size_8abf5 1 = .ok (.getfield 48, 3) := by decide +kernel
theorem dJx4a65c_size_8abf5_4 : decode cJx4a65c_size_8abf5 4 = .ok (.ireturn, 1) := by decide +kernel
theorem dJx4a65c_elementData_915e3_0 : decode cJx4a65c_elementData_915e3 0 = .ok (.aload_n 0, 1) := by decide +kernel
theorem dJx4a65c_elementData_915e3_1 : decode cJx4a65c_elementData_915e3 1 = .ok (.getfield 9, 3) := by decide +kernel
theorem dJx4a65c_elementData_915e3_4 : decode cJx4a65c_elementData_915e3 4 = .ok (.iload_n 1, 1) := by decide +kernel
theorem dJx4a65c_elementData_915e3_5 : decode cJx4a65c_elementData_915e3 5 = .ok (.aaload, 1) := by decide +kernel
theorem dJx4a65c_elementData_915e3_6 : decode cJx4a65c_elementData_915e3 6 = .ok (.areturn, 1) := by decide +kernel
theorem dJx4a65c_get_915e3_0 : decode cJx4a65c_get_915e3 0 = .ok (.iload_n 1, 1) := by decide +kernel
theorem dJx4a65c_get_915e3_1 : decode cJx4a65c_get_915e3 1 = .ok (.aload_n 0, 1) := by decide +kernel
theorem dJx4a65c_get_915e3_2 : decode cJx4a65c_get_915e3 2 = .ok (.getfield 48, 3) := by decide +kernel
theorem dJx4a65c_get_915e3_5 : decode cJx4a65c_get_915e3 5 = .ok (.invokestatic 118, 3) := by decide +kernel
theorem dJx4a65c_get_915e3_8 : decode cJx4a65c_get_915e3 8 = .ok (.pop, 1) := by decide +kernel
theorem dJx4a65c_get_915e3_9 : decode cJx4a65c_get_915e3 9 = .ok (.aload_n 0, 1) := by decide +kernel
theorem dJx4a65c_get_915e3_10 : decode cJx4a65c_get_915e3 10 = .ok (.iload_n 1, 1) := by decide +kernel
theorem dJx4a65c_get_915e3_11 : decode cJx4a65c_get_915e3 11 = .ok (.invokevirtual 123, 3) := by decide +kernel
theorem dJx4a65c_get_915e3_14 : decode cJx4a65c_get_915e3 14 = .ok (.areturn, 1) := by decide +kernel
theorem dJx4a65c_add_72be8_0 : decode cJx4a65c_add_72be8 0 = .ok (.iload_n 3, 1) := by decide +kernel
theorem dJx4a65c_add_72be8_1 : decode cJx4a65c_add_72be8 1 = .ok (.aload_n 2, 1) := by decide +kernel
theorem dJx4a65c_add_72be8_2 : decode cJx4a65c_add_72be8 2 = .ok (.arraylength, 1) := by decide +kernel
theorem dJx4a65c_add_72be8_3 : decode cJx4a65c_add_72be8 3 = .ok (.if_icmp .ne 8, 3) := by decide +kernel
theorem dJx4a65c_add_72be8_6 : decode cJx4a65c_add_72be8 6 = .ok (.aload_n 0, 1) := by decide +kernel
theorem dJx4a65c_add_72be8_7 : decode cJx4a65c_add_72be8 7 = .ok (.invokevirtual 129, 3) := by decide +kernel
theorem dJx4a65c_add_72be8_10 : decode cJx4a65c_add_72be8 10 = .ok (.astore_n 2, 1) := by decide +kernel
theorem dJx4a65c_add_72be8_11 : decode cJx4a65c_add_72be8 11 = .ok (.aload_n 2, 1) := by decide +kernel
theorem dJx4a65c_add_72be8_12 : decode cJx4a65c_add_72be8 12 = .ok (.iload_n 3, 1) := by decide +kernel
theorem dJx4a65c_add_72be8_13 : decode cJx4a65c_add_72be8 13 = .ok (.aload_n 1, 1) := by decide +kernel
theorem dJx4a65c_add_72be8_14 : decode cJx4a65c_add_72be8 14 = .ok (.aastore, 1) := by decide +kernel
theorem dJx4a65c_add_72be8_15 : decode cJx4a65c_add_72be8 15 = .ok (.aload_n 0, 1) := by decide +kernel
theorem dJx4a65c_add_72be8_16 : decode cJx4a65c_add_72be8 16 = .ok (.iload_n 3, 1) := by decide +kernel
theorem dJx4a65c_add_72be8_17 : decode cJx4a65c_add_72be8 17 = .ok (.iconst 1, 1) := by decide +kernel
theorem dJx4a65c_add_72be8_18 : decode cJx4a65c_add_72be8 18 = .ok (.iadd, 1) := by decide +kernel
theorem dJx4a65c_add_72be8_19 : decode cJx4a65c_add_72be8 19 = .ok (.putfield 48, 3) := by decide +kernel
theorem dJx4a65c_add_72be8_22 : decode cJx4a65c_add_72be8 22 = .ok (.return_, 1) := by decide +kernel
theorem dJx4a65c_add_9ea2d_0 : decode cJx4a65c_add_9ea2d 0 = .ok (.aload_n 0, 1) := by decide +kernel
theorem dJx4a65c_add_9ea2d_1 : decode cJx4a65c_add_9ea2d 1 = .ok (.dup, 1) := by decide +kernel
theorem dJx4a65c_add_9ea2d_2 : decode cJx4a65c_add_9ea2d 2 = .ok (.getfield 63, 3) := by decide +kernel
theorem dJx4a65c_add_9ea2d_5 : decode cJx4a65c_add_9ea2d 5 = .ok (.iconst 1, 1) := by decide +kernel
theorem dJx4a65c_add_9ea2d_6 : decode cJx4a65c_add_9ea2d 6 = .ok (.iadd, 1) := by decide +kernel
theorem dJx4a65c_add_9ea2d_7 : decode cJx4a65c_add_9ea2d 7 = .ok (.putfield 63, 3) := by decide +kernel
theorem dJx4a65c_add_9ea2d_10 : decode cJx4a65c_add_9ea2d 10 = .ok (.aload_n 0, 1) := by decide +kernel
theorem dJx4a65c_add_9ea2d_11 : decode cJx4a65c_add_9ea2d 11 = .ok (.aload_n 1, 1) := by decide +kernel
theorem dJx4a65c_add_9ea2d_12 : decode cJx4a65c_add_9ea2d 12 = .ok (.aload_n 0, 1) := by decide +kernel
theorem dJx4a65c_add_9ea2d_13 : decode cJx4a65c_add_9ea2d 13 = .ok (.getfield 9, 3) := by decide +kernel
theorem dJx4a65c_add_9ea2d_16 : decode cJx4a65c_add_9ea2d 16 = .ok (.aload_n 0, 1) := by decide +kernel
theorem dJx4a65c_add_9ea2d_17 : decode cJx4a65c_add_9ea2d 17 = .ok (.getfield 48, 3) := by decide +kernel
theorem dJx4a65c_add_9ea2d_20 : decode cJx4a65c_add_9ea2d 20 = .ok (.invokevirtual 131, 3) := by decide +kernel
theorem dJx4a65c_add_9ea2d_23 : decode cJx4a65c_add_9ea2d 23 = .ok (.iconst 1, 1) := by decide +kernel
theorem dJx4a65c_add_9ea2d_24 : decode cJx4a65c_add_9ea2d 24 = .ok (.ireturn, 1) := by decide +kernel
theorem dJ7_copyOf_1904c_0 : decode cJ7_copyOf_1904c 0 = .ok (.aload_n 0, 1) := by decide +kernel
theorem dJ7_copyOf_1904c_1 : decode cJ7_copyOf_1904c 1 = .ok (.iload_n 1, 1) := by decide +kernel
theorem dJ7_copyOf_1904c_2 : decode cJ7_copyOf_1904c 2 = .ok (.aload_n 0, 1) := by decide +kernel
theorem dJ7_copyOf_1904c_3 : decode cJ7_copyOf_1904c 3 = .ok (.invokevirtual 86, 3) := by decide +kernel
theorem dJ7_copyOf_1904c_6 : decode cJ7_copyOf_1904c 6 = .ok (.invokestatic 300, 3) := by decide +kernel
theorem dJ7_copyOf_1904c_9 : decode cJ7_copyOf_1904c 9 = .ok (.areturn, 1) := by decide +kernel
theorem dJ7_copyOf_6403c_0 : decode cJ7_copyOf_6403c 0 = .ok (.aload_n 2, 1) := by decide +kernel
theorem dJ7_copyOf_6403c_1 : decode cJ7_copyOf_6403c 1 = .ok (.ldc 110, 2) := by decide +kernel
theorem dJ7_copyOf_6403c_3 : decode cJ7_copyOf_6403c 3 = .ok (.if_acmp .ne 10, 3) := by decide +kernel
theorem dJ7_copyOf_6403c_6 : decode cJ7_copyOf_6403c 6 = .ok (.iload_n 1, 1) := by decide +kernel
theorem dJ7_copyOf_6403c_7 : decode cJ7_copyOf_6403c 7 = .ok (.anewarray 2, 3) := by decide +kernel
theorem dJ7_copyOf_6403c_10 : decode cJ7_copyOf_6403c 10 = .ok (.goto 14, 3) := by decide +kernel
theorem dJ7_copyOf_6403c_13 : decode cJ7_copyOf_6403c 13 = .ok (.aload_n 2, 1) := by decide +kernel
theorem dJ7_copyOf_6403c_14 : decode cJ7_copyOf_6403c 14 = .ok (.invokevirtual 90, 3) := by decide +kernel
theorem dJ7_copyOf_6403c_17 : decode cJ7_copyOf_6403c 17 = .ok (.iload_n 1, 1) := by decide +kernel
theorem dJ7_copyOf_6403c_18 : decode cJ7_copyOf_6403c 18 = .ok (.invokestatic 95, 3) := by decide +kernel
theorem dJ7_copyOf_6403c_21 : decode cJ7_copyOf_6403c 21 = .ok (.checkcast 110, 3) := by decide +kernel
theorem dJ7_copyOf_6403c_24 : decode cJ7_copyOf_6403c 24 = .ok (.astore_n 3, 1) := by decide +kernel
theorem dJ7_copyOf_6403c_25 : decode cJ7_copyOf_6403c 25 = .ok (.aload_n 0, 1) := by decide +kernel
theorem dJ7_copyOf_6403c_26 : decode cJ7_copyOf_6403c 26 = .ok (.iconst 0, 1) := by decide +kernel
theorem dJ7_copyOf_6403c_27 : decode cJ7_copyOf_6403c 27 = .ok (.aload_n 3, 1) := by decide +kernel
theorem dJ7_copyOf_6403c_28 : decode cJ7_copyOf_6403c 28 = .ok (.iconst 0, 1) := by decide +kernel
theorem dJ7_copyOf_6403c_29 : decode cJ7_copyOf_6403c 29 = .ok (.aload_n 0, 1) := by decide +kernel
theorem dJ7_copyOf_6403c_30 : decode cJ7_copyOf_6403c 30 = .ok (.arraylength, 1) := by decide +kernel
theorem dJ7_copyOf_6403c_31 : decode cJ7_copyOf_6403c 31 = .ok (.iload_n 1, 1) := by decide +kernel
theorem dJ7_copyOf_6403c_32 : decode cJ7_copyOf_6403c 32 = .ok (.invokestatic 304, 3) := by decide +kernel
theorem dJ7_copyOf_6403c_35 : decode cJ7_copyOf_6403c 35 = .ok (.invokestatic 150, 3) := by decide +kernel
theorem dJ7_copyOf_6403c_38 : decode cJ7_copyOf_6403c 38 = .ok (.aload_n 3, 1) := by decide +kernel
theorem dJ7_copyOf_6403c_39 : decode cJ7_copyOf_6403c 39 = .ok (.areturn, 1) := by decide +kernel
theorem dJ15_checkIndex_7cf53_0 : decode cJ15_checkIndex_7cf53 0 = .ok (.iload_n 0, 1) := by decide +kernel
theorem dJ15_checkIndex_7cf53_1 : decode cJ15_checkIndex_7cf53 1 = .ok (.iload_n 1, 1) := by decide +kernel
theorem dJ15_checkIndex_7cf53_2 : decode cJ15_checkIndex_7cf53 2 = .ok (.aconst_null, 1) := by decide +kernel
theorem dJ15_checkIndex_7cf53_3 : decode cJ15_checkIndex_7cf53 3 = .ok (.invokestatic 105, 3) := by decide +kernel
theorem dJ15_checkIndex_7cf53_6 : decode cJ15_checkIndex_7cf53 6 = .ok (.ireturn, 1) := by decide +kernel
theorem dJ8_newLength_cabcc_0 : decode cJ8_newLength_cabcc 0 = .ok (.iload_n 0, 1) := by decide +kernel
theorem dJ8_newLength_cabcc_1 : decode cJ8_newLength_cabcc 1 = .ok (.iload_n 1, 1) := by decide +kernel
theorem dJ8_newLength_cabcc_2 : decode cJ8_newLength_cabcc 2 = .ok (.iload_n 2, 1) := by decide +kernel
theorem dJ8_newLength_cabcc_3 : decode cJ8_newLength_cabcc 3 = .ok (.invokestatic 194, 3) := by decide +kernel
theorem dJ8_newLength_cabcc_6 : decode cJ8_newLength_cabcc 6 = .ok (.iadd, 1) := by decide +kernel
theorem dJ8_newLength_cabcc_7 : decode cJ8_newLength_cabcc 7 = .ok (.istore_n 3, 1) := by decide +kernel
theorem dJ8_newLength_cabcc_8 : decode cJ8_newLength_cabcc 8 = .ok (.iconst 0, 1) := by decide +kernel
theorem dJ8_newLength_cabcc_9 : decode cJ8_newLength_cabcc 9 = .ok (.iload_n 3, 1) := by decide +kernel
theorem dJ8_newLength_cabcc_10 : decode cJ8_newLength_cabcc 10 = .ok (.if_icmp .ge 11, 3) := by decide +kernel
theorem dJ8_newLength_cabcc_13 : decode cJ8_newLength_cabcc 13 = .ok (.iload_n 3, 1) := by decide +kernel
theorem dJ8_newLength_cabcc_14 : decode cJ8_newLength_cabcc 14 = .ok (.ldc 200, 2) := by decide +kernel
theorem dJ8_newLength_cabcc_16 : decode cJ8_newLength_cabcc 16 = .ok (.if_icmp .gt 5, 3) := by decide +kernel
theorem dJ8_newLength_cabcc_19 : decode cJ8_newLength_cabcc 19 = .ok (.iload_n 3, 1) := by decide +kernel
theorem dJ8_newLength_cabcc_20 : decode cJ8_newLength_cabcc 20 = .ok (.ireturn, 1) := by decide +kernel
theorem dJ8_newLength_cabcc_21 : decode cJ8_newLength_cabcc 21 = .ok (.iload_n 0, 1) := by decide +kernel
theorem dJ8_newLength_cabcc_22 : decode cJ8_newLength_cabcc 22 = .ok (.iload_n 1, 1) := by decide +kernel
theorem dJ8_newLength_cabcc_23 : decode cJ8_newLength_cabcc 23 = .ok (.invokestatic 201, 3) := by decide +kernel
theorem dJ8_newLength_cabcc_26 : decode cJ8_newLength_cabcc 26 = .ok (.ireturn, 1) := by decide +kernel
theorem dJ8_hugeLength_7cf53_0 : decode cJ8_hugeLength_7cf53 0 = .ok (.iload_n 0, 1) := by decide +kernel
theorem dJ8_hugeLength_7cf53_1 : decode cJ8_hugeLength_7cf53 1 = .ok (.iload_n 1, 1) := by decide +kernel
theorem dJ8_hugeLength_7cf53_2 : decode cJ8_hugeLength_7cf53 2 = .ok (.iadd, 1) := by decide +kernel
theorem dJ8_hugeLength_7cf53_3 : decode cJ8_hugeLength_7cf53 3 = .ok (.istore_n 2, 1) := by decide +kernel
theorem dJ8_hugeLength_7cf53_4 : decode cJ8_hugeLength_7cf53 4 = .ok (.iload_n 2, 1) := by decide +kernel
theorem dJ8_hugeLength_7cf53_5 : decode cJ8_hugeLength_7cf53 5 = .ok (.ifCond .ge 44, 3) := by decide +kernel
theorem dJ8_hugeLength_7cf53_8 : decode cJ8_hugeLength_7cf53 8 = .ok (.new 204, 3) := by decide +kernel
theorem dJ8_hugeLength_7cf53_11 : decode cJ8_hugeLength_7cf53 11 = .ok (.dup, 1) := by decide +kernel
theorem dJ8_hugeLength_7cf53_12 : decode cJ8_hugeLength_7cf53 12 = .ok (.new 89, 3) := by decide +kernel
theorem dJ8_hugeLength_7cf53_15 : decode cJ8_hugeLength_7cf53 15 = .ok (.dup, 1) := by decide +kernel
theorem dJ8_hugeLength_7cf53_16 : decode cJ8_hugeLength_7cf53 16 = .ok (.invokespecial 91, 3) := by decide +kernel
theorem dJ8_hugeLength_7cf53_19 : decode cJ8_hugeLength_7cf53 19 = .ok (.ldc 206, 2) := by decide +kernel
theorem dJ8_hugeLength_7cf53_21 : decode cJ8_hugeLength_7cf53 21 = .ok (.invokevirtual 94, 3) := by decide +kernel
theorem dJ8_hugeLength_7cf53_24 : decode cJ8_hugeLength_7cf53 24 = .ok (.iload_n 0, 1) := by decide +kernel
theorem dJ8_hugeLength_7cf53_25 : decode cJ8_hugeLength_7cf53 25 = .ok (.invokevirtual 98, 3) := by decide +kernel
theorem dJ8_hugeLength_7cf53_28 : decode cJ8_hugeLength_7cf53 28 = .ok (.ldc 208, 2) := by decide +kernel
theorem dJ8_hugeLength_7cf53_30 : decode cJ8_hugeLength_7cf53 30 = .ok (.invokevirtual 94, 3) := by decide +kernel
theorem dJ8_hugeLength_7cf53_33 : decode cJ8_hugeLength_7cf53 33 = .ok (.iload_n 1, 1) := by decide +kernel
theorem dJ8_hugeLength_7cf53_34 : decode cJ8_hugeLength_7cf53 34 = .ok (.invokevirtual 98, 3) := by decide +kernel
theorem dJ8_hugeLength_7cf53_37 : decode cJ8_hugeLength_7cf53 37 = .ok (.ldc 210, 2) := by decide +kernel
theorem dJ8_hugeLength_7cf53_39 : decode cJ8_hugeLength_7cf53 39 = .ok (.invokevirtual 94, 3) := by decide +kernel
theorem dJ8_hugeLength_7cf53_42 : decode cJ8_hugeLength_7cf53 42 = .ok (.invokevirtual 101, 3) := by decide +kernel
theorem dJ8_hugeLength_7cf53_45 : decode cJ8_hugeLength_7cf53 45 = .ok (.invokespecial 212, 3) := by decide +kernel
theorem dJ8_hugeLength_7cf53_48 : decode cJ8_hugeLength_7cf53 48 = .ok (.athrow, 1) := by decide +kernel
theorem dJ8_hugeLength_7cf53_49 : decode cJ8_hugeLength_7cf53 49 = .ok (.iload_n 2, 1) := by decide +kernel
theorem dJ8_hugeLength_7cf53_50 : decode cJ8_hugeLength_7cf53 50 = .ok (.ldc 200, 2) := by decide +kernel
theorem dJ8_hugeLength_7cf53_52 : decode cJ8_hugeLength_7cf53 52 = .ok (.if_icmp .gt 6, 3) := by decide +kernel
theorem dJ8_hugeLength_7cf53_55 : decode cJ8_hugeLength_7cf53 55 = .ok (.ldc 200, 2) := by decide +kernel
theorem dJ8_hugeLength_7cf53_57 : decode cJ8_hugeLength_7cf53 57 = .ok (.ireturn, 1) := by decide +kernel
theorem dJ8_hugeLength_7cf53_58 : decode cJ8_hugeLength_7cf53 58 = .ok (.iload_n 2, 1) := by decide +kernel
theorem dJ8_hugeLength_7cf53_59 : decode cJ8_hugeLength_7cf53 59 = .ok (.ireturn, 1) := by decide +kernel
theorem dJ3_checkIndex_8e157_0 : decode cJ3_checkIndex_8e157 0 = .ok (.iload_n 0, 1) := by decide +kernel
theorem dJ3_checkIndex_8e157_1 : decode cJ3_checkIndex_8e157 1 = .ok (.ifCond .lt 8, 3) := by decide +kernel
theorem dJ3_checkIndex_8e157_4 : decode cJ3_checkIndex_8e157 4 = .ok (.iload_n 0, 1) := by decide +kernel
theorem dJ3_checkIndex_8e157_5 : decode cJ3_checkIndex_8e157 5 = .ok (.iload_n 1, 1) := by decide +kernel
theorem dJ3_checkIndex_8e157_6 : decode cJ3_checkIndex_8e157 6 = .ok (.if_icmp .lt 10, 3) := by decide +kernel
theorem dJ3_checkIndex_8e157_9 : decode cJ3_checkIndex_8e157 9 = .ok (.aload_n 2, 1) := by decide +kernel
theorem dJ3_checkIndex_8e157_10 : decode cJ3_checkIndex_8e157 10 = .ok (.iload_n 0, 1) := by decide +kernel
theorem dJ3_checkIndex_8e157_11 : decode cJ3_checkIndex_8e157 11 = .ok (.iload_n 1, 1) := by decide +kernel
theorem dJ3_checkIndex_8e157_12 : decode cJ3_checkIndex_8e157 12 = .ok (.invokestatic 95, 3) := by decide +kernel
theorem dJ3_checkIndex_8e157_15 : decode cJ3_checkIndex_8e157 15 = .ok (.athrow, 1) := by decide +kernel
theorem dJ3_checkIndex_8e157_16 : decode cJ3_checkIndex_8e157 16 = .ok (.iload_n 0, 1) := by decide +kernel
theorem dJ3_checkIndex_8e157_17 : decode cJ3_checkIndex_8e157 17 = .ok (.ireturn, 1) := by decide +kernel
theorem dL_addGrower_0 : decode cL_addGrower 0 = .ok (.aload_n 2, 1) := by decide +kernel
theorem dL_addGrower_1 : decode cL_addGrower 1 = .ok (.iconst 0, 1) := by decide +kernel
theorem dL_addGrower_2 : decode cL_addGrower 2 = .ok (.aload_n 0, 1) := by decide +kernel
theorem dL_addGrower_3 : decode cL_addGrower 3 = .ok (.iload_n 1, 1) := by decide +kernel
theorem dL_addGrower_4 : decode cL_addGrower 4 = .ok (.invokevirtual 7, 3) := by decide +kernel
theorem dL_addGrower_7 : decode cL_addGrower 7 = .ok (.i2l, 1) := by decide +kernel
theorem dL_addGrower_8 : decode cL_addGrower 8 = .ok (.lastore, 1) := by decide +kernel
theorem dL_addGrower_9 : decode cL_addGrower 9 = .ok (.goto 9, 3) := by decide +kernel
theorem dL_addGrower_12 : decode cL_addGrower 12 = .ok (.astore_n 3, 1) := by decide +kernel
theorem dL_addGrower_13 : decode cL_addGrower 13 = .ok (.iconst 1, 1) := by decide +kernel
theorem dL_addGrower_14 : decode cL_addGrower 14 = .ok (.ireturn, 1) := by decide +kernel
theorem dL_addGrower_15 : decode cL_addGrower 15 = .ok (.astore_n 3, 1) := by decide +kernel
theorem dL_addGrower_16 : decode cL_addGrower 16 = .ok (.iconst 2, 1) := by decide +kernel
theorem dL_addGrower_17 : decode cL_addGrower 17 = .ok (.ireturn, 1) := by decide +kernel
theorem dL_addGrower_18 : decode cL_addGrower 18 = .ok (.iconst 0, 1) := by decide +kernel
theorem dL_addGrower_19 : decode cL_addGrower 19 = .ok (.ireturn, 1) := by decide +kernel
theorem dL_build_0 : decode cL_build 0 = .ok (.aload 8, 2) := by decide +kernel
theorem dL_build_2 : decode cL_build 2 = .ok (.iconst 0, 1) := by decide +kernel
theorem dL_build_3 : decode cL_build 3 = .ok (.aload_n 0, 1) := by decide +kernel
theorem dL_build_4 : decode cL_build 4 = .ok (.iload_n 1, 1) := by decide +kernel
theorem dL_build_5 : decode cL_build 5 = .ok (.iload_n 2, 1) := by decide +kernel
theorem dL_build_6 : decode cL_build 6 = .ok (.iload_n 3, 1) := by decide +kernel
theorem dL_build_7 : decode cL_build 7 = .ok (.iload 4, 2) := by decide +kernel
theorem dL_build_9 : decode cL_build 9 = .ok (.iload 5, 2) := by decide +kernel
theorem dL_build_11 : decode cL_build 11 = .ok (.iload 6, 2) := by decide +kernel
theorem dL_build_13 : decode cL_build 13 = .ok (.iload 7, 2) := by decide +kernel
theorem dL_build_15 : decode cL_build 15 = .ok (.invokevirtual 17, 3) := by decide +kernel
theorem dL_build_18 : decode cL_build 18 = .ok (.i2l, 1) := by decide +kernel
theorem dL_build_19 : decode cL_build 19 = .ok (.lastore, 1) := by decide +kernel
theorem dL_build_20 : decode cL_build 20 = .ok (.goto 15, 3) := by decide +kernel
theorem dL_build_23 : decode cL_build 23 = .ok (.astore 9, 2) := by decide +kernel
theorem dL_build_25 : decode cL_build 25 = .ok (.iconst 1, 1) := by decide +kernel
theorem dL_build_26 : decode cL_build 26 = .ok (.ireturn, 1) := by decide +kernel
theorem dL_build_27 : decode cL_build 27 = .ok (.astore 9, 2) := by decide +kernel
theorem dL_build_29 : decode cL_build 29 = .ok (.iconst 2, 1) := by decide +kernel
theorem dL_build_30 : decode cL_build 30 = .ok (.ireturn, 1) := by decide +kernel
theorem dL_build_31 : decode cL_build 31 = .ok (.astore 9, 2) := by decide +kernel
theorem dL_build_33 : decode cL_build 33 = .ok (.iconst 3, 1) := by decide +kernel
theorem dL_build_34 : decode cL_build 34 = .ok (.ireturn, 1) := by decide +kernel
theorem dL_build_35 : decode cL_build 35 = .ok (.iconst 0, 1) := by decide +kernel
theorem dL_build_36 : decode cL_build 36 = .ok (.ireturn, 1) := by decide +kernel
theorem dL_setNet_0 : decode cL_setNet 0 = .ok (.aload_n 3, 1) := by decide +kernel
theorem dL_setNet_1 : decode cL_setNet 1 = .ok (.iconst 0, 1) := by decide +kernel
theorem dL_setNet_2 : decode cL_setNet 2 = .ok (.aload_n 0, 1) := by decide +kernel
theorem dL_setNet_3 : decode cL_setNet 3 = .ok (.iload_n 1, 1) := by decide +kernel
theorem dL_setNet_4 : decode cL_setNet 4 = .ok (.iload_n 2, 1) := by decide +kernel
theorem dL_setNet_5 : decode cL_setNet 5 = .ok (.invokevirtual 23, 3) := by decide +kernel
theorem dL_setNet_8 : decode cL_setNet 8 = .ok (.ifCond .eq 7, 3) := by decide +kernel
theorem dL_setNet_11 : decode cL_setNet 11 = .ok (.lconst 1, 1) := by decide +kernel
theorem dL_setNet_12 : decode cL_setNet 12 = .ok (.goto 4, 3) := by decide +kernel
theorem dL_setNet_15 : decode cL_setNet 15 = .ok (.lconst 0, 1) := by decide +kernel
theorem dL_setNet_16 : decode cL_setNet 16 = .ok (.lastore, 1) := by decide +kernel
theorem dL_setNet_17 : decode cL_setNet 17 = .ok (.goto 7, 3) := by decide +kernel
theorem dL_setNet_20 : decode cL_setNet 20 = .ok (.astore 4, 2) := by decide +kernel
theorem dL_setNet_22 : decode cL_setNet 22 = .ok (.iconst 1, 1) := by decide +kernel
theorem dL_setNet_23 : decode cL_setNet 23 = .ok (.ireturn, 1) := by decide +kernel
theorem dL_setNet_24 : decode cL_setNet 24 = .ok (.iconst 0, 1) := by decide +kernel
theorem dL_setNet_25 : decode cL_setNet 25 = .ok (.ireturn, 1) := by decide +kernel
theorem dL_insure_0 : decode cL_insure 0 = .ok (.aload 5, 2) := by decide +kernel
theorem dL_insure_2 : decode cL_insure 2 = .ok (.iconst 0, 1) := by decide +kernel
theorem dL_insure_3 : decode cL_insure 3 = .ok (.aload_n 0, 1) := by decide +kernel
theorem dL_insure_4 : decode cL_insure 4 = .ok (.iload_n 1, 1) := by decide +kernel
theorem dL_insure_5 : decode cL_insure 5 = .ok (.iload_n 2, 1) := by decide +kernel
theorem dL_insure_6 : decode cL_insure 6 = .ok (.iload_n 3, 1) := by decide +kernel
theorem dL_insure_7 : decode cL_insure 7 = .ok (.iload 4, 2) := by decide +kernel
theorem dL_insure_9 : decode cL_insure 9 = .ok (.invokevirtual 27, 3) := by decide +kernel
theorem dL_insure_12 : decode cL_insure 12 = .ok (.i2l, 1) := by decide +kernel
theorem dL_insure_13 : decode cL_insure 13 = .ok (.lastore, 1) := by decide +kernel
theorem dL_insure_14 : decode cL_insure 14 = .ok (.goto 11, 3) := by decide +kernel
theorem dL_insure_17 : decode cL_insure 17 = .ok (.astore 6, 2) := by decide +kernel
theorem dL_insure_19 : decode cL_insure 19 = .ok (.iconst 1, 1) := by decide +kernel
theorem dL_insure_20 : decode cL_insure 20 = .ok (.ireturn, 1) := by decide +kernel
theorem dL_insure_21 : decode cL_insure 21 = .ok (.astore 6, 2) := by decide +kernel
theorem dL_insure_23 : decode cL_insure 23 = .ok (.iconst 2, 1) := by decide +kernel
theorem dL_insure_24 : decode cL_insure 24 = .ok (.ireturn, 1) := by decide +kernel
theorem dL_insure_25 : decode cL_insure 25 = .ok (.iconst 0, 1) := by decide +kernel
theorem dL_insure_26 : decode cL_insure 26 = .ok (.ireturn, 1) := by decide +kernel
theorem dL_mend_0 : decode cL_mend 0 = .ok (.aload_n 2, 1) := by decide +kernel
theorem dL_mend_1 : decode cL_mend 1 = .ok (.iconst 0, 1) := by decide +kernel
theorem dL_mend_2 : decode cL_mend 2 = .ok (.aload_n 0, 1) := by decide +kernel
theorem dL_mend_3 : decode cL_mend 3 = .ok (.iload_n 1, 1) := by decide +kernel
theorem dL_mend_4 : decode cL_mend 4 = .ok (.invokevirtual 31, 3) := by decide +kernel
theorem dL_mend_7 : decode cL_mend 7 = .ok (.i2l, 1) := by decide +kernel
theorem dL_mend_8 : decode cL_mend 8 = .ok (.lastore, 1) := by decide +kernel
theorem dL_mend_9 : decode cL_mend 9 = .ok (.goto 9, 3) := by decide +kernel
theorem dL_mend_12 : decode cL_mend 12 = .ok (.astore_n 3, 1) := by decide +kernel
theorem dL_mend_13 : decode cL_mend 13 = .ok (.iconst 1, 1) := by decide +kernel
theorem dL_mend_14 : decode cL_mend 14 = .ok (.ireturn, 1) := by decide +kernel
theorem dL_mend_15 : decode cL_mend 15 = .ok (.astore_n 3, 1) := by decide +kernel
theorem dL_mend_16 : decode cL_mend 16 = .ok (.iconst 2, 1) := by decide +kernel
theorem dL_mend_17 : decode cL_mend 17 = .ok (.ireturn, 1) := by decide +kernel
theorem dL_mend_18 : decode cL_mend 18 = .ok (.iconst 0, 1) := by decide +kernel
theorem dL_mend_19 : decode cL_mend 19 = .ok (.ireturn, 1) := by decide +kernel
theorem dL_grower_0 : decode cL_grower 0 = .ok (.aload_n 3, 1) := by decide +kernel
theorem dL_grower_1 : decode cL_grower 1 = .ok (.iconst 0, 1) := by decide +kernel
theorem dL_grower_2 : decode cL_grower 2 = .ok (.aload_n 0, 1) := by decide +kernel
theorem dL_grower_3 : decode cL_grower 3 = .ok (.iload_n 1, 1) := by decide +kernel
theorem dL_grower_4 : decode cL_grower 4 = .ok (.iload_n 2, 1) := by decide +kernel
theorem dL_grower_5 : decode cL_grower 5 = .ok (.invokevirtual 34, 3) := by decide +kernel
theorem dL_grower_8 : decode cL_grower 8 = .ok (.i2l, 1) := by decide +kernel
theorem dL_grower_9 : decode cL_grower 9 = .ok (.lastore, 1) := by decide +kernel
theorem dL_grower_10 : decode cL_grower 10 = .ok (.goto 7, 3) := by decide +kernel
theorem dL_grower_13 : decode cL_grower 13 = .ok (.astore 4, 2) := by decide +kernel
theorem dL_grower_15 : decode cL_grower 15 = .ok (.iconst 1, 1) := by decide +kernel
theorem dL_grower_16 : decode cL_grower 16 = .ok (.ireturn, 1) := by decide +kernel
theorem dL_grower_17 : decode cL_grower 17 = .ok (.iconst 0, 1) := by decide +kernel
theorem dL_grower_18 : decode cL_grower 18 = .ok (.ireturn, 1) := by decide +kernel
theorem dL_house_0 : decode cL_house 0 = .ok (.aload_n 3, 1) := by decide +kernel
theorem dL_house_1 : decode cL_house 1 = .ok (.iconst 0, 1) := by decide +kernel
theorem dL_house_2 : decode cL_house 2 = .ok (.aload_n 0, 1) := by decide +kernel
theorem dL_house_3 : decode cL_house 3 = .ok (.iload_n 1, 1) := by decide +kernel
theorem dL_house_4 : decode cL_house 4 = .ok (.iload_n 2, 1) := by decide +kernel
theorem dL_house_5 : decode cL_house 5 = .ok (.invokevirtual 38, 3) := by decide +kernel
theorem dL_house_8 : decode cL_house 8 = .ok (.i2l, 1) := by decide +kernel
theorem dL_house_9 : decode cL_house 9 = .ok (.lastore, 1) := by decide +kernel
theorem dL_house_10 : decode cL_house 10 = .ok (.goto 7, 3) := by decide +kernel
theorem dL_house_13 : decode cL_house 13 = .ok (.astore 4, 2) := by decide +kernel
theorem dL_house_15 : decode cL_house 15 = .ok (.iconst 1, 1) := by decide +kernel
theorem dL_house_16 : decode cL_house 16 = .ok (.ireturn, 1) := by decide +kernel
theorem dL_house_17 : decode cL_house 17 = .ok (.iconst 0, 1) := by decide +kernel
theorem dL_house_18 : decode cL_house 18 = .ok (.ireturn, 1) := by decide +kernel
theorem dL_pane_0 : decode cL_pane 0 = .ok (.aload_n 3, 1) := by decide +kernel
theorem dL_pane_1 : decode cL_pane 1 = .ok (.iconst 0, 1) := by decide +kernel
theorem dL_pane_2 : decode cL_pane 2 = .ok (.aload_n 0, 1) := by decide +kernel
theorem dL_pane_3 : decode cL_pane 3 = .ok (.iload_n 1, 1) := by decide +kernel
theorem dL_pane_4 : decode cL_pane 4 = .ok (.iload_n 2, 1) := by decide +kernel
theorem dL_pane_5 : decode cL_pane 5 = .ok (.invokevirtual 41, 3) := by decide +kernel
theorem dL_pane_8 : decode cL_pane 8 = .ok (.i2l, 1) := by decide +kernel
theorem dL_pane_9 : decode cL_pane 9 = .ok (.lastore, 1) := by decide +kernel
theorem dL_pane_10 : decode cL_pane 10 = .ok (.goto 7, 3) := by decide +kernel
theorem dL_pane_13 : decode cL_pane 13 = .ok (.astore 4, 2) := by decide +kernel
theorem dL_pane_15 : decode cL_pane 15 = .ok (.iconst 1, 1) := by decide +kernel
theorem dL_pane_16 : decode cL_pane 16 = .ok (.ireturn, 1) := by decide +kernel
theorem dL_pane_17 : decode cL_pane 17 = .ok (.iconst 0, 1) := by decide +kernel
theorem dL_pane_18 : decode cL_pane 18 = .ok (.ireturn, 1) := by decide +kernel
theorem dL_fund_0 : decode cL_fund 0 = .ok (.aload_n 2, 1) := by decide +kernel
theorem dL_fund_1 : decode cL_fund 1 = .ok (.iconst 0, 1) := by decide +kernel
theorem dL_fund_2 : decode cL_fund 2 = .ok (.aload_n 0, 1) := by decide +kernel
theorem dL_fund_3 : decode cL_fund 3 = .ok (.iload_n 1, 1) := by decide +kernel
theorem dL_fund_4 : decode cL_fund 4 = .ok (.invokevirtual 44, 3) := by decide +kernel
theorem dL_fund_7 : decode cL_fund 7 = .ok (.i2l, 1) := by decide +kernel
theorem dL_fund_8 : decode cL_fund 8 = .ok (.lastore, 1) := by decide +kernel
theorem dL_fund_9 : decode cL_fund 9 = .ok (.goto 9, 3) := by decide +kernel
theorem dL_fund_12 : decode cL_fund 12 = .ok (.astore_n 3, 1) := by decide +kernel
theorem dL_fund_13 : decode cL_fund 13 = .ok (.iconst 1, 1) := by decide +kernel
theorem dL_fund_14 : decode cL_fund 14 = .ok (.ireturn, 1) := by decide +kernel
theorem dL_fund_15 : decode cL_fund 15 = .ok (.astore_n 3, 1) := by decide +kernel
theorem dL_fund_16 : decode cL_fund 16 = .ok (.iconst 2, 1) := by decide +kernel
theorem dL_fund_17 : decode cL_fund 17 = .ok (.ireturn, 1) := by decide +kernel
theorem dL_fund_18 : decode cL_fund 18 = .ok (.iconst 0, 1) := by decide +kernel
theorem dL_fund_19 : decode cL_fund 19 = .ok (.ireturn, 1) := by decide +kernel
theorem dL_addLayer_0 : decode cL_addLayer 0 = .ok (.aload 4, 2) := by decide +kernel
theorem dL_addLayer_2 : decode cL_addLayer 2 = .ok (.iconst 0, 1) := by decide +kernel
theorem dL_addLayer_3 : decode cL_addLayer 3 = .ok (.aload_n 0, 1) := by decide +kernel
theorem dL_addLayer_4 : decode cL_addLayer 4 = .ok (.iload_n 1, 1) := by decide +kernel
theorem dL_addLayer_5 : decode cL_addLayer 5 = .ok (.iload_n 2, 1) := by decide +kernel
theorem dL_addLayer_6 : decode cL_addLayer 6 = .ok (.iload_n 3, 1) := by decide +kernel
theorem dL_addLayer_7 : decode cL_addLayer 7 = .ok (.invokevirtual 47, 3) := by decide +kernel
theorem dL_addLayer_10 : decode cL_addLayer 10 = .ok (.i2l, 1) := by decide +kernel
theorem dL_addLayer_11 : decode cL_addLayer 11 = .ok (.lastore, 1) := by decide +kernel
theorem dL_addLayer_12 : decode cL_addLayer 12 = .ok (.goto 11, 3) := by decide +kernel
theorem dL_addLayer_15 : decode cL_addLayer 15 = .ok (.astore 5, 2) := by decide +kernel
theorem dL_addLayer_17 : decode cL_addLayer 17 = .ok (.iconst 1, 1) := by decide +kernel
theorem dL_addLayer_18 : decode cL_addLayer 18 = .ok (.ireturn, 1) := by decide +kernel
theorem dL_addLayer_19 : decode cL_addLayer 19 = .ok (.astore 5, 2) := by decide +kernel
theorem dL_addLayer_21 : decode cL_addLayer 21 = .ok (.iconst 2, 1) := by decide +kernel
theorem dL_addLayer_22 : decode cL_addLayer 22 = .ok (.ireturn, 1) := by decide +kernel
theorem dL_addLayer_23 : decode cL_addLayer 23 = .ok (.iconst 0, 1) := by decide +kernel
theorem dL_addLayer_24 : decode cL_addLayer 24 = .ok (.ireturn, 1) := by decide +kernel
theorem dL_layer_0 : decode cL_layer 0 = .ok (.aload_n 3, 1) := by decide +kernel
theorem dL_layer_1 : decode cL_layer 1 = .ok (.iconst 0, 1) := by decide +kernel
theorem dL_layer_2 : decode cL_layer 2 = .ok (.aload_n 0, 1) := by decide +kernel
theorem dL_layer_3 : decode cL_layer 3 = .ok (.iload_n 1, 1) := by decide +kernel
theorem dL_layer_4 : decode cL_layer 4 = .ok (.iload_n 2, 1) := by decide +kernel
theorem dL_layer_5 : decode cL_layer 5 = .ok (.invokevirtual 51, 3) := by decide +kernel
theorem dL_layer_8 : decode cL_layer 8 = .ok (.i2l, 1) := by decide +kernel
theorem dL_layer_9 : decode cL_layer 9 = .ok (.lastore, 1) := by decide +kernel
theorem dL_layer_10 : decode cL_layer 10 = .ok (.goto 7, 3) := by decide +kernel
theorem dL_layer_13 : decode cL_layer 13 = .ok (.astore 4, 2) := by decide +kernel
theorem dL_layer_15 : decode cL_layer 15 = .ok (.iconst 1, 1) := by decide +kernel
theorem dL_layer_16 : decode cL_layer 16 = .ok (.ireturn, 1) := by decide +kernel
theorem dL_layer_17 : decode cL_layer 17 = .ok (.iconst 0, 1) := by decide +kernel
theorem dL_layer_18 : decode cL_layer 18 = .ok (.ireturn, 1) := by decide +kernel
theorem dL_count_0 : decode cL_count 0 = .ok (.aload_n 2, 1) := by decide +kernel
theorem dL_count_1 : decode cL_count 1 = .ok (.iconst 0, 1) := by decide +kernel
theorem dL_count_2 : decode cL_count 2 = .ok (.aload_n 0, 1) := by decide +kernel
theorem dL_count_3 : decode cL_count 3 = .ok (.iload_n 1, 1) := by decide +kernel
theorem dL_count_4 : decode cL_count 4 = .ok (.invokevirtual 54, 3) := by decide +kernel
theorem dL_count_7 : decode cL_count 7 = .ok (.i2l, 1) := by decide +kernel
theorem dL_count_8 : decode cL_count 8 = .ok (.lastore, 1) := by decide +kernel
theorem dL_count_9 : decode cL_count 9 = .ok (.goto 6, 3) := by decide +kernel
theorem dL_count_12 : decode cL_count 12 = .ok (.astore_n 3, 1) := by decide +kernel
theorem dL_count_13 : decode cL_count 13 = .ok (.iconst 1, 1) := by decide +kernel
theorem dL_count_14 : decode cL_count 14 = .ok (.ireturn, 1) := by decide +kernel
theorem dL_count_15 : decode cL_count 15 = .ok (.iconst 0, 1) := by decide +kernel
theorem dL_count_16 : decode cL_count 16 = .ok (.ireturn, 1) := by decide +kernel
theorem dL_storm_0 : decode cL_storm 0 = .ok (.aload 8, 2) := by decide +kernel
theorem dL_storm_2 : decode cL_storm 2 = .ok (.iconst 0, 1) := by decide +kernel
theorem dL_storm_3 : decode cL_storm 3 = .ok (.aload_n 0, 1) := by decide +kernel
theorem dL_storm_4 : decode cL_storm 4 = .ok (.iload_n 1, 1) := by decide +kernel
theorem dL_storm_5 : decode cL_storm 5 = .ok (.iload_n 2, 1) := by decide +kernel
theorem dL_storm_6 : decode cL_storm 6 = .ok (.iload_n 3, 1) := by decide +kernel
theorem dL_storm_7 : decode cL_storm 7 = .ok (.iload 4, 2) := by decide +kernel
theorem dL_storm_9 : decode cL_storm 9 = .ok (.iload 5, 2) := by decide +kernel
theorem dL_storm_11 : decode cL_storm 11 = .ok (.iload 6, 2) := by decide +kernel
theorem dL_storm_13 : decode cL_storm 13 = .ok (.iload 7, 2) := by decide +kernel
theorem dL_storm_15 : decode cL_storm 15 = .ok (.invokevirtual 57, 3) := by decide +kernel
theorem dL_storm_18 : decode cL_storm 18 = .ok (.i2l, 1) := by decide +kernel
theorem dL_storm_19 : decode cL_storm 19 = .ok (.lastore, 1) := by decide +kernel
theorem dL_storm_20 : decode cL_storm 20 = .ok (.goto 11, 3) := by decide +kernel
theorem dL_storm_23 : decode cL_storm 23 = .ok (.astore 9, 2) := by decide +kernel
theorem dL_storm_25 : decode cL_storm 25 = .ok (.iconst 1, 1) := by decide +kernel
theorem dL_storm_26 : decode cL_storm 26 = .ok (.ireturn, 1) := by decide +kernel
theorem dL_storm_27 : decode cL_storm 27 = .ok (.astore 9, 2) := by decide +kernel
theorem dL_storm_29 : decode cL_storm 29 = .ok (.iconst 2, 1) := by decide +kernel
theorem dL_storm_30 : decode cL_storm 30 = .ok (.ireturn, 1) := by decide +kernel
theorem dL_storm_31 : decode cL_storm 31 = .ok (.iconst 0, 1) := by decide +kernel
theorem dL_storm_32 : decode cL_storm 32 = .ok (.ireturn, 1) := by decide +kernel
theorem dL_told_0 : decode cL_told 0 = .ok (.aload_n 3, 1) := by decide +kernel
theorem dL_told_1 : decode cL_told 1 = .ok (.iconst 0, 1) := by decide +kernel
theorem dL_told_2 : decode cL_told 2 = .ok (.aload_n 0, 1) := by decide +kernel
theorem dL_told_3 : decode cL_told 3 = .ok (.iload_n 1, 1) := by decide +kernel
theorem dL_told_4 : decode cL_told 4 = .ok (.iload_n 2, 1) := by decide +kernel
theorem dL_told_5 : decode cL_told 5 = .ok (.invokevirtual 60, 3) := by decide +kernel
theorem dL_told_8 : decode cL_told 8 = .ok (.i2l, 1) := by decide +kernel
theorem dL_told_9 : decode cL_told 9 = .ok (.lastore, 1) := by decide +kernel
theorem dL_told_10 : decode cL_told 10 = .ok (.goto 7, 3) := by decide +kernel
theorem dL_told_13 : decode cL_told 13 = .ok (.astore 4, 2) := by decide +kernel
theorem dL_told_15 : decode cL_told 15 = .ok (.iconst 1, 1) := by decide +kernel
theorem dL_told_16 : decode cL_told 16 = .ok (.ireturn, 1) := by decide +kernel
theorem dL_told_17 : decode cL_told 17 = .ok (.iconst 0, 1) := by decide +kernel
theorem dL_told_18 : decode cL_told 18 = .ok (.ireturn, 1) := by decide +kernel
theorem dL_wouldBe_0 : decode cL_wouldBe 0 = .ok (.aload 9, 2) := by decide +kernel
theorem dL_wouldBe_2 : decode cL_wouldBe 2 = .ok (.iconst 0, 1) := by decide +kernel
theorem dL_wouldBe_3 : decode cL_wouldBe 3 = .ok (.aload_n 0, 1) := by decide +kernel
theorem dL_wouldBe_4 : decode cL_wouldBe 4 = .ok (.iload_n 1, 1) := by decide +kernel
theorem dL_wouldBe_5 : decode cL_wouldBe 5 = .ok (.iload_n 2, 1) := by decide +kernel
theorem dL_wouldBe_6 : decode cL_wouldBe 6 = .ok (.iload_n 3, 1) := by decide +kernel
theorem dL_wouldBe_7 : decode cL_wouldBe 7 = .ok (.iload 4, 2) := by decide +kernel
theorem dL_wouldBe_9 : decode cL_wouldBe 9 = .ok (.iload 5, 2) := by decide +kernel
theorem dL_wouldBe_11 : decode cL_wouldBe 11 = .ok (.iload 6, 2) := by decide +kernel
theorem dL_wouldBe_13 : decode cL_wouldBe 13 = .ok (.iload 7, 2) := by decide +kernel
theorem dL_wouldBe_15 : decode cL_wouldBe 15 = .ok (.iload 8, 2) := by decide +kernel
theorem dL_wouldBe_17 : decode cL_wouldBe 17 = .ok (.invokevirtual 63, 3) := by decide +kernel
theorem dL_wouldBe_20 : decode cL_wouldBe 20 = .ok (.i2l, 1) := by decide +kernel
theorem dL_wouldBe_21 : decode cL_wouldBe 21 = .ok (.lastore, 1) := by decide +kernel
theorem dL_wouldBe_22 : decode cL_wouldBe 22 = .ok (.goto 11, 3) := by decide +kernel
theorem dL_wouldBe_25 : decode cL_wouldBe 25 = .ok (.astore 10, 2) := by decide +kernel
theorem dL_wouldBe_27 : decode cL_wouldBe 27 = .ok (.iconst 1, 1) := by decide +kernel
theorem dL_wouldBe_28 : decode cL_wouldBe 28 = .ok (.ireturn, 1) := by decide +kernel
theorem dL_wouldBe_29 : decode cL_wouldBe 29 = .ok (.astore 10, 2) := by decide +kernel
theorem dL_wouldBe_31 : decode cL_wouldBe 31 = .ok (.iconst 2, 1) := by decide +kernel
theorem dL_wouldBe_32 : decode cL_wouldBe 32 = .ok (.ireturn, 1) := by decide +kernel
theorem dL_wouldBe_33 : decode cL_wouldBe 33 = .ok (.iconst 0, 1) := by decide +kernel
theorem dL_wouldBe_34 : decode cL_wouldBe 34 = .ok (.ireturn, 1) := by decide +kernel
theorem dL_worst_0 : decode cL_worst 0 = .ok (.aload_n 3, 1) := by decide +kernel
theorem dL_worst_1 : decode cL_worst 1 = .ok (.iconst 0, 1) := by decide +kernel
theorem dL_worst_2 : decode cL_worst 2 = .ok (.aload_n 0, 1) := by decide +kernel
theorem dL_worst_3 : decode cL_worst 3 = .ok (.iload_n 1, 1) := by decide +kernel
theorem dL_worst_4 : decode cL_worst 4 = .ok (.iload_n 2, 1) := by decide +kernel
theorem dL_worst_5 : decode cL_worst 5 = .ok (.invokevirtual 67, 3) := by decide +kernel
theorem dL_worst_8 : decode cL_worst 8 = .ok (.i2l, 1) := by decide +kernel
theorem dL_worst_9 : decode cL_worst 9 = .ok (.lastore, 1) := by decide +kernel
theorem dL_worst_10 : decode cL_worst 10 = .ok (.goto 7, 3) := by decide +kernel
theorem dL_worst_13 : decode cL_worst 13 = .ok (.astore 4, 2) := by decide +kernel
theorem dL_worst_15 : decode cL_worst 15 = .ok (.iconst 1, 1) := by decide +kernel
theorem dL_worst_16 : decode cL_worst 16 = .ok (.ireturn, 1) := by decide +kernel
theorem dL_worst_17 : decode cL_worst 17 = .ok (.iconst 0, 1) := by decide +kernel
theorem dL_worst_18 : decode cL_worst 18 = .ok (.ireturn, 1) := by decide +kernel
theorem dL_advise_0 : decode cL_advise 0 = .ok (.aload 4, 2) := by decide +kernel
theorem dL_advise_2 : decode cL_advise 2 = .ok (.iconst 0, 1) := by decide +kernel
theorem dL_advise_3 : decode cL_advise 3 = .ok (.aload_n 0, 1) := by decide +kernel
theorem dL_advise_4 : decode cL_advise 4 = .ok (.iload_n 1, 1) := by decide +kernel
theorem dL_advise_5 : decode cL_advise 5 = .ok (.iload_n 2, 1) := by decide +kernel
theorem dL_advise_6 : decode cL_advise 6 = .ok (.iload_n 3, 1) := by decide +kernel
theorem dL_advise_7 : decode cL_advise 7 = .ok (.invokevirtual 70, 3) := by decide +kernel
theorem dL_advise_10 : decode cL_advise 10 = .ok (.i2l, 1) := by decide +kernel
theorem dL_advise_11 : decode cL_advise 11 = .ok (.lastore, 1) := by decide +kernel
theorem dL_advise_12 : decode cL_advise 12 = .ok (.goto 7, 3) := by decide +kernel
theorem dL_advise_15 : decode cL_advise 15 = .ok (.astore 5, 2) := by decide +kernel
theorem dL_advise_17 : decode cL_advise 17 = .ok (.iconst 1, 1) := by decide +kernel
theorem dL_advise_18 : decode cL_advise 18 = .ok (.ireturn, 1) := by decide +kernel
theorem dL_advise_19 : decode cL_advise 19 = .ok (.iconst 0, 1) := by decide +kernel
theorem dL_advise_20 : decode cL_advise 20 = .ok (.ireturn, 1) := by decide +kernel
theorem dL_law_0 : decode cL_law 0 = .ok (.new 8, 3) := by decide +kernel
theorem dL_law_3 : decode cL_law 3 = .ok (.dup, 1) := by decide +kernel
theorem dL_law_4 : decode cL_law 4 = .ok (.invokespecial 73, 3) := by decide +kernel
theorem dL_law_7 : decode cL_law 7 = .ok (.astore_n 1, 1) := by decide +kernel
theorem dL_law_8 : decode cL_law 8 = .ok (.new 74, 3) := by decide +kernel
theorem dL_law_11 : decode cL_law 11 = .ok (.dup, 1) := by decide +kernel
theorem dL_law_12 : decode cL_law 12 = .ok (.invokespecial 76, 3) := by decide +kernel
theorem dL_law_15 : decode cL_law 15 = .ok (.astore_n 2, 1) := by decide +kernel
theorem dL_law_16 : decode cL_law 16 = .ok (.iconst 1, 1) := by decide +kernel
theorem dL_law_17 : decode cL_law 17 = .ok (.newarray .long, 2) := by decide +kernel
theorem dL_law_19 : decode cL_law 19 = .ok (.astore_n 3, 1) := by decide +kernel
theorem dL_law_20 : decode cL_law 20 = .ok (.iconst 0, 1) := by decide +kernel
theorem dL_law_21 : decode cL_law 21 = .ok (.istore 4, 2) := by decide +kernel
theorem dL_law_23 : decode cL_law 23 = .ok (.iload 4, 2) := by decide +kernel
theorem dL_law_25 : decode cL_law 25 = .ok (.aload_n 0, 1) := by decide +kernel
theorem dL_law_26 : decode cL_law 26 = .ok (.arraylength, 1) := by decide +kernel
theorem dL_law_27 : decode cL_law 27 = .ok (.bipush 9, 2) := by decide +kernel
theorem dL_law_29 : decode cL_law 29 = .ok (.isub, 1) := by decide +kernel
theorem dL_law_30 : decode cL_law 30 = .ok (.if_icmp .gt 1565, 3) := by decide +kernel
theorem dL_law_33 : decode cL_law 33 = .ok (.aload_n 0, 1) := by decide +kernel
theorem dL_law_34 : decode cL_law 34 = .ok (.iload 4, 2) := by decide +kernel
theorem dL_law_36 : decode cL_law 36 = .ok (.iaload, 1) := by decide +kernel
theorem dL_law_37 : decode cL_law 37 = .ok (.bipush 31, 2) := by decide +kernel
theorem dL_law_39 : decode cL_law 39 = .ok (.iand, 1) := by decide +kernel
theorem dL_law_40 : decode cL_law 40 = .ok (.tableswitch 1549 0 19 #[96, 152, 284, 375, 467, 523, 591, 659, 727, 783, 863, 931, 987, 1000, 1132, 1200, 1346, 1414, 1494, 1535], 96) := by decide +kernel
theorem dL_law_136 : decode cL_law 136 = .ok (.aload_n 1, 1) := by decide +kernel
theorem dL_law_137 : decode cL_law 137 = .ok (.aload_n 0, 1) := by decide +kernel
theorem dL_law_138 : decode cL_law 138 = .ok (.iload 4, 2) := by decide +kernel
theorem dL_law_140 : decode cL_law 140 = .ok (.iconst 1, 1) := by decide +kernel
theorem dL_law_141 : decode cL_law 141 = .ok (.iadd, 1) := by decide +kernel
theorem dL_law_142 : decode cL_law 142 = .ok (.iaload, 1) := by decide +kernel
theorem dL_law_143 : decode cL_law 143 = .ok (.aload_n 3, 1) := by decide +kernel
theorem dL_law_144 : decode cL_law 144 = .ok (.invokestatic 77, 3) := by decide +kernel
theorem dL_law_147 : decode cL_law 147 = .ok (.istore 5, 2) := by decide +kernel
theorem dL_law_149 : decode cL_law 149 = .ok (.aload_n 2, 1) := by decide +kernel
theorem dL_law_150 : decode cL_law 150 = .ok (.aload_n 0, 1) := by decide +kernel
theorem dL_law_151 : decode cL_law 151 = .ok (.iload 4, 2) := by decide +kernel
theorem dL_law_153 : decode cL_law 153 = .ok (.iconst 1, 1) := by decide +kernel
theorem dL_law_154 : decode cL_law 154 = .ok (.iadd, 1) := by decide +kernel
theorem dL_law_155 : decode cL_law 155 = .ok (.iaload, 1) := by decide +kernel
theorem dL_law_156 : decode cL_law 156 = .ok (.invokevirtual 82, 3) := by decide +kernel
theorem dL_law_159 : decode cL_law 159 = .ok (.istore 6, 2) := by decide +kernel
theorem dL_law_161 : decode cL_law 161 = .ok (.aload_n 2, 1) := by decide +kernel
theorem dL_law_162 : decode cL_law 162 = .ok (.invokevirtual 83, 3) := by decide +kernel
theorem dL_law_165 : decode cL_law 165 = .ok (.iload 5, 2) := by decide +kernel
theorem dL_law_167 : decode cL_law 167 = .ok (.if_icmp .eq 5, 3) := by decide +kernel
theorem dL_law_170 : decode cL_law 170 = .ok (.iconst 0, 1) := by decide +kernel
theorem dL_law_171 : decode cL_law 171 = .ok (.ireturn, 1) := by decide +kernel
theorem dL_law_172 : decode cL_law 172 = .ok (.iload 5, 2) := by decide +kernel
theorem dL_law_174 : decode cL_law 174 = .ok (.ifCond .ne 15, 3) := by decide +kernel
theorem dL_law_177 : decode cL_law 177 = .ok (.aload_n 3, 1) := by decide +kernel
theorem dL_law_178 : decode cL_law 178 = .ok (.iconst 0, 1) := by decide +kernel
theorem dL_law_179 : decode cL_law 179 = .ok (.laload, 1) := by decide +kernel
theorem dL_law_180 : decode cL_law 180 = .ok (.iload 6, 2) := by decide +kernel
theorem dL_law_182 : decode cL_law 182 = .ok (.i2l, 1) := by decide +kernel
theorem dL_law_183 : decode cL_law 183 = .ok (.lcmp, 1) := by decide +kernel
theorem dL_law_184 : decode cL_law 184 = .ok (.ifCond .eq 5, 3) := by decide +kernel
theorem dL_law_187 : decode cL_law 187 = .ok (.iconst 0, 1) := by decide +kernel
theorem dL_law_188 : decode cL_law 188 = .ok (.ireturn, 1) := by decide +kernel
theorem dL_law_189 : decode cL_law 189 = .ok (.goto 1400, 3) := by decide +kernel
theorem dL_law_192 : decode cL_law 192 = .ok (.aload_n 1, 1) := by decide +kernel
theorem dL_law_193 : decode cL_law 193 = .ok (.aload_n 0, 1) := by decide +kernel
theorem dL_law_194 : decode cL_law 194 = .ok (.iload 4, 2) := by decide +kernel
theorem dL_law_196 : decode cL_law 196 = .ok (.iconst 1, 1) := by decide +kernel
theorem dL_law_197 : decode cL_law 197 = .ok (.iadd, 1) := by decide +kernel
theorem dL_law_198 : decode cL_law 198 = .ok (.iaload, 1) := by decide +kernel
theorem dL_law_199 : decode cL_law 199 = .ok (.aload_n 0, 1) := by decide +kernel
theorem dL_law_200 : decode cL_law 200 = .ok (.iload 4, 2) := by decide +kernel
theorem dL_law_202 : decode cL_law 202 = .ok (.iconst 2, 1) := by decide +kernel
theorem dL_law_203 : decode cL_law 203 = .ok (.iadd, 1) := by decide +kernel
theorem dL_law_204 : decode cL_law 204 = .ok (.iaload, 1) := by decide +kernel
theorem dL_law_205 : decode cL_law 205 = .ok (.aload_n 0, 1) := by decide +kernel
theorem dL_law_206 : decode cL_law 206 = .ok (.iload 4, 2) := by decide +kernel
theorem dL_law_208 : decode cL_law 208 = .ok (.iconst 3, 1) := by decide +kernel
theorem dL_law_209 : decode cL_law 209 = .ok (.iadd, 1) := by decide +kernel
theorem dL_law_210 : decode cL_law 210 = .ok (.iaload, 1) := by decide +kernel
theorem dL_law_211 : decode cL_law 211 = .ok (.aload_n 0, 1) := by decide +kernel
theorem dL_law_212 : decode cL_law 212 = .ok (.iload 4, 2) := by decide +kernel
theorem dL_law_214 : decode cL_law 214 = .ok (.iconst 4, 1) := by decide +kernel
theorem dL_law_215 : decode cL_law 215 = .ok (.iadd, 1) := by decide +kernel
theorem dL_law_216 : decode cL_law 216 = .ok (.iaload, 1) := by decide +kernel
theorem dL_law_217 : decode cL_law 217 = .ok (.aload_n 0, 1) := by decide +kernel
theorem dL_law_218 : decode cL_law 218 = .ok (.iload 4, 2) := by decide +kernel
theorem dL_law_220 : decode cL_law 220 = .ok (.iconst 5, 1) := by decide +kernel
theorem dL_law_221 : decode cL_law 221 = .ok (.iadd, 1) := by decide +kernel
theorem dL_law_222 : decode cL_law 222 = .ok (.iaload, 1) := by decide +kernel
theorem dL_law_223 : decode cL_law 223 = .ok (.aload_n 0, 1) := by decide +kernel
theorem dL_law_224 : decode cL_law 224 = .ok (.iload 4, 2) := by decide +kernel
theorem dL_law_226 : decode cL_law 226 = .ok (.bipush 6, 2) := by decide +kernel
theorem dL_law_228 : decode cL_law 228 = .ok (.iadd, 1) := by decide +kernel
theorem dL_law_229 : decode cL_law 229 = .ok (.iaload, 1) := by decide +kernel
theorem dL_law_230 : decode cL_law 230 = .ok (.aload_n 0, 1) := by decide +kernel
theorem dL_law_231 : decode cL_law 231 = .ok (.iload 4, 2) := by decide +kernel
theorem dL_law_233 : decode cL_law 233 = .ok (.bipush 7, 2) := by decide +kernel
theorem dL_law_235 : decode cL_law 235 = .ok (.iadd, 1) := by decide +kernel
theorem dL_law_236 : decode cL_law 236 = .ok (.iaload, 1) := by decide +kernel
theorem dL_law_237 : decode cL_law 237 = .ok (.aload_n 3, 1) := by decide +kernel
theorem dL_law_238 : decode cL_law 238 = .ok (.invokestatic 87, 3) := by decide +kernel
theorem dL_law_241 : decode cL_law 241 = .ok (.istore 5, 2) := by decide +kernel
theorem dL_law_243 : decode cL_law 243 = .ok (.aload_n 2, 1) := by decide +kernel
theorem dL_law_244 : decode cL_law 244 = .ok (.aload_n 0, 1) := by decide +kernel
theorem dL_law_245 : decode cL_law 245 = .ok (.iload 4, 2) := by decide +kernel
theorem dL_law_247 : decode cL_law 247 = .ok (.iconst 1, 1) := by decide +kernel
theorem dL_law_248 : decode cL_law 248 = .ok (.iadd, 1) := by decide +kernel
theorem dL_law_249 : decode cL_law 249 = .ok (.iaload, 1) := by decide +kernel
theorem dL_law_250 : decode cL_law 250 = .ok (.aload_n 0, 1) := by decide +kernel
theorem dL_law_251 : decode cL_law 251 = .ok (.iload 4, 2) := by decide +kernel
theorem dL_law_253 : decode cL_law 253 = .ok (.iconst 2, 1) := by decide +kernel
theorem dL_law_254 : decode cL_law 254 = .ok (.iadd, 1) := by decide +kernel
theorem dL_law_255 : decode cL_law 255 = .ok (.iaload, 1) := by decide +kernel
theorem dL_law_256 : decode cL_law 256 = .ok (.aload_n 0, 1) := by decide +kernel
theorem dL_law_257 : decode cL_law 257 = .ok (.iload 4, 2) := by decide +kernel
theorem dL_law_259 : decode cL_law 259 = .ok (.iconst 3, 1) := by decide +kernel
theorem dL_law_260 : decode cL_law 260 = .ok (.iadd, 1) := by decide +kernel
theorem dL_law_261 : decode cL_law 261 = .ok (.iaload, 1) := by decide +kernel
theorem dL_law_262 : decode cL_law 262 = .ok (.aload_n 0, 1) := by decide +kernel
theorem dL_law_263 : decode cL_law 263 = .ok (.iload 4, 2) := by decide +kernel
theorem dL_law_265 : decode cL_law 265 = .ok (.iconst 4, 1) := by decide +kernel
theorem dL_law_266 : decode cL_law 266 = .ok (.iadd, 1) := by decide +kernel
theorem dL_law_267 : decode cL_law 267 = .ok (.iaload, 1) := by decide +kernel
theorem dL_law_268 : decode cL_law 268 = .ok (.aload_n 0, 1) := by decide +kernel
theorem dL_law_269 : decode cL_law 269 = .ok (.iload 4, 2) := by decide +kernel
theorem dL_law_271 : decode cL_law 271 = .ok (.iconst 5, 1) := by decide +kernel
theorem dL_law_272 : decode cL_law 272 = .ok (.iadd, 1) := by decide +kernel
theorem dL_law_273 : decode cL_law 273 = .ok (.iaload, 1) := by decide +kernel
theorem dL_law_274 : decode cL_law 274 = .ok (.aload_n 0, 1) := by decide +kernel
theorem dL_law_275 : decode cL_law 275 = .ok (.iload 4, 2) := by decide +kernel
theorem dL_law_277 : decode cL_law 277 = .ok (.bipush 6, 2) := by decide +kernel
theorem dL_law_279 : decode cL_law 279 = .ok (.iadd, 1) := by decide +kernel
theorem dL_law_280 : decode cL_law 280 = .ok (.iaload, 1) := by decide +kernel
theorem dL_law_281 : decode cL_law 281 = .ok (.aload_n 0, 1) := by decide +kernel
theorem dL_law_282 : decode cL_law 282 = .ok (.iload 4, 2) := by decide +kernel
theorem dL_law_284 : decode cL_law 284 = .ok (.bipush 7, 2) := by decide +kernel
theorem dL_law_286 : decode cL_law 286 = .ok (.iadd, 1) := by decide +kernel
theorem dL_law_287 : decode cL_law 287 = .ok (.iaload, 1) := by decide +kernel
theorem dL_law_288 : decode cL_law 288 = .ok (.invokevirtual 90, 3) := by decide +kernel
theorem dL_law_291 : decode cL_law 291 = .ok (.istore 6, 2) := by decide +kernel
theorem dL_law_293 : decode cL_law 293 = .ok (.aload_n 2, 1) := by decide +kernel
theorem dL_law_294 : decode cL_law 294 = .ok (.invokevirtual 83, 3) := by decide +kernel
theorem dL_law_297 : decode cL_law 297 = .ok (.iload 5, 2) := by decide +kernel
theorem dL_law_299 : decode cL_law 299 = .ok (.if_icmp .eq 5, 3) := by decide +kernel
theorem dL_law_302 : decode cL_law 302 = .ok (.iconst 0, 1) := by decide +kernel
theorem dL_law_303 : decode cL_law 303 = .ok (.ireturn, 1) := by decide +kernel
theorem dL_law_304 : decode cL_law 304 = .ok (.iload 5, 2) := by decide +kernel
theorem dL_law_306 : decode cL_law 306 = .ok (.ifCond .ne 15, 3) := by decide +kernel
theorem dL_law_309 : decode cL_law 309 = .ok (.aload_n 3, 1) := by decide +kernel
theorem dL_law_310 : decode cL_law 310 = .ok (.iconst 0, 1) := by decide +kernel
theorem dL_law_311 : decode cL_law 311 = .ok (.laload, 1) := by decide +kernel
theorem dL_law_312 : decode cL_law 312 = .ok (.iload 6, 2) := by decide +kernel
theorem dL_law_314 : decode cL_law 314 = .ok (.i2l, 1) := by decide +kernel
theorem dL_law_315 : decode cL_law 315 = .ok (.lcmp, 1) := by decide +kernel
theorem dL_law_316 : decode cL_law 316 = .ok (.ifCond .eq 5, 3) := by decide +kernel
theorem dL_law_319 : decode cL_law 319 = .ok (.iconst 0, 1) := by decide +kernel
theorem dL_law_320 : decode cL_law 320 = .ok (.ireturn, 1) := by decide +kernel
theorem dL_law_321 : decode cL_law 321 = .ok (.goto 1268, 3) := by decide +kernel
theorem dL_law_324 : decode cL_law 324 = .ok (.aload_n 1, 1) := by decide +kernel
theorem dL_law_325 : decode cL_law 325 = .ok (.aload_n 0, 1) := by decide +kernel
theorem dL_law_326 : decode cL_law 326 = .ok (.iload 4, 2) := by decide +kernel
theorem dL_law_328 : decode cL_law 328 = .ok (.iconst 1, 1) := by decide +kernel
theorem dL_law_329 : decode cL_law 329 = .ok (.iadd, 1) := by decide +kernel
theorem dL_law_330 : decode cL_law 330 = .ok (.iaload, 1) := by decide +kernel
theorem dL_law_331 : decode cL_law 331 = .ok (.aload_n 0, 1) := by decide +kernel
theorem dL_law_332 : decode cL_law 332 = .ok (.iload 4, 2) := by decide +kernel
theorem dL_law_334 : decode cL_law 334 = .ok (.iconst 2, 1) := by decide +kernel
theorem dL_law_335 : decode cL_law 335 = .ok (.iadd, 1) := by decide +kernel
theorem dL_law_336 : decode cL_law 336 = .ok (.iaload, 1) := by decide +kernel
theorem dL_law_337 : decode cL_law 337 = .ok (.ifCond .eq 7, 3) := by decide +kernel
theorem dL_law_340 : decode cL_law 340 = .ok (.iconst 1, 1) := by decide +kernel
theorem dL_law_341 : decode cL_law 341 = .ok (.goto 4, 3) := by decide +kernel
theorem dL_law_344 : decode cL_law 344 = .ok (.iconst 0, 1) := by decide +kernel
theorem dL_law_345 : decode cL_law 345 = .ok (.aload_n 3, 1) := by decide +kernel
theorem dL_law_346 : decode cL_law 346 = .ok (.invokestatic 91, 3) := by decide +kernel
theorem dL_law_349 : decode cL_law 349 = .ok (.istore 5, 2) := by decide +kernel
theorem dL_law_351 : decode cL_law 351 = .ok (.aload_n 2, 1) := by decide +kernel
theorem dL_law_352 : decode cL_law 352 = .ok (.aload_n 0, 1) := by decide +kernel
theorem dL_law_353 : decode cL_law 353 = .ok (.iload 4, 2) := by decide +kernel
theorem dL_law_355 : decode cL_law 355 = .ok (.iconst 1, 1) := by decide +kernel
theorem dL_law_356 : decode cL_law 356 = .ok (.iadd, 1) := by decide +kernel
theorem dL_law_357 : decode cL_law 357 = .ok (.iaload, 1) := by decide +kernel
theorem dL_law_358 : decode cL_law 358 = .ok (.aload_n 0, 1) := by decide +kernel
theorem dL_law_359 : decode cL_law 359 = .ok (.iload 4, 2) := by decide +kernel
theorem dL_law_361 : decode cL_law 361 = .ok (.iconst 2, 1) := by decide +kernel
theorem dL_law_362 : decode cL_law 362 = .ok (.iadd, 1) := by decide +kernel
theorem dL_law_363 : decode cL_law 363 = .ok (.iaload, 1) := by decide +kernel
theorem dL_law_364 : decode cL_law 364 = .ok (.ifCond .eq 7, 3) := by decide +kernel
theorem dL_law_367 : decode cL_law 367 = .ok (.iconst 1, 1) := by decide +kernel
theorem dL_law_368 : decode cL_law 368 = .ok (.goto 4, 3) := by decide +kernel
theorem dL_law_371 : decode cL_law 371 = .ok (.iconst 0, 1) := by decide +kernel
theorem dL_law_372 : decode cL_law 372 = .ok (.invokevirtual 94, 3) := by decide +kernel
theorem dL_law_375 : decode cL_law 375 = .ok (.istore 6, 2) := by decide +kernel
theorem dL_law_377 : decode cL_law 377 = .ok (.aload_n 2, 1) := by decide +kernel
theorem dL_law_378 : decode cL_law 378 = .ok (.invokevirtual 83, 3) := by decide +kernel
theorem dL_law_381 : decode cL_law 381 = .ok (.iload 5, 2) := by decide +kernel
theorem dL_law_383 : decode cL_law 383 = .ok (.if_icmp .eq 5, 3) := by decide +kernel
theorem dL_law_386 : decode cL_law 386 = .ok (.iconst 0, 1) := by decide +kernel
theorem dL_law_387 : decode cL_law 387 = .ok (.ireturn, 1) := by decide +kernel
theorem dL_law_388 : decode cL_law 388 = .ok (.iload 5, 2) := by decide +kernel
theorem dL_law_390 : decode cL_law 390 = .ok (.ifCond .ne 22, 3) := by decide +kernel
theorem dL_law_393 : decode cL_law 393 = .ok (.aload_n 3, 1) := by decide +kernel
theorem dL_law_394 : decode cL_law 394 = .ok (.iconst 0, 1) := by decide +kernel
theorem dL_law_395 : decode cL_law 395 = .ok (.laload, 1) := by decide +kernel
theorem dL_law_396 : decode cL_law 396 = .ok (.iload 6, 2) := by decide +kernel
theorem dL_law_398 : decode cL_law 398 = .ok (.ifCond .eq 7, 3) := by decide +kernel
theorem dL_law_401 : decode cL_law 401 = .ok (.lconst 1, 1) := by decide +kernel
theorem dL_law_402 : decode cL_law 402 = .ok (.goto 4, 3) := by decide +kernel
theorem dL_law_405 : decode cL_law 405 = .ok (.lconst 0, 1) := by decide +kernel
theorem dL_law_406 : decode cL_law 406 = .ok (.lcmp, 1) := by decide +kernel
theorem dL_law_407 : decode cL_law 407 = .ok (.ifCond .eq 5, 3) := by decide +kernel
theorem dL_law_410 : decode cL_law 410 = .ok (.iconst 0, 1) := by decide +kernel
theorem dL_law_411 : decode cL_law 411 = .ok (.ireturn, 1) := by decide +kernel
theorem dL_law_412 : decode cL_law 412 = .ok (.goto 1177, 3) := by decide +kernel
theorem dL_law_415 : decode cL_law 415 = .ok (.aload_n 1, 1) := by decide +kernel
theorem dL_law_416 : decode cL_law 416 = .ok (.aload_n 0, 1) := by decide +kernel
theorem dL_law_417 : decode cL_law 417 = .ok (.iload 4, 2) := by decide +kernel
theorem dL_law_419 : decode cL_law 419 = .ok (.iconst 1, 1) := by decide +kernel
theorem dL_law_420 : decode cL_law 420 = .ok (.iadd, 1) := by decide +kernel
theorem dL_law_421 : decode cL_law 421 = .ok (.iaload, 1) := by decide +kernel
theorem dL_law_422 : decode cL_law 422 = .ok (.aload_n 0, 1) := by decide +kernel
theorem dL_law_423 : decode cL_law 423 = .ok (.iload 4, 2) := by decide +kernel
theorem dL_law_425 : decode cL_law 425 = .ok (.iconst 2, 1) := by decide +kernel
theorem dL_law_426 : decode cL_law 426 = .ok (.iadd, 1) := by decide +kernel
theorem dL_law_427 : decode cL_law 427 = .ok (.iaload, 1) := by decide +kernel
theorem dL_law_428 : decode cL_law 428 = .ok (.aload_n 0, 1) := by decide +kernel
theorem dL_law_429 : decode cL_law 429 = .ok (.iload 4, 2) := by decide +kernel
theorem dL_law_431 : decode cL_law 431 = .ok (.iconst 3, 1) := by decide +kernel
theorem dL_law_432 : decode cL_law 432 = .ok (.iadd, 1) := by decide +kernel
theorem dL_law_433 : decode cL_law 433 = .ok (.iaload, 1) := by decide +kernel
theorem dL_law_434 : decode cL_law 434 = .ok (.aload_n 0, 1) := by decide +kernel
theorem dL_law_435 : decode cL_law 435 = .ok (.iload 4, 2) := by decide +kernel
theorem dL_law_437 : decode cL_law 437 = .ok (.iconst 4, 1) := by decide +kernel
theorem dL_law_438 : decode cL_law 438 = .ok (.iadd, 1) := by decide +kernel
theorem dL_law_439 : decode cL_law 439 = .ok (.iaload, 1) := by decide +kernel
theorem dL_law_440 : decode cL_law 440 = .ok (.aload_n 3, 1) := by decide +kernel
theorem dL_law_441 : decode cL_law 441 = .ok (.invokestatic 95, 3) := by decide +kernel
theorem dL_law_444 : decode cL_law 444 = .ok (.istore 5, 2) := by decide +kernel
theorem dL_law_446 : decode cL_law 446 = .ok (.aload_n 2, 1) := by decide +kernel
theorem dL_law_447 : decode cL_law 447 = .ok (.aload_n 0, 1) := by decide +kernel
theorem dL_law_448 : decode cL_law 448 = .ok (.iload 4, 2) := by decide +kernel
theorem dL_law_450 : decode cL_law 450 = .ok (.iconst 1, 1) := by decide +kernel
theorem dL_law_451 : decode cL_law 451 = .ok (.iadd, 1) := by decide +kernel
theorem dL_law_452 : decode cL_law 452 = .ok (.iaload, 1) := by decide +kernel
theorem dL_law_453 : decode cL_law 453 = .ok (.aload_n 0, 1) := by decide +kernel
theorem dL_law_454 : decode cL_law 454 = .ok (.iload 4, 2) := by decide +kernel
theorem dL_law_456 : decode cL_law 456 = .ok (.iconst 2, 1) := by decide +kernel
theorem dL_law_457 : decode cL_law 457 = .ok (.iadd, 1) := by decide +kernel
theorem dL_law_458 : decode cL_law 458 = .ok (.iaload, 1) := by decide +kernel
theorem dL_law_459 : decode cL_law 459 = .ok (.aload_n 0, 1) := by decide +kernel
theorem dL_law_460 : decode cL_law 460 = .ok (.iload 4, 2) := by decide +kernel
theorem dL_law_462 : decode cL_law 462 = .ok (.iconst 3, 1) := by decide +kernel
theorem dL_law_463 : decode cL_law 463 = .ok (.iadd, 1) := by decide +kernel
theorem dL_law_464 : decode cL_law 464 = .ok (.iaload, 1) := by decide +kernel
theorem dL_law_465 : decode cL_law 465 = .ok (.aload_n 0, 1) := by decide +kernel
theorem dL_law_466 : decode cL_law 466 = .ok (.iload 4, 2) := by decide +kernel
theorem dL_law_468 : decode cL_law 468 = .ok (.iconst 4, 1) := by decide +kernel
theorem dL_law_469 : decode cL_law 469 = .ok (.iadd, 1) := by decide +kernel
theorem dL_law_470 : decode cL_law 470 = .ok (.iaload, 1) := by decide +kernel
theorem dL_law_471 : decode cL_law 471 = .ok (.invokevirtual 98, 3) := by decide +kernel
theorem dL_law_474 : decode cL_law 474 = .ok (.istore 6, 2) := by decide +kernel
theorem dL_law_476 : decode cL_law 476 = .ok (.aload_n 2, 1) := by decide +kernel
theorem dL_law_477 : decode cL_law 477 = .ok (.invokevirtual 83, 3) := by decide +kernel
theorem dL_law_480 : decode cL_law 480 = .ok (.iload 5, 2) := by decide +kernel
theorem dL_law_482 : decode cL_law 482 = .ok (.if_icmp .eq 5, 3) := by decide +kernel
theorem dL_law_485 : decode cL_law 485 = .ok (.iconst 0, 1) := by decide +kernel
theorem dL_law_486 : decode cL_law 486 = .ok (.ireturn, 1) := by decide +kernel
theorem dL_law_487 : decode cL_law 487 = .ok (.iload 5, 2) := by decide +kernel
theorem dL_law_489 : decode cL_law 489 = .ok (.ifCond .ne 15, 3) := by decide +kernel
theorem dL_law_492 : decode cL_law 492 = .ok (.aload_n 3, 1) := by decide +kernel
theorem dL_law_493 : decode cL_law 493 = .ok (.iconst 0, 1) := by decide +kernel
theorem dL_law_494 : decode cL_law 494 = .ok (.laload, 1) := by decide +kernel
theorem dL_law_495 : decode cL_law 495 = .ok (.iload 6, 2) := by decide +kernel
theorem dL_law_497 : decode cL_law 497 = .ok (.i2l, 1) := by decide +kernel
theorem dL_law_498 : decode cL_law 498 = .ok (.lcmp, 1) := by decide +kernel
theorem dL_law_499 : decode cL_law 499 = .ok (.ifCond .eq 5, 3) := by decide +kernel
theorem dL_law_502 : decode cL_law 502 = .ok (.iconst 0, 1) := by decide +kernel
theorem dL_law_503 : decode cL_law 503 = .ok (.ireturn, 1) := by decide +kernel
theorem dL_law_504 : decode cL_law 504 = .ok (.goto 1085, 3) := by decide +kernel
theorem dL_law_507 : decode cL_law 507 = .ok (.aload_n 1, 1) := by decide +kernel
theorem dL_law_508 : decode cL_law 508 = .ok (.aload_n 0, 1) := by decide +kernel
theorem dL_law_509 : decode cL_law 509 = .ok (.iload 4, 2) := by decide +kernel
theorem dL_law_511 : decode cL_law 511 = .ok (.iconst 1, 1) := by decide +kernel
theorem dL_law_512 : decode cL_law 512 = .ok (.iadd, 1) := by decide +kernel
theorem dL_law_513 : decode cL_law 513 = .ok (.iaload, 1) := by decide +kernel
theorem dL_law_514 : decode cL_law 514 = .ok (.aload_n 3, 1) := by decide +kernel
theorem dL_law_515 : decode cL_law 515 = .ok (.invokestatic 99, 3) := by decide +kernel
theorem dL_law_518 : decode cL_law 518 = .ok (.istore 5, 2) := by decide +kernel
theorem dL_law_520 : decode cL_law 520 = .ok (.aload_n 2, 1) := by decide +kernel
theorem dL_law_521 : decode cL_law 521 = .ok (.aload_n 0, 1) := by decide +kernel
theorem dL_law_522 : decode cL_law 522 = .ok (.iload 4, 2) := by decide +kernel
theorem dL_law_524 : decode cL_law 524 = .ok (.iconst 1, 1) := by decide +kernel
theorem dL_law_525 : decode cL_law 525 = .ok (.iadd, 1) := by decide +kernel
theorem dL_law_526 : decode cL_law 526 = .ok (.iaload, 1) := by decide +kernel
theorem dL_law_527 : decode cL_law 527 = .ok (.invokevirtual 101, 3) := by decide +kernel
theorem dL_law_530 : decode cL_law 530 = .ok (.istore 6, 2) := by decide +kernel
theorem dL_law_532 : decode cL_law 532 = .ok (.aload_n 2, 1) := by decide +kernel
theorem dL_law_533 : decode cL_law 533 = .ok (.invokevirtual 83, 3) := by decide +kernel
theorem dL_law_536 : decode cL_law 536 = .ok (.iload 5, 2) := by decide +kernel
theorem dL_law_538 : decode cL_law 538 = .ok (.if_icmp .eq 5, 3) := by decide +kernel
theorem dL_law_541 : decode cL_law 541 = .ok (.iconst 0, 1) := by decide +kernel
theorem dL_law_542 : decode cL_law 542 = .ok (.ireturn, 1) := by decide +kernel
theorem dL_law_543 : decode cL_law 543 = .ok (.iload 5, 2) := by decide +kernel
theorem dL_law_545 : decode cL_law 545 = .ok (.ifCond .ne 15, 3) := by decide +kernel
theorem dL_law_548 : decode cL_law 548 = .ok (.aload_n 3, 1) := by decide +kernel
theorem dL_law_549 : decode cL_law 549 = .ok (.iconst 0, 1) := by decide +kernel
theorem dL_law_550 : decode cL_law 550 = .ok (.laload, 1) := by decide +kernel
theorem dL_law_551 : decode cL_law 551 = .ok (.iload 6, 2) := by decide +kernel
theorem dL_law_553 : decode cL_law 553 = .ok (.i2l, 1) := by decide +kernel
theorem dL_law_554 : decode cL_law 554 = .ok (.lcmp, 1) := by decide +kernel
theorem dL_law_555 : decode cL_law 555 = .ok (.ifCond .eq 5, 3) := by decide +kernel
theorem dL_law_558 : decode cL_law 558 = .ok (.iconst 0, 1) := by decide +kernel
theorem dL_law_559 : decode cL_law 559 = .ok (.ireturn, 1) := by decide +kernel
theorem dL_law_560 : decode cL_law 560 = .ok (.goto 1029, 3) := by decide +kernel
theorem dL_law_563 : decode cL_law 563 = .ok (.aload_n 1, 1) := by decide +kernel
theorem dL_law_564 : decode cL_law 564 = .ok (.aload_n 0, 1) := by decide +kernel
theorem dL_law_565 : decode cL_law 565 = .ok (.iload 4, 2) := by decide +kernel
theorem dL_law_567 : decode cL_law 567 = .ok (.iconst 1, 1) := by decide +kernel
theorem dL_law_568 : decode cL_law 568 = .ok (.iadd, 1) := by decide +kernel
theorem dL_law_569 : decode cL_law 569 = .ok (.iaload, 1) := by decide +kernel
theorem dL_law_570 : decode cL_law 570 = .ok (.aload_n 0, 1) := by decide +kernel
theorem dL_law_571 : decode cL_law 571 = .ok (.iload 4, 2) := by decide +kernel
theorem dL_law_573 : decode cL_law 573 = .ok (.iconst 2, 1) := by decide +kernel
theorem dL_law_574 : decode cL_law 574 = .ok (.iadd, 1) := by decide +kernel
theorem dL_law_575 : decode cL_law 575 = .ok (.iaload, 1) := by decide +kernel
theorem dL_law_576 : decode cL_law 576 = .ok (.aload_n 3, 1) := by decide +kernel
theorem dL_law_577 : decode cL_law 577 = .ok (.invokestatic 102, 3) := by decide +kernel
theorem dL_law_580 : decode cL_law 580 = .ok (.istore 5, 2) := by decide +kernel
theorem dL_law_582 : decode cL_law 582 = .ok (.aload_n 2, 1) := by decide +kernel
theorem dL_law_583 : decode cL_law 583 = .ok (.aload_n 0, 1) := by decide +kernel
theorem dL_law_584 : decode cL_law 584 = .ok (.iload 4, 2) := by decide +kernel
theorem dL_law_586 : decode cL_law 586 = .ok (.iconst 1, 1) := by decide +kernel
theorem dL_law_587 : decode cL_law 587 = .ok (.iadd, 1) := by decide +kernel
theorem dL_law_588 : decode cL_law 588 = .ok (.iaload, 1) := by decide +kernel
theorem dL_law_589 : decode cL_law 589 = .ok (.aload_n 0, 1) := by decide +kernel
theorem dL_law_590 : decode cL_law 590 = .ok (.iload 4, 2) := by decide +kernel
theorem dL_law_592 : decode cL_law 592 = .ok (.iconst 2, 1) := by decide +kernel
theorem dL_law_593 : decode cL_law 593 = .ok (.iadd, 1) := by decide +kernel
theorem dL_law_594 : decode cL_law 594 = .ok (.iaload, 1) := by decide +kernel
theorem dL_law_595 : decode cL_law 595 = .ok (.invokevirtual 105, 3) := by decide +kernel
theorem dL_law_598 : decode cL_law 598 = .ok (.istore 6, 2) := by decide +kernel
theorem dL_law_600 : decode cL_law 600 = .ok (.aload_n 2, 1) := by decide +kernel
theorem dL_law_601 : decode cL_law 601 = .ok (.invokevirtual 83, 3) := by decide +kernel
theorem dL_law_604 : decode cL_law 604 = .ok (.iload 5, 2) := by decide +kernel
theorem dL_law_606 : decode cL_law 606 = .ok (.if_icmp .eq 5, 3) := by decide +kernel
theorem dL_law_609 : decode cL_law 609 = .ok (.iconst 0, 1) := by decide +kernel
theorem dL_law_610 : decode cL_law 610 = .ok (.ireturn, 1) := by decide +kernel
theorem dL_law_611 : decode cL_law 611 = .ok (.iload 5, 2) := by decide +kernel
theorem dL_law_613 : decode cL_law 613 = .ok (.ifCond .ne 15, 3) := by decide +kernel
theorem dL_law_616 : decode cL_law 616 = .ok (.aload_n 3, 1) := by decide +kernel
theorem dL_law_617 : decode cL_law 617 = .ok (.iconst 0, 1) := by decide +kernel
theorem dL_law_618 : decode cL_law 618 = .ok (.laload, 1) := by decide +kernel
theorem dL_law_619 : decode cL_law 619 = .ok (.iload 6, 2) := by decide +kernel
theorem dL_law_621 : decode cL_law 621 = .ok (.i2l, 1) := by decide +kernel
theorem dL_law_622 : decode cL_law 622 = .ok (.lcmp, 1) := by decide +kernel
theorem dL_law_623 : decode cL_law 623 = .ok (.ifCond .eq 5, 3) := by decide +kernel
theorem dL_law_626 : decode cL_law 626 = .ok (.iconst 0, 1) := by decide +kernel
theorem dL_law_627 : decode cL_law 627 = .ok (.ireturn, 1) := by decide +kernel
theorem dL_law_628 : decode cL_law 628 = .ok (.goto 961, 3) := by decide +kernel
theorem dL_law_631 : decode cL_law 631 = .ok (.aload_n 1, 1) := by decide +kernel
theorem dL_law_632 : decode cL_law 632 = .ok (.aload_n 0, 1) := by decide +kernel
theorem dL_law_633 : decode cL_law 633 = .ok (.iload 4, 2) := by decide +kernel
theorem dL_law_635 : decode cL_law 635 = .ok (.iconst 1, 1) := by decide +kernel
theorem dL_law_636 : decode cL_law 636 = .ok (.iadd, 1) := by decide +kernel
theorem dL_law_637 : decode cL_law 637 = .ok (.iaload, 1) := by decide +kernel
theorem dL_law_638 : decode cL_law 638 = .ok (.aload_n 0, 1) := by decide +kernel
theorem dL_law_639 : decode cL_law 639 = .ok (.iload 4, 2) := by decide +kernel
theorem dL_law_641 : decode cL_law 641 = .ok (.iconst 2, 1) := by decide +kernel
theorem dL_law_642 : decode cL_law 642 = .ok (.iadd, 1) := by decide +kernel
theorem dL_law_643 : decode cL_law 643 = .ok (.iaload, 1) := by decide +kernel
theorem dL_law_644 : decode cL_law 644 = .ok (.aload_n 3, 1) := by decide +kernel
theorem dL_law_645 : decode cL_law 645 = .ok (.invokestatic 106, 3) := by decide +kernel
theorem dL_law_648 : decode cL_law 648 = .ok (.istore 5, 2) := by decide +kernel
theorem dL_law_650 : decode cL_law 650 = .ok (.aload_n 2, 1) := by decide +kernel
theorem dL_law_651 : decode cL_law 651 = .ok (.aload_n 0, 1) := by decide +kernel
theorem dL_law_652 : decode cL_law 652 = .ok (.iload 4, 2) := by decide +kernel
theorem dL_law_654 : decode cL_law 654 = .ok (.iconst 1, 1) := by decide +kernel
theorem dL_law_655 : decode cL_law 655 = .ok (.iadd, 1) := by decide +kernel
theorem dL_law_656 : decode cL_law 656 = .ok (.iaload, 1) := by decide +kernel
theorem dL_law_657 : decode cL_law 657 = .ok (.aload_n 0, 1) := by decide +kernel
theorem dL_law_658 : decode cL_law 658 = .ok (.iload 4, 2) := by decide +kernel
theorem dL_law_660 : decode cL_law 660 = .ok (.iconst 2, 1) := by decide +kernel
theorem dL_law_661 : decode cL_law 661 = .ok (.iadd, 1) := by decide +kernel
theorem dL_law_662 : decode cL_law 662 = .ok (.iaload, 1) := by decide +kernel
theorem dL_law_663 : decode cL_law 663 = .ok (.invokevirtual 108, 3) := by decide +kernel
theorem dL_law_666 : decode cL_law 666 = .ok (.istore 6, 2) := by decide +kernel
theorem dL_law_668 : decode cL_law 668 = .ok (.aload_n 2, 1) := by decide +kernel
theorem dL_law_669 : decode cL_law 669 = .ok (.invokevirtual 83, 3) := by decide +kernel
theorem dL_law_672 : decode cL_law 672 = .ok (.iload 5, 2) := by decide +kernel
theorem dL_law_674 : decode cL_law 674 = .ok (.if_icmp .eq 5, 3) := by decide +kernel
theorem dL_law_677 : decode cL_law 677 = .ok (.iconst 0, 1) := by decide +kernel
theorem dL_law_678 : decode cL_law 678 = .ok (.ireturn, 1) := by decide +kernel
theorem dL_law_679 : decode cL_law 679 = .ok (.iload 5, 2) := by decide +kernel
theorem dL_law_681 : decode cL_law 681 = .ok (.ifCond .ne 15, 3) := by decide +kernel
theorem dL_law_684 : decode cL_law 684 = .ok (.aload_n 3, 1) := by decide +kernel
theorem dL_law_685 : decode cL_law 685 = .ok (.iconst 0, 1) := by decide +kernel
theorem dL_law_686 : decode cL_law 686 = .ok (.laload, 1) := by decide +kernel
theorem dL_law_687 : decode cL_law 687 = .ok (.iload 6, 2) := by decide +kernel
theorem dL_law_689 : decode cL_law 689 = .ok (.i2l, 1) := by decide +kernel
theorem dL_law_690 : decode cL_law 690 = .ok (.lcmp, 1) := by decide +kernel
theorem dL_law_691 : decode cL_law 691 = .ok (.ifCond .eq 5, 3) := by decide +kernel
theorem dL_law_694 : decode cL_law 694 = .ok (.iconst 0, 1) := by decide +kernel
theorem dL_law_695 : decode cL_law 695 = .ok (.ireturn, 1) := by decide +kernel
theorem dL_law_696 : decode cL_law 696 = .ok (.goto 893, 3) := by decide +kernel
theorem dL_law_699 : decode cL_law 699 = .ok (.aload_n 1, 1) := by decide +kernel
theorem dL_law_700 : decode cL_law 700 = .ok (.aload_n 0, 1) := by decide +kernel
theorem dL_law_701 : decode cL_law 701 = .ok (.iload 4, 2) := by decide +kernel
theorem dL_law_703 : decode cL_law 703 = .ok (.iconst 1, 1) := by decide +kernel
theorem dL_law_704 : decode cL_law 704 = .ok (.iadd, 1) := by decide +kernel
theorem dL_law_705 : decode cL_law 705 = .ok (.iaload, 1) := by decide +kernel
theorem dL_law_706 : decode cL_law 706 = .ok (.aload_n 0, 1) := by decide +kernel
theorem dL_law_707 : decode cL_law 707 = .ok (.iload 4, 2) := by decide +kernel
theorem dL_law_709 : decode cL_law 709 = .ok (.iconst 2, 1) := by decide +kernel
theorem dL_law_710 : decode cL_law 710 = .ok (.iadd, 1) := by decide +kernel
theorem dL_law_711 : decode cL_law 711 = .ok (.iaload, 1) := by decide +kernel
theorem dL_law_712 : decode cL_law 712 = .ok (.aload_n 3, 1) := by decide +kernel
theorem dL_law_713 : decode cL_law 713 = .ok (.invokestatic 109, 3) := by decide +kernel
theorem dL_law_716 : decode cL_law 716 = .ok (.istore 5, 2) := by decide +kernel
theorem dL_law_718 : decode cL_law 718 = .ok (.aload_n 2, 1) := by decide +kernel
theorem dL_law_719 : decode cL_law 719 = .ok (.aload_n 0, 1) := by decide +kernel
theorem dL_law_720 : decode cL_law 720 = .ok (.iload 4, 2) := by decide +kernel
theorem dL_law_722 : decode cL_law 722 = .ok (.iconst 1, 1) := by decide +kernel
theorem dL_law_723 : decode cL_law 723 = .ok (.iadd, 1) := by decide +kernel
theorem dL_law_724 : decode cL_law 724 = .ok (.iaload, 1) := by decide +kernel
theorem dL_law_725 : decode cL_law 725 = .ok (.aload_n 0, 1) := by decide +kernel
theorem dL_law_726 : decode cL_law 726 = .ok (.iload 4, 2) := by decide +kernel
theorem dL_law_728 : decode cL_law 728 = .ok (.iconst 2, 1) := by decide +kernel
theorem dL_law_729 : decode cL_law 729 = .ok (.iadd, 1) := by decide +kernel
theorem dL_law_730 : decode cL_law 730 = .ok (.iaload, 1) := by decide +kernel
theorem dL_law_731 : decode cL_law 731 = .ok (.invokevirtual 111, 3) := by decide +kernel
theorem dL_law_734 : decode cL_law 734 = .ok (.istore 6, 2) := by decide +kernel
theorem dL_law_736 : decode cL_law 736 = .ok (.aload_n 2, 1) := by decide +kernel
theorem dL_law_737 : decode cL_law 737 = .ok (.invokevirtual 83, 3) := by decide +kernel
theorem dL_law_740 : decode cL_law 740 = .ok (.iload 5, 2) := by decide +kernel
theorem dL_law_742 : decode cL_law 742 = .ok (.if_icmp .eq 5, 3) := by decide +kernel
theorem dL_law_745 : decode cL_law 745 = .ok (.iconst 0, 1) := by decide +kernel
theorem dL_law_746 : decode cL_law 746 = .ok (.ireturn, 1) := by decide +kernel
theorem dL_law_747 : decode cL_law 747 = .ok (.iload 5, 2) := by decide +kernel
theorem dL_law_749 : decode cL_law 749 = .ok (.ifCond .ne 15, 3) := by decide +kernel
theorem dL_law_752 : decode cL_law 752 = .ok (.aload_n 3, 1) := by decide +kernel
theorem dL_law_753 : decode cL_law 753 = .ok (.iconst 0, 1) := by decide +kernel
theorem dL_law_754 : decode cL_law 754 = .ok (.laload, 1) := by decide +kernel
theorem dL_law_755 : decode cL_law 755 = .ok (.iload 6, 2) := by decide +kernel
theorem dL_law_757 : decode cL_law 757 = .ok (.i2l, 1) := by decide +kernel
theorem dL_law_758 : decode cL_law 758 = .ok (.lcmp, 1) := by decide +kernel
theorem dL_law_759 : decode cL_law 759 = .ok (.ifCond .eq 5, 3) := by decide +kernel
theorem dL_law_762 : decode cL_law 762 = .ok (.iconst 0, 1) := by decide +kernel
theorem dL_law_763 : decode cL_law 763 = .ok (.ireturn, 1) := by decide +kernel
theorem dL_law_764 : decode cL_law 764 = .ok (.goto 825, 3) := by decide +kernel
theorem dL_law_767 : decode cL_law 767 = .ok (.aload_n 1, 1) := by decide +kernel
theorem dL_law_768 : decode cL_law 768 = .ok (.aload_n 0, 1) := by decide +kernel
theorem dL_law_769 : decode cL_law 769 = .ok (.iload 4, 2) := by decide +kernel
theorem dL_law_771 : decode cL_law 771 = .ok (.iconst 1, 1) := by decide +kernel
theorem dL_law_772 : decode cL_law 772 = .ok (.iadd, 1) := by decide +kernel
theorem dL_law_773 : decode cL_law 773 = .ok (.iaload, 1) := by decide +kernel
theorem dL_law_774 : decode cL_law 774 = .ok (.aload_n 3, 1) := by decide +kernel
theorem dL_law_775 : decode cL_law 775 = .ok (.invokestatic 112, 3) := by decide +kernel
theorem dL_law_778 : decode cL_law 778 = .ok (.istore 5, 2) := by decide +kernel
theorem dL_law_780 : decode cL_law 780 = .ok (.aload_n 2, 1) := by decide +kernel
theorem dL_law_781 : decode cL_law 781 = .ok (.aload_n 0, 1) := by decide +kernel
theorem dL_law_782 : decode cL_law 782 = .ok (.iload 4, 2) := by decide +kernel
theorem dL_law_784 : decode cL_law 784 = .ok (.iconst 1, 1) := by decide +kernel
theorem dL_law_785 : decode cL_law 785 = .ok (.iadd, 1) := by decide +kernel
theorem dL_law_786 : decode cL_law 786 = .ok (.iaload, 1) := by decide +kernel
theorem dL_law_787 : decode cL_law 787 = .ok (.invokevirtual 114, 3) := by decide +kernel
theorem dL_law_790 : decode cL_law 790 = .ok (.istore 6, 2) := by decide +kernel
theorem dL_law_792 : decode cL_law 792 = .ok (.aload_n 2, 1) := by decide +kernel
theorem dL_law_793 : decode cL_law 793 = .ok (.invokevirtual 83, 3) := by decide +kernel
theorem dL_law_796 : decode cL_law 796 = .ok (.iload 5, 2) := by decide +kernel
theorem dL_law_798 : decode cL_law 798 = .ok (.if_icmp .eq 5, 3) := by decide +kernel
theorem dL_law_801 : decode cL_law 801 = .ok (.iconst 0, 1) := by decide +kernel
theorem dL_law_802 : decode cL_law 802 = .ok (.ireturn, 1) := by decide +kernel
theorem dL_law_803 : decode cL_law 803 = .ok (.iload 5, 2) := by decide +kernel
theorem dL_law_805 : decode cL_law 805 = .ok (.ifCond .ne 15, 3) := by decide +kernel
theorem dL_law_808 : decode cL_law 808 = .ok (.aload_n 3, 1) := by decide +kernel
theorem dL_law_809 : decode cL_law 809 = .ok (.iconst 0, 1) := by decide +kernel
theorem dL_law_810 : decode cL_law 810 = .ok (.laload, 1) := by decide +kernel
theorem dL_law_811 : decode cL_law 811 = .ok (.iload 6, 2) := by decide +kernel
theorem dL_law_813 : decode cL_law 813 = .ok (.i2l, 1) := by decide +kernel
theorem dL_law_814 : decode cL_law 814 = .ok (.lcmp, 1) := by decide +kernel
theorem dL_law_815 : decode cL_law 815 = .ok (.ifCond .eq 5, 3) := by decide +kernel
theorem dL_law_818 : decode cL_law 818 = .ok (.iconst 0, 1) := by decide +kernel
theorem dL_law_819 : decode cL_law 819 = .ok (.ireturn, 1) := by decide +kernel
theorem dL_law_820 : decode cL_law 820 = .ok (.goto 769, 3) := by decide +kernel
theorem dL_law_823 : decode cL_law 823 = .ok (.aload_n 1, 1) := by decide +kernel
theorem dL_law_824 : decode cL_law 824 = .ok (.aload_n 0, 1) := by decide +kernel
theorem dL_law_825 : decode cL_law 825 = .ok (.iload 4, 2) := by decide +kernel
theorem dL_law_827 : decode cL_law 827 = .ok (.iconst 1, 1) := by decide +kernel
theorem dL_law_828 : decode cL_law 828 = .ok (.iadd, 1) := by decide +kernel
theorem dL_law_829 : decode cL_law 829 = .ok (.iaload, 1) := by decide +kernel
theorem dL_law_830 : decode cL_law 830 = .ok (.aload_n 0, 1) := by decide +kernel
theorem dL_law_831 : decode cL_law 831 = .ok (.iload 4, 2) := by decide +kernel
theorem dL_law_833 : decode cL_law 833 = .ok (.iconst 2, 1) := by decide +kernel
theorem dL_law_834 : decode cL_law 834 = .ok (.iadd, 1) := by decide +kernel
theorem dL_law_835 : decode cL_law 835 = .ok (.iaload, 1) := by decide +kernel
theorem dL_law_836 : decode cL_law 836 = .ok (.aload_n 0, 1) := by decide +kernel
theorem dL_law_837 : decode cL_law 837 = .ok (.iload 4, 2) := by decide +kernel
theorem dL_law_839 : decode cL_law 839 = .ok (.iconst 3, 1) := by decide +kernel
theorem dL_law_840 : decode cL_law 840 = .ok (.iadd, 1) := by decide +kernel
theorem dL_law_841 : decode cL_law 841 = .ok (.iaload, 1) := by decide +kernel
theorem dL_law_842 : decode cL_law 842 = .ok (.aload_n 3, 1) := by decide +kernel
theorem dL_law_843 : decode cL_law 843 = .ok (.invokestatic 115, 3) := by decide +kernel
theorem dL_law_846 : decode cL_law 846 = .ok (.istore 5, 2) := by decide +kernel
theorem dL_law_848 : decode cL_law 848 = .ok (.aload_n 2, 1) := by decide +kernel
theorem dL_law_849 : decode cL_law 849 = .ok (.aload_n 0, 1) := by decide +kernel
theorem dL_law_850 : decode cL_law 850 = .ok (.iload 4, 2) := by decide +kernel
theorem dL_law_852 : decode cL_law 852 = .ok (.iconst 1, 1) := by decide +kernel
theorem dL_law_853 : decode cL_law 853 = .ok (.iadd, 1) := by decide +kernel
theorem dL_law_854 : decode cL_law 854 = .ok (.iaload, 1) := by decide +kernel
theorem dL_law_855 : decode cL_law 855 = .ok (.aload_n 0, 1) := by decide +kernel
theorem dL_law_856 : decode cL_law 856 = .ok (.iload 4, 2) := by decide +kernel
theorem dL_law_858 : decode cL_law 858 = .ok (.iconst 2, 1) := by decide +kernel
theorem dL_law_859 : decode cL_law 859 = .ok (.iadd, 1) := by decide +kernel
theorem dL_law_860 : decode cL_law 860 = .ok (.iaload, 1) := by decide +kernel
theorem dL_law_861 : decode cL_law 861 = .ok (.aload_n 0, 1) := by decide +kernel
theorem dL_law_862 : decode cL_law 862 = .ok (.iload 4, 2) := by decide +kernel
theorem dL_law_864 : decode cL_law 864 = .ok (.iconst 3, 1) := by decide +kernel
theorem dL_law_865 : decode cL_law 865 = .ok (.iadd, 1) := by decide +kernel
theorem dL_law_866 : decode cL_law 866 = .ok (.iaload, 1) := by decide +kernel
theorem dL_law_867 : decode cL_law 867 = .ok (.invokevirtual 118, 3) := by decide +kernel
theorem dL_law_870 : decode cL_law 870 = .ok (.istore 6, 2) := by decide +kernel
theorem dL_law_872 : decode cL_law 872 = .ok (.aload_n 2, 1) := by decide +kernel
theorem dL_law_873 : decode cL_law 873 = .ok (.invokevirtual 83, 3) := by decide +kernel
theorem dL_law_876 : decode cL_law 876 = .ok (.iload 5, 2) := by decide +kernel
theorem dL_law_878 : decode cL_law 878 = .ok (.if_icmp .eq 5, 3) := by decide +kernel
theorem dL_law_881 : decode cL_law 881 = .ok (.iconst 0, 1) := by decide +kernel
theorem dL_law_882 : decode cL_law 882 = .ok (.ireturn, 1) := by decide +kernel
theorem dL_law_883 : decode cL_law 883 = .ok (.iload 5, 2) := by decide +kernel
theorem dL_law_885 : decode cL_law 885 = .ok (.ifCond .ne 15, 3) := by decide +kernel
theorem dL_law_888 : decode cL_law 888 = .ok (.aload_n 3, 1) := by decide +kernel
theorem dL_law_889 : decode cL_law 889 = .ok (.iconst 0, 1) := by decide +kernel
theorem dL_law_890 : decode cL_law 890 = .ok (.laload, 1) := by decide +kernel
theorem dL_law_891 : decode cL_law 891 = .ok (.iload 6, 2) := by decide +kernel
theorem dL_law_893 : decode cL_law 893 = .ok (.i2l, 1) := by decide +kernel
theorem dL_law_894 : decode cL_law 894 = .ok (.lcmp, 1) := by decide +kernel
theorem dL_law_895 : decode cL_law 895 = .ok (.ifCond .eq 5, 3) := by decide +kernel
theorem dL_law_898 : decode cL_law 898 = .ok (.iconst 0, 1) := by decide +kernel
theorem dL_law_899 : decode cL_law 899 = .ok (.ireturn, 1) := by decide +kernel
theorem dL_law_900 : decode cL_law 900 = .ok (.goto 689, 3) := by decide +kernel
theorem dL_law_903 : decode cL_law 903 = .ok (.aload_n 1, 1) := by decide +kernel
theorem dL_law_904 : decode cL_law 904 = .ok (.aload_n 0, 1) := by decide +kernel
theorem dL_law_905 : decode cL_law 905 = .ok (.iload 4, 2) := by decide +kernel
theorem dL_law_907 : decode cL_law 907 = .ok (.iconst 1, 1) := by decide +kernel
theorem dL_law_908 : decode cL_law 908 = .ok (.iadd, 1) := by decide +kernel
theorem dL_law_909 : decode cL_law 909 = .ok (.iaload, 1) := by decide +kernel
theorem dL_law_910 : decode cL_law 910 = .ok (.aload_n 0, 1) := by decide +kernel
theorem dL_law_911 : decode cL_law 911 = .ok (.iload 4, 2) := by decide +kernel
theorem dL_law_913 : decode cL_law 913 = .ok (.iconst 2, 1) := by decide +kernel
theorem dL_law_914 : decode cL_law 914 = .ok (.iadd, 1) := by decide +kernel
theorem dL_law_915 : decode cL_law 915 = .ok (.iaload, 1) := by decide +kernel
theorem dL_law_916 : decode cL_law 916 = .ok (.aload_n 3, 1) := by decide +kernel
theorem dL_law_917 : decode cL_law 917 = .ok (.invokestatic 119, 3) := by decide +kernel
theorem dL_law_920 : decode cL_law 920 = .ok (.istore 5, 2) := by decide +kernel
theorem dL_law_922 : decode cL_law 922 = .ok (.aload_n 2, 1) := by decide +kernel
theorem dL_law_923 : decode cL_law 923 = .ok (.aload_n 0, 1) := by decide +kernel
theorem dL_law_924 : decode cL_law 924 = .ok (.iload 4, 2) := by decide +kernel
theorem dL_law_926 : decode cL_law 926 = .ok (.iconst 1, 1) := by decide +kernel
theorem dL_law_927 : decode cL_law 927 = .ok (.iadd, 1) := by decide +kernel
theorem dL_law_928 : decode cL_law 928 = .ok (.iaload, 1) := by decide +kernel
theorem dL_law_929 : decode cL_law 929 = .ok (.aload_n 0, 1) := by decide +kernel
theorem dL_law_930 : decode cL_law 930 = .ok (.iload 4, 2) := by decide +kernel
theorem dL_law_932 : decode cL_law 932 = .ok (.iconst 2, 1) := by decide +kernel
theorem dL_law_933 : decode cL_law 933 = .ok (.iadd, 1) := by decide +kernel
theorem dL_law_934 : decode cL_law 934 = .ok (.iaload, 1) := by decide +kernel
theorem dL_law_935 : decode cL_law 935 = .ok (.invokevirtual 121, 3) := by decide +kernel
theorem dL_law_938 : decode cL_law 938 = .ok (.istore 6, 2) := by decide +kernel
theorem dL_law_940 : decode cL_law 940 = .ok (.aload_n 2, 1) := by decide +kernel
theorem dL_law_941 : decode cL_law 941 = .ok (.invokevirtual 83, 3) := by decide +kernel
theorem dL_law_944 : decode cL_law 944 = .ok (.iload 5, 2) := by decide +kernel
theorem dL_law_946 : decode cL_law 946 = .ok (.if_icmp .eq 5, 3) := by decide +kernel
theorem dL_law_949 : decode cL_law 949 = .ok (.iconst 0, 1) := by decide +kernel
theorem dL_law_950 : decode cL_law 950 = .ok (.ireturn, 1) := by decide +kernel
theorem dL_law_951 : decode cL_law 951 = .ok (.iload 5, 2) := by decide +kernel
theorem dL_law_953 : decode cL_law 953 = .ok (.ifCond .ne 15, 3) := by decide +kernel
theorem dL_law_956 : decode cL_law 956 = .ok (.aload_n 3, 1) := by decide +kernel
theorem dL_law_957 : decode cL_law 957 = .ok (.iconst 0, 1) := by decide +kernel
theorem dL_law_958 : decode cL_law 958 = .ok (.laload, 1) := by decide +kernel
theorem dL_law_959 : decode cL_law 959 = .ok (.iload 6, 2) := by decide +kernel
theorem dL_law_961 : decode cL_law 961 = .ok (.i2l, 1) := by decide +kernel
theorem dL_law_962 : decode cL_law 962 = .ok (.lcmp, 1) := by decide +kernel
theorem dL_law_963 : decode cL_law 963 = .ok (.ifCond .eq 5, 3) := by decide +kernel
theorem dL_law_966 : decode cL_law 966 = .ok (.iconst 0, 1) := by decide +kernel
theorem dL_law_967 : decode cL_law 967 = .ok (.ireturn, 1) := by decide +kernel
theorem dL_law_968 : decode cL_law 968 = .ok (.goto 621, 3) := by decide +kernel
theorem dL_law_971 : decode cL_law 971 = .ok (.aload_n 1, 1) := by decide +kernel
theorem dL_law_972 : decode cL_law 972 = .ok (.aload_n 0, 1) := by decide +kernel
theorem dL_law_973 : decode cL_law 973 = .ok (.iload 4, 2) := by decide +kernel
theorem dL_law_975 : decode cL_law 975 = .ok (.iconst 1, 1) := by decide +kernel
theorem dL_law_976 : decode cL_law 976 = .ok (.iadd, 1) := by decide +kernel
theorem dL_law_977 : decode cL_law 977 = .ok (.iaload, 1) := by decide +kernel
theorem dL_law_978 : decode cL_law 978 = .ok (.aload_n 3, 1) := by decide +kernel
theorem dL_law_979 : decode cL_law 979 = .ok (.invokestatic 122, 3) := by decide +kernel
theorem dL_law_982 : decode cL_law 982 = .ok (.istore 5, 2) := by decide +kernel
theorem dL_law_984 : decode cL_law 984 = .ok (.aload_n 2, 1) := by decide +kernel
theorem dL_law_985 : decode cL_law 985 = .ok (.aload_n 0, 1) := by decide +kernel
theorem dL_law_986 : decode cL_law 986 = .ok (.iload 4, 2) := by decide +kernel
theorem dL_law_988 : decode cL_law 988 = .ok (.iconst 1, 1) := by decide +kernel
theorem dL_law_989 : decode cL_law 989 = .ok (.iadd, 1) := by decide +kernel
theorem dL_law_990 : decode cL_law 990 = .ok (.iaload, 1) := by decide +kernel
theorem dL_law_991 : decode cL_law 991 = .ok (.invokevirtual 124, 3) := by decide +kernel
theorem dL_law_994 : decode cL_law 994 = .ok (.istore 6, 2) := by decide +kernel
theorem dL_law_996 : decode cL_law 996 = .ok (.aload_n 2, 1) := by decide +kernel
theorem dL_law_997 : decode cL_law 997 = .ok (.invokevirtual 83, 3) := by decide +kernel
theorem dL_law_1000 : decode cL_law 1000 = .ok (.iload 5, 2) := by decide +kernel
theorem dL_law_1002 : decode cL_law 1002 = .ok (.if_icmp .eq 5, 3) := by decide +kernel
theorem dL_law_1005 : decode cL_law 1005 = .ok (.iconst 0, 1) := by decide +kernel
theorem dL_law_1006 : decode cL_law 1006 = .ok (.ireturn, 1) := by decide +kernel
theorem dL_law_1007 : decode cL_law 1007 = .ok (.iload 5, 2) := by decide +kernel
theorem dL_law_1009 : decode cL_law 1009 = .ok (.ifCond .ne 15, 3) := by decide +kernel
theorem dL_law_1012 : decode cL_law 1012 = .ok (.aload_n 3, 1) := by decide +kernel
theorem dL_law_1013 : decode cL_law 1013 = .ok (.iconst 0, 1) := by decide +kernel
theorem dL_law_1014 : decode cL_law 1014 = .ok (.laload, 1) := by decide +kernel
theorem dL_law_1015 : decode cL_law 1015 = .ok (.iload 6, 2) := by decide +kernel
theorem dL_law_1017 : decode cL_law 1017 = .ok (.i2l, 1) := by decide +kernel
theorem dL_law_1018 : decode cL_law 1018 = .ok (.lcmp, 1) := by decide +kernel
theorem dL_law_1019 : decode cL_law 1019 = .ok (.ifCond .eq 5, 3) := by decide +kernel
theorem dL_law_1022 : decode cL_law 1022 = .ok (.iconst 0, 1) := by decide +kernel
theorem dL_law_1023 : decode cL_law 1023 = .ok (.ireturn, 1) := by decide +kernel
theorem dL_law_1024 : decode cL_law 1024 = .ok (.goto 565, 3) := by decide +kernel
theorem dL_law_1027 : decode cL_law 1027 = .ok (.aload_n 1, 1) := by decide +kernel
theorem dL_law_1028 : decode cL_law 1028 = .ok (.invokevirtual 125, 3) := by decide +kernel
theorem dL_law_1031 : decode cL_law 1031 = .ok (.aload_n 2, 1) := by decide +kernel
theorem dL_law_1032 : decode cL_law 1032 = .ok (.invokevirtual 128, 3) := by decide +kernel
theorem dL_law_1035 : decode cL_law 1035 = .ok (.if_icmp .eq 554, 3) := by decide +kernel
theorem dL_law_1038 : decode cL_law 1038 = .ok (.iconst 0, 1) := by decide +kernel
theorem dL_law_1039 : decode cL_law 1039 = .ok (.ireturn, 1) := by decide +kernel
theorem dL_law_1040 : decode cL_law 1040 = .ok (.aload_n 1, 1) := by decide +kernel
theorem dL_law_1041 : decode cL_law 1041 = .ok (.aload_n 0, 1) := by decide +kernel
theorem dL_law_1042 : decode cL_law 1042 = .ok (.iload 4, 2) := by decide +kernel
theorem dL_law_1044 : decode cL_law 1044 = .ok (.iconst 1, 1) := by decide +kernel
theorem dL_law_1045 : decode cL_law 1045 = .ok (.iadd, 1) := by decide +kernel
theorem dL_law_1046 : decode cL_law 1046 = .ok (.iaload, 1) := by decide +kernel
theorem dL_law_1047 : decode cL_law 1047 = .ok (.aload_n 0, 1) := by decide +kernel
theorem dL_law_1048 : decode cL_law 1048 = .ok (.iload 4, 2) := by decide +kernel
theorem dL_law_1050 : decode cL_law 1050 = .ok (.iconst 2, 1) := by decide +kernel
theorem dL_law_1051 : decode cL_law 1051 = .ok (.iadd, 1) := by decide +kernel
theorem dL_law_1052 : decode cL_law 1052 = .ok (.iaload, 1) := by decide +kernel
theorem dL_law_1053 : decode cL_law 1053 = .ok (.aload_n 0, 1) := by decide +kernel
theorem dL_law_1054 : decode cL_law 1054 = .ok (.iload 4, 2) := by decide +kernel
theorem dL_law_1056 : decode cL_law 1056 = .ok (.iconst 3, 1) := by decide +kernel
theorem dL_law_1057 : decode cL_law 1057 = .ok (.iadd, 1) := by decide +kernel
theorem dL_law_1058 : decode cL_law 1058 = .ok (.iaload, 1) := by decide +kernel
theorem dL_law_1059 : decode cL_law 1059 = .ok (.aload_n 0, 1) := by decide +kernel
theorem dL_law_1060 : decode cL_law 1060 = .ok (.iload 4, 2) := by decide +kernel
theorem dL_law_1062 : decode cL_law 1062 = .ok (.iconst 4, 1) := by decide +kernel
theorem dL_law_1063 : decode cL_law 1063 = .ok (.iadd, 1) := by decide +kernel
theorem dL_law_1064 : decode cL_law 1064 = .ok (.iaload, 1) := by decide +kernel
theorem dL_law_1065 : decode cL_law 1065 = .ok (.aload_n 0, 1) := by decide +kernel
theorem dL_law_1066 : decode cL_law 1066 = .ok (.iload 4, 2) := by decide +kernel
theorem dL_law_1068 : decode cL_law 1068 = .ok (.iconst 5, 1) := by decide +kernel
theorem dL_law_1069 : decode cL_law 1069 = .ok (.iadd, 1) := by decide +kernel
theorem dL_law_1070 : decode cL_law 1070 = .ok (.iaload, 1) := by decide +kernel
theorem dL_law_1071 : decode cL_law 1071 = .ok (.aload_n 0, 1) := by decide +kernel
theorem dL_law_1072 : decode cL_law 1072 = .ok (.iload 4, 2) := by decide +kernel
theorem dL_law_1074 : decode cL_law 1074 = .ok (.bipush 6, 2) := by decide +kernel
theorem dL_law_1076 : decode cL_law 1076 = .ok (.iadd, 1) := by decide +kernel
theorem dL_law_1077 : decode cL_law 1077 = .ok (.iaload, 1) := by decide +kernel
theorem dL_law_1078 : decode cL_law 1078 = .ok (.aload_n 0, 1) := by decide +kernel
theorem dL_law_1079 : decode cL_law 1079 = .ok (.iload 4, 2) := by decide +kernel
theorem dL_law_1081 : decode cL_law 1081 = .ok (.bipush 7, 2) := by decide +kernel
theorem dL_law_1083 : decode cL_law 1083 = .ok (.iadd, 1) := by decide +kernel
theorem dL_law_1084 : decode cL_law 1084 = .ok (.iaload, 1) := by decide +kernel
theorem dL_law_1085 : decode cL_law 1085 = .ok (.aload_n 3, 1) := by decide +kernel
theorem dL_law_1086 : decode cL_law 1086 = .ok (.invokestatic 129, 3) := by decide +kernel
theorem dL_law_1089 : decode cL_law 1089 = .ok (.istore 5, 2) := by decide +kernel
theorem dL_law_1091 : decode cL_law 1091 = .ok (.aload_n 2, 1) := by decide +kernel
theorem dL_law_1092 : decode cL_law 1092 = .ok (.aload_n 0, 1) := by decide +kernel
theorem dL_law_1093 : decode cL_law 1093 = .ok (.iload 4, 2) := by decide +kernel
theorem dL_law_1095 : decode cL_law 1095 = .ok (.iconst 1, 1) := by decide +kernel
theorem dL_law_1096 : decode cL_law 1096 = .ok (.iadd, 1) := by decide +kernel
theorem dL_law_1097 : decode cL_law 1097 = .ok (.iaload, 1) := by decide +kernel
theorem dL_law_1098 : decode cL_law 1098 = .ok (.aload_n 0, 1) := by decide +kernel
theorem dL_law_1099 : decode cL_law 1099 = .ok (.iload 4, 2) := by decide +kernel
theorem dL_law_1101 : decode cL_law 1101 = .ok (.iconst 2, 1) := by decide +kernel
theorem dL_law_1102 : decode cL_law 1102 = .ok (.iadd, 1) := by decide +kernel
theorem dL_law_1103 : decode cL_law 1103 = .ok (.iaload, 1) := by decide +kernel
theorem dL_law_1104 : decode cL_law 1104 = .ok (.aload_n 0, 1) := by decide +kernel
theorem dL_law_1105 : decode cL_law 1105 = .ok (.iload 4, 2) := by decide +kernel
theorem dL_law_1107 : decode cL_law 1107 = .ok (.iconst 3, 1) := by decide +kernel
theorem dL_law_1108 : decode cL_law 1108 = .ok (.iadd, 1) := by decide +kernel
theorem dL_law_1109 : decode cL_law 1109 = .ok (.iaload, 1) := by decide +kernel
theorem dL_law_1110 : decode cL_law 1110 = .ok (.aload_n 0, 1) := by decide +kernel
theorem dL_law_1111 : decode cL_law 1111 = .ok (.iload 4, 2) := by decide +kernel
theorem dL_law_1113 : decode cL_law 1113 = .ok (.iconst 4, 1) := by decide +kernel
theorem dL_law_1114 : decode cL_law 1114 = .ok (.iadd, 1) := by decide +kernel
theorem dL_law_1115 : decode cL_law 1115 = .ok (.iaload, 1) := by decide +kernel
theorem dL_law_1116 : decode cL_law 1116 = .ok (.aload_n 0, 1) := by decide +kernel
theorem dL_law_1117 : decode cL_law 1117 = .ok (.iload 4, 2) := by decide +kernel
theorem dL_law_1119 : decode cL_law 1119 = .ok (.iconst 5, 1) := by decide +kernel
theorem dL_law_1120 : decode cL_law 1120 = .ok (.iadd, 1) := by decide +kernel
theorem dL_law_1121 : decode cL_law 1121 = .ok (.iaload, 1) := by decide +kernel
theorem dL_law_1122 : decode cL_law 1122 = .ok (.aload_n 0, 1) := by decide +kernel
theorem dL_law_1123 : decode cL_law 1123 = .ok (.iload 4, 2) := by decide +kernel
theorem dL_law_1125 : decode cL_law 1125 = .ok (.bipush 6, 2) := by decide +kernel
theorem dL_law_1127 : decode cL_law 1127 = .ok (.iadd, 1) := by decide +kernel
theorem dL_law_1128 : decode cL_law 1128 = .ok (.iaload, 1) := by decide +kernel
theorem dL_law_1129 : decode cL_law 1129 = .ok (.aload_n 0, 1) := by decide +kernel
theorem dL_law_1130 : decode cL_law 1130 = .ok (.iload 4, 2) := by decide +kernel
theorem dL_law_1132 : decode cL_law 1132 = .ok (.bipush 7, 2) := by decide +kernel
theorem dL_law_1134 : decode cL_law 1134 = .ok (.iadd, 1) := by decide +kernel
theorem dL_law_1135 : decode cL_law 1135 = .ok (.iaload, 1) := by decide +kernel
theorem dL_law_1136 : decode cL_law 1136 = .ok (.invokevirtual 131, 3) := by decide +kernel
theorem dL_law_1139 : decode cL_law 1139 = .ok (.istore 6, 2) := by decide +kernel
theorem dL_law_1141 : decode cL_law 1141 = .ok (.aload_n 2, 1) := by decide +kernel
theorem dL_law_1142 : decode cL_law 1142 = .ok (.invokevirtual 83, 3) := by decide +kernel
theorem dL_law_1145 : decode cL_law 1145 = .ok (.iload 5, 2) := by decide +kernel
theorem dL_law_1147 : decode cL_law 1147 = .ok (.if_icmp .eq 5, 3) := by decide +kernel
theorem dL_law_1150 : decode cL_law 1150 = .ok (.iconst 0, 1) := by decide +kernel
theorem dL_law_1151 : decode cL_law 1151 = .ok (.ireturn, 1) := by decide +kernel
theorem dL_law_1152 : decode cL_law 1152 = .ok (.iload 5, 2) := by decide +kernel
theorem dL_law_1154 : decode cL_law 1154 = .ok (.ifCond .ne 15, 3) := by decide +kernel
theorem dL_law_1157 : decode cL_law 1157 = .ok (.aload_n 3, 1) := by decide +kernel
theorem dL_law_1158 : decode cL_law 1158 = .ok (.iconst 0, 1) := by decide +kernel
theorem dL_law_1159 : decode cL_law 1159 = .ok (.laload, 1) := by decide +kernel
theorem dL_law_1160 : decode cL_law 1160 = .ok (.iload 6, 2) := by decide +kernel
theorem dL_law_1162 : decode cL_law 1162 = .ok (.i2l, 1) := by decide +kernel
theorem dL_law_1163 : decode cL_law 1163 = .ok (.lcmp, 1) := by decide +kernel
theorem dL_law_1164 : decode cL_law 1164 = .ok (.ifCond .eq 5, 3) := by decide +kernel
theorem dL_law_1167 : decode cL_law 1167 = .ok (.iconst 0, 1) := by decide +kernel
theorem dL_law_1168 : decode cL_law 1168 = .ok (.ireturn, 1) := by decide +kernel
theorem dL_law_1169 : decode cL_law 1169 = .ok (.goto 420, 3) := by decide +kernel
theorem dL_law_1172 : decode cL_law 1172 = .ok (.aload_n 1, 1) := by decide +kernel
theorem dL_law_1173 : decode cL_law 1173 = .ok (.aload_n 0, 1) := by decide +kernel
theorem dL_law_1174 : decode cL_law 1174 = .ok (.iload 4, 2) := by decide +kernel
theorem dL_law_1176 : decode cL_law 1176 = .ok (.iconst 1, 1) := by decide +kernel
theorem dL_law_1177 : decode cL_law 1177 = .ok (.iadd, 1) := by decide +kernel
theorem dL_law_1178 : decode cL_law 1178 = .ok (.iaload, 1) := by decide +kernel
theorem dL_law_1179 : decode cL_law 1179 = .ok (.aload_n 0, 1) := by decide +kernel
theorem dL_law_1180 : decode cL_law 1180 = .ok (.iload 4, 2) := by decide +kernel
theorem dL_law_1182 : decode cL_law 1182 = .ok (.iconst 2, 1) := by decide +kernel
theorem dL_law_1183 : decode cL_law 1183 = .ok (.iadd, 1) := by decide +kernel
theorem dL_law_1184 : decode cL_law 1184 = .ok (.iaload, 1) := by decide +kernel
theorem dL_law_1185 : decode cL_law 1185 = .ok (.aload_n 3, 1) := by decide +kernel
theorem dL_law_1186 : decode cL_law 1186 = .ok (.invokestatic 132, 3) := by decide +kernel
theorem dL_law_1189 : decode cL_law 1189 = .ok (.istore 5, 2) := by decide +kernel
theorem dL_law_1191 : decode cL_law 1191 = .ok (.aload_n 2, 1) := by decide +kernel
theorem dL_law_1192 : decode cL_law 1192 = .ok (.aload_n 0, 1) := by decide +kernel
theorem dL_law_1193 : decode cL_law 1193 = .ok (.iload 4, 2) := by decide +kernel
theorem dL_law_1195 : decode cL_law 1195 = .ok (.iconst 1, 1) := by decide +kernel
theorem dL_law_1196 : decode cL_law 1196 = .ok (.iadd, 1) := by decide +kernel
theorem dL_law_1197 : decode cL_law 1197 = .ok (.iaload, 1) := by decide +kernel
theorem dL_law_1198 : decode cL_law 1198 = .ok (.aload_n 0, 1) := by decide +kernel
theorem dL_law_1199 : decode cL_law 1199 = .ok (.iload 4, 2) := by decide +kernel
theorem dL_law_1201 : decode cL_law 1201 = .ok (.iconst 2, 1) := by decide +kernel
theorem dL_law_1202 : decode cL_law 1202 = .ok (.iadd, 1) := by decide +kernel
theorem dL_law_1203 : decode cL_law 1203 = .ok (.iaload, 1) := by decide +kernel
theorem dL_law_1204 : decode cL_law 1204 = .ok (.invokevirtual 134, 3) := by decide +kernel
theorem dL_law_1207 : decode cL_law 1207 = .ok (.istore 6, 2) := by decide +kernel
theorem dL_law_1209 : decode cL_law 1209 = .ok (.aload_n 2, 1) := by decide +kernel
theorem dL_law_1210 : decode cL_law 1210 = .ok (.invokevirtual 83, 3) := by decide +kernel
theorem dL_law_1213 : decode cL_law 1213 = .ok (.iload 5, 2) := by decide +kernel
theorem dL_law_1215 : decode cL_law 1215 = .ok (.if_icmp .eq 5, 3) := by decide +kernel
theorem dL_law_1218 : decode cL_law 1218 = .ok (.iconst 0, 1) := by decide +kernel
theorem dL_law_1219 : decode cL_law 1219 = .ok (.ireturn, 1) := by decide +kernel
theorem dL_law_1220 : decode cL_law 1220 = .ok (.iload 5, 2) := by decide +kernel
theorem dL_law_1222 : decode cL_law 1222 = .ok (.ifCond .ne 15, 3) := by decide +kernel
theorem dL_law_1225 : decode cL_law 1225 = .ok (.aload_n 3, 1) := by decide +kernel
theorem dL_law_1226 : decode cL_law 1226 = .ok (.iconst 0, 1) := by decide +kernel
theorem dL_law_1227 : decode cL_law 1227 = .ok (.laload, 1) := by decide +kernel
theorem dL_law_1228 : decode cL_law 1228 = .ok (.iload 6, 2) := by decide +kernel
theorem dL_law_1230 : decode cL_law 1230 = .ok (.i2l, 1) := by decide +kernel
theorem dL_law_1231 : decode cL_law 1231 = .ok (.lcmp, 1) := by decide +kernel
theorem dL_law_1232 : decode cL_law 1232 = .ok (.ifCond .eq 5, 3) := by decide +kernel
theorem dL_law_1235 : decode cL_law 1235 = .ok (.iconst 0, 1) := by decide +kernel
theorem dL_law_1236 : decode cL_law 1236 = .ok (.ireturn, 1) := by decide +kernel
theorem dL_law_1237 : decode cL_law 1237 = .ok (.goto 352, 3) := by decide +kernel
theorem dL_law_1240 : decode cL_law 1240 = .ok (.aload_n 1, 1) := by decide +kernel
theorem dL_law_1241 : decode cL_law 1241 = .ok (.aload_n 0, 1) := by decide +kernel
theorem dL_law_1242 : decode cL_law 1242 = .ok (.iload 4, 2) := by decide +kernel
theorem dL_law_1244 : decode cL_law 1244 = .ok (.iconst 1, 1) := by decide +kernel
theorem dL_law_1245 : decode cL_law 1245 = .ok (.iadd, 1) := by decide +kernel
theorem dL_law_1246 : decode cL_law 1246 = .ok (.iaload, 1) := by decide +kernel
theorem dL_law_1247 : decode cL_law 1247 = .ok (.aload_n 0, 1) := by decide +kernel
theorem dL_law_1248 : decode cL_law 1248 = .ok (.iload 4, 2) := by decide +kernel
theorem dL_law_1250 : decode cL_law 1250 = .ok (.iconst 2, 1) := by decide +kernel
theorem dL_law_1251 : decode cL_law 1251 = .ok (.iadd, 1) := by decide +kernel
theorem dL_law_1252 : decode cL_law 1252 = .ok (.iaload, 1) := by decide +kernel
theorem dL_law_1253 : decode cL_law 1253 = .ok (.aload_n 0, 1) := by decide +kernel
theorem dL_law_1254 : decode cL_law 1254 = .ok (.iload 4, 2) := by decide +kernel
theorem dL_law_1256 : decode cL_law 1256 = .ok (.iconst 3, 1) := by decide +kernel
theorem dL_law_1257 : decode cL_law 1257 = .ok (.iadd, 1) := by decide +kernel
theorem dL_law_1258 : decode cL_law 1258 = .ok (.iaload, 1) := by decide +kernel
theorem dL_law_1259 : decode cL_law 1259 = .ok (.aload_n 0, 1) := by decide +kernel
theorem dL_law_1260 : decode cL_law 1260 = .ok (.iload 4, 2) := by decide +kernel
theorem dL_law_1262 : decode cL_law 1262 = .ok (.iconst 4, 1) := by decide +kernel
theorem dL_law_1263 : decode cL_law 1263 = .ok (.iadd, 1) := by decide +kernel
theorem dL_law_1264 : decode cL_law 1264 = .ok (.iaload, 1) := by decide +kernel
theorem dL_law_1265 : decode cL_law 1265 = .ok (.aload_n 0, 1) := by decide +kernel
theorem dL_law_1266 : decode cL_law 1266 = .ok (.iload 4, 2) := by decide +kernel
theorem dL_law_1268 : decode cL_law 1268 = .ok (.iconst 5, 1) := by decide +kernel
theorem dL_law_1269 : decode cL_law 1269 = .ok (.iadd, 1) := by decide +kernel
theorem dL_law_1270 : decode cL_law 1270 = .ok (.iaload, 1) := by decide +kernel
theorem dL_law_1271 : decode cL_law 1271 = .ok (.aload_n 0, 1) := by decide +kernel
theorem dL_law_1272 : decode cL_law 1272 = .ok (.iload 4, 2) := by decide +kernel
theorem dL_law_1274 : decode cL_law 1274 = .ok (.bipush 6, 2) := by decide +kernel
theorem dL_law_1276 : decode cL_law 1276 = .ok (.iadd, 1) := by decide +kernel
theorem dL_law_1277 : decode cL_law 1277 = .ok (.iaload, 1) := by decide +kernel
theorem dL_law_1278 : decode cL_law 1278 = .ok (.aload_n 0, 1) := by decide +kernel
theorem dL_law_1279 : decode cL_law 1279 = .ok (.iload 4, 2) := by decide +kernel
theorem dL_law_1281 : decode cL_law 1281 = .ok (.bipush 7, 2) := by decide +kernel
theorem dL_law_1283 : decode cL_law 1283 = .ok (.iadd, 1) := by decide +kernel
theorem dL_law_1284 : decode cL_law 1284 = .ok (.iaload, 1) := by decide +kernel
theorem dL_law_1285 : decode cL_law 1285 = .ok (.aload_n 0, 1) := by decide +kernel
theorem dL_law_1286 : decode cL_law 1286 = .ok (.iload 4, 2) := by decide +kernel
theorem dL_law_1288 : decode cL_law 1288 = .ok (.bipush 8, 2) := by decide +kernel
theorem dL_law_1290 : decode cL_law 1290 = .ok (.iadd, 1) := by decide +kernel
theorem dL_law_1291 : decode cL_law 1291 = .ok (.iaload, 1) := by decide +kernel
theorem dL_law_1292 : decode cL_law 1292 = .ok (.aload_n 3, 1) := by decide +kernel
theorem dL_law_1293 : decode cL_law 1293 = .ok (.invokestatic 135, 3) := by decide +kernel
theorem dL_law_1296 : decode cL_law 1296 = .ok (.istore 5, 2) := by decide +kernel
theorem dL_law_1298 : decode cL_law 1298 = .ok (.aload_n 2, 1) := by decide +kernel
theorem dL_law_1299 : decode cL_law 1299 = .ok (.aload_n 0, 1) := by decide +kernel
theorem dL_law_1300 : decode cL_law 1300 = .ok (.iload 4, 2) := by decide +kernel
theorem dL_law_1302 : decode cL_law 1302 = .ok (.iconst 1, 1) := by decide +kernel
theorem dL_law_1303 : decode cL_law 1303 = .ok (.iadd, 1) := by decide +kernel
theorem dL_law_1304 : decode cL_law 1304 = .ok (.iaload, 1) := by decide +kernel
theorem dL_law_1305 : decode cL_law 1305 = .ok (.aload_n 0, 1) := by decide +kernel
theorem dL_law_1306 : decode cL_law 1306 = .ok (.iload 4, 2) := by decide +kernel
theorem dL_law_1308 : decode cL_law 1308 = .ok (.iconst 2, 1) := by decide +kernel
theorem dL_law_1309 : decode cL_law 1309 = .ok (.iadd, 1) := by decide +kernel
theorem dL_law_1310 : decode cL_law 1310 = .ok (.iaload, 1) := by decide +kernel
theorem dL_law_1311 : decode cL_law 1311 = .ok (.aload_n 0, 1) := by decide +kernel
theorem dL_law_1312 : decode cL_law 1312 = .ok (.iload 4, 2) := by decide +kernel
theorem dL_law_1314 : decode cL_law 1314 = .ok (.iconst 3, 1) := by decide +kernel
theorem dL_law_1315 : decode cL_law 1315 = .ok (.iadd, 1) := by decide +kernel
theorem dL_law_1316 : decode cL_law 1316 = .ok (.iaload, 1) := by decide +kernel
theorem dL_law_1317 : decode cL_law 1317 = .ok (.aload_n 0, 1) := by decide +kernel
theorem dL_law_1318 : decode cL_law 1318 = .ok (.iload 4, 2) := by decide +kernel
theorem dL_law_1320 : decode cL_law 1320 = .ok (.iconst 4, 1) := by decide +kernel
theorem dL_law_1321 : decode cL_law 1321 = .ok (.iadd, 1) := by decide +kernel
theorem dL_law_1322 : decode cL_law 1322 = .ok (.iaload, 1) := by decide +kernel
theorem dL_law_1323 : decode cL_law 1323 = .ok (.aload_n 0, 1) := by decide +kernel
theorem dL_law_1324 : decode cL_law 1324 = .ok (.iload 4, 2) := by decide +kernel
theorem dL_law_1326 : decode cL_law 1326 = .ok (.iconst 5, 1) := by decide +kernel
theorem dL_law_1327 : decode cL_law 1327 = .ok (.iadd, 1) := by decide +kernel
theorem dL_law_1328 : decode cL_law 1328 = .ok (.iaload, 1) := by decide +kernel
theorem dL_law_1329 : decode cL_law 1329 = .ok (.aload_n 0, 1) := by decide +kernel
theorem dL_law_1330 : decode cL_law 1330 = .ok (.iload 4, 2) := by decide +kernel
theorem dL_law_1332 : decode cL_law 1332 = .ok (.bipush 6, 2) := by decide +kernel
theorem dL_law_1334 : decode cL_law 1334 = .ok (.iadd, 1) := by decide +kernel
theorem dL_law_1335 : decode cL_law 1335 = .ok (.iaload, 1) := by decide +kernel
theorem dL_law_1336 : decode cL_law 1336 = .ok (.aload_n 0, 1) := by decide +kernel
theorem dL_law_1337 : decode cL_law 1337 = .ok (.iload 4, 2) := by decide +kernel
theorem dL_law_1339 : decode cL_law 1339 = .ok (.bipush 7, 2) := by decide +kernel
theorem dL_law_1341 : decode cL_law 1341 = .ok (.iadd, 1) := by decide +kernel
theorem dL_law_1342 : decode cL_law 1342 = .ok (.iaload, 1) := by decide +kernel
theorem dL_law_1343 : decode cL_law 1343 = .ok (.aload_n 0, 1) := by decide +kernel
theorem dL_law_1344 : decode cL_law 1344 = .ok (.iload 4, 2) := by decide +kernel
theorem dL_law_1346 : decode cL_law 1346 = .ok (.bipush 8, 2) := by decide +kernel
theorem dL_law_1348 : decode cL_law 1348 = .ok (.iadd, 1) := by decide +kernel
theorem dL_law_1349 : decode cL_law 1349 = .ok (.iaload, 1) := by decide +kernel
theorem dL_law_1350 : decode cL_law 1350 = .ok (.invokevirtual 138, 3) := by decide +kernel
theorem dL_law_1353 : decode cL_law 1353 = .ok (.istore 6, 2) := by decide +kernel
theorem dL_law_1355 : decode cL_law 1355 = .ok (.aload_n 2, 1) := by decide +kernel
theorem dL_law_1356 : decode cL_law 1356 = .ok (.invokevirtual 83, 3) := by decide +kernel
theorem dL_law_1359 : decode cL_law 1359 = .ok (.iload 5, 2) := by decide +kernel
theorem dL_law_1361 : decode cL_law 1361 = .ok (.if_icmp .eq 5, 3) := by decide +kernel
theorem dL_law_1364 : decode cL_law 1364 = .ok (.iconst 0, 1) := by decide +kernel
theorem dL_law_1365 : decode cL_law 1365 = .ok (.ireturn, 1) := by decide +kernel
theorem dL_law_1366 : decode cL_law 1366 = .ok (.iload 5, 2) := by decide +kernel
theorem dL_law_1368 : decode cL_law 1368 = .ok (.ifCond .ne 15, 3) := by decide +kernel
theorem dL_law_1371 : decode cL_law 1371 = .ok (.aload_n 3, 1) := by decide +kernel
theorem dL_law_1372 : decode cL_law 1372 = .ok (.iconst 0, 1) := by decide +kernel
theorem dL_law_1373 : decode cL_law 1373 = .ok (.laload, 1) := by decide +kernel
theorem dL_law_1374 : decode cL_law 1374 = .ok (.iload 6, 2) := by decide +kernel
theorem dL_law_1376 : decode cL_law 1376 = .ok (.i2l, 1) := by decide +kernel
theorem dL_law_1377 : decode cL_law 1377 = .ok (.lcmp, 1) := by decide +kernel
theorem dL_law_1378 : decode cL_law 1378 = .ok (.ifCond .eq 5, 3) := by decide +kernel
theorem dL_law_1381 : decode cL_law 1381 = .ok (.iconst 0, 1) := by decide +kernel
theorem dL_law_1382 : decode cL_law 1382 = .ok (.ireturn, 1) := by decide +kernel
theorem dL_law_1383 : decode cL_law 1383 = .ok (.goto 206, 3) := by decide +kernel
theorem dL_law_1386 : decode cL_law 1386 = .ok (.aload_n 1, 1) := by decide +kernel
theorem dL_law_1387 : decode cL_law 1387 = .ok (.aload_n 0, 1) := by decide +kernel
theorem dL_law_1388 : decode cL_law 1388 = .ok (.iload 4, 2) := by decide +kernel
theorem dL_law_1390 : decode cL_law 1390 = .ok (.iconst 1, 1) := by decide +kernel
theorem dL_law_1391 : decode cL_law 1391 = .ok (.iadd, 1) := by decide +kernel
theorem dL_law_1392 : decode cL_law 1392 = .ok (.iaload, 1) := by decide +kernel
theorem dL_law_1393 : decode cL_law 1393 = .ok (.aload_n 0, 1) := by decide +kernel
theorem dL_law_1394 : decode cL_law 1394 = .ok (.iload 4, 2) := by decide +kernel
theorem dL_law_1396 : decode cL_law 1396 = .ok (.iconst 2, 1) := by decide +kernel
theorem dL_law_1397 : decode cL_law 1397 = .ok (.iadd, 1) := by decide +kernel
theorem dL_law_1398 : decode cL_law 1398 = .ok (.iaload, 1) := by decide +kernel
theorem dL_law_1399 : decode cL_law 1399 = .ok (.aload_n 3, 1) := by decide +kernel
theorem dL_law_1400 : decode cL_law 1400 = .ok (.invokestatic 139, 3) := by decide +kernel
theorem dL_law_1403 : decode cL_law 1403 = .ok (.istore 5, 2) := by decide +kernel
theorem dL_law_1405 : decode cL_law 1405 = .ok (.aload_n 2, 1) := by decide +kernel
theorem dL_law_1406 : decode cL_law 1406 = .ok (.aload_n 0, 1) := by decide +kernel
theorem dL_law_1407 : decode cL_law 1407 = .ok (.iload 4, 2) := by decide +kernel
theorem dL_law_1409 : decode cL_law 1409 = .ok (.iconst 1, 1) := by decide +kernel
theorem dL_law_1410 : decode cL_law 1410 = .ok (.iadd, 1) := by decide +kernel
theorem dL_law_1411 : decode cL_law 1411 = .ok (.iaload, 1) := by decide +kernel
theorem dL_law_1412 : decode cL_law 1412 = .ok (.aload_n 0, 1) := by decide +kernel
theorem dL_law_1413 : decode cL_law 1413 = .ok (.iload 4, 2) := by decide +kernel
theorem dL_law_1415 : decode cL_law 1415 = .ok (.iconst 2, 1) := by decide +kernel
theorem dL_law_1416 : decode cL_law 1416 = .ok (.iadd, 1) := by decide +kernel
theorem dL_law_1417 : decode cL_law 1417 = .ok (.iaload, 1) := by decide +kernel
theorem dL_law_1418 : decode cL_law 1418 = .ok (.invokevirtual 141, 3) := by decide +kernel
theorem dL_law_1421 : decode cL_law 1421 = .ok (.istore 6, 2) := by decide +kernel
theorem dL_law_1423 : decode cL_law 1423 = .ok (.aload_n 2, 1) := by decide +kernel
theorem dL_law_1424 : decode cL_law 1424 = .ok (.invokevirtual 83, 3) := by decide +kernel
theorem dL_law_1427 : decode cL_law 1427 = .ok (.iload 5, 2) := by decide +kernel
theorem dL_law_1429 : decode cL_law 1429 = .ok (.if_icmp .eq 5, 3) := by decide +kernel
theorem dL_law_1432 : decode cL_law 1432 = .ok (.iconst 0, 1) := by decide +kernel
theorem dL_law_1433 : decode cL_law 1433 = .ok (.ireturn, 1) := by decide +kernel
theorem dL_law_1434 : decode cL_law 1434 = .ok (.iload 5, 2) := by decide +kernel
theorem dL_law_1436 : decode cL_law 1436 = .ok (.ifCond .ne 15, 3) := by decide +kernel
theorem dL_law_1439 : decode cL_law 1439 = .ok (.aload_n 3, 1) := by decide +kernel
theorem dL_law_1440 : decode cL_law 1440 = .ok (.iconst 0, 1) := by decide +kernel
theorem dL_law_1441 : decode cL_law 1441 = .ok (.laload, 1) := by decide +kernel
theorem dL_law_1442 : decode cL_law 1442 = .ok (.iload 6, 2) := by decide +kernel
theorem dL_law_1444 : decode cL_law 1444 = .ok (.i2l, 1) := by decide +kernel
theorem dL_law_1445 : decode cL_law 1445 = .ok (.lcmp, 1) := by decide +kernel
theorem dL_law_1446 : decode cL_law 1446 = .ok (.ifCond .eq 5, 3) := by decide +kernel
theorem dL_law_1449 : decode cL_law 1449 = .ok (.iconst 0, 1) := by decide +kernel
theorem dL_law_1450 : decode cL_law 1450 = .ok (.ireturn, 1) := by decide +kernel
theorem dL_law_1451 : decode cL_law 1451 = .ok (.goto 138, 3) := by decide +kernel
theorem dL_law_1454 : decode cL_law 1454 = .ok (.aload_n 1, 1) := by decide +kernel
theorem dL_law_1455 : decode cL_law 1455 = .ok (.aload_n 0, 1) := by decide +kernel
theorem dL_law_1456 : decode cL_law 1456 = .ok (.iload 4, 2) := by decide +kernel
theorem dL_law_1458 : decode cL_law 1458 = .ok (.iconst 1, 1) := by decide +kernel
theorem dL_law_1459 : decode cL_law 1459 = .ok (.iadd, 1) := by decide +kernel
theorem dL_law_1460 : decode cL_law 1460 = .ok (.iaload, 1) := by decide +kernel
theorem dL_law_1461 : decode cL_law 1461 = .ok (.aload_n 0, 1) := by decide +kernel
theorem dL_law_1462 : decode cL_law 1462 = .ok (.iload 4, 2) := by decide +kernel
theorem dL_law_1464 : decode cL_law 1464 = .ok (.iconst 2, 1) := by decide +kernel
theorem dL_law_1465 : decode cL_law 1465 = .ok (.iadd, 1) := by decide +kernel
theorem dL_law_1466 : decode cL_law 1466 = .ok (.iaload, 1) := by decide +kernel
theorem dL_law_1467 : decode cL_law 1467 = .ok (.aload_n 0, 1) := by decide +kernel
theorem dL_law_1468 : decode cL_law 1468 = .ok (.iload 4, 2) := by decide +kernel
theorem dL_law_1470 : decode cL_law 1470 = .ok (.iconst 3, 1) := by decide +kernel
theorem dL_law_1471 : decode cL_law 1471 = .ok (.iadd, 1) := by decide +kernel
theorem dL_law_1472 : decode cL_law 1472 = .ok (.iaload, 1) := by decide +kernel
theorem dL_law_1473 : decode cL_law 1473 = .ok (.aload_n 3, 1) := by decide +kernel
theorem dL_law_1474 : decode cL_law 1474 = .ok (.invokestatic 142, 3) := by decide +kernel
theorem dL_law_1477 : decode cL_law 1477 = .ok (.istore 5, 2) := by decide +kernel
theorem dL_law_1479 : decode cL_law 1479 = .ok (.aload_n 2, 1) := by decide +kernel
theorem dL_law_1480 : decode cL_law 1480 = .ok (.aload_n 0, 1) := by decide +kernel
theorem dL_law_1481 : decode cL_law 1481 = .ok (.iload 4, 2) := by decide +kernel
theorem dL_law_1483 : decode cL_law 1483 = .ok (.iconst 1, 1) := by decide +kernel
theorem dL_law_1484 : decode cL_law 1484 = .ok (.iadd, 1) := by decide +kernel
theorem dL_law_1485 : decode cL_law 1485 = .ok (.iaload, 1) := by decide +kernel
theorem dL_law_1486 : decode cL_law 1486 = .ok (.aload_n 0, 1) := by decide +kernel
theorem dL_law_1487 : decode cL_law 1487 = .ok (.iload 4, 2) := by decide +kernel
theorem dL_law_1489 : decode cL_law 1489 = .ok (.iconst 2, 1) := by decide +kernel
theorem dL_law_1490 : decode cL_law 1490 = .ok (.iadd, 1) := by decide +kernel
theorem dL_law_1491 : decode cL_law 1491 = .ok (.iaload, 1) := by decide +kernel
theorem dL_law_1492 : decode cL_law 1492 = .ok (.aload_n 0, 1) := by decide +kernel
theorem dL_law_1493 : decode cL_law 1493 = .ok (.iload 4, 2) := by decide +kernel
theorem dL_law_1495 : decode cL_law 1495 = .ok (.iconst 3, 1) := by decide +kernel
theorem dL_law_1496 : decode cL_law 1496 = .ok (.iadd, 1) := by decide +kernel
theorem dL_law_1497 : decode cL_law 1497 = .ok (.iaload, 1) := by decide +kernel
theorem dL_law_1498 : decode cL_law 1498 = .ok (.invokevirtual 144, 3) := by decide +kernel
theorem dL_law_1501 : decode cL_law 1501 = .ok (.istore 6, 2) := by decide +kernel
theorem dL_law_1503 : decode cL_law 1503 = .ok (.aload_n 2, 1) := by decide +kernel
theorem dL_law_1504 : decode cL_law 1504 = .ok (.invokevirtual 83, 3) := by decide +kernel
theorem dL_law_1507 : decode cL_law 1507 = .ok (.iload 5, 2) := by decide +kernel
theorem dL_law_1509 : decode cL_law 1509 = .ok (.if_icmp .eq 5, 3) := by decide +kernel
theorem dL_law_1512 : decode cL_law 1512 = .ok (.iconst 0, 1) := by decide +kernel
theorem dL_law_1513 : decode cL_law 1513 = .ok (.ireturn, 1) := by decide +kernel
theorem dL_law_1514 : decode cL_law 1514 = .ok (.iload 5, 2) := by decide +kernel
theorem dL_law_1516 : decode cL_law 1516 = .ok (.ifCond .ne 15, 3) := by decide +kernel
theorem dL_law_1519 : decode cL_law 1519 = .ok (.aload_n 3, 1) := by decide +kernel
theorem dL_law_1520 : decode cL_law 1520 = .ok (.iconst 0, 1) := by decide +kernel
theorem dL_law_1521 : decode cL_law 1521 = .ok (.laload, 1) := by decide +kernel
theorem dL_law_1522 : decode cL_law 1522 = .ok (.iload 6, 2) := by decide +kernel
theorem dL_law_1524 : decode cL_law 1524 = .ok (.i2l, 1) := by decide +kernel
theorem dL_law_1525 : decode cL_law 1525 = .ok (.lcmp, 1) := by decide +kernel
theorem dL_law_1526 : decode cL_law 1526 = .ok (.ifCond .eq 5, 3) := by decide +kernel
theorem dL_law_1529 : decode cL_law 1529 = .ok (.iconst 0, 1) := by decide +kernel
theorem dL_law_1530 : decode cL_law 1530 = .ok (.ireturn, 1) := by decide +kernel
theorem dL_law_1531 : decode cL_law 1531 = .ok (.goto 58, 3) := by decide +kernel
theorem dL_law_1534 : decode cL_law 1534 = .ok (.aload_n 1, 1) := by decide +kernel
theorem dL_law_1535 : decode cL_law 1535 = .ok (.invokevirtual 145, 3) := by decide +kernel
theorem dL_law_1538 : decode cL_law 1538 = .ok (.dstore 5, 2) := by decide +kernel
theorem dL_law_1540 : decode cL_law 1540 = .ok (.aload_n 2, 1) := by decide +kernel
theorem dL_law_1541 : decode cL_law 1541 = .ok (.invokevirtual 149, 3) := by decide +kernel
theorem dL_law_1544 : decode cL_law 1544 = .ok (.dstore 7, 2) := by decide +kernel
theorem dL_law_1546 : decode cL_law 1546 = .ok (.dload 5, 2) := by decide +kernel
theorem dL_law_1548 : decode cL_law 1548 = .ok (.dload 7, 2) := by decide +kernel
theorem dL_law_1550 : decode cL_law 1550 = .ok (.dcmp .l, 1) := by decide +kernel
theorem dL_law_1551 : decode cL_law 1551 = .ok (.ifCond .eq 21, 3) := by decide +kernel
theorem dL_law_1554 : decode cL_law 1554 = .ok (.dload 5, 2) := by decide +kernel
theorem dL_law_1556 : decode cL_law 1556 = .ok (.dload 5, 2) := by decide +kernel
theorem dL_law_1558 : decode cL_law 1558 = .ok (.dcmp .l, 1) := by decide +kernel
theorem dL_law_1559 : decode cL_law 1559 = .ok (.ifCond .eq 11, 3) := by decide +kernel
theorem dL_law_1562 : decode cL_law 1562 = .ok (.dload 7, 2) := by decide +kernel
theorem dL_law_1564 : decode cL_law 1564 = .ok (.dload 7, 2) := by decide +kernel
theorem dL_law_1566 : decode cL_law 1566 = .ok (.dcmp .l, 1) := by decide +kernel
theorem dL_law_1567 : decode cL_law 1567 = .ok (.ifCond .ne 5, 3) := by decide +kernel
theorem dL_law_1570 : decode cL_law 1570 = .ok (.iconst 0, 1) := by decide +kernel
theorem dL_law_1571 : decode cL_law 1571 = .ok (.ireturn, 1) := by decide +kernel
theorem dL_law_1572 : decode cL_law 1572 = .ok (.goto 17, 3) := by decide +kernel
theorem dL_law_1575 : decode cL_law 1575 = .ok (.aload_n 1, 1) := by decide +kernel
theorem dL_law_1576 : decode cL_law 1576 = .ok (.invokevirtual 150, 3) := by decide +kernel
theorem dL_law_1579 : decode cL_law 1579 = .ok (.aload_n 2, 1) := by decide +kernel
theorem dL_law_1580 : decode cL_law 1580 = .ok (.invokevirtual 154, 3) := by decide +kernel
theorem dL_law_1583 : decode cL_law 1583 = .ok (.lcmp, 1) := by decide +kernel
theorem dL_law_1584 : decode cL_law 1584 = .ok (.ifCond .eq 5, 3) := by decide +kernel
theorem dL_law_1587 : decode cL_law 1587 = .ok (.iconst 0, 1) := by decide +kernel
theorem dL_law_1588 : decode cL_law 1588 = .ok (.ireturn, 1) := by decide +kernel
theorem dL_law_1589 : decode cL_law 1589 = .ok (.iinc 4 9, 3) := by decide +kernel
theorem dL_law_1592 : decode cL_law 1592 = .ok (.goto (-1569), 3) := by decide +kernel
theorem dL_law_1595 : decode cL_law 1595 = .ok (.iconst 1, 1) := by decide +kernel
theorem dL_law_1596 : decode cL_law 1596 = .ok (.ireturn, 1) := by decide +kernel
