theorem dX8_holds_34 : decode cX8_holds 34 = .ok (.if_icmp .ne 30, 3) := by decide +kernel
theorem dX8_holds_37 : decode cX8_holds 37 = .ok (.aload_n 0, 1) := by decide +kernel
theorem dX8_holds_38 : decode cX8_holds 38 = .ok (.getfield 86, 3) := by decide +kernel
theorem dX8_holds_41 : decode cX8_holds 41 = .ok (.iload_n 3, 1) := by decide +kernel
theorem dX8_holds_42 : decode cX8_holds 42 = .ok (.iconst 1, 1) := by decide +kernel
theorem dX8_holds_43 : decode cX8_holds 43 = .ok (.isub, 1) := by decide +kernel
theorem dX8_holds_44 : decode cX8_holds 44 = .ok (.aload_n 0, 1) := by decide +kernel
theorem dX8_holds_45 : decode cX8_holds 45 = .ok (.getfield 86, 3) := by decide +kernel
theorem dX8_holds_48 : decode cX8_holds 48 = .ok (.iload_n 3, 1) := by decide +kernel
theorem dX8_holds_49 : decode cX8_holds 49 = .ok (.iconst 1, 1) := by decide +kernel
theorem dX8_holds_50 : decode cX8_holds 50 = .ok (.isub, 1) := by decide +kernel
theorem dX8_holds_51 : decode cX8_holds 51 = .ok (.baload, 1) := by decide +kernel
theorem dX8_holds_52 : decode cX8_holds 52 = .ok (.ifCond .ne 7, 3) := by decide +kernel
theorem dX8_holds_55 : decode cX8_holds 55 = .ok (.iconst 1, 1) := by decide +kernel
theorem dX8_holds_56 : decode cX8_holds 56 = .ok (.goto 4, 3) := by decide +kernel
theorem dX8_holds_59 : decode cX8_holds 59 = .ok (.iconst 0, 1) := by decide +kernel
theorem dX8_holds_60 : decode cX8_holds 60 = .ok (.bastore, 1) := by decide +kernel
theorem dX8_holds_61 : decode cX8_holds 61 = .ok (.goto 176, 3) := by decide +kernel
theorem dX8_holds_64 : decode cX8_holds 64 = .ok (.iload 5, 2) := by decide +kernel
theorem dX8_holds_66 : decode cX8_holds 66 = .ok (.ifCond .ge 77, 3) := by decide +kernel
theorem dX8_holds_69 : decode cX8_holds 69 = .ok (.iinc 3 (-1), 3) := by decide +kernel
theorem dX8_holds_72 : decode cX8_holds 72 = .ok (.aload_n 0, 1) := by decide +kernel
theorem dX8_holds_73 : decode cX8_holds 73 = .ok (.getfield 86, 3) := by decide +kernel
theorem dX8_holds_76 : decode cX8_holds 76 = .ok (.iload_n 3, 1) := by decide +kernel
theorem dX8_holds_77 : decode cX8_holds 77 = .ok (.iconst 1, 1) := by decide +kernel
theorem dX8_holds_78 : decode cX8_holds 78 = .ok (.isub, 1) := by decide +kernel
theorem dX8_holds_79 : decode cX8_holds 79 = .ok (.iload 5, 2) := by decide +kernel
theorem dX8_holds_81 : decode cX8_holds 81 = .ok (.bipush (-38), 2) := by decide +kernel
theorem dX8_holds_83 : decode cX8_holds 83 = .ok (.if_icmp .ne 31, 3) := by decide +kernel
theorem dX8_holds_86 : decode cX8_holds 86 = .ok (.aload_n 0, 1) := by decide +kernel
theorem dX8_holds_87 : decode cX8_holds 87 = .ok (.getfield 86, 3) := by decide +kernel
theorem dX8_holds_90 : decode cX8_holds 90 = .ok (.iload_n 3, 1) := by decide +kernel
theorem dX8_holds_91 : decode cX8_holds 91 = .ok (.iconst 1, 1) := by decide +kernel
theorem dX8_holds_92 : decode cX8_holds 92 = .ok (.isub, 1) := by decide +kernel
theorem dX8_holds_93 : decode cX8_holds 93 = .ok (.baload, 1) := by decide +kernel
theorem dX8_holds_94 : decode cX8_holds 94 = .ok (.ifCond .eq 16, 3) := by decide +kernel
theorem dX8_holds_97 : decode cX8_holds 97 = .ok (.aload_n 0, 1) := by decide +kernel
theorem dX8_holds_98 : decode cX8_holds 98 = .ok (.getfield 86, 3) := by decide +kernel
theorem dX8_holds_101 : decode cX8_holds 101 = .ok (.iload_n 3, 1) := by decide +kernel
theorem dX8_holds_102 : decode cX8_holds 102 = .ok (.baload, 1) := by decide +kernel
theorem dX8_holds_103 : decode cX8_holds 103 = .ok (.ifCond .eq 7, 3) := by decide +kernel
theorem dX8_holds_106 : decode cX8_holds 106 = .ok (.iconst 1, 1) := by decide +kernel
theorem dX8_holds_107 : decode cX8_holds 107 = .ok (.goto 32, 3) := by decide +kernel
theorem dX8_holds_110 : decode cX8_holds 110 = .ok (.iconst 0, 1) := by decide +kernel
theorem dX8_holds_111 : decode cX8_holds 111 = .ok (.goto 28, 3) := by decide +kernel
theorem dX8_holds_114 : decode cX8_holds 114 = .ok (.aload_n 0, 1) := by decide +kernel
theorem dX8_holds_115 : decode cX8_holds 115 = .ok (.getfield 86, 3) := by decide +kernel
theorem dX8_holds_118 : decode cX8_holds 118 = .ok (.iload_n 3, 1) := by decide +kernel
theorem dX8_holds_119 : decode cX8_holds 119 = .ok (.iconst 1, 1) := by decide +kernel
theorem dX8_holds_120 : decode cX8_holds 120 = .ok (.isub, 1) := by decide +kernel
theorem dX8_holds_121 : decode cX8_holds 121 = .ok (.baload, 1) := by decide +kernel
theorem dX8_holds_122 : decode cX8_holds 122 = .ok (.ifCond .ne 12, 3) := by decide +kernel
theorem dX8_holds_125 : decode cX8_holds 125 = .ok (.aload_n 0, 1) := by decide +kernel
theorem dX8_holds_126 : decode cX8_holds 126 = .ok (.getfield 86, 3) := by decide +kernel
theorem dX8_holds_129 : decode cX8_holds 129 = .ok (.iload_n 3, 1) := by decide +kernel
theorem dX8_holds_130 : decode cX8_holds 130 = .ok (.baload, 1) := by decide +kernel
theorem dX8_holds_131 : decode cX8_holds 131 = .ok (.ifCond .eq 7, 3) := by decide +kernel
theorem dX8_holds_134 : decode cX8_holds 134 = .ok (.iconst 1, 1) := by decide +kernel
theorem dX8_holds_135 : decode cX8_holds 135 = .ok (.goto 4, 3) := by decide +kernel
theorem dX8_holds_138 : decode cX8_holds 138 = .ok (.iconst 0, 1) := by decide +kernel
theorem dX8_holds_139 : decode cX8_holds 139 = .ok (.bastore, 1) := by decide +kernel
theorem dX8_holds_140 : decode cX8_holds 140 = .ok (.goto 97, 3) := by decide +kernel
theorem dX8_holds_143 : decode cX8_holds 143 = .ok (.aload_n 0, 1) := by decide +kernel
theorem dX8_holds_144 : decode cX8_holds 144 = .ok (.iload 5, 2) := by decide +kernel
theorem dX8_holds_146 : decode cX8_holds 146 = .ok (.sipush 1000, 3) := by decide +kernel
theorem dX8_holds_149 : decode cX8_holds 149 = .ok (.idiv, 1) := by decide +kernel
theorem dX8_holds_150 : decode cX8_holds 150 = .ok (.iload_n 2, 1) := by decide +kernel
theorem dX8_holds_151 : decode cX8_holds 151 = .ok (.invokevirtual 292, 3) := by decide +kernel
theorem dX8_holds_154 : decode cX8_holds 154 = .ok (.istore 6, 2) := by decide +kernel
theorem dX8_holds_156 : decode cX8_holds 156 = .ok (.iload 5, 2) := by decide +kernel
theorem dX8_holds_158 : decode cX8_holds 158 = .ok (.bipush 100, 2) := by decide +kernel
theorem dX8_holds_160 : decode cX8_holds 160 = .ok (.idiv, 1) := by decide +kernel
theorem dX8_holds_161 : decode cX8_holds 161 = .ok (.bipush 10, 2) := by decide +kernel
theorem dX8_holds_163 : decode cX8_holds 163 = .ok (.irem, 1) := by decide +kernel
theorem dX8_holds_164 : decode cX8_holds 164 = .ok (.istore 7, 2) := by decide +kernel
theorem dX8_holds_166 : decode cX8_holds 166 = .ok (.aload_n 0, 1) := by decide +kernel
theorem dX8_holds_167 : decode cX8_holds 167 = .ok (.getfield 86, 3) := by decide +kernel
theorem dX8_holds_170 : decode cX8_holds 170 = .ok (.iload_n 3, 1) := by decide +kernel
theorem dX8_holds_171 : decode cX8_holds 171 = .ok (.iload 7, 2) := by decide +kernel
theorem dX8_holds_173 : decode cX8_holds 173 = .ok (.ifCond .ne 21, 3) := by decide +kernel
theorem dX8_holds_176 : decode cX8_holds 176 = .ok (.iload 6, 2) := by decide +kernel
theorem dX8_holds_178 : decode cX8_holds 178 = .ok (.iload 5, 2) := by decide +kernel
theorem dX8_holds_180 : decode cX8_holds 180 = .ok (.bipush 100, 2) := by decide +kernel
theorem dX8_holds_182 : decode cX8_holds 182 = .ok (.irem, 1) := by decide +kernel
theorem dX8_holds_183 : decode cX8_holds 183 = .ok (.if_icmp .ge 7, 3) := by decide +kernel
theorem dX8_holds_186 : decode cX8_holds 186 = .ok (.iconst 1, 1) := by decide +kernel
theorem dX8_holds_187 : decode cX8_holds 187 = .ok (.goto 46, 3) := by decide +kernel
theorem dX8_holds_190 : decode cX8_holds 190 = .ok (.iconst 0, 1) := by decide +kernel
theorem dX8_holds_191 : decode cX8_holds 191 = .ok (.goto 42, 3) := by decide +kernel
theorem dX8_holds_194 : decode cX8_holds 194 = .ok (.iload 7, 2) := by decide +kernel
theorem dX8_holds_196 : decode cX8_holds 196 = .ok (.iconst 1, 1) := by decide +kernel
theorem dX8_holds_197 : decode cX8_holds 197 = .ok (.if_icmp .ne 21, 3) := by decide +kernel
theorem dX8_holds_200 : decode cX8_holds 200 = .ok (.iload 6, 2) := by decide +kernel
theorem dX8_holds_202 : decode cX8_holds 202 = .ok (.iload 5, 2) := by decide +kernel
theorem dX8_holds_204 : decode cX8_holds 204 = .ok (.bipush 100, 2) := by decide +kernel
theorem dX8_holds_206 : decode cX8_holds 206 = .ok (.irem, 1) := by decide +kernel
theorem dX8_holds_207 : decode cX8_holds 207 = .ok (.if_icmp .ne 7, 3) := by decide +kernel
theorem dX8_holds_210 : decode cX8_holds 210 = .ok (.iconst 1, 1) := by decide +kernel
theorem dX8_holds_211 : decode cX8_holds 211 = .ok (.goto 22, 3) := by decide +kernel
theorem dX8_holds_214 : decode cX8_holds 214 = .ok (.iconst 0, 1) := by decide +kernel
theorem dX8_holds_215 : decode cX8_holds 215 = .ok (.goto 18, 3) := by decide +kernel
theorem dX8_holds_218 : decode cX8_holds 218 = .ok (.iload 6, 2) := by decide +kernel
theorem dX8_holds_220 : decode cX8_holds 220 = .ok (.iload 5, 2) := by decide +kernel
theorem dX8_holds_222 : decode cX8_holds 222 = .ok (.bipush 100, 2) := by decide +kernel
theorem dX8_holds_224 : decode cX8_holds 224 = .ok (.irem, 1) := by decide +kernel
theorem dX8_holds_225 : decode cX8_holds 225 = .ok (.if_icmp .le 7, 3) := by decide +kernel
theorem dX8_holds_228 : decode cX8_holds 228 = .ok (.iconst 1, 1) := by decide +kernel
theorem dX8_holds_229 : decode cX8_holds 229 = .ok (.goto 4, 3) := by decide +kernel
theorem dX8_holds_232 : decode cX8_holds 232 = .ok (.iconst 0, 1) := by decide +kernel
theorem dX8_holds_233 : decode cX8_holds 233 = .ok (.bastore, 1) := by decide +kernel
theorem dX8_holds_234 : decode cX8_holds 234 = .ok (.iinc 3 1, 3) := by decide +kernel
theorem dX8_holds_237 : decode cX8_holds 237 = .ok (.iinc 4 1, 3) := by decide +kernel
theorem dX8_holds_240 : decode cX8_holds 240 = .ok (.goto (-230), 3) := by decide +kernel
theorem dX8_holds_243 : decode cX8_holds 243 = .ok (.aload_n 0, 1) := by decide +kernel
theorem dX8_holds_244 : decode cX8_holds 244 = .ok (.getfield 86, 3) := by decide +kernel
theorem dX8_holds_247 : decode cX8_holds 247 = .ok (.iconst 0, 1) := by decide +kernel
theorem dX8_holds_248 : decode cX8_holds 248 = .ok (.baload, 1) := by decide +kernel
theorem dX8_holds_249 : decode cX8_holds 249 = .ok (.ireturn, 1) := by decide +kernel
set_option maxRecDepth 20000 in
theorem ggX8_taste_X8_begin : GoodIn wsX8_taste wsX8_begin := goodIn_r _ [7, 8, 39, 40, 41, 42, 43, 44, 45, 46, 47, 48, 49, 50, 51, 52, 53, 54, 55, 56, 57, 58, 59, 60, 61, 62, 63, 64, 65, 66, 67, 68, 69, 70, 71, 72, 73, 74, 75, 76, 77, 78, 79, 80, 81, 82, 83, 84, 85, 86, 87, 88, 89, 90, 91, 92, 93, 94, 95, 96, 97, 98, 99, 100, 101, 102, 103, 104, 105] (by decide +kernel) (by decide +kernel)
set_option maxRecDepth 20000 in
theorem gX8_taste_X8_begin : GoodIn wsX8_taste (wsV RX8 279 RX8 yX8_begin wsX8_begin) := goodIn_app (goodIn_of _ (by decide +kernel)) ggX8_taste_X8_begin
set_option maxRecDepth 20000 in
theorem ggX8_taste_X8_behind : GoodIn wsX8_taste wsX8_behind := goodIn_r _ [12, 8, 13, 39, 40, 41, 42, 43, 44, 45, 46, 47, 48, 49, 50, 51, 52, 53, 54, 55, 56, 57, 58, 59, 60, 61, 62, 63, 64, 65, 66, 67, 68, 69, 70, 71, 72, 73, 74, 75, 76, 77, 78, 79, 80, 81, 82, 83, 84, 85, 86, 87, 88, 89, 90, 91, 92, 93, 94, 95, 96, 97, 98, 99, 100, 101, 102, 103, 104, 105] (by decide +kernel) (by decide +kernel)
set_option maxRecDepth 20000 in
theorem gX8_taste_X8_behind : GoodIn wsX8_taste (wsV RX8 282 RX8 yX8_behind wsX8_behind) := goodIn_app (goodIn_of _ (by decide +kernel)) ggX8_taste_X8_behind
set_option maxRecDepth 20000 in
theorem ggX8_taste_X8_holds : GoodIn wsX8_taste wsX8_holds := goodIn_r _ [17, 18, 19, 20, 21, 22, 23, 24, 6, 25, 26, 27, 28, 29, 30, 31, 32, 33, 34, 35, 36, 37, 38, 39, 40, 41, 42, 43, 44, 45, 46, 47, 48, 49, 50, 51, 52, 53, 54, 55, 56, 57, 58, 59, 60, 61, 62, 63, 64, 65, 66, 67, 68, 69, 70, 71, 72, 73, 74, 75, 76, 77, 78, 79, 80, 81, 82, 83, 84, 85, 86, 87, 88, 89, 90, 91, 92, 93, 94, 95, 96, 97, 98, 99, 100, 101, 102, 103, 104, 105] (by decide +kernel) (by decide +kernel)
set_option maxRecDepth 20000 in
theorem gX8_taste_X8_holds : GoodIn wsX8_taste (wsV RX8 295 RX8 yX8_holds wsX8_holds) := goodIn_app (goodIn_of _ (by decide +kernel)) ggX8_taste_X8_holds
theorem dX8_taste_0 : decode cX8_taste 0 = .ok (.iconst 0, 1) := by decide +kernel
theorem dX8_taste_1 : decode cX8_taste 1 = .ok (.istore_n 2, 1) := by decide +kernel
theorem dX8_taste_2 : decode cX8_taste 2 = .ok (.aload_n 0, 1) := by decide +kernel
theorem dX8_taste_3 : decode cX8_taste 3 = .ok (.invokevirtual 279, 3) := by decide +kernel
theorem dX8_taste_6 : decode cX8_taste 6 = .ok (.istore_n 3, 1) := by decide +kernel
theorem dX8_taste_7 : decode cX8_taste 7 = .ok (.iload_n 3, 1) := by decide +kernel
theorem dX8_taste_8 : decode cX8_taste 8 = .ok (.aload_n 0, 1) := by decide +kernel
theorem dX8_taste_9 : decode cX8_taste 9 = .ok (.invokevirtual 282, 3) := by decide +kernel
theorem dX8_taste_12 : decode cX8_taste 12 = .ok (.if_icmp .ge 59, 3) := by decide +kernel
theorem dX8_taste_15 : decode cX8_taste 15 = .ok (.aload_n 0, 1) := by decide +kernel
theorem dX8_taste_16 : decode cX8_taste 16 = .ok (.getfield 56, 3) := by decide +kernel
theorem dX8_taste_19 : decode cX8_taste 19 = .ok (.iload_n 3, 1) := by decide +kernel
theorem dX8_taste_20 : decode cX8_taste 20 = .ok (.iaload, 1) := by decide +kernel
theorem dX8_taste_21 : decode cX8_taste 21 = .ok (.iconst 1, 1) := by decide +kernel
theorem dX8_taste_22 : decode cX8_taste 22 = .ok (.if_icmp .gt 43, 3) := by decide +kernel
theorem dX8_taste_25 : decode cX8_taste 25 = .ok (.aload_n 0, 1) := by decide +kernel
theorem dX8_taste_26 : decode cX8_taste 26 = .ok (.iload_n 3, 1) := by decide +kernel
theorem dX8_taste_27 : decode cX8_taste 27 = .ok (.iload_n 1, 1) := by decide +kernel
theorem dX8_taste_28 : decode cX8_taste 28 = .ok (.invokevirtual 295, 3) := by decide +kernel
theorem dX8_taste_31 : decode cX8_taste 31 = .ok (.ifCond .ne 6, 3) := by decide +kernel
theorem dX8_taste_34 : decode cX8_taste 34 = .ok (.goto 31, 3) := by decide +kernel
theorem dX8_taste_37 : decode cX8_taste 37 = .ok (.iload_n 2, 1) := by decide +kernel
theorem dX8_taste_38 : decode cX8_taste 38 = .ok (.aload_n 0, 1) := by decide +kernel
theorem dX8_taste_39 : decode cX8_taste 39 = .ok (.getfield 56, 3) := by decide +kernel
theorem dX8_taste_42 : decode cX8_taste 42 = .ok (.iload_n 3, 1) := by decide +kernel
theorem dX8_taste_43 : decode cX8_taste 43 = .ok (.iaload, 1) := by decide +kernel
theorem dX8_taste_44 : decode cX8_taste 44 = .ok (.ifCond .ne 12, 3) := by decide +kernel
theorem dX8_taste_47 : decode cX8_taste 47 = .ok (.aload_n 0, 1) := by decide +kernel
theorem dX8_taste_48 : decode cX8_taste 48 = .ok (.getfield 59, 3) := by decide +kernel
theorem dX8_taste_51 : decode cX8_taste 51 = .ok (.iload_n 3, 1) := by decide +kernel
theorem dX8_taste_52 : decode cX8_taste 52 = .ok (.iaload, 1) := by decide +kernel
theorem dX8_taste_53 : decode cX8_taste 53 = .ok (.goto 10, 3) := by decide +kernel
theorem dX8_taste_56 : decode cX8_taste 56 = .ok (.aload_n 0, 1) := by decide +kernel
theorem dX8_taste_57 : decode cX8_taste 57 = .ok (.getfield 59, 3) := by decide +kernel
theorem dX8_taste_60 : decode cX8_taste 60 = .ok (.iload_n 3, 1) := by decide +kernel
theorem dX8_taste_61 : decode cX8_taste 61 = .ok (.iaload, 1) := by decide +kernel
theorem dX8_taste_62 : decode cX8_taste 62 = .ok (.ineg, 1) := by decide +kernel
theorem dX8_taste_63 : decode cX8_taste 63 = .ok (.iadd, 1) := by decide +kernel
theorem dX8_taste_64 : decode cX8_taste 64 = .ok (.istore_n 2, 1) := by decide +kernel
theorem dX8_taste_65 : decode cX8_taste 65 = .ok (.iinc 3 1, 3) := by decide +kernel
theorem dX8_taste_68 : decode cX8_taste 68 = .ok (.goto (-61), 3) := by decide +kernel
theorem dX8_taste_71 : decode cX8_taste 71 = .ok (.iload_n 2, 1) := by decide +kernel
theorem dX8_taste_72 : decode cX8_taste 72 = .ok (.ireturn, 1) := by decide +kernel
set_option maxRecDepth 20000 in
theorem ggX8_alikeOf_X8_hadMarks : GoodIn wsX8_alikeOf wsX8_hadMarks := goodIn_r _ [6, 7, 1, 8, 17, 18, 19, 20, 21, 22, 23, 24, 25, 26, 27, 28, 29, 30, 31, 32, 33, 34, 35, 36, 37, 38, 39, 40, 41, 42, 43, 44, 45, 46, 47, 48, 49, 50, 51, 52, 53, 54, 55, 56, 57, 58, 59, 60, 61, 62, 63, 64, 65, 66, 67, 68, 69, 70, 71, 72, 73, 74, 75, 76, 77, 78, 79, 80, 81, 82, 83] (by decide +kernel) (by decide +kernel)
set_option maxRecDepth 20000 in
theorem gX8_alikeOf_X8_hadMarks : GoodIn wsX8_alikeOf (wsV RX8 298 RX8 yX8_hadMarks wsX8_hadMarks) := goodIn_app (goodIn_of _ (by decide +kernel)) ggX8_alikeOf_X8_hadMarks
set_option maxRecDepth 20000 in
theorem ggX8_alikeOf_X8_bits : GoodIn wsX8_alikeOf wsX8_bits := goodIn_r _ [12, 13, 14, 15, 5, 16] (by decide +kernel) (by decide +kernel)
set_option maxRecDepth 20000 in
theorem gX8_alikeOf_X8_bits : GoodIn wsX8_alikeOf (wsV RX8 289 RX8 yX8_bits wsX8_bits) := goodIn_app (goodIn_of _ (by decide +kernel)) ggX8_alikeOf_X8_bits
theorem dX8_alikeOf_0 : decode cX8_alikeOf 0 = .ok (.aload_n 0, 1) := by decide +kernel
theorem dX8_alikeOf_1 : decode cX8_alikeOf 1 = .ok (.aload_n 0, 1) := by decide +kernel
theorem dX8_alikeOf_2 : decode cX8_alikeOf 2 = .ok (.getfield 26, 3) := by decide +kernel
theorem dX8_alikeOf_5 : decode cX8_alikeOf 5 = .ok (.iload_n 1, 1) := by decide +kernel
theorem dX8_alikeOf_6 : decode cX8_alikeOf 6 = .ok (.iaload, 1) := by decide +kernel
theorem dX8_alikeOf_7 : decode cX8_alikeOf 7 = .ok (.aload_n 0, 1) := by decide +kernel
theorem dX8_alikeOf_8 : decode cX8_alikeOf 8 = .ok (.invokevirtual 298, 3) := by decide +kernel
theorem dX8_alikeOf_11 : decode cX8_alikeOf 11 = .ok (.iand, 1) := by decide +kernel
theorem dX8_alikeOf_12 : decode cX8_alikeOf 12 = .ok (.invokevirtual 289, 3) := by decide +kernel
theorem dX8_alikeOf_15 : decode cX8_alikeOf 15 = .ok (.ireturn, 1) := by decide +kernel
set_option maxRecDepth 20000 in
theorem ggX8_isLiked_X8_alikeOf : GoodIn wsX8_isLiked wsX8_alikeOf := goodIn_r _ [5, 6, 7, 8, 9, 4, 10, 11, 12, 13, 14, 15, 16, 17, 18, 19, 20, 60, 61, 62, 63, 64, 65, 66, 67, 68, 69, 70, 71, 72, 73, 74, 75, 76, 77, 78, 79, 80, 81, 82, 83, 84, 85, 86, 87, 88, 89, 90, 91, 92, 93, 94, 95, 96, 97, 98, 99, 100, 101, 102, 103, 104, 105, 106, 107, 108, 109, 110, 111, 112, 113, 114, 115, 116, 117, 118, 119, 120, 121, 122, 123, 124, 125, 126] (by decide +kernel) (by decide +kernel)
set_option maxRecDepth 20000 in
theorem gX8_isLiked_X8_alikeOf : GoodIn wsX8_isLiked (wsV RX8 301 RX8 yX8_alikeOf wsX8_alikeOf) := goodIn_app (goodIn_of _ (by decide +kernel)) ggX8_isLiked_X8_alikeOf
set_option maxRecDepth 20000 in
theorem ggX8_isLiked_X8_taste : GoodIn wsX8_isLiked wsX8_taste := goodIn_r _ [24, 25, 26, 27, 28, 29, 4, 30, 31, 32, 33, 34, 35, 36, 37, 38, 39, 40, 41, 42, 43, 44, 45, 46, 47, 48, 49, 50, 6, 11, 51, 13, 14, 15, 16, 17, 18, 19, 20, 60, 61, 62, 63, 64, 65, 66, 67, 68, 69, 70, 71, 72, 73, 74, 75, 76, 77, 78, 79, 80, 81, 82, 83, 84, 85, 86, 87, 88, 89, 90, 91, 92, 93, 94, 95, 96, 97, 98, 99, 100, 101, 102, 103, 104, 105, 106, 107, 108, 109, 110, 111, 112, 113, 114, 115, 116, 117, 118, 119, 120, 121, 122, 123, 124, 125, 126] (by decide +kernel) (by decide +kernel)
set_option maxRecDepth 20000 in
theorem gX8_isLiked_X8_taste : GoodIn wsX8_isLiked (wsV RX8 304 RX8 yX8_taste wsX8_taste) := goodIn_app (goodIn_of _ (by decide +kernel)) ggX8_isLiked_X8_taste
set_option maxRecDepth 20000 in
theorem ggX8_isLiked_X8_need : GoodIn wsX8_isLiked wsX8_need := goodIn_r _ [55, 56, 57, 58, 4, 59, 25, 26, 27, 28, 29, 30, 31, 32, 33, 34, 35, 36, 60, 61, 62, 63, 64, 65, 66, 67, 68, 69, 70, 71, 72, 73, 74, 75, 76, 77, 78, 79, 80, 81, 82, 83, 84, 85, 86, 87, 88, 89, 90, 91, 92, 93, 94, 95, 96, 97, 98, 99, 100, 101, 102, 103, 104, 105, 106, 107, 108, 109, 110, 111, 112, 113, 114, 115, 116, 117, 118, 119, 120, 121, 122, 123, 124, 125, 126] (by decide +kernel) (by decide +kernel)
set_option maxRecDepth 20000 in
theorem gX8_isLiked_X8_need : GoodIn wsX8_isLiked (wsV RX8 307 RX8 yX8_need wsX8_need) := goodIn_app (goodIn_of _ (by decide +kernel)) ggX8_isLiked_X8_need
theorem dX8_isLiked_0 : decode cX8_isLiked 0 = .ok (.aload_n 0, 1) := by decide +kernel
theorem dX8_isLiked_1 : decode cX8_isLiked 1 = .ok (.iload_n 1, 1) := by decide +kernel
theorem dX8_isLiked_2 : decode cX8_isLiked 2 = .ok (.invokevirtual 301, 3) := by decide +kernel
theorem dX8_isLiked_5 : decode cX8_isLiked 5 = .ok (.aload_n 0, 1) := by decide +kernel
theorem dX8_isLiked_6 : decode cX8_isLiked 6 = .ok (.iload_n 1, 1) := by decide +kernel
theorem dX8_isLiked_7 : decode cX8_isLiked 7 = .ok (.invokevirtual 304, 3) := by decide +kernel
theorem dX8_isLiked_10 : decode cX8_isLiked 10 = .ok (.iadd, 1) := by decide +kernel
theorem dX8_isLiked_11 : decode cX8_isLiked 11 = .ok (.aload_n 0, 1) := by decide +kernel
theorem dX8_isLiked_12 : decode cX8_isLiked 12 = .ok (.invokevirtual 307, 3) := by decide +kernel
theorem dX8_isLiked_15 : decode cX8_isLiked 15 = .ok (.if_icmp .lt 7, 3) := by decide +kernel
theorem dX8_isLiked_18 : decode cX8_isLiked 18 = .ok (.iconst 1, 1) := by decide +kernel
theorem dX8_isLiked_19 : decode cX8_isLiked 19 = .ok (.goto 4, 3) := by decide +kernel
theorem dX8_isLiked_22 : decode cX8_isLiked 22 = .ok (.iconst 0, 1) := by decide +kernel
theorem dX8_isLiked_23 : decode cX8_isLiked 23 = .ok (.ireturn, 1) := by decide +kernel
theorem dX8_newest_0 : decode cX8_newest 0 = .ok (.aload_n 0, 1) := by decide +kernel
theorem dX8_newest_1 : decode cX8_newest 1 = .ok (.getfield 26, 3) := by decide +kernel
theorem dX8_newest_4 : decode cX8_newest 4 = .ok (.aload_n 0, 1) := by decide +kernel
theorem dX8_newest_5 : decode cX8_newest 5 = .ok (.getfield 32, 3) := by decide +kernel
theorem dX8_newest_8 : decode cX8_newest 8 = .ok (.aload_n 0, 1) := by decide +kernel
theorem dX8_newest_9 : decode cX8_newest 9 = .ok (.getfield 13, 3) := by decide +kernel
theorem dX8_newest_12 : decode cX8_newest 12 = .ok (.iconst 1, 1) := by decide +kernel
theorem dX8_newest_13 : decode cX8_newest 13 = .ok (.isub, 1) := by decide +kernel
theorem dX8_newest_14 : decode cX8_newest 14 = .ok (.iaload, 1) := by decide +kernel
theorem dX8_newest_15 : decode cX8_newest 15 = .ok (.iaload, 1) := by decide +kernel
theorem dX8_newest_16 : decode cX8_newest 16 = .ok (.ireturn, 1) := by decide +kernel
set_option maxRecDepth 20000 in
theorem ggX8_hasPeer_X8_bits : GoodIn wsX8_hasPeer wsX8_bits := goodIn_r _ [8, 9, 10, 11, 7, 12] (by decide +kernel) (by decide +kernel)
set_option maxRecDepth 20000 in
theorem gX8_hasPeer_X8_bits : GoodIn wsX8_hasPeer (wsV RX8 289 RX8 yX8_bits wsX8_bits) := goodIn_app (goodIn_of _ (by decide +kernel)) ggX8_hasPeer_X8_bits
theorem dX8_hasPeer_0 : decode cX8_hasPeer 0 = .ok (.iconst 0, 1) := by decide +kernel
theorem dX8_hasPeer_1 : decode cX8_hasPeer 1 = .ok (.istore_n 2, 1) := by decide +kernel
theorem dX8_hasPeer_2 : decode cX8_hasPeer 2 = .ok (.iload_n 2, 1) := by decide +kernel
theorem dX8_hasPeer_3 : decode cX8_hasPeer 3 = .ok (.aload_n 0, 1) := by decide +kernel
theorem dX8_hasPeer_4 : decode cX8_hasPeer 4 = .ok (.getfield 13, 3) := by decide +kernel
theorem dX8_hasPeer_7 : decode cX8_hasPeer 7 = .ok (.if_icmp .ge 39, 3) := by decide +kernel
theorem dX8_hasPeer_10 : decode cX8_hasPeer 10 = .ok (.aload_n 0, 1) := by decide +kernel
theorem dX8_hasPeer_11 : decode cX8_hasPeer 11 = .ok (.aload_n 0, 1) := by decide +kernel
theorem dX8_hasPeer_12 : decode cX8_hasPeer 12 = .ok (.getfield 26, 3) := by decide +kernel
theorem dX8_hasPeer_15 : decode cX8_hasPeer 15 = .ok (.aload_n 0, 1) := by decide +kernel
theorem dX8_hasPeer_16 : decode cX8_hasPeer 16 = .ok (.getfield 32, 3) := by decide +kernel
theorem dX8_hasPeer_19 : decode cX8_hasPeer 19 = .ok (.iload_n 2, 1) := by decide +kernel
theorem dX8_hasPeer_20 : decode cX8_hasPeer 20 = .ok (.iaload, 1) := by decide +kernel
theorem dX8_hasPeer_21 : decode cX8_hasPeer 21 = .ok (.iaload, 1) := by decide +kernel
theorem dX8_hasPeer_22 : decode cX8_hasPeer 22 = .ok (.invokevirtual 289, 3) := by decide +kernel
theorem dX8_hasPeer_25 : decode cX8_hasPeer 25 = .ok (.aload_n 0, 1) := by decide +kernel
theorem dX8_hasPeer_26 : decode cX8_hasPeer 26 = .ok (.aload_n 0, 1) := by decide +kernel
theorem dX8_hasPeer_27 : decode cX8_hasPeer 27 = .ok (.getfield 26, 3) := by decide +kernel
theorem dX8_hasPeer_30 : decode cX8_hasPeer 30 = .ok (.iload_n 1, 1) := by decide +kernel
theorem dX8_hasPeer_31 : decode cX8_hasPeer 31 = .ok (.iaload, 1) := by decide +kernel
theorem dX8_hasPeer_32 : decode cX8_hasPeer 32 = .ok (.invokevirtual 289, 3) := by decide +kernel
theorem dX8_hasPeer_35 : decode cX8_hasPeer 35 = .ok (.if_icmp .ne 5, 3) := by decide +kernel
theorem dX8_hasPeer_38 : decode cX8_hasPeer 38 = .ok (.iconst 1, 1) := by decide +kernel
theorem dX8_hasPeer_39 : decode cX8_hasPeer 39 = .ok (.ireturn, 1) := by decide +kernel
theorem dX8_hasPeer_40 : decode cX8_hasPeer 40 = .ok (.iinc 2 1, 3) := by decide +kernel
theorem dX8_hasPeer_43 : decode cX8_hasPeer 43 = .ok (.goto (-41), 3) := by decide +kernel
theorem dX8_hasPeer_46 : decode cX8_hasPeer 46 = .ok (.iconst 0, 1) := by decide +kernel
theorem dX8_hasPeer_47 : decode cX8_hasPeer 47 = .ok (.ireturn, 1) := by decide +kernel
set_option maxRecDepth 20000 in
theorem ggX8_isKeyed_X8_isLiked : GoodIn wsX8_isKeyed wsX8_isLiked := goodIn_r _ [6, 7, 8, 9, 5, 10, 1, 11, 12, 13, 14, 15, 16, 17, 18, 19, 20, 21, 22, 23, 24, 25, 26, 27, 28, 29, 30, 31, 32, 33, 34, 35, 36, 37, 38, 39, 40, 41, 42, 43, 44, 45, 46, 47, 48, 49, 50, 51, 52, 53, 54, 55, 56, 57, 58, 59, 60, 61, 62, 63, 68, 69, 70, 71, 72, 73, 74, 75, 76, 77, 78, 79, 80, 81, 82, 83, 84, 85, 86, 87, 88, 89, 90, 91, 92, 93, 94, 95, 96, 97, 98, 99, 100, 101, 102, 103, 104, 105, 106, 107, 108, 109, 110, 111, 112, 113, 114, 115, 116, 117, 118, 119, 120, 121, 122, 123, 124, 125, 126, 127, 128, 129, 130, 131, 132, 133, 134] (by decide +kernel) (by decide +kernel)
set_option maxRecDepth 20000 in
theorem gX8_isKeyed_X8_isLiked : GoodIn wsX8_isKeyed (wsV RX8 310 RX8 yX8_isLiked wsX8_isLiked) := goodIn_app (goodIn_of _ (by decide +kernel)) ggX8_isKeyed_X8_isLiked
set_option maxRecDepth 20000 in
theorem ggX8_isKeyed_X8_newest : GoodIn wsX8_isKeyed wsX8_newest := goodIn_r _ [67, 1, 16, 15, 68, 69, 70, 71, 72, 73, 74, 75, 76, 77, 78, 79, 80, 81, 82, 83, 84, 85, 86, 87, 88, 89, 90, 91, 92, 93, 94, 95, 96, 97, 98, 99, 100, 101, 102, 103, 104, 105, 106, 107, 108, 109, 110, 111, 112, 113, 114, 115, 116, 117, 118, 119, 120, 121, 122, 123, 124, 125, 126, 127, 128, 129, 130, 131, 132, 133, 134] (by decide +kernel) (by decide +kernel)
set_option maxRecDepth 20000 in
theorem gX8_isKeyed_X8_newest : GoodIn wsX8_isKeyed (wsV RX8 313 RX8 yX8_newest wsX8_newest) := goodIn_app (goodIn_of _ (by decide +kernel)) ggX8_isKeyed_X8_newest
theorem dX8_isKeyed_0 : decode cX8_isKeyed 0 = .ok (.aload_n 0, 1) := by decide +kernel
theorem dX8_isKeyed_1 : decode cX8_isKeyed 1 = .ok (.iload_n 1, 1) := by decide +kernel
theorem dX8_isKeyed_2 : decode cX8_isKeyed 2 = .ok (.invokevirtual 310, 3) := by decide +kernel
theorem dX8_isKeyed_5 : decode cX8_isKeyed 5 = .ok (.ifCond .eq 21, 3) := by decide +kernel
theorem dX8_isKeyed_8 : decode cX8_isKeyed 8 = .ok (.aload_n 0, 1) := by decide +kernel
theorem dX8_isKeyed_9 : decode cX8_isKeyed 9 = .ok (.getfield 26, 3) := by decide +kernel
theorem dX8_isKeyed_12 : decode cX8_isKeyed 12 = .ok (.iload_n 1, 1) := by decide +kernel
theorem dX8_isKeyed_13 : decode cX8_isKeyed 13 = .ok (.iaload, 1) := by decide +kernel
theorem dX8_isKeyed_14 : decode cX8_isKeyed 14 = .ok (.aload_n 0, 1) := by decide +kernel
theorem dX8_isKeyed_15 : decode cX8_isKeyed 15 = .ok (.invokevirtual 313, 3) := by decide +kernel
theorem dX8_isKeyed_18 : decode cX8_isKeyed 18 = .ok (.iand, 1) := by decide +kernel
theorem dX8_isKeyed_19 : decode cX8_isKeyed 19 = .ok (.ifCond .ne 7, 3) := by decide +kernel
theorem dX8_isKeyed_22 : decode cX8_isKeyed 22 = .ok (.iconst 1, 1) := by decide +kernel
theorem dX8_isKeyed_23 : decode cX8_isKeyed 23 = .ok (.goto 4, 3) := by decide +kernel
theorem dX8_isKeyed_26 : decode cX8_isKeyed 26 = .ok (.iconst 0, 1) := by decide +kernel
theorem dX8_isKeyed_27 : decode cX8_isKeyed 27 = .ok (.ireturn, 1) := by decide +kernel
set_option maxRecDepth 20000 in
theorem ggX8_isLettered_X8_isLiked : GoodIn wsX8_isLettered wsX8_isLiked := goodIn_r _ [6, 7, 8, 9, 5, 10, 1, 11, 12, 13, 14, 15, 16, 17, 18, 19, 20, 21, 22, 23, 24, 25, 26, 27, 28, 29, 30, 31, 32, 33, 34, 35, 36, 37, 38, 39, 40, 41, 42, 43, 44, 45, 46, 47, 48, 49, 50, 51, 52, 53, 54, 55, 56, 57, 58, 59, 60, 61, 62, 63, 68, 69, 70, 71, 72, 73, 74, 75, 76, 77, 78, 79, 80, 81, 82, 83, 84, 85, 86, 87, 88, 89, 90, 91, 92, 93, 94, 95, 96, 97, 98, 99, 100, 101, 102, 103, 104, 105, 106, 107, 108, 109, 110, 111, 112, 113, 114, 115, 116, 117, 118, 119, 120, 121, 122, 123, 124, 125, 126, 127, 128, 129, 130, 131, 132, 133, 134] (by decide +kernel) (by decide +kernel)
set_option maxRecDepth 20000 in
theorem gX8_isLettered_X8_isLiked : GoodIn wsX8_isLettered (wsV RX8 310 RX8 yX8_isLiked wsX8_isLiked) := goodIn_app (goodIn_of _ (by decide +kernel)) ggX8_isLettered_X8_isLiked
set_option maxRecDepth 20000 in
theorem ggX8_isLettered_X8_newest : GoodIn wsX8_isLettered wsX8_newest := goodIn_r _ [67, 1, 16, 15, 68, 69, 70, 71, 72, 73, 74, 75, 76, 77, 78, 79, 80, 81, 82, 83, 84, 85, 86, 87, 88, 89, 90, 91, 92, 93, 94, 95, 96, 97, 98, 99, 100, 101, 102, 103, 104, 105, 106, 107, 108, 109, 110, 111, 112, 113, 114, 115, 116, 117, 118, 119, 120, 121, 122, 123, 124, 125, 126, 127, 128, 129, 130, 131, 132, 133, 134] (by decide +kernel) (by decide +kernel)
set_option maxRecDepth 20000 in
theorem gX8_isLettered_X8_newest : GoodIn wsX8_isLettered (wsV RX8 313 RX8 yX8_newest wsX8_newest) := goodIn_app (goodIn_of _ (by decide +kernel)) ggX8_isLettered_X8_newest
set_option maxRecDepth 20000 in
theorem ggX8_isLettered_X8_bits : GoodIn wsX8_isLettered wsX8_bits := goodIn_r _ [20, 21, 22, 23, 5, 24] (by decide +kernel) (by decide +kernel)
set_option maxRecDepth 20000 in
theorem gX8_isLettered_X8_bits : GoodIn wsX8_isLettered (wsV RX8 289 RX8 yX8_bits wsX8_bits) := goodIn_app (goodIn_of _ (by decide +kernel)) ggX8_isLettered_X8_bits
theorem dX8_isLettered_0 : decode cX8_isLettered 0 = .ok (.aload_n 0, 1) := by decide +kernel
theorem dX8_isLettered_1 : decode cX8_isLettered 1 = .ok (.iload_n 1, 1) := by decide +kernel
theorem dX8_isLettered_2 : decode cX8_isLettered 2 = .ok (.invokevirtual 310, 3) := by decide +kernel
theorem dX8_isLettered_5 : decode cX8_isLettered 5 = .ok (.ifCond .ne 28, 3) := by decide +kernel
theorem dX8_isLettered_8 : decode cX8_isLettered 8 = .ok (.aload_n 0, 1) := by decide +kernel
theorem dX8_isLettered_9 : decode cX8_isLettered 9 = .ok (.aload_n 0, 1) := by decide +kernel
theorem dX8_isLettered_10 : decode cX8_isLettered 10 = .ok (.invokevirtual 313, 3) := by decide +kernel
theorem dX8_isLettered_13 : decode cX8_isLettered 13 = .ok (.invokevirtual 289, 3) := by decide +kernel
theorem dX8_isLettered_16 : decode cX8_isLettered 16 = .ok (.aload_n 0, 1) := by decide +kernel
theorem dX8_isLettered_17 : decode cX8_isLettered 17 = .ok (.aload_n 0, 1) := by decide +kernel
theorem dX8_isLettered_18 : decode cX8_isLettered 18 = .ok (.getfield 26, 3) := by decide +kernel
theorem dX8_isLettered_21 : decode cX8_isLettered 21 = .ok (.iload_n 1, 1) := by decide +kernel
theorem dX8_isLettered_22 : decode cX8_isLettered 22 = .ok (.iaload, 1) := by decide +kernel
theorem dX8_isLettered_23 : decode cX8_isLettered 23 = .ok (.invokevirtual 289, 3) := by decide +kernel
theorem dX8_isLettered_26 : decode cX8_isLettered 26 = .ok (.if_icmp .ge 7, 3) := by decide +kernel
theorem dX8_isLettered_29 : decode cX8_isLettered 29 = .ok (.iconst 1, 1) := by decide +kernel
theorem dX8_isLettered_30 : decode cX8_isLettered 30 = .ok (.goto 4, 3) := by decide +kernel
theorem dX8_isLettered_33 : decode cX8_isLettered 33 = .ok (.iconst 0, 1) := by decide +kernel
theorem dX8_isLettered_34 : decode cX8_isLettered 34 = .ok (.ireturn, 1) := by decide +kernel
set_option maxRecDepth 20000 in
theorem ggX8_goes_X8_hold : GoodIn wsX8_goes wsX8_hold := goodIn_r _ [10, 11, 12, 13, 9, 14, 15, 16, 17, 18, 19, 20, 21, 22, 23, 24, 25, 26, 93, 94, 95, 96, 97, 98, 99, 100, 101, 102, 103, 104, 105, 106, 107, 108, 109, 110, 111, 112, 113, 114, 115, 116, 117, 118, 119, 120, 121, 122, 123, 124, 125, 126, 127, 128, 129, 130, 131, 132, 133, 134, 135, 136, 137, 138, 139, 140, 141, 142, 143, 144, 145, 146, 147, 148, 149, 150, 151, 152, 153, 154, 155, 156, 157, 158, 159] (by decide +kernel) (by decide +kernel)
set_option maxRecDepth 20000 in
theorem gX8_goes_X8_hold : GoodIn wsX8_goes (wsV RX8 316 RX8 yX8_hold wsX8_hold) := goodIn_app (goodIn_of _ (by decide +kernel)) ggX8_goes_X8_hold
set_option maxRecDepth 20000 in
theorem ggX8_goes_X8_isHad : GoodIn wsX8_goes wsX8_isHad := goodIn_r _ [30, 31, 32, 33, 9, 34, 1, 35, 93, 94, 95, 96, 97, 98, 99, 100, 101, 102, 103, 104, 105, 106, 107, 108, 109, 110, 111, 112, 113, 114, 115, 116, 117, 118, 119, 120, 121, 122, 123, 124, 125, 126, 127, 128, 129, 130, 131, 132, 133, 134, 135, 136, 137, 138, 139, 140, 141, 142, 143, 144, 145, 146, 147, 148, 149, 150, 151, 152, 153, 154, 155, 156, 157, 158, 159] (by decide +kernel) (by decide +kernel)
set_option maxRecDepth 20000 in
theorem gX8_goes_X8_isHad : GoodIn wsX8_goes (wsV RX8 319 RX8 yX8_isHad wsX8_isHad) := goodIn_app (goodIn_of _ (by decide +kernel)) ggX8_goes_X8_isHad
set_option maxRecDepth 20000 in
theorem ggX8_goes_X8_isLiked : GoodIn wsX8_goes wsX8_isLiked := goodIn_r _ [39, 40, 41, 42, 9, 43, 44, 45, 46, 47, 48, 1, 35, 49, 50, 51, 52, 53, 54, 55, 56, 57, 58, 59, 60, 15, 16, 17, 18, 19, 20, 21, 22, 23, 24, 25, 26, 61, 62, 63, 64, 65, 66, 67, 68, 69, 70, 71, 72, 2, 3, 4, 73, 74, 75, 76, 11, 12, 13, 14, 93, 94, 95, 96, 97, 98, 99, 100, 101, 102, 103, 104, 105, 106, 107, 108, 109, 110, 111, 112, 113, 114, 115, 116, 117, 118, 119, 120, 121, 122, 123, 124, 125, 126, 127, 128, 129, 130, 131, 132, 133, 134, 135, 136, 137, 138, 139, 140, 141, 142, 143, 144, 145, 146, 147, 148, 149, 150, 151, 152, 153, 154, 155, 156, 157, 158, 159] (by decide +kernel) (by decide +kernel)
set_option maxRecDepth 20000 in
theorem gX8_goes_X8_isLiked : GoodIn wsX8_goes (wsV RX8 310 RX8 yX8_isLiked wsX8_isLiked) := goodIn_app (goodIn_of _ (by decide +kernel)) ggX8_goes_X8_isLiked
set_option maxRecDepth 20000 in
theorem ggX8_goes_X8_hasPeer : GoodIn wsX8_goes wsX8_hasPeer := goodIn_r _ [80, 1, 44, 35, 49, 50, 51, 9, 52, 53, 54, 55, 56, 93, 94, 95, 96, 97, 98, 99, 100, 101, 102, 103, 104, 105, 106, 107, 108, 109, 110, 111, 112, 113, 114, 115, 116, 117, 118, 119, 120, 121, 122, 123, 124, 125, 126, 127, 128, 129, 130, 131, 132, 133, 134, 135, 136, 137, 138, 139, 140, 141, 142, 143, 144, 145, 146, 147, 148, 149, 150, 151, 152, 153, 154, 155, 156, 157, 158, 159] (by decide +kernel) (by decide +kernel)
set_option maxRecDepth 20000 in
theorem gX8_goes_X8_hasPeer : GoodIn wsX8_goes (wsV RX8 322 RX8 yX8_hasPeer wsX8_hasPeer) := goodIn_app (goodIn_of _ (by decide +kernel)) ggX8_goes_X8_hasPeer
set_option maxRecDepth 20000 in
theorem ggX8_goes_X8_isKeyed : GoodIn wsX8_goes wsX8_isKeyed := goodIn_r _ [84, 44, 36, 37, 38, 9, 39, 40, 41, 42, 43, 45, 46, 47, 48, 1, 35, 49, 50, 51, 52, 53, 54, 55, 56, 57, 58, 59, 60, 15, 16, 17, 18, 19, 20, 21, 22, 23, 24, 25, 26, 61, 62, 63, 64, 65, 66, 67, 68, 69, 70, 71, 72, 2, 3, 4, 73, 74, 75, 76, 11, 12, 13, 14, 85, 86, 87, 88, 93, 94, 95, 96, 97, 98, 99, 100, 101, 102, 103, 104, 105, 106, 107, 108, 109, 110, 111, 112, 113, 114, 115, 116, 117, 118, 119, 120, 121, 122, 123, 124, 125, 126, 127, 128, 129, 130, 131, 132, 133, 134, 135, 136, 137, 138, 139, 140, 141, 142, 143, 144, 145, 146, 147, 148, 149, 150, 151, 152, 153, 154, 155, 156, 157, 158, 159] (by decide +kernel) (by decide +kernel)
set_option maxRecDepth 20000 in
theorem gX8_goes_X8_isKeyed : GoodIn wsX8_goes (wsV RX8 325 RX8 yX8_isKeyed wsX8_isKeyed) := goodIn_app (goodIn_of _ (by decide +kernel)) ggX8_goes_X8_isKeyed
set_option maxRecDepth 20000 in
theorem ggX8_goes_X8_isLettered : GoodIn wsX8_goes wsX8_isLettered := goodIn_r _ [92, 44, 36, 37, 38, 9, 39, 40, 41, 42, 43, 45, 46, 47, 48, 1, 35, 49, 50, 51, 52, 53, 54, 55, 56, 57, 58, 59, 60, 15, 16, 17, 18, 19, 20, 21, 22, 23, 24, 25, 26, 61, 62, 63, 64, 65, 66, 67, 68, 69, 70, 71, 72, 2, 3, 4, 73, 74, 75, 76, 11, 12, 13, 14, 85, 86, 87, 88, 93, 94, 95, 96, 97, 98, 99, 100, 101, 102, 103, 104, 105, 106, 107, 108, 109, 110, 111, 112, 113, 114, 115, 116, 117, 118, 119, 120, 121, 122, 123, 124, 125, 126, 127, 128, 129, 130, 131, 132, 133, 134, 135, 136, 137, 138, 139, 140, 141, 142, 143, 144, 145, 146, 147, 148, 149, 150, 151, 152, 153, 154, 155, 156, 157, 158, 159] (by decide +kernel) (by decide +kernel)
set_option maxRecDepth 20000 in
theorem gX8_goes_X8_isLettered : GoodIn wsX8_goes (wsV RX8 328 RX8 yX8_isLettered wsX8_isLettered) := goodIn_app (goodIn_of _ (by decide +kernel)) ggX8_goes_X8_isLettered
theorem dX8_goes_0 : decode cX8_goes 0 = .ok (.aload_n 0, 1) := by decide +kernel
theorem dX8_goes_1 : decode cX8_goes 1 = .ok (.getfield 13, 3) := by decide +kernel
theorem dX8_goes_4 : decode cX8_goes 4 = .ok (.aload_n 0, 1) := by decide +kernel
theorem dX8_goes_5 : decode cX8_goes 5 = .ok (.invokevirtual 316, 3) := by decide +kernel
theorem dX8_goes_8 : decode cX8_goes 8 = .ok (.if_icmp .ge 11, 3) := by decide +kernel
theorem dX8_goes_11 : decode cX8_goes 11 = .ok (.aload_n 0, 1) := by decide +kernel
theorem dX8_goes_12 : decode cX8_goes 12 = .ok (.iload_n 1, 1) := by decide +kernel
theorem dX8_goes_13 : decode cX8_goes 13 = .ok (.invokevirtual 319, 3) := by decide +kernel
theorem dX8_goes_16 : decode cX8_goes 16 = .ok (.ifCond .eq 5, 3) := by decide +kernel
theorem dX8_goes_19 : decode cX8_goes 19 = .ok (.iconst 0, 1) := by decide +kernel
theorem dX8_goes_20 : decode cX8_goes 20 = .ok (.ireturn, 1) := by decide +kernel
theorem dX8_goes_21 : decode cX8_goes 21 = .ok (.aload_n 0, 1) := by decide +kernel
theorem dX8_goes_22 : decode cX8_goes 22 = .ok (.getfield 13, 3) := by decide +kernel
theorem dX8_goes_25 : decode cX8_goes 25 = .ok (.ifCond .ne 5, 3) := by decide +kernel
theorem dX8_goes_28 : decode cX8_goes 28 = .ok (.iconst 1, 1) := by decide +kernel
theorem dX8_goes_29 : decode cX8_goes 29 = .ok (.ireturn, 1) := by decide +kernel
theorem dX8_goes_30 : decode cX8_goes 30 = .ok (.aload_n 0, 1) := by decide +kernel
theorem dX8_goes_31 : decode cX8_goes 31 = .ok (.getfield 19, 3) := by decide +kernel
theorem dX8_goes_34 : decode cX8_goes 34 = .ok (.iload_n 1, 1) := by decide +kernel
theorem dX8_goes_35 : decode cX8_goes 35 = .ok (.iaload, 1) := by decide +kernel
theorem dX8_goes_36 : decode cX8_goes 36 = .ok (.tableswitch 168 1 6 #[40, 62, 68, 74, 109, 132], 40) := by decide +kernel
theorem dX8_goes_76 : decode cX8_goes 76 = .ok (.aload_n 0, 1) := by decide +kernel
theorem dX8_goes_77 : decode cX8_goes 77 = .ok (.iload_n 1, 1) := by decide +kernel
theorem dX8_goes_78 : decode cX8_goes 78 = .ok (.invokevirtual 310, 3) := by decide +kernel
theorem dX8_goes_81 : decode cX8_goes 81 = .ok (.ifCond .eq 15, 3) := by decide +kernel
theorem dX8_goes_84 : decode cX8_goes 84 = .ok (.aload_n 0, 1) := by decide +kernel
theorem dX8_goes_85 : decode cX8_goes 85 = .ok (.iload_n 1, 1) := by decide +kernel
theorem dX8_goes_86 : decode cX8_goes 86 = .ok (.invokevirtual 322, 3) := by decide +kernel
theorem dX8_goes_89 : decode cX8_goes 89 = .ok (.ifCond .eq 7, 3) := by decide +kernel
theorem dX8_goes_92 : decode cX8_goes 92 = .ok (.iconst 1, 1) := by decide +kernel
theorem dX8_goes_93 : decode cX8_goes 93 = .ok (.goto 4, 3) := by decide +kernel
theorem dX8_goes_96 : decode cX8_goes 96 = .ok (.iconst 0, 1) := by decide +kernel
theorem dX8_goes_97 : decode cX8_goes 97 = .ok (.ireturn, 1) := by decide +kernel
theorem dX8_goes_98 : decode cX8_goes 98 = .ok (.aload_n 0, 1) := by decide +kernel
theorem dX8_goes_99 : decode cX8_goes 99 = .ok (.iload_n 1, 1) := by decide +kernel
theorem dX8_goes_100 : decode cX8_goes 100 = .ok (.invokevirtual 325, 3) := by decide +kernel
theorem dX8_goes_103 : decode cX8_goes 103 = .ok (.ireturn, 1) := by decide +kernel
theorem dX8_goes_104 : decode cX8_goes 104 = .ok (.aload_n 0, 1) := by decide +kernel
theorem dX8_goes_105 : decode cX8_goes 105 = .ok (.iload_n 1, 1) := by decide +kernel
theorem dX8_goes_106 : decode cX8_goes 106 = .ok (.invokevirtual 328, 3) := by decide +kernel
theorem dX8_goes_109 : decode cX8_goes 109 = .ok (.ireturn, 1) := by decide +kernel
theorem dX8_goes_110 : decode cX8_goes 110 = .ok (.aload_n 0, 1) := by decide +kernel
theorem dX8_goes_111 : decode cX8_goes 111 = .ok (.getfield 23, 3) := by decide +kernel
theorem dX8_goes_114 : decode cX8_goes 114 = .ok (.iload_n 1, 1) := by decide +kernel
theorem dX8_goes_115 : decode cX8_goes 115 = .ok (.iaload, 1) := by decide +kernel
theorem dX8_goes_116 : decode cX8_goes 116 = .ok (.aload_n 0, 1) := by decide +kernel
theorem dX8_goes_117 : decode cX8_goes 117 = .ok (.getfield 13, 3) := by decide +kernel
theorem dX8_goes_120 : decode cX8_goes 120 = .ok (.if_icmp .lt 19, 3) := by decide +kernel
theorem dX8_goes_123 : decode cX8_goes 123 = .ok (.aload_n 0, 1) := by decide +kernel
theorem dX8_goes_124 : decode cX8_goes 124 = .ok (.iload_n 1, 1) := by decide +kernel
theorem dX8_goes_125 : decode cX8_goes 125 = .ok (.invokevirtual 310, 3) := by decide +kernel
theorem dX8_goes_128 : decode cX8_goes 128 = .ok (.ifCond .eq 15, 3) := by decide +kernel
theorem dX8_goes_131 : decode cX8_goes 131 = .ok (.aload_n 0, 1) := by decide +kernel
theorem dX8_goes_132 : decode cX8_goes 132 = .ok (.iload_n 1, 1) := by decide +kernel
theorem dX8_goes_133 : decode cX8_goes 133 = .ok (.invokevirtual 322, 3) := by decide +kernel
theorem dX8_goes_136 : decode cX8_goes 136 = .ok (.ifCond .eq 7, 3) := by decide +kernel
theorem dX8_goes_139 : decode cX8_goes 139 = .ok (.iconst 1, 1) := by decide +kernel
theorem dX8_goes_140 : decode cX8_goes 140 = .ok (.goto 4, 3) := by decide +kernel
theorem dX8_goes_143 : decode cX8_goes 143 = .ok (.iconst 0, 1) := by decide +kernel
theorem dX8_goes_144 : decode cX8_goes 144 = .ok (.ireturn, 1) := by decide +kernel
theorem dX8_goes_145 : decode cX8_goes 145 = .ok (.aload_n 0, 1) := by decide +kernel
theorem dX8_goes_146 : decode cX8_goes 146 = .ok (.getfield 16, 3) := by decide +kernel
theorem dX8_goes_149 : decode cX8_goes 149 = .ok (.iconst 2, 1) := by decide +kernel
theorem dX8_goes_150 : decode cX8_goes 150 = .ok (.irem, 1) := by decide +kernel
theorem dX8_goes_151 : decode cX8_goes 151 = .ok (.ifCond .ne 11, 3) := by decide +kernel
theorem dX8_goes_154 : decode cX8_goes 154 = .ok (.aload_n 0, 1) := by decide +kernel
theorem dX8_goes_155 : decode cX8_goes 155 = .ok (.iload_n 1, 1) := by decide +kernel
theorem dX8_goes_156 : decode cX8_goes 156 = .ok (.invokevirtual 325, 3) := by decide +kernel
theorem dX8_goes_159 : decode cX8_goes 159 = .ok (.goto 8, 3) := by decide +kernel
theorem dX8_goes_162 : decode cX8_goes 162 = .ok (.aload_n 0, 1) := by decide +kernel
theorem dX8_goes_163 : decode cX8_goes 163 = .ok (.iload_n 1, 1) := by decide +kernel
theorem dX8_goes_164 : decode cX8_goes 164 = .ok (.invokevirtual 310, 3) := by decide +kernel
theorem dX8_goes_167 : decode cX8_goes 167 = .ok (.ireturn, 1) := by decide +kernel
theorem dX8_goes_168 : decode cX8_goes 168 = .ok (.aload_n 0, 1) := by decide +kernel
theorem dX8_goes_169 : decode cX8_goes 169 = .ok (.getfield 13, 3) := by decide +kernel
theorem dX8_goes_172 : decode cX8_goes 172 = .ok (.aload_n 0, 1) := by decide +kernel
theorem dX8_goes_173 : decode cX8_goes 173 = .ok (.getfield 29, 3) := by decide +kernel
theorem dX8_goes_176 : decode cX8_goes 176 = .ok (.iconst 4, 1) := by decide +kernel
theorem dX8_goes_177 : decode cX8_goes 177 = .ok (.iload_n 1, 1) := by decide +kernel
theorem dX8_goes_178 : decode cX8_goes 178 = .ok (.imul, 1) := by decide +kernel
theorem dX8_goes_179 : decode cX8_goes 179 = .ok (.aload_n 0, 1) := by decide +kernel
theorem dX8_goes_180 : decode cX8_goes 180 = .ok (.getfield 16, 3) := by decide +kernel
theorem dX8_goes_183 : decode cX8_goes 183 = .ok (.iconst 4, 1) := by decide +kernel
theorem dX8_goes_184 : decode cX8_goes 184 = .ok (.irem, 1) := by decide +kernel
theorem dX8_goes_185 : decode cX8_goes 185 = .ok (.iadd, 1) := by decide +kernel
theorem dX8_goes_186 : decode cX8_goes 186 = .ok (.iaload, 1) := by decide +kernel
theorem dX8_goes_187 : decode cX8_goes 187 = .ok (.if_icmp .eq 11, 3) := by decide +kernel
theorem dX8_goes_190 : decode cX8_goes 190 = .ok (.aload_n 0, 1) := by decide +kernel
theorem dX8_goes_191 : decode cX8_goes 191 = .ok (.iload_n 1, 1) := by decide +kernel
theorem dX8_goes_192 : decode cX8_goes 192 = .ok (.invokevirtual 328, 3) := by decide +kernel
theorem dX8_goes_195 : decode cX8_goes 195 = .ok (.ifCond .eq 7, 3) := by decide +kernel
theorem dX8_goes_198 : decode cX8_goes 198 = .ok (.iconst 1, 1) := by decide +kernel
theorem dX8_goes_199 : decode cX8_goes 199 = .ok (.goto 4, 3) := by decide +kernel
theorem dX8_goes_202 : decode cX8_goes 202 = .ok (.iconst 0, 1) := by decide +kernel
theorem dX8_goes_203 : decode cX8_goes 203 = .ok (.ireturn, 1) := by decide +kernel
theorem dX8_goes_204 : decode cX8_goes 204 = .ok (.aload_n 0, 1) := by decide +kernel
theorem dX8_goes_205 : decode cX8_goes 205 = .ok (.iload_n 1, 1) := by decide +kernel
theorem dX8_goes_206 : decode cX8_goes 206 = .ok (.invokevirtual 310, 3) := by decide +kernel
theorem dX8_goes_209 : decode cX8_goes 209 = .ok (.ireturn, 1) := by decide +kernel
set_option maxRecDepth 20000 in
theorem ggX8_goingSet_X8_goes : GoodIn wsX8_goingSet wsX8_goes := goodIn_r _ [6, 7, 8, 9, 10, 11, 12, 13, 14, 5, 15, 16, 17, 18, 19, 20, 21, 22, 23, 24, 25, 26, 27, 28, 29, 30, 31, 32, 33, 34, 35, 36, 37, 38, 39, 40, 41, 42, 43, 44, 45, 46, 47, 48, 49, 50, 51, 52, 53, 54, 55, 56, 57, 58, 59, 60, 61, 62, 63, 64, 65, 66, 67, 68, 69, 70, 71, 72, 73, 74, 75, 76, 77, 78, 79, 80, 81, 82, 83, 84, 85, 86, 87, 88, 89, 90, 91, 92, 93, 94, 95, 96, 97, 98, 99, 100, 101, 102, 103, 104, 105, 106, 107, 108, 109, 110, 111, 112, 113, 114, 115, 116, 117, 118, 119, 120, 121, 122, 123, 124, 125, 126, 127, 128, 129, 130, 131, 132, 133, 134, 135, 136, 137, 138, 139, 140, 141, 142, 143, 144, 145, 146, 147, 148, 149, 150, 151, 152, 153, 154, 155, 156, 157, 158, 159, 160, 161, 162, 163, 164] (by decide +kernel) (by decide +kernel)
set_option maxRecDepth 20000 in
theorem gX8_goingSet_X8_goes : GoodIn wsX8_goingSet (wsV RX8 331 RX8 yX8_goes wsX8_goes) := goodIn_app (goodIn_of _ (by decide +kernel)) ggX8_goingSet_X8_goes
theorem dX8_goingSet_0 : decode cX8_goingSet 0 = .ok (.iconst 0, 1) := by decide +kernel
theorem dX8_goingSet_1 : decode cX8_goingSet 1 = .ok (.istore_n 1, 1) := by decide +kernel
theorem dX8_goingSet_2 : decode cX8_goingSet 2 = .ok (.iconst 0, 1) := by decide +kernel
theorem dX8_goingSet_3 : decode cX8_goingSet 3 = .ok (.istore_n 2, 1) := by decide +kernel
theorem dX8_goingSet_4 : decode cX8_goingSet 4 = .ok (.iload_n 2, 1) := by decide +kernel
theorem dX8_goingSet_5 : decode cX8_goingSet 5 = .ok (.aload_n 0, 1) := by decide +kernel
theorem dX8_goingSet_6 : decode cX8_goingSet 6 = .ok (.getfield 7, 3) := by decide +kernel
theorem dX8_goingSet_9 : decode cX8_goingSet 9 = .ok (.if_icmp .ge 27, 3) := by decide +kernel
theorem dX8_goingSet_12 : decode cX8_goingSet 12 = .ok (.iload_n 1, 1) := by decide +kernel
theorem dX8_goingSet_13 : decode cX8_goingSet 13 = .ok (.aload_n 0, 1) := by decide +kernel
theorem dX8_goingSet_14 : decode cX8_goingSet 14 = .ok (.iload_n 2, 1) := by decide +kernel
theorem dX8_goingSet_15 : decode cX8_goingSet 15 = .ok (.invokevirtual 331, 3) := by decide +kernel
theorem dX8_goingSet_18 : decode cX8_goingSet 18 = .ok (.ifCond .eq 9, 3) := by decide +kernel
theorem dX8_goingSet_21 : decode cX8_goingSet 21 = .ok (.iconst 1, 1) := by decide +kernel
theorem dX8_goingSet_22 : decode cX8_goingSet 22 = .ok (.iload_n 2, 1) := by decide +kernel
theorem dX8_goingSet_23 : decode cX8_goingSet 23 = .ok (.ishl, 1) := by decide +kernel
theorem dX8_goingSet_24 : decode cX8_goingSet 24 = .ok (.goto 4, 3) := by decide +kernel
theorem dX8_goingSet_27 : decode cX8_goingSet 27 = .ok (.iconst 0, 1) := by decide +kernel
theorem dX8_goingSet_28 : decode cX8_goingSet 28 = .ok (.ior, 1) := by decide +kernel
theorem dX8_goingSet_29 : decode cX8_goingSet 29 = .ok (.istore_n 1, 1) := by decide +kernel
theorem dX8_goingSet_30 : decode cX8_goingSet 30 = .ok (.iinc 2 1, 3) := by decide +kernel
theorem dX8_goingSet_33 : decode cX8_goingSet 33 = .ok (.goto (-29), 3) := by decide +kernel
theorem dX8_goingSet_36 : decode cX8_goingSet 36 = .ok (.iload_n 1, 1) := by decide +kernel
theorem dX8_goingSet_37 : decode cX8_goingSet 37 = .ok (.ireturn, 1) := by decide +kernel
set_option maxRecDepth 20000 in
theorem ggX8_of_X8_isThing : GoodIn wsX8_of wsX8_isThing := goodIn_r _ [8, 9, 10, 11, 12, 7, 13, 106, 107, 108, 109, 110, 111, 112, 113, 114, 115, 116, 117, 118, 119, 120, 121, 122, 123, 124, 125, 126, 127, 128, 129, 130, 131, 132, 133, 134, 135, 136, 137, 138, 139, 140, 141, 142, 143, 144, 145, 146, 147, 148, 149, 150, 151, 152, 153, 154, 155, 156, 157, 158, 159, 160, 161, 162, 163, 164, 165, 166, 167, 168, 169, 170, 171, 172] (by decide +kernel) (by decide +kernel)
set_option maxRecDepth 20000 in
theorem gX8_of_X8_isThing : GoodIn wsX8_of (wsV RX8 227 RX8 yX8_isThing wsX8_isThing) := goodIn_app (goodIn_of _ (by decide +kernel)) ggX8_of_X8_isThing
set_option maxRecDepth 20000 in
theorem ggX8_of_X8_placeOf : GoodIn wsX8_of wsX8_placeOf := goodIn_r _ [17, 18, 19, 106, 107, 108, 109, 110, 111, 112, 113, 114, 115, 116, 117, 118, 119, 120, 121, 122, 123, 124, 125, 126, 127, 128, 129, 130, 131, 132, 133, 134, 135, 136, 137, 138, 139, 140, 141, 142, 143, 144, 145, 146, 147, 148, 149, 150, 151, 152, 153, 154, 155, 156, 157, 158, 159, 160, 161, 162, 163, 164, 165, 166, 167, 168, 169, 170, 171, 172] (by decide +kernel) (by decide +kernel)
set_option maxRecDepth 20000 in
theorem gX8_of_X8_placeOf : GoodIn wsX8_of (wsV RX8 230 RX8 yX8_placeOf wsX8_placeOf) := goodIn_app (goodIn_of _ (by decide +kernel)) ggX8_of_X8_placeOf
set_option maxRecDepth 20000 in
theorem ggX8_of_X8_taste : GoodIn wsX8_of wsX8_taste := goodIn_r _ [23, 24, 25, 26, 27, 28, 7, 29, 30, 31, 32, 33, 34, 35, 36, 37, 38, 39, 40, 41, 42, 43, 44, 45, 46, 47, 1, 2, 3, 18, 48, 49, 50, 51, 52, 53, 54, 55, 56, 106, 107, 108, 109, 110, 111, 112, 113, 114, 115, 116, 117, 118, 119, 120, 121, 122, 123, 124, 125, 126, 127, 128, 129, 130, 131, 132, 133, 134, 135, 136, 137, 138, 139, 140, 141, 142, 143, 144, 145, 146, 147, 148, 149, 150, 151, 152, 153, 154, 155, 156, 157, 158, 159, 160, 161, 162, 163, 164, 165, 166, 167, 168, 169, 170, 171, 172] (by decide +kernel) (by decide +kernel)
set_option maxRecDepth 20000 in
theorem gX8_of_X8_taste : GoodIn wsX8_of (wsV RX8 304 RX8 yX8_taste wsX8_taste) := goodIn_app (goodIn_of _ (by decide +kernel)) ggX8_of_X8_taste
set_option maxRecDepth 20000 in
theorem ggX8_of_X8_alikeOf : GoodIn wsX8_of wsX8_alikeOf := goodIn_r _ [60, 3, 61, 62, 63, 7, 64, 18, 19, 49, 50, 51, 52, 53, 54, 55, 56, 106, 107, 108, 109, 110, 111, 112, 113, 114, 115, 116, 117, 118, 119, 120, 121, 122, 123, 124, 125, 126, 127, 128, 129, 130, 131, 132, 133, 134, 135, 136, 137, 138, 139, 140, 141, 142, 143, 144, 145, 146, 147, 148, 149, 150, 151, 152, 153, 154, 155, 156, 157, 158, 159, 160, 161, 162, 163, 164, 165, 166, 167, 168, 169, 170, 171, 172] (by decide +kernel) (by decide +kernel)
set_option maxRecDepth 20000 in
theorem gX8_of_X8_alikeOf : GoodIn wsX8_of (wsV RX8 301 RX8 yX8_alikeOf wsX8_alikeOf) := goodIn_app (goodIn_of _ (by decide +kernel)) ggX8_of_X8_alikeOf
set_option maxRecDepth 20000 in
theorem ggX8_of_X8_goes : GoodIn wsX8_of wsX8_goes := goodIn_r _ [68, 18, 1, 2, 48, 69, 70, 71, 72, 7, 73, 74, 75, 76, 77, 24, 25, 26, 27, 28, 29, 30, 31, 32, 33, 34, 35, 78, 79, 80, 81, 14, 15, 16, 17, 19, 82, 83, 84, 85, 57, 58, 59, 60, 3, 61, 62, 63, 64, 49, 50, 51, 52, 53, 54, 55, 56, 20, 21, 22, 23, 36, 37, 38, 39, 40, 41, 42, 43, 44, 45, 46, 47, 86, 87, 88, 89, 90, 91, 92, 93, 94, 95, 96, 97, 98, 99, 100, 101, 102, 103, 104, 105, 106, 107, 108, 109, 110, 111, 112, 113, 114, 115, 116, 117, 118, 119, 120, 121, 122, 123, 124, 125, 126, 127, 128, 129, 130, 131, 132, 133, 134, 135, 136, 137, 138, 139, 140, 141, 142, 143, 144, 145, 146, 147, 148, 149, 150, 151, 152, 153, 154, 155, 156, 157, 158, 159, 160, 161, 162, 163, 164, 165, 166, 167, 168, 169, 170, 171, 172] (by decide +kernel) (by decide +kernel)
set_option maxRecDepth 20000 in
theorem gX8_of_X8_goes : GoodIn wsX8_of (wsV RX8 331 RX8 yX8_goes wsX8_goes) := goodIn_app (goodIn_of _ (by decide +kernel)) ggX8_of_X8_goes
theorem dX8_of_0 : decode cX8_of 0 = .ok (.aload_n 0, 1) := by decide +kernel
theorem dX8_of_1 : decode cX8_of 1 = .ok (.iload_n 1, 1) := by decide +kernel
theorem dX8_of_2 : decode cX8_of 2 = .ok (.invokevirtual 227, 3) := by decide +kernel
theorem dX8_of_5 : decode cX8_of 5 = .ok (.ifCond .ne 7, 3) := by decide +kernel
theorem dX8_of_8 : decode cX8_of 8 = .ok (.sipush (-1001), 3) := by decide +kernel
theorem dX8_of_11 : decode cX8_of 11 = .ok (.ireturn, 1) := by decide +kernel
theorem dX8_of_12 : decode cX8_of 12 = .ok (.iload_n 2, 1) := by decide +kernel
theorem dX8_of_13 : decode cX8_of 13 = .ok (.tableswitch 96 0 6 #[43, 50, 57, 64, 70, 76, 82], 43) := by decide +kernel
theorem dX8_of_56 : decode cX8_of 56 = .ok (.aload_n 0, 1) := by decide +kernel
theorem dX8_of_57 : decode cX8_of 57 = .ok (.getfield 19, 3) := by decide +kernel
theorem dX8_of_60 : decode cX8_of 60 = .ok (.iload_n 1, 1) := by decide +kernel
theorem dX8_of_61 : decode cX8_of 61 = .ok (.iaload, 1) := by decide +kernel
theorem dX8_of_62 : decode cX8_of 62 = .ok (.ireturn, 1) := by decide +kernel
theorem dX8_of_63 : decode cX8_of 63 = .ok (.aload_n 0, 1) := by decide +kernel
theorem dX8_of_64 : decode cX8_of 64 = .ok (.getfield 23, 3) := by decide +kernel
theorem dX8_of_67 : decode cX8_of 67 = .ok (.iload_n 1, 1) := by decide +kernel
theorem dX8_of_68 : decode cX8_of 68 = .ok (.iaload, 1) := by decide +kernel
theorem dX8_of_69 : decode cX8_of 69 = .ok (.ireturn, 1) := by decide +kernel
theorem dX8_of_70 : decode cX8_of 70 = .ok (.aload_n 0, 1) := by decide +kernel
theorem dX8_of_71 : decode cX8_of 71 = .ok (.getfield 26, 3) := by decide +kernel
theorem dX8_of_74 : decode cX8_of 74 = .ok (.iload_n 1, 1) := by decide +kernel
theorem dX8_of_75 : decode cX8_of 75 = .ok (.iaload, 1) := by decide +kernel
theorem dX8_of_76 : decode cX8_of 76 = .ok (.ireturn, 1) := by decide +kernel
theorem dX8_of_77 : decode cX8_of 77 = .ok (.aload_n 0, 1) := by decide +kernel
theorem dX8_of_78 : decode cX8_of 78 = .ok (.iload_n 1, 1) := by decide +kernel
theorem dX8_of_79 : decode cX8_of 79 = .ok (.invokevirtual 230, 3) := by decide +kernel
theorem dX8_of_82 : decode cX8_of 82 = .ok (.ireturn, 1) := by decide +kernel
theorem dX8_of_83 : decode cX8_of 83 = .ok (.aload_n 0, 1) := by decide +kernel
theorem dX8_of_84 : decode cX8_of 84 = .ok (.iload_n 1, 1) := by decide +kernel
theorem dX8_of_85 : decode cX8_of 85 = .ok (.invokevirtual 304, 3) := by decide +kernel
theorem dX8_of_88 : decode cX8_of 88 = .ok (.ireturn, 1) := by decide +kernel
theorem dX8_of_89 : decode cX8_of 89 = .ok (.aload_n 0, 1) := by decide +kernel
theorem dX8_of_90 : decode cX8_of 90 = .ok (.iload_n 1, 1) := by decide +kernel
theorem dX8_of_91 : decode cX8_of 91 = .ok (.invokevirtual 301, 3) := by decide +kernel
theorem dX8_of_94 : decode cX8_of 94 = .ok (.ireturn, 1) := by decide +kernel
theorem dX8_of_95 : decode cX8_of 95 = .ok (.aload_n 0, 1) := by decide +kernel
theorem dX8_of_96 : decode cX8_of 96 = .ok (.iload_n 1, 1) := by decide +kernel
theorem dX8_of_97 : decode cX8_of 97 = .ok (.invokevirtual 331, 3) := by decide +kernel
theorem dX8_of_100 : decode cX8_of 100 = .ok (.ifCond .eq 7, 3) := by decide +kernel
theorem dX8_of_103 : decode cX8_of 103 = .ok (.iconst 1, 1) := by decide +kernel
theorem dX8_of_104 : decode cX8_of 104 = .ok (.goto 4, 3) := by decide +kernel
theorem dX8_of_107 : decode cX8_of 107 = .ok (.iconst 0, 1) := by decide +kernel
theorem dX8_of_108 : decode cX8_of 108 = .ok (.ireturn, 1) := by decide +kernel
theorem dX8_of_109 : decode cX8_of 109 = .ok (.sipush (-1001), 3) := by decide +kernel
theorem dX8_of_112 : decode cX8_of 112 = .ok (.ireturn, 1) := by decide +kernel
theorem dX8_pushes_0 : decode cX8_pushes 0 = .ok (.aload_n 0, 1) := by decide +kernel
theorem dX8_pushes_1 : decode cX8_pushes 1 = .ok (.getfield 32, 3) := by decide +kernel
theorem dX8_pushes_4 : decode cX8_pushes 4 = .ok (.aload_n 0, 1) := by decide +kernel
theorem dX8_pushes_5 : decode cX8_pushes 5 = .ok (.getfield 13, 3) := by decide +kernel
theorem dX8_pushes_8 : decode cX8_pushes 8 = .ok (.iload_n 1, 1) := by decide +kernel
theorem dX8_pushes_9 : decode cX8_pushes 9 = .ok (.iastore, 1) := by decide +kernel
theorem dX8_pushes_10 : decode cX8_pushes 10 = .ok (.aload_n 0, 1) := by decide +kernel
theorem dX8_pushes_11 : decode cX8_pushes 11 = .ok (.dup, 1) := by decide +kernel
theorem dX8_pushes_12 : decode cX8_pushes 12 = .ok (.getfield 13, 3) := by decide +kernel
theorem dX8_pushes_15 : decode cX8_pushes 15 = .ok (.iconst 1, 1) := by decide +kernel
theorem dX8_pushes_16 : decode cX8_pushes 16 = .ok (.iadd, 1) := by decide +kernel
theorem dX8_pushes_17 : decode cX8_pushes 17 = .ok (.putfield 13, 3) := by decide +kernel
theorem dX8_pushes_20 : decode cX8_pushes 20 = .ok (.return_, 1) := by decide +kernel
set_option maxRecDepth 20000 in
theorem ggX8_take_X8_isThing : GoodIn wsX8_take wsX8_isThing := goodIn_r _ [6, 7, 8, 9, 10, 5, 11, 110, 111, 112, 113, 114, 115, 116, 117, 118, 119, 120, 121, 122, 123, 124, 125, 126, 127, 128, 129, 130, 131, 132, 133, 134, 135, 136, 137, 138, 139, 140, 141, 142, 143, 144, 145, 146, 147, 148, 149, 150, 151, 152, 153, 154, 155, 156, 157, 158, 159, 160, 161, 162, 163, 164, 165, 166, 167, 168, 169, 170, 171, 172, 173, 174, 175, 176] (by decide +kernel) (by decide +kernel)
set_option maxRecDepth 20000 in
theorem gX8_take_X8_isThing : GoodIn wsX8_take (wsV RX8 227 RX8 yX8_isThing wsX8_isThing) := goodIn_app (goodIn_of _ (by decide +kernel)) ggX8_take_X8_isThing
set_option maxRecDepth 20000 in
theorem ggX8_take_X8_goes : GoodIn wsX8_take wsX8_goes := goodIn_r _ [15, 1, 16, 17, 18, 19, 20, 21, 22, 5, 23, 24, 25, 26, 27, 28, 29, 30, 31, 32, 33, 34, 35, 36, 37, 38, 39, 40, 41, 42, 43, 44, 45, 46, 47, 48, 49, 50, 51, 52, 53, 54, 55, 56, 57, 58, 59, 60, 61, 62, 63, 64, 65, 66, 67, 68, 69, 70, 71, 72, 73, 74, 75, 76, 77, 78, 79, 80, 81, 82, 83, 84, 85, 86, 87, 88, 89, 90, 91, 92, 93, 94, 95, 96, 97, 98, 99, 100, 101, 102, 103, 104, 105, 110, 111, 112, 113, 114, 115, 116, 117, 118, 119, 120, 121, 122, 123, 124, 125, 126, 127, 128, 129, 130, 131, 132, 133, 134, 135, 136, 137, 138, 139, 140, 141, 142, 143, 144, 145, 146, 147, 148, 149, 150, 151, 152, 153, 154, 155, 156, 157, 158, 159, 160, 161, 162, 163, 164, 165, 166, 167, 168, 169, 170, 171, 172, 173, 174, 175, 176] (by decide +kernel) (by decide +kernel)
set_option maxRecDepth 20000 in
theorem gX8_take_X8_goes : GoodIn wsX8_take (wsV RX8 331 RX8 yX8_goes wsX8_goes) := goodIn_app (goodIn_of _ (by decide +kernel)) ggX8_take_X8_goes
set_option maxRecDepth 20000 in
theorem ggX8_take_X8_pushes : GoodIn wsX8_take wsX8_pushes := goodIn_r _ [109, 48, 1, 110, 111, 112, 113, 114, 115, 116, 117, 118, 119, 120, 121, 122, 123, 124, 125, 126, 127, 128, 129, 130, 131, 132, 133, 134, 135, 136, 137, 138, 139, 140, 141, 142, 143, 144, 145, 146, 147, 148, 149, 150, 151, 152, 153, 154, 155, 156, 157, 158, 159, 160, 161, 162, 163, 164, 165, 166, 167, 168, 169, 170, 171, 172, 173, 174, 175, 176] (by decide +kernel) (by decide +kernel)
set_option maxRecDepth 20000 in
theorem gX8_take_X8_pushes : GoodIn wsX8_take (wsV RX8 334 RX8 yX8_pushes wsX8_pushes) := goodIn_app (goodIn_of _ (by decide +kernel)) ggX8_take_X8_pushes
theorem dX8_take_0 : decode cX8_take 0 = .ok (.aload_n 0, 1) := by decide +kernel
theorem dX8_take_1 : decode cX8_take 1 = .ok (.iload_n 1, 1) := by decide +kernel
theorem dX8_take_2 : decode cX8_take 2 = .ok (.invokevirtual 227, 3) := by decide +kernel
theorem dX8_take_5 : decode cX8_take 5 = .ok (.ifCond .ne 5, 3) := by decide +kernel
theorem dX8_take_8 : decode cX8_take 8 = .ok (.iconst (-1), 1) := by decide +kernel
theorem dX8_take_9 : decode cX8_take 9 = .ok (.ireturn, 1) := by decide +kernel
theorem dX8_take_10 : decode cX8_take 10 = .ok (.aload_n 0, 1) := by decide +kernel
theorem dX8_take_11 : decode cX8_take 11 = .ok (.iload_n 1, 1) := by decide +kernel
theorem dX8_take_12 : decode cX8_take 12 = .ok (.invokevirtual 331, 3) := by decide +kernel
theorem dX8_take_15 : decode cX8_take 15 = .ok (.ifCond .ne 6, 3) := by decide +kernel
theorem dX8_take_18 : decode cX8_take 18 = .ok (.bipush (-3), 2) := by decide +kernel
theorem dX8_take_20 : decode cX8_take 20 = .ok (.ireturn, 1) := by decide +kernel
theorem dX8_take_21 : decode cX8_take 21 = .ok (.aload_n 0, 1) := by decide +kernel
theorem dX8_take_22 : decode cX8_take 22 = .ok (.iload_n 1, 1) := by decide +kernel
theorem dX8_take_23 : decode cX8_take 23 = .ok (.invokevirtual 334, 3) := by decide +kernel
theorem dX8_take_26 : decode cX8_take 26 = .ok (.aload_n 0, 1) := by decide +kernel
theorem dX8_take_27 : decode cX8_take 27 = .ok (.getfield 13, 3) := by decide +kernel
theorem dX8_take_30 : decode cX8_take 30 = .ok (.ireturn, 1) := by decide +kernel
theorem dX8_put_0 : decode cX8_put 0 = .ok (.aload_n 0, 1) := by decide +kernel
theorem dX8_put_1 : decode cX8_put 1 = .ok (.getfield 13, 3) := by decide +kernel
theorem dX8_put_4 : decode cX8_put 4 = .ok (.ifCond .ne 6, 3) := by decide +kernel
theorem dX8_put_7 : decode cX8_put 7 = .ok (.bipush (-3), 2) := by decide +kernel
theorem dX8_put_9 : decode cX8_put 9 = .ok (.ireturn, 1) := by decide +kernel
theorem dX8_put_10 : decode cX8_put 10 = .ok (.aload_n 0, 1) := by decide +kernel
theorem dX8_put_11 : decode cX8_put 11 = .ok (.dup, 1) := by decide +kernel
theorem dX8_put_12 : decode cX8_put 12 = .ok (.getfield 13, 3) := by decide +kernel
theorem dX8_put_15 : decode cX8_put 15 = .ok (.iconst 1, 1) := by decide +kernel
theorem dX8_put_16 : decode cX8_put 16 = .ok (.isub, 1) := by decide +kernel
theorem dX8_put_17 : decode cX8_put 17 = .ok (.putfield 13, 3) := by decide +kernel
theorem dX8_put_20 : decode cX8_put 20 = .ok (.aload_n 0, 1) := by decide +kernel
theorem dX8_put_21 : decode cX8_put 21 = .ok (.getfield 32, 3) := by decide +kernel
theorem dX8_put_24 : decode cX8_put 24 = .ok (.aload_n 0, 1) := by decide +kernel
theorem dX8_put_25 : decode cX8_put 25 = .ok (.getfield 13, 3) := by decide +kernel
theorem dX8_put_28 : decode cX8_put 28 = .ok (.iaload, 1) := by decide +kernel
theorem dX8_put_29 : decode cX8_put 29 = .ok (.ireturn, 1) := by decide +kernel
set_option maxRecDepth 20000 in
theorem ggX8_twins_X8_bits : GoodIn wsX8_twins wsX8_bits := goodIn_r _ [7, 8, 9, 10, 6, 11] (by decide +kernel) (by decide +kernel)
set_option maxRecDepth 20000 in
theorem gX8_twins_X8_bits : GoodIn wsX8_twins (wsV RX8 289 RX8 yX8_bits wsX8_bits) := goodIn_app (goodIn_of _ (by decide +kernel)) ggX8_twins_X8_bits
theorem dX8_twins_0 : decode cX8_twins 0 = .ok (.bipush (-5), 2) := by decide +kernel
theorem dX8_twins_2 : decode cX8_twins 2 = .ok (.istore_n 1, 1) := by decide +kernel
theorem dX8_twins_3 : decode cX8_twins 3 = .ok (.iconst 0, 1) := by decide +kernel
theorem dX8_twins_4 : decode cX8_twins 4 = .ok (.istore_n 2, 1) := by decide +kernel
theorem dX8_twins_5 : decode cX8_twins 5 = .ok (.iconst 0, 1) := by decide +kernel
theorem dX8_twins_6 : decode cX8_twins 6 = .ok (.istore_n 3, 1) := by decide +kernel
theorem dX8_twins_7 : decode cX8_twins 7 = .ok (.iload_n 3, 1) := by decide +kernel
theorem dX8_twins_8 : decode cX8_twins 8 = .ok (.aload_n 0, 1) := by decide +kernel
theorem dX8_twins_9 : decode cX8_twins 9 = .ok (.getfield 7, 3) := by decide +kernel
theorem dX8_twins_12 : decode cX8_twins 12 = .ok (.if_icmp .ge 73, 3) := by decide +kernel
theorem dX8_twins_15 : decode cX8_twins 15 = .ok (.iload_n 3, 1) := by decide +kernel
theorem dX8_twins_16 : decode cX8_twins 16 = .ok (.iconst 1, 1) := by decide +kernel
theorem dX8_twins_17 : decode cX8_twins 17 = .ok (.iadd, 1) := by decide +kernel
theorem dX8_twins_18 : decode cX8_twins 18 = .ok (.istore 4, 2) := by decide +kernel
theorem dX8_twins_20 : decode cX8_twins 20 = .ok (.iload 4, 2) := by decide +kernel
theorem dX8_twins_22 : decode cX8_twins 22 = .ok (.aload_n 0, 1) := by decide +kernel
theorem dX8_twins_23 : decode cX8_twins 23 = .ok (.getfield 7, 3) := by decide +kernel
theorem dX8_twins_26 : decode cX8_twins 26 = .ok (.if_icmp .ge 53, 3) := by decide +kernel
theorem dX8_twins_29 : decode cX8_twins 29 = .ok (.aload_n 0, 1) := by decide +kernel
theorem dX8_twins_30 : decode cX8_twins 30 = .ok (.aload_n 0, 1) := by decide +kernel
theorem dX8_twins_31 : decode cX8_twins 31 = .ok (.getfield 26, 3) := by decide +kernel
theorem dX8_twins_34 : decode cX8_twins 34 = .ok (.iload_n 3, 1) := by decide +kernel
theorem dX8_twins_35 : decode cX8_twins 35 = .ok (.iaload, 1) := by decide +kernel
theorem dX8_twins_36 : decode cX8_twins 36 = .ok (.aload_n 0, 1) := by decide +kernel
theorem dX8_twins_37 : decode cX8_twins 37 = .ok (.getfield 26, 3) := by decide +kernel
theorem dX8_twins_40 : decode cX8_twins 40 = .ok (.iload 4, 2) := by decide +kernel
theorem dX8_twins_42 : decode cX8_twins 42 = .ok (.iaload, 1) := by decide +kernel
theorem dX8_twins_43 : decode cX8_twins 43 = .ok (.ixor, 1) := by decide +kernel
theorem dX8_twins_44 : decode cX8_twins 44 = .ok (.invokevirtual 289, 3) := by decide +kernel
theorem dX8_twins_47 : decode cX8_twins 47 = .ok (.istore 5, 2) := by decide +kernel
theorem dX8_twins_49 : decode cX8_twins 49 = .ok (.iload_n 1, 1) := by decide +kernel
theorem dX8_twins_50 : decode cX8_twins 50 = .ok (.ifCond .lt 12, 3) := by decide +kernel
theorem dX8_twins_53 : decode cX8_twins 53 = .ok (.iload 5, 2) := by decide +kernel
theorem dX8_twins_55 : decode cX8_twins 55 = .ok (.iload_n 2, 1) := by decide +kernel
theorem dX8_twins_56 : decode cX8_twins 56 = .ok (.if_icmp .lt 6, 3) := by decide +kernel
theorem dX8_twins_59 : decode cX8_twins 59 = .ok (.goto 14, 3) := by decide +kernel
theorem dX8_twins_62 : decode cX8_twins 62 = .ok (.bipush 10, 2) := by decide +kernel
theorem dX8_twins_64 : decode cX8_twins 64 = .ok (.iload_n 3, 1) := by decide +kernel
theorem dX8_twins_65 : decode cX8_twins 65 = .ok (.imul, 1) := by decide +kernel
theorem dX8_twins_66 : decode cX8_twins 66 = .ok (.iload 4, 2) := by decide +kernel
theorem dX8_twins_68 : decode cX8_twins 68 = .ok (.iadd, 1) := by decide +kernel
theorem dX8_twins_69 : decode cX8_twins 69 = .ok (.istore_n 1, 1) := by decide +kernel
theorem dX8_twins_70 : decode cX8_twins 70 = .ok (.iload 5, 2) := by decide +kernel
theorem dX8_twins_72 : decode cX8_twins 72 = .ok (.istore_n 2, 1) := by decide +kernel
theorem dX8_twins_73 : decode cX8_twins 73 = .ok (.iinc 4 1, 3) := by decide +kernel
theorem dX8_twins_76 : decode cX8_twins 76 = .ok (.goto (-56), 3) := by decide +kernel
theorem dX8_twins_79 : decode cX8_twins 79 = .ok (.iinc 3 1, 3) := by decide +kernel
theorem dX8_twins_82 : decode cX8_twins 82 = .ok (.goto (-75), 3) := by decide +kernel
theorem dX8_twins_85 : decode cX8_twins 85 = .ok (.iload_n 1, 1) := by decide +kernel
theorem dX8_twins_86 : decode cX8_twins 86 = .ok (.ireturn, 1) := by decide +kernel
set_option maxRecDepth 20000 in
theorem ggX8_marksOf_X8_has : GoodIn wsX8_marksOf wsX8_has := goodIn_r _ [7] (by decide +kernel) (by decide +kernel)
set_option maxRecDepth 20000 in
theorem gX8_marksOf_X8_has : GoodIn wsX8_marksOf (wsV RX8 215 RX8 yX8_has wsX8_has) := goodIn_app (goodIn_of _ (by decide +kernel)) ggX8_marksOf_X8_has
theorem dX8_marksOf_0 : decode cX8_marksOf 0 = .ok (.iconst 0, 1) := by decide +kernel
theorem dX8_marksOf_1 : decode cX8_marksOf 1 = .ok (.istore_n 2, 1) := by decide +kernel
theorem dX8_marksOf_2 : decode cX8_marksOf 2 = .ok (.iconst 0, 1) := by decide +kernel
theorem dX8_marksOf_3 : decode cX8_marksOf 3 = .ok (.istore_n 3, 1) := by decide +kernel
theorem dX8_marksOf_4 : decode cX8_marksOf 4 = .ok (.iload_n 3, 1) := by decide +kernel
theorem dX8_marksOf_5 : decode cX8_marksOf 5 = .ok (.aload_n 0, 1) := by decide +kernel
theorem dX8_marksOf_6 : decode cX8_marksOf 6 = .ok (.getfield 7, 3) := by decide +kernel
theorem dX8_marksOf_9 : decode cX8_marksOf 9 = .ok (.if_icmp .ge 31, 3) := by decide +kernel
theorem dX8_marksOf_12 : decode cX8_marksOf 12 = .ok (.iload_n 2, 1) := by decide +kernel
theorem dX8_marksOf_13 : decode cX8_marksOf 13 = .ok (.aload_n 0, 1) := by decide +kernel
theorem dX8_marksOf_14 : decode cX8_marksOf 14 = .ok (.iload_n 1, 1) := by decide +kernel
theorem dX8_marksOf_15 : decode cX8_marksOf 15 = .ok (.iload_n 3, 1) := by decide +kernel
theorem dX8_marksOf_16 : decode cX8_marksOf 16 = .ok (.invokevirtual 215, 3) := by decide +kernel
theorem dX8_marksOf_19 : decode cX8_marksOf 19 = .ok (.ifCond .eq 12, 3) := by decide +kernel
theorem dX8_marksOf_22 : decode cX8_marksOf 22 = .ok (.aload_n 0, 1) := by decide +kernel
theorem dX8_marksOf_23 : decode cX8_marksOf 23 = .ok (.getfield 26, 3) := by decide +kernel
theorem dX8_marksOf_26 : decode cX8_marksOf 26 = .ok (.iload_n 3, 1) := by decide +kernel
theorem dX8_marksOf_27 : decode cX8_marksOf 27 = .ok (.iaload, 1) := by decide +kernel
theorem dX8_marksOf_28 : decode cX8_marksOf 28 = .ok (.goto 4, 3) := by decide +kernel
theorem dX8_marksOf_31 : decode cX8_marksOf 31 = .ok (.iconst 0, 1) := by decide +kernel
theorem dX8_marksOf_32 : decode cX8_marksOf 32 = .ok (.ior, 1) := by decide +kernel
theorem dX8_marksOf_33 : decode cX8_marksOf 33 = .ok (.istore_n 2, 1) := by decide +kernel
theorem dX8_marksOf_34 : decode cX8_marksOf 34 = .ok (.iinc 3 1, 3) := by decide +kernel
theorem dX8_marksOf_37 : decode cX8_marksOf 37 = .ok (.goto (-33), 3) := by decide +kernel
theorem dX8_marksOf_40 : decode cX8_marksOf 40 = .ok (.iload_n 2, 1) := by decide +kernel
theorem dX8_marksOf_41 : decode cX8_marksOf 41 = .ok (.ireturn, 1) := by decide +kernel
set_option maxRecDepth 20000 in
theorem ggX8_cover_X8_bits : GoodIn wsX8_cover wsX8_bits := goodIn_r _ [6, 7, 8, 9, 5, 10] (by decide +kernel) (by decide +kernel)
set_option maxRecDepth 20000 in
theorem gX8_cover_X8_bits : GoodIn wsX8_cover (wsV RX8 289 RX8 yX8_bits wsX8_bits) := goodIn_app (goodIn_of _ (by decide +kernel)) ggX8_cover_X8_bits
set_option maxRecDepth 20000 in
theorem ggX8_cover_X8_marksOf : GoodIn wsX8_cover wsX8_marksOf := goodIn_r _ [14, 1, 15, 7, 8, 9, 5, 10, 16, 17, 18, 19, 20, 21, 22, 23, 24, 25, 26, 27, 28, 29, 30, 31, 32, 33, 34, 35, 36, 37, 38, 39, 40, 41, 42, 43, 44, 45, 46, 47, 48, 49, 50, 51, 52, 53, 54, 55, 56, 57, 58, 59, 60, 61, 62, 63, 64, 65, 66, 67, 68, 69, 70, 71, 72, 73, 74, 75, 76, 77, 78, 79, 80, 81, 82] (by decide +kernel) (by decide +kernel)
set_option maxRecDepth 20000 in
theorem gX8_cover_X8_marksOf : GoodIn wsX8_cover (wsV RX8 337 RX8 yX8_marksOf wsX8_marksOf) := goodIn_app (goodIn_of _ (by decide +kernel)) ggX8_cover_X8_marksOf
theorem dX8_cover_0 : decode cX8_cover 0 = .ok (.iconst 1, 1) := by decide +kernel
theorem dX8_cover_1 : decode cX8_cover 1 = .ok (.aload_n 0, 1) := by decide +kernel
theorem dX8_cover_2 : decode cX8_cover 2 = .ok (.getfield 7, 3) := by decide +kernel
theorem dX8_cover_5 : decode cX8_cover 5 = .ok (.ishl, 1) := by decide +kernel
theorem dX8_cover_6 : decode cX8_cover 6 = .ok (.iconst 1, 1) := by decide +kernel
theorem dX8_cover_7 : decode cX8_cover 7 = .ok (.isub, 1) := by decide +kernel
theorem dX8_cover_8 : decode cX8_cover 8 = .ok (.istore_n 1, 1) := by decide +kernel
theorem dX8_cover_9 : decode cX8_cover 9 = .ok (.iload_n 1, 1) := by decide +kernel
theorem dX8_cover_10 : decode cX8_cover 10 = .ok (.istore_n 2, 1) := by decide +kernel
theorem dX8_cover_11 : decode cX8_cover 11 = .ok (.iload_n 1, 1) := by decide +kernel
theorem dX8_cover_12 : decode cX8_cover 12 = .ok (.istore_n 3, 1) := by decide +kernel
theorem dX8_cover_13 : decode cX8_cover 13 = .ok (.iload_n 3, 1) := by decide +kernel
theorem dX8_cover_14 : decode cX8_cover 14 = .ok (.ifCond .lt 37, 3) := by decide +kernel
theorem dX8_cover_17 : decode cX8_cover 17 = .ok (.aload_n 0, 1) := by decide +kernel
theorem dX8_cover_18 : decode cX8_cover 18 = .ok (.iload_n 3, 1) := by decide +kernel
theorem dX8_cover_19 : decode cX8_cover 19 = .ok (.invokevirtual 289, 3) := by decide +kernel
theorem dX8_cover_22 : decode cX8_cover 22 = .ok (.aload_n 0, 1) := by decide +kernel
theorem dX8_cover_23 : decode cX8_cover 23 = .ok (.iload_n 2, 1) := by decide +kernel
theorem dX8_cover_24 : decode cX8_cover 24 = .ok (.invokevirtual 289, 3) := by decide +kernel
theorem dX8_cover_27 : decode cX8_cover 27 = .ok (.if_icmp .gt 18, 3) := by decide +kernel
theorem dX8_cover_30 : decode cX8_cover 30 = .ok (.aload_n 0, 1) := by decide +kernel
theorem dX8_cover_31 : decode cX8_cover 31 = .ok (.iload_n 3, 1) := by decide +kernel
theorem dX8_cover_32 : decode cX8_cover 32 = .ok (.invokevirtual 337, 3) := by decide +kernel
theorem dX8_cover_35 : decode cX8_cover 35 = .ok (.aload_n 0, 1) := by decide +kernel
theorem dX8_cover_36 : decode cX8_cover 36 = .ok (.iload_n 1, 1) := by decide +kernel
theorem dX8_cover_37 : decode cX8_cover 37 = .ok (.invokevirtual 337, 3) := by decide +kernel
theorem dX8_cover_40 : decode cX8_cover 40 = .ok (.if_icmp .ne 5, 3) := by decide +kernel
theorem dX8_cover_43 : decode cX8_cover 43 = .ok (.iload_n 3, 1) := by decide +kernel
theorem dX8_cover_44 : decode cX8_cover 44 = .ok (.istore_n 2, 1) := by decide +kernel
theorem dX8_cover_45 : decode cX8_cover 45 = .ok (.iinc 3 (-1), 3) := by decide +kernel
theorem dX8_cover_48 : decode cX8_cover 48 = .ok (.goto (-35), 3) := by decide +kernel
theorem dX8_cover_51 : decode cX8_cover 51 = .ok (.iload_n 2, 1) := by decide +kernel
theorem dX8_cover_52 : decode cX8_cover 52 = .ok (.ireturn, 1) := by decide +kernel
set_option maxRecDepth 20000 in
theorem ggX8_told_X8_need : GoodIn wsX8_told wsX8_need := goodIn_r _ [6, 7, 8, 9, 5, 10, 11, 12, 13, 14, 15, 16, 17, 18, 19, 20, 21, 22, 118, 119, 120, 121, 122, 123, 124, 125, 126, 127, 128, 129, 130, 131, 132, 133, 134, 135, 136, 137, 138, 139, 140, 141, 142, 143, 144, 145, 146, 147, 148, 149, 150, 151, 152, 153, 154, 155, 156, 157, 158, 159, 160, 161, 162, 163, 164, 165, 166, 167, 168, 169, 170, 171, 172, 173, 174, 175, 176, 177, 178, 179, 180, 181, 182, 183, 184] (by decide +kernel) (by decide +kernel)
set_option maxRecDepth 20000 in
theorem gX8_told_X8_need : GoodIn wsX8_told (wsV RX8 307 RX8 yX8_need wsX8_need) := goodIn_app (goodIn_of _ (by decide +kernel)) ggX8_told_X8_need
set_option maxRecDepth 20000 in
theorem ggX8_told_X8_hold : GoodIn wsX8_told wsX8_hold := goodIn_r _ [26, 7, 8, 9, 5, 10, 11, 12, 13, 14, 15, 16, 17, 18, 19, 20, 21, 22, 118, 119, 120, 121, 122, 123, 124, 125, 126, 127, 128, 129, 130, 131, 132, 133, 134, 135, 136, 137, 138, 139, 140, 141, 142, 143, 144, 145, 146, 147, 148, 149, 150, 151, 152, 153, 154, 155, 156, 157, 158, 159, 160, 161, 162, 163, 164, 165, 166, 167, 168, 169, 170, 171, 172, 173, 174, 175, 176, 177, 178, 179, 180, 181, 182, 183, 184] (by decide +kernel) (by decide +kernel)
set_option maxRecDepth 20000 in
theorem gX8_told_X8_hold : GoodIn wsX8_told (wsV RX8 316 RX8 yX8_hold wsX8_hold) := goodIn_app (goodIn_of _ (by decide +kernel)) ggX8_told_X8_hold
set_option maxRecDepth 20000 in
theorem ggX8_told_X8_hadSet : GoodIn wsX8_told wsX8_hadSet := goodIn_r _ [30, 31, 32, 118, 119, 120, 121, 122, 123, 124, 125, 126, 127, 128, 129, 130, 131, 132, 133, 134, 135, 136, 137, 138, 139, 140, 141, 142, 143, 144, 145, 146, 147, 148, 149, 150, 151, 152, 153, 154, 155, 156, 157, 158, 159, 160, 161, 162, 163, 164, 165, 166, 167, 168, 169, 170, 171, 172, 173, 174, 175, 176, 177, 178, 179, 180, 181, 182, 183, 184] (by decide +kernel) (by decide +kernel)
set_option maxRecDepth 20000 in
theorem gX8_told_X8_hadSet : GoodIn wsX8_told (wsV RX8 340 RX8 yX8_hadSet wsX8_hadSet) := goodIn_app (goodIn_of _ (by decide +kernel)) ggX8_told_X8_hadSet
set_option maxRecDepth 20000 in
theorem ggX8_told_X8_goingSet : GoodIn wsX8_told wsX8_goingSet := goodIn_r _ [36, 37, 38, 39, 40, 5, 41, 31, 42, 43, 1, 44, 23, 24, 25, 26, 7, 8, 9, 10, 11, 12, 13, 14, 15, 16, 17, 18, 19, 20, 21, 22, 45, 46, 47, 48, 49, 50, 51, 52, 32, 53, 54, 55, 56, 57, 58, 59, 60, 61, 62, 63, 64, 65, 66, 67, 68, 69, 70, 71, 72, 73, 74, 75, 76, 77, 78, 79, 80, 81, 82, 83, 84, 85, 86, 87, 88, 89, 2, 3, 4, 6, 90, 91, 92, 93, 94, 95, 96, 97, 98, 99, 100, 101, 102, 103, 104, 105, 118, 119, 120, 121, 122, 123, 124, 125, 126, 127, 128, 129, 130, 131, 132, 133, 134, 135, 136, 137, 138, 139, 140, 141, 142, 143, 144, 145, 146, 147, 148, 149, 150, 151, 152, 153, 154, 155, 156, 157, 158, 159, 160, 161, 162, 163, 164, 165, 166, 167, 168, 169, 170, 171, 172, 173, 174, 175, 176, 177, 178, 179, 180, 181, 182, 183, 184] (by decide +kernel) (by decide +kernel)
set_option maxRecDepth 20000 in
theorem gX8_told_X8_goingSet : GoodIn wsX8_told (wsV RX8 343 RX8 yX8_goingSet wsX8_goingSet) := goodIn_app (goodIn_of _ (by decide +kernel)) ggX8_told_X8_goingSet
set_option maxRecDepth 20000 in
theorem ggX8_told_X8_hadMarks : GoodIn wsX8_told wsX8_hadMarks := goodIn_r _ [65, 31, 61, 32, 118, 119, 120, 121, 122, 123, 124, 125, 126, 127, 128, 129, 130, 131, 132, 133, 134, 135, 136, 137, 138, 139, 140, 141, 142, 143, 144, 145, 146, 147, 148, 149, 150, 151, 152, 153, 154, 155, 156, 157, 158, 159, 160, 161, 162, 163, 164, 165, 166, 167, 168, 169, 170, 171, 172, 173, 174, 175, 176, 177, 178, 179, 180, 181, 182, 183, 184] (by decide +kernel) (by decide +kernel)
set_option maxRecDepth 20000 in
theorem gX8_told_X8_hadMarks : GoodIn wsX8_told (wsV RX8 298 RX8 yX8_hadMarks wsX8_hadMarks) := goodIn_app (goodIn_of _ (by decide +kernel)) ggX8_told_X8_hadMarks
set_option maxRecDepth 20000 in
theorem ggX8_told_X8_twins : GoodIn wsX8_told wsX8_twins := goodIn_r _ [109, 37, 61, 66, 67, 68, 5, 69, 70, 71, 72, 73, 118, 119, 120, 121, 122, 123, 124, 125, 126, 127, 128, 129, 130, 131, 132, 133, 134, 135, 136, 137, 138, 139, 140, 141, 142, 143, 144, 145, 146, 147, 148, 149, 150, 151, 152, 153, 154, 155, 156, 157, 158, 159, 160, 161, 162, 163, 164, 165, 166, 167, 168, 169, 170, 171, 172, 173, 174, 175, 176, 177, 178, 179, 180, 181, 182, 183, 184] (by decide +kernel) (by decide +kernel)
set_option maxRecDepth 20000 in
theorem gX8_told_X8_twins : GoodIn wsX8_told (wsV RX8 346 RX8 yX8_twins wsX8_twins) := goodIn_app (goodIn_of _ (by decide +kernel)) ggX8_told_X8_twins
set_option maxRecDepth 20000 in
theorem ggX8_told_X8_cover : GoodIn wsX8_told wsX8_cover := goodIn_r _ [113, 37, 66, 67, 68, 5, 69, 70, 71, 72, 73, 114, 115, 116, 117, 61, 118, 119, 120, 121, 122, 123, 124, 125, 126, 127, 128, 129, 130, 131, 132, 133, 134, 135, 136, 137, 138, 139, 140, 141, 142, 143, 144, 145, 146, 147, 148, 149, 150, 151, 152, 153, 154, 155, 156, 157, 158, 159, 160, 161, 162, 163, 164, 165, 166, 167, 168, 169, 170, 171, 172, 173, 174, 175, 176, 177, 178, 179, 180, 181, 182, 183, 184] (by decide +kernel) (by decide +kernel)
set_option maxRecDepth 20000 in
theorem gX8_told_X8_cover : GoodIn wsX8_told (wsV RX8 349 RX8 yX8_cover wsX8_cover) := goodIn_app (goodIn_of _ (by decide +kernel)) ggX8_told_X8_cover
theorem dX8_told_0 : decode cX8_told 0 = .ok (.iload_n 1, 1) := by decide +kernel
theorem dX8_told_1 : decode cX8_told 1 = .ok (.tableswitch 87 0 7 #[47, 52, 57, 62, 67, 72, 77, 82], 47) := by decide +kernel
theorem dX8_told_48 : decode cX8_told 48 = .ok (.aload_n 0, 1) := by decide +kernel
theorem dX8_told_49 : decode cX8_told 49 = .ok (.getfield 16, 3) := by decide +kernel
theorem dX8_told_52 : decode cX8_told 52 = .ok (.ireturn, 1) := by decide +kernel
theorem dX8_told_53 : decode cX8_told 53 = .ok (.aload_n 0, 1) := by decide +kernel
theorem dX8_told_54 : decode cX8_told 54 = .ok (.invokevirtual 307, 3) := by decide +kernel
theorem dX8_told_57 : decode cX8_told 57 = .ok (.ireturn, 1) := by decide +kernel
theorem dX8_told_58 : decode cX8_told 58 = .ok (.aload_n 0, 1) := by decide +kernel
theorem dX8_told_59 : decode cX8_told 59 = .ok (.invokevirtual 316, 3) := by decide +kernel
theorem dX8_told_62 : decode cX8_told 62 = .ok (.ireturn, 1) := by decide +kernel
theorem dX8_told_63 : decode cX8_told 63 = .ok (.aload_n 0, 1) := by decide +kernel
theorem dX8_told_64 : decode cX8_told 64 = .ok (.invokevirtual 340, 3) := by decide +kernel
theorem dX8_told_67 : decode cX8_told 67 = .ok (.ireturn, 1) := by decide +kernel
theorem dX8_told_68 : decode cX8_told 68 = .ok (.aload_n 0, 1) := by decide +kernel
theorem dX8_told_69 : decode cX8_told 69 = .ok (.invokevirtual 343, 3) := by decide +kernel
theorem dX8_told_72 : decode cX8_told 72 = .ok (.ireturn, 1) := by decide +kernel
theorem dX8_told_73 : decode cX8_told 73 = .ok (.aload_n 0, 1) := by decide +kernel
theorem dX8_told_74 : decode cX8_told 74 = .ok (.invokevirtual 298, 3) := by decide +kernel
theorem dX8_told_77 : decode cX8_told 77 = .ok (.ireturn, 1) := by decide +kernel
theorem dX8_told_78 : decode cX8_told 78 = .ok (.aload_n 0, 1) := by decide +kernel
theorem dX8_told_79 : decode cX8_told 79 = .ok (.invokevirtual 346, 3) := by decide +kernel
theorem dX8_told_82 : decode cX8_told 82 = .ok (.ireturn, 1) := by decide +kernel
theorem dX8_told_83 : decode cX8_told 83 = .ok (.aload_n 0, 1) := by decide +kernel
theorem dX8_told_84 : decode cX8_told 84 = .ok (.invokevirtual 349, 3) := by decide +kernel
theorem dX8_told_87 : decode cX8_told 87 = .ok (.ireturn, 1) := by decide +kernel
theorem dX8_told_88 : decode cX8_told 88 = .ok (.iconst (-1), 1) := by decide +kernel
theorem dX8_told_89 : decode cX8_told 89 = .ok (.ireturn, 1) := by decide +kernel
set_option maxRecDepth 20000 in
theorem ggX8_goDay_X8_goes : GoodIn wsX8_goDay wsX8_goes := goodIn_r _ [7, 8, 9, 10, 2, 11, 12, 13, 14, 6, 15, 16, 17, 18, 19, 20, 21, 22, 23, 24, 25, 26, 27, 28, 29, 30, 31, 32, 33, 34, 35, 36, 37, 38, 39, 40, 41, 42, 43, 44, 45, 46, 47, 48, 49, 50, 51, 52, 53, 54, 55, 56, 57, 58, 59, 60, 61, 62, 63, 64, 65, 66, 67, 68, 69, 70, 71, 72, 73, 74, 75, 76, 77, 78, 79, 80, 81, 82, 83, 84, 85, 86, 87, 88, 89, 90, 91, 92, 93, 94, 95, 96, 97, 102, 103, 104, 105, 106, 107, 108, 109, 110, 111, 112, 113, 114, 115, 116, 117, 118, 119, 120, 121, 122, 123, 124, 125, 126, 127, 128, 129, 130, 131, 132, 133, 134, 135, 136, 137, 138, 139, 140, 141, 142, 143, 144, 145, 146, 147, 148, 149, 150, 151, 152, 153, 154, 155, 156, 157, 158, 159, 160, 161, 162, 163, 164, 165, 166, 167, 168] (by decide +kernel) (by decide +kernel)
set_option maxRecDepth 20000 in
theorem gX8_goDay_X8_goes : GoodIn wsX8_goDay (wsV RX8 331 RX8 yX8_goes wsX8_goes) := goodIn_app (goodIn_of _ (by decide +kernel)) ggX8_goDay_X8_goes
set_option maxRecDepth 20000 in
theorem ggX8_goDay_X8_pushes : GoodIn wsX8_goDay wsX8_pushes := goodIn_r _ [101, 40, 8, 102, 103, 104, 105, 106, 107, 108, 109, 110, 111, 112, 113, 114, 115, 116, 117, 118, 119, 120, 121, 122, 123, 124, 125, 126, 127, 128, 129, 130, 131, 132, 133, 134, 135, 136, 137, 138, 139, 140, 141, 142, 143, 144, 145, 146, 147, 148, 149, 150, 151, 152, 153, 154, 155, 156, 157, 158, 159, 160, 161, 162, 163, 164, 165, 166, 167, 168] (by decide +kernel) (by decide +kernel)
set_option maxRecDepth 20000 in
theorem gX8_goDay_X8_pushes : GoodIn wsX8_goDay (wsV RX8 334 RX8 yX8_pushes wsX8_pushes) := goodIn_app (goodIn_of _ (by decide +kernel)) ggX8_goDay_X8_pushes
theorem dX8_goDay_0 : decode cX8_goDay 0 = .ok (.aload_n 0, 1) := by decide +kernel
theorem dX8_goDay_1 : decode cX8_goDay 1 = .ok (.getfield 7, 3) := by decide +kernel
theorem dX8_goDay_4 : decode cX8_goDay 4 = .ok (.ifCond .le 32, 3) := by decide +kernel
theorem dX8_goDay_7 : decode cX8_goDay 7 = .ok (.aload_n 0, 1) := by decide +kernel
theorem dX8_goDay_8 : decode cX8_goDay 8 = .ok (.aload_n 0, 1) := by decide +kernel
theorem dX8_goDay_9 : decode cX8_goDay 9 = .ok (.getfield 16, 3) := by decide +kernel
theorem dX8_goDay_12 : decode cX8_goDay 12 = .ok (.aload_n 0, 1) := by decide +kernel
theorem dX8_goDay_13 : decode cX8_goDay 13 = .ok (.getfield 7, 3) := by decide +kernel
theorem dX8_goDay_16 : decode cX8_goDay 16 = .ok (.irem, 1) := by decide +kernel
theorem dX8_goDay_17 : decode cX8_goDay 17 = .ok (.invokevirtual 331, 3) := by decide +kernel
theorem dX8_goDay_20 : decode cX8_goDay 20 = .ok (.ifCond .eq 16, 3) := by decide +kernel
theorem dX8_goDay_23 : decode cX8_goDay 23 = .ok (.aload_n 0, 1) := by decide +kernel
theorem dX8_goDay_24 : decode cX8_goDay 24 = .ok (.aload_n 0, 1) := by decide +kernel
theorem dX8_goDay_25 : decode cX8_goDay 25 = .ok (.getfield 16, 3) := by decide +kernel
theorem dX8_goDay_28 : decode cX8_goDay 28 = .ok (.aload_n 0, 1) := by decide +kernel
theorem dX8_goDay_29 : decode cX8_goDay 29 = .ok (.getfield 7, 3) := by decide +kernel
theorem dX8_goDay_32 : decode cX8_goDay 32 = .ok (.irem, 1) := by decide +kernel
theorem dX8_goDay_33 : decode cX8_goDay 33 = .ok (.invokevirtual 334, 3) := by decide +kernel
theorem dX8_goDay_36 : decode cX8_goDay 36 = .ok (.aload_n 0, 1) := by decide +kernel
theorem dX8_goDay_37 : decode cX8_goDay 37 = .ok (.dup, 1) := by decide +kernel
theorem dX8_goDay_38 : decode cX8_goDay 38 = .ok (.getfield 16, 3) := by decide +kernel
theorem dX8_goDay_41 : decode cX8_goDay 41 = .ok (.iconst 1, 1) := by decide +kernel
theorem dX8_goDay_42 : decode cX8_goDay 42 = .ok (.iadd, 1) := by decide +kernel
theorem dX8_goDay_43 : decode cX8_goDay 43 = .ok (.putfield 16, 3) := by decide +kernel
theorem dX8_goDay_46 : decode cX8_goDay 46 = .ok (.return_, 1) := by decide +kernel
set_option maxRecDepth 20000 in
theorem ggX8_goDays_X8_goDay : GoodIn wsX8_goDays wsX8_goDay := goodIn_r _ [5, 6, 7, 8, 9, 10, 4, 11, 12, 13, 14, 15, 16, 17, 18, 19, 20, 21, 22, 23, 24, 25, 26, 27, 28, 29, 30, 31, 32, 33, 34, 35, 36, 37, 38, 39, 40, 41, 42, 43, 44, 45, 46, 47, 48, 49, 50, 51, 52, 53, 54, 55, 56, 57, 58, 59, 60, 61, 62, 63, 64, 65, 66, 67, 68, 69, 70, 71, 72, 73, 74, 75, 76, 77, 78, 79, 80, 81, 82, 83, 84, 85, 86, 87, 88, 89, 90, 91, 92, 93, 94, 95, 96, 97, 98, 99, 100, 101, 102, 103, 104, 105, 106, 107, 108, 109, 110, 111, 112, 113, 114, 115, 116, 117, 118, 119, 120, 121, 122, 123, 124, 125, 126, 127, 128, 129, 130, 131, 132, 133, 134, 135, 136, 137, 138, 139, 140, 141, 142, 143, 144, 145, 146, 147, 148, 149, 150, 151, 152, 153, 154, 155, 156, 157, 158, 159, 160, 161, 162, 163, 164, 165, 166, 167, 168, 169, 170, 171, 172] (by decide +kernel) (by decide +kernel)
set_option maxRecDepth 20000 in
theorem gX8_goDays_X8_goDay : GoodIn wsX8_goDays (wsV RX8 352 RX8 yX8_goDay wsX8_goDay) := goodIn_app (goodIn_of _ (by decide +kernel)) ggX8_goDays_X8_goDay
theorem dX8_goDays_0 : decode cX8_goDays 0 = .ok (.iconst 0, 1) := by decide +kernel
theorem dX8_goDays_1 : decode cX8_goDays 1 = .ok (.istore_n 2, 1) := by decide +kernel
theorem dX8_goDays_2 : decode cX8_goDays 2 = .ok (.iload_n 2, 1) := by decide +kernel
theorem dX8_goDays_3 : decode cX8_goDays 3 = .ok (.iload_n 1, 1) := by decide +kernel
theorem dX8_goDays_4 : decode cX8_goDays 4 = .ok (.if_icmp .ge 13, 3) := by decide +kernel
theorem dX8_goDays_7 : decode cX8_goDays 7 = .ok (.aload_n 0, 1) := by decide +kernel
theorem dX8_goDays_8 : decode cX8_goDays 8 = .ok (.invokevirtual 352, 3) := by decide +kernel
theorem dX8_goDays_11 : decode cX8_goDays 11 = .ok (.iinc 2 1, 3) := by decide +kernel
theorem dX8_goDays_14 : decode cX8_goDays 14 = .ok (.goto (-12), 3) := by decide +kernel
theorem dX8_goDays_17 : decode cX8_goDays 17 = .ok (.return_, 1) := by decide +kernel
set_option maxRecDepth 20000 in
theorem ggX8_pass_X8_isDays : GoodIn wsX8_pass wsX8_isDays := goodIn_r _ [7, 8, 9, 10, 6, 11] (by decide +kernel) (by decide +kernel)
set_option maxRecDepth 20000 in
theorem gX8_pass_X8_isDays : GoodIn wsX8_pass (wsV RX8 355 RX8 yX8_isDays wsX8_isDays) := goodIn_app (goodIn_of _ (by decide +kernel)) ggX8_pass_X8_isDays
set_option maxRecDepth 20000 in
theorem ggX8_pass_X8_goDays : GoodIn wsX8_pass wsX8_goDays := goodIn_r _ [15, 16, 17, 18, 6, 19, 20, 1, 21, 22, 23, 24, 2, 25, 26, 27, 28, 29, 30, 31, 32, 33, 34, 35, 36, 37, 38, 39, 40, 41, 42, 43, 44, 45, 46, 47, 48, 49, 50, 51, 52, 53, 54, 55, 56, 57, 58, 59, 60, 61, 62, 63, 64, 65, 66, 67, 68, 69, 70, 71, 72, 73, 74, 75, 76, 77, 78, 79, 80, 81, 82, 83, 84, 85, 86, 87, 88, 89, 90, 91, 92, 93, 94, 95, 96, 97, 98, 99, 100, 101, 102, 103, 104, 105, 106, 107, 108, 109, 110, 111, 112, 113, 114, 115, 116, 117, 118, 119, 120, 121, 122, 123, 124, 125, 126, 127, 128, 129, 130, 131, 132, 133, 134, 135, 136, 137, 138, 139, 140, 141, 142, 143, 144, 145, 146, 147, 148, 149, 150, 151, 152, 153, 154, 155, 156, 157, 158, 159, 160, 161, 162, 163, 164, 165, 166, 167, 168, 169, 170, 171, 172, 173, 174, 175, 176, 177, 178, 179, 180, 181, 182, 183, 184] (by decide +kernel) (by decide +kernel)
set_option maxRecDepth 20000 in
theorem gX8_pass_X8_goDays : GoodIn wsX8_pass (wsV RX8 358 RX8 yX8_goDays wsX8_goDays) := goodIn_app (goodIn_of _ (by decide +kernel)) ggX8_pass_X8_goDays
theorem dX8_pass_0 : decode cX8_pass 0 = .ok (.aload_n 0, 1) := by decide +kernel
theorem dX8_pass_1 : decode cX8_pass 1 = .ok (.iload_n 1, 1) := by decide +kernel
theorem dX8_pass_2 : decode cX8_pass 2 = .ok (.invokevirtual 355, 3) := by decide +kernel
theorem dX8_pass_5 : decode cX8_pass 5 = .ok (.ifCond .ne 6, 3) := by decide +kernel
theorem dX8_pass_8 : decode cX8_pass 8 = .ok (.bipush (-2), 2) := by decide +kernel
theorem dX8_pass_10 : decode cX8_pass 10 = .ok (.ireturn, 1) := by decide +kernel
theorem dX8_pass_11 : decode cX8_pass 11 = .ok (.aload_n 0, 1) := by decide +kernel
theorem dX8_pass_12 : decode cX8_pass 12 = .ok (.getfield 16, 3) := by decide +kernel
theorem dX8_pass_15 : decode cX8_pass 15 = .ok (.iload_n 1, 1) := by decide +kernel
theorem dX8_pass_16 : decode cX8_pass 16 = .ok (.iadd, 1) := by decide +kernel
theorem dX8_pass_17 : decode cX8_pass 17 = .ok (.sipush 9999, 3) := by decide +kernel
theorem dX8_pass_20 : decode cX8_pass 20 = .ok (.if_icmp .le 6, 3) := by decide +kernel
theorem dX8_pass_23 : decode cX8_pass 23 = .ok (.bipush (-3), 2) := by decide +kernel
theorem dX8_pass_25 : decode cX8_pass 25 = .ok (.ireturn, 1) := by decide +kernel
theorem dX8_pass_26 : decode cX8_pass 26 = .ok (.aload_n 0, 1) := by decide +kernel
theorem dX8_pass_27 : decode cX8_pass 27 = .ok (.iload_n 1, 1) := by decide +kernel
theorem dX8_pass_28 : decode cX8_pass 28 = .ok (.invokevirtual 358, 3) := by decide +kernel
theorem dX8_pass_31 : decode cX8_pass 31 = .ok (.aload_n 0, 1) := by decide +kernel
theorem dX8_pass_32 : decode cX8_pass 32 = .ok (.getfield 13, 3) := by decide +kernel
theorem dX8_pass_35 : decode cX8_pass 35 = .ok (.ireturn, 1) := by decide +kernel
theorem dX8_save_0 : decode cX8_save 0 = .ok (.aload_n 0, 1) := by decide +kernel
theorem dX8_save_1 : decode cX8_save 1 = .ok (.aload_n 0, 1) := by decide +kernel
theorem dX8_save_2 : decode cX8_save 2 = .ok (.getfield 13, 3) := by decide +kernel
theorem dX8_save_5 : decode cX8_save 5 = .ok (.putfield 90, 3) := by decide +kernel
theorem dX8_save_8 : decode cX8_save 8 = .ok (.aload_n 0, 1) := by decide +kernel
theorem dX8_save_9 : decode cX8_save 9 = .ok (.aload_n 0, 1) := by decide +kernel
theorem dX8_save_10 : decode cX8_save 10 = .ok (.getfield 16, 3) := by decide +kernel
theorem dX8_save_13 : decode cX8_save 13 = .ok (.putfield 93, 3) := by decide +kernel
theorem dX8_save_16 : decode cX8_save 16 = .ok (.iconst 0, 1) := by decide +kernel
theorem dX8_save_17 : decode cX8_save 17 = .ok (.istore_n 1, 1) := by decide +kernel
theorem dX8_save_18 : decode cX8_save 18 = .ok (.iload_n 1, 1) := by decide +kernel
theorem dX8_save_19 : decode cX8_save 19 = .ok (.bipush 6, 2) := by decide +kernel
theorem dX8_save_21 : decode cX8_save 21 = .ok (.if_icmp .ge 21, 3) := by decide +kernel
theorem dX8_save_24 : decode cX8_save 24 = .ok (.aload_n 0, 1) := by decide +kernel
theorem dX8_save_25 : decode cX8_save 25 = .ok (.getfield 96, 3) := by decide +kernel
theorem dX8_save_28 : decode cX8_save 28 = .ok (.iload_n 1, 1) := by decide +kernel
theorem dX8_save_29 : decode cX8_save 29 = .ok (.aload_n 0, 1) := by decide +kernel
theorem dX8_save_30 : decode cX8_save 30 = .ok (.getfield 32, 3) := by decide +kernel
theorem dX8_save_33 : decode cX8_save 33 = .ok (.iload_n 1, 1) := by decide +kernel
theorem dX8_save_34 : decode cX8_save 34 = .ok (.iaload, 1) := by decide +kernel
theorem dX8_save_35 : decode cX8_save 35 = .ok (.iastore, 1) := by decide +kernel
theorem dX8_save_36 : decode cX8_save 36 = .ok (.iinc 1 1, 3) := by decide +kernel
theorem dX8_save_39 : decode cX8_save 39 = .ok (.goto (-21), 3) := by decide +kernel
theorem dX8_save_42 : decode cX8_save 42 = .ok (.return_, 1) := by decide +kernel
theorem dX8_putBack_0 : decode cX8_putBack 0 = .ok (.aload_n 0, 1) := by decide +kernel
theorem dX8_putBack_1 : decode cX8_putBack 1 = .ok (.aload_n 0, 1) := by decide +kernel
theorem dX8_putBack_2 : decode cX8_putBack 2 = .ok (.getfield 90, 3) := by decide +kernel
theorem dX8_putBack_5 : decode cX8_putBack 5 = .ok (.putfield 13, 3) := by decide +kernel
theorem dX8_putBack_8 : decode cX8_putBack 8 = .ok (.aload_n 0, 1) := by decide +kernel
theorem dX8_putBack_9 : decode cX8_putBack 9 = .ok (.aload_n 0, 1) := by decide +kernel
theorem dX8_putBack_10 : decode cX8_putBack 10 = .ok (.getfield 93, 3) := by decide +kernel
theorem dX8_putBack_13 : decode cX8_putBack 13 = .ok (.putfield 16, 3) := by decide +kernel
theorem dX8_putBack_16 : decode cX8_putBack 16 = .ok (.iconst 0, 1) := by decide +kernel
theorem dX8_putBack_17 : decode cX8_putBack 17 = .ok (.istore_n 1, 1) := by decide +kernel
theorem dX8_putBack_18 : decode cX8_putBack 18 = .ok (.iload_n 1, 1) := by decide +kernel
theorem dX8_putBack_19 : decode cX8_putBack 19 = .ok (.bipush 6, 2) := by decide +kernel
theorem dX8_putBack_21 : decode cX8_putBack 21 = .ok (.if_icmp .ge 21, 3) := by decide +kernel
theorem dX8_putBack_24 : decode cX8_putBack 24 = .ok (.aload_n 0, 1) := by decide +kernel
theorem dX8_putBack_25 : decode cX8_putBack 25 = .ok (.getfield 32, 3) := by decide +kernel
theorem dX8_putBack_28 : decode cX8_putBack 28 = .ok (.iload_n 1, 1) := by decide +kernel
theorem dX8_putBack_29 : decode cX8_putBack 29 = .ok (.aload_n 0, 1) := by decide +kernel
theorem dX8_putBack_30 : decode cX8_putBack 30 = .ok (.getfield 96, 3) := by decide +kernel
theorem dX8_putBack_33 : decode cX8_putBack 33 = .ok (.iload_n 1, 1) := by decide +kernel
theorem dX8_putBack_34 : decode cX8_putBack 34 = .ok (.iaload, 1) := by decide +kernel
theorem dX8_putBack_35 : decode cX8_putBack 35 = .ok (.iastore, 1) := by decide +kernel
theorem dX8_putBack_36 : decode cX8_putBack 36 = .ok (.iinc 1 1, 3) := by decide +kernel
theorem dX8_putBack_39 : decode cX8_putBack 39 = .ok (.goto (-21), 3) := by decide +kernel
theorem dX8_putBack_42 : decode cX8_putBack 42 = .ok (.return_, 1) := by decide +kernel
set_option maxRecDepth 20000 in
theorem ggX8_on_X8_in : GoodIn wsX8_on wsX8_in := goodIn_r _ [6] (by decide +kernel) (by decide +kernel)
set_option maxRecDepth 20000 in
theorem gX8_on_X8_in : GoodIn wsX8_on (wsV RX8 219 RX8 yX8_in wsX8_in) := goodIn_app (goodIn_of _ (by decide +kernel)) ggX8_on_X8_in
set_option maxRecDepth 20000 in
theorem ggX8_on_X8_isDays : GoodIn wsX8_on wsX8_isDays := goodIn_r _ [10, 2, 3, 4, 5, 6] (by decide +kernel) (by decide +kernel)
set_option maxRecDepth 20000 in
theorem gX8_on_X8_isDays : GoodIn wsX8_on (wsV RX8 355 RX8 yX8_isDays wsX8_isDays) := goodIn_app (goodIn_of _ (by decide +kernel)) ggX8_on_X8_isDays
set_option maxRecDepth 20000 in
theorem ggX8_on_X8_save : GoodIn wsX8_on wsX8_save := goodIn_r _ [14, 1, 15, 16, 17, 18, 19, 133, 134, 135, 136, 137, 138, 139, 140, 141, 142, 143, 144, 145, 146, 147, 148, 149, 150, 151, 152, 153, 154, 155, 156, 157, 158, 159, 160, 161, 162, 163, 164, 165, 166, 167, 168, 169, 170, 171, 172, 173, 174, 175, 176, 177, 178, 179, 180, 181, 182, 183, 184, 185, 186, 187, 188, 189, 190, 191, 192, 193, 194, 195, 196, 197, 198, 199] (by decide +kernel) (by decide +kernel)
set_option maxRecDepth 20000 in
theorem gX8_on_X8_save : GoodIn wsX8_on (wsV RX8 361 RX8 yX8_save wsX8_save) := goodIn_app (goodIn_of _ (by decide +kernel)) ggX8_on_X8_save
set_option maxRecDepth 20000 in
theorem ggX8_on_X8_goDays : GoodIn wsX8_on wsX8_goDays := goodIn_r _ [23, 24, 25, 26, 5, 27, 28, 16, 29, 30, 31, 32, 1, 33, 34, 35, 36, 37, 38, 39, 40, 41, 42, 43, 44, 45, 46, 47, 48, 49, 50, 51, 52, 53, 54, 55, 56, 57, 58, 59, 60, 61, 62, 63, 19, 64, 65, 66, 67, 68, 69, 70, 71, 72, 73, 74, 75, 76, 77, 78, 79, 80, 81, 82, 83, 84, 85, 86, 87, 88, 89, 90, 91, 92, 93, 94, 95, 96, 97, 98, 99, 100, 101, 102, 103, 104, 105, 106, 107, 108, 109, 110, 111, 112, 113, 114, 115, 116, 117, 118, 119, 120, 121, 122, 123, 124, 133, 134, 135, 136, 137, 138, 139, 140, 141, 142, 143, 144, 145, 146, 147, 148, 149, 150, 151, 152, 153, 154, 155, 156, 157, 158, 159, 160, 161, 162, 163, 164, 165, 166, 167, 168, 169, 170, 171, 172, 173, 174, 175, 176, 177, 178, 179, 180, 181, 182, 183, 184, 185, 186, 187, 188, 189, 190, 191, 192, 193, 194, 195, 196, 197, 198, 199] (by decide +kernel) (by decide +kernel)
set_option maxRecDepth 20000 in
theorem gX8_on_X8_goDays : GoodIn wsX8_on (wsV RX8 358 RX8 yX8_goDays wsX8_goDays) := goodIn_app (goodIn_of _ (by decide +kernel)) ggX8_on_X8_goDays
set_option maxRecDepth 20000 in
theorem ggX8_on_X8_hadSet : GoodIn wsX8_on wsX8_hadSet := goodIn_r _ [128, 1, 19, 133, 134, 135, 136, 137, 138, 139, 140, 141, 142, 143, 144, 145, 146, 147, 148, 149, 150, 151, 152, 153, 154, 155, 156, 157, 158, 159, 160, 161, 162, 163, 164, 165, 166, 167, 168, 169, 170, 171, 172, 173, 174, 175, 176, 177, 178, 179, 180, 181, 182, 183, 184, 185, 186, 187, 188, 189, 190, 191, 192, 193, 194, 195, 196, 197, 198, 199] (by decide +kernel) (by decide +kernel)
set_option maxRecDepth 20000 in
theorem gX8_on_X8_hadSet : GoodIn wsX8_on (wsV RX8 340 RX8 yX8_hadSet wsX8_hadSet) := goodIn_app (goodIn_of _ (by decide +kernel)) ggX8_on_X8_hadSet
set_option maxRecDepth 20000 in
theorem ggX8_on_X8_putBack : GoodIn wsX8_on wsX8_putBack := goodIn_r _ [132, 15, 1, 17, 16, 19, 18, 133, 134, 135, 136, 137, 138, 139, 140, 141, 142, 143, 144, 145, 146, 147, 148, 149, 150, 151, 152, 153, 154, 155, 156, 157, 158, 159, 160, 161, 162, 163, 164, 165, 166, 167, 168, 169, 170, 171, 172, 173, 174, 175, 176, 177, 178, 179, 180, 181, 182, 183, 184, 185, 186, 187, 188, 189, 190, 191, 192, 193, 194, 195, 196, 197, 198, 199] (by decide +kernel) (by decide +kernel)
set_option maxRecDepth 20000 in
theorem gX8_on_X8_putBack : GoodIn wsX8_on (wsV RX8 364 RX8 yX8_putBack wsX8_putBack) := goodIn_app (goodIn_of _ (by decide +kernel)) ggX8_on_X8_putBack
theorem dX8_on_0 : decode cX8_on 0 = .ok (.aload_n 0, 1) := by decide +kernel
theorem dX8_on_1 : decode cX8_on 1 = .ok (.iload_n 2, 1) := by decide +kernel
theorem dX8_on_2 : decode cX8_on 2 = .ok (.iconst 0, 1) := by decide +kernel
theorem dX8_on_3 : decode cX8_on 3 = .ok (.iconst 1, 1) := by decide +kernel
theorem dX8_on_4 : decode cX8_on 4 = .ok (.invokevirtual 219, 3) := by decide +kernel
theorem dX8_on_7 : decode cX8_on 7 = .ok (.ifCond .ne 5, 3) := by decide +kernel
theorem dX8_on_10 : decode cX8_on 10 = .ok (.iconst (-1), 1) := by decide +kernel
theorem dX8_on_11 : decode cX8_on 11 = .ok (.ireturn, 1) := by decide +kernel
theorem dX8_on_12 : decode cX8_on 12 = .ok (.aload_n 0, 1) := by decide +kernel
theorem dX8_on_13 : decode cX8_on 13 = .ok (.iload_n 1, 1) := by decide +kernel
theorem dX8_on_14 : decode cX8_on 14 = .ok (.invokevirtual 355, 3) := by decide +kernel
theorem dX8_on_17 : decode cX8_on 17 = .ok (.ifCond .ne 6, 3) := by decide +kernel
theorem dX8_on_20 : decode cX8_on 20 = .ok (.bipush (-2), 2) := by decide +kernel
theorem dX8_on_22 : decode cX8_on 22 = .ok (.ireturn, 1) := by decide +kernel
theorem dX8_on_23 : decode cX8_on 23 = .ok (.aload_n 0, 1) := by decide +kernel
theorem dX8_on_24 : decode cX8_on 24 = .ok (.invokevirtual 361, 3) := by decide +kernel
theorem dX8_on_27 : decode cX8_on 27 = .ok (.aload_n 0, 1) := by decide +kernel
theorem dX8_on_28 : decode cX8_on 28 = .ok (.iload_n 1, 1) := by decide +kernel
theorem dX8_on_29 : decode cX8_on 29 = .ok (.invokevirtual 358, 3) := by decide +kernel
theorem dX8_on_32 : decode cX8_on 32 = .ok (.iload_n 2, 1) := by decide +kernel
theorem dX8_on_33 : decode cX8_on 33 = .ok (.ifCond .ne 10, 3) := by decide +kernel
theorem dX8_on_36 : decode cX8_on 36 = .ok (.aload_n 0, 1) := by decide +kernel
theorem dX8_on_37 : decode cX8_on 37 = .ok (.invokevirtual 340, 3) := by decide +kernel
theorem dX8_on_40 : decode cX8_on 40 = .ok (.goto 7, 3) := by decide +kernel
theorem dX8_on_43 : decode cX8_on 43 = .ok (.aload_n 0, 1) := by decide +kernel
theorem dX8_on_44 : decode cX8_on 44 = .ok (.getfield 13, 3) := by decide +kernel
theorem dX8_on_47 : decode cX8_on 47 = .ok (.istore_n 3, 1) := by decide +kernel
theorem dX8_on_48 : decode cX8_on 48 = .ok (.aload_n 0, 1) := by decide +kernel
theorem dX8_on_49 : decode cX8_on 49 = .ok (.invokevirtual 364, 3) := by decide +kernel
theorem dX8_on_52 : decode cX8_on 52 = .ok (.iload_n 3, 1) := by decide +kernel
theorem dX8_on_53 : decode cX8_on 53 = .ok (.ireturn, 1) := by decide +kernel
set_option maxRecDepth 20000 in
theorem ggX8_soon_X8_isMany : GoodIn wsX8_soon wsX8_isMany := goodIn_r _ [6, 7, 8, 9, 5, 10] (by decide +kernel) (by decide +kernel)
set_option maxRecDepth 20000 in
theorem gX8_soon_X8_isMany : GoodIn wsX8_soon (wsV RX8 367 RX8 yX8_isMany wsX8_isMany) := goodIn_app (goodIn_of _ (by decide +kernel)) ggX8_soon_X8_isMany
set_option maxRecDepth 20000 in
theorem ggX8_soon_X8_save : GoodIn wsX8_soon wsX8_save := goodIn_r _ [14, 1, 15, 16, 17, 18, 19, 125, 126, 127, 128, 129, 130, 131, 132, 133, 134, 135, 136, 137, 138, 139, 140, 141, 142, 143, 144, 145, 146, 147, 148, 149, 150, 151, 152, 153, 154, 155, 156, 157, 158, 159, 160, 161, 162, 163, 164, 165, 166, 167, 168, 169, 170, 171, 172, 173, 174, 175, 176, 177, 178, 179, 180, 181, 182, 183, 184, 185, 186, 187, 188, 189, 190, 191] (by decide +kernel) (by decide +kernel)
set_option maxRecDepth 20000 in
theorem gX8_soon_X8_save : GoodIn wsX8_soon (wsV RX8 361 RX8 yX8_save wsX8_save) := goodIn_app (goodIn_of _ (by decide +kernel)) ggX8_soon_X8_save
set_option maxRecDepth 20000 in
theorem ggX8_soon_X8_goDay : GoodIn wsX8_soon wsX8_goDay := goodIn_r _ [23, 24, 16, 25, 26, 27, 5, 28, 1, 29, 30, 31, 32, 33, 34, 35, 36, 37, 38, 39, 40, 41, 42, 43, 44, 45, 46, 47, 48, 49, 50, 51, 52, 53, 54, 55, 56, 57, 58, 59, 19, 60, 61, 62, 63, 64, 65, 66, 67, 68, 69, 70, 71, 72, 73, 74, 75, 76, 77, 78, 79, 80, 81, 82, 83, 84, 85, 86, 87, 88, 89, 90, 91, 92, 93, 94, 95, 96, 97, 98, 99, 100, 101, 102, 103, 104, 105, 106, 107, 108, 109, 110, 111, 112, 113, 114, 115, 116, 117, 118, 119, 120, 125, 126, 127, 128, 129, 130, 131, 132, 133, 134, 135, 136, 137, 138, 139, 140, 141, 142, 143, 144, 145, 146, 147, 148, 149, 150, 151, 152, 153, 154, 155, 156, 157, 158, 159, 160, 161, 162, 163, 164, 165, 166, 167, 168, 169, 170, 171, 172, 173, 174, 175, 176, 177, 178, 179, 180, 181, 182, 183, 184, 185, 186, 187, 188, 189, 190, 191] (by decide +kernel) (by decide +kernel)
set_option maxRecDepth 20000 in
theorem gX8_soon_X8_goDay : GoodIn wsX8_soon (wsV RX8 352 RX8 yX8_goDay wsX8_goDay) := goodIn_app (goodIn_of _ (by decide +kernel)) ggX8_soon_X8_goDay
set_option maxRecDepth 20000 in
theorem ggX8_soon_X8_putBack : GoodIn wsX8_soon wsX8_putBack := goodIn_r _ [124, 15, 1, 17, 16, 19, 18, 125, 126, 127, 128, 129, 130, 131, 132, 133, 134, 135, 136, 137, 138, 139, 140, 141, 142, 143, 144, 145, 146, 147, 148, 149, 150, 151, 152, 153, 154, 155, 156, 157, 158, 159, 160, 161, 162, 163, 164, 165, 166, 167, 168, 169, 170, 171, 172, 173, 174, 175, 176, 177, 178, 179, 180, 181, 182, 183, 184, 185, 186, 187, 188, 189, 190, 191] (by decide +kernel) (by decide +kernel)
set_option maxRecDepth 20000 in
theorem gX8_soon_X8_putBack : GoodIn wsX8_soon (wsV RX8 364 RX8 yX8_putBack wsX8_putBack) := goodIn_app (goodIn_of _ (by decide +kernel)) ggX8_soon_X8_putBack
theorem dX8_soon_0 : decode cX8_soon 0 = .ok (.aload_n 0, 1) := by decide +kernel
theorem dX8_soon_1 : decode cX8_soon 1 = .ok (.iload_n 1, 1) := by decide +kernel
theorem dX8_soon_2 : decode cX8_soon 2 = .ok (.invokevirtual 367, 3) := by decide +kernel
theorem dX8_soon_5 : decode cX8_soon 5 = .ok (.ifCond .ne 6, 3) := by decide +kernel
theorem dX8_soon_8 : decode cX8_soon 8 = .ok (.bipush (-2), 2) := by decide +kernel
theorem dX8_soon_10 : decode cX8_soon 10 = .ok (.ireturn, 1) := by decide +kernel
theorem dX8_soon_11 : decode cX8_soon 11 = .ok (.aload_n 0, 1) := by decide +kernel
theorem dX8_soon_12 : decode cX8_soon 12 = .ok (.invokevirtual 361, 3) := by decide +kernel
theorem dX8_soon_15 : decode cX8_soon 15 = .ok (.iconst 0, 1) := by decide +kernel
theorem dX8_soon_16 : decode cX8_soon 16 = .ok (.istore_n 2, 1) := by decide +kernel
theorem dX8_soon_17 : decode cX8_soon 17 = .ok (.iload_n 2, 1) := by decide +kernel
theorem dX8_soon_18 : decode cX8_soon 18 = .ok (.bipush 61, 2) := by decide +kernel
theorem dX8_soon_20 : decode cX8_soon 20 = .ok (.if_icmp .ge 21, 3) := by decide +kernel
theorem dX8_soon_23 : decode cX8_soon 23 = .ok (.aload_n 0, 1) := by decide +kernel
theorem dX8_soon_24 : decode cX8_soon 24 = .ok (.getfield 13, 3) := by decide +kernel
theorem dX8_soon_27 : decode cX8_soon 27 = .ok (.iload_n 1, 1) := by decide +kernel
theorem dX8_soon_28 : decode cX8_soon 28 = .ok (.if_icmp .ge 13, 3) := by decide +kernel
theorem dX8_soon_31 : decode cX8_soon 31 = .ok (.aload_n 0, 1) := by decide +kernel
theorem dX8_soon_32 : decode cX8_soon 32 = .ok (.invokevirtual 352, 3) := by decide +kernel
theorem dX8_soon_35 : decode cX8_soon 35 = .ok (.iinc 2 1, 3) := by decide +kernel
theorem dX8_soon_38 : decode cX8_soon 38 = .ok (.goto (-21), 3) := by decide +kernel
theorem dX8_soon_41 : decode cX8_soon 41 = .ok (.aload_n 0, 1) := by decide +kernel
theorem dX8_soon_42 : decode cX8_soon 42 = .ok (.invokevirtual 364, 3) := by decide +kernel
theorem dX8_soon_45 : decode cX8_soon 45 = .ok (.iload_n 2, 1) := by decide +kernel
theorem dX8_soon_46 : decode cX8_soon 46 = .ok (.bipush 61, 2) := by decide +kernel
theorem dX8_soon_48 : decode cX8_soon 48 = .ok (.if_icmp .ge 7, 3) := by decide +kernel
theorem dX8_soon_51 : decode cX8_soon 51 = .ok (.iload_n 2, 1) := by decide +kernel
theorem dX8_soon_52 : decode cX8_soon 52 = .ok (.goto 5, 3) := by decide +kernel
theorem dX8_soon_55 : decode cX8_soon 55 = .ok (.bipush (-5), 2) := by decide +kernel
theorem dX8_soon_57 : decode cX8_soon 57 = .ok (.ireturn, 1) := by decide +kernel
set_option maxRecDepth 20000 in
theorem ggX8_when_X8_isThing : GoodIn wsX8_when wsX8_isThing := goodIn_r _ [5, 6, 7, 8, 9, 4, 10, 125, 126, 127, 128, 129, 130, 131, 132, 133, 134, 135, 136, 137, 138, 139, 140, 141, 142, 143, 144, 145, 146, 147, 148, 149, 150, 151, 152, 153, 154, 155, 156, 157, 158, 159, 160, 161, 162, 163, 164, 165, 166, 167, 168, 169, 170, 171, 172, 173, 174, 175, 176, 177, 178, 179, 180, 181, 182, 183, 184, 185, 186, 187, 188, 189, 190, 191] (by decide +kernel) (by decide +kernel)
set_option maxRecDepth 20000 in
theorem gX8_when_X8_isThing : GoodIn wsX8_when (wsV RX8 227 RX8 yX8_isThing wsX8_isThing) := goodIn_app (goodIn_of _ (by decide +kernel)) ggX8_when_X8_isThing
set_option maxRecDepth 20000 in
theorem ggX8_when_X8_save : GoodIn wsX8_when wsX8_save := goodIn_r _ [14, 15, 16, 17, 18, 19, 20, 125, 126, 127, 128, 129, 130, 131, 132, 133, 134, 135, 136, 137, 138, 139, 140, 141, 142, 143, 144, 145, 146, 147, 148, 149, 150, 151, 152, 153, 154, 155, 156, 157, 158, 159, 160, 161, 162, 163, 164, 165, 166, 167, 168, 169, 170, 171, 172, 173, 174, 175, 176, 177, 178, 179, 180, 181, 182, 183, 184, 185, 186, 187, 188, 189, 190, 191] (by decide +kernel) (by decide +kernel)
set_option maxRecDepth 20000 in
theorem gX8_when_X8_save : GoodIn wsX8_when (wsV RX8 361 RX8 yX8_save wsX8_save) := goodIn_app (goodIn_of _ (by decide +kernel)) ggX8_when_X8_save
set_option maxRecDepth 20000 in
theorem ggX8_when_X8_isHad : GoodIn wsX8_when wsX8_isHad := goodIn_r _ [24, 25, 26, 27, 4, 28, 15, 20, 125, 126, 127, 128, 129, 130, 131, 132, 133, 134, 135, 136, 137, 138, 139, 140, 141, 142, 143, 144, 145, 146, 147, 148, 149, 150, 151, 152, 153, 154, 155, 156, 157, 158, 159, 160, 161, 162, 163, 164, 165, 166, 167, 168, 169, 170, 171, 172, 173, 174, 175, 176, 177, 178, 179, 180, 181, 182, 183, 184, 185, 186, 187, 188, 189, 190, 191] (by decide +kernel) (by decide +kernel)
set_option maxRecDepth 20000 in
theorem gX8_when_X8_isHad : GoodIn wsX8_when (wsV RX8 319 RX8 yX8_isHad wsX8_isHad) := goodIn_app (goodIn_of _ (by decide +kernel)) ggX8_when_X8_isHad
set_option maxRecDepth 20000 in
theorem ggX8_when_X8_goDay : GoodIn wsX8_when wsX8_goDay := goodIn_r _ [32, 6, 17, 33, 34, 35, 4, 36, 15, 37, 38, 39, 40, 41, 42, 43, 44, 45, 46, 47, 48, 49, 50, 51, 52, 53, 54, 55, 56, 57, 58, 59, 21, 22, 23, 24, 25, 26, 27, 28, 20, 60, 61, 62, 63, 64, 65, 66, 67, 68, 69, 70, 71, 72, 73, 74, 75, 76, 77, 78, 79, 80, 81, 82, 83, 84, 85, 86, 87, 88, 89, 90, 91, 92, 93, 94, 95, 96, 97, 98, 99, 100, 101, 102, 103, 104, 105, 106, 107, 108, 109, 110, 111, 112, 113, 114, 115, 116, 117, 118, 119, 120, 125, 126, 127, 128, 129, 130, 131, 132, 133, 134, 135, 136, 137, 138, 139, 140, 141, 142, 143, 144, 145, 146, 147, 148, 149, 150, 151, 152, 153, 154, 155, 156, 157, 158, 159, 160, 161, 162, 163, 164, 165, 166, 167, 168, 169, 170, 171, 172, 173, 174, 175, 176, 177, 178, 179, 180, 181, 182, 183, 184, 185, 186, 187, 188, 189, 190, 191] (by decide +kernel) (by decide +kernel)
set_option maxRecDepth 20000 in
theorem gX8_when_X8_goDay : GoodIn wsX8_when (wsV RX8 352 RX8 yX8_goDay wsX8_goDay) := goodIn_app (goodIn_of _ (by decide +kernel)) ggX8_when_X8_goDay
set_option maxRecDepth 20000 in
theorem ggX8_when_X8_putBack : GoodIn wsX8_when wsX8_putBack := goodIn_r _ [124, 16, 15, 18, 17, 20, 19, 125, 126, 127, 128, 129, 130, 131, 132, 133, 134, 135, 136, 137, 138, 139, 140, 141, 142, 143, 144, 145, 146, 147, 148, 149, 150, 151, 152, 153, 154, 155, 156, 157, 158, 159, 160, 161, 162, 163, 164, 165, 166, 167, 168, 169, 170, 171, 172, 173, 174, 175, 176, 177, 178, 179, 180, 181, 182, 183, 184, 185, 186, 187, 188, 189, 190, 191] (by decide +kernel) (by decide +kernel)
set_option maxRecDepth 20000 in
theorem gX8_when_X8_putBack : GoodIn wsX8_when (wsV RX8 364 RX8 yX8_putBack wsX8_putBack) := goodIn_app (goodIn_of _ (by decide +kernel)) ggX8_when_X8_putBack
theorem dX8_when_0 : decode cX8_when 0 = .ok (.aload_n 0, 1) := by decide +kernel
theorem dX8_when_1 : decode cX8_when 1 = .ok (.iload_n 1, 1) := by decide +kernel
theorem dX8_when_2 : decode cX8_when 2 = .ok (.invokevirtual 227, 3) := by decide +kernel
theorem dX8_when_5 : decode cX8_when 5 = .ok (.ifCond .ne 5, 3) := by decide +kernel
theorem dX8_when_8 : decode cX8_when 8 = .ok (.iconst (-1), 1) := by decide +kernel
theorem dX8_when_9 : decode cX8_when 9 = .ok (.ireturn, 1) := by decide +kernel
theorem dX8_when_10 : decode cX8_when 10 = .ok (.aload_n 0, 1) := by decide +kernel
theorem dX8_when_11 : decode cX8_when 11 = .ok (.invokevirtual 361, 3) := by decide +kernel
theorem dX8_when_14 : decode cX8_when 14 = .ok (.iconst 0, 1) := by decide +kernel
theorem dX8_when_15 : decode cX8_when 15 = .ok (.istore_n 2, 1) := by decide +kernel
theorem dX8_when_16 : decode cX8_when 16 = .ok (.iload_n 2, 1) := by decide +kernel
theorem dX8_when_17 : decode cX8_when 17 = .ok (.bipush 61, 2) := by decide +kernel
theorem dX8_when_19 : decode cX8_when 19 = .ok (.if_icmp .ge 21, 3) := by decide +kernel
theorem dX8_when_22 : decode cX8_when 22 = .ok (.aload_n 0, 1) := by decide +kernel
theorem dX8_when_23 : decode cX8_when 23 = .ok (.iload_n 1, 1) := by decide +kernel
theorem dX8_when_24 : decode cX8_when 24 = .ok (.invokevirtual 319, 3) := by decide +kernel
theorem dX8_when_27 : decode cX8_when 27 = .ok (.ifCond .ne 13, 3) := by decide +kernel
theorem dX8_when_30 : decode cX8_when 30 = .ok (.aload_n 0, 1) := by decide +kernel
theorem dX8_when_31 : decode cX8_when 31 = .ok (.invokevirtual 352, 3) := by decide +kernel
theorem dX8_when_34 : decode cX8_when 34 = .ok (.iinc 2 1, 3) := by decide +kernel
theorem dX8_when_37 : decode cX8_when 37 = .ok (.goto (-21), 3) := by decide +kernel
theorem dX8_when_40 : decode cX8_when 40 = .ok (.aload_n 0, 1) := by decide +kernel
theorem dX8_when_41 : decode cX8_when 41 = .ok (.invokevirtual 364, 3) := by decide +kernel
theorem dX8_when_44 : decode cX8_when 44 = .ok (.iload_n 2, 1) := by decide +kernel
theorem dX8_when_45 : decode cX8_when 45 = .ok (.bipush 61, 2) := by decide +kernel
theorem dX8_when_47 : decode cX8_when 47 = .ok (.if_icmp .ge 7, 3) := by decide +kernel
theorem dX8_when_50 : decode cX8_when 50 = .ok (.iload_n 2, 1) := by decide +kernel
theorem dX8_when_51 : decode cX8_when 51 = .ok (.goto 5, 3) := by decide +kernel
theorem dX8_when_54 : decode cX8_when 54 = .ok (.bipush (-5), 2) := by decide +kernel
theorem dX8_when_56 : decode cX8_when 56 = .ok (.ireturn, 1) := by decide +kernel
set_option maxRecDepth 20000 in
theorem ggX8_mostNow_X8_goes : GoodIn wsX8_mostNow wsX8_goes := goodIn_r _ [10, 1, 11, 12, 13, 14, 15, 16, 17, 9, 18, 19, 20, 21, 22, 23, 24, 25, 26, 27, 28, 29, 30, 31, 32, 33, 34, 35, 36, 37, 38, 39, 40, 41, 42, 5, 43, 44, 45, 46, 47, 48, 49, 50, 51, 52, 53, 54, 55, 56, 57, 58, 59, 60, 61, 62, 63, 64, 65, 66, 67, 68, 69, 70, 71, 72, 73, 74, 75, 76, 77, 78, 79, 80, 81, 82, 83, 84, 85, 86, 87, 88, 89, 90, 91, 92, 93, 94, 95, 96, 97, 98, 99, 104, 105, 106, 107, 108, 109, 110, 111, 112, 113, 114, 115, 116, 117, 118, 119, 120, 121, 122, 123, 124, 125, 126, 127, 128, 129, 130, 131, 132, 133, 134, 135, 136, 137, 138, 139, 140, 141, 142, 143, 144, 145, 146, 147, 148, 149, 150, 151, 152, 153, 154, 155, 156, 157, 158, 159, 160, 161, 162, 163, 164, 165, 166, 167, 168, 169, 170] (by decide +kernel) (by decide +kernel)
set_option maxRecDepth 20000 in
theorem gX8_mostNow_X8_goes : GoodIn wsX8_mostNow (wsV RX8 331 RX8 yX8_goes wsX8_goes) := goodIn_app (goodIn_of _ (by decide +kernel)) ggX8_mostNow_X8_goes
set_option maxRecDepth 20000 in
theorem ggX8_mostNow_X8_pushes : GoodIn wsX8_mostNow wsX8_pushes := goodIn_r _ [103, 5, 1, 104, 105, 106, 107, 108, 109, 110, 111, 112, 113, 114, 115, 116, 117, 118, 119, 120, 121, 122, 123, 124, 125, 126, 127, 128, 129, 130, 131, 132, 133, 134, 135, 136, 137, 138, 139, 140, 141, 142, 143, 144, 145, 146, 147, 148, 149, 150, 151, 152, 153, 154, 155, 156, 157, 158, 159, 160, 161, 162, 163, 164, 165, 166, 167, 168, 169, 170] (by decide +kernel) (by decide +kernel)
set_option maxRecDepth 20000 in
theorem gX8_mostNow_X8_pushes : GoodIn wsX8_mostNow (wsV RX8 334 RX8 yX8_pushes wsX8_pushes) := goodIn_app (goodIn_of _ (by decide +kernel)) ggX8_mostNow_X8_pushes
theorem dX8_mostNow_0 : decode cX8_mostNow 0 = .ok (.aload_n 0, 1) := by decide +kernel
theorem dX8_mostNow_1 : decode cX8_mostNow 1 = .ok (.getfield 13, 3) := by decide +kernel
theorem dX8_mostNow_4 : decode cX8_mostNow 4 = .ok (.istore_n 1, 1) := by decide +kernel
theorem dX8_mostNow_5 : decode cX8_mostNow 5 = .ok (.iconst 0, 1) := by decide +kernel
theorem dX8_mostNow_6 : decode cX8_mostNow 6 = .ok (.istore_n 2, 1) := by decide +kernel
theorem dX8_mostNow_7 : decode cX8_mostNow 7 = .ok (.iconst 0, 1) := by decide +kernel
theorem dX8_mostNow_8 : decode cX8_mostNow 8 = .ok (.istore_n 3, 1) := by decide +kernel
theorem dX8_mostNow_9 : decode cX8_mostNow 9 = .ok (.aload_n 0, 1) := by decide +kernel
theorem dX8_mostNow_10 : decode cX8_mostNow 10 = .ok (.getfield 99, 3) := by decide +kernel
theorem dX8_mostNow_13 : decode cX8_mostNow 13 = .ok (.iconst 0, 1) := by decide +kernel
theorem dX8_mostNow_14 : decode cX8_mostNow 14 = .ok (.iconst 0, 1) := by decide +kernel
theorem dX8_mostNow_15 : decode cX8_mostNow 15 = .ok (.iastore, 1) := by decide +kernel
theorem dX8_mostNow_16 : decode cX8_mostNow 16 = .ok (.iload_n 3, 1) := by decide +kernel
theorem dX8_mostNow_17 : decode cX8_mostNow 17 = .ok (.ifCond .lt 129, 3) := by decide +kernel
theorem dX8_mostNow_20 : decode cX8_mostNow 20 = .ok (.aload_n 0, 1) := by decide +kernel
theorem dX8_mostNow_21 : decode cX8_mostNow 21 = .ok (.getfield 99, 3) := by decide +kernel
theorem dX8_mostNow_24 : decode cX8_mostNow 24 = .ok (.iload_n 3, 1) := by decide +kernel
theorem dX8_mostNow_25 : decode cX8_mostNow 25 = .ok (.iaload, 1) := by decide +kernel
theorem dX8_mostNow_26 : decode cX8_mostNow 26 = .ok (.istore 4, 2) := by decide +kernel
theorem dX8_mostNow_28 : decode cX8_mostNow 28 = .ok (.iload 4, 2) := by decide +kernel
theorem dX8_mostNow_30 : decode cX8_mostNow 30 = .ok (.aload_n 0, 1) := by decide +kernel
theorem dX8_mostNow_31 : decode cX8_mostNow 31 = .ok (.getfield 7, 3) := by decide +kernel
theorem dX8_mostNow_34 : decode cX8_mostNow 34 = .ok (.if_icmp .ne 33, 3) := by decide +kernel
theorem dX8_mostNow_37 : decode cX8_mostNow 37 = .ok (.iinc 3 (-1), 3) := by decide +kernel
theorem dX8_mostNow_40 : decode cX8_mostNow 40 = .ok (.iload_n 3, 1) := by decide +kernel
theorem dX8_mostNow_41 : decode cX8_mostNow 41 = .ok (.ifCond .lt 102, 3) := by decide +kernel
theorem dX8_mostNow_44 : decode cX8_mostNow 44 = .ok (.aload_n 0, 1) := by decide +kernel
theorem dX8_mostNow_45 : decode cX8_mostNow 45 = .ok (.dup, 1) := by decide +kernel
theorem dX8_mostNow_46 : decode cX8_mostNow 46 = .ok (.getfield 13, 3) := by decide +kernel
theorem dX8_mostNow_49 : decode cX8_mostNow 49 = .ok (.iconst 1, 1) := by decide +kernel
theorem dX8_mostNow_50 : decode cX8_mostNow 50 = .ok (.isub, 1) := by decide +kernel
theorem dX8_mostNow_51 : decode cX8_mostNow 51 = .ok (.putfield 13, 3) := by decide +kernel
theorem dX8_mostNow_54 : decode cX8_mostNow 54 = .ok (.aload_n 0, 1) := by decide +kernel
theorem dX8_mostNow_55 : decode cX8_mostNow 55 = .ok (.getfield 99, 3) := by decide +kernel
theorem dX8_mostNow_58 : decode cX8_mostNow 58 = .ok (.iload_n 3, 1) := by decide +kernel
theorem dX8_mostNow_59 : decode cX8_mostNow 59 = .ok (.dup2, 1) := by decide +kernel
theorem dX8_mostNow_60 : decode cX8_mostNow 60 = .ok (.iaload, 1) := by decide +kernel
theorem dX8_mostNow_61 : decode cX8_mostNow 61 = .ok (.iconst 1, 1) := by decide +kernel
theorem dX8_mostNow_62 : decode cX8_mostNow 62 = .ok (.iadd, 1) := by decide +kernel
theorem dX8_mostNow_63 : decode cX8_mostNow 63 = .ok (.iastore, 1) := by decide +kernel
theorem dX8_mostNow_64 : decode cX8_mostNow 64 = .ok (.goto 79, 3) := by decide +kernel
theorem dX8_mostNow_67 : decode cX8_mostNow 67 = .ok (.aload_n 0, 1) := by decide +kernel
theorem dX8_mostNow_68 : decode cX8_mostNow 68 = .ok (.iload 4, 2) := by decide +kernel
theorem dX8_mostNow_70 : decode cX8_mostNow 70 = .ok (.invokevirtual 331, 3) := by decide +kernel
theorem dX8_mostNow_73 : decode cX8_mostNow 73 = .ok (.ifCond .eq 60, 3) := by decide +kernel
theorem dX8_mostNow_76 : decode cX8_mostNow 76 = .ok (.aload_n 0, 1) := by decide +kernel
theorem dX8_mostNow_77 : decode cX8_mostNow 77 = .ok (.iload 4, 2) := by decide +kernel
theorem dX8_mostNow_79 : decode cX8_mostNow 79 = .ok (.invokevirtual 334, 3) := by decide +kernel
theorem dX8_mostNow_82 : decode cX8_mostNow 82 = .ok (.iinc 3 1, 3) := by decide +kernel
theorem dX8_mostNow_85 : decode cX8_mostNow 85 = .ok (.aload_n 0, 1) := by decide +kernel
theorem dX8_mostNow_86 : decode cX8_mostNow 86 = .ok (.getfield 99, 3) := by decide +kernel
theorem dX8_mostNow_89 : decode cX8_mostNow 89 = .ok (.iload_n 3, 1) := by decide +kernel
theorem dX8_mostNow_90 : decode cX8_mostNow 90 = .ok (.iconst 0, 1) := by decide +kernel
theorem dX8_mostNow_91 : decode cX8_mostNow 91 = .ok (.iastore, 1) := by decide +kernel
theorem dX8_mostNow_92 : decode cX8_mostNow 92 = .ok (.iload_n 3, 1) := by decide +kernel
theorem dX8_mostNow_93 : decode cX8_mostNow 93 = .ok (.iload_n 2, 1) := by decide +kernel
theorem dX8_mostNow_94 : decode cX8_mostNow 94 = .ok (.if_icmp .le 49, 3) := by decide +kernel
theorem dX8_mostNow_97 : decode cX8_mostNow 97 = .ok (.iload_n 3, 1) := by decide +kernel
theorem dX8_mostNow_98 : decode cX8_mostNow 98 = .ok (.istore_n 2, 1) := by decide +kernel
theorem dX8_mostNow_99 : decode cX8_mostNow 99 = .ok (.iconst 0, 1) := by decide +kernel
theorem dX8_mostNow_100 : decode cX8_mostNow 100 = .ok (.istore 5, 2) := by decide +kernel
theorem dX8_mostNow_102 : decode cX8_mostNow 102 = .ok (.iload 5, 2) := by decide +kernel
theorem dX8_mostNow_104 : decode cX8_mostNow 104 = .ok (.iload_n 3, 1) := by decide +kernel
theorem dX8_mostNow_105 : decode cX8_mostNow 105 = .ok (.if_icmp .ge 25, 3) := by decide +kernel
theorem dX8_mostNow_108 : decode cX8_mostNow 108 = .ok (.aload_n 0, 1) := by decide +kernel
theorem dX8_mostNow_109 : decode cX8_mostNow 109 = .ok (.getfield 102, 3) := by decide +kernel
theorem dX8_mostNow_112 : decode cX8_mostNow 112 = .ok (.iload 5, 2) := by decide +kernel
theorem dX8_mostNow_114 : decode cX8_mostNow 114 = .ok (.aload_n 0, 1) := by decide +kernel
theorem dX8_mostNow_115 : decode cX8_mostNow 115 = .ok (.getfield 32, 3) := by decide +kernel
theorem dX8_mostNow_118 : decode cX8_mostNow 118 = .ok (.iload_n 1, 1) := by decide +kernel
theorem dX8_mostNow_119 : decode cX8_mostNow 119 = .ok (.iload 5, 2) := by decide +kernel
theorem dX8_mostNow_121 : decode cX8_mostNow 121 = .ok (.iadd, 1) := by decide +kernel
theorem dX8_mostNow_122 : decode cX8_mostNow 122 = .ok (.iaload, 1) := by decide +kernel
theorem dX8_mostNow_123 : decode cX8_mostNow 123 = .ok (.iastore, 1) := by decide +kernel
theorem dX8_mostNow_124 : decode cX8_mostNow 124 = .ok (.iinc 5 1, 3) := by decide +kernel
theorem dX8_mostNow_127 : decode cX8_mostNow 127 = .ok (.goto (-25), 3) := by decide +kernel
theorem dX8_mostNow_130 : decode cX8_mostNow 130 = .ok (.goto 13, 3) := by decide +kernel
theorem dX8_mostNow_133 : decode cX8_mostNow 133 = .ok (.aload_n 0, 1) := by decide +kernel
theorem dX8_mostNow_134 : decode cX8_mostNow 134 = .ok (.getfield 99, 3) := by decide +kernel
theorem dX8_mostNow_137 : decode cX8_mostNow 137 = .ok (.iload_n 3, 1) := by decide +kernel
theorem dX8_mostNow_138 : decode cX8_mostNow 138 = .ok (.dup2, 1) := by decide +kernel
theorem dX8_mostNow_139 : decode cX8_mostNow 139 = .ok (.iaload, 1) := by decide +kernel
theorem dX8_mostNow_140 : decode cX8_mostNow 140 = .ok (.iconst 1, 1) := by decide +kernel
theorem dX8_mostNow_141 : decode cX8_mostNow 141 = .ok (.iadd, 1) := by decide +kernel
theorem dX8_mostNow_142 : decode cX8_mostNow 142 = .ok (.iastore, 1) := by decide +kernel
theorem dX8_mostNow_143 : decode cX8_mostNow 143 = .ok (.goto (-127), 3) := by decide +kernel
theorem dX8_mostNow_146 : decode cX8_mostNow 146 = .ok (.iload_n 2, 1) := by decide +kernel
theorem dX8_mostNow_147 : decode cX8_mostNow 147 = .ok (.ireturn, 1) := by decide +kernel
set_option maxRecDepth 20000 in
theorem ggX8_fewestAhead_X8_goes : GoodIn wsX8_fewestAhead wsX8_goes := goodIn_r _ [8, 3, 9, 10, 11, 12, 13, 14, 15, 7, 16, 17, 18, 19, 20, 21, 22, 23, 24, 25, 26, 27, 28, 29, 30, 31, 32, 33, 34, 35, 36, 37, 38, 39, 40, 41, 42, 43, 44, 45, 46, 47, 48, 49, 50, 51, 52, 53, 54, 55, 56, 57, 58, 59, 60, 61, 62, 63, 64, 65, 66, 67, 68, 69, 70, 71, 72, 73, 74, 75, 76, 77, 78, 79, 80, 81, 82, 83, 84, 85, 86, 87, 88, 89, 90, 91, 92, 93, 94, 95, 96, 97, 98, 103, 104, 105, 106, 107, 108, 109, 110, 111, 112, 113, 114, 115, 116, 117, 118, 119, 120, 121, 122, 123, 124, 125, 126, 127, 128, 129, 130, 131, 132, 133, 134, 135, 136, 137, 138, 139, 140, 141, 142, 143, 144, 145, 146, 147, 148, 149, 150, 151, 152, 153, 154, 155, 156, 157, 158, 159, 160, 161, 162, 163, 164, 165, 166, 167, 168, 169] (by decide +kernel) (by decide +kernel)
set_option maxRecDepth 20000 in
theorem gX8_fewestAhead_X8_goes : GoodIn wsX8_fewestAhead (wsV RX8 331 RX8 yX8_goes wsX8_goes) := goodIn_app (goodIn_of _ (by decide +kernel)) ggX8_fewestAhead_X8_goes
set_option maxRecDepth 20000 in
theorem ggX8_fewestAhead_X8_pushes : GoodIn wsX8_fewestAhead wsX8_pushes := goodIn_r _ [102, 41, 3, 103, 104, 105, 106, 107, 108, 109, 110, 111, 112, 113, 114, 115, 116, 117, 118, 119, 120, 121, 122, 123, 124, 125, 126, 127, 128, 129, 130, 131, 132, 133, 134, 135, 136, 137, 138, 139, 140, 141, 142, 143, 144, 145, 146, 147, 148, 149, 150, 151, 152, 153, 154, 155, 156, 157, 158, 159, 160, 161, 162, 163, 164, 165, 166, 167, 168, 169] (by decide +kernel) (by decide +kernel)
set_option maxRecDepth 20000 in
theorem gX8_fewestAhead_X8_pushes : GoodIn wsX8_fewestAhead (wsV RX8 334 RX8 yX8_pushes wsX8_pushes) := goodIn_app (goodIn_of _ (by decide +kernel)) ggX8_fewestAhead_X8_pushes
theorem dX8_fewestAhead_0 : decode cX8_fewestAhead 0 = .ok (.bipush (-5), 2) := by decide +kernel
theorem dX8_fewestAhead_2 : decode cX8_fewestAhead 2 = .ok (.istore_n 2, 1) := by decide +kernel
theorem dX8_fewestAhead_3 : decode cX8_fewestAhead 3 = .ok (.iconst 0, 1) := by decide +kernel
theorem dX8_fewestAhead_4 : decode cX8_fewestAhead 4 = .ok (.istore_n 3, 1) := by decide +kernel
theorem dX8_fewestAhead_5 : decode cX8_fewestAhead 5 = .ok (.aload_n 0, 1) := by decide +kernel
theorem dX8_fewestAhead_6 : decode cX8_fewestAhead 6 = .ok (.getfield 99, 3) := by decide +kernel
theorem dX8_fewestAhead_9 : decode cX8_fewestAhead 9 = .ok (.iconst 0, 1) := by decide +kernel
theorem dX8_fewestAhead_10 : decode cX8_fewestAhead 10 = .ok (.iconst 0, 1) := by decide +kernel
theorem dX8_fewestAhead_11 : decode cX8_fewestAhead 11 = .ok (.iastore, 1) := by decide +kernel
theorem dX8_fewestAhead_12 : decode cX8_fewestAhead 12 = .ok (.aload_n 0, 1) := by decide +kernel
theorem dX8_fewestAhead_13 : decode cX8_fewestAhead 13 = .ok (.iload_n 1, 1) := by decide +kernel
theorem dX8_fewestAhead_14 : decode cX8_fewestAhead 14 = .ok (.invokevirtual 331, 3) := by decide +kernel
theorem dX8_fewestAhead_17 : decode cX8_fewestAhead 17 = .ok (.ifCond .eq 5, 3) := by decide +kernel
theorem dX8_fewestAhead_20 : decode cX8_fewestAhead 20 = .ok (.iconst 0, 1) := by decide +kernel
theorem dX8_fewestAhead_21 : decode cX8_fewestAhead 21 = .ok (.ireturn, 1) := by decide +kernel
theorem dX8_fewestAhead_22 : decode cX8_fewestAhead 22 = .ok (.iload_n 3, 1) := by decide +kernel
theorem dX8_fewestAhead_23 : decode cX8_fewestAhead 23 = .ok (.ifCond .lt 116, 3) := by decide +kernel
theorem dX8_fewestAhead_26 : decode cX8_fewestAhead 26 = .ok (.aload_n 0, 1) := by decide +kernel
theorem dX8_fewestAhead_27 : decode cX8_fewestAhead 27 = .ok (.getfield 99, 3) := by decide +kernel
theorem dX8_fewestAhead_30 : decode cX8_fewestAhead 30 = .ok (.iload_n 3, 1) := by decide +kernel
theorem dX8_fewestAhead_31 : decode cX8_fewestAhead 31 = .ok (.iaload, 1) := by decide +kernel
theorem dX8_fewestAhead_32 : decode cX8_fewestAhead 32 = .ok (.istore 4, 2) := by decide +kernel
theorem dX8_fewestAhead_34 : decode cX8_fewestAhead 34 = .ok (.iload 4, 2) := by decide +kernel
theorem dX8_fewestAhead_36 : decode cX8_fewestAhead 36 = .ok (.aload_n 0, 1) := by decide +kernel
theorem dX8_fewestAhead_37 : decode cX8_fewestAhead 37 = .ok (.getfield 7, 3) := by decide +kernel
theorem dX8_fewestAhead_40 : decode cX8_fewestAhead 40 = .ok (.if_icmp .ne 33, 3) := by decide +kernel
theorem dX8_fewestAhead_43 : decode cX8_fewestAhead 43 = .ok (.iinc 3 (-1), 3) := by decide +kernel
theorem dX8_fewestAhead_46 : decode cX8_fewestAhead 46 = .ok (.iload_n 3, 1) := by decide +kernel
theorem dX8_fewestAhead_47 : decode cX8_fewestAhead 47 = .ok (.ifCond .lt 89, 3) := by decide +kernel
theorem dX8_fewestAhead_50 : decode cX8_fewestAhead 50 = .ok (.aload_n 0, 1) := by decide +kernel
theorem dX8_fewestAhead_51 : decode cX8_fewestAhead 51 = .ok (.dup, 1) := by decide +kernel
theorem dX8_fewestAhead_52 : decode cX8_fewestAhead 52 = .ok (.getfield 13, 3) := by decide +kernel
theorem dX8_fewestAhead_55 : decode cX8_fewestAhead 55 = .ok (.iconst 1, 1) := by decide +kernel
theorem dX8_fewestAhead_56 : decode cX8_fewestAhead 56 = .ok (.isub, 1) := by decide +kernel
theorem dX8_fewestAhead_57 : decode cX8_fewestAhead 57 = .ok (.putfield 13, 3) := by decide +kernel
theorem dX8_fewestAhead_60 : decode cX8_fewestAhead 60 = .ok (.aload_n 0, 1) := by decide +kernel
theorem dX8_fewestAhead_61 : decode cX8_fewestAhead 61 = .ok (.getfield 99, 3) := by decide +kernel
theorem dX8_fewestAhead_64 : decode cX8_fewestAhead 64 = .ok (.iload_n 3, 1) := by decide +kernel
theorem dX8_fewestAhead_65 : decode cX8_fewestAhead 65 = .ok (.dup2, 1) := by decide +kernel
theorem dX8_fewestAhead_66 : decode cX8_fewestAhead 66 = .ok (.iaload, 1) := by decide +kernel
theorem dX8_fewestAhead_67 : decode cX8_fewestAhead 67 = .ok (.iconst 1, 1) := by decide +kernel
theorem dX8_fewestAhead_68 : decode cX8_fewestAhead 68 = .ok (.iadd, 1) := by decide +kernel
theorem dX8_fewestAhead_69 : decode cX8_fewestAhead 69 = .ok (.iastore, 1) := by decide +kernel
theorem dX8_fewestAhead_70 : decode cX8_fewestAhead 70 = .ok (.goto 66, 3) := by decide +kernel
theorem dX8_fewestAhead_73 : decode cX8_fewestAhead 73 = .ok (.iload 4, 2) := by decide +kernel
theorem dX8_fewestAhead_75 : decode cX8_fewestAhead 75 = .ok (.iload_n 1, 1) := by decide +kernel
theorem dX8_fewestAhead_76 : decode cX8_fewestAhead 76 = .ok (.if_icmp .eq 50, 3) := by decide +kernel
theorem dX8_fewestAhead_79 : decode cX8_fewestAhead 79 = .ok (.aload_n 0, 1) := by decide +kernel
theorem dX8_fewestAhead_80 : decode cX8_fewestAhead 80 = .ok (.iload 4, 2) := by decide +kernel
theorem dX8_fewestAhead_82 : decode cX8_fewestAhead 82 = .ok (.invokevirtual 331, 3) := by decide +kernel
theorem dX8_fewestAhead_85 : decode cX8_fewestAhead 85 = .ok (.ifCond .eq 41, 3) := by decide +kernel
theorem dX8_fewestAhead_88 : decode cX8_fewestAhead 88 = .ok (.aload_n 0, 1) := by decide +kernel
theorem dX8_fewestAhead_89 : decode cX8_fewestAhead 89 = .ok (.iload 4, 2) := by decide +kernel
theorem dX8_fewestAhead_91 : decode cX8_fewestAhead 91 = .ok (.invokevirtual 334, 3) := by decide +kernel
theorem dX8_fewestAhead_94 : decode cX8_fewestAhead 94 = .ok (.iinc 3 1, 3) := by decide +kernel
theorem dX8_fewestAhead_97 : decode cX8_fewestAhead 97 = .ok (.aload_n 0, 1) := by decide +kernel
theorem dX8_fewestAhead_98 : decode cX8_fewestAhead 98 = .ok (.getfield 99, 3) := by decide +kernel
theorem dX8_fewestAhead_101 : decode cX8_fewestAhead 101 = .ok (.iload_n 3, 1) := by decide +kernel
theorem dX8_fewestAhead_102 : decode cX8_fewestAhead 102 = .ok (.iconst 0, 1) := by decide +kernel
theorem dX8_fewestAhead_103 : decode cX8_fewestAhead 103 = .ok (.iastore, 1) := by decide +kernel
theorem dX8_fewestAhead_104 : decode cX8_fewestAhead 104 = .ok (.aload_n 0, 1) := by decide +kernel
theorem dX8_fewestAhead_105 : decode cX8_fewestAhead 105 = .ok (.iload_n 1, 1) := by decide +kernel
theorem dX8_fewestAhead_106 : decode cX8_fewestAhead 106 = .ok (.invokevirtual 331, 3) := by decide +kernel
theorem dX8_fewestAhead_109 : decode cX8_fewestAhead 109 = .ok (.ifCond .eq 27, 3) := by decide +kernel
theorem dX8_fewestAhead_112 : decode cX8_fewestAhead 112 = .ok (.iload_n 2, 1) := by decide +kernel
theorem dX8_fewestAhead_113 : decode cX8_fewestAhead 113 = .ok (.ifCond .lt 8, 3) := by decide +kernel
theorem dX8_fewestAhead_116 : decode cX8_fewestAhead 116 = .ok (.iload_n 3, 1) := by decide +kernel
theorem dX8_fewestAhead_117 : decode cX8_fewestAhead 117 = .ok (.iload_n 2, 1) := by decide +kernel
theorem dX8_fewestAhead_118 : decode cX8_fewestAhead 118 = .ok (.if_icmp .ge 18, 3) := by decide +kernel
theorem dX8_fewestAhead_121 : decode cX8_fewestAhead 121 = .ok (.iload_n 3, 1) := by decide +kernel
theorem dX8_fewestAhead_122 : decode cX8_fewestAhead 122 = .ok (.istore_n 2, 1) := by decide +kernel
theorem dX8_fewestAhead_123 : decode cX8_fewestAhead 123 = .ok (.goto 13, 3) := by decide +kernel
theorem dX8_fewestAhead_126 : decode cX8_fewestAhead 126 = .ok (.aload_n 0, 1) := by decide +kernel
theorem dX8_fewestAhead_127 : decode cX8_fewestAhead 127 = .ok (.getfield 99, 3) := by decide +kernel
theorem dX8_fewestAhead_130 : decode cX8_fewestAhead 130 = .ok (.iload_n 3, 1) := by decide +kernel
theorem dX8_fewestAhead_131 : decode cX8_fewestAhead 131 = .ok (.dup2, 1) := by decide +kernel
theorem dX8_fewestAhead_132 : decode cX8_fewestAhead 132 = .ok (.iaload, 1) := by decide +kernel
theorem dX8_fewestAhead_133 : decode cX8_fewestAhead 133 = .ok (.iconst 1, 1) := by decide +kernel
theorem dX8_fewestAhead_134 : decode cX8_fewestAhead 134 = .ok (.iadd, 1) := by decide +kernel
theorem dX8_fewestAhead_135 : decode cX8_fewestAhead 135 = .ok (.iastore, 1) := by decide +kernel
theorem dX8_fewestAhead_136 : decode cX8_fewestAhead 136 = .ok (.goto (-114), 3) := by decide +kernel
theorem dX8_fewestAhead_139 : decode cX8_fewestAhead 139 = .ok (.iload_n 2, 1) := by decide +kernel
theorem dX8_fewestAhead_140 : decode cX8_fewestAhead 140 = .ok (.ireturn, 1) := by decide +kernel
set_option maxRecDepth 20000 in
theorem ggX8_most_X8_in : GoodIn wsX8_most wsX8_in := goodIn_r _ [6] (by decide +kernel) (by decide +kernel)
set_option maxRecDepth 20000 in
theorem gX8_most_X8_in : GoodIn wsX8_most (wsV RX8 219 RX8 yX8_in wsX8_in) := goodIn_app (goodIn_of _ (by decide +kernel)) ggX8_most_X8_in
set_option maxRecDepth 20000 in
theorem ggX8_most_X8_mostNow : GoodIn wsX8_most wsX8_mostNow := goodIn_r _ [10, 11, 12, 13, 1, 14, 15, 16, 17, 5, 18, 19, 20, 21, 22, 23, 24, 25, 26, 27, 28, 29, 30, 31, 32, 33, 34, 35, 36, 37, 38, 39, 40, 41, 42, 43, 44, 45, 46, 47, 48, 49, 50, 51, 52, 53, 54, 55, 56, 57, 58, 59, 60, 61, 62, 63, 64, 65, 66, 67, 68, 69, 70, 71, 72, 73, 74, 75, 76, 77, 78, 79, 80, 81, 82, 83, 84, 85, 86, 87, 88, 89, 90, 91, 92, 93, 94, 95, 96, 97, 98, 99, 100, 101, 102, 103, 104, 105, 106, 107, 108, 109, 110, 111, 112, 113, 114, 115, 116, 117, 118, 119, 120, 121, 122, 123, 124, 125, 126, 127, 128, 129, 130, 131, 132, 133, 134, 135, 136, 137, 138, 139, 140, 141, 142, 143, 144, 145, 146, 147, 148, 149, 150, 151, 152, 153, 154, 155, 156, 157, 158, 159, 160, 161, 162, 163, 164, 165, 166, 167, 168, 169, 170, 171, 172, 173, 174, 175, 176, 177, 178] (by decide +kernel) (by decide +kernel)
set_option maxRecDepth 20000 in
theorem gX8_most_X8_mostNow : GoodIn wsX8_most (wsV RX8 370 RX8 yX8_mostNow wsX8_mostNow) := goodIn_app (goodIn_of _ (by decide +kernel)) ggX8_most_X8_mostNow
theorem dX8_most_0 : decode cX8_most 0 = .ok (.aload_n 0, 1) := by decide +kernel
theorem dX8_most_1 : decode cX8_most 1 = .ok (.iload_n 1, 1) := by decide +kernel
theorem dX8_most_2 : decode cX8_most 2 = .ok (.iconst (-1), 1) := by decide +kernel
theorem dX8_most_3 : decode cX8_most 3 = .ok (.iconst 5, 1) := by decide +kernel
theorem dX8_most_4 : decode cX8_most 4 = .ok (.invokevirtual 219, 3) := by decide +kernel
theorem dX8_most_7 : decode cX8_most 7 = .ok (.ifCond .ne 5, 3) := by decide +kernel
theorem dX8_most_10 : decode cX8_most 10 = .ok (.iconst (-1), 1) := by decide +kernel
theorem dX8_most_11 : decode cX8_most 11 = .ok (.ireturn, 1) := by decide +kernel
theorem dX8_most_12 : decode cX8_most 12 = .ok (.aload_n 0, 1) := by decide +kernel
theorem dX8_most_13 : decode cX8_most 13 = .ok (.invokevirtual 370, 3) := by decide +kernel
theorem dX8_most_16 : decode cX8_most 16 = .ok (.istore_n 2, 1) := by decide +kernel
theorem dX8_most_17 : decode cX8_most 17 = .ok (.iload_n 1, 1) := by decide +kernel
theorem dX8_most_18 : decode cX8_most 18 = .ok (.ifCond .ge 7, 3) := by decide +kernel
theorem dX8_most_21 : decode cX8_most 21 = .ok (.iload_n 2, 1) := by decide +kernel
theorem dX8_most_22 : decode cX8_most 22 = .ok (.goto 19, 3) := by decide +kernel
theorem dX8_most_25 : decode cX8_most 25 = .ok (.iload_n 1, 1) := by decide +kernel
theorem dX8_most_26 : decode cX8_most 26 = .ok (.iload_n 2, 1) := by decide +kernel
theorem dX8_most_27 : decode cX8_most 27 = .ok (.if_icmp .ge 12, 3) := by decide +kernel
theorem dX8_most_30 : decode cX8_most 30 = .ok (.aload_n 0, 1) := by decide +kernel
theorem dX8_most_31 : decode cX8_most 31 = .ok (.getfield 102, 3) := by decide +kernel
theorem dX8_most_34 : decode cX8_most 34 = .ok (.iload_n 1, 1) := by decide +kernel
theorem dX8_most_35 : decode cX8_most 35 = .ok (.iaload, 1) := by decide +kernel
theorem dX8_most_36 : decode cX8_most 36 = .ok (.goto 5, 3) := by decide +kernel
theorem dX8_most_39 : decode cX8_most 39 = .ok (.bipush (-5), 2) := by decide +kernel
theorem dX8_most_41 : decode cX8_most 41 = .ok (.ireturn, 1) := by decide +kernel
set_option maxRecDepth 20000 in
theorem ggX8_startOf_X8_goes : GoodIn wsX8_startOf wsX8_goes := goodIn_r _ [7, 2, 8, 9, 10, 11, 12, 13, 14, 6, 15, 16, 17, 18, 19, 20, 21, 22, 23, 24, 25, 26, 27, 28, 29, 30, 31, 32, 33, 34, 35, 36, 37, 38, 39, 40, 41, 42, 43, 44, 45, 46, 47, 48, 49, 50, 51, 52, 53, 54, 55, 56, 57, 58, 59, 60, 61, 62, 63, 64, 65, 66, 67, 68, 69, 70, 71, 72, 73, 74, 75, 76, 77, 78, 79, 80, 81, 82, 83, 84, 85, 86, 87, 88, 89, 90, 91, 92, 93, 94, 95, 96, 97, 108, 109, 110, 111, 112, 113, 114, 115, 116, 117, 118, 119, 120, 121, 122, 123, 124, 125, 126, 127, 128, 129, 130, 131, 132, 133, 134, 135, 136, 137, 138, 139, 140, 141, 142, 143, 144, 145, 146, 147, 148, 149, 150, 151, 152, 153, 154, 155, 156, 157, 158, 159, 160, 161, 162, 163, 164, 165, 166, 167, 168, 169, 170, 171, 172, 173, 174] (by decide +kernel) (by decide +kernel)
set_option maxRecDepth 20000 in
theorem gX8_startOf_X8_goes : GoodIn wsX8_startOf (wsV RX8 331 RX8 yX8_goes wsX8_goes) := goodIn_app (goodIn_of _ (by decide +kernel)) ggX8_startOf_X8_goes
set_option maxRecDepth 20000 in
theorem ggX8_startOf_X8_pushes : GoodIn wsX8_startOf wsX8_pushes := goodIn_r _ [101, 40, 2, 108, 109, 110, 111, 112, 113, 114, 115, 116, 117, 118, 119, 120, 121, 122, 123, 124, 125, 126, 127, 128, 129, 130, 131, 132, 133, 134, 135, 136, 137, 138, 139, 140, 141, 142, 143, 144, 145, 146, 147, 148, 149, 150, 151, 152, 153, 154, 155, 156, 157, 158, 159, 160, 161, 162, 163, 164, 165, 166, 167, 168, 169, 170, 171, 172, 173, 174] (by decide +kernel) (by decide +kernel)
set_option maxRecDepth 20000 in
theorem gX8_startOf_X8_pushes : GoodIn wsX8_startOf (wsV RX8 334 RX8 yX8_pushes wsX8_pushes) := goodIn_app (goodIn_of _ (by decide +kernel)) ggX8_startOf_X8_pushes
set_option maxRecDepth 20000 in
theorem ggX8_startOf_X8_mostNow : GoodIn wsX8_startOf wsX8_mostNow := goodIn_r _ [105, 2, 106, 1, 107, 40, 3, 4, 5, 6, 7, 8, 9, 10, 11, 12, 13, 14, 15, 16, 17, 18, 19, 20, 21, 22, 23, 24, 25, 26, 27, 28, 29, 30, 31, 32, 33, 34, 35, 36, 37, 38, 39, 41, 42, 43, 44, 45, 46, 47, 48, 49, 50, 51, 52, 53, 54, 55, 56, 57, 58, 59, 60, 61, 62, 63, 64, 65, 66, 67, 68, 69, 70, 71, 72, 73, 74, 75, 76, 77, 78, 79, 80, 81, 82, 83, 84, 85, 86, 87, 88, 89, 90, 91, 92, 93, 94, 95, 96, 97, 98, 99, 100, 101, 108, 109, 110, 111, 112, 113, 114, 115, 116, 117, 118, 119, 120, 121, 122, 123, 124, 125, 126, 127, 128, 129, 130, 131, 132, 133, 134, 135, 136, 137, 138, 139, 140, 141, 142, 143, 144, 145, 146, 147, 148, 149, 150, 151, 152, 153, 154, 155, 156, 157, 158, 159, 160, 161, 162, 163, 164, 165, 166, 167, 168, 169, 170, 171, 172, 173, 174] (by decide +kernel) (by decide +kernel)
set_option maxRecDepth 20000 in
theorem gX8_startOf_X8_mostNow : GoodIn wsX8_startOf (wsV RX8 370 RX8 yX8_mostNow wsX8_mostNow) := goodIn_app (goodIn_of _ (by decide +kernel)) ggX8_startOf_X8_mostNow
theorem dX8_startOf_0 : decode cX8_startOf 0 = .ok (.bipush (-5), 2) := by decide +kernel
theorem dX8_startOf_2 : decode cX8_startOf 2 = .ok (.istore_n 1, 1) := by decide +kernel
theorem dX8_startOf_3 : decode cX8_startOf 3 = .ok (.iconst 0, 1) := by decide +kernel
theorem dX8_startOf_4 : decode cX8_startOf 4 = .ok (.istore_n 2, 1) := by decide +kernel
theorem dX8_startOf_5 : decode cX8_startOf 5 = .ok (.iconst 0, 1) := by decide +kernel
theorem dX8_startOf_6 : decode cX8_startOf 6 = .ok (.istore_n 3, 1) := by decide +kernel
theorem dX8_startOf_7 : decode cX8_startOf 7 = .ok (.iload_n 3, 1) := by decide +kernel
theorem dX8_startOf_8 : decode cX8_startOf 8 = .ok (.aload_n 0, 1) := by decide +kernel
theorem dX8_startOf_9 : decode cX8_startOf 9 = .ok (.getfield 7, 3) := by decide +kernel
theorem dX8_startOf_12 : decode cX8_startOf 12 = .ok (.if_icmp .ge 59, 3) := by decide +kernel
theorem dX8_startOf_15 : decode cX8_startOf 15 = .ok (.aload_n 0, 1) := by decide +kernel
theorem dX8_startOf_16 : decode cX8_startOf 16 = .ok (.iload_n 3, 1) := by decide +kernel
theorem dX8_startOf_17 : decode cX8_startOf 17 = .ok (.invokevirtual 331, 3) := by decide +kernel
theorem dX8_startOf_20 : decode cX8_startOf 20 = .ok (.ifCond .ne 6, 3) := by decide +kernel
theorem dX8_startOf_23 : decode cX8_startOf 23 = .ok (.goto 42, 3) := by decide +kernel
theorem dX8_startOf_26 : decode cX8_startOf 26 = .ok (.aload_n 0, 1) := by decide +kernel
theorem dX8_startOf_27 : decode cX8_startOf 27 = .ok (.iload_n 3, 1) := by decide +kernel
theorem dX8_startOf_28 : decode cX8_startOf 28 = .ok (.invokevirtual 334, 3) := by decide +kernel
theorem dX8_startOf_31 : decode cX8_startOf 31 = .ok (.aload_n 0, 1) := by decide +kernel
theorem dX8_startOf_32 : decode cX8_startOf 32 = .ok (.invokevirtual 370, 3) := by decide +kernel
theorem dX8_startOf_35 : decode cX8_startOf 35 = .ok (.istore 4, 2) := by decide +kernel
theorem dX8_startOf_37 : decode cX8_startOf 37 = .ok (.aload_n 0, 1) := by decide +kernel
theorem dX8_startOf_38 : decode cX8_startOf 38 = .ok (.dup, 1) := by decide +kernel
theorem dX8_startOf_39 : decode cX8_startOf 39 = .ok (.getfield 13, 3) := by decide +kernel
theorem dX8_startOf_42 : decode cX8_startOf 42 = .ok (.iconst 1, 1) := by decide +kernel
theorem dX8_startOf_43 : decode cX8_startOf 43 = .ok (.isub, 1) := by decide +kernel
theorem dX8_startOf_44 : decode cX8_startOf 44 = .ok (.putfield 13, 3) := by decide +kernel
theorem dX8_startOf_47 : decode cX8_startOf 47 = .ok (.iload_n 1, 1) := by decide +kernel
theorem dX8_startOf_48 : decode cX8_startOf 48 = .ok (.ifCond .lt 12, 3) := by decide +kernel
theorem dX8_startOf_51 : decode cX8_startOf 51 = .ok (.iload 4, 2) := by decide +kernel
theorem dX8_startOf_53 : decode cX8_startOf 53 = .ok (.iload_n 2, 1) := by decide +kernel
theorem dX8_startOf_54 : decode cX8_startOf 54 = .ok (.if_icmp .gt 6, 3) := by decide +kernel
theorem dX8_startOf_57 : decode cX8_startOf 57 = .ok (.goto 8, 3) := by decide +kernel
theorem dX8_startOf_60 : decode cX8_startOf 60 = .ok (.iload_n 3, 1) := by decide +kernel
theorem dX8_startOf_61 : decode cX8_startOf 61 = .ok (.istore_n 1, 1) := by decide +kernel
theorem dX8_startOf_62 : decode cX8_startOf 62 = .ok (.iload 4, 2) := by decide +kernel
theorem dX8_startOf_64 : decode cX8_startOf 64 = .ok (.istore_n 2, 1) := by decide +kernel
theorem dX8_startOf_65 : decode cX8_startOf 65 = .ok (.iinc 3 1, 3) := by decide +kernel
theorem dX8_startOf_68 : decode cX8_startOf 68 = .ok (.goto (-61), 3) := by decide +kernel
theorem dX8_startOf_71 : decode cX8_startOf 71 = .ok (.iload_n 1, 1) := by decide +kernel
theorem dX8_startOf_72 : decode cX8_startOf 72 = .ok (.ireturn, 1) := by decide +kernel
theorem dX8_putsBack_0 : decode cX8_putsBack 0 = .ok (.iconst 0, 1) := by decide +kernel
theorem dX8_putsBack_1 : decode cX8_putsBack 1 = .ok (.istore_n 2, 1) := by decide +kernel
theorem dX8_putsBack_2 : decode cX8_putsBack 2 = .ok (.iconst 0, 1) := by decide +kernel
theorem dX8_putsBack_3 : decode cX8_putsBack 3 = .ok (.istore_n 3, 1) := by decide +kernel
theorem dX8_putsBack_4 : decode cX8_putsBack 4 = .ok (.iload_n 3, 1) := by decide +kernel
theorem dX8_putsBack_5 : decode cX8_putsBack 5 = .ok (.aload_n 0, 1) := by decide +kernel
theorem dX8_putsBack_6 : decode cX8_putsBack 6 = .ok (.getfield 13, 3) := by decide +kernel
theorem dX8_putsBack_9 : decode cX8_putsBack 9 = .ok (.if_icmp .ge 37, 3) := by decide +kernel
theorem dX8_putsBack_12 : decode cX8_putsBack 12 = .ok (.aload_n 0, 1) := by decide +kernel
theorem dX8_putsBack_13 : decode cX8_putsBack 13 = .ok (.getfield 32, 3) := by decide +kernel
theorem dX8_putsBack_16 : decode cX8_putsBack 16 = .ok (.iload_n 3, 1) := by decide +kernel
theorem dX8_putsBack_17 : decode cX8_putsBack 17 = .ok (.iaload, 1) := by decide +kernel
theorem dX8_putsBack_18 : decode cX8_putsBack 18 = .ok (.iload_n 1, 1) := by decide +kernel
theorem dX8_putsBack_19 : decode cX8_putsBack 19 = .ok (.if_icmp .ne 6, 3) := by decide +kernel
theorem dX8_putsBack_22 : decode cX8_putsBack 22 = .ok (.goto 18, 3) := by decide +kernel
theorem dX8_putsBack_25 : decode cX8_putsBack 25 = .ok (.aload_n 0, 1) := by decide +kernel
theorem dX8_putsBack_26 : decode cX8_putsBack 26 = .ok (.getfield 32, 3) := by decide +kernel
theorem dX8_putsBack_29 : decode cX8_putsBack 29 = .ok (.iload_n 2, 1) := by decide +kernel
theorem dX8_putsBack_30 : decode cX8_putsBack 30 = .ok (.aload_n 0, 1) := by decide +kernel
theorem dX8_putsBack_31 : decode cX8_putsBack 31 = .ok (.getfield 32, 3) := by decide +kernel
theorem dX8_putsBack_34 : decode cX8_putsBack 34 = .ok (.iload_n 3, 1) := by decide +kernel
theorem dX8_putsBack_35 : decode cX8_putsBack 35 = .ok (.iaload, 1) := by decide +kernel
theorem dX8_putsBack_36 : decode cX8_putsBack 36 = .ok (.iastore, 1) := by decide +kernel
theorem dX8_putsBack_37 : decode cX8_putsBack 37 = .ok (.iinc 2 1, 3) := by decide +kernel
theorem dX8_putsBack_40 : decode cX8_putsBack 40 = .ok (.iinc 3 1, 3) := by decide +kernel
theorem dX8_putsBack_43 : decode cX8_putsBack 43 = .ok (.goto (-39), 3) := by decide +kernel
theorem dX8_putsBack_46 : decode cX8_putsBack 46 = .ok (.aload_n 0, 1) := by decide +kernel
theorem dX8_putsBack_47 : decode cX8_putsBack 47 = .ok (.iload_n 2, 1) := by decide +kernel
theorem dX8_putsBack_48 : decode cX8_putsBack 48 = .ok (.putfield 13, 3) := by decide +kernel
theorem dX8_putsBack_51 : decode cX8_putsBack 51 = .ok (.return_, 1) := by decide +kernel
set_option maxRecDepth 20000 in
theorem ggX8_backOf_X8_mostNow : GoodIn wsX8_backOf wsX8_mostNow := goodIn_r _ [7, 1, 8, 2, 9, 10, 11, 12, 13, 6, 14, 15, 16, 17, 18, 19, 20, 21, 22, 23, 24, 25, 26, 27, 28, 29, 30, 31, 32, 33, 34, 35, 36, 37, 38, 39, 40, 41, 42, 43, 44, 45, 46, 47, 48, 49, 50, 51, 52, 53, 54, 55, 56, 57, 58, 59, 60, 61, 62, 63, 64, 65, 66, 67, 68, 69, 70, 71, 72, 73, 74, 75, 76, 77, 78, 79, 80, 81, 82, 83, 84, 85, 86, 87, 88, 89, 90, 91, 92, 93, 94, 95, 96, 97, 98, 99, 100, 101, 102, 103, 104, 105, 106, 107, 123, 124, 125, 126, 127, 128, 129, 130, 131, 132, 133, 134, 135, 136, 137, 138, 139, 140, 141, 142, 143, 144, 145, 146, 147, 148, 149, 150, 151, 152, 153, 154, 155, 156, 157, 158, 159, 160, 161, 162, 163, 164, 165, 166, 167, 168, 169, 170, 171, 172, 173, 174, 175, 176, 177, 178, 179, 180, 181, 182, 183, 184, 185, 186, 187, 188, 189] (by decide +kernel) (by decide +kernel)
set_option maxRecDepth 20000 in
theorem gX8_backOf_X8_mostNow : GoodIn wsX8_backOf (wsV RX8 370 RX8 yX8_mostNow wsX8_mostNow) := goodIn_app (goodIn_of _ (by decide +kernel)) ggX8_backOf_X8_mostNow
set_option maxRecDepth 20000 in
theorem ggX8_backOf_X8_isHad : GoodIn wsX8_backOf wsX8_isHad := goodIn_r _ [42, 43, 44, 45, 6, 46, 1, 10, 123, 124, 125, 126, 127, 128, 129, 130, 131, 132, 133, 134, 135, 136, 137, 138, 139, 140, 141, 142, 143, 144, 145, 146, 147, 148, 149, 150, 151, 152, 153, 154, 155, 156, 157, 158, 159, 160, 161, 162, 163, 164, 165, 166, 167, 168, 169, 170, 171, 172, 173, 174, 175, 176, 177, 178, 179, 180, 181, 182, 183, 184, 185, 186, 187, 188, 189] (by decide +kernel) (by decide +kernel)
set_option maxRecDepth 20000 in
theorem gX8_backOf_X8_isHad : GoodIn wsX8_backOf (wsV RX8 319 RX8 yX8_isHad wsX8_isHad) := goodIn_app (goodIn_of _ (by decide +kernel)) ggX8_backOf_X8_isHad
set_option maxRecDepth 20000 in
theorem ggX8_backOf_X8_save : GoodIn wsX8_backOf wsX8_save := goodIn_r _ [111, 1, 112, 17, 113, 114, 10, 123, 124, 125, 126, 127, 128, 129, 130, 131, 132, 133, 134, 135, 136, 137, 138, 139, 140, 141, 142, 143, 144, 145, 146, 147, 148, 149, 150, 151, 152, 153, 154, 155, 156, 157, 158, 159, 160, 161, 162, 163, 164, 165, 166, 167, 168, 169, 170, 171, 172, 173, 174, 175, 176, 177, 178, 179, 180, 181, 182, 183, 184, 185, 186, 187, 188, 189] (by decide +kernel) (by decide +kernel)
set_option maxRecDepth 20000 in
theorem gX8_backOf_X8_save : GoodIn wsX8_backOf (wsV RX8 361 RX8 yX8_save wsX8_save) := goodIn_app (goodIn_of _ (by decide +kernel)) ggX8_backOf_X8_save
set_option maxRecDepth 20000 in
theorem ggX8_backOf_X8_putsBack : GoodIn wsX8_backOf wsX8_putsBack := goodIn_r _ [118, 1, 10, 123, 124, 125, 126, 127, 128, 129, 130, 131, 132, 133, 134, 135, 136, 137, 138, 139, 140, 141, 142, 143, 144, 145, 146, 147, 148, 149, 150, 151, 152, 153, 154, 155, 156, 157, 158, 159, 160, 161, 162, 163, 164, 165, 166, 167, 168, 169, 170, 171, 172, 173, 174, 175, 176, 177, 178, 179, 180, 181, 182, 183, 184, 185, 186, 187, 188, 189] (by decide +kernel) (by decide +kernel)
set_option maxRecDepth 20000 in
theorem gX8_backOf_X8_putsBack : GoodIn wsX8_backOf (wsV RX8 373 RX8 yX8_putsBack wsX8_putsBack) := goodIn_app (goodIn_of _ (by decide +kernel)) ggX8_backOf_X8_putsBack
set_option maxRecDepth 20000 in
theorem ggX8_backOf_X8_putBack : GoodIn wsX8_backOf wsX8_putBack := goodIn_r _ [122, 112, 1, 113, 17, 10, 114, 123, 124, 125, 126, 127, 128, 129, 130, 131, 132, 133, 134, 135, 136, 137, 138, 139, 140, 141, 142, 143, 144, 145, 146, 147, 148, 149, 150, 151, 152, 153, 154, 155, 156, 157, 158, 159, 160, 161, 162, 163, 164, 165, 166, 167, 168, 169, 170, 171, 172, 173, 174, 175, 176, 177, 178, 179, 180, 181, 182, 183, 184, 185, 186, 187, 188, 189] (by decide +kernel) (by decide +kernel)
set_option maxRecDepth 20000 in
theorem gX8_backOf_X8_putBack : GoodIn wsX8_backOf (wsV RX8 364 RX8 yX8_putBack wsX8_putBack) := goodIn_app (goodIn_of _ (by decide +kernel)) ggX8_backOf_X8_putBack
theorem dX8_backOf_0 : decode cX8_backOf 0 = .ok (.bipush (-5), 2) := by decide +kernel
theorem dX8_backOf_2 : decode cX8_backOf 2 = .ok (.istore_n 1, 1) := by decide +kernel
theorem dX8_backOf_3 : decode cX8_backOf 3 = .ok (.aload_n 0, 1) := by decide +kernel
theorem dX8_backOf_4 : decode cX8_backOf 4 = .ok (.getfield 13, 3) := by decide +kernel
theorem dX8_backOf_7 : decode cX8_backOf 7 = .ok (.aload_n 0, 1) := by decide +kernel
theorem dX8_backOf_8 : decode cX8_backOf 8 = .ok (.invokevirtual 370, 3) := by decide +kernel
theorem dX8_backOf_11 : decode cX8_backOf 11 = .ok (.iadd, 1) := by decide +kernel
theorem dX8_backOf_12 : decode cX8_backOf 12 = .ok (.istore_n 2, 1) := by decide +kernel
theorem dX8_backOf_13 : decode cX8_backOf 13 = .ok (.iconst 0, 1) := by decide +kernel
theorem dX8_backOf_14 : decode cX8_backOf 14 = .ok (.istore_n 3, 1) := by decide +kernel
theorem dX8_backOf_15 : decode cX8_backOf 15 = .ok (.iload_n 3, 1) := by decide +kernel
theorem dX8_backOf_16 : decode cX8_backOf 16 = .ok (.aload_n 0, 1) := by decide +kernel
theorem dX8_backOf_17 : decode cX8_backOf 17 = .ok (.getfield 7, 3) := by decide +kernel
theorem dX8_backOf_20 : decode cX8_backOf 20 = .ok (.if_icmp .ge 58, 3) := by decide +kernel
theorem dX8_backOf_23 : decode cX8_backOf 23 = .ok (.aload_n 0, 1) := by decide +kernel
theorem dX8_backOf_24 : decode cX8_backOf 24 = .ok (.iload_n 3, 1) := by decide +kernel
theorem dX8_backOf_25 : decode cX8_backOf 25 = .ok (.invokevirtual 319, 3) := by decide +kernel
theorem dX8_backOf_28 : decode cX8_backOf 28 = .ok (.ifCond .ne 6, 3) := by decide +kernel
theorem dX8_backOf_31 : decode cX8_backOf 31 = .ok (.goto 41, 3) := by decide +kernel
theorem dX8_backOf_34 : decode cX8_backOf 34 = .ok (.aload_n 0, 1) := by decide +kernel
theorem dX8_backOf_35 : decode cX8_backOf 35 = .ok (.invokevirtual 361, 3) := by decide +kernel
theorem dX8_backOf_38 : decode cX8_backOf 38 = .ok (.aload_n 0, 1) := by decide +kernel
theorem dX8_backOf_39 : decode cX8_backOf 39 = .ok (.iload_n 3, 1) := by decide +kernel
theorem dX8_backOf_40 : decode cX8_backOf 40 = .ok (.invokevirtual 373, 3) := by decide +kernel
theorem dX8_backOf_43 : decode cX8_backOf 43 = .ok (.aload_n 0, 1) := by decide +kernel
theorem dX8_backOf_44 : decode cX8_backOf 44 = .ok (.getfield 13, 3) := by decide +kernel
theorem dX8_backOf_47 : decode cX8_backOf 47 = .ok (.aload_n 0, 1) := by decide +kernel
theorem dX8_backOf_48 : decode cX8_backOf 48 = .ok (.invokevirtual 370, 3) := by decide +kernel
theorem dX8_backOf_51 : decode cX8_backOf 51 = .ok (.iadd, 1) := by decide +kernel
theorem dX8_backOf_52 : decode cX8_backOf 52 = .ok (.istore 4, 2) := by decide +kernel
theorem dX8_backOf_54 : decode cX8_backOf 54 = .ok (.aload_n 0, 1) := by decide +kernel
theorem dX8_backOf_55 : decode cX8_backOf 55 = .ok (.invokevirtual 364, 3) := by decide +kernel
theorem dX8_backOf_58 : decode cX8_backOf 58 = .ok (.iload 4, 2) := by decide +kernel
theorem dX8_backOf_60 : decode cX8_backOf 60 = .ok (.iload_n 2, 1) := by decide +kernel
theorem dX8_backOf_61 : decode cX8_backOf 61 = .ok (.if_icmp .gt 6, 3) := by decide +kernel
theorem dX8_backOf_64 : decode cX8_backOf 64 = .ok (.goto 8, 3) := by decide +kernel
theorem dX8_backOf_67 : decode cX8_backOf 67 = .ok (.iload_n 3, 1) := by decide +kernel
theorem dX8_backOf_68 : decode cX8_backOf 68 = .ok (.istore_n 1, 1) := by decide +kernel
theorem dX8_backOf_69 : decode cX8_backOf 69 = .ok (.iload 4, 2) := by decide +kernel
theorem dX8_backOf_71 : decode cX8_backOf 71 = .ok (.istore_n 2, 1) := by decide +kernel
theorem dX8_backOf_72 : decode cX8_backOf 72 = .ok (.iinc 3 1, 3) := by decide +kernel
theorem dX8_backOf_75 : decode cX8_backOf 75 = .ok (.goto (-60), 3) := by decide +kernel
theorem dX8_backOf_78 : decode cX8_backOf 78 = .ok (.iload_n 1, 1) := by decide +kernel
theorem dX8_backOf_79 : decode cX8_backOf 79 = .ok (.ireturn, 1) := by decide +kernel
set_option maxRecDepth 20000 in
theorem ggX8_best_X8_startOf : GoodIn wsX8_best wsX8_startOf := goodIn_r _ [5, 6, 7, 8, 9, 10, 4, 11, 12, 13, 14, 15, 16, 17, 18, 19, 20, 21, 22, 23, 24, 25, 26, 27, 28, 29, 30, 31, 32, 33, 34, 35, 36, 37, 38, 39, 40, 41, 42, 43, 44, 45, 46, 47, 48, 49, 50, 51, 52, 53, 54, 55, 56, 57, 58, 59, 60, 61, 62, 63, 64, 65, 66, 67, 68, 69, 70, 71, 72, 73, 74, 75, 76, 77, 78, 79, 80, 81, 82, 83, 84, 85, 86, 87, 88, 89, 90, 91, 92, 93, 94, 95, 96, 97, 98, 99, 100, 101, 102, 103, 104, 105, 106, 107, 108, 109, 110, 111, 131, 132, 133, 134, 135, 136, 137, 138, 139, 140, 141, 142, 143, 144, 145, 146, 147, 148, 149, 150, 151, 152, 153, 154, 155, 156, 157, 158, 159, 160, 161, 162, 163, 164, 165, 166, 167, 168, 169, 170, 171, 172, 173, 174, 175, 176, 177, 178, 179, 180, 181, 182, 183, 184, 185, 186, 187, 188, 189, 190, 191, 192, 193, 194, 195, 196, 197] (by decide +kernel) (by decide +kernel)
set_option maxRecDepth 20000 in
theorem gX8_best_X8_startOf : GoodIn wsX8_best (wsV RX8 376 RX8 yX8_startOf wsX8_startOf) := goodIn_app (goodIn_of _ (by decide +kernel)) ggX8_best_X8_startOf
set_option maxRecDepth 20000 in
theorem ggX8_best_X8_backOf : GoodIn wsX8_best wsX8_backOf := goodIn_r _ [115, 7, 6, 106, 107, 108, 4, 109, 110, 111, 44, 8, 9, 10, 11, 12, 13, 14, 15, 16, 17, 18, 19, 20, 21, 22, 23, 24, 25, 26, 27, 28, 29, 30, 31, 32, 33, 34, 35, 36, 37, 38, 39, 40, 41, 42, 43, 45, 46, 47, 48, 49, 50, 51, 52, 53, 54, 55, 56, 57, 58, 59, 60, 61, 62, 63, 64, 65, 66, 67, 68, 69, 70, 71, 72, 73, 74, 75, 76, 77, 78, 79, 80, 81, 82, 83, 84, 85, 86, 87, 88, 89, 90, 91, 92, 93, 94, 95, 96, 97, 98, 99, 100, 101, 102, 103, 104, 105, 116, 117, 118, 119, 120, 121, 122, 123, 124, 125, 126, 127, 128, 129, 130, 131, 132, 133, 134, 135, 136, 137, 138, 139, 140, 141, 142, 143, 144, 145, 146, 147, 148, 149, 150, 151, 152, 153, 154, 155, 156, 157, 158, 159, 160, 161, 162, 163, 164, 165, 166, 167, 168, 169, 170, 171, 172, 173, 174, 175, 176, 177, 178, 179, 180, 181, 182, 183, 184, 185, 186, 187, 188, 189, 190, 191, 192, 193, 194, 195, 196, 197] (by decide +kernel) (by decide +kernel)
set_option maxRecDepth 20000 in
theorem gX8_best_X8_backOf : GoodIn wsX8_best (wsV RX8 379 RX8 yX8_backOf wsX8_backOf) := goodIn_app (goodIn_of _ (by decide +kernel)) ggX8_best_X8_backOf
theorem dX8_best_0 : decode cX8_best 0 = .ok (.iload_n 1, 1) := by decide +kernel
theorem dX8_best_1 : decode cX8_best 1 = .ok (.ifCond .ne 10, 3) := by decide +kernel
theorem dX8_best_4 : decode cX8_best 4 = .ok (.aload_n 0, 1) := by decide +kernel
theorem dX8_best_5 : decode cX8_best 5 = .ok (.invokevirtual 376, 3) := by decide +kernel
theorem dX8_best_8 : decode cX8_best 8 = .ok (.goto 16, 3) := by decide +kernel
theorem dX8_best_11 : decode cX8_best 11 = .ok (.iload_n 1, 1) := by decide +kernel
theorem dX8_best_12 : decode cX8_best 12 = .ok (.iconst 1, 1) := by decide +kernel
theorem dX8_best_13 : decode cX8_best 13 = .ok (.if_icmp .ne 10, 3) := by decide +kernel
theorem dX8_best_16 : decode cX8_best 16 = .ok (.aload_n 0, 1) := by decide +kernel
theorem dX8_best_17 : decode cX8_best 17 = .ok (.invokevirtual 379, 3) := by decide +kernel
theorem dX8_best_20 : decode cX8_best 20 = .ok (.goto 4, 3) := by decide +kernel
theorem dX8_best_23 : decode cX8_best 23 = .ok (.iconst (-1), 1) := by decide +kernel
theorem dX8_best_24 : decode cX8_best 24 = .ok (.ireturn, 1) := by decide +kernel
set_option maxRecDepth 20000 in
theorem ggX8_reach_X8_isThing : GoodIn wsX8_reach wsX8_isThing := goodIn_r _ [5, 6, 7, 8, 9, 4, 10, 115, 116, 117, 118, 119, 120, 121, 122, 123, 124, 125, 126, 127, 128, 129, 130, 131, 132, 133, 134, 135, 136, 137, 138, 139, 140, 141, 142, 143, 144, 145, 146, 147, 148, 149, 150, 151, 152, 153, 154, 155, 156, 157, 158, 159, 160, 161, 162, 163, 164, 165, 166, 167, 168, 169, 170, 171, 172, 173, 174, 175, 176, 177, 178, 179, 180, 181] (by decide +kernel) (by decide +kernel)
set_option maxRecDepth 20000 in
theorem gX8_reach_X8_isThing : GoodIn wsX8_reach (wsV RX8 227 RX8 yX8_isThing wsX8_isThing) := goodIn_app (goodIn_of _ (by decide +kernel)) ggX8_reach_X8_isThing
set_option maxRecDepth 20000 in
theorem ggX8_reach_X8_isHad : GoodIn wsX8_reach wsX8_isHad := goodIn_r _ [14, 15, 16, 17, 4, 18, 19, 20, 115, 116, 117, 118, 119, 120, 121, 122, 123, 124, 125, 126, 127, 128, 129, 130, 131, 132, 133, 134, 135, 136, 137, 138, 139, 140, 141, 142, 143, 144, 145, 146, 147, 148, 149, 150, 151, 152, 153, 154, 155, 156, 157, 158, 159, 160, 161, 162, 163, 164, 165, 166, 167, 168, 169, 170, 171, 172, 173, 174, 175, 176, 177, 178, 179, 180, 181] (by decide +kernel) (by decide +kernel)
set_option maxRecDepth 20000 in
theorem gX8_reach_X8_isHad : GoodIn wsX8_reach (wsV RX8 319 RX8 yX8_isHad wsX8_isHad) := goodIn_app (goodIn_of _ (by decide +kernel)) ggX8_reach_X8_isHad
set_option maxRecDepth 20000 in
theorem ggX8_reach_X8_fewestAhead : GoodIn wsX8_reach wsX8_fewestAhead := goodIn_r _ [24, 25, 6, 19, 26, 27, 28, 4, 29, 30, 31, 32, 33, 34, 35, 36, 37, 38, 39, 40, 41, 42, 43, 44, 45, 46, 47, 48, 49, 50, 51, 52, 53, 11, 12, 13, 14, 15, 16, 17, 18, 20, 54, 55, 56, 57, 58, 59, 60, 61, 62, 63, 64, 65, 66, 67, 68, 69, 70, 71, 72, 73, 74, 75, 76, 77, 78, 79, 80, 81, 82, 83, 84, 85, 86, 87, 88, 89, 90, 91, 92, 93, 94, 95, 96, 97, 98, 99, 100, 101, 102, 103, 104, 105, 106, 107, 108, 109, 110, 111, 112, 113, 114, 115, 116, 117, 118, 119, 120, 121, 122, 123, 124, 125, 126, 127, 128, 129, 130, 131, 132, 133, 134, 135, 136, 137, 138, 139, 140, 141, 142, 143, 144, 145, 146, 147, 148, 149, 150, 151, 152, 153, 154, 155, 156, 157, 158, 159, 160, 161, 162, 163, 164, 165, 166, 167, 168, 169, 170, 171, 172, 173, 174, 175, 176, 177, 178, 179, 180, 181] (by decide +kernel) (by decide +kernel)
set_option maxRecDepth 20000 in
theorem gX8_reach_X8_fewestAhead : GoodIn wsX8_reach (wsV RX8 382 RX8 yX8_fewestAhead wsX8_fewestAhead) := goodIn_app (goodIn_of _ (by decide +kernel)) ggX8_reach_X8_fewestAhead
theorem dX8_reach_0 : decode cX8_reach 0 = .ok (.aload_n 0, 1) := by decide +kernel
theorem dX8_reach_1 : decode cX8_reach 1 = .ok (.iload_n 1, 1) := by decide +kernel
theorem dX8_reach_2 : decode cX8_reach 2 = .ok (.invokevirtual 227, 3) := by decide +kernel
theorem dX8_reach_5 : decode cX8_reach 5 = .ok (.ifCond .ne 5, 3) := by decide +kernel
theorem dX8_reach_8 : decode cX8_reach 8 = .ok (.iconst (-1), 1) := by decide +kernel
theorem dX8_reach_9 : decode cX8_reach 9 = .ok (.ireturn, 1) := by decide +kernel
theorem dX8_reach_10 : decode cX8_reach 10 = .ok (.aload_n 0, 1) := by decide +kernel
theorem dX8_reach_11 : decode cX8_reach 11 = .ok (.iload_n 1, 1) := by decide +kernel
theorem dX8_reach_12 : decode cX8_reach 12 = .ok (.invokevirtual 319, 3) := by decide +kernel
theorem dX8_reach_15 : decode cX8_reach 15 = .ok (.ifCond .eq 8, 3) := by decide +kernel
theorem dX8_reach_18 : decode cX8_reach 18 = .ok (.bipush (-5), 2) := by decide +kernel
theorem dX8_reach_20 : decode cX8_reach 20 = .ok (.goto 8, 3) := by decide +kernel
theorem dX8_reach_23 : decode cX8_reach 23 = .ok (.aload_n 0, 1) := by decide +kernel
theorem dX8_reach_24 : decode cX8_reach 24 = .ok (.iload_n 1, 1) := by decide +kernel
theorem dX8_reach_25 : decode cX8_reach 25 = .ok (.invokevirtual 382, 3) := by decide +kernel
theorem dX8_reach_28 : decode cX8_reach 28 = .ok (.ireturn, 1) := by decide +kernel
set_option maxRecDepth 20000 in
theorem ggX8_fitting_X8_isThing : GoodIn wsX8_fitting wsX8_isThing := goodIn_r _ [6, 7, 8, 9, 10, 5, 11, 106, 107, 108, 109, 110, 111, 112, 113, 114, 115, 116, 117, 118, 119, 120, 121, 122, 123, 124, 125, 126, 127, 128, 129, 130, 131, 132, 133, 134, 135, 136, 137, 138, 139, 140, 141, 142, 143, 144, 145, 146, 147, 148, 149, 150, 151, 152, 153, 154, 155, 156, 157, 158, 159, 160, 161, 162, 163, 164, 165, 166, 167, 168, 169, 170, 171, 172] (by decide +kernel) (by decide +kernel)
set_option maxRecDepth 20000 in
theorem gX8_fitting_X8_isThing : GoodIn wsX8_fitting (wsV RX8 227 RX8 yX8_isThing wsX8_isThing) := goodIn_app (goodIn_of _ (by decide +kernel)) ggX8_fitting_X8_isThing
set_option maxRecDepth 20000 in
theorem ggX8_fitting_X8_in : GoodIn wsX8_fitting wsX8_in := goodIn_r _ [11] (by decide +kernel) (by decide +kernel)
set_option maxRecDepth 20000 in
theorem gX8_fitting_X8_in : GoodIn wsX8_fitting (wsV RX8 219 RX8 yX8_in wsX8_in) := goodIn_app (goodIn_of _ (by decide +kernel)) ggX8_fitting_X8_in
set_option maxRecDepth 20000 in
theorem ggX8_fitting_X8_goes : GoodIn wsX8_fitting wsX8_goes := goodIn_r _ [15, 16, 17, 18, 19, 20, 21, 22, 23, 5, 24, 25, 26, 27, 28, 29, 30, 31, 32, 33, 34, 35, 36, 37, 38, 39, 40, 41, 42, 43, 44, 45, 46, 47, 48, 49, 50, 51, 52, 53, 54, 55, 56, 57, 1, 58, 59, 60, 61, 62, 63, 64, 65, 66, 67, 68, 69, 70, 71, 72, 73, 74, 75, 76, 77, 78, 79, 80, 81, 82, 83, 84, 85, 86, 87, 88, 89, 90, 91, 92, 93, 94, 95, 96, 97, 98, 99, 100, 101, 102, 103, 104, 105, 106, 107, 108, 109, 110, 111, 112, 113, 114, 115, 116, 117, 118, 119, 120, 121, 122, 123, 124, 125, 126, 127, 128, 129, 130, 131, 132, 133, 134, 135, 136, 137, 138, 139, 140, 141, 142, 143, 144, 145, 146, 147, 148, 149, 150, 151, 152, 153, 154, 155, 156, 157, 158, 159, 160, 161, 162, 163, 164, 165, 166, 167, 168, 169, 170, 171, 172] (by decide +kernel) (by decide +kernel)
set_option maxRecDepth 20000 in
theorem gX8_fitting_X8_goes : GoodIn wsX8_fitting (wsV RX8 331 RX8 yX8_goes wsX8_goes) := goodIn_app (goodIn_of _ (by decide +kernel)) ggX8_fitting_X8_goes
theorem dX8_fitting_0 : decode cX8_fitting 0 = .ok (.aload_n 0, 1) := by decide +kernel
theorem dX8_fitting_1 : decode cX8_fitting 1 = .ok (.iload_n 1, 1) := by decide +kernel
theorem dX8_fitting_2 : decode cX8_fitting 2 = .ok (.invokevirtual 227, 3) := by decide +kernel
theorem dX8_fitting_5 : decode cX8_fitting 5 = .ok (.ifCond .eq 13, 3) := by decide +kernel
theorem dX8_fitting_8 : decode cX8_fitting 8 = .ok (.aload_n 0, 1) := by decide +kernel
theorem dX8_fitting_9 : decode cX8_fitting 9 = .ok (.iload_n 2, 1) := by decide +kernel
theorem dX8_fitting_10 : decode cX8_fitting 10 = .ok (.iconst 0, 1) := by decide +kernel
theorem dX8_fitting_11 : decode cX8_fitting 11 = .ok (.iconst 1, 1) := by decide +kernel
theorem dX8_fitting_12 : decode cX8_fitting 12 = .ok (.invokevirtual 219, 3) := by decide +kernel
theorem dX8_fitting_15 : decode cX8_fitting 15 = .ok (.ifCond .ne 5, 3) := by decide +kernel
theorem dX8_fitting_18 : decode cX8_fitting 18 = .ok (.iconst (-1), 1) := by decide +kernel
theorem dX8_fitting_19 : decode cX8_fitting 19 = .ok (.ireturn, 1) := by decide +kernel
theorem dX8_fitting_20 : decode cX8_fitting 20 = .ok (.aload_n 0, 1) := by decide +kernel
theorem dX8_fitting_21 : decode cX8_fitting 21 = .ok (.getfield 26, 3) := by decide +kernel
theorem dX8_fitting_24 : decode cX8_fitting 24 = .ok (.iload_n 1, 1) := by decide +kernel
theorem dX8_fitting_25 : decode cX8_fitting 25 = .ok (.iaload, 1) := by decide +kernel
theorem dX8_fitting_26 : decode cX8_fitting 26 = .ok (.istore_n 3, 1) := by decide +kernel
theorem dX8_fitting_27 : decode cX8_fitting 27 = .ok (.iconst 0, 1) := by decide +kernel
theorem dX8_fitting_28 : decode cX8_fitting 28 = .ok (.istore 4, 2) := by decide +kernel
theorem dX8_fitting_30 : decode cX8_fitting 30 = .ok (.bipush (-5), 2) := by decide +kernel
theorem dX8_fitting_32 : decode cX8_fitting 32 = .ok (.istore 5, 2) := by decide +kernel
theorem dX8_fitting_34 : decode cX8_fitting 34 = .ok (.sipush 255, 3) := by decide +kernel
theorem dX8_fitting_37 : decode cX8_fitting 37 = .ok (.istore 6, 2) := by decide +kernel
theorem dX8_fitting_39 : decode cX8_fitting 39 = .ok (.iload 6, 2) := by decide +kernel
theorem dX8_fitting_41 : decode cX8_fitting 41 = .ok (.ifCond .lt 35, 3) := by decide +kernel
theorem dX8_fitting_44 : decode cX8_fitting 44 = .ok (.aload_n 0, 1) := by decide +kernel
theorem dX8_fitting_45 : decode cX8_fitting 45 = .ok (.getfield 26, 3) := by decide +kernel
theorem dX8_fitting_48 : decode cX8_fitting 48 = .ok (.iload_n 1, 1) := by decide +kernel
theorem dX8_fitting_49 : decode cX8_fitting 49 = .ok (.iload 6, 2) := by decide +kernel
theorem dX8_fitting_51 : decode cX8_fitting 51 = .ok (.iastore, 1) := by decide +kernel
theorem dX8_fitting_52 : decode cX8_fitting 52 = .ok (.aload_n 0, 1) := by decide +kernel
theorem dX8_fitting_53 : decode cX8_fitting 53 = .ok (.iload_n 1, 1) := by decide +kernel
theorem dX8_fitting_54 : decode cX8_fitting 54 = .ok (.invokevirtual 331, 3) := by decide +kernel
theorem dX8_fitting_57 : decode cX8_fitting 57 = .ok (.ifCond .ne 6, 3) := by decide +kernel
theorem dX8_fitting_60 : decode cX8_fitting 60 = .ok (.goto 10, 3) := by decide +kernel
theorem dX8_fitting_63 : decode cX8_fitting 63 = .ok (.iinc 4 1, 3) := by decide +kernel
theorem dX8_fitting_66 : decode cX8_fitting 66 = .ok (.iload 6, 2) := by decide +kernel
theorem dX8_fitting_68 : decode cX8_fitting 68 = .ok (.istore 5, 2) := by decide +kernel
theorem dX8_fitting_70 : decode cX8_fitting 70 = .ok (.iinc 6 (-1), 3) := by decide +kernel
theorem dX8_fitting_73 : decode cX8_fitting 73 = .ok (.goto (-34), 3) := by decide +kernel
theorem dX8_fitting_76 : decode cX8_fitting 76 = .ok (.aload_n 0, 1) := by decide +kernel
theorem dX8_fitting_77 : decode cX8_fitting 77 = .ok (.getfield 26, 3) := by decide +kernel
theorem dX8_fitting_80 : decode cX8_fitting 80 = .ok (.iload_n 1, 1) := by decide +kernel
theorem dX8_fitting_81 : decode cX8_fitting 81 = .ok (.iload_n 3, 1) := by decide +kernel
theorem dX8_fitting_82 : decode cX8_fitting 82 = .ok (.iastore, 1) := by decide +kernel
theorem dX8_fitting_83 : decode cX8_fitting 83 = .ok (.iload_n 2, 1) := by decide +kernel
theorem dX8_fitting_84 : decode cX8_fitting 84 = .ok (.ifCond .ne 8, 3) := by decide +kernel
theorem dX8_fitting_87 : decode cX8_fitting 87 = .ok (.iload 4, 2) := by decide +kernel
theorem dX8_fitting_89 : decode cX8_fitting 89 = .ok (.goto 5, 3) := by decide +kernel
theorem dX8_fitting_92 : decode cX8_fitting 92 = .ok (.iload 5, 2) := by decide +kernel
theorem dX8_fitting_94 : decode cX8_fitting 94 = .ok (.ireturn, 1) := by decide +kernel
set_option maxRecDepth 20000 in
theorem ggX8_see_X8_isThing : GoodIn wsX8_see wsX8_isThing := goodIn_r _ [9, 10, 11, 12, 13, 8, 14, 15, 16, 17, 18, 19, 20, 21, 22, 23, 24, 25, 26, 27, 28, 29, 30, 31, 32, 33, 34, 35, 36, 37, 38, 39, 40, 41, 42, 43, 44, 45, 46, 47, 48, 49, 50, 51, 52, 53, 54, 55, 56, 57, 58, 59, 60, 61, 62, 63, 64, 65, 66, 67, 68, 69, 70, 71, 72, 73, 74, 75, 76, 77, 78, 79, 80, 81] (by decide +kernel) (by decide +kernel)
set_option maxRecDepth 20000 in
theorem gX8_see_X8_isThing : GoodIn wsX8_see (wsV RX8 227 RX8 yX8_isThing wsX8_isThing) := goodIn_app (goodIn_of _ (by decide +kernel)) ggX8_see_X8_isThing
set_option maxRecDepth 20000 in
theorem ggX8_see_X8_in : GoodIn wsX8_see wsX8_in := goodIn_r _ [14] (by decide +kernel) (by decide +kernel)
set_option maxRecDepth 20000 in
theorem gX8_see_X8_in : GoodIn wsX8_see (wsV RX8 219 RX8 yX8_in wsX8_in) := goodIn_app (goodIn_of _ (by decide +kernel)) ggX8_see_X8_in
theorem dX8_see_0 : decode cX8_see 0 = .ok (.iload_n 1, 1) := by decide +kernel
theorem dX8_see_1 : decode cX8_see 1 = .ok (.iconst (-1), 1) := by decide +kernel
theorem dX8_see_2 : decode cX8_see 2 = .ok (.if_icmp .ne 10, 3) := by decide +kernel
theorem dX8_see_5 : decode cX8_see 5 = .ok (.aload_n 0, 1) := by decide +kernel
theorem dX8_see_6 : decode cX8_see 6 = .ok (.iconst 0, 1) := by decide +kernel
theorem dX8_see_7 : decode cX8_see 7 = .ok (.putfield 105, 3) := by decide +kernel
theorem dX8_see_10 : decode cX8_see 10 = .ok (.iconst 0, 1) := by decide +kernel
theorem dX8_see_11 : decode cX8_see 11 = .ok (.ireturn, 1) := by decide +kernel
theorem dX8_see_12 : decode cX8_see 12 = .ok (.aload_n 0, 1) := by decide +kernel
theorem dX8_see_13 : decode cX8_see 13 = .ok (.iload_n 1, 1) := by decide +kernel
theorem dX8_see_14 : decode cX8_see 14 = .ok (.invokevirtual 227, 3) := by decide +kernel
theorem dX8_see_17 : decode cX8_see 17 = .ok (.ifCond .ne 5, 3) := by decide +kernel
theorem dX8_see_20 : decode cX8_see 20 = .ok (.iconst (-1), 1) := by decide +kernel
theorem dX8_see_21 : decode cX8_see 21 = .ok (.ireturn, 1) := by decide +kernel
theorem dX8_see_22 : decode cX8_see 22 = .ok (.aload_n 0, 1) := by decide +kernel
theorem dX8_see_23 : decode cX8_see 23 = .ok (.iload_n 3, 1) := by decide +kernel
theorem dX8_see_24 : decode cX8_see 24 = .ok (.iconst 0, 1) := by decide +kernel
theorem dX8_see_25 : decode cX8_see 25 = .ok (.bipush 20, 2) := by decide +kernel
theorem dX8_see_27 : decode cX8_see 27 = .ok (.invokevirtual 219, 3) := by decide +kernel
theorem dX8_see_30 : decode cX8_see 30 = .ok (.ifCond .ne 6, 3) := by decide +kernel
theorem dX8_see_33 : decode cX8_see 33 = .ok (.bipush (-2), 2) := by decide +kernel
theorem dX8_see_35 : decode cX8_see 35 = .ok (.ireturn, 1) := by decide +kernel
theorem dX8_see_36 : decode cX8_see 36 = .ok (.aload_n 0, 1) := by decide +kernel
theorem dX8_see_37 : decode cX8_see 37 = .ok (.getfield 105, 3) := by decide +kernel
theorem dX8_see_40 : decode cX8_see 40 = .ok (.iconst 5, 1) := by decide +kernel
theorem dX8_see_41 : decode cX8_see 41 = .ok (.if_icmp .ne 6, 3) := by decide +kernel
theorem dX8_see_44 : decode cX8_see 44 = .ok (.bipush (-4), 2) := by decide +kernel
theorem dX8_see_46 : decode cX8_see 46 = .ok (.ireturn, 1) := by decide +kernel
theorem dX8_see_47 : decode cX8_see 47 = .ok (.aload_n 0, 1) := by decide +kernel
theorem dX8_see_48 : decode cX8_see 48 = .ok (.getfield 108, 3) := by decide +kernel
theorem dX8_see_51 : decode cX8_see 51 = .ok (.aload_n 0, 1) := by decide +kernel
theorem dX8_see_52 : decode cX8_see 52 = .ok (.getfield 105, 3) := by decide +kernel
theorem dX8_see_55 : decode cX8_see 55 = .ok (.iload_n 1, 1) := by decide +kernel
theorem dX8_see_56 : decode cX8_see 56 = .ok (.iastore, 1) := by decide +kernel
theorem dX8_see_57 : decode cX8_see 57 = .ok (.aload_n 0, 1) := by decide +kernel
theorem dX8_see_58 : decode cX8_see 58 = .ok (.getfield 114, 3) := by decide +kernel
theorem dX8_see_61 : decode cX8_see 61 = .ok (.aload_n 0, 1) := by decide +kernel
theorem dX8_see_62 : decode cX8_see 62 = .ok (.getfield 105, 3) := by decide +kernel
theorem dX8_see_65 : decode cX8_see 65 = .ok (.iload_n 2, 1) := by decide +kernel
theorem dX8_see_66 : decode cX8_see 66 = .ok (.bastore, 1) := by decide +kernel
theorem dX8_see_67 : decode cX8_see 67 = .ok (.aload_n 0, 1) := by decide +kernel
theorem dX8_see_68 : decode cX8_see 68 = .ok (.getfield 111, 3) := by decide +kernel
theorem dX8_see_71 : decode cX8_see 71 = .ok (.aload_n 0, 1) := by decide +kernel
theorem dX8_see_72 : decode cX8_see 72 = .ok (.getfield 105, 3) := by decide +kernel
theorem dX8_see_75 : decode cX8_see 75 = .ok (.iload_n 3, 1) := by decide +kernel
theorem dX8_see_76 : decode cX8_see 76 = .ok (.iastore, 1) := by decide +kernel
theorem dX8_see_77 : decode cX8_see 77 = .ok (.aload_n 0, 1) := by decide +kernel
theorem dX8_see_78 : decode cX8_see 78 = .ok (.dup, 1) := by decide +kernel
theorem dX8_see_79 : decode cX8_see 79 = .ok (.getfield 105, 3) := by decide +kernel
theorem dX8_see_82 : decode cX8_see 82 = .ok (.iconst 1, 1) := by decide +kernel
theorem dX8_see_83 : decode cX8_see 83 = .ok (.iadd, 1) := by decide +kernel
theorem dX8_see_84 : decode cX8_see 84 = .ok (.putfield 105, 3) := by decide +kernel
theorem dX8_see_87 : decode cX8_see 87 = .ok (.aload_n 0, 1) := by decide +kernel
theorem dX8_see_88 : decode cX8_see 88 = .ok (.getfield 105, 3) := by decide +kernel
theorem dX8_see_91 : decode cX8_see 91 = .ok (.ireturn, 1) := by decide +kernel
set_option maxRecDepth 20000 in
theorem ggX8_isSeen_X8_save : GoodIn wsX8_isSeen wsX8_save := goodIn_r _ [9, 10, 11, 12, 13, 14, 15, 125, 126, 127, 128, 129, 130, 131, 132, 133, 134, 135, 136, 137, 138, 139, 140, 141, 142, 143, 144, 145, 146, 147, 148, 149, 150, 151, 152, 153, 154, 155, 156, 157, 158, 159, 160, 161, 162, 163, 164, 165, 166, 167, 168, 169, 170, 171, 172, 173, 174, 175, 176, 177, 178, 179, 180, 181, 182, 183, 184, 185, 186, 187, 188, 189, 190, 191] (by decide +kernel) (by decide +kernel)
set_option maxRecDepth 20000 in
theorem gX8_isSeen_X8_save : GoodIn wsX8_isSeen (wsV RX8 361 RX8 yX8_save wsX8_save) := goodIn_app (goodIn_of _ (by decide +kernel)) ggX8_isSeen_X8_save
set_option maxRecDepth 20000 in
theorem ggX8_isSeen_X8_goDays : GoodIn wsX8_isSeen wsX8_goDays := goodIn_r _ [19, 20, 21, 22, 8, 23, 24, 12, 25, 26, 27, 28, 10, 29, 30, 31, 32, 33, 34, 35, 36, 37, 38, 39, 40, 41, 42, 43, 44, 45, 46, 47, 48, 49, 50, 51, 52, 53, 54, 55, 56, 57, 58, 59, 15, 60, 61, 62, 63, 64, 65, 66, 67, 68, 69, 70, 71, 72, 73, 74, 75, 76, 77, 78, 79, 80, 81, 82, 83, 84, 85, 86, 87, 88, 89, 90, 91, 92, 93, 94, 95, 96, 97, 98, 99, 100, 101, 102, 103, 104, 105, 106, 107, 108, 109, 110, 111, 112, 113, 114, 115, 116, 117, 118, 119, 120, 125, 126, 127, 128, 129, 130, 131, 132, 133, 134, 135, 136, 137, 138, 139, 140, 141, 142, 143, 144, 145, 146, 147, 148, 149, 150, 151, 152, 153, 154, 155, 156, 157, 158, 159, 160, 161, 162, 163, 164, 165, 166, 167, 168, 169, 170, 171, 172, 173, 174, 175, 176, 177, 178, 179, 180, 181, 182, 183, 184, 185, 186, 187, 188, 189, 190, 191] (by decide +kernel) (by decide +kernel)
set_option maxRecDepth 20000 in
theorem gX8_isSeen_X8_goDays : GoodIn wsX8_isSeen (wsV RX8 358 RX8 yX8_goDays wsX8_goDays) := goodIn_app (goodIn_of _ (by decide +kernel)) ggX8_isSeen_X8_goDays
set_option maxRecDepth 20000 in
theorem ggX8_isSeen_X8_isHad : GoodIn wsX8_isSeen wsX8_isHad := goodIn_r _ [55, 56, 57, 58, 8, 59, 10, 15, 125, 126, 127, 128, 129, 130, 131, 132, 133, 134, 135, 136, 137, 138, 139, 140, 141, 142, 143, 144, 145, 146, 147, 148, 149, 150, 151, 152, 153, 154, 155, 156, 157, 158, 159, 160, 161, 162, 163, 164, 165, 166, 167, 168, 169, 170, 171, 172, 173, 174, 175, 176, 177, 178, 179, 180, 181, 182, 183, 184, 185, 186, 187, 188, 189, 190, 191] (by decide +kernel) (by decide +kernel)
set_option maxRecDepth 20000 in
theorem gX8_isSeen_X8_isHad : GoodIn wsX8_isSeen (wsV RX8 319 RX8 yX8_isHad wsX8_isHad) := goodIn_app (goodIn_of _ (by decide +kernel)) ggX8_isSeen_X8_isHad
set_option maxRecDepth 20000 in
theorem ggX8_isSeen_X8_putBack : GoodIn wsX8_isSeen wsX8_putBack := goodIn_r _ [124, 11, 10, 13, 12, 15, 14, 125, 126, 127, 128, 129, 130, 131, 132, 133, 134, 135, 136, 137, 138, 139, 140, 141, 142, 143, 144, 145, 146, 147, 148, 149, 150, 151, 152, 153, 154, 155, 156, 157, 158, 159, 160, 161, 162, 163, 164, 165, 166, 167, 168, 169, 170, 171, 172, 173, 174, 175, 176, 177, 178, 179, 180, 181, 182, 183, 184, 185, 186, 187, 188, 189, 190, 191] (by decide +kernel) (by decide +kernel)
set_option maxRecDepth 20000 in
theorem gX8_isSeen_X8_putBack : GoodIn wsX8_isSeen (wsV RX8 364 RX8 yX8_putBack wsX8_putBack) := goodIn_app (goodIn_of _ (by decide +kernel)) ggX8_isSeen_X8_putBack
theorem dX8_isSeen_0 : decode cX8_isSeen 0 = .ok (.iconst 1, 1) := by decide +kernel
theorem dX8_isSeen_1 : decode cX8_isSeen 1 = .ok (.istore_n 1, 1) := by decide +kernel
theorem dX8_isSeen_2 : decode cX8_isSeen 2 = .ok (.iconst 0, 1) := by decide +kernel
theorem dX8_isSeen_3 : decode cX8_isSeen 3 = .ok (.istore_n 2, 1) := by decide +kernel
theorem dX8_isSeen_4 : decode cX8_isSeen 4 = .ok (.iload_n 2, 1) := by decide +kernel
theorem dX8_isSeen_5 : decode cX8_isSeen 5 = .ok (.aload_n 0, 1) := by decide +kernel
theorem dX8_isSeen_6 : decode cX8_isSeen 6 = .ok (.getfield 105, 3) := by decide +kernel
theorem dX8_isSeen_9 : decode cX8_isSeen 9 = .ok (.if_icmp .ge 56, 3) := by decide +kernel
theorem dX8_isSeen_12 : decode cX8_isSeen 12 = .ok (.iload_n 1, 1) := by decide +kernel
theorem dX8_isSeen_13 : decode cX8_isSeen 13 = .ok (.ifCond .eq 52, 3) := by decide +kernel
theorem dX8_isSeen_16 : decode cX8_isSeen 16 = .ok (.aload_n 0, 1) := by decide +kernel
theorem dX8_isSeen_17 : decode cX8_isSeen 17 = .ok (.invokevirtual 361, 3) := by decide +kernel
theorem dX8_isSeen_20 : decode cX8_isSeen 20 = .ok (.aload_n 0, 1) := by decide +kernel
theorem dX8_isSeen_21 : decode cX8_isSeen 21 = .ok (.aload_n 0, 1) := by decide +kernel
theorem dX8_isSeen_22 : decode cX8_isSeen 22 = .ok (.getfield 111, 3) := by decide +kernel
theorem dX8_isSeen_25 : decode cX8_isSeen 25 = .ok (.iload_n 2, 1) := by decide +kernel
theorem dX8_isSeen_26 : decode cX8_isSeen 26 = .ok (.iaload, 1) := by decide +kernel
theorem dX8_isSeen_27 : decode cX8_isSeen 27 = .ok (.invokevirtual 358, 3) := by decide +kernel
theorem dX8_isSeen_30 : decode cX8_isSeen 30 = .ok (.aload_n 0, 1) := by decide +kernel
theorem dX8_isSeen_31 : decode cX8_isSeen 31 = .ok (.aload_n 0, 1) := by decide +kernel
theorem dX8_isSeen_32 : decode cX8_isSeen 32 = .ok (.getfield 108, 3) := by decide +kernel
theorem dX8_isSeen_35 : decode cX8_isSeen 35 = .ok (.iload_n 2, 1) := by decide +kernel
theorem dX8_isSeen_36 : decode cX8_isSeen 36 = .ok (.iaload, 1) := by decide +kernel
theorem dX8_isSeen_37 : decode cX8_isSeen 37 = .ok (.invokevirtual 319, 3) := by decide +kernel
theorem dX8_isSeen_40 : decode cX8_isSeen 40 = .ok (.aload_n 0, 1) := by decide +kernel
theorem dX8_isSeen_41 : decode cX8_isSeen 41 = .ok (.getfield 114, 3) := by decide +kernel
theorem dX8_isSeen_44 : decode cX8_isSeen 44 = .ok (.iload_n 2, 1) := by decide +kernel
theorem dX8_isSeen_45 : decode cX8_isSeen 45 = .ok (.baload, 1) := by decide +kernel
theorem dX8_isSeen_46 : decode cX8_isSeen 46 = .ok (.if_icmp .ne 7, 3) := by decide +kernel
theorem dX8_isSeen_49 : decode cX8_isSeen 49 = .ok (.iconst 1, 1) := by decide +kernel
theorem dX8_isSeen_50 : decode cX8_isSeen 50 = .ok (.goto 4, 3) := by decide +kernel
theorem dX8_isSeen_53 : decode cX8_isSeen 53 = .ok (.iconst 0, 1) := by decide +kernel
theorem dX8_isSeen_54 : decode cX8_isSeen 54 = .ok (.istore_n 1, 1) := by decide +kernel
theorem dX8_isSeen_55 : decode cX8_isSeen 55 = .ok (.aload_n 0, 1) := by decide +kernel
theorem dX8_isSeen_56 : decode cX8_isSeen 56 = .ok (.invokevirtual 364, 3) := by decide +kernel
theorem dX8_isSeen_59 : decode cX8_isSeen 59 = .ok (.iinc 2 1, 3) := by decide +kernel
theorem dX8_isSeen_62 : decode cX8_isSeen 62 = .ok (.goto (-58), 3) := by decide +kernel
theorem dX8_isSeen_65 : decode cX8_isSeen 65 = .ok (.iload_n 1, 1) := by decide +kernel
theorem dX8_isSeen_66 : decode cX8_isSeen 66 = .ok (.ireturn, 1) := by decide +kernel
set_option maxRecDepth 20000 in
theorem ggX8_marked_X8_isThing : GoodIn wsX8_marked wsX8_isThing := goodIn_r _ [6, 7, 8, 9, 10, 5, 11, 137, 138, 139, 140, 141, 142, 143, 144, 145, 146, 147, 148, 149, 150, 151, 152, 153, 154, 155, 156, 157, 158, 159, 160, 161, 162, 163, 164, 165, 166, 167, 168, 169, 170, 171, 172, 173, 174, 175, 176, 177, 178, 179, 180, 181, 182, 183, 184, 185, 186, 187, 188, 189, 190, 191, 192, 193, 194, 195, 196, 197, 198, 199, 200, 201, 202, 203] (by decide +kernel) (by decide +kernel)
set_option maxRecDepth 20000 in
theorem gX8_marked_X8_isThing : GoodIn wsX8_marked (wsV RX8 227 RX8 yX8_isThing wsX8_isThing) := goodIn_app (goodIn_of _ (by decide +kernel)) ggX8_marked_X8_isThing
set_option maxRecDepth 20000 in
theorem ggX8_marked_X8_in : GoodIn wsX8_marked wsX8_in := goodIn_r _ [11] (by decide +kernel) (by decide +kernel)
set_option maxRecDepth 20000 in
theorem gX8_marked_X8_in : GoodIn wsX8_marked (wsV RX8 219 RX8 yX8_in wsX8_in) := goodIn_app (goodIn_of _ (by decide +kernel)) ggX8_marked_X8_in
set_option maxRecDepth 20000 in
theorem ggX8_marked_X8_isSeen : GoodIn wsX8_marked wsX8_isSeen := goodIn_r _ [15, 16, 17, 18, 19, 20, 21, 22, 5, 23, 24, 25, 26, 27, 28, 29, 30, 31, 32, 33, 34, 35, 36, 37, 7, 38, 39, 40, 41, 42, 43, 44, 45, 46, 47, 48, 49, 50, 51, 52, 53, 54, 55, 56, 57, 58, 59, 60, 61, 62, 63, 64, 65, 66, 67, 68, 69, 70, 71, 72, 73, 74, 75, 76, 77, 78, 79, 80, 1, 81, 82, 83, 84, 85, 86, 87, 88, 89, 90, 91, 92, 93, 94, 95, 96, 97, 98, 99, 100, 101, 102, 103, 104, 105, 106, 107, 108, 109, 110, 111, 112, 113, 114, 115, 116, 117, 118, 119, 120, 121, 122, 123, 124, 125, 126, 127, 128, 129, 130, 131, 132, 133, 134, 135, 136, 137, 138, 139, 140, 141, 142, 143, 144, 145, 146, 147, 148, 149, 150, 151, 152, 153, 154, 155, 156, 157, 158, 159, 160, 161, 162, 163, 164, 165, 166, 167, 168, 169, 170, 171, 172, 173, 174, 175, 176, 177, 178, 179, 180, 181, 182, 183, 184, 185, 186, 187, 188, 189, 190, 191, 192, 193, 194, 195, 196, 197, 198, 199, 200, 201, 202, 203] (by decide +kernel) (by decide +kernel)
set_option maxRecDepth 20000 in
theorem gX8_marked_X8_isSeen : GoodIn wsX8_marked (wsV RX8 385 RX8 yX8_isSeen wsX8_isSeen) := goodIn_app (goodIn_of _ (by decide +kernel)) ggX8_marked_X8_isSeen
theorem dX8_marked_0 : decode cX8_marked 0 = .ok (.aload_n 0, 1) := by decide +kernel
theorem dX8_marked_1 : decode cX8_marked 1 = .ok (.iload_n 1, 1) := by decide +kernel
theorem dX8_marked_2 : decode cX8_marked 2 = .ok (.invokevirtual 227, 3) := by decide +kernel
theorem dX8_marked_5 : decode cX8_marked 5 = .ok (.ifCond .eq 13, 3) := by decide +kernel
theorem dX8_marked_8 : decode cX8_marked 8 = .ok (.aload_n 0, 1) := by decide +kernel
theorem dX8_marked_9 : decode cX8_marked 9 = .ok (.iload_n 2, 1) := by decide +kernel
theorem dX8_marked_10 : decode cX8_marked 10 = .ok (.iconst 0, 1) := by decide +kernel
theorem dX8_marked_11 : decode cX8_marked 11 = .ok (.iconst 1, 1) := by decide +kernel
theorem dX8_marked_12 : decode cX8_marked 12 = .ok (.invokevirtual 219, 3) := by decide +kernel
theorem dX8_marked_15 : decode cX8_marked 15 = .ok (.ifCond .ne 5, 3) := by decide +kernel
theorem dX8_marked_18 : decode cX8_marked 18 = .ok (.iconst (-1), 1) := by decide +kernel
theorem dX8_marked_19 : decode cX8_marked 19 = .ok (.ireturn, 1) := by decide +kernel
theorem dX8_marked_20 : decode cX8_marked 20 = .ok (.aload_n 0, 1) := by decide +kernel
theorem dX8_marked_21 : decode cX8_marked 21 = .ok (.getfield 26, 3) := by decide +kernel
theorem dX8_marked_24 : decode cX8_marked 24 = .ok (.iload_n 1, 1) := by decide +kernel
theorem dX8_marked_25 : decode cX8_marked 25 = .ok (.iaload, 1) := by decide +kernel
theorem dX8_marked_26 : decode cX8_marked 26 = .ok (.istore_n 3, 1) := by decide +kernel
theorem dX8_marked_27 : decode cX8_marked 27 = .ok (.iconst 0, 1) := by decide +kernel
theorem dX8_marked_28 : decode cX8_marked 28 = .ok (.istore 4, 2) := by decide +kernel
theorem dX8_marked_30 : decode cX8_marked 30 = .ok (.bipush (-5), 2) := by decide +kernel
theorem dX8_marked_32 : decode cX8_marked 32 = .ok (.istore 5, 2) := by decide +kernel
theorem dX8_marked_34 : decode cX8_marked 34 = .ok (.sipush 255, 3) := by decide +kernel
theorem dX8_marked_37 : decode cX8_marked 37 = .ok (.istore 6, 2) := by decide +kernel
theorem dX8_marked_39 : decode cX8_marked 39 = .ok (.iload 6, 2) := by decide +kernel
theorem dX8_marked_41 : decode cX8_marked 41 = .ok (.ifCond .lt 34, 3) := by decide +kernel
theorem dX8_marked_44 : decode cX8_marked 44 = .ok (.aload_n 0, 1) := by decide +kernel
theorem dX8_marked_45 : decode cX8_marked 45 = .ok (.getfield 26, 3) := by decide +kernel
theorem dX8_marked_48 : decode cX8_marked 48 = .ok (.iload_n 1, 1) := by decide +kernel
theorem dX8_marked_49 : decode cX8_marked 49 = .ok (.iload 6, 2) := by decide +kernel
theorem dX8_marked_51 : decode cX8_marked 51 = .ok (.iastore, 1) := by decide +kernel
theorem dX8_marked_52 : decode cX8_marked 52 = .ok (.aload_n 0, 1) := by decide +kernel
theorem dX8_marked_53 : decode cX8_marked 53 = .ok (.invokevirtual 385, 3) := by decide +kernel
theorem dX8_marked_56 : decode cX8_marked 56 = .ok (.ifCond .ne 6, 3) := by decide +kernel
theorem dX8_marked_59 : decode cX8_marked 59 = .ok (.goto 10, 3) := by decide +kernel
theorem dX8_marked_62 : decode cX8_marked 62 = .ok (.iinc 4 1, 3) := by decide +kernel
theorem dX8_marked_65 : decode cX8_marked 65 = .ok (.iload 6, 2) := by decide +kernel
theorem dX8_marked_67 : decode cX8_marked 67 = .ok (.istore 5, 2) := by decide +kernel
theorem dX8_marked_69 : decode cX8_marked 69 = .ok (.iinc 6 (-1), 3) := by decide +kernel
theorem dX8_marked_72 : decode cX8_marked 72 = .ok (.goto (-33), 3) := by decide +kernel
theorem dX8_marked_75 : decode cX8_marked 75 = .ok (.aload_n 0, 1) := by decide +kernel
theorem dX8_marked_76 : decode cX8_marked 76 = .ok (.getfield 26, 3) := by decide +kernel
theorem dX8_marked_79 : decode cX8_marked 79 = .ok (.iload_n 1, 1) := by decide +kernel
theorem dX8_marked_80 : decode cX8_marked 80 = .ok (.iload_n 3, 1) := by decide +kernel
theorem dX8_marked_81 : decode cX8_marked 81 = .ok (.iastore, 1) := by decide +kernel
theorem dX8_marked_82 : decode cX8_marked 82 = .ok (.iload_n 2, 1) := by decide +kernel
theorem dX8_marked_83 : decode cX8_marked 83 = .ok (.ifCond .ne 8, 3) := by decide +kernel
theorem dX8_marked_86 : decode cX8_marked 86 = .ok (.iload 4, 2) := by decide +kernel
theorem dX8_marked_88 : decode cX8_marked 88 = .ok (.goto 5, 3) := by decide +kernel
theorem dX8_marked_91 : decode cX8_marked 91 = .ok (.iload 5, 2) := by decide +kernel
theorem dX8_marked_93 : decode cX8_marked 93 = .ok (.ireturn, 1) := by decide +kernel
set_option maxRecDepth 20000 in
theorem ggX8_can_X8_isThing : GoodIn wsX8_can wsX8_isThing := goodIn_r _ [6, 7, 8, 9, 10, 5, 11, 137, 138, 139, 140, 141, 142, 143, 144, 145, 146, 147, 148, 149, 150, 151, 152, 153, 154, 155, 156, 157, 158, 159, 160, 161, 162, 163, 164, 165, 166, 167, 168, 169, 170, 171, 172, 173, 174, 175, 176, 177, 178, 179, 180, 181, 182, 183, 184, 185, 186, 187, 188, 189, 190, 191, 192, 193, 194, 195, 196, 197, 198, 199, 200, 201, 202, 203] (by decide +kernel) (by decide +kernel)
set_option maxRecDepth 20000 in
theorem gX8_can_X8_isThing : GoodIn wsX8_can (wsV RX8 227 RX8 yX8_isThing wsX8_isThing) := goodIn_app (goodIn_of _ (by decide +kernel)) ggX8_can_X8_isThing
set_option maxRecDepth 20000 in
theorem ggX8_can_X8_in : GoodIn wsX8_can wsX8_in := goodIn_r _ [11] (by decide +kernel) (by decide +kernel)
set_option maxRecDepth 20000 in
theorem gX8_can_X8_in : GoodIn wsX8_can (wsV RX8 219 RX8 yX8_in wsX8_in) := goodIn_app (goodIn_of _ (by decide +kernel)) ggX8_can_X8_in
set_option maxRecDepth 20000 in
theorem ggX8_can_X8_isSeen : GoodIn wsX8_can wsX8_isSeen := goodIn_r _ [15, 16, 17, 18, 19, 20, 21, 22, 5, 23, 24, 25, 26, 27, 28, 29, 30, 31, 32, 33, 34, 35, 36, 37, 7, 38, 39, 40, 41, 42, 1, 43, 44, 45, 46, 47, 48, 49, 50, 51, 52, 53, 54, 55, 56, 57, 58, 59, 60, 61, 62, 63, 64, 65, 66, 67, 68, 69, 70, 71, 72, 73, 74, 75, 76, 77, 78, 79, 80, 81, 82, 83, 84, 85, 86, 87, 88, 89, 90, 91, 92, 93, 94, 95, 96, 97, 98, 99, 100, 101, 102, 103, 104, 105, 106, 107, 108, 109, 110, 111, 112, 113, 114, 115, 116, 117, 118, 119, 120, 121, 122, 123, 124, 125, 126, 127, 128, 129, 130, 131, 132, 133, 134, 135, 136, 137, 138, 139, 140, 141, 142, 143, 144, 145, 146, 147, 148, 149, 150, 151, 152, 153, 154, 155, 156, 157, 158, 159, 160, 161, 162, 163, 164, 165, 166, 167, 168, 169, 170, 171, 172, 173, 174, 175, 176, 177, 178, 179, 180, 181, 182, 183, 184, 185, 186, 187, 188, 189, 190, 191, 192, 193, 194, 195, 196, 197, 198, 199, 200, 201, 202, 203] (by decide +kernel) (by decide +kernel)
set_option maxRecDepth 20000 in
theorem gX8_can_X8_isSeen : GoodIn wsX8_can (wsV RX8 385 RX8 yX8_isSeen wsX8_isSeen) := goodIn_app (goodIn_of _ (by decide +kernel)) ggX8_can_X8_isSeen
theorem dX8_can_0 : decode cX8_can 0 = .ok (.aload_n 0, 1) := by decide +kernel
theorem dX8_can_1 : decode cX8_can 1 = .ok (.iload_n 1, 1) := by decide +kernel
theorem dX8_can_2 : decode cX8_can 2 = .ok (.invokevirtual 227, 3) := by decide +kernel
theorem dX8_can_5 : decode cX8_can 5 = .ok (.ifCond .eq 13, 3) := by decide +kernel
theorem dX8_can_8 : decode cX8_can 8 = .ok (.aload_n 0, 1) := by decide +kernel
theorem dX8_can_9 : decode cX8_can 9 = .ok (.iload_n 2, 1) := by decide +kernel
theorem dX8_can_10 : decode cX8_can 10 = .ok (.iconst 0, 1) := by decide +kernel
theorem dX8_can_11 : decode cX8_can 11 = .ok (.iconst 1, 1) := by decide +kernel
theorem dX8_can_12 : decode cX8_can 12 = .ok (.invokevirtual 219, 3) := by decide +kernel
theorem dX8_can_15 : decode cX8_can 15 = .ok (.ifCond .ne 5, 3) := by decide +kernel
theorem dX8_can_18 : decode cX8_can 18 = .ok (.iconst (-1), 1) := by decide +kernel
theorem dX8_can_19 : decode cX8_can 19 = .ok (.ireturn, 1) := by decide +kernel
theorem dX8_can_20 : decode cX8_can 20 = .ok (.aload_n 0, 1) := by decide +kernel
theorem dX8_can_21 : decode cX8_can 21 = .ok (.getfield 23, 3) := by decide +kernel
theorem dX8_can_24 : decode cX8_can 24 = .ok (.iload_n 1, 1) := by decide +kernel
theorem dX8_can_25 : decode cX8_can 25 = .ok (.iaload, 1) := by decide +kernel
theorem dX8_can_26 : decode cX8_can 26 = .ok (.istore_n 3, 1) := by decide +kernel
theorem dX8_can_27 : decode cX8_can 27 = .ok (.iconst 0, 1) := by decide +kernel
theorem dX8_can_28 : decode cX8_can 28 = .ok (.istore 4, 2) := by decide +kernel
theorem dX8_can_30 : decode cX8_can 30 = .ok (.bipush (-5), 2) := by decide +kernel
theorem dX8_can_32 : decode cX8_can 32 = .ok (.istore 5, 2) := by decide +kernel
theorem dX8_can_34 : decode cX8_can 34 = .ok (.bipush 9, 2) := by decide +kernel
theorem dX8_can_36 : decode cX8_can 36 = .ok (.istore 6, 2) := by decide +kernel
theorem dX8_can_38 : decode cX8_can 38 = .ok (.iload 6, 2) := by decide +kernel
theorem dX8_can_40 : decode cX8_can 40 = .ok (.ifCond .lt 34, 3) := by decide +kernel
theorem dX8_can_43 : decode cX8_can 43 = .ok (.aload_n 0, 1) := by decide +kernel
theorem dX8_can_44 : decode cX8_can 44 = .ok (.getfield 23, 3) := by decide +kernel
theorem dX8_can_47 : decode cX8_can 47 = .ok (.iload_n 1, 1) := by decide +kernel
theorem dX8_can_48 : decode cX8_can 48 = .ok (.iload 6, 2) := by decide +kernel
theorem dX8_can_50 : decode cX8_can 50 = .ok (.iastore, 1) := by decide +kernel
theorem dX8_can_51 : decode cX8_can 51 = .ok (.aload_n 0, 1) := by decide +kernel
theorem dX8_can_52 : decode cX8_can 52 = .ok (.invokevirtual 385, 3) := by decide +kernel
theorem dX8_can_55 : decode cX8_can 55 = .ok (.ifCond .ne 6, 3) := by decide +kernel
theorem dX8_can_58 : decode cX8_can 58 = .ok (.goto 10, 3) := by decide +kernel
theorem dX8_can_61 : decode cX8_can 61 = .ok (.iinc 4 1, 3) := by decide +kernel
theorem dX8_can_64 : decode cX8_can 64 = .ok (.iload 6, 2) := by decide +kernel
theorem dX8_can_66 : decode cX8_can 66 = .ok (.istore 5, 2) := by decide +kernel
theorem dX8_can_68 : decode cX8_can 68 = .ok (.iinc 6 (-1), 3) := by decide +kernel
theorem dX8_can_71 : decode cX8_can 71 = .ok (.goto (-33), 3) := by decide +kernel
theorem dX8_can_74 : decode cX8_can 74 = .ok (.aload_n 0, 1) := by decide +kernel
theorem dX8_can_75 : decode cX8_can 75 = .ok (.getfield 23, 3) := by decide +kernel
theorem dX8_can_78 : decode cX8_can 78 = .ok (.iload_n 1, 1) := by decide +kernel
theorem dX8_can_79 : decode cX8_can 79 = .ok (.iload_n 3, 1) := by decide +kernel
theorem dX8_can_80 : decode cX8_can 80 = .ok (.iastore, 1) := by decide +kernel
theorem dX8_can_81 : decode cX8_can 81 = .ok (.iload_n 2, 1) := by decide +kernel
theorem dX8_can_82 : decode cX8_can 82 = .ok (.ifCond .ne 8, 3) := by decide +kernel
theorem dX8_can_85 : decode cX8_can 85 = .ok (.iload 4, 2) := by decide +kernel
theorem dX8_can_87 : decode cX8_can 87 = .ok (.goto 5, 3) := by decide +kernel
theorem dX8_can_90 : decode cX8_can 90 = .ok (.iload 5, 2) := by decide +kernel
theorem dX8_can_92 : decode cX8_can 92 = .ok (.ireturn, 1) := by decide +kernel
theorem dX8_divisor_0 : decode cX8_divisor 0 = .ok (.iload_n 1, 1) := by decide +kernel
theorem dX8_divisor_1 : decode cX8_divisor 1 = .ok (.istore_n 3, 1) := by decide +kernel
theorem dX8_divisor_2 : decode cX8_divisor 2 = .ok (.iload_n 2, 1) := by decide +kernel
theorem dX8_divisor_3 : decode cX8_divisor 3 = .ok (.istore 4, 2) := by decide +kernel
theorem dX8_divisor_5 : decode cX8_divisor 5 = .ok (.iload 4, 2) := by decide +kernel
theorem dX8_divisor_7 : decode cX8_divisor 7 = .ok (.ifCond .eq 19, 3) := by decide +kernel
theorem dX8_divisor_10 : decode cX8_divisor 10 = .ok (.iload_n 3, 1) := by decide +kernel
theorem dX8_divisor_11 : decode cX8_divisor 11 = .ok (.iload 4, 2) := by decide +kernel
theorem dX8_divisor_13 : decode cX8_divisor 13 = .ok (.irem, 1) := by decide +kernel
theorem dX8_divisor_14 : decode cX8_divisor 14 = .ok (.istore 5, 2) := by decide +kernel
theorem dX8_divisor_16 : decode cX8_divisor 16 = .ok (.iload 4, 2) := by decide +kernel
theorem dX8_divisor_18 : decode cX8_divisor 18 = .ok (.istore_n 3, 1) := by decide +kernel
theorem dX8_divisor_19 : decode cX8_divisor 19 = .ok (.iload 5, 2) := by decide +kernel
theorem dX8_divisor_21 : decode cX8_divisor 21 = .ok (.istore 4, 2) := by decide +kernel
theorem dX8_divisor_23 : decode cX8_divisor 23 = .ok (.goto (-18), 3) := by decide +kernel
theorem dX8_divisor_26 : decode cX8_divisor 26 = .ok (.iload_n 3, 1) := by decide +kernel
theorem dX8_divisor_27 : decode cX8_divisor 27 = .ok (.ireturn, 1) := by decide +kernel
set_option maxRecDepth 20000 in
theorem ggX8_lowest_X8_divisor : GoodIn wsX8_lowest wsX8_divisor := goodIn_r _ [5] (by decide +kernel) (by decide +kernel)
set_option maxRecDepth 20000 in
theorem gX8_lowest_X8_divisor : GoodIn wsX8_lowest (wsV RX8 388 RX8 yX8_divisor wsX8_divisor) := goodIn_app (goodIn_of _ (by decide +kernel)) ggX8_lowest_X8_divisor
theorem dX8_lowest_0 : decode cX8_lowest 0 = .ok (.aload_n 0, 1) := by decide +kernel
theorem dX8_lowest_1 : decode cX8_lowest 1 = .ok (.iload_n 1, 1) := by decide +kernel
theorem dX8_lowest_2 : decode cX8_lowest 2 = .ok (.iload_n 2, 1) := by decide +kernel
theorem dX8_lowest_3 : decode cX8_lowest 3 = .ok (.invokevirtual 388, 3) := by decide +kernel
theorem dX8_lowest_6 : decode cX8_lowest 6 = .ok (.istore 4, 2) := by decide +kernel
theorem dX8_lowest_8 : decode cX8_lowest 8 = .ok (.iload_n 3, 1) := by decide +kernel
theorem dX8_lowest_9 : decode cX8_lowest 9 = .ok (.ifCond .ne 11, 3) := by decide +kernel
theorem dX8_lowest_12 : decode cX8_lowest 12 = .ok (.iload_n 1, 1) := by decide +kernel
theorem dX8_lowest_13 : decode cX8_lowest 13 = .ok (.iload 4, 2) := by decide +kernel
theorem dX8_lowest_15 : decode cX8_lowest 15 = .ok (.idiv, 1) := by decide +kernel
theorem dX8_lowest_16 : decode cX8_lowest 16 = .ok (.i2l, 1) := by decide +kernel
theorem dX8_lowest_17 : decode cX8_lowest 17 = .ok (.goto 8, 3) := by decide +kernel
theorem dX8_lowest_20 : decode cX8_lowest 20 = .ok (.iload_n 2, 1) := by decide +kernel
theorem dX8_lowest_21 : decode cX8_lowest 21 = .ok (.iload 4, 2) := by decide +kernel
theorem dX8_lowest_23 : decode cX8_lowest 23 = .ok (.idiv, 1) := by decide +kernel
theorem dX8_lowest_24 : decode cX8_lowest 24 = .ok (.i2l, 1) := by decide +kernel
theorem dX8_lowest_25 : decode cX8_lowest 25 = .ok (.lreturn, 1) := by decide +kernel
set_option maxRecDepth 20000 in
theorem ggX8_odds_X8_isDays : GoodIn wsX8_odds wsX8_isDays := goodIn_r _ [9, 10, 11, 12, 8, 13] (by decide +kernel) (by decide +kernel)
set_option maxRecDepth 20000 in
theorem gX8_odds_X8_isDays : GoodIn wsX8_odds (wsV RX8 355 RX8 yX8_isDays wsX8_isDays) := goodIn_app (goodIn_of _ (by decide +kernel)) ggX8_odds_X8_isDays
set_option maxRecDepth 20000 in
theorem ggX8_odds_X8_isMany : GoodIn wsX8_odds wsX8_isMany := goodIn_r _ [17, 10, 11, 12, 8, 13] (by decide +kernel) (by decide +kernel)
set_option maxRecDepth 20000 in
theorem gX8_odds_X8_isMany : GoodIn wsX8_odds (wsV RX8 367 RX8 yX8_isMany wsX8_isMany) := goodIn_app (goodIn_of _ (by decide +kernel)) ggX8_odds_X8_isMany
set_option maxRecDepth 20000 in
theorem ggX8_odds_X8_in : GoodIn wsX8_odds wsX8_in := goodIn_r _ [13] (by decide +kernel) (by decide +kernel)
set_option maxRecDepth 20000 in
theorem gX8_odds_X8_in : GoodIn wsX8_odds (wsV RX8 219 RX8 yX8_in wsX8_in) := goodIn_app (goodIn_of _ (by decide +kernel)) ggX8_odds_X8_in
set_option maxRecDepth 20000 in
theorem ggX8_odds_X8_save : GoodIn wsX8_odds wsX8_save := goodIn_r _ [21, 4, 22, 23, 24, 25, 26, 142, 143, 144, 145, 146, 147, 148, 149, 150, 151, 152, 153, 154, 155, 156, 157, 158, 159, 160, 161, 162, 163, 164, 165, 166, 167, 168, 169, 170, 171, 172, 173, 174, 175, 176, 177, 178, 179, 180, 181, 182, 183, 184, 185, 186, 187, 188, 189, 190, 191, 192, 193, 194, 195, 196, 197, 198, 199, 200, 201, 202, 203, 204, 205, 206, 207, 208] (by decide +kernel) (by decide +kernel)
set_option maxRecDepth 20000 in
theorem gX8_odds_X8_save : GoodIn wsX8_odds (wsV RX8 361 RX8 yX8_save wsX8_save) := goodIn_app (goodIn_of _ (by decide +kernel)) ggX8_odds_X8_save
set_option maxRecDepth 20000 in
theorem ggX8_odds_X8_goDays : GoodIn wsX8_odds wsX8_goDays := goodIn_r _ [30, 31, 32, 33, 8, 34, 1, 23, 35, 36, 37, 38, 4, 39, 40, 41, 42, 43, 44, 45, 46, 47, 48, 49, 50, 51, 52, 53, 54, 55, 56, 57, 58, 59, 60, 61, 62, 63, 64, 65, 66, 67, 68, 69, 26, 70, 71, 72, 73, 74, 75, 76, 77, 3, 78, 79, 80, 81, 82, 83, 84, 85, 86, 87, 88, 89, 90, 91, 92, 93, 94, 95, 96, 97, 98, 99, 100, 101, 102, 103, 104, 105, 106, 107, 108, 109, 110, 111, 112, 113, 114, 115, 116, 117, 118, 119, 120, 121, 122, 123, 124, 125, 126, 127, 128, 129, 142, 143, 144, 145, 146, 147, 148, 149, 150, 151, 152, 153, 154, 155, 156, 157, 158, 159, 160, 161, 162, 163, 164, 165, 166, 167, 168, 169, 170, 171, 172, 173, 174, 175, 176, 177, 178, 179, 180, 181, 182, 183, 184, 185, 186, 187, 188, 189, 190, 191, 192, 193, 194, 195, 196, 197, 198, 199, 200, 201, 202, 203, 204, 205, 206, 207, 208] (by decide +kernel) (by decide +kernel)
set_option maxRecDepth 20000 in
theorem gX8_odds_X8_goDays : GoodIn wsX8_odds (wsV RX8 358 RX8 yX8_goDays wsX8_goDays) := goodIn_app (goodIn_of _ (by decide +kernel)) ggX8_odds_X8_goDays
set_option maxRecDepth 20000 in
theorem ggX8_odds_X8_putBack : GoodIn wsX8_odds wsX8_putBack := goodIn_r _ [133, 22, 4, 24, 23, 26, 25, 142, 143, 144, 145, 146, 147, 148, 149, 150, 151, 152, 153, 154, 155, 156, 157, 158, 159, 160, 161, 162, 163, 164, 165, 166, 167, 168, 169, 170, 171, 172, 173, 174, 175, 176, 177, 178, 179, 180, 181, 182, 183, 184, 185, 186, 187, 188, 189, 190, 191, 192, 193, 194, 195, 196, 197, 198, 199, 200, 201, 202, 203, 204, 205, 206, 207, 208] (by decide +kernel) (by decide +kernel)
set_option maxRecDepth 20000 in
theorem gX8_odds_X8_putBack : GoodIn wsX8_odds (wsV RX8 364 RX8 yX8_putBack wsX8_putBack) := goodIn_app (goodIn_of _ (by decide +kernel)) ggX8_odds_X8_putBack
set_option maxRecDepth 20000 in
theorem ggX8_odds_X8_lowest : GoodIn wsX8_odds wsX8_lowest := goodIn_r _ [137, 138, 139, 140, 8, 141] (by decide +kernel) (by decide +kernel)
set_option maxRecDepth 20000 in
theorem gX8_odds_X8_lowest : GoodIn wsX8_odds (wsV RX8 393 RX8 yX8_lowest wsX8_lowest) := goodIn_app (goodIn_of _ (by decide +kernel)) ggX8_odds_X8_lowest
theorem dX8_odds_0 : decode cX8_odds 0 = .ok (.aload_n 0, 1) := by decide +kernel
theorem dX8_odds_1 : decode cX8_odds 1 = .ok (.iload_n 1, 1) := by decide +kernel
theorem dX8_odds_2 : decode cX8_odds 2 = .ok (.invokevirtual 355, 3) := by decide +kernel
theorem dX8_odds_5 : decode cX8_odds 5 = .ok (.ifCond .eq 28, 3) := by decide +kernel
theorem dX8_odds_8 : decode cX8_odds 8 = .ok (.aload_n 0, 1) := by decide +kernel
theorem dX8_odds_9 : decode cX8_odds 9 = .ok (.iload_n 2, 1) := by decide +kernel
theorem dX8_odds_10 : decode cX8_odds 10 = .ok (.invokevirtual 367, 3) := by decide +kernel
theorem dX8_odds_13 : decode cX8_odds 13 = .ok (.ifCond .eq 20, 3) := by decide +kernel
theorem dX8_odds_16 : decode cX8_odds 16 = .ok (.aload_n 0, 1) := by decide +kernel
theorem dX8_odds_17 : decode cX8_odds 17 = .ok (.iload_n 3, 1) := by decide +kernel
theorem dX8_odds_18 : decode cX8_odds 18 = .ok (.iconst 0, 1) := by decide +kernel
theorem dX8_odds_19 : decode cX8_odds 19 = .ok (.iconst 1, 1) := by decide +kernel
theorem dX8_odds_20 : decode cX8_odds 20 = .ok (.invokevirtual 219, 3) := by decide +kernel
theorem dX8_odds_23 : decode cX8_odds 23 = .ok (.ifCond .eq 10, 3) := by decide +kernel
theorem dX8_odds_26 : decode cX8_odds 26 = .ok (.aload_n 0, 1) := by decide +kernel
theorem dX8_odds_27 : decode cX8_odds 27 = .ok (.getfield 7, 3) := by decide +kernel
theorem dX8_odds_30 : decode cX8_odds 30 = .ok (.ifCond .ne 7, 3) := by decide +kernel
theorem dX8_odds_33 : decode cX8_odds 33 = .ok (.ldc2_w 391, 3) := by decide +kernel
theorem dX8_odds_36 : decode cX8_odds 36 = .ok (.lreturn, 1) := by decide +kernel
theorem dX8_odds_37 : decode cX8_odds 37 = .ok (.iconst 0, 1) := by decide +kernel
theorem dX8_odds_38 : decode cX8_odds 38 = .ok (.istore 4, 2) := by decide +kernel
theorem dX8_odds_40 : decode cX8_odds 40 = .ok (.iconst 0, 1) := by decide +kernel
theorem dX8_odds_41 : decode cX8_odds 41 = .ok (.istore 5, 2) := by decide +kernel
theorem dX8_odds_43 : decode cX8_odds 43 = .ok (.iload 5, 2) := by decide +kernel
theorem dX8_odds_45 : decode cX8_odds 45 = .ok (.aload_n 0, 1) := by decide +kernel
theorem dX8_odds_46 : decode cX8_odds 46 = .ok (.getfield 7, 3) := by decide +kernel
theorem dX8_odds_49 : decode cX8_odds 49 = .ok (.if_icmp .ge 66, 3) := by decide +kernel
theorem dX8_odds_52 : decode cX8_odds 52 = .ok (.aload_n 0, 1) := by decide +kernel
theorem dX8_odds_53 : decode cX8_odds 53 = .ok (.getfield 26, 3) := by decide +kernel
theorem dX8_odds_56 : decode cX8_odds 56 = .ok (.iload 5, 2) := by decide +kernel
theorem dX8_odds_58 : decode cX8_odds 58 = .ok (.iaload, 1) := by decide +kernel
theorem dX8_odds_59 : decode cX8_odds 59 = .ok (.istore 6, 2) := by decide +kernel
theorem dX8_odds_61 : decode cX8_odds 61 = .ok (.aload_n 0, 1) := by decide +kernel
theorem dX8_odds_62 : decode cX8_odds 62 = .ok (.getfield 26, 3) := by decide +kernel
theorem dX8_odds_65 : decode cX8_odds 65 = .ok (.iload 5, 2) := by decide +kernel
theorem dX8_odds_67 : decode cX8_odds 67 = .ok (.iconst 0, 1) := by decide +kernel
theorem dX8_odds_68 : decode cX8_odds 68 = .ok (.iastore, 1) := by decide +kernel
theorem dX8_odds_69 : decode cX8_odds 69 = .ok (.aload_n 0, 1) := by decide +kernel
theorem dX8_odds_70 : decode cX8_odds 70 = .ok (.invokevirtual 361, 3) := by decide +kernel
theorem dX8_odds_73 : decode cX8_odds 73 = .ok (.aload_n 0, 1) := by decide +kernel
theorem dX8_odds_74 : decode cX8_odds 74 = .ok (.iload_n 1, 1) := by decide +kernel
theorem dX8_odds_75 : decode cX8_odds 75 = .ok (.invokevirtual 358, 3) := by decide +kernel
theorem dX8_odds_78 : decode cX8_odds 78 = .ok (.iload 4, 2) := by decide +kernel
theorem dX8_odds_80 : decode cX8_odds 80 = .ok (.aload_n 0, 1) := by decide +kernel
theorem dX8_odds_81 : decode cX8_odds 81 = .ok (.getfield 13, 3) := by decide +kernel
theorem dX8_odds_84 : decode cX8_odds 84 = .ok (.iload_n 2, 1) := by decide +kernel
theorem dX8_odds_85 : decode cX8_odds 85 = .ok (.if_icmp .lt 7, 3) := by decide +kernel
theorem dX8_odds_88 : decode cX8_odds 88 = .ok (.iconst 1, 1) := by decide +kernel
theorem dX8_odds_89 : decode cX8_odds 89 = .ok (.goto 4, 3) := by decide +kernel
theorem dX8_odds_92 : decode cX8_odds 92 = .ok (.iconst 0, 1) := by decide +kernel
theorem dX8_odds_93 : decode cX8_odds 93 = .ok (.iadd, 1) := by decide +kernel
theorem dX8_odds_94 : decode cX8_odds 94 = .ok (.istore 4, 2) := by decide +kernel
theorem dX8_odds_96 : decode cX8_odds 96 = .ok (.aload_n 0, 1) := by decide +kernel
theorem dX8_odds_97 : decode cX8_odds 97 = .ok (.invokevirtual 364, 3) := by decide +kernel
theorem dX8_odds_100 : decode cX8_odds 100 = .ok (.aload_n 0, 1) := by decide +kernel
theorem dX8_odds_101 : decode cX8_odds 101 = .ok (.getfield 26, 3) := by decide +kernel
theorem dX8_odds_104 : decode cX8_odds 104 = .ok (.iload 5, 2) := by decide +kernel
theorem dX8_odds_106 : decode cX8_odds 106 = .ok (.iload 6, 2) := by decide +kernel
theorem dX8_odds_108 : decode cX8_odds 108 = .ok (.iastore, 1) := by decide +kernel
theorem dX8_odds_109 : decode cX8_odds 109 = .ok (.iinc 5 1, 3) := by decide +kernel
theorem dX8_odds_112 : decode cX8_odds 112 = .ok (.goto (-69), 3) := by decide +kernel
theorem dX8_odds_115 : decode cX8_odds 115 = .ok (.aload_n 0, 1) := by decide +kernel
theorem dX8_odds_116 : decode cX8_odds 116 = .ok (.iload 4, 2) := by decide +kernel
theorem dX8_odds_118 : decode cX8_odds 118 = .ok (.aload_n 0, 1) := by decide +kernel
theorem dX8_odds_119 : decode cX8_odds 119 = .ok (.getfield 7, 3) := by decide +kernel
theorem dX8_odds_122 : decode cX8_odds 122 = .ok (.iload_n 3, 1) := by decide +kernel
theorem dX8_odds_123 : decode cX8_odds 123 = .ok (.invokevirtual 393, 3) := by decide +kernel
theorem dX8_odds_126 : decode cX8_odds 126 = .ok (.lreturn, 1) := by decide +kernel
set_option maxRecDepth 20000 in
theorem ggX8_mean_X8_in : GoodIn wsX8_mean wsX8_in := goodIn_r _ [8] (by decide +kernel) (by decide +kernel)
set_option maxRecDepth 20000 in
theorem gX8_mean_X8_in : GoodIn wsX8_mean (wsV RX8 219 RX8 yX8_in wsX8_in) := goodIn_app (goodIn_of _ (by decide +kernel)) ggX8_mean_X8_in
set_option maxRecDepth 20000 in
theorem ggX8_mean_X8_bits : GoodIn wsX8_mean wsX8_bits := goodIn_r _ [12, 13, 14, 15, 7, 16] (by decide +kernel) (by decide +kernel)
set_option maxRecDepth 20000 in
theorem gX8_mean_X8_bits : GoodIn wsX8_mean (wsV RX8 289 RX8 yX8_bits wsX8_bits) := goodIn_app (goodIn_of _ (by decide +kernel)) ggX8_mean_X8_bits
set_option maxRecDepth 20000 in
theorem ggX8_mean_X8_lowest : GoodIn wsX8_mean wsX8_lowest := goodIn_r _ [20, 21, 22, 23, 7, 24] (by decide +kernel) (by decide +kernel)
set_option maxRecDepth 20000 in
theorem gX8_mean_X8_lowest : GoodIn wsX8_mean (wsV RX8 393 RX8 yX8_lowest wsX8_lowest) := goodIn_app (goodIn_of _ (by decide +kernel)) ggX8_mean_X8_lowest
theorem dX8_mean_0 : decode cX8_mean 0 = .ok (.aload_n 0, 1) := by decide +kernel
theorem dX8_mean_1 : decode cX8_mean 1 = .ok (.iload_n 1, 1) := by decide +kernel
theorem dX8_mean_2 : decode cX8_mean 2 = .ok (.iconst 0, 1) := by decide +kernel
theorem dX8_mean_3 : decode cX8_mean 3 = .ok (.iconst 1, 1) := by decide +kernel
theorem dX8_mean_4 : decode cX8_mean 4 = .ok (.invokevirtual 219, 3) := by decide +kernel
theorem dX8_mean_7 : decode cX8_mean 7 = .ok (.ifCond .eq 10, 3) := by decide +kernel
theorem dX8_mean_10 : decode cX8_mean 10 = .ok (.aload_n 0, 1) := by decide +kernel
theorem dX8_mean_11 : decode cX8_mean 11 = .ok (.getfield 7, 3) := by decide +kernel
theorem dX8_mean_14 : decode cX8_mean 14 = .ok (.ifCond .ne 7, 3) := by decide +kernel
theorem dX8_mean_17 : decode cX8_mean 17 = .ok (.ldc2_w 391, 3) := by decide +kernel
theorem dX8_mean_20 : decode cX8_mean 20 = .ok (.lreturn, 1) := by decide +kernel
theorem dX8_mean_21 : decode cX8_mean 21 = .ok (.iconst 0, 1) := by decide +kernel
theorem dX8_mean_22 : decode cX8_mean 22 = .ok (.istore_n 2, 1) := by decide +kernel
theorem dX8_mean_23 : decode cX8_mean 23 = .ok (.iconst 0, 1) := by decide +kernel
theorem dX8_mean_24 : decode cX8_mean 24 = .ok (.istore_n 3, 1) := by decide +kernel
theorem dX8_mean_25 : decode cX8_mean 25 = .ok (.iload_n 3, 1) := by decide +kernel
theorem dX8_mean_26 : decode cX8_mean 26 = .ok (.aload_n 0, 1) := by decide +kernel
theorem dX8_mean_27 : decode cX8_mean 27 = .ok (.getfield 7, 3) := by decide +kernel
theorem dX8_mean_30 : decode cX8_mean 30 = .ok (.if_icmp .ge 22, 3) := by decide +kernel
theorem dX8_mean_33 : decode cX8_mean 33 = .ok (.iload_n 2, 1) := by decide +kernel
theorem dX8_mean_34 : decode cX8_mean 34 = .ok (.aload_n 0, 1) := by decide +kernel
theorem dX8_mean_35 : decode cX8_mean 35 = .ok (.aload_n 0, 1) := by decide +kernel
theorem dX8_mean_36 : decode cX8_mean 36 = .ok (.getfield 26, 3) := by decide +kernel
theorem dX8_mean_39 : decode cX8_mean 39 = .ok (.iload_n 3, 1) := by decide +kernel
theorem dX8_mean_40 : decode cX8_mean 40 = .ok (.iaload, 1) := by decide +kernel
theorem dX8_mean_41 : decode cX8_mean 41 = .ok (.invokevirtual 289, 3) := by decide +kernel
theorem dX8_mean_44 : decode cX8_mean 44 = .ok (.iadd, 1) := by decide +kernel
theorem dX8_mean_45 : decode cX8_mean 45 = .ok (.istore_n 2, 1) := by decide +kernel
theorem dX8_mean_46 : decode cX8_mean 46 = .ok (.iinc 3 1, 3) := by decide +kernel
theorem dX8_mean_49 : decode cX8_mean 49 = .ok (.goto (-24), 3) := by decide +kernel
theorem dX8_mean_52 : decode cX8_mean 52 = .ok (.aload_n 0, 1) := by decide +kernel
theorem dX8_mean_53 : decode cX8_mean 53 = .ok (.iload_n 2, 1) := by decide +kernel
theorem dX8_mean_54 : decode cX8_mean 54 = .ok (.aload_n 0, 1) := by decide +kernel
theorem dX8_mean_55 : decode cX8_mean 55 = .ok (.getfield 7, 3) := by decide +kernel
theorem dX8_mean_58 : decode cX8_mean 58 = .ok (.iload_n 1, 1) := by decide +kernel
theorem dX8_mean_59 : decode cX8_mean 59 = .ok (.invokevirtual 393, 3) := by decide +kernel
theorem dX8_mean_62 : decode cX8_mean 62 = .ok (.lreturn, 1) := by decide +kernel
set_option maxRecDepth 20000 in
theorem ggX8_week_X8_in : GoodIn wsX8_week wsX8_in := goodIn_r _ [8] (by decide +kernel) (by decide +kernel)
set_option maxRecDepth 20000 in
theorem gX8_week_X8_in : GoodIn wsX8_week (wsV RX8 219 RX8 yX8_in wsX8_in) := goodIn_app (goodIn_of _ (by decide +kernel)) ggX8_week_X8_in
set_option maxRecDepth 20000 in
theorem ggX8_week_X8_isThing : GoodIn wsX8_week wsX8_isThing := goodIn_r _ [12, 13, 4, 5, 6, 7, 8, 14, 15, 16, 17, 18, 19, 20, 21, 22, 23, 24, 25, 26, 27, 28, 29, 30, 31, 32, 33, 34, 35, 36, 37, 38, 39, 40, 41, 42, 43, 44, 45, 46, 47, 48, 49, 50, 51, 52, 53, 54, 55, 56, 57, 58, 59, 60, 61, 62, 63, 64, 65, 66, 67, 68, 69, 70, 71, 72, 73, 74, 75, 76, 77, 78, 79, 80] (by decide +kernel) (by decide +kernel)
set_option maxRecDepth 20000 in
theorem gX8_week_X8_isThing : GoodIn wsX8_week (wsV RX8 227 RX8 yX8_isThing wsX8_isThing) := goodIn_app (goodIn_of _ (by decide +kernel)) ggX8_week_X8_isThing
theorem dX8_week_0 : decode cX8_week 0 = .ok (.iload_n 1, 1) := by decide +kernel
theorem dX8_week_1 : decode cX8_week 1 = .ok (.iconst (-1), 1) := by decide +kernel
theorem dX8_week_2 : decode cX8_week 2 = .ok (.if_icmp .ne 10, 3) := by decide +kernel
theorem dX8_week_5 : decode cX8_week 5 = .ok (.aload_n 0, 1) := by decide +kernel
theorem dX8_week_6 : decode cX8_week 6 = .ok (.iconst 0, 1) := by decide +kernel
theorem dX8_week_7 : decode cX8_week 7 = .ok (.putfield 117, 3) := by decide +kernel
theorem dX8_week_10 : decode cX8_week 10 = .ok (.iconst 0, 1) := by decide +kernel
theorem dX8_week_11 : decode cX8_week 11 = .ok (.ireturn, 1) := by decide +kernel
theorem dX8_week_12 : decode cX8_week 12 = .ok (.aload_n 0, 1) := by decide +kernel
theorem dX8_week_13 : decode cX8_week 13 = .ok (.iload_n 1, 1) := by decide +kernel
theorem dX8_week_14 : decode cX8_week 14 = .ok (.iconst 0, 1) := by decide +kernel
theorem dX8_week_15 : decode cX8_week 15 = .ok (.iconst 2, 1) := by decide +kernel
theorem dX8_week_16 : decode cX8_week 16 = .ok (.invokevirtual 219, 3) := by decide +kernel
theorem dX8_week_19 : decode cX8_week 19 = .ok (.ifCond .eq 16, 3) := by decide +kernel
theorem dX8_week_22 : decode cX8_week 22 = .ok (.iload_n 1, 1) := by decide +kernel
theorem dX8_week_23 : decode cX8_week 23 = .ok (.iconst 2, 1) := by decide +kernel
theorem dX8_week_24 : decode cX8_week 24 = .ok (.if_icmp .ne 13, 3) := by decide +kernel
theorem dX8_week_27 : decode cX8_week 27 = .ok (.aload_n 0, 1) := by decide +kernel
theorem dX8_week_28 : decode cX8_week 28 = .ok (.iload_n 2, 1) := by decide +kernel
theorem dX8_week_29 : decode cX8_week 29 = .ok (.invokevirtual 227, 3) := by decide +kernel
theorem dX8_week_32 : decode cX8_week 32 = .ok (.ifCond .ne 5, 3) := by decide +kernel
theorem dX8_week_35 : decode cX8_week 35 = .ok (.iconst (-1), 1) := by decide +kernel
theorem dX8_week_36 : decode cX8_week 36 = .ok (.ireturn, 1) := by decide +kernel
theorem dX8_week_37 : decode cX8_week 37 = .ok (.aload_n 0, 1) := by decide +kernel
theorem dX8_week_38 : decode cX8_week 38 = .ok (.getfield 117, 3) := by decide +kernel
theorem dX8_week_41 : decode cX8_week 41 = .ok (.bipush 10, 2) := by decide +kernel
theorem dX8_week_43 : decode cX8_week 43 = .ok (.if_icmp .ne 6, 3) := by decide +kernel
theorem dX8_week_46 : decode cX8_week 46 = .ok (.bipush (-4), 2) := by decide +kernel
theorem dX8_week_48 : decode cX8_week 48 = .ok (.ireturn, 1) := by decide +kernel
theorem dX8_week_49 : decode cX8_week 49 = .ok (.aload_n 0, 1) := by decide +kernel
theorem dX8_week_50 : decode cX8_week 50 = .ok (.getfield 123, 3) := by decide +kernel
theorem dX8_week_53 : decode cX8_week 53 = .ok (.aload_n 0, 1) := by decide +kernel
theorem dX8_week_54 : decode cX8_week 54 = .ok (.getfield 117, 3) := by decide +kernel
theorem dX8_week_57 : decode cX8_week 57 = .ok (.iload_n 1, 1) := by decide +kernel
theorem dX8_week_58 : decode cX8_week 58 = .ok (.iastore, 1) := by decide +kernel
theorem dX8_week_59 : decode cX8_week 59 = .ok (.aload_n 0, 1) := by decide +kernel
theorem dX8_week_60 : decode cX8_week 60 = .ok (.getfield 126, 3) := by decide +kernel
theorem dX8_week_63 : decode cX8_week 63 = .ok (.aload_n 0, 1) := by decide +kernel
theorem dX8_week_64 : decode cX8_week 64 = .ok (.getfield 117, 3) := by decide +kernel
theorem dX8_week_67 : decode cX8_week 67 = .ok (.iload_n 1, 1) := by decide +kernel
theorem dX8_week_68 : decode cX8_week 68 = .ok (.iconst 2, 1) := by decide +kernel
theorem dX8_week_69 : decode cX8_week 69 = .ok (.if_icmp .ne 7, 3) := by decide +kernel
theorem dX8_week_72 : decode cX8_week 72 = .ok (.iload_n 2, 1) := by decide +kernel
theorem dX8_week_73 : decode cX8_week 73 = .ok (.goto 4, 3) := by decide +kernel
theorem dX8_week_76 : decode cX8_week 76 = .ok (.iconst 0, 1) := by decide +kernel
theorem dX8_week_77 : decode cX8_week 77 = .ok (.iastore, 1) := by decide +kernel
theorem dX8_week_78 : decode cX8_week 78 = .ok (.aload_n 0, 1) := by decide +kernel
theorem dX8_week_79 : decode cX8_week 79 = .ok (.dup, 1) := by decide +kernel
theorem dX8_week_80 : decode cX8_week 80 = .ok (.getfield 117, 3) := by decide +kernel
theorem dX8_week_83 : decode cX8_week 83 = .ok (.iconst 1, 1) := by decide +kernel
theorem dX8_week_84 : decode cX8_week 84 = .ok (.iadd, 1) := by decide +kernel
theorem dX8_week_85 : decode cX8_week 85 = .ok (.putfield 117, 3) := by decide +kernel
theorem dX8_week_88 : decode cX8_week 88 = .ok (.aload_n 0, 1) := by decide +kernel
theorem dX8_week_89 : decode cX8_week 89 = .ok (.getfield 117, 3) := by decide +kernel
theorem dX8_week_92 : decode cX8_week 92 = .ok (.ireturn, 1) := by decide +kernel
set_option maxRecDepth 20000 in
theorem ggX8_goWeek_X8_goDay : GoodIn wsX8_goWeek wsX8_goDay := goodIn_r _ [6, 7, 8, 9, 10, 11, 5, 12, 1, 13, 14, 15, 16, 17, 18, 19, 20, 21, 22, 23, 24, 25, 26, 27, 28, 29, 30, 31, 32, 33, 34, 35, 36, 37, 38, 39, 40, 41, 42, 43, 44, 45, 46, 47, 48, 49, 50, 51, 52, 53, 54, 55, 56, 57, 58, 59, 60, 61, 62, 63, 64, 65, 66, 67, 68, 69, 70, 71, 72, 73, 74, 75, 76, 77, 78, 79, 80, 81, 82, 83, 84, 85, 86, 87, 88, 89, 90, 91, 92, 93, 94, 95, 96, 97, 98, 99, 100, 101, 102, 103, 104, 105, 106, 107, 108, 109, 110, 111, 112, 113, 114, 115, 116, 117, 118, 119, 120, 121, 122, 123, 124, 125, 126, 127, 128, 129, 130, 131, 132, 133, 134, 135, 136, 137, 138, 139, 140, 141, 142, 143, 144, 145, 146, 147, 148, 149, 150, 151, 152, 153, 154, 155, 156, 157, 158, 159, 160, 161, 162, 163, 164, 165, 166, 167, 168, 169, 170, 171, 172] (by decide +kernel) (by decide +kernel)
set_option maxRecDepth 20000 in
theorem gX8_goWeek_X8_goDay : GoodIn wsX8_goWeek (wsV RX8 352 RX8 yX8_goDay wsX8_goDay) := goodIn_app (goodIn_of _ (by decide +kernel)) ggX8_goWeek_X8_goDay
set_option maxRecDepth 20000 in
theorem ggX8_goWeek_X8_goes : GoodIn wsX8_goWeek wsX8_goes := goodIn_r _ [12, 1, 13, 14, 8, 15, 16, 17, 18, 5, 19, 20, 21, 22, 23, 24, 25, 26, 27, 28, 29, 30, 31, 32, 33, 34, 35, 36, 37, 38, 39, 40, 41, 42, 43, 44, 45, 46, 47, 48, 49, 50, 51, 52, 53, 54, 55, 56, 57, 58, 59, 60, 61, 62, 63, 64, 65, 66, 67, 68, 69, 70, 71, 72, 73, 74, 75, 76, 77, 78, 79, 80, 81, 82, 83, 84, 85, 86, 87, 88, 89, 90, 91, 92, 93, 94, 95, 96, 97, 98, 99, 100, 101, 106, 107, 108, 109, 110, 111, 112, 113, 114, 115, 116, 117, 118, 119, 120, 121, 122, 123, 124, 125, 126, 127, 128, 129, 130, 131, 132, 133, 134, 135, 136, 137, 138, 139, 140, 141, 142, 143, 144, 145, 146, 147, 148, 149, 150, 151, 152, 153, 154, 155, 156, 157, 158, 159, 160, 161, 162, 163, 164, 165, 166, 167, 168, 169, 170, 171, 172] (by decide +kernel) (by decide +kernel)
set_option maxRecDepth 20000 in
theorem gX8_goWeek_X8_goes : GoodIn wsX8_goWeek (wsV RX8 331 RX8 yX8_goes wsX8_goes) := goodIn_app (goodIn_of _ (by decide +kernel)) ggX8_goWeek_X8_goes
set_option maxRecDepth 20000 in
theorem ggX8_goWeek_X8_pushes : GoodIn wsX8_goWeek wsX8_pushes := goodIn_r _ [105, 44, 1, 106, 107, 108, 109, 110, 111, 112, 113, 114, 115, 116, 117, 118, 119, 120, 121, 122, 123, 124, 125, 126, 127, 128, 129, 130, 131, 132, 133, 134, 135, 136, 137, 138, 139, 140, 141, 142, 143, 144, 145, 146, 147, 148, 149, 150, 151, 152, 153, 154, 155, 156, 157, 158, 159, 160, 161, 162, 163, 164, 165, 166, 167, 168, 169, 170, 171, 172] (by decide +kernel) (by decide +kernel)
set_option maxRecDepth 20000 in
theorem gX8_goWeek_X8_pushes : GoodIn wsX8_goWeek (wsV RX8 334 RX8 yX8_pushes wsX8_pushes) := goodIn_app (goodIn_of _ (by decide +kernel)) ggX8_goWeek_X8_pushes
theorem dX8_goWeek_0 : decode cX8_goWeek 0 = .ok (.iload_n 1, 1) := by decide +kernel
theorem dX8_goWeek_1 : decode cX8_goWeek 1 = .ok (.ifCond .ne 7, 3) := by decide +kernel
theorem dX8_goWeek_4 : decode cX8_goWeek 4 = .ok (.aload_n 0, 1) := by decide +kernel
theorem dX8_goWeek_5 : decode cX8_goWeek 5 = .ok (.invokevirtual 352, 3) := by decide +kernel
theorem dX8_goWeek_8 : decode cX8_goWeek 8 = .ok (.iload_n 1, 1) := by decide +kernel
theorem dX8_goWeek_9 : decode cX8_goWeek 9 = .ok (.iconst 1, 1) := by decide +kernel
theorem dX8_goWeek_10 : decode cX8_goWeek 10 = .ok (.if_icmp .ne 20, 3) := by decide +kernel
theorem dX8_goWeek_13 : decode cX8_goWeek 13 = .ok (.aload_n 0, 1) := by decide +kernel
theorem dX8_goWeek_14 : decode cX8_goWeek 14 = .ok (.getfield 13, 3) := by decide +kernel
theorem dX8_goWeek_17 : decode cX8_goWeek 17 = .ok (.ifCond .le 13, 3) := by decide +kernel
theorem dX8_goWeek_20 : decode cX8_goWeek 20 = .ok (.aload_n 0, 1) := by decide +kernel
theorem dX8_goWeek_21 : decode cX8_goWeek 21 = .ok (.dup, 1) := by decide +kernel
theorem dX8_goWeek_22 : decode cX8_goWeek 22 = .ok (.getfield 13, 3) := by decide +kernel
theorem dX8_goWeek_25 : decode cX8_goWeek 25 = .ok (.iconst 1, 1) := by decide +kernel
theorem dX8_goWeek_26 : decode cX8_goWeek 26 = .ok (.isub, 1) := by decide +kernel
theorem dX8_goWeek_27 : decode cX8_goWeek 27 = .ok (.putfield 13, 3) := by decide +kernel
theorem dX8_goWeek_30 : decode cX8_goWeek 30 = .ok (.iload_n 1, 1) := by decide +kernel
theorem dX8_goWeek_31 : decode cX8_goWeek 31 = .ok (.iconst 2, 1) := by decide +kernel
theorem dX8_goWeek_32 : decode cX8_goWeek 32 = .ok (.if_icmp .ne 16, 3) := by decide +kernel
theorem dX8_goWeek_35 : decode cX8_goWeek 35 = .ok (.aload_n 0, 1) := by decide +kernel
theorem dX8_goWeek_36 : decode cX8_goWeek 36 = .ok (.iload_n 2, 1) := by decide +kernel
theorem dX8_goWeek_37 : decode cX8_goWeek 37 = .ok (.invokevirtual 331, 3) := by decide +kernel
theorem dX8_goWeek_40 : decode cX8_goWeek 40 = .ok (.ifCond .eq 8, 3) := by decide +kernel
theorem dX8_goWeek_43 : decode cX8_goWeek 43 = .ok (.aload_n 0, 1) := by decide +kernel
theorem dX8_goWeek_44 : decode cX8_goWeek 44 = .ok (.iload_n 2, 1) := by decide +kernel
theorem dX8_goWeek_45 : decode cX8_goWeek 45 = .ok (.invokevirtual 334, 3) := by decide +kernel
theorem dX8_goWeek_48 : decode cX8_goWeek 48 = .ok (.return_, 1) := by decide +kernel
set_option maxRecDepth 20000 in
theorem ggX8_ends_X8_in : GoodIn wsX8_ends wsX8_in := goodIn_r _ [8] (by decide +kernel) (by decide +kernel)
set_option maxRecDepth 20000 in
theorem gX8_ends_X8_in : GoodIn wsX8_ends (wsV RX8 219 RX8 yX8_in wsX8_in) := goodIn_app (goodIn_of _ (by decide +kernel)) ggX8_ends_X8_in
set_option maxRecDepth 20000 in
theorem ggX8_ends_X8_save : GoodIn wsX8_ends wsX8_save := goodIn_r _ [12, 13, 14, 15, 16, 17, 18, 132, 133, 134, 135, 136, 137, 138, 139, 140, 141, 142, 143, 144, 145, 146, 147, 148, 149, 150, 151, 152, 153, 154, 155, 156, 157, 158, 159, 160, 161, 162, 163, 164, 165, 166, 167, 168, 169, 170, 171, 172, 173, 174, 175, 176, 177, 178, 179, 180, 181, 182, 183, 184, 185, 186, 187, 188, 189, 190, 191, 192, 193, 194, 195, 196, 197, 198] (by decide +kernel) (by decide +kernel)
set_option maxRecDepth 20000 in
theorem gX8_ends_X8_save : GoodIn wsX8_ends (wsV RX8 361 RX8 yX8_save wsX8_save) := goodIn_app (goodIn_of _ (by decide +kernel)) ggX8_ends_X8_save
set_option maxRecDepth 20000 in
theorem ggX8_ends_X8_goWeek : GoodIn wsX8_ends wsX8_goWeek := goodIn_r _ [22, 13, 23, 24, 25, 7, 26, 27, 15, 28, 29, 30, 31, 32, 33, 34, 35, 36, 37, 38, 39, 40, 41, 42, 43, 44, 45, 46, 47, 48, 49, 50, 51, 52, 53, 54, 55, 56, 57, 58, 59, 60, 61, 62, 18, 63, 64, 65, 66, 67, 68, 69, 70, 71, 72, 73, 74, 75, 76, 77, 78, 79, 80, 81, 82, 83, 84, 85, 86, 87, 88, 89, 90, 91, 92, 93, 94, 95, 96, 97, 98, 99, 100, 101, 102, 103, 104, 105, 106, 107, 108, 109, 110, 111, 112, 113, 114, 115, 116, 117, 118, 119, 120, 121, 122, 123, 132, 133, 134, 135, 136, 137, 138, 139, 140, 141, 142, 143, 144, 145, 146, 147, 148, 149, 150, 151, 152, 153, 154, 155, 156, 157, 158, 159, 160, 161, 162, 163, 164, 165, 166, 167, 168, 169, 170, 171, 172, 173, 174, 175, 176, 177, 178, 179, 180, 181, 182, 183, 184, 185, 186, 187, 188, 189, 190, 191, 192, 193, 194, 195, 196, 197, 198] (by decide +kernel) (by decide +kernel)
set_option maxRecDepth 20000 in
theorem gX8_ends_X8_goWeek : GoodIn wsX8_ends (wsV RX8 397 RX8 yX8_goWeek wsX8_goWeek) := goodIn_app (goodIn_of _ (by decide +kernel)) ggX8_ends_X8_goWeek
set_option maxRecDepth 20000 in
theorem ggX8_ends_X8_hadSet : GoodIn wsX8_ends wsX8_hadSet := goodIn_r _ [127, 13, 18, 132, 133, 134, 135, 136, 137, 138, 139, 140, 141, 142, 143, 144, 145, 146, 147, 148, 149, 150, 151, 152, 153, 154, 155, 156, 157, 158, 159, 160, 161, 162, 163, 164, 165, 166, 167, 168, 169, 170, 171, 172, 173, 174, 175, 176, 177, 178, 179, 180, 181, 182, 183, 184, 185, 186, 187, 188, 189, 190, 191, 192, 193, 194, 195, 196, 197, 198] (by decide +kernel) (by decide +kernel)
set_option maxRecDepth 20000 in
theorem gX8_ends_X8_hadSet : GoodIn wsX8_ends (wsV RX8 340 RX8 yX8_hadSet wsX8_hadSet) := goodIn_app (goodIn_of _ (by decide +kernel)) ggX8_ends_X8_hadSet
set_option maxRecDepth 20000 in
theorem ggX8_ends_X8_hadMarks : GoodIn wsX8_ends wsX8_hadMarks := goodIn_r _ [75, 13, 71, 18, 132, 133, 134, 135, 136, 137, 138, 139, 140, 141, 142, 143, 144, 145, 146, 147, 148, 149, 150, 151, 152, 153, 154, 155, 156, 157, 158, 159, 160, 161, 162, 163, 164, 165, 166, 167, 168, 169, 170, 171, 172, 173, 174, 175, 176, 177, 178, 179, 180, 181, 182, 183, 184, 185, 186, 187, 188, 189, 190, 191, 192, 193, 194, 195, 196, 197, 198] (by decide +kernel) (by decide +kernel)
set_option maxRecDepth 20000 in
theorem gX8_ends_X8_hadMarks : GoodIn wsX8_ends (wsV RX8 298 RX8 yX8_hadMarks wsX8_hadMarks) := goodIn_app (goodIn_of _ (by decide +kernel)) ggX8_ends_X8_hadMarks
set_option maxRecDepth 20000 in
theorem ggX8_ends_X8_bits : GoodIn wsX8_ends wsX8_bits := goodIn_r _ [79, 80, 81, 82, 7, 83] (by decide +kernel) (by decide +kernel)
set_option maxRecDepth 20000 in
theorem gX8_ends_X8_bits : GoodIn wsX8_ends (wsV RX8 289 RX8 yX8_bits wsX8_bits) := goodIn_app (goodIn_of _ (by decide +kernel)) ggX8_ends_X8_bits
set_option maxRecDepth 20000 in
theorem ggX8_ends_X8_putBack : GoodIn wsX8_ends wsX8_putBack := goodIn_r _ [131, 14, 13, 16, 15, 18, 17, 132, 133, 134, 135, 136, 137, 138, 139, 140, 141, 142, 143, 144, 145, 146, 147, 148, 149, 150, 151, 152, 153, 154, 155, 156, 157, 158, 159, 160, 161, 162, 163, 164, 165, 166, 167, 168, 169, 170, 171, 172, 173, 174, 175, 176, 177, 178, 179, 180, 181, 182, 183, 184, 185, 186, 187, 188, 189, 190, 191, 192, 193, 194, 195, 196, 197, 198] (by decide +kernel) (by decide +kernel)
set_option maxRecDepth 20000 in
theorem gX8_ends_X8_putBack : GoodIn wsX8_ends (wsV RX8 364 RX8 yX8_putBack wsX8_putBack) := goodIn_app (goodIn_of _ (by decide +kernel)) ggX8_ends_X8_putBack
theorem dX8_ends_0 : decode cX8_ends 0 = .ok (.aload_n 0, 1) := by decide +kernel
theorem dX8_ends_1 : decode cX8_ends 1 = .ok (.iload_n 1, 1) := by decide +kernel
theorem dX8_ends_2 : decode cX8_ends 2 = .ok (.iconst 0, 1) := by decide +kernel
theorem dX8_ends_3 : decode cX8_ends 3 = .ok (.iconst 1, 1) := by decide +kernel
theorem dX8_ends_4 : decode cX8_ends 4 = .ok (.invokevirtual 219, 3) := by decide +kernel
theorem dX8_ends_7 : decode cX8_ends 7 = .ok (.ifCond .ne 5, 3) := by decide +kernel
theorem dX8_ends_10 : decode cX8_ends 10 = .ok (.iconst (-1), 1) := by decide +kernel
theorem dX8_ends_11 : decode cX8_ends 11 = .ok (.ireturn, 1) := by decide +kernel
theorem dX8_ends_12 : decode cX8_ends 12 = .ok (.aload_n 0, 1) := by decide +kernel
theorem dX8_ends_13 : decode cX8_ends 13 = .ok (.invokevirtual 361, 3) := by decide +kernel
theorem dX8_ends_16 : decode cX8_ends 16 = .ok (.iconst 0, 1) := by decide +kernel
theorem dX8_ends_17 : decode cX8_ends 17 = .ok (.istore_n 2, 1) := by decide +kernel
theorem dX8_ends_18 : decode cX8_ends 18 = .ok (.iload_n 2, 1) := by decide +kernel
theorem dX8_ends_19 : decode cX8_ends 19 = .ok (.aload_n 0, 1) := by decide +kernel
theorem dX8_ends_20 : decode cX8_ends 20 = .ok (.getfield 117, 3) := by decide +kernel
theorem dX8_ends_23 : decode cX8_ends 23 = .ok (.if_icmp .ge 25, 3) := by decide +kernel
theorem dX8_ends_26 : decode cX8_ends 26 = .ok (.aload_n 0, 1) := by decide +kernel
theorem dX8_ends_27 : decode cX8_ends 27 = .ok (.aload_n 0, 1) := by decide +kernel
theorem dX8_ends_28 : decode cX8_ends 28 = .ok (.getfield 123, 3) := by decide +kernel
theorem dX8_ends_31 : decode cX8_ends 31 = .ok (.iload_n 2, 1) := by decide +kernel
theorem dX8_ends_32 : decode cX8_ends 32 = .ok (.iaload, 1) := by decide +kernel
theorem dX8_ends_33 : decode cX8_ends 33 = .ok (.aload_n 0, 1) := by decide +kernel
theorem dX8_ends_34 : decode cX8_ends 34 = .ok (.getfield 126, 3) := by decide +kernel
theorem dX8_ends_37 : decode cX8_ends 37 = .ok (.iload_n 2, 1) := by decide +kernel
theorem dX8_ends_38 : decode cX8_ends 38 = .ok (.iaload, 1) := by decide +kernel
theorem dX8_ends_39 : decode cX8_ends 39 = .ok (.invokevirtual 397, 3) := by decide +kernel
theorem dX8_ends_42 : decode cX8_ends 42 = .ok (.iinc 2 1, 3) := by decide +kernel
theorem dX8_ends_45 : decode cX8_ends 45 = .ok (.goto (-27), 3) := by decide +kernel
theorem dX8_ends_48 : decode cX8_ends 48 = .ok (.iload_n 1, 1) := by decide +kernel
theorem dX8_ends_49 : decode cX8_ends 49 = .ok (.ifCond .ne 10, 3) := by decide +kernel
theorem dX8_ends_52 : decode cX8_ends 52 = .ok (.aload_n 0, 1) := by decide +kernel
theorem dX8_ends_53 : decode cX8_ends 53 = .ok (.invokevirtual 340, 3) := by decide +kernel
theorem dX8_ends_56 : decode cX8_ends 56 = .ok (.goto 11, 3) := by decide +kernel
theorem dX8_ends_59 : decode cX8_ends 59 = .ok (.aload_n 0, 1) := by decide +kernel
theorem dX8_ends_60 : decode cX8_ends 60 = .ok (.aload_n 0, 1) := by decide +kernel
theorem dX8_ends_61 : decode cX8_ends 61 = .ok (.invokevirtual 298, 3) := by decide +kernel
theorem dX8_ends_64 : decode cX8_ends 64 = .ok (.invokevirtual 289, 3) := by decide +kernel
theorem dX8_ends_67 : decode cX8_ends 67 = .ok (.istore_n 2, 1) := by decide +kernel
theorem dX8_ends_68 : decode cX8_ends 68 = .ok (.aload_n 0, 1) := by decide +kernel
theorem dX8_ends_69 : decode cX8_ends 69 = .ok (.invokevirtual 364, 3) := by decide +kernel
theorem dX8_ends_72 : decode cX8_ends 72 = .ok (.iload_n 2, 1) := by decide +kernel
theorem dX8_ends_73 : decode cX8_ends 73 = .ok (.ireturn, 1) := by decide +kernel
set_option maxRecDepth 20000 in
theorem ggX8_book_X8_isThing : GoodIn wsX8_book wsX8_isThing := goodIn_r _ [8, 9, 10, 11, 12, 7, 13, 18, 19, 20, 21, 22, 23, 24, 25, 26, 27, 28, 29, 30, 31, 32, 33, 34, 35, 36, 37, 38, 39, 40, 41, 42, 43, 44, 45, 46, 47, 48, 49, 50, 51, 52, 53, 54, 55, 56, 57, 58, 59, 60, 61, 62, 63, 64, 65, 66, 67, 68, 69, 70, 71, 72, 73, 74, 75, 76, 77, 78, 79, 80, 81, 82, 83, 84] (by decide +kernel) (by decide +kernel)
set_option maxRecDepth 20000 in
theorem gX8_book_X8_isThing : GoodIn wsX8_book (wsV RX8 227 RX8 yX8_isThing wsX8_isThing) := goodIn_app (goodIn_of _ (by decide +kernel)) ggX8_book_X8_isThing
set_option maxRecDepth 20000 in
theorem ggX8_book_X8_isMarks : GoodIn wsX8_book wsX8_isMarks := goodIn_r _ [17, 10, 11, 12, 7, 13] (by decide +kernel) (by decide +kernel)
set_option maxRecDepth 20000 in
theorem gX8_book_X8_isMarks : GoodIn wsX8_book (wsV RX8 223 RX8 yX8_isMarks wsX8_isMarks) := goodIn_app (goodIn_of _ (by decide +kernel)) ggX8_book_X8_isMarks
theorem dX8_book_0 : decode cX8_book 0 = .ok (.iload_n 1, 1) := by decide +kernel
theorem dX8_book_1 : decode cX8_book 1 = .ok (.iconst (-1), 1) := by decide +kernel
theorem dX8_book_2 : decode cX8_book 2 = .ok (.if_icmp .ne 10, 3) := by decide +kernel
theorem dX8_book_5 : decode cX8_book 5 = .ok (.aload_n 0, 1) := by decide +kernel
theorem dX8_book_6 : decode cX8_book 6 = .ok (.iconst 0, 1) := by decide +kernel
theorem dX8_book_7 : decode cX8_book 7 = .ok (.putfield 120, 3) := by decide +kernel
theorem dX8_book_10 : decode cX8_book 10 = .ok (.iconst 0, 1) := by decide +kernel
theorem dX8_book_11 : decode cX8_book 11 = .ok (.ireturn, 1) := by decide +kernel
theorem dX8_book_12 : decode cX8_book 12 = .ok (.aload_n 0, 1) := by decide +kernel
theorem dX8_book_13 : decode cX8_book 13 = .ok (.iload_n 1, 1) := by decide +kernel
theorem dX8_book_14 : decode cX8_book 14 = .ok (.invokevirtual 227, 3) := by decide +kernel
theorem dX8_book_17 : decode cX8_book 17 = .ok (.ifCond .ne 5, 3) := by decide +kernel
theorem dX8_book_20 : decode cX8_book 20 = .ok (.iconst (-1), 1) := by decide +kernel
theorem dX8_book_21 : decode cX8_book 21 = .ok (.ireturn, 1) := by decide +kernel
theorem dX8_book_22 : decode cX8_book 22 = .ok (.aload_n 0, 1) := by decide +kernel
theorem dX8_book_23 : decode cX8_book 23 = .ok (.iload_n 2, 1) := by decide +kernel
theorem dX8_book_24 : decode cX8_book 24 = .ok (.invokevirtual 223, 3) := by decide +kernel
theorem dX8_book_27 : decode cX8_book 27 = .ok (.ifCond .ne 6, 3) := by decide +kernel
theorem dX8_book_30 : decode cX8_book 30 = .ok (.bipush (-2), 2) := by decide +kernel
theorem dX8_book_32 : decode cX8_book 32 = .ok (.ireturn, 1) := by decide +kernel
theorem dX8_book_33 : decode cX8_book 33 = .ok (.aload_n 0, 1) := by decide +kernel
theorem dX8_book_34 : decode cX8_book 34 = .ok (.getfield 120, 3) := by decide +kernel
theorem dX8_book_37 : decode cX8_book 37 = .ok (.bipush 8, 2) := by decide +kernel
theorem dX8_book_39 : decode cX8_book 39 = .ok (.if_icmp .ne 6, 3) := by decide +kernel
theorem dX8_book_42 : decode cX8_book 42 = .ok (.bipush (-4), 2) := by decide +kernel
theorem dX8_book_44 : decode cX8_book 44 = .ok (.ireturn, 1) := by decide +kernel
theorem dX8_book_45 : decode cX8_book 45 = .ok (.aload_n 0, 1) := by decide +kernel
theorem dX8_book_46 : decode cX8_book 46 = .ok (.getfield 129, 3) := by decide +kernel
theorem dX8_book_49 : decode cX8_book 49 = .ok (.aload_n 0, 1) := by decide +kernel
theorem dX8_book_50 : decode cX8_book 50 = .ok (.getfield 120, 3) := by decide +kernel
theorem dX8_book_53 : decode cX8_book 53 = .ok (.iload_n 1, 1) := by decide +kernel
theorem dX8_book_54 : decode cX8_book 54 = .ok (.iastore, 1) := by decide +kernel
theorem dX8_book_55 : decode cX8_book 55 = .ok (.aload_n 0, 1) := by decide +kernel
theorem dX8_book_56 : decode cX8_book 56 = .ok (.getfield 132, 3) := by decide +kernel
theorem dX8_book_59 : decode cX8_book 59 = .ok (.aload_n 0, 1) := by decide +kernel
theorem dX8_book_60 : decode cX8_book 60 = .ok (.getfield 120, 3) := by decide +kernel
theorem dX8_book_63 : decode cX8_book 63 = .ok (.iload_n 2, 1) := by decide +kernel
theorem dX8_book_64 : decode cX8_book 64 = .ok (.iastore, 1) := by decide +kernel
theorem dX8_book_65 : decode cX8_book 65 = .ok (.aload_n 0, 1) := by decide +kernel
theorem dX8_book_66 : decode cX8_book 66 = .ok (.dup, 1) := by decide +kernel
theorem dX8_book_67 : decode cX8_book 67 = .ok (.getfield 120, 3) := by decide +kernel
theorem dX8_book_70 : decode cX8_book 70 = .ok (.iconst 1, 1) := by decide +kernel
theorem dX8_book_71 : decode cX8_book 71 = .ok (.iadd, 1) := by decide +kernel
theorem dX8_book_72 : decode cX8_book 72 = .ok (.putfield 120, 3) := by decide +kernel
theorem dX8_book_75 : decode cX8_book 75 = .ok (.aload_n 0, 1) := by decide +kernel
theorem dX8_book_76 : decode cX8_book 76 = .ok (.getfield 120, 3) := by decide +kernel
theorem dX8_book_79 : decode cX8_book 79 = .ok (.ireturn, 1) := by decide +kernel
theorem dX8_looked_0 : decode cX8_looked 0 = .ok (.iconst 0, 1) := by decide +kernel
theorem dX8_looked_1 : decode cX8_looked 1 = .ok (.istore_n 1, 1) := by decide +kernel
theorem dX8_looked_2 : decode cX8_looked 2 = .ok (.iload_n 1, 1) := by decide +kernel
theorem dX8_looked_3 : decode cX8_looked 3 = .ok (.aload_n 0, 1) := by decide +kernel
theorem dX8_looked_4 : decode cX8_looked 4 = .ok (.getfield 120, 3) := by decide +kernel
theorem dX8_looked_7 : decode cX8_looked 7 = .ok (.if_icmp .ge 31, 3) := by decide +kernel
theorem dX8_looked_10 : decode cX8_looked 10 = .ok (.aload_n 0, 1) := by decide +kernel
theorem dX8_looked_11 : decode cX8_looked 11 = .ok (.getfield 26, 3) := by decide +kernel
theorem dX8_looked_14 : decode cX8_looked 14 = .ok (.aload_n 0, 1) := by decide +kernel
theorem dX8_looked_15 : decode cX8_looked 15 = .ok (.getfield 129, 3) := by decide +kernel
theorem dX8_looked_18 : decode cX8_looked 18 = .ok (.iload_n 1, 1) := by decide +kernel
theorem dX8_looked_19 : decode cX8_looked 19 = .ok (.iaload, 1) := by decide +kernel
theorem dX8_looked_20 : decode cX8_looked 20 = .ok (.iaload, 1) := by decide +kernel
theorem dX8_looked_21 : decode cX8_looked 21 = .ok (.aload_n 0, 1) := by decide +kernel
theorem dX8_looked_22 : decode cX8_looked 22 = .ok (.getfield 132, 3) := by decide +kernel
theorem dX8_looked_25 : decode cX8_looked 25 = .ok (.iload_n 1, 1) := by decide +kernel
theorem dX8_looked_26 : decode cX8_looked 26 = .ok (.iaload, 1) := by decide +kernel
theorem dX8_looked_27 : decode cX8_looked 27 = .ok (.if_icmp .eq 5, 3) := by decide +kernel
theorem dX8_looked_30 : decode cX8_looked 30 = .ok (.iload_n 1, 1) := by decide +kernel
theorem dX8_looked_31 : decode cX8_looked 31 = .ok (.ireturn, 1) := by decide +kernel
theorem dX8_looked_32 : decode cX8_looked 32 = .ok (.iinc 1 1, 3) := by decide +kernel
theorem dX8_looked_35 : decode cX8_looked 35 = .ok (.goto (-33), 3) := by decide +kernel
theorem dX8_looked_38 : decode cX8_looked 38 = .ok (.bipush (-5), 2) := by decide +kernel
theorem dX8_looked_40 : decode cX8_looked 40 = .ok (.ireturn, 1) := by decide +kernel
set_option maxRecDepth 20000 in
theorem ggX8_judge_X8_isTape : GoodIn wsX8_judge wsX8_isTape := goodIn_r _ [10, 11, 12, 13, 9, 14] (by decide +kernel) (by decide +kernel)
set_option maxRecDepth 20000 in
theorem gX8_judge_X8_isTape : GoodIn wsX8_judge (wsV RX8 401 RX8 yX8_isTape wsX8_isTape) := goodIn_app (goodIn_of _ (by decide +kernel)) ggX8_judge_X8_isTape
theorem dX8_judge_0 : decode cX8_judge 0 = .ok (.aload_n 0, 1) := by decide +kernel
theorem dX8_judge_1 : decode cX8_judge 1 = .ok (.iload_n 1, 1) := by decide +kernel
theorem dX8_judge_2 : decode cX8_judge 2 = .ok (.invokevirtual 401, 3) := by decide +kernel
theorem dX8_judge_5 : decode cX8_judge 5 = .ok (.ifCond .ne 5, 3) := by decide +kernel
theorem dX8_judge_8 : decode cX8_judge 8 = .ok (.iconst (-1), 1) := by decide +kernel
theorem dX8_judge_9 : decode cX8_judge 9 = .ok (.ireturn, 1) := by decide +kernel
theorem dX8_judge_10 : decode cX8_judge 10 = .ok (.aload_n 0, 1) := by decide +kernel
theorem dX8_judge_11 : decode cX8_judge 11 = .ok (.getfield 202, 3) := by decide +kernel
theorem dX8_judge_14 : decode cX8_judge 14 = .ok (.iload_n 1, 1) := by decide +kernel
theorem dX8_judge_15 : decode cX8_judge 15 = .ok (.iaload, 1) := by decide +kernel
theorem dX8_judge_16 : decode cX8_judge 16 = .ok (.ifCond .lt 16, 3) := by decide +kernel
theorem dX8_judge_19 : decode cX8_judge 19 = .ok (.aload_n 0, 1) := by decide +kernel
theorem dX8_judge_20 : decode cX8_judge 20 = .ok (.getfield 202, 3) := by decide +kernel
theorem dX8_judge_23 : decode cX8_judge 23 = .ok (.iload_n 1, 1) := by decide +kernel
theorem dX8_judge_24 : decode cX8_judge 24 = .ok (.iaload, 1) := by decide +kernel
theorem dX8_judge_25 : decode cX8_judge 25 = .ok (.iconst 1, 1) := by decide +kernel
theorem dX8_judge_26 : decode cX8_judge 26 = .ok (.if_icmp .eq 6, 3) := by decide +kernel
theorem dX8_judge_29 : decode cX8_judge 29 = .ok (.bipush (-12), 2) := by decide +kernel
theorem dX8_judge_31 : decode cX8_judge 31 = .ok (.ireturn, 1) := by decide +kernel
theorem dX8_judge_32 : decode cX8_judge 32 = .ok (.iconst 0, 1) := by decide +kernel
theorem dX8_judge_33 : decode cX8_judge 33 = .ok (.istore_n 3, 1) := by decide +kernel
theorem dX8_judge_34 : decode cX8_judge 34 = .ok (.iload_n 3, 1) := by decide +kernel
theorem dX8_judge_35 : decode cX8_judge 35 = .ok (.aload_n 0, 1) := by decide +kernel
theorem dX8_judge_36 : decode cX8_judge 36 = .ok (.getfield 7, 3) := by decide +kernel
theorem dX8_judge_39 : decode cX8_judge 39 = .ok (.if_icmp .ge 67, 3) := by decide +kernel
theorem dX8_judge_42 : decode cX8_judge 42 = .ok (.aload_n 0, 1) := by decide +kernel
theorem dX8_judge_43 : decode cX8_judge 43 = .ok (.getfield 202, 3) := by decide +kernel
theorem dX8_judge_46 : decode cX8_judge 46 = .ok (.iload_n 1, 1) := by decide +kernel
theorem dX8_judge_47 : decode cX8_judge 47 = .ok (.iaload, 1) := by decide +kernel
theorem dX8_judge_48 : decode cX8_judge 48 = .ok (.ifCond .lt 21, 3) := by decide +kernel
theorem dX8_judge_51 : decode cX8_judge 51 = .ok (.iload_n 2, 1) := by decide +kernel
theorem dX8_judge_52 : decode cX8_judge 52 = .ok (.ifCond .lt 17, 3) := by decide +kernel
theorem dX8_judge_55 : decode cX8_judge 55 = .ok (.iload_n 2, 1) := by decide +kernel
theorem dX8_judge_56 : decode cX8_judge 56 = .ok (.aload_n 0, 1) := by decide +kernel
theorem dX8_judge_57 : decode cX8_judge 57 = .ok (.getfield 205, 3) := by decide +kernel
theorem dX8_judge_60 : decode cX8_judge 60 = .ok (.iload_n 1, 1) := by decide +kernel
theorem dX8_judge_61 : decode cX8_judge 61 = .ok (.iaload, 1) := by decide +kernel
theorem dX8_judge_62 : decode cX8_judge 62 = .ok (.iload_n 3, 1) := by decide +kernel
theorem dX8_judge_63 : decode cX8_judge 63 = .ok (.isub, 1) := by decide +kernel
theorem dX8_judge_64 : decode cX8_judge 64 = .ok (.iconst 1, 1) := by decide +kernel
theorem dX8_judge_65 : decode cX8_judge 65 = .ok (.isub, 1) := by decide +kernel
theorem dX8_judge_66 : decode cX8_judge 66 = .ok (.if_icmp .le 8, 3) := by decide +kernel
theorem dX8_judge_69 : decode cX8_judge 69 = .ok (.bipush 100, 2) := by decide +kernel
theorem dX8_judge_71 : decode cX8_judge 71 = .ok (.iload_n 3, 1) := by decide +kernel
theorem dX8_judge_72 : decode cX8_judge 72 = .ok (.iadd, 1) := by decide +kernel
theorem dX8_judge_73 : decode cX8_judge 73 = .ok (.ireturn, 1) := by decide +kernel
theorem dX8_judge_74 : decode cX8_judge 74 = .ok (.aload_n 0, 1) := by decide +kernel
theorem dX8_judge_75 : decode cX8_judge 75 = .ok (.getfield 208, 3) := by decide +kernel
theorem dX8_judge_78 : decode cX8_judge 78 = .ok (.bipush 60, 2) := by decide +kernel
theorem dX8_judge_80 : decode cX8_judge 80 = .ok (.iload_n 1, 1) := by decide +kernel
theorem dX8_judge_81 : decode cX8_judge 81 = .ok (.imul, 1) := by decide +kernel
theorem dX8_judge_82 : decode cX8_judge 82 = .ok (.iload_n 2, 1) := by decide +kernel
theorem dX8_judge_83 : decode cX8_judge 83 = .ok (.iadd, 1) := by decide +kernel
theorem dX8_judge_84 : decode cX8_judge 84 = .ok (.iload_n 3, 1) := by decide +kernel
theorem dX8_judge_85 : decode cX8_judge 85 = .ok (.iadd, 1) := by decide +kernel
theorem dX8_judge_86 : decode cX8_judge 86 = .ok (.laload, 1) := by decide +kernel
theorem dX8_judge_87 : decode cX8_judge 87 = .ok (.aload_n 0, 1) := by decide +kernel
theorem dX8_judge_88 : decode cX8_judge 88 = .ok (.getfield 26, 3) := by decide +kernel
theorem dX8_judge_91 : decode cX8_judge 91 = .ok (.iload_n 3, 1) := by decide +kernel
theorem dX8_judge_92 : decode cX8_judge 92 = .ok (.iaload, 1) := by decide +kernel
theorem dX8_judge_93 : decode cX8_judge 93 = .ok (.i2l, 1) := by decide +kernel
theorem dX8_judge_94 : decode cX8_judge 94 = .ok (.lcmp, 1) := by decide +kernel
theorem dX8_judge_95 : decode cX8_judge 95 = .ok (.ifCond .eq 5, 3) := by decide +kernel
theorem dX8_judge_98 : decode cX8_judge 98 = .ok (.iload_n 3, 1) := by decide +kernel
theorem dX8_judge_99 : decode cX8_judge 99 = .ok (.ireturn, 1) := by decide +kernel
theorem dX8_judge_100 : decode cX8_judge 100 = .ok (.iinc 3 1, 3) := by decide +kernel
theorem dX8_judge_103 : decode cX8_judge 103 = .ok (.goto (-69), 3) := by decide +kernel
theorem dX8_judge_106 : decode cX8_judge 106 = .ok (.bipush (-5), 2) := by decide +kernel
theorem dX8_judge_108 : decode cX8_judge 108 = .ok (.ireturn, 1) := by decide +kernel
theorem dX8_image_0 : decode cX8_image 0 = .ok (.aload_n 0, 1) := by decide +kernel
theorem dX8_image_1 : decode cX8_image 1 = .ok (.iconst 1, 1) := by decide +kernel
theorem dX8_image_2 : decode cX8_image 2 = .ok (.putfield 135, 3) := by decide +kernel
theorem dX8_image_5 : decode cX8_image 5 = .ok (.aload_n 0, 1) := by decide +kernel
theorem dX8_image_6 : decode cX8_image 6 = .ok (.aload_n 0, 1) := by decide +kernel
theorem dX8_image_7 : decode cX8_image 7 = .ok (.getfield 38, 3) := by decide +kernel
theorem dX8_image_10 : decode cX8_image 10 = .ok (.putfield 139, 3) := by decide +kernel
theorem dX8_image_13 : decode cX8_image 13 = .ok (.aload_n 0, 1) := by decide +kernel
theorem dX8_image_14 : decode cX8_image 14 = .ok (.aload_n 0, 1) := by decide +kernel
theorem dX8_image_15 : decode cX8_image 15 = .ok (.getfield 7, 3) := by decide +kernel
theorem dX8_image_18 : decode cX8_image 18 = .ok (.putfield 142, 3) := by decide +kernel
theorem dX8_image_21 : decode cX8_image 21 = .ok (.aload_n 0, 1) := by decide +kernel
theorem dX8_image_22 : decode cX8_image 22 = .ok (.aload_n 0, 1) := by decide +kernel
theorem dX8_image_23 : decode cX8_image 23 = .ok (.getfield 13, 3) := by decide +kernel
theorem dX8_image_26 : decode cX8_image 26 = .ok (.putfield 145, 3) := by decide +kernel
theorem dX8_image_29 : decode cX8_image 29 = .ok (.aload_n 0, 1) := by decide +kernel
theorem dX8_image_30 : decode cX8_image 30 = .ok (.aload_n 0, 1) := by decide +kernel
theorem dX8_image_31 : decode cX8_image 31 = .ok (.getfield 16, 3) := by decide +kernel
theorem dX8_image_34 : decode cX8_image 34 = .ok (.putfield 148, 3) := by decide +kernel
theorem dX8_image_37 : decode cX8_image 37 = .ok (.aload_n 0, 1) := by decide +kernel
theorem dX8_image_38 : decode cX8_image 38 = .ok (.aload_n 0, 1) := by decide +kernel
theorem dX8_image_39 : decode cX8_image 39 = .ok (.getfield 105, 3) := by decide +kernel
theorem dX8_image_42 : decode cX8_image 42 = .ok (.putfield 151, 3) := by decide +kernel
theorem dX8_image_45 : decode cX8_image 45 = .ok (.aload_n 0, 1) := by decide +kernel
theorem dX8_image_46 : decode cX8_image 46 = .ok (.aload_n 0, 1) := by decide +kernel
theorem dX8_image_47 : decode cX8_image 47 = .ok (.getfield 117, 3) := by decide +kernel
theorem dX8_image_50 : decode cX8_image 50 = .ok (.putfield 154, 3) := by decide +kernel
theorem dX8_image_53 : decode cX8_image 53 = .ok (.aload_n 0, 1) := by decide +kernel
theorem dX8_image_54 : decode cX8_image 54 = .ok (.aload_n 0, 1) := by decide +kernel
theorem dX8_image_55 : decode cX8_image 55 = .ok (.getfield 120, 3) := by decide +kernel
theorem dX8_image_58 : decode cX8_image 58 = .ok (.putfield 157, 3) := by decide +kernel
theorem dX8_image_61 : decode cX8_image 61 = .ok (.iconst 0, 1) := by decide +kernel
theorem dX8_image_62 : decode cX8_image 62 = .ok (.istore_n 1, 1) := by decide +kernel
theorem dX8_image_63 : decode cX8_image 63 = .ok (.iload_n 1, 1) := by decide +kernel
theorem dX8_image_64 : decode cX8_image 64 = .ok (.bipush 6, 2) := by decide +kernel
theorem dX8_image_66 : decode cX8_image 66 = .ok (.if_icmp .ge 57, 3) := by decide +kernel
theorem dX8_image_69 : decode cX8_image 69 = .ok (.aload_n 0, 1) := by decide +kernel
theorem dX8_image_70 : decode cX8_image 70 = .ok (.getfield 160, 3) := by decide +kernel
theorem dX8_image_73 : decode cX8_image 73 = .ok (.iload_n 1, 1) := by decide +kernel
theorem dX8_image_74 : decode cX8_image 74 = .ok (.aload_n 0, 1) := by decide +kernel
theorem dX8_image_75 : decode cX8_image 75 = .ok (.getfield 19, 3) := by decide +kernel
theorem dX8_image_78 : decode cX8_image 78 = .ok (.iload_n 1, 1) := by decide +kernel
theorem dX8_image_79 : decode cX8_image 79 = .ok (.iaload, 1) := by decide +kernel
theorem dX8_image_80 : decode cX8_image 80 = .ok (.iastore, 1) := by decide +kernel
theorem dX8_image_81 : decode cX8_image 81 = .ok (.aload_n 0, 1) := by decide +kernel
theorem dX8_image_82 : decode cX8_image 82 = .ok (.getfield 163, 3) := by decide +kernel
theorem dX8_image_85 : decode cX8_image 85 = .ok (.iload_n 1, 1) := by decide +kernel
theorem dX8_image_86 : decode cX8_image 86 = .ok (.aload_n 0, 1) := by decide +kernel
theorem dX8_image_87 : decode cX8_image 87 = .ok (.getfield 23, 3) := by decide +kernel
theorem dX8_image_90 : decode cX8_image 90 = .ok (.iload_n 1, 1) := by decide +kernel
theorem dX8_image_91 : decode cX8_image 91 = .ok (.iaload, 1) := by decide +kernel
theorem dX8_image_92 : decode cX8_image 92 = .ok (.iastore, 1) := by decide +kernel
theorem dX8_image_93 : decode cX8_image 93 = .ok (.aload_n 0, 1) := by decide +kernel
theorem dX8_image_94 : decode cX8_image 94 = .ok (.getfield 166, 3) := by decide +kernel
theorem dX8_image_97 : decode cX8_image 97 = .ok (.iload_n 1, 1) := by decide +kernel
theorem dX8_image_98 : decode cX8_image 98 = .ok (.aload_n 0, 1) := by decide +kernel
theorem dX8_image_99 : decode cX8_image 99 = .ok (.getfield 26, 3) := by decide +kernel
theorem dX8_image_102 : decode cX8_image 102 = .ok (.iload_n 1, 1) := by decide +kernel
theorem dX8_image_103 : decode cX8_image 103 = .ok (.iaload, 1) := by decide +kernel
theorem dX8_image_104 : decode cX8_image 104 = .ok (.iastore, 1) := by decide +kernel
theorem dX8_image_105 : decode cX8_image 105 = .ok (.aload_n 0, 1) := by decide +kernel
theorem dX8_image_106 : decode cX8_image 106 = .ok (.getfield 172, 3) := by decide +kernel
theorem dX8_image_109 : decode cX8_image 109 = .ok (.iload_n 1, 1) := by decide +kernel
theorem dX8_image_110 : decode cX8_image 110 = .ok (.aload_n 0, 1) := by decide +kernel
theorem dX8_image_111 : decode cX8_image 111 = .ok (.getfield 32, 3) := by decide +kernel
theorem dX8_image_114 : decode cX8_image 114 = .ok (.iload_n 1, 1) := by decide +kernel
theorem dX8_image_115 : decode cX8_image 115 = .ok (.iaload, 1) := by decide +kernel
theorem dX8_image_116 : decode cX8_image 116 = .ok (.iastore, 1) := by decide +kernel
theorem dX8_image_117 : decode cX8_image 117 = .ok (.iinc 1 1, 3) := by decide +kernel
theorem dX8_image_120 : decode cX8_image 120 = .ok (.goto (-57), 3) := by decide +kernel
theorem dX8_image_123 : decode cX8_image 123 = .ok (.iconst 0, 1) := by decide +kernel
theorem dX8_image_124 : decode cX8_image 124 = .ok (.istore_n 1, 1) := by decide +kernel
theorem dX8_image_125 : decode cX8_image 125 = .ok (.iload_n 1, 1) := by decide +kernel
theorem dX8_image_126 : decode cX8_image 126 = .ok (.bipush 24, 2) := by decide +kernel
theorem dX8_image_128 : decode cX8_image 128 = .ok (.if_icmp .ge 21, 3) := by decide +kernel
theorem dX8_image_131 : decode cX8_image 131 = .ok (.aload_n 0, 1) := by decide +kernel
theorem dX8_image_132 : decode cX8_image 132 = .ok (.getfield 169, 3) := by decide +kernel
theorem dX8_image_135 : decode cX8_image 135 = .ok (.iload_n 1, 1) := by decide +kernel
theorem dX8_image_136 : decode cX8_image 136 = .ok (.aload_n 0, 1) := by decide +kernel
theorem dX8_image_137 : decode cX8_image 137 = .ok (.getfield 29, 3) := by decide +kernel
theorem dX8_image_140 : decode cX8_image 140 = .ok (.iload_n 1, 1) := by decide +kernel
theorem dX8_image_141 : decode cX8_image 141 = .ok (.iaload, 1) := by decide +kernel
theorem dX8_image_142 : decode cX8_image 142 = .ok (.iastore, 1) := by decide +kernel
theorem dX8_image_143 : decode cX8_image 143 = .ok (.iinc 1 1, 3) := by decide +kernel
theorem dX8_image_146 : decode cX8_image 146 = .ok (.goto (-21), 3) := by decide +kernel
theorem dX8_image_149 : decode cX8_image 149 = .ok (.iconst 0, 1) := by decide +kernel
theorem dX8_image_150 : decode cX8_image 150 = .ok (.istore_n 1, 1) := by decide +kernel
theorem dX8_image_151 : decode cX8_image 151 = .ok (.iload_n 1, 1) := by decide +kernel
theorem dX8_image_152 : decode cX8_image 152 = .ok (.iconst 5, 1) := by decide +kernel
theorem dX8_image_153 : decode cX8_image 153 = .ok (.if_icmp .ge 45, 3) := by decide +kernel
theorem dX8_image_156 : decode cX8_image 156 = .ok (.aload_n 0, 1) := by decide +kernel
theorem dX8_image_157 : decode cX8_image 157 = .ok (.getfield 175, 3) := by decide +kernel
theorem dX8_image_160 : decode cX8_image 160 = .ok (.iload_n 1, 1) := by decide +kernel
theorem dX8_image_161 : decode cX8_image 161 = .ok (.aload_n 0, 1) := by decide +kernel
theorem dX8_image_162 : decode cX8_image 162 = .ok (.getfield 108, 3) := by decide +kernel
theorem dX8_image_165 : decode cX8_image 165 = .ok (.iload_n 1, 1) := by decide +kernel
theorem dX8_image_166 : decode cX8_image 166 = .ok (.iaload, 1) := by decide +kernel
theorem dX8_image_167 : decode cX8_image 167 = .ok (.iastore, 1) := by decide +kernel
theorem dX8_image_168 : decode cX8_image 168 = .ok (.aload_n 0, 1) := by decide +kernel
theorem dX8_image_169 : decode cX8_image 169 = .ok (.getfield 193, 3) := by decide +kernel
theorem dX8_image_172 : decode cX8_image 172 = .ok (.iload_n 1, 1) := by decide +kernel
theorem dX8_image_173 : decode cX8_image 173 = .ok (.aload_n 0, 1) := by decide +kernel
theorem dX8_image_174 : decode cX8_image 174 = .ok (.getfield 114, 3) := by decide +kernel
theorem dX8_image_177 : decode cX8_image 177 = .ok (.iload_n 1, 1) := by decide +kernel
theorem dX8_image_178 : decode cX8_image 178 = .ok (.baload, 1) := by decide +kernel
theorem dX8_image_179 : decode cX8_image 179 = .ok (.bastore, 1) := by decide +kernel
theorem dX8_image_180 : decode cX8_image 180 = .ok (.aload_n 0, 1) := by decide +kernel
theorem dX8_image_181 : decode cX8_image 181 = .ok (.getfield 178, 3) := by decide +kernel
theorem dX8_image_184 : decode cX8_image 184 = .ok (.iload_n 1, 1) := by decide +kernel
theorem dX8_image_185 : decode cX8_image 185 = .ok (.aload_n 0, 1) := by decide +kernel
theorem dX8_image_186 : decode cX8_image 186 = .ok (.getfield 111, 3) := by decide +kernel
theorem dX8_image_189 : decode cX8_image 189 = .ok (.iload_n 1, 1) := by decide +kernel
theorem dX8_image_190 : decode cX8_image 190 = .ok (.iaload, 1) := by decide +kernel
theorem dX8_image_191 : decode cX8_image 191 = .ok (.iastore, 1) := by decide +kernel
theorem dX8_image_192 : decode cX8_image 192 = .ok (.iinc 1 1, 3) := by decide +kernel
theorem dX8_image_195 : decode cX8_image 195 = .ok (.goto (-44), 3) := by decide +kernel
theorem dX8_image_198 : decode cX8_image 198 = .ok (.iconst 0, 1) := by decide +kernel
theorem dX8_image_199 : decode cX8_image 199 = .ok (.istore_n 1, 1) := by decide +kernel
theorem dX8_image_200 : decode cX8_image 200 = .ok (.iload_n 1, 1) := by decide +kernel
theorem dX8_image_201 : decode cX8_image 201 = .ok (.bipush 10, 2) := by decide +kernel
theorem dX8_image_203 : decode cX8_image 203 = .ok (.if_icmp .ge 33, 3) := by decide +kernel
theorem dX8_image_206 : decode cX8_image 206 = .ok (.aload_n 0, 1) := by decide +kernel
theorem dX8_image_207 : decode cX8_image 207 = .ok (.getfield 181, 3) := by decide +kernel
theorem dX8_image_210 : decode cX8_image 210 = .ok (.iload_n 1, 1) := by decide +kernel
theorem dX8_image_211 : decode cX8_image 211 = .ok (.aload_n 0, 1) := by decide +kernel
theorem dX8_image_212 : decode cX8_image 212 = .ok (.getfield 123, 3) := by decide +kernel
theorem dX8_image_215 : decode cX8_image 215 = .ok (.iload_n 1, 1) := by decide +kernel
theorem dX8_image_216 : decode cX8_image 216 = .ok (.iaload, 1) := by decide +kernel
theorem dX8_image_217 : decode cX8_image 217 = .ok (.iastore, 1) := by decide +kernel
theorem dX8_image_218 : decode cX8_image 218 = .ok (.aload_n 0, 1) := by decide +kernel
theorem dX8_image_219 : decode cX8_image 219 = .ok (.getfield 184, 3) := by decide +kernel
theorem dX8_image_222 : decode cX8_image 222 = .ok (.iload_n 1, 1) := by decide +kernel
theorem dX8_image_223 : decode cX8_image 223 = .ok (.aload_n 0, 1) := by decide +kernel
theorem dX8_image_224 : decode cX8_image 224 = .ok (.getfield 126, 3) := by decide +kernel
theorem dX8_image_227 : decode cX8_image 227 = .ok (.iload_n 1, 1) := by decide +kernel
theorem dX8_image_228 : decode cX8_image 228 = .ok (.iaload, 1) := by decide +kernel
theorem dX8_image_229 : decode cX8_image 229 = .ok (.iastore, 1) := by decide +kernel
theorem dX8_image_230 : decode cX8_image 230 = .ok (.iinc 1 1, 3) := by decide +kernel
theorem dX8_image_233 : decode cX8_image 233 = .ok (.goto (-33), 3) := by decide +kernel
theorem dX8_image_236 : decode cX8_image 236 = .ok (.iconst 0, 1) := by decide +kernel
theorem dX8_image_237 : decode cX8_image 237 = .ok (.istore_n 1, 1) := by decide +kernel
theorem dX8_image_238 : decode cX8_image 238 = .ok (.iload_n 1, 1) := by decide +kernel
theorem dX8_image_239 : decode cX8_image 239 = .ok (.bipush 8, 2) := by decide +kernel
theorem dX8_image_241 : decode cX8_image 241 = .ok (.if_icmp .ge 33, 3) := by decide +kernel
theorem dX8_image_244 : decode cX8_image 244 = .ok (.aload_n 0, 1) := by decide +kernel
theorem dX8_image_245 : decode cX8_image 245 = .ok (.getfield 187, 3) := by decide +kernel
theorem dX8_image_248 : decode cX8_image 248 = .ok (.iload_n 1, 1) := by decide +kernel
theorem dX8_image_249 : decode cX8_image 249 = .ok (.aload_n 0, 1) := by decide +kernel
theorem dX8_image_250 : decode cX8_image 250 = .ok (.getfield 129, 3) := by decide +kernel
theorem dX8_image_253 : decode cX8_image 253 = .ok (.iload_n 1, 1) := by decide +kernel
theorem dX8_image_254 : decode cX8_image 254 = .ok (.iaload, 1) := by decide +kernel
theorem dX8_image_255 : decode cX8_image 255 = .ok (.iastore, 1) := by decide +kernel
theorem dX8_image_256 : decode cX8_image 256 = .ok (.aload_n 0, 1) := by decide +kernel
theorem dX8_image_257 : decode cX8_image 257 = .ok (.getfield 190, 3) := by decide +kernel
theorem dX8_image_260 : decode cX8_image 260 = .ok (.iload_n 1, 1) := by decide +kernel
theorem dX8_image_261 : decode cX8_image 261 = .ok (.aload_n 0, 1) := by decide +kernel
theorem dX8_image_262 : decode cX8_image 262 = .ok (.getfield 132, 3) := by decide +kernel
theorem dX8_image_265 : decode cX8_image 265 = .ok (.iload_n 1, 1) := by decide +kernel
theorem dX8_image_266 : decode cX8_image 266 = .ok (.iaload, 1) := by decide +kernel
theorem dX8_image_267 : decode cX8_image 267 = .ok (.iastore, 1) := by decide +kernel
theorem dX8_image_268 : decode cX8_image 268 = .ok (.iinc 1 1, 3) := by decide +kernel
theorem dX8_image_271 : decode cX8_image 271 = .ok (.goto (-33), 3) := by decide +kernel
theorem dX8_image_274 : decode cX8_image 274 = .ok (.aload_n 0, 1) := by decide +kernel
theorem dX8_image_275 : decode cX8_image 275 = .ok (.getfield 7, 3) := by decide +kernel
theorem dX8_image_278 : decode cX8_image 278 = .ok (.ireturn, 1) := by decide +kernel
theorem dX8_undo_0 : decode cX8_undo 0 = .ok (.aload_n 0, 1) := by decide +kernel
theorem dX8_undo_1 : decode cX8_undo 1 = .ok (.getfield 135, 3) := by decide +kernel
theorem dX8_undo_4 : decode cX8_undo 4 = .ok (.ifCond .ne 6, 3) := by decide +kernel
theorem dX8_undo_7 : decode cX8_undo 7 = .ok (.bipush (-3), 2) := by decide +kernel
theorem dX8_undo_9 : decode cX8_undo 9 = .ok (.ireturn, 1) := by decide +kernel
theorem dX8_undo_10 : decode cX8_undo 10 = .ok (.aload_n 0, 1) := by decide +kernel
theorem dX8_undo_11 : decode cX8_undo 11 = .ok (.aload_n 0, 1) := by decide +kernel
theorem dX8_undo_12 : decode cX8_undo 12 = .ok (.getfield 139, 3) := by decide +kernel
theorem dX8_undo_15 : decode cX8_undo 15 = .ok (.putfield 38, 3) := by decide +kernel
theorem dX8_undo_18 : decode cX8_undo 18 = .ok (.aload_n 0, 1) := by decide +kernel
theorem dX8_undo_19 : decode cX8_undo 19 = .ok (.aload_n 0, 1) := by decide +kernel
theorem dX8_undo_20 : decode cX8_undo 20 = .ok (.getfield 142, 3) := by decide +kernel
theorem dX8_undo_23 : decode cX8_undo 23 = .ok (.putfield 7, 3) := by decide +kernel
theorem dX8_undo_26 : decode cX8_undo 26 = .ok (.aload_n 0, 1) := by decide +kernel
theorem dX8_undo_27 : decode cX8_undo 27 = .ok (.aload_n 0, 1) := by decide +kernel
theorem dX8_undo_28 : decode cX8_undo 28 = .ok (.getfield 145, 3) := by decide +kernel
theorem dX8_undo_31 : decode cX8_undo 31 = .ok (.putfield 13, 3) := by decide +kernel
theorem dX8_undo_34 : decode cX8_undo 34 = .ok (.aload_n 0, 1) := by decide +kernel
theorem dX8_undo_35 : decode cX8_undo 35 = .ok (.aload_n 0, 1) := by decide +kernel
theorem dX8_undo_36 : decode cX8_undo 36 = .ok (.getfield 148, 3) := by decide +kernel
theorem dX8_undo_39 : decode cX8_undo 39 = .ok (.putfield 16, 3) := by decide +kernel
theorem dX8_undo_42 : decode cX8_undo 42 = .ok (.aload_n 0, 1) := by decide +kernel
theorem dX8_undo_43 : decode cX8_undo 43 = .ok (.aload_n 0, 1) := by decide +kernel
theorem dX8_undo_44 : decode cX8_undo 44 = .ok (.getfield 151, 3) := by decide +kernel
theorem dX8_undo_47 : decode cX8_undo 47 = .ok (.putfield 105, 3) := by decide +kernel
theorem dX8_undo_50 : decode cX8_undo 50 = .ok (.aload_n 0, 1) := by decide +kernel
theorem dX8_undo_51 : decode cX8_undo 51 = .ok (.aload_n 0, 1) := by decide +kernel
theorem dX8_undo_52 : decode cX8_undo 52 = .ok (.getfield 154, 3) := by decide +kernel
theorem dX8_undo_55 : decode cX8_undo 55 = .ok (.putfield 117, 3) := by decide +kernel
theorem dX8_undo_58 : decode cX8_undo 58 = .ok (.aload_n 0, 1) := by decide +kernel
theorem dX8_undo_59 : decode cX8_undo 59 = .ok (.aload_n 0, 1) := by decide +kernel
theorem dX8_undo_60 : decode cX8_undo 60 = .ok (.getfield 157, 3) := by decide +kernel
theorem dX8_undo_63 : decode cX8_undo 63 = .ok (.putfield 120, 3) := by decide +kernel
theorem dX8_undo_66 : decode cX8_undo 66 = .ok (.iconst 0, 1) := by decide +kernel
theorem dX8_undo_67 : decode cX8_undo 67 = .ok (.istore_n 1, 1) := by decide +kernel
theorem dX8_undo_68 : decode cX8_undo 68 = .ok (.iload_n 1, 1) := by decide +kernel
theorem dX8_undo_69 : decode cX8_undo 69 = .ok (.bipush 6, 2) := by decide +kernel
theorem dX8_undo_71 : decode cX8_undo 71 = .ok (.if_icmp .ge 57, 3) := by decide +kernel
theorem dX8_undo_74 : decode cX8_undo 74 = .ok (.aload_n 0, 1) := by decide +kernel
theorem dX8_undo_75 : decode cX8_undo 75 = .ok (.getfield 19, 3) := by decide +kernel
theorem dX8_undo_78 : decode cX8_undo 78 = .ok (.iload_n 1, 1) := by decide +kernel
theorem dX8_undo_79 : decode cX8_undo 79 = .ok (.aload_n 0, 1) := by decide +kernel
theorem dX8_undo_80 : decode cX8_undo 80 = .ok (.getfield 160, 3) := by decide +kernel
theorem dX8_undo_83 : decode cX8_undo 83 = .ok (.iload_n 1, 1) := by decide +kernel
theorem dX8_undo_84 : decode cX8_undo 84 = .ok (.iaload, 1) := by decide +kernel
theorem dX8_undo_85 : decode cX8_undo 85 = .ok (.iastore, 1) := by decide +kernel
theorem dX8_undo_86 : decode cX8_undo 86 = .ok (.aload_n 0, 1) := by decide +kernel
theorem dX8_undo_87 : decode cX8_undo 87 = .ok (.getfield 23, 3) := by decide +kernel
theorem dX8_undo_90 : decode cX8_undo 90 = .ok (.iload_n 1, 1) := by decide +kernel
theorem dX8_undo_91 : decode cX8_undo 91 = .ok (.aload_n 0, 1) := by decide +kernel
theorem dX8_undo_92 : decode cX8_undo 92 = .ok (.getfield 163, 3) := by decide +kernel
theorem dX8_undo_95 : decode cX8_undo 95 = .ok (.iload_n 1, 1) := by decide +kernel
theorem dX8_undo_96 : decode cX8_undo 96 = .ok (.iaload, 1) := by decide +kernel
theorem dX8_undo_97 : decode cX8_undo 97 = .ok (.iastore, 1) := by decide +kernel
theorem dX8_undo_98 : decode cX8_undo 98 = .ok (.aload_n 0, 1) := by decide +kernel
theorem dX8_undo_99 : decode cX8_undo 99 = .ok (.getfield 26, 3) := by decide +kernel
theorem dX8_undo_102 : decode cX8_undo 102 = .ok (.iload_n 1, 1) := by decide +kernel
theorem dX8_undo_103 : decode cX8_undo 103 = .ok (.aload_n 0, 1) := by decide +kernel
theorem dX8_undo_104 : decode cX8_undo 104 = .ok (.getfield 166, 3) := by decide +kernel
theorem dX8_undo_107 : decode cX8_undo 107 = .ok (.iload_n 1, 1) := by decide +kernel
theorem dX8_undo_108 : decode cX8_undo 108 = .ok (.iaload, 1) := by decide +kernel
theorem dX8_undo_109 : decode cX8_undo 109 = .ok (.iastore, 1) := by decide +kernel
theorem dX8_undo_110 : decode cX8_undo 110 = .ok (.aload_n 0, 1) := by decide +kernel
theorem dX8_undo_111 : decode cX8_undo 111 = .ok (.getfield 32, 3) := by decide +kernel
theorem dX8_undo_114 : decode cX8_undo 114 = .ok (.iload_n 1, 1) := by decide +kernel
theorem dX8_undo_115 : decode cX8_undo 115 = .ok (.aload_n 0, 1) := by decide +kernel
theorem dX8_undo_116 : decode cX8_undo 116 = .ok (.getfield 172, 3) := by decide +kernel
theorem dX8_undo_119 : decode cX8_undo 119 = .ok (.iload_n 1, 1) := by decide +kernel
theorem dX8_undo_120 : decode cX8_undo 120 = .ok (.iaload, 1) := by decide +kernel
theorem dX8_undo_121 : decode cX8_undo 121 = .ok (.iastore, 1) := by decide +kernel
theorem dX8_undo_122 : decode cX8_undo 122 = .ok (.iinc 1 1, 3) := by decide +kernel
theorem dX8_undo_125 : decode cX8_undo 125 = .ok (.goto (-57), 3) := by decide +kernel
theorem dX8_undo_128 : decode cX8_undo 128 = .ok (.iconst 0, 1) := by decide +kernel
theorem dX8_undo_129 : decode cX8_undo 129 = .ok (.istore_n 1, 1) := by decide +kernel
theorem dX8_undo_130 : decode cX8_undo 130 = .ok (.iload_n 1, 1) := by decide +kernel
theorem dX8_undo_131 : decode cX8_undo 131 = .ok (.bipush 24, 2) := by decide +kernel
theorem dX8_undo_133 : decode cX8_undo 133 = .ok (.if_icmp .ge 21, 3) := by decide +kernel
theorem dX8_undo_136 : decode cX8_undo 136 = .ok (.aload_n 0, 1) := by decide +kernel
theorem dX8_undo_137 : decode cX8_undo 137 = .ok (.getfield 29, 3) := by decide +kernel
theorem dX8_undo_140 : decode cX8_undo 140 = .ok (.iload_n 1, 1) := by decide +kernel
theorem dX8_undo_141 : decode cX8_undo 141 = .ok (.aload_n 0, 1) := by decide +kernel
theorem dX8_undo_142 : decode cX8_undo 142 = .ok (.getfield 169, 3) := by decide +kernel
theorem dX8_undo_145 : decode cX8_undo 145 = .ok (.iload_n 1, 1) := by decide +kernel
theorem dX8_undo_146 : decode cX8_undo 146 = .ok (.iaload, 1) := by decide +kernel
theorem dX8_undo_147 : decode cX8_undo 147 = .ok (.iastore, 1) := by decide +kernel
theorem dX8_undo_148 : decode cX8_undo 148 = .ok (.iinc 1 1, 3) := by decide +kernel
theorem dX8_undo_151 : decode cX8_undo 151 = .ok (.goto (-21), 3) := by decide +kernel
theorem dX8_undo_154 : decode cX8_undo 154 = .ok (.iconst 0, 1) := by decide +kernel
theorem dX8_undo_155 : decode cX8_undo 155 = .ok (.istore_n 1, 1) := by decide +kernel
theorem dX8_undo_156 : decode cX8_undo 156 = .ok (.iload_n 1, 1) := by decide +kernel
theorem dX8_undo_157 : decode cX8_undo 157 = .ok (.iconst 5, 1) := by decide +kernel
theorem dX8_undo_158 : decode cX8_undo 158 = .ok (.if_icmp .ge 45, 3) := by decide +kernel
theorem dX8_undo_161 : decode cX8_undo 161 = .ok (.aload_n 0, 1) := by decide +kernel
theorem dX8_undo_162 : decode cX8_undo 162 = .ok (.getfield 108, 3) := by decide +kernel
theorem dX8_undo_165 : decode cX8_undo 165 = .ok (.iload_n 1, 1) := by decide +kernel
theorem dX8_undo_166 : decode cX8_undo 166 = .ok (.aload_n 0, 1) := by decide +kernel
theorem dX8_undo_167 : decode cX8_undo 167 = .ok (.getfield 175, 3) := by decide +kernel
theorem dX8_undo_170 : decode cX8_undo 170 = .ok (.iload_n 1, 1) := by decide +kernel
theorem dX8_undo_171 : decode cX8_undo 171 = .ok (.iaload, 1) := by decide +kernel
theorem dX8_undo_172 : decode cX8_undo 172 = .ok (.iastore, 1) := by decide +kernel
theorem dX8_undo_173 : decode cX8_undo 173 = .ok (.aload_n 0, 1) := by decide +kernel
