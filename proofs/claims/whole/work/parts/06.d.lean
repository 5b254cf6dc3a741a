theorem dX5_layPlay_52 : decode cX5_layPlay 52 = .ok (.iload 4, 2) := by decide +kernel
theorem dX5_layPlay_54 : decode cX5_layPlay 54 = .ok (.iaload, 1) := by decide +kernel
theorem dX5_layPlay_55 : decode cX5_layPlay 55 = .ok (.istore 5, 2) := by decide +kernel
theorem dX5_layPlay_57 : decode cX5_layPlay 57 = .ok (.iconst (-1), 1) := by decide +kernel
theorem dX5_layPlay_58 : decode cX5_layPlay 58 = .ok (.istore 6, 2) := by decide +kernel
theorem dX5_layPlay_60 : decode cX5_layPlay 60 = .ok (.iconst 0, 1) := by decide +kernel
theorem dX5_layPlay_61 : decode cX5_layPlay 61 = .ok (.istore 7, 2) := by decide +kernel
theorem dX5_layPlay_63 : decode cX5_layPlay 63 = .ok (.iload 7, 2) := by decide +kernel
theorem dX5_layPlay_65 : decode cX5_layPlay 65 = .ok (.aload_n 0, 1) := by decide +kernel
theorem dX5_layPlay_66 : decode cX5_layPlay 66 = .ok (.getfield 94, 3) := by decide +kernel
theorem dX5_layPlay_69 : decode cX5_layPlay 69 = .ok (.if_icmp .ge 121, 3) := by decide +kernel
theorem dX5_layPlay_72 : decode cX5_layPlay 72 = .ok (.aload_n 0, 1) := by decide +kernel
theorem dX5_layPlay_73 : decode cX5_layPlay 73 = .ok (.getfield 16, 3) := by decide +kernel
theorem dX5_layPlay_76 : decode cX5_layPlay 76 = .ok (.iconst 3, 1) := by decide +kernel
theorem dX5_layPlay_77 : decode cX5_layPlay 77 = .ok (.iload 7, 2) := by decide +kernel
theorem dX5_layPlay_79 : decode cX5_layPlay 79 = .ok (.imul, 1) := by decide +kernel
theorem dX5_layPlay_80 : decode cX5_layPlay 80 = .ok (.iconst 1, 1) := by decide +kernel
theorem dX5_layPlay_81 : decode cX5_layPlay 81 = .ok (.iadd, 1) := by decide +kernel
theorem dX5_layPlay_82 : decode cX5_layPlay 82 = .ok (.iaload, 1) := by decide +kernel
theorem dX5_layPlay_83 : decode cX5_layPlay 83 = .ok (.iload_n 3, 1) := by decide +kernel
theorem dX5_layPlay_84 : decode cX5_layPlay 84 = .ok (.if_icmp .ne 30, 3) := by decide +kernel
theorem dX5_layPlay_87 : decode cX5_layPlay 87 = .ok (.aload_n 0, 1) := by decide +kernel
theorem dX5_layPlay_88 : decode cX5_layPlay 88 = .ok (.iload 7, 2) := by decide +kernel
theorem dX5_layPlay_90 : decode cX5_layPlay 90 = .ok (.iload 4, 2) := by decide +kernel
theorem dX5_layPlay_92 : decode cX5_layPlay 92 = .ok (.invokevirtual 124, 3) := by decide +kernel
theorem dX5_layPlay_95 : decode cX5_layPlay 95 = .ok (.ifCond .eq 19, 3) := by decide +kernel
theorem dX5_layPlay_98 : decode cX5_layPlay 98 = .ok (.aload_n 0, 1) := by decide +kernel
theorem dX5_layPlay_99 : decode cX5_layPlay 99 = .ok (.getfield 22, 3) := by decide +kernel
theorem dX5_layPlay_102 : decode cX5_layPlay 102 = .ok (.aload_n 0, 1) := by decide +kernel
theorem dX5_layPlay_103 : decode cX5_layPlay 103 = .ok (.iload 7, 2) := by decide +kernel
theorem dX5_layPlay_105 : decode cX5_layPlay 105 = .ok (.iload 4, 2) := by decide +kernel
theorem dX5_layPlay_107 : decode cX5_layPlay 107 = .ok (.invokevirtual 134, 3) := by decide +kernel
theorem dX5_layPlay_110 : decode cX5_layPlay 110 = .ok (.iaload, 1) := by decide +kernel
theorem dX5_layPlay_111 : decode cX5_layPlay 111 = .ok (.goto 10, 3) := by decide +kernel
theorem dX5_layPlay_114 : decode cX5_layPlay 114 = .ok (.aload_n 0, 1) := by decide +kernel
theorem dX5_layPlay_115 : decode cX5_layPlay 115 = .ok (.getfield 22, 3) := by decide +kernel
theorem dX5_layPlay_118 : decode cX5_layPlay 118 = .ok (.iload 4, 2) := by decide +kernel
theorem dX5_layPlay_120 : decode cX5_layPlay 120 = .ok (.iaload, 1) := by decide +kernel
theorem dX5_layPlay_121 : decode cX5_layPlay 121 = .ok (.istore 8, 2) := by decide +kernel
theorem dX5_layPlay_123 : decode cX5_layPlay 123 = .ok (.iload_n 3, 1) := by decide +kernel
theorem dX5_layPlay_124 : decode cX5_layPlay 124 = .ok (.ifCond .ne 18, 3) := by decide +kernel
theorem dX5_layPlay_127 : decode cX5_layPlay 127 = .ok (.iload 8, 2) := by decide +kernel
theorem dX5_layPlay_129 : decode cX5_layPlay 129 = .ok (.iload 5, 2) := by decide +kernel
theorem dX5_layPlay_131 : decode cX5_layPlay 131 = .ok (.if_icmp .le 7, 3) := by decide +kernel
theorem dX5_layPlay_134 : decode cX5_layPlay 134 = .ok (.iconst 1, 1) := by decide +kernel
theorem dX5_layPlay_135 : decode cX5_layPlay 135 = .ok (.goto 19, 3) := by decide +kernel
theorem dX5_layPlay_138 : decode cX5_layPlay 138 = .ok (.iconst 0, 1) := by decide +kernel
theorem dX5_layPlay_139 : decode cX5_layPlay 139 = .ok (.goto 15, 3) := by decide +kernel
theorem dX5_layPlay_142 : decode cX5_layPlay 142 = .ok (.iload 8, 2) := by decide +kernel
theorem dX5_layPlay_144 : decode cX5_layPlay 144 = .ok (.iload 5, 2) := by decide +kernel
theorem dX5_layPlay_146 : decode cX5_layPlay 146 = .ok (.if_icmp .ge 7, 3) := by decide +kernel
theorem dX5_layPlay_149 : decode cX5_layPlay 149 = .ok (.iconst 1, 1) := by decide +kernel
theorem dX5_layPlay_150 : decode cX5_layPlay 150 = .ok (.goto 4, 3) := by decide +kernel
theorem dX5_layPlay_153 : decode cX5_layPlay 153 = .ok (.iconst 0, 1) := by decide +kernel
theorem dX5_layPlay_154 : decode cX5_layPlay 154 = .ok (.istore 9, 2) := by decide +kernel
theorem dX5_layPlay_156 : decode cX5_layPlay 156 = .ok (.iload 9, 2) := by decide +kernel
theorem dX5_layPlay_158 : decode cX5_layPlay 158 = .ok (.ifCond .eq 8, 3) := by decide +kernel
theorem dX5_layPlay_161 : decode cX5_layPlay 161 = .ok (.iload 8, 2) := by decide +kernel
theorem dX5_layPlay_163 : decode cX5_layPlay 163 = .ok (.goto 5, 3) := by decide +kernel
theorem dX5_layPlay_166 : decode cX5_layPlay 166 = .ok (.iload 5, 2) := by decide +kernel
theorem dX5_layPlay_168 : decode cX5_layPlay 168 = .ok (.istore 5, 2) := by decide +kernel
theorem dX5_layPlay_170 : decode cX5_layPlay 170 = .ok (.iload 9, 2) := by decide +kernel
theorem dX5_layPlay_172 : decode cX5_layPlay 172 = .ok (.ifCond .eq 8, 3) := by decide +kernel
theorem dX5_layPlay_175 : decode cX5_layPlay 175 = .ok (.iload 7, 2) := by decide +kernel
theorem dX5_layPlay_177 : decode cX5_layPlay 177 = .ok (.goto 5, 3) := by decide +kernel
theorem dX5_layPlay_180 : decode cX5_layPlay 180 = .ok (.iload 6, 2) := by decide +kernel
theorem dX5_layPlay_182 : decode cX5_layPlay 182 = .ok (.istore 6, 2) := by decide +kernel
theorem dX5_layPlay_184 : decode cX5_layPlay 184 = .ok (.iinc 7 1, 3) := by decide +kernel
theorem dX5_layPlay_187 : decode cX5_layPlay 187 = .ok (.goto (-124), 3) := by decide +kernel
theorem dX5_layPlay_190 : decode cX5_layPlay 190 = .ok (.aload_n 0, 1) := by decide +kernel
theorem dX5_layPlay_191 : decode cX5_layPlay 191 = .ok (.getfield 25, 3) := by decide +kernel
theorem dX5_layPlay_194 : decode cX5_layPlay 194 = .ok (.iload 4, 2) := by decide +kernel
theorem dX5_layPlay_196 : decode cX5_layPlay 196 = .ok (.iload 5, 2) := by decide +kernel
theorem dX5_layPlay_198 : decode cX5_layPlay 198 = .ok (.iastore, 1) := by decide +kernel
theorem dX5_layPlay_199 : decode cX5_layPlay 199 = .ok (.aload_n 0, 1) := by decide +kernel
theorem dX5_layPlay_200 : decode cX5_layPlay 200 = .ok (.iload 4, 2) := by decide +kernel
theorem dX5_layPlay_202 : decode cX5_layPlay 202 = .ok (.aload_n 0, 1) := by decide +kernel
theorem dX5_layPlay_203 : decode cX5_layPlay 203 = .ok (.getfield 59, 3) := by decide +kernel
theorem dX5_layPlay_206 : decode cX5_layPlay 206 = .ok (.if_icmp .ne 8, 3) := by decide +kernel
theorem dX5_layPlay_209 : decode cX5_layPlay 209 = .ok (.iload 6, 2) := by decide +kernel
theorem dX5_layPlay_211 : decode cX5_layPlay 211 = .ok (.goto 7, 3) := by decide +kernel
theorem dX5_layPlay_214 : decode cX5_layPlay 214 = .ok (.aload_n 0, 1) := by decide +kernel
theorem dX5_layPlay_215 : decode cX5_layPlay 215 = .ok (.getfield 169, 3) := by decide +kernel
theorem dX5_layPlay_218 : decode cX5_layPlay 218 = .ok (.putfield 169, 3) := by decide +kernel
theorem dX5_layPlay_221 : decode cX5_layPlay 221 = .ok (.iinc 4 1, 3) := by decide +kernel
theorem dX5_layPlay_224 : decode cX5_layPlay 224 = .ok (.goto (-183), 3) := by decide +kernel
theorem dX5_layPlay_227 : decode cX5_layPlay 227 = .ok (.aload_n 0, 1) := by decide +kernel
theorem dX5_layPlay_228 : decode cX5_layPlay 228 = .ok (.getfield 25, 3) := by decide +kernel
theorem dX5_layPlay_231 : decode cX5_layPlay 231 = .ok (.aload_n 0, 1) := by decide +kernel
theorem dX5_layPlay_232 : decode cX5_layPlay 232 = .ok (.getfield 22, 3) := by decide +kernel
theorem dX5_layPlay_235 : decode cX5_layPlay 235 = .ok (.invokestatic 172, 3) := by decide +kernel
theorem dX5_layPlay_238 : decode cX5_layPlay 238 = .ok (.iinc 2 1, 3) := by decide +kernel
theorem dX5_layPlay_241 : decode cX5_layPlay 241 = .ok (.goto (-214), 3) := by decide +kernel
theorem dX5_layPlay_244 : decode cX5_layPlay 244 = .ok (.aload_n 0, 1) := by decide +kernel
theorem dX5_layPlay_245 : decode cX5_layPlay 245 = .ok (.getfield 22, 3) := by decide +kernel
theorem dX5_layPlay_248 : decode cX5_layPlay 248 = .ok (.aload_n 0, 1) := by decide +kernel
theorem dX5_layPlay_249 : decode cX5_layPlay 249 = .ok (.getfield 59, 3) := by decide +kernel
theorem dX5_layPlay_252 : decode cX5_layPlay 252 = .ok (.iaload, 1) := by decide +kernel
theorem dX5_layPlay_253 : decode cX5_layPlay 253 = .ok (.ireturn, 1) := by decide +kernel
set_option maxRecDepth 20000 in
theorem ggX5_playOf_X5_layPlay : GoodIn wsX5_playOf wsX5_layPlay := goodIn_r _ [6, 7, 8, 9, 10, 11, 1, 12, 13, 14, 5, 15, 16, 17, 18, 19, 20, 21, 22, 23, 24, 25, 26, 27, 28, 29, 30, 31, 32, 33, 34, 35, 36, 37, 38, 39, 40, 41, 42, 43, 44, 45, 46, 47, 48, 49, 50, 51, 52, 53, 54, 55, 56, 57, 58, 59, 60, 61, 62, 63, 64, 65, 66, 67, 68, 69] (by decide +kernel) (by decide +kernel)
set_option maxRecDepth 20000 in
theorem gX5_playOf_X5_layPlay : GoodIn wsX5_playOf (wsV RX5 176 RX5 yX5_layPlay wsX5_layPlay) := goodIn_app (goodIn_of _ (by decide +kernel)) ggX5_playOf_X5_layPlay
theorem dX5_playOf_0 : decode cX5_playOf 0 = .ok (.aload_n 0, 1) := by decide +kernel
theorem dX5_playOf_1 : decode cX5_playOf 1 = .ok (.iload_n 1, 1) := by decide +kernel
theorem dX5_playOf_2 : decode cX5_playOf 2 = .ok (.invokevirtual 176, 3) := by decide +kernel
theorem dX5_playOf_5 : decode cX5_playOf 5 = .ok (.istore_n 3, 1) := by decide +kernel
theorem dX5_playOf_6 : decode cX5_playOf 6 = .ok (.iload_n 2, 1) := by decide +kernel
theorem dX5_playOf_7 : decode cX5_playOf 7 = .ok (.ifCond .ne 7, 3) := by decide +kernel
theorem dX5_playOf_10 : decode cX5_playOf 10 = .ok (.iload_n 3, 1) := by decide +kernel
theorem dX5_playOf_11 : decode cX5_playOf 11 = .ok (.goto 7, 3) := by decide +kernel
theorem dX5_playOf_14 : decode cX5_playOf 14 = .ok (.aload_n 0, 1) := by decide +kernel
theorem dX5_playOf_15 : decode cX5_playOf 15 = .ok (.getfield 169, 3) := by decide +kernel
theorem dX5_playOf_18 : decode cX5_playOf 18 = .ok (.ireturn, 1) := by decide +kernel
set_option maxRecDepth 20000 in
theorem ggX5_play_X5_in : GoodIn wsX5_play wsX5_in := goodIn_r _ [5] (by decide +kernel) (by decide +kernel)
set_option maxRecDepth 20000 in
theorem gX5_play_X5_in : GoodIn wsX5_play (va_wsS RX5 64 yX5_in wsX5_in) := goodIn_app (goodIn_of _ (by decide +kernel)) ggX5_play_X5_in
set_option maxRecDepth 20000 in
theorem ggX5_play_X5_lacks : GoodIn wsX5_play wsX5_lacks := goodIn_r _ [9, 10, 44, 45, 46, 47, 48, 49, 50, 51, 52, 53, 54, 55, 56, 57, 58, 59, 60, 61, 62, 63, 64, 65, 66, 67, 68, 69, 70, 71, 72, 73, 74, 75, 76, 77, 78] (by decide +kernel) (by decide +kernel)
set_option maxRecDepth 20000 in
theorem gX5_play_X5_lacks : GoodIn wsX5_play (wsV RX5 141 RX5 yX5_lacks wsX5_lacks) := goodIn_app (goodIn_of _ (by decide +kernel)) ggX5_play_X5_lacks
set_option maxRecDepth 20000 in
theorem ggX5_play_X5_playOf : GoodIn wsX5_play wsX5_playOf := goodIn_r _ [14, 15, 16, 17, 18, 4, 19, 20, 10, 21, 22, 23, 24, 25, 26, 27, 28, 29, 30, 31, 2, 3, 5, 32, 33, 34, 35, 36, 37, 38, 39, 40, 41, 42, 43, 44, 45, 46, 47, 48, 49, 50, 51, 52, 53, 54, 55, 56, 57, 58, 59, 60, 61, 62, 63, 64, 65, 66, 67, 68, 69, 70, 71, 72, 73, 74, 75, 76, 77, 78] (by decide +kernel) (by decide +kernel)
set_option maxRecDepth 20000 in
theorem gX5_play_X5_playOf : GoodIn wsX5_play (wsV RX5 181 RX5 yX5_playOf wsX5_playOf) := goodIn_app (goodIn_of _ (by decide +kernel)) ggX5_play_X5_playOf
theorem dX5_play_0 : decode cX5_play 0 = .ok (.iload_n 1, 1) := by decide +kernel
theorem dX5_play_1 : decode cX5_play 1 = .ok (.i2l, 1) := by decide +kernel
theorem dX5_play_2 : decode cX5_play 2 = .ok (.lconst 1, 1) := by decide +kernel
theorem dX5_play_3 : decode cX5_play 3 = .ok (.ldc2_w 179, 3) := by decide +kernel
theorem dX5_play_6 : decode cX5_play 6 = .ok (.invokestatic 64, 3) := by decide +kernel
theorem dX5_play_9 : decode cX5_play 9 = .ok (.ifCond .eq 13, 3) := by decide +kernel
theorem dX5_play_12 : decode cX5_play 12 = .ok (.iload_n 2, 1) := by decide +kernel
theorem dX5_play_13 : decode cX5_play 13 = .ok (.i2l, 1) := by decide +kernel
theorem dX5_play_14 : decode cX5_play 14 = .ok (.lconst 0, 1) := by decide +kernel
theorem dX5_play_15 : decode cX5_play 15 = .ok (.lconst 1, 1) := by decide +kernel
theorem dX5_play_16 : decode cX5_play 16 = .ok (.invokestatic 64, 3) := by decide +kernel
theorem dX5_play_19 : decode cX5_play 19 = .ok (.ifCond .ne 6, 3) := by decide +kernel
theorem dX5_play_22 : decode cX5_play 22 = .ok (.bipush (-102), 2) := by decide +kernel
theorem dX5_play_24 : decode cX5_play 24 = .ok (.ireturn, 1) := by decide +kernel
theorem dX5_play_25 : decode cX5_play 25 = .ok (.aload_n 0, 1) := by decide +kernel
theorem dX5_play_26 : decode cX5_play 26 = .ok (.invokevirtual 141, 3) := by decide +kernel
theorem dX5_play_29 : decode cX5_play 29 = .ok (.ifCond .eq 8, 3) := by decide +kernel
theorem dX5_play_32 : decode cX5_play 32 = .ok (.bipush (-103), 2) := by decide +kernel
theorem dX5_play_34 : decode cX5_play 34 = .ok (.goto 9, 3) := by decide +kernel
theorem dX5_play_37 : decode cX5_play 37 = .ok (.aload_n 0, 1) := by decide +kernel
theorem dX5_play_38 : decode cX5_play 38 = .ok (.iload_n 1, 1) := by decide +kernel
theorem dX5_play_39 : decode cX5_play 39 = .ok (.iload_n 2, 1) := by decide +kernel
theorem dX5_play_40 : decode cX5_play 40 = .ok (.invokevirtual 181, 3) := by decide +kernel
theorem dX5_play_43 : decode cX5_play 43 = .ok (.ireturn, 1) := by decide +kernel
set_option maxRecDepth 20000 in
theorem ggX5_hear_X5_in : GoodIn wsX5_hear wsX5_in := goodIn_r _ [7] (by decide +kernel) (by decide +kernel)
set_option maxRecDepth 20000 in
theorem gX5_hear_X5_in : GoodIn wsX5_hear (va_wsS RX5 64 yX5_in wsX5_in) := goodIn_app (goodIn_of _ (by decide +kernel)) ggX5_hear_X5_in
set_option maxRecDepth 20000 in
theorem ggX5_hear_X5_isSeat : GoodIn wsX5_hear wsX5_isSeat := goodIn_r _ [11, 12, 4, 5, 6, 7, 13, 14, 15, 16, 17, 18, 19, 20, 21, 22, 23, 24, 25, 26, 27, 28, 29, 30, 31, 32, 33, 34, 35, 36, 37, 38, 39, 40, 41, 42, 43, 44, 45, 46, 47] (by decide +kernel) (by decide +kernel)
set_option maxRecDepth 20000 in
theorem gX5_hear_X5_isSeat : GoodIn wsX5_hear (wsV RX5 155 RX5 yX5_isSeat wsX5_isSeat) := goodIn_app (goodIn_of _ (by decide +kernel)) ggX5_hear_X5_isSeat
theorem dX5_hear_0 : decode cX5_hear 0 = .ok (.iload_n 1, 1) := by decide +kernel
theorem dX5_hear_1 : decode cX5_hear 1 = .ok (.i2l, 1) := by decide +kernel
theorem dX5_hear_2 : decode cX5_hear 2 = .ok (.lconst 0, 1) := by decide +kernel
theorem dX5_hear_3 : decode cX5_hear 3 = .ok (.ldc2_w 184, 3) := by decide +kernel
theorem dX5_hear_6 : decode cX5_hear 6 = .ok (.invokestatic 64, 3) := by decide +kernel
theorem dX5_hear_9 : decode cX5_hear 9 = .ok (.ifCond .ne 6, 3) := by decide +kernel
theorem dX5_hear_12 : decode cX5_hear 12 = .ok (.bipush (-102), 2) := by decide +kernel
theorem dX5_hear_14 : decode cX5_hear 14 = .ok (.ireturn, 1) := by decide +kernel
theorem dX5_hear_15 : decode cX5_hear 15 = .ok (.iload_n 2, 1) := by decide +kernel
theorem dX5_hear_16 : decode cX5_hear 16 = .ok (.iconst (-1), 1) := by decide +kernel
theorem dX5_hear_17 : decode cX5_hear 17 = .ok (.if_icmp .eq 14, 3) := by decide +kernel
theorem dX5_hear_20 : decode cX5_hear 20 = .ok (.aload_n 0, 1) := by decide +kernel
theorem dX5_hear_21 : decode cX5_hear 21 = .ok (.iload_n 2, 1) := by decide +kernel
theorem dX5_hear_22 : decode cX5_hear 22 = .ok (.invokevirtual 155, 3) := by decide +kernel
theorem dX5_hear_25 : decode cX5_hear 25 = .ok (.ifCond .ne 6, 3) := by decide +kernel
theorem dX5_hear_28 : decode cX5_hear 28 = .ok (.bipush (-101), 2) := by decide +kernel
theorem dX5_hear_30 : decode cX5_hear 30 = .ok (.ireturn, 1) := by decide +kernel
theorem dX5_hear_31 : decode cX5_hear 31 = .ok (.aload_n 0, 1) := by decide +kernel
theorem dX5_hear_32 : decode cX5_hear 32 = .ok (.getfield 118, 3) := by decide +kernel
theorem dX5_hear_35 : decode cX5_hear 35 = .ok (.bipush 8, 2) := by decide +kernel
theorem dX5_hear_37 : decode cX5_hear 37 = .ok (.if_icmp .ne 6, 3) := by decide +kernel
theorem dX5_hear_40 : decode cX5_hear 40 = .ok (.bipush (-104), 2) := by decide +kernel
theorem dX5_hear_42 : decode cX5_hear 42 = .ok (.ireturn, 1) := by decide +kernel
theorem dX5_hear_43 : decode cX5_hear 43 = .ok (.aload_n 0, 1) := by decide +kernel
theorem dX5_hear_44 : decode cX5_hear 44 = .ok (.getfield 28, 3) := by decide +kernel
theorem dX5_hear_47 : decode cX5_hear 47 = .ok (.iconst 2, 1) := by decide +kernel
theorem dX5_hear_48 : decode cX5_hear 48 = .ok (.aload_n 0, 1) := by decide +kernel
theorem dX5_hear_49 : decode cX5_hear 49 = .ok (.getfield 118, 3) := by decide +kernel
theorem dX5_hear_52 : decode cX5_hear 52 = .ok (.imul, 1) := by decide +kernel
theorem dX5_hear_53 : decode cX5_hear 53 = .ok (.iload_n 1, 1) := by decide +kernel
theorem dX5_hear_54 : decode cX5_hear 54 = .ok (.iastore, 1) := by decide +kernel
theorem dX5_hear_55 : decode cX5_hear 55 = .ok (.aload_n 0, 1) := by decide +kernel
theorem dX5_hear_56 : decode cX5_hear 56 = .ok (.getfield 28, 3) := by decide +kernel
theorem dX5_hear_59 : decode cX5_hear 59 = .ok (.iconst 2, 1) := by decide +kernel
theorem dX5_hear_60 : decode cX5_hear 60 = .ok (.aload_n 0, 1) := by decide +kernel
theorem dX5_hear_61 : decode cX5_hear 61 = .ok (.getfield 118, 3) := by decide +kernel
theorem dX5_hear_64 : decode cX5_hear 64 = .ok (.imul, 1) := by decide +kernel
theorem dX5_hear_65 : decode cX5_hear 65 = .ok (.iconst 1, 1) := by decide +kernel
theorem dX5_hear_66 : decode cX5_hear 66 = .ok (.iadd, 1) := by decide +kernel
theorem dX5_hear_67 : decode cX5_hear 67 = .ok (.iload_n 2, 1) := by decide +kernel
theorem dX5_hear_68 : decode cX5_hear 68 = .ok (.iconst (-1), 1) := by decide +kernel
theorem dX5_hear_69 : decode cX5_hear 69 = .ok (.if_icmp .ne 8, 3) := by decide +kernel
theorem dX5_hear_72 : decode cX5_hear 72 = .ok (.bipush 7, 2) := by decide +kernel
theorem dX5_hear_74 : decode cX5_hear 74 = .ok (.goto 4, 3) := by decide +kernel
theorem dX5_hear_77 : decode cX5_hear 77 = .ok (.iload_n 2, 1) := by decide +kernel
theorem dX5_hear_78 : decode cX5_hear 78 = .ok (.iastore, 1) := by decide +kernel
theorem dX5_hear_79 : decode cX5_hear 79 = .ok (.aload_n 0, 1) := by decide +kernel
theorem dX5_hear_80 : decode cX5_hear 80 = .ok (.dup, 1) := by decide +kernel
theorem dX5_hear_81 : decode cX5_hear 81 = .ok (.getfield 118, 3) := by decide +kernel
theorem dX5_hear_84 : decode cX5_hear 84 = .ok (.iconst 1, 1) := by decide +kernel
theorem dX5_hear_85 : decode cX5_hear 85 = .ok (.iadd, 1) := by decide +kernel
theorem dX5_hear_86 : decode cX5_hear 86 = .ok (.putfield 118, 3) := by decide +kernel
theorem dX5_hear_89 : decode cX5_hear 89 = .ok (.aload_n 0, 1) := by decide +kernel
theorem dX5_hear_90 : decode cX5_hear 90 = .ok (.getfield 118, 3) := by decide +kernel
theorem dX5_hear_93 : decode cX5_hear 93 = .ok (.ireturn, 1) := by decide +kernel
theorem dX5_forget_0 : decode cX5_forget 0 = .ok (.aload_n 0, 1) := by decide +kernel
theorem dX5_forget_1 : decode cX5_forget 1 = .ok (.getfield 118, 3) := by decide +kernel
theorem dX5_forget_4 : decode cX5_forget 4 = .ok (.istore_n 1, 1) := by decide +kernel
theorem dX5_forget_5 : decode cX5_forget 5 = .ok (.aload_n 0, 1) := by decide +kernel
theorem dX5_forget_6 : decode cX5_forget 6 = .ok (.iconst 0, 1) := by decide +kernel
theorem dX5_forget_7 : decode cX5_forget 7 = .ok (.putfield 118, 3) := by decide +kernel
theorem dX5_forget_10 : decode cX5_forget 10 = .ok (.iload_n 1, 1) := by decide +kernel
theorem dX5_forget_11 : decode cX5_forget 11 = .ok (.ireturn, 1) := by decide +kernel
theorem dX5_isHeard_0 : decode cX5_isHeard 0 = .ok (.iconst 1, 1) := by decide +kernel
theorem dX5_isHeard_1 : decode cX5_isHeard 1 = .ok (.istore_n 3, 1) := by decide +kernel
theorem dX5_isHeard_2 : decode cX5_isHeard 2 = .ok (.iconst 0, 1) := by decide +kernel
theorem dX5_isHeard_3 : decode cX5_isHeard 3 = .ok (.istore 4, 2) := by decide +kernel
theorem dX5_isHeard_5 : decode cX5_isHeard 5 = .ok (.iload 4, 2) := by decide +kernel
theorem dX5_isHeard_7 : decode cX5_isHeard 7 = .ok (.aload_n 0, 1) := by decide +kernel
theorem dX5_isHeard_8 : decode cX5_isHeard 8 = .ok (.getfield 118, 3) := by decide +kernel
theorem dX5_isHeard_11 : decode cX5_isHeard 11 = .ok (.if_icmp .ge 50, 3) := by decide +kernel
theorem dX5_isHeard_14 : decode cX5_isHeard 14 = .ok (.iload_n 3, 1) := by decide +kernel
theorem dX5_isHeard_15 : decode cX5_isHeard 15 = .ok (.ifCond .eq 38, 3) := by decide +kernel
theorem dX5_isHeard_18 : decode cX5_isHeard 18 = .ok (.aload_n 0, 1) := by decide +kernel
theorem dX5_isHeard_19 : decode cX5_isHeard 19 = .ok (.getfield 28, 3) := by decide +kernel
theorem dX5_isHeard_22 : decode cX5_isHeard 22 = .ok (.iconst 2, 1) := by decide +kernel
theorem dX5_isHeard_23 : decode cX5_isHeard 23 = .ok (.iload 4, 2) := by decide +kernel
theorem dX5_isHeard_25 : decode cX5_isHeard 25 = .ok (.imul, 1) := by decide +kernel
theorem dX5_isHeard_26 : decode cX5_isHeard 26 = .ok (.iaload, 1) := by decide +kernel
theorem dX5_isHeard_27 : decode cX5_isHeard 27 = .ok (.iload_n 1, 1) := by decide +kernel
theorem dX5_isHeard_28 : decode cX5_isHeard 28 = .ok (.if_icmp .ne 21, 3) := by decide +kernel
theorem dX5_isHeard_31 : decode cX5_isHeard 31 = .ok (.aload_n 0, 1) := by decide +kernel
theorem dX5_isHeard_32 : decode cX5_isHeard 32 = .ok (.getfield 28, 3) := by decide +kernel
theorem dX5_isHeard_35 : decode cX5_isHeard 35 = .ok (.iconst 2, 1) := by decide +kernel
theorem dX5_isHeard_36 : decode cX5_isHeard 36 = .ok (.iload 4, 2) := by decide +kernel
theorem dX5_isHeard_38 : decode cX5_isHeard 38 = .ok (.imul, 1) := by decide +kernel
theorem dX5_isHeard_39 : decode cX5_isHeard 39 = .ok (.iconst 1, 1) := by decide +kernel
theorem dX5_isHeard_40 : decode cX5_isHeard 40 = .ok (.iadd, 1) := by decide +kernel
theorem dX5_isHeard_41 : decode cX5_isHeard 41 = .ok (.iaload, 1) := by decide +kernel
theorem dX5_isHeard_42 : decode cX5_isHeard 42 = .ok (.iload_n 2, 1) := by decide +kernel
theorem dX5_isHeard_43 : decode cX5_isHeard 43 = .ok (.bipush 8, 2) := by decide +kernel
theorem dX5_isHeard_45 : decode cX5_isHeard 45 = .ok (.irem, 1) := by decide +kernel
theorem dX5_isHeard_46 : decode cX5_isHeard 46 = .ok (.if_icmp .ne 7, 3) := by decide +kernel
theorem dX5_isHeard_49 : decode cX5_isHeard 49 = .ok (.iconst 1, 1) := by decide +kernel
theorem dX5_isHeard_50 : decode cX5_isHeard 50 = .ok (.goto 4, 3) := by decide +kernel
theorem dX5_isHeard_53 : decode cX5_isHeard 53 = .ok (.iconst 0, 1) := by decide +kernel
theorem dX5_isHeard_54 : decode cX5_isHeard 54 = .ok (.istore_n 3, 1) := by decide +kernel
theorem dX5_isHeard_55 : decode cX5_isHeard 55 = .ok (.iinc 4 1, 3) := by decide +kernel
theorem dX5_isHeard_58 : decode cX5_isHeard 58 = .ok (.goto (-53), 3) := by decide +kernel
theorem dX5_isHeard_61 : decode cX5_isHeard 61 = .ok (.iload_n 3, 1) := by decide +kernel
theorem dX5_isHeard_62 : decode cX5_isHeard 62 = .ok (.ireturn, 1) := by decide +kernel
set_option maxRecDepth 20000 in
theorem ggX5_layWays_X5_isHeard : GoodIn wsX5_layWays wsX5_isHeard := goodIn_r _ [9, 10, 11, 22, 23, 24, 25, 26, 27, 28, 29, 30, 31, 32, 33, 34, 35, 36, 37, 38, 39, 40, 41, 42, 43, 44, 45, 46, 47, 48, 49, 50, 51, 52, 53, 54, 55, 56] (by decide +kernel) (by decide +kernel)
set_option maxRecDepth 20000 in
theorem gX5_layWays_X5_isHeard : GoodIn wsX5_layWays (wsV RX5 186 RX5 yX5_isHeard wsX5_isHeard) := goodIn_app (goodIn_of _ (by decide +kernel)) ggX5_layWays_X5_isHeard
set_option maxRecDepth 20000 in
theorem ggX5_layWays_X5_counts : GoodIn wsX5_layWays wsX5_counts := goodIn_r _ [15, 16, 17, 22, 23, 24, 25, 26, 27, 28, 29, 30, 31, 32, 33, 34, 35, 36, 37, 38, 39, 40, 41, 42, 43, 44, 45, 46, 47, 48, 49, 50, 51, 52, 53, 54, 55, 56] (by decide +kernel) (by decide +kernel)
set_option maxRecDepth 20000 in
theorem gX5_layWays_X5_counts : GoodIn wsX5_layWays (wsV RX5 124 RX5 yX5_counts wsX5_counts) := goodIn_app (goodIn_of _ (by decide +kernel)) ggX5_layWays_X5_counts
set_option maxRecDepth 20000 in
theorem ggX5_layWays_X5_behind : GoodIn wsX5_layWays wsX5_behind := goodIn_r _ [21, 16, 4, 22, 23, 24, 25, 26, 27, 28, 29, 30, 31, 32, 33, 34, 35, 36, 37, 38, 39, 40, 41, 42, 43, 44, 45, 46, 47, 48, 49, 50, 51, 52, 53, 54, 55, 56] (by decide +kernel) (by decide +kernel)
set_option maxRecDepth 20000 in
theorem gX5_layWays_X5_behind : GoodIn wsX5_layWays (wsV RX5 134 RX5 yX5_behind wsX5_behind) := goodIn_app (goodIn_of _ (by decide +kernel)) ggX5_layWays_X5_behind
theorem dX5_layWays_0 : decode cX5_layWays 0 = .ok (.iconst 0, 1) := by decide +kernel
theorem dX5_layWays_1 : decode cX5_layWays 1 = .ok (.istore_n 2, 1) := by decide +kernel
theorem dX5_layWays_2 : decode cX5_layWays 2 = .ok (.iload_n 2, 1) := by decide +kernel
theorem dX5_layWays_3 : decode cX5_layWays 3 = .ok (.sipush 448, 3) := by decide +kernel
theorem dX5_layWays_6 : decode cX5_layWays 6 = .ok (.if_icmp .ge 23, 3) := by decide +kernel
theorem dX5_layWays_9 : decode cX5_layWays 9 = .ok (.aload_n 0, 1) := by decide +kernel
theorem dX5_layWays_10 : decode cX5_layWays 10 = .ok (.getfield 31, 3) := by decide +kernel
theorem dX5_layWays_13 : decode cX5_layWays 13 = .ok (.iload_n 2, 1) := by decide +kernel
theorem dX5_layWays_14 : decode cX5_layWays 14 = .ok (.iconst 0, 1) := by decide +kernel
theorem dX5_layWays_15 : decode cX5_layWays 15 = .ok (.iastore, 1) := by decide +kernel
theorem dX5_layWays_16 : decode cX5_layWays 16 = .ok (.aload_n 0, 1) := by decide +kernel
theorem dX5_layWays_17 : decode cX5_layWays 17 = .ok (.getfield 34, 3) := by decide +kernel
theorem dX5_layWays_20 : decode cX5_layWays 20 = .ok (.iload_n 2, 1) := by decide +kernel
theorem dX5_layWays_21 : decode cX5_layWays 21 = .ok (.iconst 0, 1) := by decide +kernel
theorem dX5_layWays_22 : decode cX5_layWays 22 = .ok (.iastore, 1) := by decide +kernel
theorem dX5_layWays_23 : decode cX5_layWays 23 = .ok (.iinc 2 1, 3) := by decide +kernel
theorem dX5_layWays_26 : decode cX5_layWays 26 = .ok (.goto (-24), 3) := by decide +kernel
theorem dX5_layWays_29 : decode cX5_layWays 29 = .ok (.aload_n 0, 1) := by decide +kernel
theorem dX5_layWays_30 : decode cX5_layWays 30 = .ok (.getfield 31, 3) := by decide +kernel
theorem dX5_layWays_33 : decode cX5_layWays 33 = .ok (.aload_n 0, 1) := by decide +kernel
theorem dX5_layWays_34 : decode cX5_layWays 34 = .ok (.getfield 59, 3) := by decide +kernel
theorem dX5_layWays_37 : decode cX5_layWays 37 = .ok (.aload_n 0, 1) := by decide +kernel
theorem dX5_layWays_38 : decode cX5_layWays 38 = .ok (.iconst 0, 1) := by decide +kernel
theorem dX5_layWays_39 : decode cX5_layWays 39 = .ok (.aload_n 0, 1) := by decide +kernel
theorem dX5_layWays_40 : decode cX5_layWays 40 = .ok (.getfield 59, 3) := by decide +kernel
theorem dX5_layWays_43 : decode cX5_layWays 43 = .ok (.invokevirtual 186, 3) := by decide +kernel
theorem dX5_layWays_46 : decode cX5_layWays 46 = .ok (.ifCond .eq 7, 3) := by decide +kernel
theorem dX5_layWays_49 : decode cX5_layWays 49 = .ok (.iconst 1, 1) := by decide +kernel
theorem dX5_layWays_50 : decode cX5_layWays 50 = .ok (.goto 4, 3) := by decide +kernel
theorem dX5_layWays_53 : decode cX5_layWays 53 = .ok (.iconst 0, 1) := by decide +kernel
theorem dX5_layWays_54 : decode cX5_layWays 54 = .ok (.iastore, 1) := by decide +kernel
theorem dX5_layWays_55 : decode cX5_layWays 55 = .ok (.iconst 0, 1) := by decide +kernel
theorem dX5_layWays_56 : decode cX5_layWays 56 = .ok (.istore_n 2, 1) := by decide +kernel
theorem dX5_layWays_57 : decode cX5_layWays 57 = .ok (.iload_n 2, 1) := by decide +kernel
theorem dX5_layWays_58 : decode cX5_layWays 58 = .ok (.iload_n 1, 1) := by decide +kernel
theorem dX5_layWays_59 : decode cX5_layWays 59 = .ok (.if_icmp .ge 125, 3) := by decide +kernel
theorem dX5_layWays_62 : decode cX5_layWays 62 = .ok (.iconst 0, 1) := by decide +kernel
theorem dX5_layWays_63 : decode cX5_layWays 63 = .ok (.istore_n 3, 1) := by decide +kernel
theorem dX5_layWays_64 : decode cX5_layWays 64 = .ok (.iload_n 3, 1) := by decide +kernel
theorem dX5_layWays_65 : decode cX5_layWays 65 = .ok (.bipush 64, 2) := by decide +kernel
theorem dX5_layWays_67 : decode cX5_layWays 67 = .ok (.if_icmp .ge 111, 3) := by decide +kernel
theorem dX5_layWays_70 : decode cX5_layWays 70 = .ok (.iconst 0, 1) := by decide +kernel
theorem dX5_layWays_71 : decode cX5_layWays 71 = .ok (.istore 4, 2) := by decide +kernel
theorem dX5_layWays_73 : decode cX5_layWays 73 = .ok (.iload 4, 2) := by decide +kernel
theorem dX5_layWays_75 : decode cX5_layWays 75 = .ok (.aload_n 0, 1) := by decide +kernel
theorem dX5_layWays_76 : decode cX5_layWays 76 = .ok (.getfield 94, 3) := by decide +kernel
theorem dX5_layWays_79 : decode cX5_layWays 79 = .ok (.if_icmp .ge 93, 3) := by decide +kernel
theorem dX5_layWays_82 : decode cX5_layWays 82 = .ok (.aload_n 0, 1) := by decide +kernel
theorem dX5_layWays_83 : decode cX5_layWays 83 = .ok (.getfield 31, 3) := by decide +kernel
theorem dX5_layWays_86 : decode cX5_layWays 86 = .ok (.bipush 64, 2) := by decide +kernel
theorem dX5_layWays_88 : decode cX5_layWays 88 = .ok (.iload_n 2, 1) := by decide +kernel
theorem dX5_layWays_89 : decode cX5_layWays 89 = .ok (.imul, 1) := by decide +kernel
theorem dX5_layWays_90 : decode cX5_layWays 90 = .ok (.iload_n 3, 1) := by decide +kernel
theorem dX5_layWays_91 : decode cX5_layWays 91 = .ok (.iadd, 1) := by decide +kernel
theorem dX5_layWays_92 : decode cX5_layWays 92 = .ok (.iaload, 1) := by decide +kernel
theorem dX5_layWays_93 : decode cX5_layWays 93 = .ok (.ifCond .le 79, 3) := by decide +kernel
theorem dX5_layWays_96 : decode cX5_layWays 96 = .ok (.aload_n 0, 1) := by decide +kernel
theorem dX5_layWays_97 : decode cX5_layWays 97 = .ok (.iload 4, 2) := by decide +kernel
theorem dX5_layWays_99 : decode cX5_layWays 99 = .ok (.iload_n 3, 1) := by decide +kernel
theorem dX5_layWays_100 : decode cX5_layWays 100 = .ok (.invokevirtual 124, 3) := by decide +kernel
theorem dX5_layWays_103 : decode cX5_layWays 103 = .ok (.ifCond .eq 63, 3) := by decide +kernel
theorem dX5_layWays_106 : decode cX5_layWays 106 = .ok (.iload_n 3, 1) := by decide +kernel
theorem dX5_layWays_107 : decode cX5_layWays 107 = .ok (.bipush 8, 2) := by decide +kernel
theorem dX5_layWays_109 : decode cX5_layWays 109 = .ok (.idiv, 1) := by decide +kernel
theorem dX5_layWays_110 : decode cX5_layWays 110 = .ok (.iload 4, 2) := by decide +kernel
theorem dX5_layWays_112 : decode cX5_layWays 112 = .ok (.if_icmp .eq 54, 3) := by decide +kernel
theorem dX5_layWays_115 : decode cX5_layWays 115 = .ok (.aload_n 0, 1) := by decide +kernel
theorem dX5_layWays_116 : decode cX5_layWays 116 = .ok (.iload_n 2, 1) := by decide +kernel
theorem dX5_layWays_117 : decode cX5_layWays 117 = .ok (.iconst 1, 1) := by decide +kernel
theorem dX5_layWays_118 : decode cX5_layWays 118 = .ok (.iadd, 1) := by decide +kernel
theorem dX5_layWays_119 : decode cX5_layWays 119 = .ok (.aload_n 0, 1) := by decide +kernel
theorem dX5_layWays_120 : decode cX5_layWays 120 = .ok (.iload 4, 2) := by decide +kernel
theorem dX5_layWays_122 : decode cX5_layWays 122 = .ok (.iload_n 3, 1) := by decide +kernel
theorem dX5_layWays_123 : decode cX5_layWays 123 = .ok (.invokevirtual 134, 3) := by decide +kernel
theorem dX5_layWays_126 : decode cX5_layWays 126 = .ok (.invokevirtual 186, 3) := by decide +kernel
theorem dX5_layWays_129 : decode cX5_layWays 129 = .ok (.ifCond .eq 37, 3) := by decide +kernel
theorem dX5_layWays_132 : decode cX5_layWays 132 = .ok (.aload_n 0, 1) := by decide +kernel
theorem dX5_layWays_133 : decode cX5_layWays 133 = .ok (.getfield 31, 3) := by decide +kernel
theorem dX5_layWays_136 : decode cX5_layWays 136 = .ok (.bipush 64, 2) := by decide +kernel
theorem dX5_layWays_138 : decode cX5_layWays 138 = .ok (.iload_n 2, 1) := by decide +kernel
theorem dX5_layWays_139 : decode cX5_layWays 139 = .ok (.imul, 1) := by decide +kernel
theorem dX5_layWays_140 : decode cX5_layWays 140 = .ok (.bipush 64, 2) := by decide +kernel
theorem dX5_layWays_142 : decode cX5_layWays 142 = .ok (.iadd, 1) := by decide +kernel
theorem dX5_layWays_143 : decode cX5_layWays 143 = .ok (.aload_n 0, 1) := by decide +kernel
theorem dX5_layWays_144 : decode cX5_layWays 144 = .ok (.iload 4, 2) := by decide +kernel
theorem dX5_layWays_146 : decode cX5_layWays 146 = .ok (.iload_n 3, 1) := by decide +kernel
theorem dX5_layWays_147 : decode cX5_layWays 147 = .ok (.invokevirtual 134, 3) := by decide +kernel
theorem dX5_layWays_150 : decode cX5_layWays 150 = .ok (.iadd, 1) := by decide +kernel
theorem dX5_layWays_151 : decode cX5_layWays 151 = .ok (.dup2, 1) := by decide +kernel
theorem dX5_layWays_152 : decode cX5_layWays 152 = .ok (.iaload, 1) := by decide +kernel
theorem dX5_layWays_153 : decode cX5_layWays 153 = .ok (.aload_n 0, 1) := by decide +kernel
theorem dX5_layWays_154 : decode cX5_layWays 154 = .ok (.getfield 31, 3) := by decide +kernel
theorem dX5_layWays_157 : decode cX5_layWays 157 = .ok (.bipush 64, 2) := by decide +kernel
theorem dX5_layWays_159 : decode cX5_layWays 159 = .ok (.iload_n 2, 1) := by decide +kernel
theorem dX5_layWays_160 : decode cX5_layWays 160 = .ok (.imul, 1) := by decide +kernel
theorem dX5_layWays_161 : decode cX5_layWays 161 = .ok (.iload_n 3, 1) := by decide +kernel
theorem dX5_layWays_162 : decode cX5_layWays 162 = .ok (.iadd, 1) := by decide +kernel
theorem dX5_layWays_163 : decode cX5_layWays 163 = .ok (.iaload, 1) := by decide +kernel
theorem dX5_layWays_164 : decode cX5_layWays 164 = .ok (.iadd, 1) := by decide +kernel
theorem dX5_layWays_165 : decode cX5_layWays 165 = .ok (.iastore, 1) := by decide +kernel
theorem dX5_layWays_166 : decode cX5_layWays 166 = .ok (.iinc 4 1, 3) := by decide +kernel
theorem dX5_layWays_169 : decode cX5_layWays 169 = .ok (.goto (-96), 3) := by decide +kernel
theorem dX5_layWays_172 : decode cX5_layWays 172 = .ok (.iinc 3 1, 3) := by decide +kernel
theorem dX5_layWays_175 : decode cX5_layWays 175 = .ok (.goto (-111), 3) := by decide +kernel
theorem dX5_layWays_178 : decode cX5_layWays 178 = .ok (.iinc 2 1, 3) := by decide +kernel
theorem dX5_layWays_181 : decode cX5_layWays 181 = .ok (.goto (-124), 3) := by decide +kernel
theorem dX5_layWays_184 : decode cX5_layWays 184 = .ok (.iconst 0, 1) := by decide +kernel
theorem dX5_layWays_185 : decode cX5_layWays 185 = .ok (.istore_n 2, 1) := by decide +kernel
theorem dX5_layWays_186 : decode cX5_layWays 186 = .ok (.iload_n 2, 1) := by decide +kernel
theorem dX5_layWays_187 : decode cX5_layWays 187 = .ok (.bipush 64, 2) := by decide +kernel
theorem dX5_layWays_189 : decode cX5_layWays 189 = .ok (.if_icmp .ge 21, 3) := by decide +kernel
theorem dX5_layWays_192 : decode cX5_layWays 192 = .ok (.aload_n 0, 1) := by decide +kernel
theorem dX5_layWays_193 : decode cX5_layWays 193 = .ok (.getfield 34, 3) := by decide +kernel
theorem dX5_layWays_196 : decode cX5_layWays 196 = .ok (.bipush 64, 2) := by decide +kernel
theorem dX5_layWays_198 : decode cX5_layWays 198 = .ok (.iload_n 1, 1) := by decide +kernel
theorem dX5_layWays_199 : decode cX5_layWays 199 = .ok (.imul, 1) := by decide +kernel
theorem dX5_layWays_200 : decode cX5_layWays 200 = .ok (.iload_n 2, 1) := by decide +kernel
theorem dX5_layWays_201 : decode cX5_layWays 201 = .ok (.iadd, 1) := by decide +kernel
theorem dX5_layWays_202 : decode cX5_layWays 202 = .ok (.iconst 1, 1) := by decide +kernel
theorem dX5_layWays_203 : decode cX5_layWays 203 = .ok (.iastore, 1) := by decide +kernel
theorem dX5_layWays_204 : decode cX5_layWays 204 = .ok (.iinc 2 1, 3) := by decide +kernel
theorem dX5_layWays_207 : decode cX5_layWays 207 = .ok (.goto (-21), 3) := by decide +kernel
theorem dX5_layWays_210 : decode cX5_layWays 210 = .ok (.iload_n 1, 1) := by decide +kernel
theorem dX5_layWays_211 : decode cX5_layWays 211 = .ok (.iconst 1, 1) := by decide +kernel
theorem dX5_layWays_212 : decode cX5_layWays 212 = .ok (.isub, 1) := by decide +kernel
theorem dX5_layWays_213 : decode cX5_layWays 213 = .ok (.istore_n 2, 1) := by decide +kernel
theorem dX5_layWays_214 : decode cX5_layWays 214 = .ok (.iload_n 2, 1) := by decide +kernel
theorem dX5_layWays_215 : decode cX5_layWays 215 = .ok (.ifCond .lt 111, 3) := by decide +kernel
theorem dX5_layWays_218 : decode cX5_layWays 218 = .ok (.iconst 0, 1) := by decide +kernel
theorem dX5_layWays_219 : decode cX5_layWays 219 = .ok (.istore_n 3, 1) := by decide +kernel
theorem dX5_layWays_220 : decode cX5_layWays 220 = .ok (.iload_n 3, 1) := by decide +kernel
theorem dX5_layWays_221 : decode cX5_layWays 221 = .ok (.bipush 64, 2) := by decide +kernel
theorem dX5_layWays_223 : decode cX5_layWays 223 = .ok (.if_icmp .ge 97, 3) := by decide +kernel
theorem dX5_layWays_226 : decode cX5_layWays 226 = .ok (.iconst 0, 1) := by decide +kernel
theorem dX5_layWays_227 : decode cX5_layWays 227 = .ok (.istore 4, 2) := by decide +kernel
theorem dX5_layWays_229 : decode cX5_layWays 229 = .ok (.iload 4, 2) := by decide +kernel
theorem dX5_layWays_231 : decode cX5_layWays 231 = .ok (.aload_n 0, 1) := by decide +kernel
theorem dX5_layWays_232 : decode cX5_layWays 232 = .ok (.getfield 94, 3) := by decide +kernel
theorem dX5_layWays_235 : decode cX5_layWays 235 = .ok (.if_icmp .ge 79, 3) := by decide +kernel
theorem dX5_layWays_238 : decode cX5_layWays 238 = .ok (.aload_n 0, 1) := by decide +kernel
theorem dX5_layWays_239 : decode cX5_layWays 239 = .ok (.iload 4, 2) := by decide +kernel
theorem dX5_layWays_241 : decode cX5_layWays 241 = .ok (.iload_n 3, 1) := by decide +kernel
theorem dX5_layWays_242 : decode cX5_layWays 242 = .ok (.invokevirtual 124, 3) := by decide +kernel
theorem dX5_layWays_245 : decode cX5_layWays 245 = .ok (.ifCond .eq 63, 3) := by decide +kernel
theorem dX5_layWays_248 : decode cX5_layWays 248 = .ok (.iload_n 3, 1) := by decide +kernel
theorem dX5_layWays_249 : decode cX5_layWays 249 = .ok (.bipush 8, 2) := by decide +kernel
theorem dX5_layWays_251 : decode cX5_layWays 251 = .ok (.idiv, 1) := by decide +kernel
theorem dX5_layWays_252 : decode cX5_layWays 252 = .ok (.iload 4, 2) := by decide +kernel
theorem dX5_layWays_254 : decode cX5_layWays 254 = .ok (.if_icmp .eq 54, 3) := by decide +kernel
theorem dX5_layWays_257 : decode cX5_layWays 257 = .ok (.aload_n 0, 1) := by decide +kernel
theorem dX5_layWays_258 : decode cX5_layWays 258 = .ok (.iload_n 2, 1) := by decide +kernel
theorem dX5_layWays_259 : decode cX5_layWays 259 = .ok (.iconst 1, 1) := by decide +kernel
theorem dX5_layWays_260 : decode cX5_layWays 260 = .ok (.iadd, 1) := by decide +kernel
theorem dX5_layWays_261 : decode cX5_layWays 261 = .ok (.aload_n 0, 1) := by decide +kernel
theorem dX5_layWays_262 : decode cX5_layWays 262 = .ok (.iload 4, 2) := by decide +kernel
theorem dX5_layWays_264 : decode cX5_layWays 264 = .ok (.iload_n 3, 1) := by decide +kernel
theorem dX5_layWays_265 : decode cX5_layWays 265 = .ok (.invokevirtual 134, 3) := by decide +kernel
theorem dX5_layWays_268 : decode cX5_layWays 268 = .ok (.invokevirtual 186, 3) := by decide +kernel
theorem dX5_layWays_271 : decode cX5_layWays 271 = .ok (.ifCond .eq 37, 3) := by decide +kernel
theorem dX5_layWays_274 : decode cX5_layWays 274 = .ok (.aload_n 0, 1) := by decide +kernel
theorem dX5_layWays_275 : decode cX5_layWays 275 = .ok (.getfield 34, 3) := by decide +kernel
theorem dX5_layWays_278 : decode cX5_layWays 278 = .ok (.bipush 64, 2) := by decide +kernel
theorem dX5_layWays_280 : decode cX5_layWays 280 = .ok (.iload_n 2, 1) := by decide +kernel
theorem dX5_layWays_281 : decode cX5_layWays 281 = .ok (.imul, 1) := by decide +kernel
theorem dX5_layWays_282 : decode cX5_layWays 282 = .ok (.iload_n 3, 1) := by decide +kernel
theorem dX5_layWays_283 : decode cX5_layWays 283 = .ok (.iadd, 1) := by decide +kernel
theorem dX5_layWays_284 : decode cX5_layWays 284 = .ok (.dup2, 1) := by decide +kernel
theorem dX5_layWays_285 : decode cX5_layWays 285 = .ok (.iaload, 1) := by decide +kernel
theorem dX5_layWays_286 : decode cX5_layWays 286 = .ok (.aload_n 0, 1) := by decide +kernel
theorem dX5_layWays_287 : decode cX5_layWays 287 = .ok (.getfield 34, 3) := by decide +kernel
theorem dX5_layWays_290 : decode cX5_layWays 290 = .ok (.bipush 64, 2) := by decide +kernel
theorem dX5_layWays_292 : decode cX5_layWays 292 = .ok (.iload_n 2, 1) := by decide +kernel
theorem dX5_layWays_293 : decode cX5_layWays 293 = .ok (.imul, 1) := by decide +kernel
theorem dX5_layWays_294 : decode cX5_layWays 294 = .ok (.bipush 64, 2) := by decide +kernel
theorem dX5_layWays_296 : decode cX5_layWays 296 = .ok (.iadd, 1) := by decide +kernel
theorem dX5_layWays_297 : decode cX5_layWays 297 = .ok (.aload_n 0, 1) := by decide +kernel
theorem dX5_layWays_298 : decode cX5_layWays 298 = .ok (.iload 4, 2) := by decide +kernel
theorem dX5_layWays_300 : decode cX5_layWays 300 = .ok (.iload_n 3, 1) := by decide +kernel
theorem dX5_layWays_301 : decode cX5_layWays 301 = .ok (.invokevirtual 134, 3) := by decide +kernel
theorem dX5_layWays_304 : decode cX5_layWays 304 = .ok (.iadd, 1) := by decide +kernel
theorem dX5_layWays_305 : decode cX5_layWays 305 = .ok (.iaload, 1) := by decide +kernel
theorem dX5_layWays_306 : decode cX5_layWays 306 = .ok (.iadd, 1) := by decide +kernel
theorem dX5_layWays_307 : decode cX5_layWays 307 = .ok (.iastore, 1) := by decide +kernel
theorem dX5_layWays_308 : decode cX5_layWays 308 = .ok (.iinc 4 1, 3) := by decide +kernel
theorem dX5_layWays_311 : decode cX5_layWays 311 = .ok (.goto (-82), 3) := by decide +kernel
theorem dX5_layWays_314 : decode cX5_layWays 314 = .ok (.iinc 3 1, 3) := by decide +kernel
theorem dX5_layWays_317 : decode cX5_layWays 317 = .ok (.goto (-97), 3) := by decide +kernel
theorem dX5_layWays_320 : decode cX5_layWays 320 = .ok (.iinc 2 (-1), 3) := by decide +kernel
theorem dX5_layWays_323 : decode cX5_layWays 323 = .ok (.goto (-109), 3) := by decide +kernel
theorem dX5_layWays_326 : decode cX5_layWays 326 = .ok (.return_, 1) := by decide +kernel
set_option maxRecDepth 20000 in
theorem ggX5_rowsOf_X5_layWays : GoodIn wsX5_rowsOf wsX5_layWays := goodIn_r _ [6, 1, 7, 8, 9, 10, 11, 12, 5, 13, 14, 15, 16, 17, 18, 19, 20, 21, 22, 23, 24, 25, 26, 27, 28, 29, 30, 31, 32, 33, 34, 35, 36, 37, 38, 39, 40, 41, 42, 43, 44, 45, 46, 47, 48, 49, 50, 51, 52, 53, 54, 55, 56, 57, 58, 59, 60] (by decide +kernel) (by decide +kernel)
set_option maxRecDepth 20000 in
theorem gX5_rowsOf_X5_layWays : GoodIn wsX5_rowsOf (wsV RX5 189 RX5 yX5_layWays wsX5_layWays) := goodIn_app (goodIn_of _ (by decide +kernel)) ggX5_rowsOf_X5_layWays
theorem dX5_rowsOf_0 : decode cX5_rowsOf 0 = .ok (.aload_n 0, 1) := by decide +kernel
theorem dX5_rowsOf_1 : decode cX5_rowsOf 1 = .ok (.iload_n 1, 1) := by decide +kernel
theorem dX5_rowsOf_2 : decode cX5_rowsOf 2 = .ok (.invokevirtual 189, 3) := by decide +kernel
theorem dX5_rowsOf_5 : decode cX5_rowsOf 5 = .ok (.iconst 0, 1) := by decide +kernel
theorem dX5_rowsOf_6 : decode cX5_rowsOf 6 = .ok (.istore_n 3, 1) := by decide +kernel
theorem dX5_rowsOf_7 : decode cX5_rowsOf 7 = .ok (.iconst 0, 1) := by decide +kernel
theorem dX5_rowsOf_8 : decode cX5_rowsOf 8 = .ok (.istore 4, 2) := by decide +kernel
theorem dX5_rowsOf_10 : decode cX5_rowsOf 10 = .ok (.iconst 0, 1) := by decide +kernel
theorem dX5_rowsOf_11 : decode cX5_rowsOf 11 = .ok (.istore 5, 2) := by decide +kernel
theorem dX5_rowsOf_13 : decode cX5_rowsOf 13 = .ok (.iload 5, 2) := by decide +kernel
theorem dX5_rowsOf_15 : decode cX5_rowsOf 15 = .ok (.bipush 64, 2) := by decide +kernel
theorem dX5_rowsOf_17 : decode cX5_rowsOf 17 = .ok (.if_icmp .ge 68, 3) := by decide +kernel
theorem dX5_rowsOf_20 : decode cX5_rowsOf 20 = .ok (.aload_n 0, 1) := by decide +kernel
theorem dX5_rowsOf_21 : decode cX5_rowsOf 21 = .ok (.getfield 31, 3) := by decide +kernel
theorem dX5_rowsOf_24 : decode cX5_rowsOf 24 = .ok (.bipush 64, 2) := by decide +kernel
theorem dX5_rowsOf_26 : decode cX5_rowsOf 26 = .ok (.iload_n 1, 1) := by decide +kernel
theorem dX5_rowsOf_27 : decode cX5_rowsOf 27 = .ok (.imul, 1) := by decide +kernel
theorem dX5_rowsOf_28 : decode cX5_rowsOf 28 = .ok (.iload 5, 2) := by decide +kernel
theorem dX5_rowsOf_30 : decode cX5_rowsOf 30 = .ok (.iadd, 1) := by decide +kernel
theorem dX5_rowsOf_31 : decode cX5_rowsOf 31 = .ok (.iaload, 1) := by decide +kernel
theorem dX5_rowsOf_32 : decode cX5_rowsOf 32 = .ok (.istore 6, 2) := by decide +kernel
theorem dX5_rowsOf_34 : decode cX5_rowsOf 34 = .ok (.iload 5, 2) := by decide +kernel
theorem dX5_rowsOf_36 : decode cX5_rowsOf 36 = .ok (.bipush 8, 2) := by decide +kernel
theorem dX5_rowsOf_38 : decode cX5_rowsOf 38 = .ok (.idiv, 1) := by decide +kernel
theorem dX5_rowsOf_39 : decode cX5_rowsOf 39 = .ok (.bipush 7, 2) := by decide +kernel
theorem dX5_rowsOf_41 : decode cX5_rowsOf 41 = .ok (.if_icmp .ne 8, 3) := by decide +kernel
theorem dX5_rowsOf_44 : decode cX5_rowsOf 44 = .ok (.bipush 6, 2) := by decide +kernel
theorem dX5_rowsOf_46 : decode cX5_rowsOf 46 = .ok (.goto 8, 3) := by decide +kernel
theorem dX5_rowsOf_49 : decode cX5_rowsOf 49 = .ok (.iload 5, 2) := by decide +kernel
theorem dX5_rowsOf_51 : decode cX5_rowsOf 51 = .ok (.bipush 8, 2) := by decide +kernel
theorem dX5_rowsOf_53 : decode cX5_rowsOf 53 = .ok (.idiv, 1) := by decide +kernel
theorem dX5_rowsOf_54 : decode cX5_rowsOf 54 = .ok (.istore 7, 2) := by decide +kernel
theorem dX5_rowsOf_56 : decode cX5_rowsOf 56 = .ok (.iload_n 3, 1) := by decide +kernel
theorem dX5_rowsOf_57 : decode cX5_rowsOf 57 = .ok (.iload 6, 2) := by decide +kernel
theorem dX5_rowsOf_59 : decode cX5_rowsOf 59 = .ok (.iadd, 1) := by decide +kernel
theorem dX5_rowsOf_60 : decode cX5_rowsOf 60 = .ok (.istore_n 3, 1) := by decide +kernel
theorem dX5_rowsOf_61 : decode cX5_rowsOf 61 = .ok (.iload 4, 2) := by decide +kernel
theorem dX5_rowsOf_63 : decode cX5_rowsOf 63 = .ok (.iload 6, 2) := by decide +kernel
theorem dX5_rowsOf_65 : decode cX5_rowsOf 65 = .ok (.ifCond .le 10, 3) := by decide +kernel
theorem dX5_rowsOf_68 : decode cX5_rowsOf 68 = .ok (.iconst 1, 1) := by decide +kernel
theorem dX5_rowsOf_69 : decode cX5_rowsOf 69 = .ok (.iload 7, 2) := by decide +kernel
theorem dX5_rowsOf_71 : decode cX5_rowsOf 71 = .ok (.ishl, 1) := by decide +kernel
theorem dX5_rowsOf_72 : decode cX5_rowsOf 72 = .ok (.goto 4, 3) := by decide +kernel
theorem dX5_rowsOf_75 : decode cX5_rowsOf 75 = .ok (.iconst 0, 1) := by decide +kernel
theorem dX5_rowsOf_76 : decode cX5_rowsOf 76 = .ok (.ior, 1) := by decide +kernel
theorem dX5_rowsOf_77 : decode cX5_rowsOf 77 = .ok (.istore 4, 2) := by decide +kernel
theorem dX5_rowsOf_79 : decode cX5_rowsOf 79 = .ok (.iinc 5 1, 3) := by decide +kernel
theorem dX5_rowsOf_82 : decode cX5_rowsOf 82 = .ok (.goto (-69), 3) := by decide +kernel
theorem dX5_rowsOf_85 : decode cX5_rowsOf 85 = .ok (.iload_n 2, 1) := by decide +kernel
theorem dX5_rowsOf_86 : decode cX5_rowsOf 86 = .ok (.ifCond .ne 7, 3) := by decide +kernel
theorem dX5_rowsOf_89 : decode cX5_rowsOf 89 = .ok (.iload_n 3, 1) := by decide +kernel
theorem dX5_rowsOf_90 : decode cX5_rowsOf 90 = .ok (.goto 5, 3) := by decide +kernel
theorem dX5_rowsOf_93 : decode cX5_rowsOf 93 = .ok (.iload 4, 2) := by decide +kernel
theorem dX5_rowsOf_95 : decode cX5_rowsOf 95 = .ok (.ireturn, 1) := by decide +kernel
set_option maxRecDepth 20000 in
theorem ggX5_rows_X5_in : GoodIn wsX5_rows wsX5_in := goodIn_r _ [5] (by decide +kernel) (by decide +kernel)
set_option maxRecDepth 20000 in
theorem gX5_rows_X5_in : GoodIn wsX5_rows (va_wsS RX5 64 yX5_in wsX5_in) := goodIn_app (goodIn_of _ (by decide +kernel)) ggX5_rows_X5_in
set_option maxRecDepth 20000 in
theorem ggX5_rows_X5_lacks : GoodIn wsX5_rows wsX5_lacks := goodIn_r _ [9, 10, 38, 39, 40, 41, 42, 43, 44, 45, 46, 47, 48, 49, 50, 51, 52, 53, 54, 55, 56, 57, 58, 59, 60, 61, 62, 63, 64, 65, 66, 67, 68, 69, 70, 71, 72] (by decide +kernel) (by decide +kernel)
set_option maxRecDepth 20000 in
theorem gX5_rows_X5_lacks : GoodIn wsX5_rows (wsV RX5 141 RX5 yX5_lacks wsX5_lacks) := goodIn_app (goodIn_of _ (by decide +kernel)) ggX5_rows_X5_lacks
set_option maxRecDepth 20000 in
theorem ggX5_rows_X5_rowsOf : GoodIn wsX5_rows wsX5_rowsOf := goodIn_r _ [14, 15, 16, 17, 18, 4, 19, 20, 21, 10, 22, 23, 24, 25, 26, 27, 28, 29, 30, 31, 32, 33, 34, 35, 36, 37, 38, 39, 40, 41, 42, 43, 44, 45, 46, 47, 48, 49, 50, 51, 52, 53, 54, 55, 56, 57, 58, 59, 60, 61, 62, 63, 64, 65, 66, 67, 68, 69, 70, 71, 72] (by decide +kernel) (by decide +kernel)
set_option maxRecDepth 20000 in
theorem gX5_rows_X5_rowsOf : GoodIn wsX5_rows (wsV RX5 192 RX5 yX5_rowsOf wsX5_rowsOf) := goodIn_app (goodIn_of _ (by decide +kernel)) ggX5_rows_X5_rowsOf
theorem dX5_rows_0 : decode cX5_rows 0 = .ok (.iload_n 1, 1) := by decide +kernel
theorem dX5_rows_1 : decode cX5_rows 1 = .ok (.i2l, 1) := by decide +kernel
theorem dX5_rows_2 : decode cX5_rows 2 = .ok (.lconst 0, 1) := by decide +kernel
theorem dX5_rows_3 : decode cX5_rows 3 = .ok (.ldc2_w 179, 3) := by decide +kernel
theorem dX5_rows_6 : decode cX5_rows 6 = .ok (.invokestatic 64, 3) := by decide +kernel
theorem dX5_rows_9 : decode cX5_rows 9 = .ok (.ifCond .eq 13, 3) := by decide +kernel
theorem dX5_rows_12 : decode cX5_rows 12 = .ok (.iload_n 2, 1) := by decide +kernel
theorem dX5_rows_13 : decode cX5_rows 13 = .ok (.i2l, 1) := by decide +kernel
theorem dX5_rows_14 : decode cX5_rows 14 = .ok (.lconst 0, 1) := by decide +kernel
theorem dX5_rows_15 : decode cX5_rows 15 = .ok (.lconst 1, 1) := by decide +kernel
theorem dX5_rows_16 : decode cX5_rows 16 = .ok (.invokestatic 64, 3) := by decide +kernel
theorem dX5_rows_19 : decode cX5_rows 19 = .ok (.ifCond .ne 6, 3) := by decide +kernel
theorem dX5_rows_22 : decode cX5_rows 22 = .ok (.bipush (-102), 2) := by decide +kernel
theorem dX5_rows_24 : decode cX5_rows 24 = .ok (.ireturn, 1) := by decide +kernel
theorem dX5_rows_25 : decode cX5_rows 25 = .ok (.aload_n 0, 1) := by decide +kernel
theorem dX5_rows_26 : decode cX5_rows 26 = .ok (.invokevirtual 141, 3) := by decide +kernel
theorem dX5_rows_29 : decode cX5_rows 29 = .ok (.ifCond .eq 8, 3) := by decide +kernel
theorem dX5_rows_32 : decode cX5_rows 32 = .ok (.bipush (-103), 2) := by decide +kernel
theorem dX5_rows_34 : decode cX5_rows 34 = .ok (.goto 9, 3) := by decide +kernel
theorem dX5_rows_37 : decode cX5_rows 37 = .ok (.aload_n 0, 1) := by decide +kernel
theorem dX5_rows_38 : decode cX5_rows 38 = .ok (.iload_n 1, 1) := by decide +kernel
theorem dX5_rows_39 : decode cX5_rows 39 = .ok (.iload_n 2, 1) := by decide +kernel
theorem dX5_rows_40 : decode cX5_rows 40 = .ok (.invokevirtual 192, 3) := by decide +kernel
theorem dX5_rows_43 : decode cX5_rows 43 = .ok (.ireturn, 1) := by decide +kernel
set_option maxRecDepth 20000 in
theorem ggX5_whenOf_X5_layWays : GoodIn wsX5_whenOf wsX5_layWays := goodIn_r _ [8, 2, 3, 9, 10, 11, 12, 13, 7, 14, 15, 16, 17, 18, 19, 20, 21, 22, 23, 24, 25, 26, 27, 28, 29, 30, 31, 32, 33, 34, 35, 36, 37, 38, 39, 40, 41, 42, 43, 44, 45, 46, 47, 48, 49, 50, 51, 52, 53, 54, 55, 56, 57, 58, 59, 60, 61] (by decide +kernel) (by decide +kernel)
set_option maxRecDepth 20000 in
theorem gX5_whenOf_X5_layWays : GoodIn wsX5_whenOf (wsV RX5 189 RX5 yX5_layWays wsX5_layWays) := goodIn_app (goodIn_of _ (by decide +kernel)) ggX5_whenOf_X5_layWays
theorem dX5_whenOf_0 : decode cX5_whenOf 0 = .ok (.aload_n 0, 1) := by decide +kernel
theorem dX5_whenOf_1 : decode cX5_whenOf 1 = .ok (.bipush 6, 2) := by decide +kernel
theorem dX5_whenOf_3 : decode cX5_whenOf 3 = .ok (.invokevirtual 189, 3) := by decide +kernel
theorem dX5_whenOf_6 : decode cX5_whenOf 6 = .ok (.iconst (-1), 1) := by decide +kernel
theorem dX5_whenOf_7 : decode cX5_whenOf 7 = .ok (.istore_n 1, 1) := by decide +kernel
theorem dX5_whenOf_8 : decode cX5_whenOf 8 = .ok (.iconst (-1), 1) := by decide +kernel
theorem dX5_whenOf_9 : decode cX5_whenOf 9 = .ok (.istore_n 2, 1) := by decide +kernel
theorem dX5_whenOf_10 : decode cX5_whenOf 10 = .ok (.iconst 1, 1) := by decide +kernel
theorem dX5_whenOf_11 : decode cX5_whenOf 11 = .ok (.istore_n 3, 1) := by decide +kernel
theorem dX5_whenOf_12 : decode cX5_whenOf 12 = .ok (.iload_n 3, 1) := by decide +kernel
theorem dX5_whenOf_13 : decode cX5_whenOf 13 = .ok (.bipush 7, 2) := by decide +kernel
theorem dX5_whenOf_15 : decode cX5_whenOf 15 = .ok (.if_icmp .ge 178, 3) := by decide +kernel
theorem dX5_whenOf_18 : decode cX5_whenOf 18 = .ok (.iconst 0, 1) := by decide +kernel
theorem dX5_whenOf_19 : decode cX5_whenOf 19 = .ok (.istore 4, 2) := by decide +kernel
theorem dX5_whenOf_21 : decode cX5_whenOf 21 = .ok (.iload 4, 2) := by decide +kernel
theorem dX5_whenOf_23 : decode cX5_whenOf 23 = .ok (.bipush 8, 2) := by decide +kernel
theorem dX5_whenOf_25 : decode cX5_whenOf 25 = .ok (.if_icmp .ge 17, 3) := by decide +kernel
theorem dX5_whenOf_28 : decode cX5_whenOf 28 = .ok (.aload_n 0, 1) := by decide +kernel
theorem dX5_whenOf_29 : decode cX5_whenOf 29 = .ok (.getfield 37, 3) := by decide +kernel
theorem dX5_whenOf_32 : decode cX5_whenOf 32 = .ok (.iload 4, 2) := by decide +kernel
theorem dX5_whenOf_34 : decode cX5_whenOf 34 = .ok (.iconst 0, 1) := by decide +kernel
theorem dX5_whenOf_35 : decode cX5_whenOf 35 = .ok (.iastore, 1) := by decide +kernel
theorem dX5_whenOf_36 : decode cX5_whenOf 36 = .ok (.iinc 4 1, 3) := by decide +kernel
theorem dX5_whenOf_39 : decode cX5_whenOf 39 = .ok (.goto (-18), 3) := by decide +kernel
theorem dX5_whenOf_42 : decode cX5_whenOf 42 = .ok (.iconst 0, 1) := by decide +kernel
theorem dX5_whenOf_43 : decode cX5_whenOf 43 = .ok (.istore 4, 2) := by decide +kernel
theorem dX5_whenOf_45 : decode cX5_whenOf 45 = .ok (.iload 4, 2) := by decide +kernel
theorem dX5_whenOf_47 : decode cX5_whenOf 47 = .ok (.bipush 64, 2) := by decide +kernel
theorem dX5_whenOf_49 : decode cX5_whenOf 49 = .ok (.if_icmp .ge 47, 3) := by decide +kernel
theorem dX5_whenOf_52 : decode cX5_whenOf 52 = .ok (.aload_n 0, 1) := by decide +kernel
theorem dX5_whenOf_53 : decode cX5_whenOf 53 = .ok (.getfield 37, 3) := by decide +kernel
theorem dX5_whenOf_56 : decode cX5_whenOf 56 = .ok (.iload 4, 2) := by decide +kernel
theorem dX5_whenOf_58 : decode cX5_whenOf 58 = .ok (.bipush 8, 2) := by decide +kernel
theorem dX5_whenOf_60 : decode cX5_whenOf 60 = .ok (.irem, 1) := by decide +kernel
theorem dX5_whenOf_61 : decode cX5_whenOf 61 = .ok (.dup2, 1) := by decide +kernel
theorem dX5_whenOf_62 : decode cX5_whenOf 62 = .ok (.iaload, 1) := by decide +kernel
theorem dX5_whenOf_63 : decode cX5_whenOf 63 = .ok (.aload_n 0, 1) := by decide +kernel
theorem dX5_whenOf_64 : decode cX5_whenOf 64 = .ok (.getfield 31, 3) := by decide +kernel
theorem dX5_whenOf_67 : decode cX5_whenOf 67 = .ok (.bipush 64, 2) := by decide +kernel
theorem dX5_whenOf_69 : decode cX5_whenOf 69 = .ok (.iload_n 3, 1) := by decide +kernel
theorem dX5_whenOf_70 : decode cX5_whenOf 70 = .ok (.imul, 1) := by decide +kernel
theorem dX5_whenOf_71 : decode cX5_whenOf 71 = .ok (.iload 4, 2) := by decide +kernel
theorem dX5_whenOf_73 : decode cX5_whenOf 73 = .ok (.iadd, 1) := by decide +kernel
theorem dX5_whenOf_74 : decode cX5_whenOf 74 = .ok (.iaload, 1) := by decide +kernel
theorem dX5_whenOf_75 : decode cX5_whenOf 75 = .ok (.aload_n 0, 1) := by decide +kernel
theorem dX5_whenOf_76 : decode cX5_whenOf 76 = .ok (.getfield 34, 3) := by decide +kernel
theorem dX5_whenOf_79 : decode cX5_whenOf 79 = .ok (.bipush 64, 2) := by decide +kernel
theorem dX5_whenOf_81 : decode cX5_whenOf 81 = .ok (.iload_n 3, 1) := by decide +kernel
theorem dX5_whenOf_82 : decode cX5_whenOf 82 = .ok (.imul, 1) := by decide +kernel
theorem dX5_whenOf_83 : decode cX5_whenOf 83 = .ok (.iload 4, 2) := by decide +kernel
theorem dX5_whenOf_85 : decode cX5_whenOf 85 = .ok (.iadd, 1) := by decide +kernel
theorem dX5_whenOf_86 : decode cX5_whenOf 86 = .ok (.iaload, 1) := by decide +kernel
theorem dX5_whenOf_87 : decode cX5_whenOf 87 = .ok (.imul, 1) := by decide +kernel
theorem dX5_whenOf_88 : decode cX5_whenOf 88 = .ok (.iadd, 1) := by decide +kernel
theorem dX5_whenOf_89 : decode cX5_whenOf 89 = .ok (.iastore, 1) := by decide +kernel
theorem dX5_whenOf_90 : decode cX5_whenOf 90 = .ok (.iinc 4 1, 3) := by decide +kernel
theorem dX5_whenOf_93 : decode cX5_whenOf 93 = .ok (.goto (-48), 3) := by decide +kernel
theorem dX5_whenOf_96 : decode cX5_whenOf 96 = .ok (.iconst 0, 1) := by decide +kernel
theorem dX5_whenOf_97 : decode cX5_whenOf 97 = .ok (.istore 4, 2) := by decide +kernel
theorem dX5_whenOf_99 : decode cX5_whenOf 99 = .ok (.iconst 0, 1) := by decide +kernel
theorem dX5_whenOf_100 : decode cX5_whenOf 100 = .ok (.istore 5, 2) := by decide +kernel
theorem dX5_whenOf_102 : decode cX5_whenOf 102 = .ok (.iload 5, 2) := by decide +kernel
theorem dX5_whenOf_104 : decode cX5_whenOf 104 = .ok (.bipush 8, 2) := by decide +kernel
theorem dX5_whenOf_106 : decode cX5_whenOf 106 = .ok (.if_icmp .ge 35, 3) := by decide +kernel
theorem dX5_whenOf_109 : decode cX5_whenOf 109 = .ok (.aload_n 0, 1) := by decide +kernel
theorem dX5_whenOf_110 : decode cX5_whenOf 110 = .ok (.getfield 37, 3) := by decide +kernel
theorem dX5_whenOf_113 : decode cX5_whenOf 113 = .ok (.iload 5, 2) := by decide +kernel
theorem dX5_whenOf_115 : decode cX5_whenOf 115 = .ok (.iaload, 1) := by decide +kernel
theorem dX5_whenOf_116 : decode cX5_whenOf 116 = .ok (.iload 4, 2) := by decide +kernel
theorem dX5_whenOf_118 : decode cX5_whenOf 118 = .ok (.if_icmp .le 13, 3) := by decide +kernel
theorem dX5_whenOf_121 : decode cX5_whenOf 121 = .ok (.aload_n 0, 1) := by decide +kernel
theorem dX5_whenOf_122 : decode cX5_whenOf 122 = .ok (.getfield 37, 3) := by decide +kernel
theorem dX5_whenOf_125 : decode cX5_whenOf 125 = .ok (.iload 5, 2) := by decide +kernel
theorem dX5_whenOf_127 : decode cX5_whenOf 127 = .ok (.iaload, 1) := by decide +kernel
theorem dX5_whenOf_128 : decode cX5_whenOf 128 = .ok (.goto 5, 3) := by decide +kernel
theorem dX5_whenOf_131 : decode cX5_whenOf 131 = .ok (.iload 4, 2) := by decide +kernel
theorem dX5_whenOf_133 : decode cX5_whenOf 133 = .ok (.istore 4, 2) := by decide +kernel
theorem dX5_whenOf_135 : decode cX5_whenOf 135 = .ok (.iinc 5 1, 3) := by decide +kernel
theorem dX5_whenOf_138 : decode cX5_whenOf 138 = .ok (.goto (-36), 3) := by decide +kernel
theorem dX5_whenOf_141 : decode cX5_whenOf 141 = .ok (.iload 4, 2) := by decide +kernel
theorem dX5_whenOf_143 : decode cX5_whenOf 143 = .ok (.ifCond .le 18, 3) := by decide +kernel
theorem dX5_whenOf_146 : decode cX5_whenOf 146 = .ok (.iload_n 1, 1) := by decide +kernel
theorem dX5_whenOf_147 : decode cX5_whenOf 147 = .ok (.iconst (-1), 1) := by decide +kernel
theorem dX5_whenOf_148 : decode cX5_whenOf 148 = .ok (.if_icmp .eq 9, 3) := by decide +kernel
theorem dX5_whenOf_151 : decode cX5_whenOf 151 = .ok (.iload 4, 2) := by decide +kernel
theorem dX5_whenOf_153 : decode cX5_whenOf 153 = .ok (.iload_n 2, 1) := by decide +kernel
theorem dX5_whenOf_154 : decode cX5_whenOf 154 = .ok (.if_icmp .ge 7, 3) := by decide +kernel
theorem dX5_whenOf_157 : decode cX5_whenOf 157 = .ok (.iconst 1, 1) := by decide +kernel
theorem dX5_whenOf_158 : decode cX5_whenOf 158 = .ok (.goto 4, 3) := by decide +kernel
theorem dX5_whenOf_161 : decode cX5_whenOf 161 = .ok (.iconst 0, 1) := by decide +kernel
theorem dX5_whenOf_162 : decode cX5_whenOf 162 = .ok (.istore 5, 2) := by decide +kernel
theorem dX5_whenOf_164 : decode cX5_whenOf 164 = .ok (.iload 5, 2) := by decide +kernel
theorem dX5_whenOf_166 : decode cX5_whenOf 166 = .ok (.ifCond .eq 7, 3) := by decide +kernel
theorem dX5_whenOf_169 : decode cX5_whenOf 169 = .ok (.iload_n 3, 1) := by decide +kernel
theorem dX5_whenOf_170 : decode cX5_whenOf 170 = .ok (.goto 4, 3) := by decide +kernel
theorem dX5_whenOf_173 : decode cX5_whenOf 173 = .ok (.iload_n 1, 1) := by decide +kernel
theorem dX5_whenOf_174 : decode cX5_whenOf 174 = .ok (.istore_n 1, 1) := by decide +kernel
theorem dX5_whenOf_175 : decode cX5_whenOf 175 = .ok (.iload 5, 2) := by decide +kernel
theorem dX5_whenOf_177 : decode cX5_whenOf 177 = .ok (.ifCond .eq 8, 3) := by decide +kernel
theorem dX5_whenOf_180 : decode cX5_whenOf 180 = .ok (.iload 4, 2) := by decide +kernel
theorem dX5_whenOf_182 : decode cX5_whenOf 182 = .ok (.goto 4, 3) := by decide +kernel
theorem dX5_whenOf_185 : decode cX5_whenOf 185 = .ok (.iload_n 2, 1) := by decide +kernel
theorem dX5_whenOf_186 : decode cX5_whenOf 186 = .ok (.istore_n 2, 1) := by decide +kernel
theorem dX5_whenOf_187 : decode cX5_whenOf 187 = .ok (.iinc 3 1, 3) := by decide +kernel
theorem dX5_whenOf_190 : decode cX5_whenOf 190 = .ok (.goto (-178), 3) := by decide +kernel
theorem dX5_whenOf_193 : decode cX5_whenOf 193 = .ok (.iload_n 1, 1) := by decide +kernel
theorem dX5_whenOf_194 : decode cX5_whenOf 194 = .ok (.ireturn, 1) := by decide +kernel
set_option maxRecDepth 20000 in
theorem ggX5_when_X5_lacks : GoodIn wsX5_when wsX5_lacks := goodIn_r _ [5, 6, 35, 36, 37, 38, 39, 40, 41, 42, 43, 44, 45, 46, 47, 48, 49, 50, 51, 52, 53, 54, 55, 56, 57, 58, 59, 60, 61, 62, 63, 64, 65, 66, 67, 68, 69] (by decide +kernel) (by decide +kernel)
set_option maxRecDepth 20000 in
theorem gX5_when_X5_lacks : GoodIn wsX5_when (wsV RX5 141 RX5 yX5_lacks wsX5_lacks) := goodIn_app (goodIn_of _ (by decide +kernel)) ggX5_when_X5_lacks
set_option maxRecDepth 20000 in
theorem ggX5_when_X5_whenOf : GoodIn wsX5_when wsX5_whenOf := goodIn_r _ [10, 11, 12, 13, 14, 15, 16, 4, 17, 18, 6, 19, 20, 21, 22, 23, 24, 25, 26, 27, 28, 29, 30, 31, 32, 33, 34, 35, 36, 37, 38, 39, 40, 41, 42, 43, 44, 45, 46, 47, 48, 49, 50, 51, 52, 53, 54, 55, 56, 57, 58, 59, 60, 61, 62, 63, 64, 65, 66, 67, 68, 69] (by decide +kernel) (by decide +kernel)
set_option maxRecDepth 20000 in
theorem gX5_when_X5_whenOf : GoodIn wsX5_when (wsV RX5 195 RX5 yX5_whenOf wsX5_whenOf) := goodIn_app (goodIn_of _ (by decide +kernel)) ggX5_when_X5_whenOf
theorem dX5_when_0 : decode cX5_when 0 = .ok (.aload_n 0, 1) := by decide +kernel
theorem dX5_when_1 : decode cX5_when 1 = .ok (.invokevirtual 141, 3) := by decide +kernel
theorem dX5_when_4 : decode cX5_when 4 = .ok (.ifCond .eq 8, 3) := by decide +kernel
theorem dX5_when_7 : decode cX5_when 7 = .ok (.bipush (-103), 2) := by decide +kernel
theorem dX5_when_9 : decode cX5_when 9 = .ok (.goto 7, 3) := by decide +kernel
theorem dX5_when_12 : decode cX5_when 12 = .ok (.aload_n 0, 1) := by decide +kernel
theorem dX5_when_13 : decode cX5_when 13 = .ok (.invokevirtual 195, 3) := by decide +kernel
theorem dX5_when_16 : decode cX5_when 16 = .ok (.ireturn, 1) := by decide +kernel
theorem dX5_layAll_0 : decode cX5_layAll 0 = .ok (.aload_n 1, 1) := by decide +kernel
theorem dX5_layAll_1 : decode cX5_layAll 1 = .ok (.iconst 0, 1) := by decide +kernel
theorem dX5_layAll_2 : decode cX5_layAll 2 = .ok (.aload_n 0, 1) := by decide +kernel
theorem dX5_layAll_3 : decode cX5_layAll 3 = .ok (.getfield 59, 3) := by decide +kernel
theorem dX5_layAll_6 : decode cX5_layAll 6 = .ok (.iastore, 1) := by decide +kernel
theorem dX5_layAll_7 : decode cX5_layAll 7 = .ok (.aload_n 1, 1) := by decide +kernel
theorem dX5_layAll_8 : decode cX5_layAll 8 = .ok (.iconst 1, 1) := by decide +kernel
theorem dX5_layAll_9 : decode cX5_layAll 9 = .ok (.aload_n 0, 1) := by decide +kernel
theorem dX5_layAll_10 : decode cX5_layAll 10 = .ok (.getfield 100, 3) := by decide +kernel
theorem dX5_layAll_13 : decode cX5_layAll 13 = .ok (.iastore, 1) := by decide +kernel
theorem dX5_layAll_14 : decode cX5_layAll 14 = .ok (.aload_n 1, 1) := by decide +kernel
theorem dX5_layAll_15 : decode cX5_layAll 15 = .ok (.iconst 2, 1) := by decide +kernel
theorem dX5_layAll_16 : decode cX5_layAll 16 = .ok (.aload_n 0, 1) := by decide +kernel
theorem dX5_layAll_17 : decode cX5_layAll 17 = .ok (.getfield 103, 3) := by decide +kernel
theorem dX5_layAll_20 : decode cX5_layAll 20 = .ok (.iastore, 1) := by decide +kernel
theorem dX5_layAll_21 : decode cX5_layAll 21 = .ok (.aload_n 1, 1) := by decide +kernel
theorem dX5_layAll_22 : decode cX5_layAll 22 = .ok (.iconst 3, 1) := by decide +kernel
theorem dX5_layAll_23 : decode cX5_layAll 23 = .ok (.aload_n 0, 1) := by decide +kernel
theorem dX5_layAll_24 : decode cX5_layAll 24 = .ok (.getfield 106, 3) := by decide +kernel
theorem dX5_layAll_27 : decode cX5_layAll 27 = .ok (.iastore, 1) := by decide +kernel
theorem dX5_layAll_28 : decode cX5_layAll 28 = .ok (.aload_n 1, 1) := by decide +kernel
theorem dX5_layAll_29 : decode cX5_layAll 29 = .ok (.iconst 4, 1) := by decide +kernel
theorem dX5_layAll_30 : decode cX5_layAll 30 = .ok (.aload_n 0, 1) := by decide +kernel
theorem dX5_layAll_31 : decode cX5_layAll 31 = .ok (.getfield 109, 3) := by decide +kernel
theorem dX5_layAll_34 : decode cX5_layAll 34 = .ok (.iastore, 1) := by decide +kernel
theorem dX5_layAll_35 : decode cX5_layAll 35 = .ok (.aload_n 1, 1) := by decide +kernel
theorem dX5_layAll_36 : decode cX5_layAll 36 = .ok (.iconst 5, 1) := by decide +kernel
theorem dX5_layAll_37 : decode cX5_layAll 37 = .ok (.aload_n 0, 1) := by decide +kernel
theorem dX5_layAll_38 : decode cX5_layAll 38 = .ok (.getfield 112, 3) := by decide +kernel
theorem dX5_layAll_41 : decode cX5_layAll 41 = .ok (.iastore, 1) := by decide +kernel
theorem dX5_layAll_42 : decode cX5_layAll 42 = .ok (.aload_n 1, 1) := by decide +kernel
theorem dX5_layAll_43 : decode cX5_layAll 43 = .ok (.bipush 6, 2) := by decide +kernel
theorem dX5_layAll_45 : decode cX5_layAll 45 = .ok (.aload_n 0, 1) := by decide +kernel
theorem dX5_layAll_46 : decode cX5_layAll 46 = .ok (.getfield 115, 3) := by decide +kernel
theorem dX5_layAll_49 : decode cX5_layAll 49 = .ok (.iastore, 1) := by decide +kernel
theorem dX5_layAll_50 : decode cX5_layAll 50 = .ok (.return_, 1) := by decide +kernel
theorem dX5_layBack_0 : decode cX5_layBack 0 = .ok (.aload_n 0, 1) := by decide +kernel
theorem dX5_layBack_1 : decode cX5_layBack 1 = .ok (.aload_n 1, 1) := by decide +kernel
theorem dX5_layBack_2 : decode cX5_layBack 2 = .ok (.iconst 0, 1) := by decide +kernel
theorem dX5_layBack_3 : decode cX5_layBack 3 = .ok (.iaload, 1) := by decide +kernel
theorem dX5_layBack_4 : decode cX5_layBack 4 = .ok (.putfield 59, 3) := by decide +kernel
theorem dX5_layBack_7 : decode cX5_layBack 7 = .ok (.aload_n 0, 1) := by decide +kernel
theorem dX5_layBack_8 : decode cX5_layBack 8 = .ok (.aload_n 1, 1) := by decide +kernel
theorem dX5_layBack_9 : decode cX5_layBack 9 = .ok (.iconst 1, 1) := by decide +kernel
theorem dX5_layBack_10 : decode cX5_layBack 10 = .ok (.iaload, 1) := by decide +kernel
theorem dX5_layBack_11 : decode cX5_layBack 11 = .ok (.putfield 100, 3) := by decide +kernel
theorem dX5_layBack_14 : decode cX5_layBack 14 = .ok (.aload_n 0, 1) := by decide +kernel
theorem dX5_layBack_15 : decode cX5_layBack 15 = .ok (.aload_n 1, 1) := by decide +kernel
theorem dX5_layBack_16 : decode cX5_layBack 16 = .ok (.iconst 2, 1) := by decide +kernel
theorem dX5_layBack_17 : decode cX5_layBack 17 = .ok (.iaload, 1) := by decide +kernel
theorem dX5_layBack_18 : decode cX5_layBack 18 = .ok (.putfield 103, 3) := by decide +kernel
theorem dX5_layBack_21 : decode cX5_layBack 21 = .ok (.aload_n 0, 1) := by decide +kernel
theorem dX5_layBack_22 : decode cX5_layBack 22 = .ok (.aload_n 1, 1) := by decide +kernel
theorem dX5_layBack_23 : decode cX5_layBack 23 = .ok (.iconst 3, 1) := by decide +kernel
theorem dX5_layBack_24 : decode cX5_layBack 24 = .ok (.iaload, 1) := by decide +kernel
theorem dX5_layBack_25 : decode cX5_layBack 25 = .ok (.putfield 106, 3) := by decide +kernel
theorem dX5_layBack_28 : decode cX5_layBack 28 = .ok (.aload_n 0, 1) := by decide +kernel
theorem dX5_layBack_29 : decode cX5_layBack 29 = .ok (.aload_n 1, 1) := by decide +kernel
theorem dX5_layBack_30 : decode cX5_layBack 30 = .ok (.iconst 4, 1) := by decide +kernel
theorem dX5_layBack_31 : decode cX5_layBack 31 = .ok (.iaload, 1) := by decide +kernel
theorem dX5_layBack_32 : decode cX5_layBack 32 = .ok (.putfield 109, 3) := by decide +kernel
theorem dX5_layBack_35 : decode cX5_layBack 35 = .ok (.aload_n 0, 1) := by decide +kernel
theorem dX5_layBack_36 : decode cX5_layBack 36 = .ok (.aload_n 1, 1) := by decide +kernel
theorem dX5_layBack_37 : decode cX5_layBack 37 = .ok (.iconst 5, 1) := by decide +kernel
theorem dX5_layBack_38 : decode cX5_layBack 38 = .ok (.iaload, 1) := by decide +kernel
theorem dX5_layBack_39 : decode cX5_layBack 39 = .ok (.putfield 112, 3) := by decide +kernel
theorem dX5_layBack_42 : decode cX5_layBack 42 = .ok (.aload_n 0, 1) := by decide +kernel
theorem dX5_layBack_43 : decode cX5_layBack 43 = .ok (.aload_n 1, 1) := by decide +kernel
theorem dX5_layBack_44 : decode cX5_layBack 44 = .ok (.bipush 6, 2) := by decide +kernel
theorem dX5_layBack_46 : decode cX5_layBack 46 = .ok (.iaload, 1) := by decide +kernel
theorem dX5_layBack_47 : decode cX5_layBack 47 = .ok (.putfield 115, 3) := by decide +kernel
theorem dX5_layBack_50 : decode cX5_layBack 50 = .ok (.return_, 1) := by decide +kernel
set_option maxRecDepth 20000 in
theorem ggX5_image_X5_lacks : GoodIn wsX5_image wsX5_lacks := goodIn_r _ [15, 16, 30, 31, 32, 33, 34, 35, 36, 37, 38, 39, 40, 41, 42, 43, 44, 45, 46, 47, 48, 49, 50, 51, 52, 53, 54, 55, 56, 57, 58, 59, 60, 61, 62, 63, 64] (by decide +kernel) (by decide +kernel)
set_option maxRecDepth 20000 in
theorem gX5_image_X5_lacks : GoodIn wsX5_image (wsV RX5 141 RX5 yX5_lacks wsX5_lacks) := goodIn_app (goodIn_of _ (by decide +kernel)) ggX5_image_X5_lacks
set_option maxRecDepth 20000 in
theorem ggX5_image_X5_copy : GoodIn wsX5_image wsX5_copy := goodIn_r _ [19] (by decide +kernel) (by decide +kernel)
set_option maxRecDepth 20000 in
theorem gX5_image_X5_copy : GoodIn wsX5_image (va_wsS RX5 172 yX5_copy wsX5_copy) := goodIn_app (goodIn_of _ (by decide +kernel)) ggX5_image_X5_copy
set_option maxRecDepth 20000 in
theorem ggX5_image_X5_layAll : GoodIn wsX5_image wsX5_layAll := goodIn_r _ [23, 24, 25, 26, 27, 28, 29, 10, 30, 31, 32, 33, 34, 35, 36, 37, 38, 39, 40, 41, 42, 43, 44, 45, 46, 47, 48, 49, 50, 51, 52, 53, 54, 55, 56, 57, 58, 59, 60, 61, 62, 63, 64] (by decide +kernel) (by decide +kernel)
set_option maxRecDepth 20000 in
theorem gX5_image_X5_layAll : GoodIn wsX5_image (wsV RX5 198 RX5 yX5_layAll wsX5_layAll) := goodIn_app (goodIn_of _ (by decide +kernel)) ggX5_image_X5_layAll
theorem dX5_image_0 : decode cX5_image 0 = .ok (.aload_n 0, 1) := by decide +kernel
theorem dX5_image_1 : decode cX5_image 1 = .ok (.invokevirtual 141, 3) := by decide +kernel
theorem dX5_image_4 : decode cX5_image 4 = .ok (.ifCond .eq 6, 3) := by decide +kernel
theorem dX5_image_7 : decode cX5_image 7 = .ok (.bipush (-103), 2) := by decide +kernel
theorem dX5_image_9 : decode cX5_image 9 = .ok (.ireturn, 1) := by decide +kernel
theorem dX5_image_10 : decode cX5_image 10 = .ok (.aload_n 0, 1) := by decide +kernel
theorem dX5_image_11 : decode cX5_image 11 = .ok (.getfield 16, 3) := by decide +kernel
theorem dX5_image_14 : decode cX5_image 14 = .ok (.aload_n 0, 1) := by decide +kernel
theorem dX5_image_15 : decode cX5_image 15 = .ok (.getfield 40, 3) := by decide +kernel
theorem dX5_image_18 : decode cX5_image 18 = .ok (.invokestatic 172, 3) := by decide +kernel
theorem dX5_image_21 : decode cX5_image 21 = .ok (.aload_n 0, 1) := by decide +kernel
theorem dX5_image_22 : decode cX5_image 22 = .ok (.getfield 28, 3) := by decide +kernel
theorem dX5_image_25 : decode cX5_image 25 = .ok (.aload_n 0, 1) := by decide +kernel
theorem dX5_image_26 : decode cX5_image 26 = .ok (.getfield 46, 3) := by decide +kernel
theorem dX5_image_29 : decode cX5_image 29 = .ok (.invokestatic 172, 3) := by decide +kernel
theorem dX5_image_32 : decode cX5_image 32 = .ok (.aload_n 0, 1) := by decide +kernel
theorem dX5_image_33 : decode cX5_image 33 = .ok (.aload_n 0, 1) := by decide +kernel
theorem dX5_image_34 : decode cX5_image 34 = .ok (.getfield 43, 3) := by decide +kernel
theorem dX5_image_37 : decode cX5_image 37 = .ok (.invokevirtual 198, 3) := by decide +kernel
theorem dX5_image_40 : decode cX5_image 40 = .ok (.aload_n 0, 1) := by decide +kernel
theorem dX5_image_41 : decode cX5_image 41 = .ok (.aload_n 0, 1) := by decide +kernel
theorem dX5_image_42 : decode cX5_image 42 = .ok (.getfield 118, 3) := by decide +kernel
theorem dX5_image_45 : decode cX5_image 45 = .ok (.putfield 202, 3) := by decide +kernel
theorem dX5_image_48 : decode cX5_image 48 = .ok (.aload_n 0, 1) := by decide +kernel
theorem dX5_image_49 : decode cX5_image 49 = .ok (.aload_n 0, 1) := by decide +kernel
theorem dX5_image_50 : decode cX5_image 50 = .ok (.getfield 121, 3) := by decide +kernel
theorem dX5_image_53 : decode cX5_image 53 = .ok (.putfield 55, 3) := by decide +kernel
theorem dX5_image_56 : decode cX5_image 56 = .ok (.aload_n 0, 1) := by decide +kernel
theorem dX5_image_57 : decode cX5_image 57 = .ok (.getfield 115, 3) := by decide +kernel
theorem dX5_image_60 : decode cX5_image 60 = .ok (.ireturn, 1) := by decide +kernel
set_option maxRecDepth 20000 in
theorem ggX5_restore_X5_copy : GoodIn wsX5_restore wsX5_copy := goodIn_r _ [14] (by decide +kernel) (by decide +kernel)
set_option maxRecDepth 20000 in
theorem gX5_restore_X5_copy : GoodIn wsX5_restore (va_wsS RX5 172 yX5_copy wsX5_copy) := goodIn_app (goodIn_of _ (by decide +kernel)) ggX5_restore_X5_copy
set_option maxRecDepth 20000 in
theorem ggX5_restore_X5_layBack : GoodIn wsX5_restore wsX5_layBack := goodIn_r _ [18, 19, 20, 21, 22, 23, 24, 10, 25, 26, 27, 28, 29, 30, 31, 32, 33, 34, 35, 36, 37, 38, 39, 40, 41, 42, 43, 44, 45, 46, 47, 48, 49, 50, 51, 52, 53, 54, 55, 56, 57, 58, 59] (by decide +kernel) (by decide +kernel)
set_option maxRecDepth 20000 in
theorem gX5_restore_X5_layBack : GoodIn wsX5_restore (wsV RX5 205 RX5 yX5_layBack wsX5_layBack) := goodIn_app (goodIn_of _ (by decide +kernel)) ggX5_restore_X5_layBack
theorem dX5_restore_0 : decode cX5_restore 0 = .ok (.aload_n 0, 1) := by decide +kernel
theorem dX5_restore_1 : decode cX5_restore 1 = .ok (.getfield 55, 3) := by decide +kernel
theorem dX5_restore_4 : decode cX5_restore 4 = .ok (.aload_n 0, 1) := by decide +kernel
theorem dX5_restore_5 : decode cX5_restore 5 = .ok (.getfield 121, 3) := by decide +kernel
theorem dX5_restore_8 : decode cX5_restore 8 = .ok (.if_icmp .eq 6, 3) := by decide +kernel
theorem dX5_restore_11 : decode cX5_restore 11 = .ok (.bipush (-103), 2) := by decide +kernel
theorem dX5_restore_13 : decode cX5_restore 13 = .ok (.ireturn, 1) := by decide +kernel
theorem dX5_restore_14 : decode cX5_restore 14 = .ok (.aload_n 0, 1) := by decide +kernel
theorem dX5_restore_15 : decode cX5_restore 15 = .ok (.getfield 40, 3) := by decide +kernel
theorem dX5_restore_18 : decode cX5_restore 18 = .ok (.aload_n 0, 1) := by decide +kernel
theorem dX5_restore_19 : decode cX5_restore 19 = .ok (.getfield 16, 3) := by decide +kernel
theorem dX5_restore_22 : decode cX5_restore 22 = .ok (.invokestatic 172, 3) := by decide +kernel
theorem dX5_restore_25 : decode cX5_restore 25 = .ok (.aload_n 0, 1) := by decide +kernel
theorem dX5_restore_26 : decode cX5_restore 26 = .ok (.getfield 46, 3) := by decide +kernel
theorem dX5_restore_29 : decode cX5_restore 29 = .ok (.aload_n 0, 1) := by decide +kernel
theorem dX5_restore_30 : decode cX5_restore 30 = .ok (.getfield 28, 3) := by decide +kernel
theorem dX5_restore_33 : decode cX5_restore 33 = .ok (.invokestatic 172, 3) := by decide +kernel
theorem dX5_restore_36 : decode cX5_restore 36 = .ok (.aload_n 0, 1) := by decide +kernel
theorem dX5_restore_37 : decode cX5_restore 37 = .ok (.aload_n 0, 1) := by decide +kernel
theorem dX5_restore_38 : decode cX5_restore 38 = .ok (.getfield 43, 3) := by decide +kernel
theorem dX5_restore_41 : decode cX5_restore 41 = .ok (.invokevirtual 205, 3) := by decide +kernel
theorem dX5_restore_44 : decode cX5_restore 44 = .ok (.aload_n 0, 1) := by decide +kernel
theorem dX5_restore_45 : decode cX5_restore 45 = .ok (.aload_n 0, 1) := by decide +kernel
theorem dX5_restore_46 : decode cX5_restore 46 = .ok (.getfield 202, 3) := by decide +kernel
theorem dX5_restore_49 : decode cX5_restore 49 = .ok (.putfield 118, 3) := by decide +kernel
theorem dX5_restore_52 : decode cX5_restore 52 = .ok (.aload_n 0, 1) := by decide +kernel
theorem dX5_restore_53 : decode cX5_restore 53 = .ok (.getfield 115, 3) := by decide +kernel
theorem dX5_restore_56 : decode cX5_restore 56 = .ok (.ireturn, 1) := by decide +kernel
theorem dX5_draw_0 : decode cX5_draw 0 = .ok (.aload_n 0, 1) := by decide +kernel
theorem dX5_draw_1 : decode cX5_draw 1 = .ok (.ldc2_w 208, 3) := by decide +kernel
theorem dX5_draw_4 : decode cX5_draw 4 = .ok (.aload_n 0, 1) := by decide +kernel
theorem dX5_draw_5 : decode cX5_draw 5 = .ok (.getfield 210, 3) := by decide +kernel
theorem dX5_draw_8 : decode cX5_draw 8 = .ok (.i2l, 1) := by decide +kernel
theorem dX5_draw_9 : decode cX5_draw 9 = .ok (.lmul, 1) := by decide +kernel
theorem dX5_draw_10 : decode cX5_draw 10 = .ok (.ldc2_w 213, 3) := by decide +kernel
theorem dX5_draw_13 : decode cX5_draw 13 = .ok (.ladd, 1) := by decide +kernel
theorem dX5_draw_14 : decode cX5_draw 14 = .ok (.ldc2_w 215, 3) := by decide +kernel
theorem dX5_draw_17 : decode cX5_draw 17 = .ok (.land, 1) := by decide +kernel
theorem dX5_draw_18 : decode cX5_draw 18 = .ok (.l2i, 1) := by decide +kernel
theorem dX5_draw_19 : decode cX5_draw 19 = .ok (.putfield 210, 3) := by decide +kernel
theorem dX5_draw_22 : decode cX5_draw 22 = .ok (.aload_n 0, 1) := by decide +kernel
theorem dX5_draw_23 : decode cX5_draw 23 = .ok (.getfield 210, 3) := by decide +kernel
theorem dX5_draw_26 : decode cX5_draw 26 = .ok (.ldc 217, 2) := by decide +kernel
theorem dX5_draw_28 : decode cX5_draw 28 = .ok (.idiv, 1) := by decide +kernel
theorem dX5_draw_29 : decode cX5_draw 29 = .ok (.iload_n 1, 1) := by decide +kernel
theorem dX5_draw_30 : decode cX5_draw 30 = .ok (.irem, 1) := by decide +kernel
theorem dX5_draw_31 : decode cX5_draw 31 = .ok (.ireturn, 1) := by decide +kernel
set_option maxRecDepth 20000 in
theorem ggX5_sessions_X5_in : GoodIn wsX5_sessions wsX5_in := goodIn_r _ [13] (by decide +kernel) (by decide +kernel)
set_option maxRecDepth 20000 in
theorem gX5_sessions_X5_in : GoodIn wsX5_sessions (va_wsS RX5 64 yX5_in wsX5_in) := goodIn_app (goodIn_of _ (by decide +kernel)) ggX5_sessions_X5_in
set_option maxRecDepth 20000 in
theorem ggX5_sessions_X5_lacks : GoodIn wsX5_sessions wsX5_lacks := goodIn_r _ [17, 7, 66, 67, 68, 69, 70, 71, 72, 73, 74, 75, 76, 77, 78, 79, 80, 81, 82, 83, 84, 85, 86, 87, 88, 89, 90, 91, 92, 93, 94, 95, 96, 97, 98, 99, 100] (by decide +kernel) (by decide +kernel)
set_option maxRecDepth 20000 in
theorem gX5_sessions_X5_lacks : GoodIn wsX5_sessions (wsV RX5 141 RX5 yX5_lacks wsX5_lacks) := goodIn_app (goodIn_of _ (by decide +kernel)) ggX5_sessions_X5_lacks
set_option maxRecDepth 20000 in
theorem ggX5_sessions_X5_copy : GoodIn wsX5_sessions wsX5_copy := goodIn_r _ [20] (by decide +kernel) (by decide +kernel)
set_option maxRecDepth 20000 in
theorem gX5_sessions_X5_copy : GoodIn wsX5_sessions (va_wsS RX5 172 yX5_copy wsX5_copy) := goodIn_app (goodIn_of _ (by decide +kernel)) ggX5_sessions_X5_copy
set_option maxRecDepth 20000 in
theorem ggX5_sessions_X5_layAll : GoodIn wsX5_sessions wsX5_layAll := goodIn_r _ [24, 25, 26, 27, 8, 9, 28, 29, 66, 67, 68, 69, 70, 71, 72, 73, 74, 75, 76, 77, 78, 79, 80, 81, 82, 83, 84, 85, 86, 87, 88, 89, 90, 91, 92, 93, 94, 95, 96, 97, 98, 99, 100] (by decide +kernel) (by decide +kernel)
set_option maxRecDepth 20000 in
theorem gX5_sessions_X5_layAll : GoodIn wsX5_sessions (wsV RX5 198 RX5 yX5_layAll wsX5_layAll) := goodIn_app (goodIn_of _ (by decide +kernel)) ggX5_sessions_X5_layAll
set_option maxRecDepth 20000 in
theorem ggX5_sessions_X5_draw : GoodIn wsX5_sessions wsX5_draw := goodIn_r _ [33, 34, 6, 35, 36, 37, 66, 67, 68, 69, 70, 71, 72, 73, 74, 75, 76, 77, 78, 79, 80, 81, 82, 83, 84, 85, 86, 87, 88, 89, 90, 91, 92, 93, 94, 95, 96, 97, 98, 99, 100] (by decide +kernel) (by decide +kernel)
set_option maxRecDepth 20000 in
theorem gX5_sessions_X5_draw : GoodIn wsX5_sessions (wsV RX5 222 RX5 yX5_draw wsX5_draw) := goodIn_app (goodIn_of _ (by decide +kernel)) ggX5_sessions_X5_draw
set_option maxRecDepth 20000 in
theorem ggX5_sessions_X5_goesBy : GoodIn wsX5_sessions wsX5_goesBy := goodIn_r _ [41, 29, 27, 7, 25, 3, 26, 42, 43, 44, 45, 12, 46, 47, 48, 49, 50, 51, 52, 53, 54, 55, 56, 57, 58, 59, 60, 61, 8, 9, 28, 66, 67, 68, 69, 70, 71, 72, 73, 74, 75, 76, 77, 78, 79, 80, 81, 82, 83, 84, 85, 86, 87, 88, 89, 90, 91, 92, 93, 94, 95, 96, 97, 98, 99, 100] (by decide +kernel) (by decide +kernel)
set_option maxRecDepth 20000 in
theorem gX5_sessions_X5_goesBy : GoodIn wsX5_sessions (wsV RX5 145 RX5 yX5_goesBy wsX5_goesBy) := goodIn_app (goodIn_of _ (by decide +kernel)) ggX5_sessions_X5_goesBy
set_option maxRecDepth 20000 in
theorem ggX5_sessions_X5_layBack : GoodIn wsX5_sessions wsX5_layBack := goodIn_r _ [65, 25, 26, 27, 8, 9, 28, 29, 66, 67, 68, 69, 70, 71, 72, 73, 74, 75, 76, 77, 78, 79, 80, 81, 82, 83, 84, 85, 86, 87, 88, 89, 90, 91, 92, 93, 94, 95, 96, 97, 98, 99, 100] (by decide +kernel) (by decide +kernel)
set_option maxRecDepth 20000 in
theorem gX5_sessions_X5_layBack : GoodIn wsX5_sessions (wsV RX5 205 RX5 yX5_layBack wsX5_layBack) := goodIn_app (goodIn_of _ (by decide +kernel)) ggX5_sessions_X5_layBack
theorem dX5_sessions_0 : decode cX5_sessions 0 = .ok (.iload_n 1, 1) := by decide +kernel
theorem dX5_sessions_1 : decode cX5_sessions 1 = .ok (.i2l, 1) := by decide +kernel
theorem dX5_sessions_2 : decode cX5_sessions 2 = .ok (.lconst 1, 1) := by decide +kernel
theorem dX5_sessions_3 : decode cX5_sessions 3 = .ok (.ldc2_w 218, 3) := by decide +kernel
theorem dX5_sessions_6 : decode cX5_sessions 6 = .ok (.invokestatic 64, 3) := by decide +kernel
theorem dX5_sessions_9 : decode cX5_sessions 9 = .ok (.ifCond .eq 19, 3) := by decide +kernel
theorem dX5_sessions_12 : decode cX5_sessions 12 = .ok (.iload_n 2, 1) := by decide +kernel
theorem dX5_sessions_13 : decode cX5_sessions 13 = .ok (.ifCond .lt 15, 3) := by decide +kernel
theorem dX5_sessions_16 : decode cX5_sessions 16 = .ok (.iload_n 3, 1) := by decide +kernel
theorem dX5_sessions_17 : decode cX5_sessions 17 = .ok (.i2l, 1) := by decide +kernel
theorem dX5_sessions_18 : decode cX5_sessions 18 = .ok (.lconst 0, 1) := by decide +kernel
theorem dX5_sessions_19 : decode cX5_sessions 19 = .ok (.ldc2_w 220, 3) := by decide +kernel
theorem dX5_sessions_22 : decode cX5_sessions 22 = .ok (.invokestatic 64, 3) := by decide +kernel
theorem dX5_sessions_25 : decode cX5_sessions 25 = .ok (.ifCond .ne 6, 3) := by decide +kernel
theorem dX5_sessions_28 : decode cX5_sessions 28 = .ok (.bipush (-102), 2) := by decide +kernel
theorem dX5_sessions_30 : decode cX5_sessions 30 = .ok (.ireturn, 1) := by decide +kernel
theorem dX5_sessions_31 : decode cX5_sessions 31 = .ok (.aload_n 0, 1) := by decide +kernel
theorem dX5_sessions_32 : decode cX5_sessions 32 = .ok (.invokevirtual 141, 3) := by decide +kernel
theorem dX5_sessions_35 : decode cX5_sessions 35 = .ok (.ifCond .eq 6, 3) := by decide +kernel
theorem dX5_sessions_38 : decode cX5_sessions 38 = .ok (.bipush (-103), 2) := by decide +kernel
theorem dX5_sessions_40 : decode cX5_sessions 40 = .ok (.ireturn, 1) := by decide +kernel
theorem dX5_sessions_41 : decode cX5_sessions 41 = .ok (.aload_n 0, 1) := by decide +kernel
theorem dX5_sessions_42 : decode cX5_sessions 42 = .ok (.getfield 16, 3) := by decide +kernel
theorem dX5_sessions_45 : decode cX5_sessions 45 = .ok (.aload_n 0, 1) := by decide +kernel
theorem dX5_sessions_46 : decode cX5_sessions 46 = .ok (.getfield 49, 3) := by decide +kernel
theorem dX5_sessions_49 : decode cX5_sessions 49 = .ok (.invokestatic 172, 3) := by decide +kernel
theorem dX5_sessions_52 : decode cX5_sessions 52 = .ok (.aload_n 0, 1) := by decide +kernel
theorem dX5_sessions_53 : decode cX5_sessions 53 = .ok (.aload_n 0, 1) := by decide +kernel
theorem dX5_sessions_54 : decode cX5_sessions 54 = .ok (.getfield 52, 3) := by decide +kernel
theorem dX5_sessions_57 : decode cX5_sessions 57 = .ok (.invokevirtual 198, 3) := by decide +kernel
theorem dX5_sessions_60 : decode cX5_sessions 60 = .ok (.aload_n 0, 1) := by decide +kernel
theorem dX5_sessions_61 : decode cX5_sessions 61 = .ok (.iload_n 2, 1) := by decide +kernel
theorem dX5_sessions_62 : decode cX5_sessions 62 = .ok (.putfield 210, 3) := by decide +kernel
theorem dX5_sessions_65 : decode cX5_sessions 65 = .ok (.iconst 0, 1) := by decide +kernel
theorem dX5_sessions_66 : decode cX5_sessions 66 = .ok (.istore 4, 2) := by decide +kernel
theorem dX5_sessions_68 : decode cX5_sessions 68 = .ok (.iload 4, 2) := by decide +kernel
theorem dX5_sessions_70 : decode cX5_sessions 70 = .ok (.iload_n 1, 1) := by decide +kernel
theorem dX5_sessions_71 : decode cX5_sessions 71 = .ok (.if_icmp .ge 59, 3) := by decide +kernel
theorem dX5_sessions_74 : decode cX5_sessions 74 = .ok (.iconst 0, 1) := by decide +kernel
theorem dX5_sessions_75 : decode cX5_sessions 75 = .ok (.istore 5, 2) := by decide +kernel
theorem dX5_sessions_77 : decode cX5_sessions 77 = .ok (.iconst 0, 1) := by decide +kernel
theorem dX5_sessions_78 : decode cX5_sessions 78 = .ok (.istore 6, 2) := by decide +kernel
theorem dX5_sessions_80 : decode cX5_sessions 80 = .ok (.iload 6, 2) := by decide +kernel
theorem dX5_sessions_82 : decode cX5_sessions 82 = .ok (.aload_n 0, 1) := by decide +kernel
theorem dX5_sessions_83 : decode cX5_sessions 83 = .ok (.getfield 94, 3) := by decide +kernel
theorem dX5_sessions_86 : decode cX5_sessions 86 = .ok (.if_icmp .ge 30, 3) := by decide +kernel
theorem dX5_sessions_89 : decode cX5_sessions 89 = .ok (.iload 5, 2) := by decide +kernel
theorem dX5_sessions_91 : decode cX5_sessions 91 = .ok (.aload_n 0, 1) := by decide +kernel
theorem dX5_sessions_92 : decode cX5_sessions 92 = .ok (.iconst 3, 1) := by decide +kernel
theorem dX5_sessions_93 : decode cX5_sessions 93 = .ok (.invokevirtual 222, 3) := by decide +kernel
theorem dX5_sessions_96 : decode cX5_sessions 96 = .ok (.ifCond .ne 10, 3) := by decide +kernel
theorem dX5_sessions_99 : decode cX5_sessions 99 = .ok (.iconst 1, 1) := by decide +kernel
theorem dX5_sessions_100 : decode cX5_sessions 100 = .ok (.iload 6, 2) := by decide +kernel
theorem dX5_sessions_102 : decode cX5_sessions 102 = .ok (.ishl, 1) := by decide +kernel
theorem dX5_sessions_103 : decode cX5_sessions 103 = .ok (.goto 4, 3) := by decide +kernel
theorem dX5_sessions_106 : decode cX5_sessions 106 = .ok (.iconst 0, 1) := by decide +kernel
theorem dX5_sessions_107 : decode cX5_sessions 107 = .ok (.ior, 1) := by decide +kernel
theorem dX5_sessions_108 : decode cX5_sessions 108 = .ok (.istore 5, 2) := by decide +kernel
theorem dX5_sessions_110 : decode cX5_sessions 110 = .ok (.iinc 6 1, 3) := by decide +kernel
theorem dX5_sessions_113 : decode cX5_sessions 113 = .ok (.goto (-33), 3) := by decide +kernel
theorem dX5_sessions_116 : decode cX5_sessions 116 = .ok (.aload_n 0, 1) := by decide +kernel
theorem dX5_sessions_117 : decode cX5_sessions 117 = .ok (.iload 5, 2) := by decide +kernel
theorem dX5_sessions_119 : decode cX5_sessions 119 = .ok (.invokevirtual 145, 3) := by decide +kernel
theorem dX5_sessions_122 : decode cX5_sessions 122 = .ok (.istore 6, 2) := by decide +kernel
theorem dX5_sessions_124 : decode cX5_sessions 124 = .ok (.iinc 4 1, 3) := by decide +kernel
theorem dX5_sessions_127 : decode cX5_sessions 127 = .ok (.goto (-59), 3) := by decide +kernel
theorem dX5_sessions_130 : decode cX5_sessions 130 = .ok (.aload_n 0, 1) := by decide +kernel
theorem dX5_sessions_131 : decode cX5_sessions 131 = .ok (.getfield 106, 3) := by decide +kernel
theorem dX5_sessions_134 : decode cX5_sessions 134 = .ok (.aload_n 0, 1) := by decide +kernel
theorem dX5_sessions_135 : decode cX5_sessions 135 = .ok (.getfield 52, 3) := by decide +kernel
theorem dX5_sessions_138 : decode cX5_sessions 138 = .ok (.iconst 3, 1) := by decide +kernel
theorem dX5_sessions_139 : decode cX5_sessions 139 = .ok (.iaload, 1) := by decide +kernel
theorem dX5_sessions_140 : decode cX5_sessions 140 = .ok (.isub, 1) := by decide +kernel
theorem dX5_sessions_141 : decode cX5_sessions 141 = .ok (.istore 4, 2) := by decide +kernel
theorem dX5_sessions_143 : decode cX5_sessions 143 = .ok (.aload_n 0, 1) := by decide +kernel
theorem dX5_sessions_144 : decode cX5_sessions 144 = .ok (.getfield 109, 3) := by decide +kernel
theorem dX5_sessions_147 : decode cX5_sessions 147 = .ok (.aload_n 0, 1) := by decide +kernel
theorem dX5_sessions_148 : decode cX5_sessions 148 = .ok (.getfield 52, 3) := by decide +kernel
theorem dX5_sessions_151 : decode cX5_sessions 151 = .ok (.iconst 4, 1) := by decide +kernel
theorem dX5_sessions_152 : decode cX5_sessions 152 = .ok (.iaload, 1) := by decide +kernel
theorem dX5_sessions_153 : decode cX5_sessions 153 = .ok (.isub, 1) := by decide +kernel
theorem dX5_sessions_154 : decode cX5_sessions 154 = .ok (.istore 5, 2) := by decide +kernel
theorem dX5_sessions_156 : decode cX5_sessions 156 = .ok (.aload_n 0, 1) := by decide +kernel
theorem dX5_sessions_157 : decode cX5_sessions 157 = .ok (.getfield 49, 3) := by decide +kernel
theorem dX5_sessions_160 : decode cX5_sessions 160 = .ok (.aload_n 0, 1) := by decide +kernel
theorem dX5_sessions_161 : decode cX5_sessions 161 = .ok (.getfield 16, 3) := by decide +kernel
theorem dX5_sessions_164 : decode cX5_sessions 164 = .ok (.invokestatic 172, 3) := by decide +kernel
theorem dX5_sessions_167 : decode cX5_sessions 167 = .ok (.aload_n 0, 1) := by decide +kernel
theorem dX5_sessions_168 : decode cX5_sessions 168 = .ok (.aload_n 0, 1) := by decide +kernel
theorem dX5_sessions_169 : decode cX5_sessions 169 = .ok (.getfield 52, 3) := by decide +kernel
theorem dX5_sessions_172 : decode cX5_sessions 172 = .ok (.invokevirtual 205, 3) := by decide +kernel
theorem dX5_sessions_175 : decode cX5_sessions 175 = .ok (.iload_n 3, 1) := by decide +kernel
theorem dX5_sessions_176 : decode cX5_sessions 176 = .ok (.ifCond .ne 8, 3) := by decide +kernel
theorem dX5_sessions_179 : decode cX5_sessions 179 = .ok (.iload 4, 2) := by decide +kernel
theorem dX5_sessions_181 : decode cX5_sessions 181 = .ok (.goto 17, 3) := by decide +kernel
theorem dX5_sessions_184 : decode cX5_sessions 184 = .ok (.iload_n 3, 1) := by decide +kernel
theorem dX5_sessions_185 : decode cX5_sessions 185 = .ok (.iconst 1, 1) := by decide +kernel
theorem dX5_sessions_186 : decode cX5_sessions 186 = .ok (.if_icmp .ne 8, 3) := by decide +kernel
theorem dX5_sessions_189 : decode cX5_sessions 189 = .ok (.iload 5, 2) := by decide +kernel
theorem dX5_sessions_191 : decode cX5_sessions 191 = .ok (.goto 7, 3) := by decide +kernel
theorem dX5_sessions_194 : decode cX5_sessions 194 = .ok (.aload_n 0, 1) := by decide +kernel
theorem dX5_sessions_195 : decode cX5_sessions 195 = .ok (.getfield 210, 3) := by decide +kernel
theorem dX5_sessions_198 : decode cX5_sessions 198 = .ok (.ireturn, 1) := by decide +kernel
theorem dX5_countOf_0 : decode cX5_countOf 0 = .ok (.aload_n 0, 1) := by decide +kernel
theorem dX5_countOf_1 : decode cX5_countOf 1 = .ok (.getfield 59, 3) := by decide +kernel
theorem dX5_countOf_4 : decode cX5_countOf 4 = .ok (.bipush 8, 2) := by decide +kernel
theorem dX5_countOf_6 : decode cX5_countOf 6 = .ok (.idiv, 1) := by decide +kernel
theorem dX5_countOf_7 : decode cX5_countOf 7 = .ok (.istore_n 2, 1) := by decide +kernel
theorem dX5_countOf_8 : decode cX5_countOf 8 = .ok (.aload_n 0, 1) := by decide +kernel
theorem dX5_countOf_9 : decode cX5_countOf 9 = .ok (.getfield 59, 3) := by decide +kernel
theorem dX5_countOf_12 : decode cX5_countOf 12 = .ok (.bipush 8, 2) := by decide +kernel
theorem dX5_countOf_14 : decode cX5_countOf 14 = .ok (.irem, 1) := by decide +kernel
theorem dX5_countOf_15 : decode cX5_countOf 15 = .ok (.istore_n 3, 1) := by decide +kernel
theorem dX5_countOf_16 : decode cX5_countOf 16 = .ok (.iload_n 1, 1) := by decide +kernel
theorem dX5_countOf_17 : decode cX5_countOf 17 = .ok (.tableswitch 137 0 11 #[63, 68, 73, 85, 97, 102, 107, 112, 117, 122, 127, 132], 63) := by decide +kernel
theorem dX5_countOf_80 : decode cX5_countOf 80 = .ok (.aload_n 0, 1) := by decide +kernel
theorem dX5_countOf_81 : decode cX5_countOf 81 = .ok (.getfield 94, 3) := by decide +kernel
theorem dX5_countOf_84 : decode cX5_countOf 84 = .ok (.ireturn, 1) := by decide +kernel
theorem dX5_countOf_85 : decode cX5_countOf 85 = .ok (.aload_n 0, 1) := by decide +kernel
theorem dX5_countOf_86 : decode cX5_countOf 86 = .ok (.getfield 97, 3) := by decide +kernel
theorem dX5_countOf_89 : decode cX5_countOf 89 = .ok (.ireturn, 1) := by decide +kernel
theorem dX5_countOf_90 : decode cX5_countOf 90 = .ok (.iload_n 2, 1) := by decide +kernel
theorem dX5_countOf_91 : decode cX5_countOf 91 = .ok (.bipush 7, 2) := by decide +kernel
theorem dX5_countOf_93 : decode cX5_countOf 93 = .ok (.if_icmp .ne 7, 3) := by decide +kernel
theorem dX5_countOf_96 : decode cX5_countOf 96 = .ok (.iconst (-1), 1) := by decide +kernel
theorem dX5_countOf_97 : decode cX5_countOf 97 = .ok (.goto 4, 3) := by decide +kernel
theorem dX5_countOf_100 : decode cX5_countOf 100 = .ok (.iload_n 2, 1) := by decide +kernel
theorem dX5_countOf_101 : decode cX5_countOf 101 = .ok (.ireturn, 1) := by decide +kernel
theorem dX5_countOf_102 : decode cX5_countOf 102 = .ok (.iload_n 3, 1) := by decide +kernel
theorem dX5_countOf_103 : decode cX5_countOf 103 = .ok (.bipush 7, 2) := by decide +kernel
theorem dX5_countOf_105 : decode cX5_countOf 105 = .ok (.if_icmp .ne 7, 3) := by decide +kernel
theorem dX5_countOf_108 : decode cX5_countOf 108 = .ok (.iconst (-1), 1) := by decide +kernel
theorem dX5_countOf_109 : decode cX5_countOf 109 = .ok (.goto 4, 3) := by decide +kernel
theorem dX5_countOf_112 : decode cX5_countOf 112 = .ok (.iload_n 3, 1) := by decide +kernel
theorem dX5_countOf_113 : decode cX5_countOf 113 = .ok (.ireturn, 1) := by decide +kernel
theorem dX5_countOf_114 : decode cX5_countOf 114 = .ok (.aload_n 0, 1) := by decide +kernel
theorem dX5_countOf_115 : decode cX5_countOf 115 = .ok (.getfield 103, 3) := by decide +kernel
theorem dX5_countOf_118 : decode cX5_countOf 118 = .ok (.ireturn, 1) := by decide +kernel
theorem dX5_countOf_119 : decode cX5_countOf 119 = .ok (.aload_n 0, 1) := by decide +kernel
theorem dX5_countOf_120 : decode cX5_countOf 120 = .ok (.getfield 106, 3) := by decide +kernel
theorem dX5_countOf_123 : decode cX5_countOf 123 = .ok (.ireturn, 1) := by decide +kernel
theorem dX5_countOf_124 : decode cX5_countOf 124 = .ok (.aload_n 0, 1) := by decide +kernel
theorem dX5_countOf_125 : decode cX5_countOf 125 = .ok (.getfield 109, 3) := by decide +kernel
theorem dX5_countOf_128 : decode cX5_countOf 128 = .ok (.ireturn, 1) := by decide +kernel
theorem dX5_countOf_129 : decode cX5_countOf 129 = .ok (.aload_n 0, 1) := by decide +kernel
theorem dX5_countOf_130 : decode cX5_countOf 130 = .ok (.getfield 112, 3) := by decide +kernel
theorem dX5_countOf_133 : decode cX5_countOf 133 = .ok (.ireturn, 1) := by decide +kernel
theorem dX5_countOf_134 : decode cX5_countOf 134 = .ok (.aload_n 0, 1) := by decide +kernel
theorem dX5_countOf_135 : decode cX5_countOf 135 = .ok (.getfield 115, 3) := by decide +kernel
theorem dX5_countOf_138 : decode cX5_countOf 138 = .ok (.ireturn, 1) := by decide +kernel
theorem dX5_countOf_139 : decode cX5_countOf 139 = .ok (.aload_n 0, 1) := by decide +kernel
theorem dX5_countOf_140 : decode cX5_countOf 140 = .ok (.getfield 118, 3) := by decide +kernel
theorem dX5_countOf_143 : decode cX5_countOf 143 = .ok (.ireturn, 1) := by decide +kernel
theorem dX5_countOf_144 : decode cX5_countOf 144 = .ok (.aload_n 0, 1) := by decide +kernel
theorem dX5_countOf_145 : decode cX5_countOf 145 = .ok (.getfield 68, 3) := by decide +kernel
theorem dX5_countOf_148 : decode cX5_countOf 148 = .ok (.ireturn, 1) := by decide +kernel
theorem dX5_countOf_149 : decode cX5_countOf 149 = .ok (.aload_n 0, 1) := by decide +kernel
theorem dX5_countOf_150 : decode cX5_countOf 150 = .ok (.getfield 121, 3) := by decide +kernel
theorem dX5_countOf_153 : decode cX5_countOf 153 = .ok (.ireturn, 1) := by decide +kernel
theorem dX5_countOf_154 : decode cX5_countOf 154 = .ok (.bipush (-102), 2) := by decide +kernel
theorem dX5_countOf_156 : decode cX5_countOf 156 = .ok (.ireturn, 1) := by decide +kernel
set_option maxRecDepth 20000 in
theorem ggX5_count_X5_countOf : GoodIn wsX5_count wsX5_countOf := goodIn_r _ [5, 6, 7, 8, 9, 10, 11, 12, 13, 14, 15, 16, 17, 18, 19, 20, 21, 22, 23, 24, 25, 26, 27, 28, 29, 30, 31, 32, 33, 34, 35, 36, 37, 38, 39, 40, 41, 42, 43, 44, 45, 46, 47, 48, 49, 50, 51] (by decide +kernel) (by decide +kernel)
set_option maxRecDepth 20000 in
theorem gX5_count_X5_countOf : GoodIn wsX5_count (wsV RX5 225 RX5 yX5_countOf wsX5_countOf) := goodIn_app (goodIn_of _ (by decide +kernel)) ggX5_count_X5_countOf
theorem dX5_count_0 : decode cX5_count 0 = .ok (.aload_n 0, 1) := by decide +kernel
theorem dX5_count_1 : decode cX5_count 1 = .ok (.iload_n 1, 1) := by decide +kernel
theorem dX5_count_2 : decode cX5_count 2 = .ok (.invokevirtual 225, 3) := by decide +kernel
theorem dX5_count_5 : decode cX5_count 5 = .ok (.ireturn, 1) := by decide +kernel
theorem dX5_say_0 : decode cX5_say 0 = .ok (.aload_n 0, 1) := by decide +kernel
theorem dX5_say_1 : decode cX5_say 1 = .ok (.ldc2_w 228, 3) := by decide +kernel
theorem dX5_say_4 : decode cX5_say 4 = .ok (.aload_n 0, 1) := by decide +kernel
theorem dX5_say_5 : decode cX5_say 5 = .ok (.getfield 230, 3) := by decide +kernel
theorem dX5_say_8 : decode cX5_say 8 = .ok (.lmul, 1) := by decide +kernel
theorem dX5_say_9 : decode cX5_say 9 = .ok (.lload_n 1, 1) := by decide +kernel
theorem dX5_say_10 : decode cX5_say 10 = .ok (.ladd, 1) := by decide +kernel
theorem dX5_say_11 : decode cX5_say 11 = .ok (.putfield 230, 3) := by decide +kernel
theorem dX5_say_14 : decode cX5_say 14 = .ok (.return_, 1) := by decide +kernel
set_option maxRecDepth 20000 in
theorem ggX5_sayCourt_X5_playOf : GoodIn wsX5_sayCourt wsX5_playOf := goodIn_r _ [5, 6, 7, 8, 9, 4, 10, 11, 12, 13, 14, 15, 16, 17, 18, 19, 20, 21, 22, 23, 24, 25, 26, 27, 28, 29, 30, 31, 32, 33, 34, 35, 36, 37, 38, 66, 67, 68, 69, 70, 71, 72, 73, 74, 75, 76, 77, 78, 79, 80, 81, 82, 83, 84, 85, 86, 87, 88, 89, 90, 91, 92, 93, 94, 95, 96, 97, 98, 99, 100] (by decide +kernel) (by decide +kernel)
set_option maxRecDepth 20000 in
theorem gX5_sayCourt_X5_playOf : GoodIn wsX5_sayCourt (wsV RX5 181 RX5 yX5_playOf wsX5_playOf) := goodIn_app (goodIn_of _ (by decide +kernel)) ggX5_sayCourt_X5_playOf
set_option maxRecDepth 20000 in
theorem ggX5_sayCourt_X5_say : GoodIn wsX5_sayCourt wsX5_say := goodIn_r _ [42, 43, 44, 66, 67, 68, 69, 70, 71, 72, 73, 74, 75, 76, 77, 78, 79, 80, 81, 82, 83, 84, 85, 86, 87, 88, 89, 90, 91, 92, 93, 94, 95, 96, 97, 98, 99, 100] (by decide +kernel) (by decide +kernel)
set_option maxRecDepth 20000 in
theorem gX5_sayCourt_X5_say : GoodIn wsX5_sayCourt (wsV RX5 234 RX5 yX5_say wsX5_say) := goodIn_app (goodIn_of _ (by decide +kernel)) ggX5_sayCourt_X5_say
set_option maxRecDepth 20000 in
theorem ggX5_sayCourt_X5_rowsOf : GoodIn wsX5_sayCourt wsX5_rowsOf := goodIn_r _ [48, 49, 50, 51, 52, 4, 53, 54, 15, 12, 55, 56, 57, 58, 59, 60, 27, 28, 29, 30, 13, 31, 32, 33, 34, 35, 66, 67, 68, 69, 70, 71, 72, 73, 74, 75, 76, 77, 78, 79, 80, 81, 82, 83, 84, 85, 86, 87, 88, 89, 90, 91, 92, 93, 94, 95, 96, 97, 98, 99, 100] (by decide +kernel) (by decide +kernel)
set_option maxRecDepth 20000 in
theorem gX5_sayCourt_X5_rowsOf : GoodIn wsX5_sayCourt (wsV RX5 192 RX5 yX5_rowsOf wsX5_rowsOf) := goodIn_app (goodIn_of _ (by decide +kernel)) ggX5_sayCourt_X5_rowsOf
set_option maxRecDepth 20000 in
theorem ggX5_sayCourt_X5_whenOf : GoodIn wsX5_sayCourt wsX5_whenOf := goodIn_r _ [64, 65, 49, 54, 50, 51, 52, 4, 53, 15, 12, 55, 56, 57, 58, 59, 60, 27, 28, 29, 30, 13, 31, 32, 33, 34, 35, 66, 67, 68, 69, 70, 71, 72, 73, 74, 75, 76, 77, 78, 79, 80, 81, 82, 83, 84, 85, 86, 87, 88, 89, 90, 91, 92, 93, 94, 95, 96, 97, 98, 99, 100] (by decide +kernel) (by decide +kernel)
set_option maxRecDepth 20000 in
theorem gX5_sayCourt_X5_whenOf : GoodIn wsX5_sayCourt (wsV RX5 195 RX5 yX5_whenOf wsX5_whenOf) := goodIn_app (goodIn_of _ (by decide +kernel)) ggX5_sayCourt_X5_whenOf
theorem dX5_sayCourt_0 : decode cX5_sayCourt 0 = .ok (.iconst 1, 1) := by decide +kernel
theorem dX5_sayCourt_1 : decode cX5_sayCourt 1 = .ok (.istore_n 1, 1) := by decide +kernel
theorem dX5_sayCourt_2 : decode cX5_sayCourt 2 = .ok (.iload_n 1, 1) := by decide +kernel
theorem dX5_sayCourt_3 : decode cX5_sayCourt 3 = .ok (.iconst 5, 1) := by decide +kernel
theorem dX5_sayCourt_4 : decode cX5_sayCourt 4 = .ok (.if_icmp .ge 31, 3) := by decide +kernel
theorem dX5_sayCourt_7 : decode cX5_sayCourt 7 = .ok (.aload_n 0, 1) := by decide +kernel
theorem dX5_sayCourt_8 : decode cX5_sayCourt 8 = .ok (.aload_n 0, 1) := by decide +kernel
theorem dX5_sayCourt_9 : decode cX5_sayCourt 9 = .ok (.iload_n 1, 1) := by decide +kernel
theorem dX5_sayCourt_10 : decode cX5_sayCourt 10 = .ok (.iconst 0, 1) := by decide +kernel
theorem dX5_sayCourt_11 : decode cX5_sayCourt 11 = .ok (.invokevirtual 181, 3) := by decide +kernel
theorem dX5_sayCourt_14 : decode cX5_sayCourt 14 = .ok (.i2l, 1) := by decide +kernel
theorem dX5_sayCourt_15 : decode cX5_sayCourt 15 = .ok (.invokevirtual 234, 3) := by decide +kernel
theorem dX5_sayCourt_18 : decode cX5_sayCourt 18 = .ok (.aload_n 0, 1) := by decide +kernel
theorem dX5_sayCourt_19 : decode cX5_sayCourt 19 = .ok (.aload_n 0, 1) := by decide +kernel
theorem dX5_sayCourt_20 : decode cX5_sayCourt 20 = .ok (.iload_n 1, 1) := by decide +kernel
theorem dX5_sayCourt_21 : decode cX5_sayCourt 21 = .ok (.iconst 1, 1) := by decide +kernel
theorem dX5_sayCourt_22 : decode cX5_sayCourt 22 = .ok (.invokevirtual 181, 3) := by decide +kernel
theorem dX5_sayCourt_25 : decode cX5_sayCourt 25 = .ok (.i2l, 1) := by decide +kernel
theorem dX5_sayCourt_26 : decode cX5_sayCourt 26 = .ok (.invokevirtual 234, 3) := by decide +kernel
theorem dX5_sayCourt_29 : decode cX5_sayCourt 29 = .ok (.iinc 1 1, 3) := by decide +kernel
theorem dX5_sayCourt_32 : decode cX5_sayCourt 32 = .ok (.goto (-30), 3) := by decide +kernel
theorem dX5_sayCourt_35 : decode cX5_sayCourt 35 = .ok (.iconst 0, 1) := by decide +kernel
theorem dX5_sayCourt_36 : decode cX5_sayCourt 36 = .ok (.istore_n 1, 1) := by decide +kernel
theorem dX5_sayCourt_37 : decode cX5_sayCourt 37 = .ok (.iload_n 1, 1) := by decide +kernel
theorem dX5_sayCourt_38 : decode cX5_sayCourt 38 = .ok (.iconst 5, 1) := by decide +kernel
theorem dX5_sayCourt_39 : decode cX5_sayCourt 39 = .ok (.if_icmp .ge 31, 3) := by decide +kernel
theorem dX5_sayCourt_42 : decode cX5_sayCourt 42 = .ok (.aload_n 0, 1) := by decide +kernel
theorem dX5_sayCourt_43 : decode cX5_sayCourt 43 = .ok (.aload_n 0, 1) := by decide +kernel
theorem dX5_sayCourt_44 : decode cX5_sayCourt 44 = .ok (.iload_n 1, 1) := by decide +kernel
theorem dX5_sayCourt_45 : decode cX5_sayCourt 45 = .ok (.iconst 0, 1) := by decide +kernel
theorem dX5_sayCourt_46 : decode cX5_sayCourt 46 = .ok (.invokevirtual 192, 3) := by decide +kernel
theorem dX5_sayCourt_49 : decode cX5_sayCourt 49 = .ok (.i2l, 1) := by decide +kernel
theorem dX5_sayCourt_50 : decode cX5_sayCourt 50 = .ok (.invokevirtual 234, 3) := by decide +kernel
theorem dX5_sayCourt_53 : decode cX5_sayCourt 53 = .ok (.aload_n 0, 1) := by decide +kernel
theorem dX5_sayCourt_54 : decode cX5_sayCourt 54 = .ok (.aload_n 0, 1) := by decide +kernel
theorem dX5_sayCourt_55 : decode cX5_sayCourt 55 = .ok (.iload_n 1, 1) := by decide +kernel
theorem dX5_sayCourt_56 : decode cX5_sayCourt 56 = .ok (.iconst 1, 1) := by decide +kernel
theorem dX5_sayCourt_57 : decode cX5_sayCourt 57 = .ok (.invokevirtual 192, 3) := by decide +kernel
theorem dX5_sayCourt_60 : decode cX5_sayCourt 60 = .ok (.i2l, 1) := by decide +kernel
theorem dX5_sayCourt_61 : decode cX5_sayCourt 61 = .ok (.invokevirtual 234, 3) := by decide +kernel
theorem dX5_sayCourt_64 : decode cX5_sayCourt 64 = .ok (.iinc 1 1, 3) := by decide +kernel
theorem dX5_sayCourt_67 : decode cX5_sayCourt 67 = .ok (.goto (-30), 3) := by decide +kernel
theorem dX5_sayCourt_70 : decode cX5_sayCourt 70 = .ok (.aload_n 0, 1) := by decide +kernel
theorem dX5_sayCourt_71 : decode cX5_sayCourt 71 = .ok (.aload_n 0, 1) := by decide +kernel
theorem dX5_sayCourt_72 : decode cX5_sayCourt 72 = .ok (.invokevirtual 195, 3) := by decide +kernel
theorem dX5_sayCourt_75 : decode cX5_sayCourt 75 = .ok (.i2l, 1) := by decide +kernel
theorem dX5_sayCourt_76 : decode cX5_sayCourt 76 = .ok (.invokevirtual 234, 3) := by decide +kernel
theorem dX5_sayCourt_79 : decode cX5_sayCourt 79 = .ok (.return_, 1) := by decide +kernel
set_option maxRecDepth 20000 in
theorem ggX5_digest_X5_tell : GoodIn wsX5_digest wsX5_tell := goodIn_r _ [10, 11, 12, 13, 14, 15, 16, 9, 17, 18, 19, 20, 21, 22, 23, 24, 25, 26, 3, 27, 28, 29, 30, 105, 106, 107, 108, 109, 110, 111, 112, 113, 114, 115, 116, 117, 118, 119, 120, 121, 122, 123, 124, 125, 126, 127, 128, 129, 130, 131, 132, 133, 134, 135, 136, 137, 138, 139] (by decide +kernel) (by decide +kernel)
set_option maxRecDepth 20000 in
theorem gX5_digest_X5_tell : GoodIn wsX5_digest (wsV RX5 158 RX5 yX5_tell wsX5_tell) := goodIn_app (goodIn_of _ (by decide +kernel)) ggX5_digest_X5_tell
set_option maxRecDepth 20000 in
theorem ggX5_digest_X5_say : GoodIn wsX5_digest wsX5_say := goodIn_r _ [34, 35, 2, 105, 106, 107, 108, 109, 110, 111, 112, 113, 114, 115, 116, 117, 118, 119, 120, 121, 122, 123, 124, 125, 126, 127, 128, 129, 130, 131, 132, 133, 134, 135, 136, 137, 138, 139] (by decide +kernel) (by decide +kernel)
set_option maxRecDepth 20000 in
theorem gX5_digest_X5_say : GoodIn wsX5_digest (wsV RX5 234 RX5 yX5_say wsX5_say) := goodIn_app (goodIn_of _ (by decide +kernel)) ggX5_digest_X5_say
set_option maxRecDepth 20000 in
theorem ggX5_digest_X5_firstOf : GoodIn wsX5_digest wsX5_firstOf := goodIn_r _ [39, 13, 3, 18, 19, 20, 9, 21, 22, 23, 24, 25, 26, 14, 15, 16, 17, 11, 12, 27, 28, 29, 30, 105, 106, 107, 108, 109, 110, 111, 112, 113, 114, 115, 116, 117, 118, 119, 120, 121, 122, 123, 124, 125, 126, 127, 128, 129, 130, 131, 132, 133, 134, 135, 136, 137, 138, 139] (by decide +kernel) (by decide +kernel)
set_option maxRecDepth 20000 in
theorem gX5_digest_X5_firstOf : GoodIn wsX5_digest (wsV RX5 163 RX5 yX5_firstOf wsX5_firstOf) := goodIn_app (goodIn_of _ (by decide +kernel)) ggX5_digest_X5_firstOf
set_option maxRecDepth 20000 in
theorem ggX5_digest_X5_lacks : GoodIn wsX5_digest wsX5_lacks := goodIn_r _ [43, 3, 105, 106, 107, 108, 109, 110, 111, 112, 113, 114, 115, 116, 117, 118, 119, 120, 121, 122, 123, 124, 125, 126, 127, 128, 129, 130, 131, 132, 133, 134, 135, 136, 137, 138, 139] (by decide +kernel) (by decide +kernel)
set_option maxRecDepth 20000 in
theorem gX5_digest_X5_lacks : GoodIn wsX5_digest (wsV RX5 141 RX5 yX5_lacks wsX5_lacks) := goodIn_app (goodIn_of _ (by decide +kernel)) ggX5_digest_X5_lacks
set_option maxRecDepth 20000 in
theorem ggX5_digest_X5_sayCourt : GoodIn wsX5_digest wsX5_sayCourt := goodIn_r _ [47, 48, 49, 50, 9, 51, 52, 53, 54, 55, 56, 57, 3, 11, 58, 13, 59, 60, 61, 62, 63, 64, 65, 66, 67, 68, 69, 14, 15, 16, 17, 12, 27, 28, 29, 30, 70, 71, 72, 31, 32, 33, 34, 35, 2, 73, 74, 75, 76, 77, 78, 79, 80, 81, 82, 83, 84, 85, 86, 87, 88, 89, 90, 91, 92, 93, 105, 106, 107, 108, 109, 110, 111, 112, 113, 114, 115, 116, 117, 118, 119, 120, 121, 122, 123, 124, 125, 126, 127, 128, 129, 130, 131, 132, 133, 134, 135, 136, 137, 138, 139] (by decide +kernel) (by decide +kernel)
set_option maxRecDepth 20000 in
theorem gX5_digest_X5_sayCourt : GoodIn wsX5_digest (wsV RX5 240 RX5 yX5_sayCourt wsX5_sayCourt) := goodIn_app (goodIn_of _ (by decide +kernel)) ggX5_digest_X5_sayCourt
set_option maxRecDepth 20000 in
theorem ggX5_digest_X5_countOf : GoodIn wsX5_digest wsX5_countOf := goodIn_r _ [97, 13, 3, 98, 99, 100, 101, 102, 103, 87, 4, 104, 105, 106, 107, 108, 109, 110, 111, 112, 113, 114, 115, 116, 117, 118, 119, 120, 121, 122, 123, 124, 125, 126, 127, 128, 129, 130, 131, 132, 133, 134, 135, 136, 137, 138, 139] (by decide +kernel) (by decide +kernel)
set_option maxRecDepth 20000 in
theorem gX5_digest_X5_countOf : GoodIn wsX5_digest (wsV RX5 225 RX5 yX5_countOf wsX5_countOf) := goodIn_app (goodIn_of _ (by decide +kernel)) ggX5_digest_X5_countOf
theorem dX5_digest_0 : decode cX5_digest 0 = .ok (.aload_n 0, 1) := by decide +kernel
theorem dX5_digest_1 : decode cX5_digest 1 = .ok (.ldc2_w 238, 3) := by decide +kernel
theorem dX5_digest_4 : decode cX5_digest 4 = .ok (.putfield 230, 3) := by decide +kernel
theorem dX5_digest_7 : decode cX5_digest 7 = .ok (.iconst 0, 1) := by decide +kernel
theorem dX5_digest_8 : decode cX5_digest 8 = .ok (.istore_n 1, 1) := by decide +kernel
theorem dX5_digest_9 : decode cX5_digest 9 = .ok (.iload_n 1, 1) := by decide +kernel
theorem dX5_digest_10 : decode cX5_digest 10 = .ok (.aload_n 0, 1) := by decide +kernel
theorem dX5_digest_11 : decode cX5_digest 11 = .ok (.getfield 94, 3) := by decide +kernel
theorem dX5_digest_14 : decode cX5_digest 14 = .ok (.if_icmp .ge 44, 3) := by decide +kernel
theorem dX5_digest_17 : decode cX5_digest 17 = .ok (.iconst 0, 1) := by decide +kernel
theorem dX5_digest_18 : decode cX5_digest 18 = .ok (.istore_n 2, 1) := by decide +kernel
theorem dX5_digest_19 : decode cX5_digest 19 = .ok (.iload_n 2, 1) := by decide +kernel
theorem dX5_digest_20 : decode cX5_digest 20 = .ok (.bipush 6, 2) := by decide +kernel
theorem dX5_digest_22 : decode cX5_digest 22 = .ok (.if_icmp .ge 20, 3) := by decide +kernel
theorem dX5_digest_25 : decode cX5_digest 25 = .ok (.aload_n 0, 1) := by decide +kernel
theorem dX5_digest_26 : decode cX5_digest 26 = .ok (.aload_n 0, 1) := by decide +kernel
theorem dX5_digest_27 : decode cX5_digest 27 = .ok (.iload_n 1, 1) := by decide +kernel
theorem dX5_digest_28 : decode cX5_digest 28 = .ok (.iload_n 2, 1) := by decide +kernel
theorem dX5_digest_29 : decode cX5_digest 29 = .ok (.invokevirtual 158, 3) := by decide +kernel
theorem dX5_digest_32 : decode cX5_digest 32 = .ok (.i2l, 1) := by decide +kernel
theorem dX5_digest_33 : decode cX5_digest 33 = .ok (.invokevirtual 234, 3) := by decide +kernel
theorem dX5_digest_36 : decode cX5_digest 36 = .ok (.iinc 2 1, 3) := by decide +kernel
theorem dX5_digest_39 : decode cX5_digest 39 = .ok (.goto (-20), 3) := by decide +kernel
theorem dX5_digest_42 : decode cX5_digest 42 = .ok (.aload_n 0, 1) := by decide +kernel
theorem dX5_digest_43 : decode cX5_digest 43 = .ok (.aload_n 0, 1) := by decide +kernel
theorem dX5_digest_44 : decode cX5_digest 44 = .ok (.iload_n 1, 1) := by decide +kernel
theorem dX5_digest_45 : decode cX5_digest 45 = .ok (.invokevirtual 163, 3) := by decide +kernel
theorem dX5_digest_48 : decode cX5_digest 48 = .ok (.i2l, 1) := by decide +kernel
theorem dX5_digest_49 : decode cX5_digest 49 = .ok (.invokevirtual 234, 3) := by decide +kernel
theorem dX5_digest_52 : decode cX5_digest 52 = .ok (.iinc 1 1, 3) := by decide +kernel
theorem dX5_digest_55 : decode cX5_digest 55 = .ok (.goto (-46), 3) := by decide +kernel
theorem dX5_digest_58 : decode cX5_digest 58 = .ok (.aload_n 0, 1) := by decide +kernel
theorem dX5_digest_59 : decode cX5_digest 59 = .ok (.invokevirtual 141, 3) := by decide +kernel
theorem dX5_digest_62 : decode cX5_digest 62 = .ok (.ifCond .ne 7, 3) := by decide +kernel
theorem dX5_digest_65 : decode cX5_digest 65 = .ok (.aload_n 0, 1) := by decide +kernel
theorem dX5_digest_66 : decode cX5_digest 66 = .ok (.invokevirtual 240, 3) := by decide +kernel
theorem dX5_digest_69 : decode cX5_digest 69 = .ok (.iconst 0, 1) := by decide +kernel
theorem dX5_digest_70 : decode cX5_digest 70 = .ok (.istore_n 1, 1) := by decide +kernel
theorem dX5_digest_71 : decode cX5_digest 71 = .ok (.iload_n 1, 1) := by decide +kernel
theorem dX5_digest_72 : decode cX5_digest 72 = .ok (.aload_n 0, 1) := by decide +kernel
theorem dX5_digest_73 : decode cX5_digest 73 = .ok (.getfield 68, 3) := by decide +kernel
theorem dX5_digest_76 : decode cX5_digest 76 = .ok (.if_icmp .ge 20, 3) := by decide +kernel
theorem dX5_digest_79 : decode cX5_digest 79 = .ok (.aload_n 0, 1) := by decide +kernel
theorem dX5_digest_80 : decode cX5_digest 80 = .ok (.aload_n 0, 1) := by decide +kernel
theorem dX5_digest_81 : decode cX5_digest 81 = .ok (.getfield 7, 3) := by decide +kernel
theorem dX5_digest_84 : decode cX5_digest 84 = .ok (.iload_n 1, 1) := by decide +kernel
theorem dX5_digest_85 : decode cX5_digest 85 = .ok (.iaload, 1) := by decide +kernel
theorem dX5_digest_86 : decode cX5_digest 86 = .ok (.i2l, 1) := by decide +kernel
theorem dX5_digest_87 : decode cX5_digest 87 = .ok (.invokevirtual 234, 3) := by decide +kernel
theorem dX5_digest_90 : decode cX5_digest 90 = .ok (.iinc 1 1, 3) := by decide +kernel
theorem dX5_digest_93 : decode cX5_digest 93 = .ok (.goto (-22), 3) := by decide +kernel
theorem dX5_digest_96 : decode cX5_digest 96 = .ok (.iconst 0, 1) := by decide +kernel
theorem dX5_digest_97 : decode cX5_digest 97 = .ok (.istore_n 1, 1) := by decide +kernel
theorem dX5_digest_98 : decode cX5_digest 98 = .ok (.iload_n 1, 1) := by decide +kernel
theorem dX5_digest_99 : decode cX5_digest 99 = .ok (.bipush 12, 2) := by decide +kernel
theorem dX5_digest_101 : decode cX5_digest 101 = .ok (.if_icmp .ge 19, 3) := by decide +kernel
theorem dX5_digest_104 : decode cX5_digest 104 = .ok (.aload_n 0, 1) := by decide +kernel
theorem dX5_digest_105 : decode cX5_digest 105 = .ok (.aload_n 0, 1) := by decide +kernel
theorem dX5_digest_106 : decode cX5_digest 106 = .ok (.iload_n 1, 1) := by decide +kernel
theorem dX5_digest_107 : decode cX5_digest 107 = .ok (.invokevirtual 225, 3) := by decide +kernel
theorem dX5_digest_110 : decode cX5_digest 110 = .ok (.i2l, 1) := by decide +kernel
theorem dX5_digest_111 : decode cX5_digest 111 = .ok (.invokevirtual 234, 3) := by decide +kernel
theorem dX5_digest_114 : decode cX5_digest 114 = .ok (.iinc 1 1, 3) := by decide +kernel
theorem dX5_digest_117 : decode cX5_digest 117 = .ok (.goto (-19), 3) := by decide +kernel
theorem dX5_digest_120 : decode cX5_digest 120 = .ok (.aload_n 0, 1) := by decide +kernel
theorem dX5_digest_121 : decode cX5_digest 121 = .ok (.getfield 230, 3) := by decide +kernel
theorem dX5_digest_124 : decode cX5_digest 124 = .ok (.lreturn, 1) := by decide +kernel
theorem dJ9_max_7cf53_0 : decode cJ9_max_7cf53 0 = .ok (.iload_n 0, 1) := by decide +kernel
theorem dJ9_max_7cf53_1 : decode cJ9_max_7cf53 1 = .ok (.iload_n 1, 1) := by decide +kernel
theorem dJ9_max_7cf53_2 : decode cJ9_max_7cf53 2 = .ok (.if_icmp .lt 7, 3) := by decide +kernel
theorem dJ9_max_7cf53_5 : decode cJ9_max_7cf53 5 = .ok (.iload_n 0, 1) := by decide +kernel
theorem dJ9_max_7cf53_6 : decode cJ9_max_7cf53 6 = .ok (.goto 4, 3) := by decide +kernel
theorem dJ9_max_7cf53_9 : decode cJ9_max_7cf53 9 = .ok (.iload_n 1, 1) := by decide +kernel
theorem dJ9_max_7cf53_10 : decode cJ9_max_7cf53 10 = .ok (.ireturn, 1) := by decide +kernel
theorem dJ9_min_7cf53_0 : decode cJ9_min_7cf53 0 = .ok (.iload_n 0, 1) := by decide +kernel
theorem dJ9_min_7cf53_1 : decode cJ9_min_7cf53 1 = .ok (.iload_n 1, 1) := by decide +kernel
theorem dJ9_min_7cf53_2 : decode cJ9_min_7cf53 2 = .ok (.if_icmp .gt 7, 3) := by decide +kernel
theorem dJ9_min_7cf53_5 : decode cJ9_min_7cf53 5 = .ok (.iload_n 0, 1) := by decide +kernel
theorem dJ9_min_7cf53_6 : decode cJ9_min_7cf53 6 = .ok (.goto 4, 3) := by decide +kernel
theorem dJ9_min_7cf53_9 : decode cJ9_min_7cf53 9 = .ok (.iload_n 1, 1) := by decide +kernel
theorem dJ9_min_7cf53_10 : decode cJ9_min_7cf53 10 = .ok (.ireturn, 1) := by decide +kernel
theorem dL_law_0 : decode cL_law 0 = .ok (.new 7, 3) := by decide +kernel
theorem dL_law_3 : decode cL_law 3 = .ok (.dup, 1) := by decide +kernel
theorem dL_law_4 : decode cL_law 4 = .ok (.invokespecial 9, 3) := by decide +kernel
theorem dL_law_7 : decode cL_law 7 = .ok (.astore_n 1, 1) := by decide +kernel
theorem dL_law_8 : decode cL_law 8 = .ok (.new 10, 3) := by decide +kernel
theorem dL_law_11 : decode cL_law 11 = .ok (.dup, 1) := by decide +kernel
theorem dL_law_12 : decode cL_law 12 = .ok (.invokespecial 12, 3) := by decide +kernel
theorem dL_law_15 : decode cL_law 15 = .ok (.astore_n 2, 1) := by decide +kernel
theorem dL_law_16 : decode cL_law 16 = .ok (.iconst 0, 1) := by decide +kernel
theorem dL_law_17 : decode cL_law 17 = .ok (.istore_n 3, 1) := by decide +kernel
theorem dL_law_18 : decode cL_law 18 = .ok (.iload_n 3, 1) := by decide +kernel
theorem dL_law_19 : decode cL_law 19 = .ok (.aload_n 0, 1) := by decide +kernel
theorem dL_law_20 : decode cL_law 20 = .ok (.arraylength, 1) := by decide +kernel
theorem dL_law_21 : decode cL_law 21 = .ok (.iconst 4, 1) := by decide +kernel
theorem dL_law_22 : decode cL_law 22 = .ok (.isub, 1) := by decide +kernel
theorem dL_law_23 : decode cL_law 23 = .ok (.if_icmp .gt 518, 3) := by decide +kernel
theorem dL_law_26 : decode cL_law 26 = .ok (.aload_n 0, 1) := by decide +kernel
theorem dL_law_27 : decode cL_law 27 = .ok (.iload_n 3, 1) := by decide +kernel
theorem dL_law_28 : decode cL_law 28 = .ok (.iaload, 1) := by decide +kernel
theorem dL_law_29 : decode cL_law 29 = .ok (.bipush 31, 2) := by decide +kernel
theorem dL_law_31 : decode cL_law 31 = .ok (.iand, 1) := by decide +kernel
theorem dL_law_32 : decode cL_law 32 = .ok (.tableswitch 503 0 17 #[88, 111, 124, 137, 150, 183, 216, 239, 272, 305, 338, 351, 384, 397, 440, 453, 466, 489], 88) := by decide +kernel
theorem dL_law_120 : decode cL_law 120 = .ok (.aload_n 1, 1) := by decide +kernel
theorem dL_law_121 : decode cL_law 121 = .ok (.aload_n 0, 1) := by decide +kernel
theorem dL_law_122 : decode cL_law 122 = .ok (.iload_n 3, 1) := by decide +kernel
theorem dL_law_123 : decode cL_law 123 = .ok (.iconst 1, 1) := by decide +kernel
theorem dL_law_124 : decode cL_law 124 = .ok (.iadd, 1) := by decide +kernel
theorem dL_law_125 : decode cL_law 125 = .ok (.iaload, 1) := by decide +kernel
theorem dL_law_126 : decode cL_law 126 = .ok (.invokevirtual 13, 3) := by decide +kernel
theorem dL_law_129 : decode cL_law 129 = .ok (.aload_n 2, 1) := by decide +kernel
theorem dL_law_130 : decode cL_law 130 = .ok (.aload_n 0, 1) := by decide +kernel
theorem dL_law_131 : decode cL_law 131 = .ok (.iload_n 3, 1) := by decide +kernel
theorem dL_law_132 : decode cL_law 132 = .ok (.iconst 1, 1) := by decide +kernel
theorem dL_law_133 : decode cL_law 133 = .ok (.iadd, 1) := by decide +kernel
theorem dL_law_134 : decode cL_law 134 = .ok (.iaload, 1) := by decide +kernel
theorem dL_law_135 : decode cL_law 135 = .ok (.invokevirtual 17, 3) := by decide +kernel
theorem dL_law_138 : decode cL_law 138 = .ok (.if_icmp .eq 397, 3) := by decide +kernel
theorem dL_law_141 : decode cL_law 141 = .ok (.iconst 0, 1) := by decide +kernel
theorem dL_law_142 : decode cL_law 142 = .ok (.ireturn, 1) := by decide +kernel
theorem dL_law_143 : decode cL_law 143 = .ok (.aload_n 1, 1) := by decide +kernel
theorem dL_law_144 : decode cL_law 144 = .ok (.invokevirtual 18, 3) := by decide +kernel
theorem dL_law_147 : decode cL_law 147 = .ok (.aload_n 2, 1) := by decide +kernel
theorem dL_law_148 : decode cL_law 148 = .ok (.invokevirtual 22, 3) := by decide +kernel
theorem dL_law_151 : decode cL_law 151 = .ok (.if_icmp .eq 384, 3) := by decide +kernel
theorem dL_law_154 : decode cL_law 154 = .ok (.iconst 0, 1) := by decide +kernel
theorem dL_law_155 : decode cL_law 155 = .ok (.ireturn, 1) := by decide +kernel
theorem dL_law_156 : decode cL_law 156 = .ok (.aload_n 1, 1) := by decide +kernel
theorem dL_law_157 : decode cL_law 157 = .ok (.invokevirtual 23, 3) := by decide +kernel
theorem dL_law_160 : decode cL_law 160 = .ok (.aload_n 2, 1) := by decide +kernel
theorem dL_law_161 : decode cL_law 161 = .ok (.invokevirtual 26, 3) := by decide +kernel
theorem dL_law_164 : decode cL_law 164 = .ok (.if_icmp .eq 371, 3) := by decide +kernel
theorem dL_law_167 : decode cL_law 167 = .ok (.iconst 0, 1) := by decide +kernel
theorem dL_law_168 : decode cL_law 168 = .ok (.ireturn, 1) := by decide +kernel
theorem dL_law_169 : decode cL_law 169 = .ok (.aload_n 1, 1) := by decide +kernel
theorem dL_law_170 : decode cL_law 170 = .ok (.invokevirtual 27, 3) := by decide +kernel
theorem dL_law_173 : decode cL_law 173 = .ok (.aload_n 2, 1) := by decide +kernel
theorem dL_law_174 : decode cL_law 174 = .ok (.invokevirtual 30, 3) := by decide +kernel
theorem dL_law_177 : decode cL_law 177 = .ok (.if_icmp .eq 358, 3) := by decide +kernel
theorem dL_law_180 : decode cL_law 180 = .ok (.iconst 0, 1) := by decide +kernel
theorem dL_law_181 : decode cL_law 181 = .ok (.ireturn, 1) := by decide +kernel
theorem dL_law_182 : decode cL_law 182 = .ok (.aload_n 1, 1) := by decide +kernel
theorem dL_law_183 : decode cL_law 183 = .ok (.aload_n 0, 1) := by decide +kernel
theorem dL_law_184 : decode cL_law 184 = .ok (.iload_n 3, 1) := by decide +kernel
theorem dL_law_185 : decode cL_law 185 = .ok (.iconst 1, 1) := by decide +kernel
theorem dL_law_186 : decode cL_law 186 = .ok (.iadd, 1) := by decide +kernel
theorem dL_law_187 : decode cL_law 187 = .ok (.iaload, 1) := by decide +kernel
theorem dL_law_188 : decode cL_law 188 = .ok (.aload_n 0, 1) := by decide +kernel
theorem dL_law_189 : decode cL_law 189 = .ok (.iload_n 3, 1) := by decide +kernel
theorem dL_law_190 : decode cL_law 190 = .ok (.iconst 2, 1) := by decide +kernel
theorem dL_law_191 : decode cL_law 191 = .ok (.iadd, 1) := by decide +kernel
theorem dL_law_192 : decode cL_law 192 = .ok (.iaload, 1) := by decide +kernel
theorem dL_law_193 : decode cL_law 193 = .ok (.invokevirtual 31, 3) := by decide +kernel
theorem dL_law_196 : decode cL_law 196 = .ok (.aload_n 2, 1) := by decide +kernel
theorem dL_law_197 : decode cL_law 197 = .ok (.aload_n 0, 1) := by decide +kernel
theorem dL_law_198 : decode cL_law 198 = .ok (.iload_n 3, 1) := by decide +kernel
theorem dL_law_199 : decode cL_law 199 = .ok (.iconst 1, 1) := by decide +kernel
theorem dL_law_200 : decode cL_law 200 = .ok (.iadd, 1) := by decide +kernel
theorem dL_law_201 : decode cL_law 201 = .ok (.iaload, 1) := by decide +kernel
theorem dL_law_202 : decode cL_law 202 = .ok (.aload_n 0, 1) := by decide +kernel
theorem dL_law_203 : decode cL_law 203 = .ok (.iload_n 3, 1) := by decide +kernel
theorem dL_law_204 : decode cL_law 204 = .ok (.iconst 2, 1) := by decide +kernel
theorem dL_law_205 : decode cL_law 205 = .ok (.iadd, 1) := by decide +kernel
theorem dL_law_206 : decode cL_law 206 = .ok (.iaload, 1) := by decide +kernel
theorem dL_law_207 : decode cL_law 207 = .ok (.invokevirtual 35, 3) := by decide +kernel
theorem dL_law_210 : decode cL_law 210 = .ok (.if_icmp .eq 325, 3) := by decide +kernel
theorem dL_law_213 : decode cL_law 213 = .ok (.iconst 0, 1) := by decide +kernel
theorem dL_law_214 : decode cL_law 214 = .ok (.ireturn, 1) := by decide +kernel
theorem dL_law_215 : decode cL_law 215 = .ok (.aload_n 1, 1) := by decide +kernel
theorem dL_law_216 : decode cL_law 216 = .ok (.aload_n 0, 1) := by decide +kernel
theorem dL_law_217 : decode cL_law 217 = .ok (.iload_n 3, 1) := by decide +kernel
theorem dL_law_218 : decode cL_law 218 = .ok (.iconst 1, 1) := by decide +kernel
theorem dL_law_219 : decode cL_law 219 = .ok (.iadd, 1) := by decide +kernel
theorem dL_law_220 : decode cL_law 220 = .ok (.iaload, 1) := by decide +kernel
theorem dL_law_221 : decode cL_law 221 = .ok (.aload_n 0, 1) := by decide +kernel
theorem dL_law_222 : decode cL_law 222 = .ok (.iload_n 3, 1) := by decide +kernel
theorem dL_law_223 : decode cL_law 223 = .ok (.iconst 2, 1) := by decide +kernel
theorem dL_law_224 : decode cL_law 224 = .ok (.iadd, 1) := by decide +kernel
theorem dL_law_225 : decode cL_law 225 = .ok (.iaload, 1) := by decide +kernel
theorem dL_law_226 : decode cL_law 226 = .ok (.invokevirtual 36, 3) := by decide +kernel
theorem dL_law_229 : decode cL_law 229 = .ok (.aload_n 2, 1) := by decide +kernel
theorem dL_law_230 : decode cL_law 230 = .ok (.aload_n 0, 1) := by decide +kernel
theorem dL_law_231 : decode cL_law 231 = .ok (.iload_n 3, 1) := by decide +kernel
theorem dL_law_232 : decode cL_law 232 = .ok (.iconst 1, 1) := by decide +kernel
theorem dL_law_233 : decode cL_law 233 = .ok (.iadd, 1) := by decide +kernel
theorem dL_law_234 : decode cL_law 234 = .ok (.iaload, 1) := by decide +kernel
theorem dL_law_235 : decode cL_law 235 = .ok (.aload_n 0, 1) := by decide +kernel
theorem dL_law_236 : decode cL_law 236 = .ok (.iload_n 3, 1) := by decide +kernel
theorem dL_law_237 : decode cL_law 237 = .ok (.iconst 2, 1) := by decide +kernel
theorem dL_law_238 : decode cL_law 238 = .ok (.iadd, 1) := by decide +kernel
theorem dL_law_239 : decode cL_law 239 = .ok (.iaload, 1) := by decide +kernel
theorem dL_law_240 : decode cL_law 240 = .ok (.invokevirtual 39, 3) := by decide +kernel
theorem dL_law_243 : decode cL_law 243 = .ok (.if_icmp .eq 292, 3) := by decide +kernel
theorem dL_law_246 : decode cL_law 246 = .ok (.iconst 0, 1) := by decide +kernel
theorem dL_law_247 : decode cL_law 247 = .ok (.ireturn, 1) := by decide +kernel
theorem dL_law_248 : decode cL_law 248 = .ok (.aload_n 1, 1) := by decide +kernel
theorem dL_law_249 : decode cL_law 249 = .ok (.aload_n 0, 1) := by decide +kernel
theorem dL_law_250 : decode cL_law 250 = .ok (.iload_n 3, 1) := by decide +kernel
theorem dL_law_251 : decode cL_law 251 = .ok (.iconst 1, 1) := by decide +kernel
theorem dL_law_252 : decode cL_law 252 = .ok (.iadd, 1) := by decide +kernel
theorem dL_law_253 : decode cL_law 253 = .ok (.iaload, 1) := by decide +kernel
theorem dL_law_254 : decode cL_law 254 = .ok (.invokevirtual 40, 3) := by decide +kernel
theorem dL_law_257 : decode cL_law 257 = .ok (.aload_n 2, 1) := by decide +kernel
theorem dL_law_258 : decode cL_law 258 = .ok (.aload_n 0, 1) := by decide +kernel
theorem dL_law_259 : decode cL_law 259 = .ok (.iload_n 3, 1) := by decide +kernel
theorem dL_law_260 : decode cL_law 260 = .ok (.iconst 1, 1) := by decide +kernel
theorem dL_law_261 : decode cL_law 261 = .ok (.iadd, 1) := by decide +kernel
theorem dL_law_262 : decode cL_law 262 = .ok (.iaload, 1) := by decide +kernel
theorem dL_law_263 : decode cL_law 263 = .ok (.invokevirtual 43, 3) := by decide +kernel
theorem dL_law_266 : decode cL_law 266 = .ok (.if_icmp .eq 269, 3) := by decide +kernel
theorem dL_law_269 : decode cL_law 269 = .ok (.iconst 0, 1) := by decide +kernel
theorem dL_law_270 : decode cL_law 270 = .ok (.ireturn, 1) := by decide +kernel
theorem dL_law_271 : decode cL_law 271 = .ok (.aload_n 1, 1) := by decide +kernel
theorem dL_law_272 : decode cL_law 272 = .ok (.aload_n 0, 1) := by decide +kernel
theorem dL_law_273 : decode cL_law 273 = .ok (.iload_n 3, 1) := by decide +kernel
theorem dL_law_274 : decode cL_law 274 = .ok (.iconst 1, 1) := by decide +kernel
theorem dL_law_275 : decode cL_law 275 = .ok (.iadd, 1) := by decide +kernel
theorem dL_law_276 : decode cL_law 276 = .ok (.iaload, 1) := by decide +kernel
theorem dL_law_277 : decode cL_law 277 = .ok (.aload_n 0, 1) := by decide +kernel
theorem dL_law_278 : decode cL_law 278 = .ok (.iload_n 3, 1) := by decide +kernel
theorem dL_law_279 : decode cL_law 279 = .ok (.iconst 2, 1) := by decide +kernel
theorem dL_law_280 : decode cL_law 280 = .ok (.iadd, 1) := by decide +kernel
theorem dL_law_281 : decode cL_law 281 = .ok (.iaload, 1) := by decide +kernel
theorem dL_law_282 : decode cL_law 282 = .ok (.invokevirtual 44, 3) := by decide +kernel
theorem dL_law_285 : decode cL_law 285 = .ok (.aload_n 2, 1) := by decide +kernel
theorem dL_law_286 : decode cL_law 286 = .ok (.aload_n 0, 1) := by decide +kernel
theorem dL_law_287 : decode cL_law 287 = .ok (.iload_n 3, 1) := by decide +kernel
theorem dL_law_288 : decode cL_law 288 = .ok (.iconst 1, 1) := by decide +kernel
theorem dL_law_289 : decode cL_law 289 = .ok (.iadd, 1) := by decide +kernel
theorem dL_law_290 : decode cL_law 290 = .ok (.iaload, 1) := by decide +kernel
theorem dL_law_291 : decode cL_law 291 = .ok (.aload_n 0, 1) := by decide +kernel
theorem dL_law_292 : decode cL_law 292 = .ok (.iload_n 3, 1) := by decide +kernel
theorem dL_law_293 : decode cL_law 293 = .ok (.iconst 2, 1) := by decide +kernel
theorem dL_law_294 : decode cL_law 294 = .ok (.iadd, 1) := by decide +kernel
theorem dL_law_295 : decode cL_law 295 = .ok (.iaload, 1) := by decide +kernel
theorem dL_law_296 : decode cL_law 296 = .ok (.invokevirtual 47, 3) := by decide +kernel
theorem dL_law_299 : decode cL_law 299 = .ok (.if_icmp .eq 236, 3) := by decide +kernel
theorem dL_law_302 : decode cL_law 302 = .ok (.iconst 0, 1) := by decide +kernel
theorem dL_law_303 : decode cL_law 303 = .ok (.ireturn, 1) := by decide +kernel
theorem dL_law_304 : decode cL_law 304 = .ok (.aload_n 1, 1) := by decide +kernel
theorem dL_law_305 : decode cL_law 305 = .ok (.aload_n 0, 1) := by decide +kernel
theorem dL_law_306 : decode cL_law 306 = .ok (.iload_n 3, 1) := by decide +kernel
theorem dL_law_307 : decode cL_law 307 = .ok (.iconst 1, 1) := by decide +kernel
theorem dL_law_308 : decode cL_law 308 = .ok (.iadd, 1) := by decide +kernel
theorem dL_law_309 : decode cL_law 309 = .ok (.iaload, 1) := by decide +kernel
theorem dL_law_310 : decode cL_law 310 = .ok (.aload_n 0, 1) := by decide +kernel
theorem dL_law_311 : decode cL_law 311 = .ok (.iload_n 3, 1) := by decide +kernel
theorem dL_law_312 : decode cL_law 312 = .ok (.iconst 2, 1) := by decide +kernel
theorem dL_law_313 : decode cL_law 313 = .ok (.iadd, 1) := by decide +kernel
theorem dL_law_314 : decode cL_law 314 = .ok (.iaload, 1) := by decide +kernel
theorem dL_law_315 : decode cL_law 315 = .ok (.invokevirtual 48, 3) := by decide +kernel
theorem dL_law_318 : decode cL_law 318 = .ok (.aload_n 2, 1) := by decide +kernel
theorem dL_law_319 : decode cL_law 319 = .ok (.aload_n 0, 1) := by decide +kernel
theorem dL_law_320 : decode cL_law 320 = .ok (.iload_n 3, 1) := by decide +kernel
theorem dL_law_321 : decode cL_law 321 = .ok (.iconst 1, 1) := by decide +kernel
theorem dL_law_322 : decode cL_law 322 = .ok (.iadd, 1) := by decide +kernel
theorem dL_law_323 : decode cL_law 323 = .ok (.iaload, 1) := by decide +kernel
theorem dL_law_324 : decode cL_law 324 = .ok (.aload_n 0, 1) := by decide +kernel
theorem dL_law_325 : decode cL_law 325 = .ok (.iload_n 3, 1) := by decide +kernel
theorem dL_law_326 : decode cL_law 326 = .ok (.iconst 2, 1) := by decide +kernel
theorem dL_law_327 : decode cL_law 327 = .ok (.iadd, 1) := by decide +kernel
theorem dL_law_328 : decode cL_law 328 = .ok (.iaload, 1) := by decide +kernel
theorem dL_law_329 : decode cL_law 329 = .ok (.invokevirtual 51, 3) := by decide +kernel
theorem dL_law_332 : decode cL_law 332 = .ok (.if_icmp .eq 203, 3) := by decide +kernel
theorem dL_law_335 : decode cL_law 335 = .ok (.iconst 0, 1) := by decide +kernel
theorem dL_law_336 : decode cL_law 336 = .ok (.ireturn, 1) := by decide +kernel
theorem dL_law_337 : decode cL_law 337 = .ok (.aload_n 1, 1) := by decide +kernel
theorem dL_law_338 : decode cL_law 338 = .ok (.aload_n 0, 1) := by decide +kernel
theorem dL_law_339 : decode cL_law 339 = .ok (.iload_n 3, 1) := by decide +kernel
theorem dL_law_340 : decode cL_law 340 = .ok (.iconst 1, 1) := by decide +kernel
theorem dL_law_341 : decode cL_law 341 = .ok (.iadd, 1) := by decide +kernel
theorem dL_law_342 : decode cL_law 342 = .ok (.iaload, 1) := by decide +kernel
theorem dL_law_343 : decode cL_law 343 = .ok (.aload_n 0, 1) := by decide +kernel
theorem dL_law_344 : decode cL_law 344 = .ok (.iload_n 3, 1) := by decide +kernel
theorem dL_law_345 : decode cL_law 345 = .ok (.iconst 2, 1) := by decide +kernel
theorem dL_law_346 : decode cL_law 346 = .ok (.iadd, 1) := by decide +kernel
theorem dL_law_347 : decode cL_law 347 = .ok (.iaload, 1) := by decide +kernel
theorem dL_law_348 : decode cL_law 348 = .ok (.invokevirtual 52, 3) := by decide +kernel
theorem dL_law_351 : decode cL_law 351 = .ok (.aload_n 2, 1) := by decide +kernel
theorem dL_law_352 : decode cL_law 352 = .ok (.aload_n 0, 1) := by decide +kernel
theorem dL_law_353 : decode cL_law 353 = .ok (.iload_n 3, 1) := by decide +kernel
theorem dL_law_354 : decode cL_law 354 = .ok (.iconst 1, 1) := by decide +kernel
theorem dL_law_355 : decode cL_law 355 = .ok (.iadd, 1) := by decide +kernel
theorem dL_law_356 : decode cL_law 356 = .ok (.iaload, 1) := by decide +kernel
theorem dL_law_357 : decode cL_law 357 = .ok (.aload_n 0, 1) := by decide +kernel
theorem dL_law_358 : decode cL_law 358 = .ok (.iload_n 3, 1) := by decide +kernel
theorem dL_law_359 : decode cL_law 359 = .ok (.iconst 2, 1) := by decide +kernel
theorem dL_law_360 : decode cL_law 360 = .ok (.iadd, 1) := by decide +kernel
theorem dL_law_361 : decode cL_law 361 = .ok (.iaload, 1) := by decide +kernel
theorem dL_law_362 : decode cL_law 362 = .ok (.invokevirtual 55, 3) := by decide +kernel
theorem dL_law_365 : decode cL_law 365 = .ok (.if_icmp .eq 170, 3) := by decide +kernel
theorem dL_law_368 : decode cL_law 368 = .ok (.iconst 0, 1) := by decide +kernel
theorem dL_law_369 : decode cL_law 369 = .ok (.ireturn, 1) := by decide +kernel
theorem dL_law_370 : decode cL_law 370 = .ok (.aload_n 1, 1) := by decide +kernel
theorem dL_law_371 : decode cL_law 371 = .ok (.invokevirtual 56, 3) := by decide +kernel
theorem dL_law_374 : decode cL_law 374 = .ok (.aload_n 2, 1) := by decide +kernel
theorem dL_law_375 : decode cL_law 375 = .ok (.invokevirtual 59, 3) := by decide +kernel
theorem dL_law_378 : decode cL_law 378 = .ok (.if_icmp .eq 157, 3) := by decide +kernel
theorem dL_law_381 : decode cL_law 381 = .ok (.iconst 0, 1) := by decide +kernel
theorem dL_law_382 : decode cL_law 382 = .ok (.ireturn, 1) := by decide +kernel
theorem dL_law_383 : decode cL_law 383 = .ok (.aload_n 1, 1) := by decide +kernel
theorem dL_law_384 : decode cL_law 384 = .ok (.aload_n 0, 1) := by decide +kernel
theorem dL_law_385 : decode cL_law 385 = .ok (.iload_n 3, 1) := by decide +kernel
theorem dL_law_386 : decode cL_law 386 = .ok (.iconst 1, 1) := by decide +kernel
theorem dL_law_387 : decode cL_law 387 = .ok (.iadd, 1) := by decide +kernel
theorem dL_law_388 : decode cL_law 388 = .ok (.iaload, 1) := by decide +kernel
theorem dL_law_389 : decode cL_law 389 = .ok (.aload_n 0, 1) := by decide +kernel
theorem dL_law_390 : decode cL_law 390 = .ok (.iload_n 3, 1) := by decide +kernel
theorem dL_law_391 : decode cL_law 391 = .ok (.iconst 2, 1) := by decide +kernel
theorem dL_law_392 : decode cL_law 392 = .ok (.iadd, 1) := by decide +kernel
theorem dL_law_393 : decode cL_law 393 = .ok (.iaload, 1) := by decide +kernel
theorem dL_law_394 : decode cL_law 394 = .ok (.invokevirtual 60, 3) := by decide +kernel
theorem dL_law_397 : decode cL_law 397 = .ok (.aload_n 2, 1) := by decide +kernel
theorem dL_law_398 : decode cL_law 398 = .ok (.aload_n 0, 1) := by decide +kernel
theorem dL_law_399 : decode cL_law 399 = .ok (.iload_n 3, 1) := by decide +kernel
theorem dL_law_400 : decode cL_law 400 = .ok (.iconst 1, 1) := by decide +kernel
theorem dL_law_401 : decode cL_law 401 = .ok (.iadd, 1) := by decide +kernel
theorem dL_law_402 : decode cL_law 402 = .ok (.iaload, 1) := by decide +kernel
theorem dL_law_403 : decode cL_law 403 = .ok (.aload_n 0, 1) := by decide +kernel
theorem dL_law_404 : decode cL_law 404 = .ok (.iload_n 3, 1) := by decide +kernel
theorem dL_law_405 : decode cL_law 405 = .ok (.iconst 2, 1) := by decide +kernel
theorem dL_law_406 : decode cL_law 406 = .ok (.iadd, 1) := by decide +kernel
theorem dL_law_407 : decode cL_law 407 = .ok (.iaload, 1) := by decide +kernel
theorem dL_law_408 : decode cL_law 408 = .ok (.invokevirtual 63, 3) := by decide +kernel
theorem dL_law_411 : decode cL_law 411 = .ok (.if_icmp .eq 124, 3) := by decide +kernel
theorem dL_law_414 : decode cL_law 414 = .ok (.iconst 0, 1) := by decide +kernel
theorem dL_law_415 : decode cL_law 415 = .ok (.ireturn, 1) := by decide +kernel
theorem dL_law_416 : decode cL_law 416 = .ok (.aload_n 1, 1) := by decide +kernel
theorem dL_law_417 : decode cL_law 417 = .ok (.invokevirtual 64, 3) := by decide +kernel
theorem dL_law_420 : decode cL_law 420 = .ok (.aload_n 2, 1) := by decide +kernel
theorem dL_law_421 : decode cL_law 421 = .ok (.invokevirtual 67, 3) := by decide +kernel
theorem dL_law_424 : decode cL_law 424 = .ok (.if_icmp .eq 111, 3) := by decide +kernel
theorem dL_law_427 : decode cL_law 427 = .ok (.iconst 0, 1) := by decide +kernel
theorem dL_law_428 : decode cL_law 428 = .ok (.ireturn, 1) := by decide +kernel
theorem dL_law_429 : decode cL_law 429 = .ok (.aload_n 1, 1) := by decide +kernel
theorem dL_law_430 : decode cL_law 430 = .ok (.aload_n 0, 1) := by decide +kernel
theorem dL_law_431 : decode cL_law 431 = .ok (.iload_n 3, 1) := by decide +kernel
theorem dL_law_432 : decode cL_law 432 = .ok (.iconst 1, 1) := by decide +kernel
theorem dL_law_433 : decode cL_law 433 = .ok (.iadd, 1) := by decide +kernel
theorem dL_law_434 : decode cL_law 434 = .ok (.iaload, 1) := by decide +kernel
theorem dL_law_435 : decode cL_law 435 = .ok (.aload_n 0, 1) := by decide +kernel
theorem dL_law_436 : decode cL_law 436 = .ok (.iload_n 3, 1) := by decide +kernel
theorem dL_law_437 : decode cL_law 437 = .ok (.iconst 2, 1) := by decide +kernel
theorem dL_law_438 : decode cL_law 438 = .ok (.iadd, 1) := by decide +kernel
theorem dL_law_439 : decode cL_law 439 = .ok (.iaload, 1) := by decide +kernel
theorem dL_law_440 : decode cL_law 440 = .ok (.aload_n 0, 1) := by decide +kernel
theorem dL_law_441 : decode cL_law 441 = .ok (.iload_n 3, 1) := by decide +kernel
theorem dL_law_442 : decode cL_law 442 = .ok (.iconst 3, 1) := by decide +kernel
theorem dL_law_443 : decode cL_law 443 = .ok (.iadd, 1) := by decide +kernel
theorem dL_law_444 : decode cL_law 444 = .ok (.iaload, 1) := by decide +kernel
theorem dL_law_445 : decode cL_law 445 = .ok (.invokevirtual 68, 3) := by decide +kernel
theorem dL_law_448 : decode cL_law 448 = .ok (.aload_n 2, 1) := by decide +kernel
theorem dL_law_449 : decode cL_law 449 = .ok (.aload_n 0, 1) := by decide +kernel
theorem dL_law_450 : decode cL_law 450 = .ok (.iload_n 3, 1) := by decide +kernel
theorem dL_law_451 : decode cL_law 451 = .ok (.iconst 1, 1) := by decide +kernel
theorem dL_law_452 : decode cL_law 452 = .ok (.iadd, 1) := by decide +kernel
theorem dL_law_453 : decode cL_law 453 = .ok (.iaload, 1) := by decide +kernel
theorem dL_law_454 : decode cL_law 454 = .ok (.aload_n 0, 1) := by decide +kernel
theorem dL_law_455 : decode cL_law 455 = .ok (.iload_n 3, 1) := by decide +kernel
theorem dL_law_456 : decode cL_law 456 = .ok (.iconst 2, 1) := by decide +kernel
theorem dL_law_457 : decode cL_law 457 = .ok (.iadd, 1) := by decide +kernel
theorem dL_law_458 : decode cL_law 458 = .ok (.iaload, 1) := by decide +kernel
theorem dL_law_459 : decode cL_law 459 = .ok (.aload_n 0, 1) := by decide +kernel
theorem dL_law_460 : decode cL_law 460 = .ok (.iload_n 3, 1) := by decide +kernel
theorem dL_law_461 : decode cL_law 461 = .ok (.iconst 3, 1) := by decide +kernel
theorem dL_law_462 : decode cL_law 462 = .ok (.iadd, 1) := by decide +kernel
theorem dL_law_463 : decode cL_law 463 = .ok (.iaload, 1) := by decide +kernel
theorem dL_law_464 : decode cL_law 464 = .ok (.invokevirtual 72, 3) := by decide +kernel
theorem dL_law_467 : decode cL_law 467 = .ok (.if_icmp .eq 68, 3) := by decide +kernel
theorem dL_law_470 : decode cL_law 470 = .ok (.iconst 0, 1) := by decide +kernel
theorem dL_law_471 : decode cL_law 471 = .ok (.ireturn, 1) := by decide +kernel
theorem dL_law_472 : decode cL_law 472 = .ok (.aload_n 1, 1) := by decide +kernel
theorem dL_law_473 : decode cL_law 473 = .ok (.invokevirtual 73, 3) := by decide +kernel
theorem dL_law_476 : decode cL_law 476 = .ok (.aload_n 2, 1) := by decide +kernel
theorem dL_law_477 : decode cL_law 477 = .ok (.invokevirtual 76, 3) := by decide +kernel
theorem dL_law_480 : decode cL_law 480 = .ok (.if_icmp .eq 55, 3) := by decide +kernel
theorem dL_law_483 : decode cL_law 483 = .ok (.iconst 0, 1) := by decide +kernel
theorem dL_law_484 : decode cL_law 484 = .ok (.ireturn, 1) := by decide +kernel
theorem dL_law_485 : decode cL_law 485 = .ok (.aload_n 1, 1) := by decide +kernel
theorem dL_law_486 : decode cL_law 486 = .ok (.invokevirtual 77, 3) := by decide +kernel
theorem dL_law_489 : decode cL_law 489 = .ok (.aload_n 2, 1) := by decide +kernel
theorem dL_law_490 : decode cL_law 490 = .ok (.invokevirtual 80, 3) := by decide +kernel
theorem dL_law_493 : decode cL_law 493 = .ok (.if_icmp .eq 42, 3) := by decide +kernel
theorem dL_law_496 : decode cL_law 496 = .ok (.iconst 0, 1) := by decide +kernel
theorem dL_law_497 : decode cL_law 497 = .ok (.ireturn, 1) := by decide +kernel
theorem dL_law_498 : decode cL_law 498 = .ok (.aload_n 1, 1) := by decide +kernel
theorem dL_law_499 : decode cL_law 499 = .ok (.aload_n 0, 1) := by decide +kernel
theorem dL_law_500 : decode cL_law 500 = .ok (.iload_n 3, 1) := by decide +kernel
theorem dL_law_501 : decode cL_law 501 = .ok (.iconst 1, 1) := by decide +kernel
theorem dL_law_502 : decode cL_law 502 = .ok (.iadd, 1) := by decide +kernel
theorem dL_law_503 : decode cL_law 503 = .ok (.iaload, 1) := by decide +kernel
theorem dL_law_504 : decode cL_law 504 = .ok (.invokevirtual 81, 3) := by decide +kernel
theorem dL_law_507 : decode cL_law 507 = .ok (.aload_n 2, 1) := by decide +kernel
theorem dL_law_508 : decode cL_law 508 = .ok (.aload_n 0, 1) := by decide +kernel
theorem dL_law_509 : decode cL_law 509 = .ok (.iload_n 3, 1) := by decide +kernel
theorem dL_law_510 : decode cL_law 510 = .ok (.iconst 1, 1) := by decide +kernel
theorem dL_law_511 : decode cL_law 511 = .ok (.iadd, 1) := by decide +kernel
theorem dL_law_512 : decode cL_law 512 = .ok (.iaload, 1) := by decide +kernel
theorem dL_law_513 : decode cL_law 513 = .ok (.invokevirtual 84, 3) := by decide +kernel
theorem dL_law_516 : decode cL_law 516 = .ok (.if_icmp .eq 19, 3) := by decide +kernel
theorem dL_law_519 : decode cL_law 519 = .ok (.iconst 0, 1) := by decide +kernel
theorem dL_law_520 : decode cL_law 520 = .ok (.ireturn, 1) := by decide +kernel
theorem dL_law_521 : decode cL_law 521 = .ok (.aload_n 1, 1) := by decide +kernel
theorem dL_law_522 : decode cL_law 522 = .ok (.invokevirtual 85, 3) := by decide +kernel
theorem dL_law_525 : decode cL_law 525 = .ok (.aload_n 2, 1) := by decide +kernel
theorem dL_law_526 : decode cL_law 526 = .ok (.invokevirtual 89, 3) := by decide +kernel
theorem dL_law_529 : decode cL_law 529 = .ok (.lcmp, 1) := by decide +kernel
theorem dL_law_530 : decode cL_law 530 = .ok (.ifCond .eq 5, 3) := by decide +kernel
theorem dL_law_533 : decode cL_law 533 = .ok (.iconst 0, 1) := by decide +kernel
theorem dL_law_534 : decode cL_law 534 = .ok (.ireturn, 1) := by decide +kernel
theorem dL_law_535 : decode cL_law 535 = .ok (.iinc 3 4, 3) := by decide +kernel
theorem dL_law_538 : decode cL_law 538 = .ok (.goto (-520), 3) := by decide +kernel
theorem dL_law_541 : decode cL_law 541 = .ok (.iconst 1, 1) := by decide +kernel
theorem dL_law_542 : decode cL_law 542 = .ok (.ireturn, 1) := by decide +kernel
abbrev vwCl : List vw_C := [(RX0, TX0, 4), (RX1, TX1, 10), (RX2, TX2, 2), (RX3, TX3, 12), (RX4, TX4, 8), (RX5, TX5, 35)]
