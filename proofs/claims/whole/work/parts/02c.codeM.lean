theorem dX6_init_0 : decode cX6_init 0 = .ok (.aload_n 0, 1) := by decide +kernel
theorem dX6_init_1 : decode cX6_init 1 = .ok (.invokespecial 1, 3) := by decide +kernel
theorem dX6_init_4 : decode cX6_init 4 = .ok (.aload_n 0, 1) := by decide +kernel
theorem dX6_init_5 : decode cX6_init 5 = .ok (.bipush 12, 2) := by decide +kernel
theorem dX6_init_7 : decode cX6_init 7 = .ok (.putfield 7, 3) := by decide +kernel
theorem dX6_init_10 : decode cX6_init 10 = .ok (.aload_n 0, 1) := by decide +kernel
theorem dX6_init_11 : decode cX6_init 11 = .ok (.bipush 24, 2) := by decide +kernel
theorem dX6_init_13 : decode cX6_init 13 = .ok (.newarray .int, 2) := by decide +kernel
theorem dX6_init_15 : decode cX6_init 15 = .ok (.putfield 13, 3) := by decide +kernel
theorem dX6_init_18 : decode cX6_init 18 = .ok (.aload_n 0, 1) := by decide +kernel
theorem dX6_init_19 : decode cX6_init 19 = .ok (.bipush 24, 2) := by decide +kernel
theorem dX6_init_21 : decode cX6_init 21 = .ok (.newarray .int, 2) := by decide +kernel
theorem dX6_init_23 : decode cX6_init 23 = .ok (.putfield 17, 3) := by decide +kernel
theorem dX6_init_26 : decode cX6_init 26 = .ok (.aload_n 0, 1) := by decide +kernel
theorem dX6_init_27 : decode cX6_init 27 = .ok (.bipush 24, 2) := by decide +kernel
theorem dX6_init_29 : decode cX6_init 29 = .ok (.newarray .int, 2) := by decide +kernel
theorem dX6_init_31 : decode cX6_init 31 = .ok (.putfield 20, 3) := by decide +kernel
theorem dX6_init_34 : decode cX6_init 34 = .ok (.aload_n 0, 1) := by decide +kernel
theorem dX6_init_35 : decode cX6_init 35 = .ok (.bipush 24, 2) := by decide +kernel
theorem dX6_init_37 : decode cX6_init 37 = .ok (.newarray .int, 2) := by decide +kernel
theorem dX6_init_39 : decode cX6_init 39 = .ok (.putfield 23, 3) := by decide +kernel
theorem dX6_init_42 : decode cX6_init 42 = .ok (.aload_n 0, 1) := by decide +kernel
theorem dX6_init_43 : decode cX6_init 43 = .ok (.bipush 60, 2) := by decide +kernel
theorem dX6_init_45 : decode cX6_init 45 = .ok (.newarray .int, 2) := by decide +kernel
theorem dX6_init_47 : decode cX6_init 47 = .ok (.putfield 26, 3) := by decide +kernel
theorem dX6_init_50 : decode cX6_init 50 = .ok (.aload_n 0, 1) := by decide +kernel
theorem dX6_init_51 : decode cX6_init 51 = .ok (.bipush 60, 2) := by decide +kernel
theorem dX6_init_53 : decode cX6_init 53 = .ok (.newarray .int, 2) := by decide +kernel
theorem dX6_init_55 : decode cX6_init 55 = .ok (.putfield 29, 3) := by decide +kernel
theorem dX6_init_58 : decode cX6_init 58 = .ok (.aload_n 0, 1) := by decide +kernel
theorem dX6_init_59 : decode cX6_init 59 = .ok (.sipush 8000, 3) := by decide +kernel
theorem dX6_init_62 : decode cX6_init 62 = .ok (.putfield 32, 3) := by decide +kernel
theorem dX6_init_65 : decode cX6_init 65 = .ok (.aload_n 0, 1) := by decide +kernel
theorem dX6_init_66 : decode cX6_init 66 = .ok (.iconst 4, 1) := by decide +kernel
theorem dX6_init_67 : decode cX6_init 67 = .ok (.newarray .int, 2) := by decide +kernel
theorem dX6_init_69 : decode cX6_init 69 = .ok (.putfield 35, 3) := by decide +kernel
theorem dX6_init_72 : decode cX6_init 72 = .ok (.aload_n 0, 1) := by decide +kernel
theorem dX6_init_73 : decode cX6_init 73 = .ok (.sipush 160, 3) := by decide +kernel
theorem dX6_init_76 : decode cX6_init 76 = .ok (.newarray .int, 2) := by decide +kernel
theorem dX6_init_78 : decode cX6_init 78 = .ok (.putfield 38, 3) := by decide +kernel
theorem dX6_init_81 : decode cX6_init 81 = .ok (.aload_n 0, 1) := by decide +kernel
theorem dX6_init_82 : decode cX6_init 82 = .ok (.sipush 160, 3) := by decide +kernel
theorem dX6_init_85 : decode cX6_init 85 = .ok (.newarray .int, 2) := by decide +kernel
theorem dX6_init_87 : decode cX6_init 87 = .ok (.putfield 41, 3) := by decide +kernel
theorem dX6_init_90 : decode cX6_init 90 = .ok (.aload_n 0, 1) := by decide +kernel
theorem dX6_init_91 : decode cX6_init 91 = .ok (.sipush 160, 3) := by decide +kernel
theorem dX6_init_94 : decode cX6_init 94 = .ok (.newarray .int, 2) := by decide +kernel
theorem dX6_init_96 : decode cX6_init 96 = .ok (.putfield 44, 3) := by decide +kernel
theorem dX6_init_99 : decode cX6_init 99 = .ok (.aload_n 0, 1) := by decide +kernel
theorem dX6_init_100 : decode cX6_init 100 = .ok (.iconst 1, 1) := by decide +kernel
theorem dX6_init_101 : decode cX6_init 101 = .ok (.putfield 47, 3) := by decide +kernel
theorem dX6_init_104 : decode cX6_init 104 = .ok (.aload_n 0, 1) := by decide +kernel
theorem dX6_init_105 : decode cX6_init 105 = .ok (.bipush 24, 2) := by decide +kernel
theorem dX6_init_107 : decode cX6_init 107 = .ok (.newarray .int, 2) := by decide +kernel
theorem dX6_init_109 : decode cX6_init 109 = .ok (.putfield 50, 3) := by decide +kernel
theorem dX6_init_112 : decode cX6_init 112 = .ok (.aload_n 0, 1) := by decide +kernel
theorem dX6_init_113 : decode cX6_init 113 = .ok (.sipush 576, 3) := by decide +kernel
theorem dX6_init_116 : decode cX6_init 116 = .ok (.newarray .int, 2) := by decide +kernel
theorem dX6_init_118 : decode cX6_init 118 = .ok (.putfield 53, 3) := by decide +kernel
theorem dX6_init_121 : decode cX6_init 121 = .ok (.aload_n 0, 1) := by decide +kernel
theorem dX6_init_122 : decode cX6_init 122 = .ok (.sipush 650, 3) := by decide +kernel
theorem dX6_init_125 : decode cX6_init 125 = .ok (.newarray .int, 2) := by decide +kernel
theorem dX6_init_127 : decode cX6_init 127 = .ok (.putfield 56, 3) := by decide +kernel
theorem dX6_init_130 : decode cX6_init 130 = .ok (.aload_n 0, 1) := by decide +kernel
theorem dX6_init_131 : decode cX6_init 131 = .ok (.bipush 24, 2) := by decide +kernel
theorem dX6_init_133 : decode cX6_init 133 = .ok (.newarray .int, 2) := by decide +kernel
theorem dX6_init_135 : decode cX6_init 135 = .ok (.putfield 59, 3) := by decide +kernel
theorem dX6_init_138 : decode cX6_init 138 = .ok (.iconst 0, 1) := by decide +kernel
theorem dX6_init_139 : decode cX6_init 139 = .ok (.istore_n 1, 1) := by decide +kernel
theorem dX6_init_140 : decode cX6_init 140 = .ok (.iload_n 1, 1) := by decide +kernel
theorem dX6_init_141 : decode cX6_init 141 = .ok (.bipush 24, 2) := by decide +kernel
theorem dX6_init_143 : decode cX6_init 143 = .ok (.if_icmp .ge 42, 3) := by decide +kernel
theorem dX6_init_146 : decode cX6_init 146 = .ok (.aload_n 0, 1) := by decide +kernel
theorem dX6_init_147 : decode cX6_init 147 = .ok (.getfield 13, 3) := by decide +kernel
theorem dX6_init_150 : decode cX6_init 150 = .ok (.iload_n 1, 1) := by decide +kernel
theorem dX6_init_151 : decode cX6_init 151 = .ok (.iload_n 1, 1) := by decide +kernel
theorem dX6_init_152 : decode cX6_init 152 = .ok (.iastore, 1) := by decide +kernel
theorem dX6_init_153 : decode cX6_init 153 = .ok (.aload_n 0, 1) := by decide +kernel
theorem dX6_init_154 : decode cX6_init 154 = .ok (.getfield 17, 3) := by decide +kernel
theorem dX6_init_157 : decode cX6_init 157 = .ok (.iload_n 1, 1) := by decide +kernel
theorem dX6_init_158 : decode cX6_init 158 = .ok (.sipush 5000, 3) := by decide +kernel
theorem dX6_init_161 : decode cX6_init 161 = .ok (.iastore, 1) := by decide +kernel
theorem dX6_init_162 : decode cX6_init 162 = .ok (.aload_n 0, 1) := by decide +kernel
theorem dX6_init_163 : decode cX6_init 163 = .ok (.getfield 23, 3) := by decide +kernel
theorem dX6_init_166 : decode cX6_init 166 = .ok (.iload_n 1, 1) := by decide +kernel
theorem dX6_init_167 : decode cX6_init 167 = .ok (.sipush 4000, 3) := by decide +kernel
theorem dX6_init_170 : decode cX6_init 170 = .ok (.iastore, 1) := by decide +kernel
theorem dX6_init_171 : decode cX6_init 171 = .ok (.aload_n 0, 1) := by decide +kernel
theorem dX6_init_172 : decode cX6_init 172 = .ok (.getfield 50, 3) := by decide +kernel
theorem dX6_init_175 : decode cX6_init 175 = .ok (.iload_n 1, 1) := by decide +kernel
theorem dX6_init_176 : decode cX6_init 176 = .ok (.ldc 62, 2) := by decide +kernel
theorem dX6_init_178 : decode cX6_init 178 = .ok (.iastore, 1) := by decide +kernel
theorem dX6_init_179 : decode cX6_init 179 = .ok (.iinc 1 1, 3) := by decide +kernel
theorem dX6_init_182 : decode cX6_init 182 = .ok (.goto (-42), 3) := by decide +kernel
theorem dX6_init_185 : decode cX6_init 185 = .ok (.iconst 0, 1) := by decide +kernel
theorem dX6_init_186 : decode cX6_init 186 = .ok (.istore_n 1, 1) := by decide +kernel
theorem dX6_init_187 : decode cX6_init 187 = .ok (.iload_n 1, 1) := by decide +kernel
theorem dX6_init_188 : decode cX6_init 188 = .ok (.bipush 60, 2) := by decide +kernel
theorem dX6_init_190 : decode cX6_init 190 = .ok (.if_icmp .ge 23, 3) := by decide +kernel
theorem dX6_init_193 : decode cX6_init 193 = .ok (.aload_n 0, 1) := by decide +kernel
theorem dX6_init_194 : decode cX6_init 194 = .ok (.getfield 26, 3) := by decide +kernel
theorem dX6_init_197 : decode cX6_init 197 = .ok (.iload_n 1, 1) := by decide +kernel
theorem dX6_init_198 : decode cX6_init 198 = .ok (.iconst 1, 1) := by decide +kernel
theorem dX6_init_199 : decode cX6_init 199 = .ok (.iastore, 1) := by decide +kernel
theorem dX6_init_200 : decode cX6_init 200 = .ok (.aload_n 0, 1) := by decide +kernel
theorem dX6_init_201 : decode cX6_init 201 = .ok (.getfield 29, 3) := by decide +kernel
theorem dX6_init_204 : decode cX6_init 204 = .ok (.iload_n 1, 1) := by decide +kernel
theorem dX6_init_205 : decode cX6_init 205 = .ok (.iconst 1, 1) := by decide +kernel
theorem dX6_init_206 : decode cX6_init 206 = .ok (.iastore, 1) := by decide +kernel
theorem dX6_init_207 : decode cX6_init 207 = .ok (.iinc 1 1, 3) := by decide +kernel
theorem dX6_init_210 : decode cX6_init 210 = .ok (.goto (-23), 3) := by decide +kernel
theorem dX6_init_213 : decode cX6_init 213 = .ok (.return_, 1) := by decide +kernel
theorem dX6_in_0 : decode cX6_in 0 = .ok (.lload_n 0, 1) := by decide +kernel
theorem dX6_in_1 : decode cX6_in 1 = .ok (.lload_n 2, 1) := by decide +kernel
theorem dX6_in_2 : decode cX6_in 2 = .ok (.lcmp, 1) := by decide +kernel
theorem dX6_in_3 : decode cX6_in 3 = .ok (.ifCond .lt 14, 3) := by decide +kernel
theorem dX6_in_6 : decode cX6_in 6 = .ok (.lload_n 0, 1) := by decide +kernel
theorem dX6_in_7 : decode cX6_in 7 = .ok (.lload 4, 2) := by decide +kernel
theorem dX6_in_9 : decode cX6_in 9 = .ok (.lcmp, 1) := by decide +kernel
theorem dX6_in_10 : decode cX6_in 10 = .ok (.ifCond .gt 7, 3) := by decide +kernel
theorem dX6_in_13 : decode cX6_in 13 = .ok (.iconst 1, 1) := by decide +kernel
theorem dX6_in_14 : decode cX6_in 14 = .ok (.goto 4, 3) := by decide +kernel
theorem dX6_in_17 : decode cX6_in 17 = .ok (.iconst 0, 1) := by decide +kernel
theorem dX6_in_18 : decode cX6_in 18 = .ok (.ireturn, 1) := by decide +kernel
theorem dX6_size_0 : decode cX6_size 0 = .ok (.iload_n 0, 1) := by decide +kernel
theorem dX6_size_1 : decode cX6_size 1 = .ok (.ifCond .ge 8, 3) := by decide +kernel
theorem dX6_size_4 : decode cX6_size 4 = .ok (.iload_n 0, 1) := by decide +kernel
theorem dX6_size_5 : decode cX6_size 5 = .ok (.ineg, 1) := by decide +kernel
theorem dX6_size_6 : decode cX6_size 6 = .ok (.goto 4, 3) := by decide +kernel
theorem dX6_size_9 : decode cX6_size 9 = .ok (.iload_n 0, 1) := by decide +kernel
theorem dX6_size_10 : decode cX6_size 10 = .ok (.ireturn, 1) := by decide +kernel
set_option maxRecDepth 20000 in
theorem ggX6_noKey_X6_in : GoodIn wsX6_noKey wsX6_in := goodIn_r _ [5] (by decide +kernel) (by decide +kernel)
set_option maxRecDepth 20000 in
theorem gX6_noKey_X6_in : GoodIn wsX6_noKey (va_wsS RX6 66 yX6_in wsX6_in) := goodIn_app (goodIn_of _ (by decide +kernel)) ggX6_noKey_X6_in
theorem dX6_noKey_0 : decode cX6_noKey 0 = .ok (.iload_n 1, 1) := by decide +kernel
theorem dX6_noKey_1 : decode cX6_noKey 1 = .ok (.i2l, 1) := by decide +kernel
theorem dX6_noKey_2 : decode cX6_noKey 2 = .ok (.lconst 0, 1) := by decide +kernel
theorem dX6_noKey_3 : decode cX6_noKey 3 = .ok (.aload_n 0, 1) := by decide +kernel
theorem dX6_noKey_4 : decode cX6_noKey 4 = .ok (.getfield 7, 3) := by decide +kernel
theorem dX6_noKey_7 : decode cX6_noKey 7 = .ok (.iconst 1, 1) := by decide +kernel
theorem dX6_noKey_8 : decode cX6_noKey 8 = .ok (.isub, 1) := by decide +kernel
theorem dX6_noKey_9 : decode cX6_noKey 9 = .ok (.i2l, 1) := by decide +kernel
theorem dX6_noKey_10 : decode cX6_noKey 10 = .ok (.invokestatic 66, 3) := by decide +kernel
theorem dX6_noKey_13 : decode cX6_noKey 13 = .ok (.ifCond .ne 7, 3) := by decide +kernel
theorem dX6_noKey_16 : decode cX6_noKey 16 = .ok (.iconst 1, 1) := by decide +kernel
theorem dX6_noKey_17 : decode cX6_noKey 17 = .ok (.goto 4, 3) := by decide +kernel
theorem dX6_noKey_20 : decode cX6_noKey 20 = .ok (.iconst 0, 1) := by decide +kernel
theorem dX6_noKey_21 : decode cX6_noKey 21 = .ok (.ireturn, 1) := by decide +kernel
set_option maxRecDepth 20000 in
theorem ggX6_noString_X6_in : GoodIn wsX6_noString wsX6_in := goodIn_r _ [5] (by decide +kernel) (by decide +kernel)
set_option maxRecDepth 20000 in
theorem gX6_noString_X6_in : GoodIn wsX6_noString (va_wsS RX6 66 yX6_in wsX6_in) := goodIn_app (goodIn_of _ (by decide +kernel)) ggX6_noString_X6_in
theorem dX6_noString_0 : decode cX6_noString 0 = .ok (.iload_n 0, 1) := by decide +kernel
theorem dX6_noString_1 : decode cX6_noString 1 = .ok (.i2l, 1) := by decide +kernel
theorem dX6_noString_2 : decode cX6_noString 2 = .ok (.lconst 0, 1) := by decide +kernel
theorem dX6_noString_3 : decode cX6_noString 3 = .ok (.ldc2_w 70, 3) := by decide +kernel
theorem dX6_noString_6 : decode cX6_noString 6 = .ok (.invokestatic 66, 3) := by decide +kernel
theorem dX6_noString_9 : decode cX6_noString 9 = .ok (.ifCond .ne 7, 3) := by decide +kernel
theorem dX6_noString_12 : decode cX6_noString 12 = .ok (.iconst 1, 1) := by decide +kernel
theorem dX6_noString_13 : decode cX6_noString 13 = .ok (.goto 4, 3) := by decide +kernel
theorem dX6_noString_16 : decode cX6_noString 16 = .ok (.iconst 0, 1) := by decide +kernel
theorem dX6_noString_17 : decode cX6_noString 17 = .ok (.ireturn, 1) := by decide +kernel
set_option maxRecDepth 20000 in
theorem ggX6_noScale_X6_in : GoodIn wsX6_noScale wsX6_in := goodIn_r _ [5] (by decide +kernel) (by decide +kernel)
set_option maxRecDepth 20000 in
theorem gX6_noScale_X6_in : GoodIn wsX6_noScale (va_wsS RX6 66 yX6_in wsX6_in) := goodIn_app (goodIn_of _ (by decide +kernel)) ggX6_noScale_X6_in
theorem dX6_noScale_0 : decode cX6_noScale 0 = .ok (.iload_n 0, 1) := by decide +kernel
theorem dX6_noScale_1 : decode cX6_noScale 1 = .ok (.i2l, 1) := by decide +kernel
theorem dX6_noScale_2 : decode cX6_noScale 2 = .ok (.lconst 0, 1) := by decide +kernel
theorem dX6_noScale_3 : decode cX6_noScale 3 = .ok (.ldc2_w 72, 3) := by decide +kernel
theorem dX6_noScale_6 : decode cX6_noScale 6 = .ok (.invokestatic 66, 3) := by decide +kernel
theorem dX6_noScale_9 : decode cX6_noScale 9 = .ok (.ifCond .ne 7, 3) := by decide +kernel
theorem dX6_noScale_12 : decode cX6_noScale 12 = .ok (.iconst 1, 1) := by decide +kernel
theorem dX6_noScale_13 : decode cX6_noScale 13 = .ok (.goto 4, 3) := by decide +kernel
theorem dX6_noScale_16 : decode cX6_noScale 16 = .ok (.iconst 0, 1) := by decide +kernel
theorem dX6_noScale_17 : decode cX6_noScale 17 = .ok (.ireturn, 1) := by decide +kernel
set_option maxRecDepth 20000 in
theorem ggX6_noPiece_X6_in : GoodIn wsX6_noPiece wsX6_in := goodIn_r _ [5] (by decide +kernel) (by decide +kernel)
set_option maxRecDepth 20000 in
theorem gX6_noPiece_X6_in : GoodIn wsX6_noPiece (va_wsS RX6 66 yX6_in wsX6_in) := goodIn_app (goodIn_of _ (by decide +kernel)) ggX6_noPiece_X6_in
theorem dX6_noPiece_0 : decode cX6_noPiece 0 = .ok (.iload_n 0, 1) := by decide +kernel
theorem dX6_noPiece_1 : decode cX6_noPiece 1 = .ok (.i2l, 1) := by decide +kernel
theorem dX6_noPiece_2 : decode cX6_noPiece 2 = .ok (.lconst 0, 1) := by decide +kernel
theorem dX6_noPiece_3 : decode cX6_noPiece 3 = .ok (.ldc2_w 74, 3) := by decide +kernel
theorem dX6_noPiece_6 : decode cX6_noPiece 6 = .ok (.invokestatic 66, 3) := by decide +kernel
theorem dX6_noPiece_9 : decode cX6_noPiece 9 = .ok (.ifCond .ne 7, 3) := by decide +kernel
theorem dX6_noPiece_12 : decode cX6_noPiece 12 = .ok (.iconst 1, 1) := by decide +kernel
theorem dX6_noPiece_13 : decode cX6_noPiece 13 = .ok (.goto 4, 3) := by decide +kernel
theorem dX6_noPiece_16 : decode cX6_noPiece 16 = .ok (.iconst 0, 1) := by decide +kernel
theorem dX6_noPiece_17 : decode cX6_noPiece 17 = .ok (.ireturn, 1) := by decide +kernel
set_option maxRecDepth 20000 in
theorem ggX6_keys_X6_in : GoodIn wsX6_keys wsX6_in := goodIn_r _ [8] (by decide +kernel) (by decide +kernel)
set_option maxRecDepth 20000 in
theorem gX6_keys_X6_in : GoodIn wsX6_keys (va_wsS RX6 66 yX6_in wsX6_in) := goodIn_app (goodIn_of _ (by decide +kernel)) ggX6_keys_X6_in
theorem dX6_keys_0 : decode cX6_keys 0 = .ok (.aload_n 0, 1) := by decide +kernel
theorem dX6_keys_1 : decode cX6_keys 1 = .ok (.iconst 0, 1) := by decide +kernel
theorem dX6_keys_2 : decode cX6_keys 2 = .ok (.putfield 63, 3) := by decide +kernel
theorem dX6_keys_5 : decode cX6_keys 5 = .ok (.iload_n 1, 1) := by decide +kernel
theorem dX6_keys_6 : decode cX6_keys 6 = .ok (.i2l, 1) := by decide +kernel
theorem dX6_keys_7 : decode cX6_keys 7 = .ok (.lconst 1, 1) := by decide +kernel
theorem dX6_keys_8 : decode cX6_keys 8 = .ok (.ldc2_w 76, 3) := by decide +kernel
theorem dX6_keys_11 : decode cX6_keys 11 = .ok (.invokestatic 66, 3) := by decide +kernel
theorem dX6_keys_14 : decode cX6_keys 14 = .ok (.ifCond .ne 6, 3) := by decide +kernel
theorem dX6_keys_17 : decode cX6_keys 17 = .ok (.ldc 78, 2) := by decide +kernel
theorem dX6_keys_19 : decode cX6_keys 19 = .ok (.ireturn, 1) := by decide +kernel
theorem dX6_keys_20 : decode cX6_keys 20 = .ok (.aload_n 0, 1) := by decide +kernel
theorem dX6_keys_21 : decode cX6_keys 21 = .ok (.getfield 7, 3) := by decide +kernel
theorem dX6_keys_24 : decode cX6_keys 24 = .ok (.istore_n 2, 1) := by decide +kernel
theorem dX6_keys_25 : decode cX6_keys 25 = .ok (.aload_n 0, 1) := by decide +kernel
theorem dX6_keys_26 : decode cX6_keys 26 = .ok (.iload_n 1, 1) := by decide +kernel
theorem dX6_keys_27 : decode cX6_keys 27 = .ok (.putfield 7, 3) := by decide +kernel
theorem dX6_keys_30 : decode cX6_keys 30 = .ok (.iload_n 2, 1) := by decide +kernel
theorem dX6_keys_31 : decode cX6_keys 31 = .ok (.ireturn, 1) := by decide +kernel
set_option maxRecDepth 20000 in
theorem ggX6_strike_X6_noKey : GoodIn wsX6_strike wsX6_noKey := goodIn_r _ [13, 14, 15, 16, 12, 17, 22, 23, 24, 25, 26, 27, 28, 29, 30, 31, 32, 33, 34, 35, 36, 37, 38, 39, 40, 41, 42] (by decide +kernel) (by decide +kernel)
set_option maxRecDepth 20000 in
theorem gX6_strike_X6_noKey : GoodIn wsX6_strike (wsV RX6 79 RX6 yX6_noKey wsX6_noKey) := goodIn_app (goodIn_of _ (by decide +kernel)) ggX6_strike_X6_noKey
set_option maxRecDepth 20000 in
theorem ggX6_strike_X6_noString : GoodIn wsX6_strike wsX6_noString := goodIn_r _ [20, 21, 15, 16, 12, 17] (by decide +kernel) (by decide +kernel)
set_option maxRecDepth 20000 in
theorem gX6_strike_X6_noString : GoodIn wsX6_strike (va_wsS RX6 83 yX6_noString wsX6_noString) := goodIn_app (goodIn_of _ (by decide +kernel)) ggX6_strike_X6_noString
set_option maxRecDepth 20000 in
theorem ggX6_strike_X6_in : GoodIn wsX6_strike wsX6_in := goodIn_r _ [17] (by decide +kernel) (by decide +kernel)
set_option maxRecDepth 20000 in
theorem gX6_strike_X6_in : GoodIn wsX6_strike (va_wsS RX6 66 yX6_in wsX6_in) := goodIn_app (goodIn_of _ (by decide +kernel)) ggX6_strike_X6_in
theorem dX6_strike_0 : decode cX6_strike 0 = .ok (.aload_n 0, 1) := by decide +kernel
theorem dX6_strike_1 : decode cX6_strike 1 = .ok (.iconst 0, 1) := by decide +kernel
theorem dX6_strike_2 : decode cX6_strike 2 = .ok (.putfield 63, 3) := by decide +kernel
theorem dX6_strike_5 : decode cX6_strike 5 = .ok (.aload_n 0, 1) := by decide +kernel
theorem dX6_strike_6 : decode cX6_strike 6 = .ok (.iload_n 1, 1) := by decide +kernel
theorem dX6_strike_7 : decode cX6_strike 7 = .ok (.invokevirtual 79, 3) := by decide +kernel
theorem dX6_strike_10 : decode cX6_strike 10 = .ok (.ifCond .ne 10, 3) := by decide +kernel
theorem dX6_strike_13 : decode cX6_strike 13 = .ok (.iload_n 2, 1) := by decide +kernel
theorem dX6_strike_14 : decode cX6_strike 14 = .ok (.invokestatic 83, 3) := by decide +kernel
theorem dX6_strike_17 : decode cX6_strike 17 = .ok (.ifCond .eq 6, 3) := by decide +kernel
theorem dX6_strike_20 : decode cX6_strike 20 = .ok (.ldc 86, 2) := by decide +kernel
theorem dX6_strike_22 : decode cX6_strike 22 = .ok (.ireturn, 1) := by decide +kernel
theorem dX6_strike_23 : decode cX6_strike 23 = .ok (.iload_n 3, 1) := by decide +kernel
theorem dX6_strike_24 : decode cX6_strike 24 = .ok (.i2l, 1) := by decide +kernel
theorem dX6_strike_25 : decode cX6_strike 25 = .ok (.ldc2_w 87, 3) := by decide +kernel
theorem dX6_strike_28 : decode cX6_strike 28 = .ok (.ldc2_w 89, 3) := by decide +kernel
theorem dX6_strike_31 : decode cX6_strike 31 = .ok (.invokestatic 66, 3) := by decide +kernel
theorem dX6_strike_34 : decode cX6_strike 34 = .ok (.ifCond .ne 6, 3) := by decide +kernel
theorem dX6_strike_37 : decode cX6_strike 37 = .ok (.ldc 78, 2) := by decide +kernel
theorem dX6_strike_39 : decode cX6_strike 39 = .ok (.ireturn, 1) := by decide +kernel
theorem dX6_strike_40 : decode cX6_strike 40 = .ok (.aload_n 0, 1) := by decide +kernel
theorem dX6_strike_41 : decode cX6_strike 41 = .ok (.getfield 13, 3) := by decide +kernel
theorem dX6_strike_44 : decode cX6_strike 44 = .ok (.iload_n 1, 1) := by decide +kernel
theorem dX6_strike_45 : decode cX6_strike 45 = .ok (.iaload, 1) := by decide +kernel
theorem dX6_strike_46 : decode cX6_strike 46 = .ok (.istore 4, 2) := by decide +kernel
theorem dX6_strike_48 : decode cX6_strike 48 = .ok (.aload_n 0, 1) := by decide +kernel
theorem dX6_strike_49 : decode cX6_strike 49 = .ok (.getfield 13, 3) := by decide +kernel
theorem dX6_strike_52 : decode cX6_strike 52 = .ok (.iload_n 1, 1) := by decide +kernel
theorem dX6_strike_53 : decode cX6_strike 53 = .ok (.iload_n 2, 1) := by decide +kernel
theorem dX6_strike_54 : decode cX6_strike 54 = .ok (.iastore, 1) := by decide +kernel
theorem dX6_strike_55 : decode cX6_strike 55 = .ok (.aload_n 0, 1) := by decide +kernel
theorem dX6_strike_56 : decode cX6_strike 56 = .ok (.getfield 17, 3) := by decide +kernel
theorem dX6_strike_59 : decode cX6_strike 59 = .ok (.iload_n 1, 1) := by decide +kernel
theorem dX6_strike_60 : decode cX6_strike 60 = .ok (.iload_n 3, 1) := by decide +kernel
theorem dX6_strike_61 : decode cX6_strike 61 = .ok (.iastore, 1) := by decide +kernel
theorem dX6_strike_62 : decode cX6_strike 62 = .ok (.aload_n 0, 1) := by decide +kernel
theorem dX6_strike_63 : decode cX6_strike 63 = .ok (.getfield 20, 3) := by decide +kernel
theorem dX6_strike_66 : decode cX6_strike 66 = .ok (.iload_n 1, 1) := by decide +kernel
theorem dX6_strike_67 : decode cX6_strike 67 = .ok (.iconst 0, 1) := by decide +kernel
theorem dX6_strike_68 : decode cX6_strike 68 = .ok (.iastore, 1) := by decide +kernel
theorem dX6_strike_69 : decode cX6_strike 69 = .ok (.iload 4, 2) := by decide +kernel
theorem dX6_strike_71 : decode cX6_strike 71 = .ok (.ireturn, 1) := by decide +kernel
set_option maxRecDepth 20000 in
theorem ggX6_tension_X6_noString : GoodIn wsX6_tension wsX6_noString := goodIn_r _ [10, 11, 12, 13, 9, 14] (by decide +kernel) (by decide +kernel)
set_option maxRecDepth 20000 in
theorem gX6_tension_X6_noString : GoodIn wsX6_tension (va_wsS RX6 83 yX6_noString wsX6_noString) := goodIn_app (goodIn_of _ (by decide +kernel)) ggX6_tension_X6_noString
set_option maxRecDepth 20000 in
theorem ggX6_tension_X6_in : GoodIn wsX6_tension wsX6_in := goodIn_r _ [14] (by decide +kernel) (by decide +kernel)
set_option maxRecDepth 20000 in
theorem gX6_tension_X6_in : GoodIn wsX6_tension (va_wsS RX6 66 yX6_in wsX6_in) := goodIn_app (goodIn_of _ (by decide +kernel)) ggX6_tension_X6_in
theorem dX6_tension_0 : decode cX6_tension 0 = .ok (.aload_n 0, 1) := by decide +kernel
theorem dX6_tension_1 : decode cX6_tension 1 = .ok (.iconst 0, 1) := by decide +kernel
theorem dX6_tension_2 : decode cX6_tension 2 = .ok (.putfield 63, 3) := by decide +kernel
theorem dX6_tension_5 : decode cX6_tension 5 = .ok (.iload_n 1, 1) := by decide +kernel
theorem dX6_tension_6 : decode cX6_tension 6 = .ok (.invokestatic 83, 3) := by decide +kernel
theorem dX6_tension_9 : decode cX6_tension 9 = .ok (.ifCond .eq 6, 3) := by decide +kernel
theorem dX6_tension_12 : decode cX6_tension 12 = .ok (.ldc 86, 2) := by decide +kernel
theorem dX6_tension_14 : decode cX6_tension 14 = .ok (.ireturn, 1) := by decide +kernel
theorem dX6_tension_15 : decode cX6_tension 15 = .ok (.iload_n 2, 1) := by decide +kernel
theorem dX6_tension_16 : decode cX6_tension 16 = .ok (.i2l, 1) := by decide +kernel
theorem dX6_tension_17 : decode cX6_tension 17 = .ok (.ldc2_w 91, 3) := by decide +kernel
theorem dX6_tension_20 : decode cX6_tension 20 = .ok (.ldc2_w 93, 3) := by decide +kernel
theorem dX6_tension_23 : decode cX6_tension 23 = .ok (.invokestatic 66, 3) := by decide +kernel
theorem dX6_tension_26 : decode cX6_tension 26 = .ok (.ifCond .ne 6, 3) := by decide +kernel
theorem dX6_tension_29 : decode cX6_tension 29 = .ok (.ldc 78, 2) := by decide +kernel
theorem dX6_tension_31 : decode cX6_tension 31 = .ok (.ireturn, 1) := by decide +kernel
theorem dX6_tension_32 : decode cX6_tension 32 = .ok (.aload_n 0, 1) := by decide +kernel
theorem dX6_tension_33 : decode cX6_tension 33 = .ok (.getfield 23, 3) := by decide +kernel
theorem dX6_tension_36 : decode cX6_tension 36 = .ok (.iload_n 1, 1) := by decide +kernel
theorem dX6_tension_37 : decode cX6_tension 37 = .ok (.iaload, 1) := by decide +kernel
theorem dX6_tension_38 : decode cX6_tension 38 = .ok (.istore_n 3, 1) := by decide +kernel
theorem dX6_tension_39 : decode cX6_tension 39 = .ok (.aload_n 0, 1) := by decide +kernel
theorem dX6_tension_40 : decode cX6_tension 40 = .ok (.getfield 23, 3) := by decide +kernel
theorem dX6_tension_43 : decode cX6_tension 43 = .ok (.iload_n 1, 1) := by decide +kernel
theorem dX6_tension_44 : decode cX6_tension 44 = .ok (.iload_n 2, 1) := by decide +kernel
theorem dX6_tension_45 : decode cX6_tension 45 = .ok (.iastore, 1) := by decide +kernel
theorem dX6_tension_46 : decode cX6_tension 46 = .ok (.iload_n 3, 1) := by decide +kernel
theorem dX6_tension_47 : decode cX6_tension 47 = .ok (.ireturn, 1) := by decide +kernel
set_option maxRecDepth 20000 in
theorem ggX6_bend_X6_noKey : GoodIn wsX6_bend wsX6_noKey := goodIn_r _ [11, 12, 13, 14, 10, 15, 16, 17, 18, 19, 20, 21, 22, 23, 24, 25, 26, 27, 28, 29, 30, 31, 32, 33, 34, 35, 36] (by decide +kernel) (by decide +kernel)
set_option maxRecDepth 20000 in
theorem gX6_bend_X6_noKey : GoodIn wsX6_bend (wsV RX6 79 RX6 yX6_noKey wsX6_noKey) := goodIn_app (goodIn_of _ (by decide +kernel)) ggX6_bend_X6_noKey
set_option maxRecDepth 20000 in
theorem ggX6_bend_X6_in : GoodIn wsX6_bend wsX6_in := goodIn_r _ [15] (by decide +kernel) (by decide +kernel)
set_option maxRecDepth 20000 in
theorem gX6_bend_X6_in : GoodIn wsX6_bend (va_wsS RX6 66 yX6_in wsX6_in) := goodIn_app (goodIn_of _ (by decide +kernel)) ggX6_bend_X6_in
theorem dX6_bend_0 : decode cX6_bend 0 = .ok (.aload_n 0, 1) := by decide +kernel
theorem dX6_bend_1 : decode cX6_bend 1 = .ok (.iconst 0, 1) := by decide +kernel
theorem dX6_bend_2 : decode cX6_bend 2 = .ok (.putfield 63, 3) := by decide +kernel
theorem dX6_bend_5 : decode cX6_bend 5 = .ok (.aload_n 0, 1) := by decide +kernel
theorem dX6_bend_6 : decode cX6_bend 6 = .ok (.iload_n 1, 1) := by decide +kernel
theorem dX6_bend_7 : decode cX6_bend 7 = .ok (.invokevirtual 79, 3) := by decide +kernel
theorem dX6_bend_10 : decode cX6_bend 10 = .ok (.ifCond .eq 6, 3) := by decide +kernel
theorem dX6_bend_13 : decode cX6_bend 13 = .ok (.ldc 86, 2) := by decide +kernel
theorem dX6_bend_15 : decode cX6_bend 15 = .ok (.ireturn, 1) := by decide +kernel
theorem dX6_bend_16 : decode cX6_bend 16 = .ok (.iload_n 2, 1) := by decide +kernel
theorem dX6_bend_17 : decode cX6_bend 17 = .ok (.i2l, 1) := by decide +kernel
theorem dX6_bend_18 : decode cX6_bend 18 = .ok (.ldc2_w 95, 3) := by decide +kernel
theorem dX6_bend_21 : decode cX6_bend 21 = .ok (.ldc2_w 97, 3) := by decide +kernel
theorem dX6_bend_24 : decode cX6_bend 24 = .ok (.invokestatic 66, 3) := by decide +kernel
theorem dX6_bend_27 : decode cX6_bend 27 = .ok (.ifCond .ne 6, 3) := by decide +kernel
theorem dX6_bend_30 : decode cX6_bend 30 = .ok (.ldc 78, 2) := by decide +kernel
theorem dX6_bend_32 : decode cX6_bend 32 = .ok (.ireturn, 1) := by decide +kernel
theorem dX6_bend_33 : decode cX6_bend 33 = .ok (.aload_n 0, 1) := by decide +kernel
theorem dX6_bend_34 : decode cX6_bend 34 = .ok (.getfield 20, 3) := by decide +kernel
theorem dX6_bend_37 : decode cX6_bend 37 = .ok (.iload_n 1, 1) := by decide +kernel
theorem dX6_bend_38 : decode cX6_bend 38 = .ok (.iaload, 1) := by decide +kernel
theorem dX6_bend_39 : decode cX6_bend 39 = .ok (.istore_n 3, 1) := by decide +kernel
theorem dX6_bend_40 : decode cX6_bend 40 = .ok (.aload_n 0, 1) := by decide +kernel
theorem dX6_bend_41 : decode cX6_bend 41 = .ok (.getfield 20, 3) := by decide +kernel
theorem dX6_bend_44 : decode cX6_bend 44 = .ok (.iload_n 1, 1) := by decide +kernel
theorem dX6_bend_45 : decode cX6_bend 45 = .ok (.iload_n 2, 1) := by decide +kernel
theorem dX6_bend_46 : decode cX6_bend 46 = .ok (.iastore, 1) := by decide +kernel
theorem dX6_bend_47 : decode cX6_bend 47 = .ok (.iload_n 3, 1) := by decide +kernel
theorem dX6_bend_48 : decode cX6_bend 48 = .ok (.ireturn, 1) := by decide +kernel
theorem dX6_soundsOf_0 : decode cX6_soundsOf 0 = .ok (.aload_n 0, 1) := by decide +kernel
theorem dX6_soundsOf_1 : decode cX6_soundsOf 1 = .ok (.getfield 17, 3) := by decide +kernel
theorem dX6_soundsOf_4 : decode cX6_soundsOf 4 = .ok (.iload_n 1, 1) := by decide +kernel
theorem dX6_soundsOf_5 : decode cX6_soundsOf 5 = .ok (.iaload, 1) := by decide +kernel
theorem dX6_soundsOf_6 : decode cX6_soundsOf 6 = .ok (.aload_n 0, 1) := by decide +kernel
theorem dX6_soundsOf_7 : decode cX6_soundsOf 7 = .ok (.getfield 20, 3) := by decide +kernel
theorem dX6_soundsOf_10 : decode cX6_soundsOf 10 = .ok (.iload_n 1, 1) := by decide +kernel
theorem dX6_soundsOf_11 : decode cX6_soundsOf 11 = .ok (.iaload, 1) := by decide +kernel
theorem dX6_soundsOf_12 : decode cX6_soundsOf 12 = .ok (.iadd, 1) := by decide +kernel
theorem dX6_soundsOf_13 : decode cX6_soundsOf 13 = .ok (.ireturn, 1) := by decide +kernel
set_option maxRecDepth 20000 in
theorem ggX6_toneOf_X6_soundsOf : GoodIn wsX6_toneOf wsX6_soundsOf := goodIn_r _ [7, 8, 9, 10, 11, 12, 13, 14, 15, 16, 17, 18, 19, 20, 21, 22, 23, 24, 25, 26, 27, 28, 29, 30] (by decide +kernel) (by decide +kernel)
set_option maxRecDepth 20000 in
theorem gX6_toneOf_X6_soundsOf : GoodIn wsX6_toneOf (wsV RX6 99 RX6 yX6_soundsOf wsX6_soundsOf) := goodIn_app (goodIn_of _ (by decide +kernel)) ggX6_toneOf_X6_soundsOf
theorem dX6_toneOf_0 : decode cX6_toneOf 0 = .ok (.aload_n 0, 1) := by decide +kernel
theorem dX6_toneOf_1 : decode cX6_toneOf 1 = .ok (.getfield 23, 3) := by decide +kernel
theorem dX6_toneOf_4 : decode cX6_toneOf 4 = .ok (.aload_n 0, 1) := by decide +kernel
theorem dX6_toneOf_5 : decode cX6_toneOf 5 = .ok (.getfield 13, 3) := by decide +kernel
theorem dX6_toneOf_8 : decode cX6_toneOf 8 = .ok (.iload_n 1, 1) := by decide +kernel
theorem dX6_toneOf_9 : decode cX6_toneOf 9 = .ok (.iaload, 1) := by decide +kernel
theorem dX6_toneOf_10 : decode cX6_toneOf 10 = .ok (.iaload, 1) := by decide +kernel
theorem dX6_toneOf_11 : decode cX6_toneOf 11 = .ok (.sipush 10000, 3) := by decide +kernel
theorem dX6_toneOf_14 : decode cX6_toneOf 14 = .ok (.imul, 1) := by decide +kernel
theorem dX6_toneOf_15 : decode cX6_toneOf 15 = .ok (.aload_n 0, 1) := by decide +kernel
theorem dX6_toneOf_16 : decode cX6_toneOf 16 = .ok (.iload_n 1, 1) := by decide +kernel
theorem dX6_toneOf_17 : decode cX6_toneOf 17 = .ok (.invokevirtual 99, 3) := by decide +kernel
theorem dX6_toneOf_20 : decode cX6_toneOf 20 = .ok (.idiv, 1) := by decide +kernel
theorem dX6_toneOf_21 : decode cX6_toneOf 21 = .ok (.ireturn, 1) := by decide +kernel
theorem dX6_goalOf_0 : decode cX6_goalOf 0 = .ok (.iload_n 3, 1) := by decide +kernel
theorem dX6_goalOf_1 : decode cX6_goalOf 1 = .ok (.iload_n 1, 1) := by decide +kernel
theorem dX6_goalOf_2 : decode cX6_goalOf 2 = .ok (.bipush 12, 2) := by decide +kernel
theorem dX6_goalOf_4 : decode cX6_goalOf 4 = .ok (.if_icmp .ge 7, 3) := by decide +kernel
theorem dX6_goalOf_7 : decode cX6_goalOf 7 = .ok (.iconst 1, 1) := by decide +kernel
theorem dX6_goalOf_8 : decode cX6_goalOf 8 = .ok (.goto 4, 3) := by decide +kernel
theorem dX6_goalOf_11 : decode cX6_goalOf 11 = .ok (.iconst 2, 1) := by decide +kernel
theorem dX6_goalOf_12 : decode cX6_goalOf 12 = .ok (.imul, 1) := by decide +kernel
theorem dX6_goalOf_13 : decode cX6_goalOf 13 = .ok (.aload_n 0, 1) := by decide +kernel
theorem dX6_goalOf_14 : decode cX6_goalOf 14 = .ok (.getfield 26, 3) := by decide +kernel
theorem dX6_goalOf_17 : decode cX6_goalOf 17 = .ok (.bipush 12, 2) := by decide +kernel
theorem dX6_goalOf_19 : decode cX6_goalOf 19 = .ok (.iload_n 2, 1) := by decide +kernel
theorem dX6_goalOf_20 : decode cX6_goalOf 20 = .ok (.imul, 1) := by decide +kernel
theorem dX6_goalOf_21 : decode cX6_goalOf 21 = .ok (.iload_n 1, 1) := by decide +kernel
theorem dX6_goalOf_22 : decode cX6_goalOf 22 = .ok (.bipush 12, 2) := by decide +kernel
theorem dX6_goalOf_24 : decode cX6_goalOf 24 = .ok (.irem, 1) := by decide +kernel
theorem dX6_goalOf_25 : decode cX6_goalOf 25 = .ok (.iadd, 1) := by decide +kernel
theorem dX6_goalOf_26 : decode cX6_goalOf 26 = .ok (.iaload, 1) := by decide +kernel
theorem dX6_goalOf_27 : decode cX6_goalOf 27 = .ok (.imul, 1) := by decide +kernel
theorem dX6_goalOf_28 : decode cX6_goalOf 28 = .ok (.aload_n 0, 1) := by decide +kernel
theorem dX6_goalOf_29 : decode cX6_goalOf 29 = .ok (.getfield 29, 3) := by decide +kernel
theorem dX6_goalOf_32 : decode cX6_goalOf 32 = .ok (.bipush 12, 2) := by decide +kernel
theorem dX6_goalOf_34 : decode cX6_goalOf 34 = .ok (.iload_n 2, 1) := by decide +kernel
theorem dX6_goalOf_35 : decode cX6_goalOf 35 = .ok (.imul, 1) := by decide +kernel
theorem dX6_goalOf_36 : decode cX6_goalOf 36 = .ok (.iload_n 1, 1) := by decide +kernel
theorem dX6_goalOf_37 : decode cX6_goalOf 37 = .ok (.bipush 12, 2) := by decide +kernel
theorem dX6_goalOf_39 : decode cX6_goalOf 39 = .ok (.irem, 1) := by decide +kernel
theorem dX6_goalOf_40 : decode cX6_goalOf 40 = .ok (.iadd, 1) := by decide +kernel
theorem dX6_goalOf_41 : decode cX6_goalOf 41 = .ok (.iaload, 1) := by decide +kernel
theorem dX6_goalOf_42 : decode cX6_goalOf 42 = .ok (.idiv, 1) := by decide +kernel
theorem dX6_goalOf_43 : decode cX6_goalOf 43 = .ok (.ireturn, 1) := by decide +kernel
set_option maxRecDepth 20000 in
theorem ggX6_errorOf_X6_toneOf : GoodIn wsX6_errorOf wsX6_toneOf := goodIn_r _ [7, 8, 9, 10, 11, 12, 6, 13, 14, 15, 22, 23, 24, 25, 26, 27, 28, 29, 30, 31, 32, 33, 34, 35, 36, 37, 38, 39, 40, 41, 42] (by decide +kernel) (by decide +kernel)
set_option maxRecDepth 20000 in
theorem gX6_errorOf_X6_toneOf : GoodIn wsX6_errorOf (wsV RX6 103 RX6 yX6_toneOf wsX6_toneOf) := goodIn_app (goodIn_of _ (by decide +kernel)) ggX6_errorOf_X6_toneOf
set_option maxRecDepth 20000 in
theorem ggX6_errorOf_X6_goalOf : GoodIn wsX6_errorOf wsX6_goalOf := goodIn_r _ [19, 20, 21, 22, 23, 24, 25, 26, 27, 28, 29, 30, 31, 32, 33, 34, 35, 36, 37, 38, 39, 40, 41, 42] (by decide +kernel) (by decide +kernel)
set_option maxRecDepth 20000 in
theorem gX6_errorOf_X6_goalOf : GoodIn wsX6_errorOf (wsV RX6 109 RX6 yX6_goalOf wsX6_goalOf) := goodIn_app (goodIn_of _ (by decide +kernel)) ggX6_errorOf_X6_goalOf
theorem dX6_errorOf_0 : decode cX6_errorOf 0 = .ok (.aload_n 0, 1) := by decide +kernel
theorem dX6_errorOf_1 : decode cX6_errorOf 1 = .ok (.iload_n 1, 1) := by decide +kernel
theorem dX6_errorOf_2 : decode cX6_errorOf 2 = .ok (.invokevirtual 103, 3) := by decide +kernel
theorem dX6_errorOf_5 : decode cX6_errorOf 5 = .ok (.aload_n 0, 1) := by decide +kernel
theorem dX6_errorOf_6 : decode cX6_errorOf 6 = .ok (.iload_n 1, 1) := by decide +kernel
theorem dX6_errorOf_7 : decode cX6_errorOf 7 = .ok (.aload_n 0, 1) := by decide +kernel
theorem dX6_errorOf_8 : decode cX6_errorOf 8 = .ok (.getfield 106, 3) := by decide +kernel
theorem dX6_errorOf_11 : decode cX6_errorOf 11 = .ok (.aload_n 0, 1) := by decide +kernel
theorem dX6_errorOf_12 : decode cX6_errorOf 12 = .ok (.getfield 32, 3) := by decide +kernel
theorem dX6_errorOf_15 : decode cX6_errorOf 15 = .ok (.invokevirtual 109, 3) := by decide +kernel
theorem dX6_errorOf_18 : decode cX6_errorOf 18 = .ok (.isub, 1) := by decide +kernel
theorem dX6_errorOf_19 : decode cX6_errorOf 19 = .ok (.ireturn, 1) := by decide +kernel
set_option maxRecDepth 20000 in
theorem ggX6_about_X6_noKey : GoodIn wsX6_about wsX6_noKey := goodIn_r _ [13, 14, 15, 16, 12, 17, 37, 38, 39, 40, 41, 42, 43, 44, 45, 46, 47, 48, 49, 50, 51, 52, 53, 54, 55, 56, 57] (by decide +kernel) (by decide +kernel)
set_option maxRecDepth 20000 in
theorem gX6_about_X6_noKey : GoodIn wsX6_about (wsV RX6 79 RX6 yX6_noKey wsX6_noKey) := goodIn_app (goodIn_of _ (by decide +kernel)) ggX6_about_X6_noKey
set_option maxRecDepth 20000 in
theorem ggX6_about_X6_toneOf : GoodIn wsX6_about wsX6_toneOf := goodIn_r _ [21, 22, 3, 23, 24, 25, 12, 26, 4, 5, 37, 38, 39, 40, 41, 42, 43, 44, 45, 46, 47, 48, 49, 50, 51, 52, 53, 54, 55, 56, 57] (by decide +kernel) (by decide +kernel)
set_option maxRecDepth 20000 in
theorem gX6_about_X6_toneOf : GoodIn wsX6_about (wsV RX6 103 RX6 yX6_toneOf wsX6_toneOf) := goodIn_app (goodIn_of _ (by decide +kernel)) ggX6_about_X6_toneOf
set_option maxRecDepth 20000 in
theorem ggX6_about_X6_goalOf : GoodIn wsX6_about wsX6_goalOf := goodIn_r _ [30, 31, 32, 37, 38, 39, 40, 41, 42, 43, 44, 45, 46, 47, 48, 49, 50, 51, 52, 53, 54, 55, 56, 57] (by decide +kernel) (by decide +kernel)
set_option maxRecDepth 20000 in
theorem gX6_about_X6_goalOf : GoodIn wsX6_about (wsV RX6 109 RX6 yX6_goalOf wsX6_goalOf) := goodIn_app (goodIn_of _ (by decide +kernel)) ggX6_about_X6_goalOf
set_option maxRecDepth 20000 in
theorem ggX6_about_X6_errorOf : GoodIn wsX6_about wsX6_errorOf := goodIn_r _ [36, 6, 7, 18, 19, 20, 12, 21, 22, 3, 23, 24, 25, 26, 4, 5, 27, 28, 29, 30, 31, 32, 37, 38, 39, 40, 41, 42, 43, 44, 45, 46, 47, 48, 49, 50, 51, 52, 53, 54, 55, 56, 57] (by decide +kernel) (by decide +kernel)
set_option maxRecDepth 20000 in
theorem gX6_about_X6_errorOf : GoodIn wsX6_about (wsV RX6 113 RX6 yX6_errorOf wsX6_errorOf) := goodIn_app (goodIn_of _ (by decide +kernel)) ggX6_about_X6_errorOf
theorem dX6_about_0 : decode cX6_about 0 = .ok (.aload_n 0, 1) := by decide +kernel
theorem dX6_about_1 : decode cX6_about 1 = .ok (.iconst 0, 1) := by decide +kernel
theorem dX6_about_2 : decode cX6_about 2 = .ok (.putfield 63, 3) := by decide +kernel
theorem dX6_about_5 : decode cX6_about 5 = .ok (.aload_n 0, 1) := by decide +kernel
theorem dX6_about_6 : decode cX6_about 6 = .ok (.iload_n 1, 1) := by decide +kernel
theorem dX6_about_7 : decode cX6_about 7 = .ok (.invokevirtual 79, 3) := by decide +kernel
theorem dX6_about_10 : decode cX6_about 10 = .ok (.ifCond .eq 6, 3) := by decide +kernel
theorem dX6_about_13 : decode cX6_about 13 = .ok (.ldc 86, 2) := by decide +kernel
theorem dX6_about_15 : decode cX6_about 15 = .ok (.ireturn, 1) := by decide +kernel
theorem dX6_about_16 : decode cX6_about 16 = .ok (.iload_n 2, 1) := by decide +kernel
theorem dX6_about_17 : decode cX6_about 17 = .ok (.tableswitch 86 0 5 #[39, 46, 53, 60, 66, 80], 39) := by decide +kernel
theorem dX6_about_56 : decode cX6_about 56 = .ok (.aload_n 0, 1) := by decide +kernel
theorem dX6_about_57 : decode cX6_about 57 = .ok (.getfield 13, 3) := by decide +kernel
theorem dX6_about_60 : decode cX6_about 60 = .ok (.iload_n 1, 1) := by decide +kernel
theorem dX6_about_61 : decode cX6_about 61 = .ok (.iaload, 1) := by decide +kernel
theorem dX6_about_62 : decode cX6_about 62 = .ok (.ireturn, 1) := by decide +kernel
theorem dX6_about_63 : decode cX6_about 63 = .ok (.aload_n 0, 1) := by decide +kernel
theorem dX6_about_64 : decode cX6_about 64 = .ok (.getfield 17, 3) := by decide +kernel
theorem dX6_about_67 : decode cX6_about 67 = .ok (.iload_n 1, 1) := by decide +kernel
theorem dX6_about_68 : decode cX6_about 68 = .ok (.iaload, 1) := by decide +kernel
theorem dX6_about_69 : decode cX6_about 69 = .ok (.ireturn, 1) := by decide +kernel
theorem dX6_about_70 : decode cX6_about 70 = .ok (.aload_n 0, 1) := by decide +kernel
theorem dX6_about_71 : decode cX6_about 71 = .ok (.getfield 20, 3) := by decide +kernel
theorem dX6_about_74 : decode cX6_about 74 = .ok (.iload_n 1, 1) := by decide +kernel
theorem dX6_about_75 : decode cX6_about 75 = .ok (.iaload, 1) := by decide +kernel
theorem dX6_about_76 : decode cX6_about 76 = .ok (.ireturn, 1) := by decide +kernel
theorem dX6_about_77 : decode cX6_about 77 = .ok (.aload_n 0, 1) := by decide +kernel
theorem dX6_about_78 : decode cX6_about 78 = .ok (.iload_n 1, 1) := by decide +kernel
theorem dX6_about_79 : decode cX6_about 79 = .ok (.invokevirtual 103, 3) := by decide +kernel
theorem dX6_about_82 : decode cX6_about 82 = .ok (.ireturn, 1) := by decide +kernel
theorem dX6_about_83 : decode cX6_about 83 = .ok (.aload_n 0, 1) := by decide +kernel
theorem dX6_about_84 : decode cX6_about 84 = .ok (.iload_n 1, 1) := by decide +kernel
theorem dX6_about_85 : decode cX6_about 85 = .ok (.aload_n 0, 1) := by decide +kernel
theorem dX6_about_86 : decode cX6_about 86 = .ok (.getfield 106, 3) := by decide +kernel
theorem dX6_about_89 : decode cX6_about 89 = .ok (.aload_n 0, 1) := by decide +kernel
theorem dX6_about_90 : decode cX6_about 90 = .ok (.getfield 32, 3) := by decide +kernel
theorem dX6_about_93 : decode cX6_about 93 = .ok (.invokevirtual 109, 3) := by decide +kernel
theorem dX6_about_96 : decode cX6_about 96 = .ok (.ireturn, 1) := by decide +kernel
theorem dX6_about_97 : decode cX6_about 97 = .ok (.aload_n 0, 1) := by decide +kernel
theorem dX6_about_98 : decode cX6_about 98 = .ok (.iload_n 1, 1) := by decide +kernel
theorem dX6_about_99 : decode cX6_about 99 = .ok (.invokevirtual 113, 3) := by decide +kernel
theorem dX6_about_102 : decode cX6_about 102 = .ok (.ireturn, 1) := by decide +kernel
theorem dX6_about_103 : decode cX6_about 103 = .ok (.ldc 78, 2) := by decide +kernel
theorem dX6_about_105 : decode cX6_about 105 = .ok (.ireturn, 1) := by decide +kernel
set_option maxRecDepth 20000 in
theorem ggX6_pressed_X6_noKey : GoodIn wsX6_pressed wsX6_noKey := goodIn_r _ [9, 10, 11, 12, 8, 13, 26, 27, 28, 29, 30, 31, 32, 33, 34, 35, 36, 37, 38, 39, 40, 41, 42, 43, 44, 45, 46] (by decide +kernel) (by decide +kernel)
set_option maxRecDepth 20000 in
theorem gX6_pressed_X6_noKey : GoodIn wsX6_pressed (wsV RX6 79 RX6 yX6_noKey wsX6_noKey) := goodIn_app (goodIn_of _ (by decide +kernel)) ggX6_pressed_X6_noKey
set_option maxRecDepth 20000 in
theorem ggX6_pressed_X6_in : GoodIn wsX6_pressed wsX6_in := goodIn_r _ [13] (by decide +kernel) (by decide +kernel)
set_option maxRecDepth 20000 in
theorem gX6_pressed_X6_in : GoodIn wsX6_pressed (va_wsS RX6 66 yX6_in wsX6_in) := goodIn_app (goodIn_of _ (by decide +kernel)) ggX6_pressed_X6_in
set_option maxRecDepth 20000 in
theorem ggX6_pressed_X6_toneOf : GoodIn wsX6_pressed wsX6_toneOf := goodIn_r _ [17, 18, 19, 20, 21, 22, 8, 23, 24, 25, 26, 27, 28, 29, 30, 31, 32, 33, 34, 35, 36, 37, 38, 39, 40, 41, 42, 43, 44, 45, 46] (by decide +kernel) (by decide +kernel)
set_option maxRecDepth 20000 in
theorem gX6_pressed_X6_toneOf : GoodIn wsX6_pressed (wsV RX6 103 RX6 yX6_toneOf wsX6_toneOf) := goodIn_app (goodIn_of _ (by decide +kernel)) ggX6_pressed_X6_toneOf
theorem dX6_pressed_0 : decode cX6_pressed 0 = .ok (.aload_n 0, 1) := by decide +kernel
theorem dX6_pressed_1 : decode cX6_pressed 1 = .ok (.iconst 0, 1) := by decide +kernel
theorem dX6_pressed_2 : decode cX6_pressed 2 = .ok (.putfield 63, 3) := by decide +kernel
theorem dX6_pressed_5 : decode cX6_pressed 5 = .ok (.aload_n 0, 1) := by decide +kernel
theorem dX6_pressed_6 : decode cX6_pressed 6 = .ok (.iload_n 1, 1) := by decide +kernel
theorem dX6_pressed_7 : decode cX6_pressed 7 = .ok (.invokevirtual 79, 3) := by decide +kernel
theorem dX6_pressed_10 : decode cX6_pressed 10 = .ok (.ifCond .eq 6, 3) := by decide +kernel
theorem dX6_pressed_13 : decode cX6_pressed 13 = .ok (.ldc 86, 2) := by decide +kernel
theorem dX6_pressed_15 : decode cX6_pressed 15 = .ok (.ireturn, 1) := by decide +kernel
theorem dX6_pressed_16 : decode cX6_pressed 16 = .ok (.iload_n 2, 1) := by decide +kernel
theorem dX6_pressed_17 : decode cX6_pressed 17 = .ok (.i2l, 1) := by decide +kernel
theorem dX6_pressed_18 : decode cX6_pressed 18 = .ok (.lconst 0, 1) := by decide +kernel
theorem dX6_pressed_19 : decode cX6_pressed 19 = .ok (.ldc2_w 116, 3) := by decide +kernel
theorem dX6_pressed_22 : decode cX6_pressed 22 = .ok (.invokestatic 66, 3) := by decide +kernel
theorem dX6_pressed_25 : decode cX6_pressed 25 = .ok (.ifCond .eq 23, 3) := by decide +kernel
theorem dX6_pressed_28 : decode cX6_pressed 28 = .ok (.aload_n 0, 1) := by decide +kernel
theorem dX6_pressed_29 : decode cX6_pressed 29 = .ok (.iload_n 1, 1) := by decide +kernel
theorem dX6_pressed_30 : decode cX6_pressed 30 = .ok (.invokevirtual 103, 3) := by decide +kernel
theorem dX6_pressed_33 : decode cX6_pressed 33 = .ok (.aload_n 0, 1) := by decide +kernel
theorem dX6_pressed_34 : decode cX6_pressed 34 = .ok (.iload_n 1, 1) := by decide +kernel
theorem dX6_pressed_35 : decode cX6_pressed 35 = .ok (.invokevirtual 103, 3) := by decide +kernel
theorem dX6_pressed_38 : decode cX6_pressed 38 = .ok (.iload_n 2, 1) := by decide +kernel
theorem dX6_pressed_39 : decode cX6_pressed 39 = .ok (.imul, 1) := by decide +kernel
theorem dX6_pressed_40 : decode cX6_pressed 40 = .ok (.sipush 1000, 3) := by decide +kernel
theorem dX6_pressed_43 : decode cX6_pressed 43 = .ok (.idiv, 1) := by decide +kernel
theorem dX6_pressed_44 : decode cX6_pressed 44 = .ok (.iadd, 1) := by decide +kernel
theorem dX6_pressed_45 : decode cX6_pressed 45 = .ok (.goto 5, 3) := by decide +kernel
theorem dX6_pressed_48 : decode cX6_pressed 48 = .ok (.ldc 78, 2) := by decide +kernel
theorem dX6_pressed_50 : decode cX6_pressed 50 = .ok (.ireturn, 1) := by decide +kernel
theorem dX6_onString_0 : decode cX6_onString 0 = .ok (.iconst 0, 1) := by decide +kernel
theorem dX6_onString_1 : decode cX6_onString 1 = .ok (.istore_n 2, 1) := by decide +kernel
theorem dX6_onString_2 : decode cX6_onString 2 = .ok (.iconst 0, 1) := by decide +kernel
theorem dX6_onString_3 : decode cX6_onString 3 = .ok (.istore_n 3, 1) := by decide +kernel
theorem dX6_onString_4 : decode cX6_onString 4 = .ok (.iload_n 3, 1) := by decide +kernel
theorem dX6_onString_5 : decode cX6_onString 5 = .ok (.aload_n 0, 1) := by decide +kernel
theorem dX6_onString_6 : decode cX6_onString 6 = .ok (.getfield 7, 3) := by decide +kernel
theorem dX6_onString_9 : decode cX6_onString 9 = .ok (.if_icmp .ge 27, 3) := by decide +kernel
theorem dX6_onString_12 : decode cX6_onString 12 = .ok (.iload_n 2, 1) := by decide +kernel
theorem dX6_onString_13 : decode cX6_onString 13 = .ok (.aload_n 0, 1) := by decide +kernel
theorem dX6_onString_14 : decode cX6_onString 14 = .ok (.getfield 13, 3) := by decide +kernel
theorem dX6_onString_17 : decode cX6_onString 17 = .ok (.iload_n 3, 1) := by decide +kernel
theorem dX6_onString_18 : decode cX6_onString 18 = .ok (.iaload, 1) := by decide +kernel
theorem dX6_onString_19 : decode cX6_onString 19 = .ok (.iload_n 1, 1) := by decide +kernel
theorem dX6_onString_20 : decode cX6_onString 20 = .ok (.if_icmp .ne 7, 3) := by decide +kernel
theorem dX6_onString_23 : decode cX6_onString 23 = .ok (.iconst 1, 1) := by decide +kernel
theorem dX6_onString_24 : decode cX6_onString 24 = .ok (.goto 4, 3) := by decide +kernel
theorem dX6_onString_27 : decode cX6_onString 27 = .ok (.iconst 0, 1) := by decide +kernel
theorem dX6_onString_28 : decode cX6_onString 28 = .ok (.iadd, 1) := by decide +kernel
theorem dX6_onString_29 : decode cX6_onString 29 = .ok (.istore_n 2, 1) := by decide +kernel
theorem dX6_onString_30 : decode cX6_onString 30 = .ok (.iinc 3 1, 3) := by decide +kernel
theorem dX6_onString_33 : decode cX6_onString 33 = .ok (.goto (-29), 3) := by decide +kernel
theorem dX6_onString_36 : decode cX6_onString 36 = .ok (.iload_n 2, 1) := by decide +kernel
theorem dX6_onString_37 : decode cX6_onString 37 = .ok (.ireturn, 1) := by decide +kernel
set_option maxRecDepth 20000 in
theorem ggX6_sharers_X6_noString : GoodIn wsX6_sharers wsX6_noString := goodIn_r _ [6, 7, 8, 9, 5, 10] (by decide +kernel) (by decide +kernel)
set_option maxRecDepth 20000 in
theorem gX6_sharers_X6_noString : GoodIn wsX6_sharers (va_wsS RX6 83 yX6_noString wsX6_noString) := goodIn_app (goodIn_of _ (by decide +kernel)) ggX6_sharers_X6_noString
set_option maxRecDepth 20000 in
theorem ggX6_sharers_X6_onString : GoodIn wsX6_sharers wsX6_onString := goodIn_r _ [14, 15, 16, 17, 18, 19, 20, 21, 22, 23, 24, 25, 26, 27, 28, 29, 30, 31, 32, 33, 34, 35, 36, 37] (by decide +kernel) (by decide +kernel)
set_option maxRecDepth 20000 in
theorem gX6_sharers_X6_onString : GoodIn wsX6_sharers (wsV RX6 118 RX6 yX6_onString wsX6_onString) := goodIn_app (goodIn_of _ (by decide +kernel)) ggX6_sharers_X6_onString
theorem dX6_sharers_0 : decode cX6_sharers 0 = .ok (.aload_n 0, 1) := by decide +kernel
theorem dX6_sharers_1 : decode cX6_sharers 1 = .ok (.iconst 0, 1) := by decide +kernel
theorem dX6_sharers_2 : decode cX6_sharers 2 = .ok (.putfield 63, 3) := by decide +kernel
theorem dX6_sharers_5 : decode cX6_sharers 5 = .ok (.iload_n 1, 1) := by decide +kernel
theorem dX6_sharers_6 : decode cX6_sharers 6 = .ok (.invokestatic 83, 3) := by decide +kernel
theorem dX6_sharers_9 : decode cX6_sharers 9 = .ok (.ifCond .eq 8, 3) := by decide +kernel
theorem dX6_sharers_12 : decode cX6_sharers 12 = .ok (.ldc 86, 2) := by decide +kernel
theorem dX6_sharers_14 : decode cX6_sharers 14 = .ok (.goto 8, 3) := by decide +kernel
theorem dX6_sharers_17 : decode cX6_sharers 17 = .ok (.aload_n 0, 1) := by decide +kernel
theorem dX6_sharers_18 : decode cX6_sharers 18 = .ok (.iload_n 1, 1) := by decide +kernel
theorem dX6_sharers_19 : decode cX6_sharers 19 = .ok (.invokevirtual 118, 3) := by decide +kernel
theorem dX6_sharers_22 : decode cX6_sharers 22 = .ok (.ireturn, 1) := by decide +kernel
set_option maxRecDepth 20000 in
theorem ggX6_order_X6_soundsOf : GoodIn wsX6_order wsX6_soundsOf := goodIn_r _ [8, 9, 10, 11, 12, 13, 14, 15, 16, 17, 18, 19, 20, 21, 22, 23, 24, 25, 26, 27, 28, 29, 30, 31] (by decide +kernel) (by decide +kernel)
set_option maxRecDepth 20000 in
theorem gX6_order_X6_soundsOf : GoodIn wsX6_order (wsV RX6 99 RX6 yX6_soundsOf wsX6_soundsOf) := goodIn_app (goodIn_of _ (by decide +kernel)) ggX6_order_X6_soundsOf
theorem dX6_order_0 : decode cX6_order 0 = .ok (.aload_n 0, 1) := by decide +kernel
theorem dX6_order_1 : decode cX6_order 1 = .ok (.iconst 0, 1) := by decide +kernel
theorem dX6_order_2 : decode cX6_order 2 = .ok (.putfield 63, 3) := by decide +kernel
theorem dX6_order_5 : decode cX6_order 5 = .ok (.iconst 1, 1) := by decide +kernel
theorem dX6_order_6 : decode cX6_order 6 = .ok (.istore_n 1, 1) := by decide +kernel
theorem dX6_order_7 : decode cX6_order 7 = .ok (.iconst 0, 1) := by decide +kernel
theorem dX6_order_8 : decode cX6_order 8 = .ok (.istore_n 2, 1) := by decide +kernel
theorem dX6_order_9 : decode cX6_order 9 = .ok (.iload_n 2, 1) := by decide +kernel
theorem dX6_order_10 : decode cX6_order 10 = .ok (.aload_n 0, 1) := by decide +kernel
theorem dX6_order_11 : decode cX6_order 11 = .ok (.getfield 7, 3) := by decide +kernel
theorem dX6_order_14 : decode cX6_order 14 = .ok (.if_icmp .ge 65, 3) := by decide +kernel
theorem dX6_order_17 : decode cX6_order 17 = .ok (.iload_n 2, 1) := by decide +kernel
theorem dX6_order_18 : decode cX6_order 18 = .ok (.iconst 1, 1) := by decide +kernel
theorem dX6_order_19 : decode cX6_order 19 = .ok (.iadd, 1) := by decide +kernel
theorem dX6_order_20 : decode cX6_order 20 = .ok (.istore_n 3, 1) := by decide +kernel
theorem dX6_order_21 : decode cX6_order 21 = .ok (.iload_n 3, 1) := by decide +kernel
theorem dX6_order_22 : decode cX6_order 22 = .ok (.aload_n 0, 1) := by decide +kernel
theorem dX6_order_23 : decode cX6_order 23 = .ok (.getfield 7, 3) := by decide +kernel
theorem dX6_order_26 : decode cX6_order 26 = .ok (.if_icmp .ge 47, 3) := by decide +kernel
theorem dX6_order_29 : decode cX6_order 29 = .ok (.iload_n 1, 1) := by decide +kernel
theorem dX6_order_30 : decode cX6_order 30 = .ok (.ifCond .eq 35, 3) := by decide +kernel
theorem dX6_order_33 : decode cX6_order 33 = .ok (.aload_n 0, 1) := by decide +kernel
theorem dX6_order_34 : decode cX6_order 34 = .ok (.getfield 13, 3) := by decide +kernel
theorem dX6_order_37 : decode cX6_order 37 = .ok (.iload_n 2, 1) := by decide +kernel
theorem dX6_order_38 : decode cX6_order 38 = .ok (.iaload, 1) := by decide +kernel
theorem dX6_order_39 : decode cX6_order 39 = .ok (.aload_n 0, 1) := by decide +kernel
theorem dX6_order_40 : decode cX6_order 40 = .ok (.getfield 13, 3) := by decide +kernel
theorem dX6_order_43 : decode cX6_order 43 = .ok (.iload_n 3, 1) := by decide +kernel
theorem dX6_order_44 : decode cX6_order 44 = .ok (.iaload, 1) := by decide +kernel
theorem dX6_order_45 : decode cX6_order 45 = .ok (.if_icmp .ne 16, 3) := by decide +kernel
theorem dX6_order_48 : decode cX6_order 48 = .ok (.aload_n 0, 1) := by decide +kernel
theorem dX6_order_49 : decode cX6_order 49 = .ok (.iload_n 2, 1) := by decide +kernel
theorem dX6_order_50 : decode cX6_order 50 = .ok (.invokevirtual 99, 3) := by decide +kernel
theorem dX6_order_53 : decode cX6_order 53 = .ok (.aload_n 0, 1) := by decide +kernel
theorem dX6_order_54 : decode cX6_order 54 = .ok (.iload_n 3, 1) := by decide +kernel
theorem dX6_order_55 : decode cX6_order 55 = .ok (.invokevirtual 99, 3) := by decide +kernel
theorem dX6_order_58 : decode cX6_order 58 = .ok (.if_icmp .le 7, 3) := by decide +kernel
theorem dX6_order_61 : decode cX6_order 61 = .ok (.iconst 1, 1) := by decide +kernel
theorem dX6_order_62 : decode cX6_order 62 = .ok (.goto 4, 3) := by decide +kernel
theorem dX6_order_65 : decode cX6_order 65 = .ok (.iconst 0, 1) := by decide +kernel
theorem dX6_order_66 : decode cX6_order 66 = .ok (.istore_n 1, 1) := by decide +kernel
theorem dX6_order_67 : decode cX6_order 67 = .ok (.iinc 3 1, 3) := by decide +kernel
theorem dX6_order_70 : decode cX6_order 70 = .ok (.goto (-49), 3) := by decide +kernel
theorem dX6_order_73 : decode cX6_order 73 = .ok (.iinc 2 1, 3) := by decide +kernel
theorem dX6_order_76 : decode cX6_order 76 = .ok (.goto (-67), 3) := by decide +kernel
theorem dX6_order_79 : decode cX6_order 79 = .ok (.iload_n 1, 1) := by decide +kernel
theorem dX6_order_80 : decode cX6_order 80 = .ok (.ifCond .eq 7, 3) := by decide +kernel
theorem dX6_order_83 : decode cX6_order 83 = .ok (.iconst 1, 1) := by decide +kernel
theorem dX6_order_84 : decode cX6_order 84 = .ok (.goto 4, 3) := by decide +kernel
theorem dX6_order_87 : decode cX6_order 87 = .ok (.iconst 0, 1) := by decide +kernel
theorem dX6_order_88 : decode cX6_order 88 = .ok (.ireturn, 1) := by decide +kernel
set_option maxRecDepth 20000 in
theorem ggX6_step_X6_noScale : GoodIn wsX6_step wsX6_noScale := goodIn_r _ [11, 12, 13, 14, 10, 15] (by decide +kernel) (by decide +kernel)
set_option maxRecDepth 20000 in
theorem gX6_step_X6_noScale : GoodIn wsX6_step (va_wsS RX6 121 yX6_noScale wsX6_noScale) := goodIn_app (goodIn_of _ (by decide +kernel)) ggX6_step_X6_noScale
set_option maxRecDepth 20000 in
theorem ggX6_step_X6_in : GoodIn wsX6_step wsX6_in := goodIn_r _ [15] (by decide +kernel) (by decide +kernel)
set_option maxRecDepth 20000 in
theorem gX6_step_X6_in : GoodIn wsX6_step (va_wsS RX6 66 yX6_in wsX6_in) := goodIn_app (goodIn_of _ (by decide +kernel)) ggX6_step_X6_in
theorem dX6_step_0 : decode cX6_step 0 = .ok (.aload_n 0, 1) := by decide +kernel
theorem dX6_step_1 : decode cX6_step 1 = .ok (.iconst 0, 1) := by decide +kernel
theorem dX6_step_2 : decode cX6_step 2 = .ok (.putfield 63, 3) := by decide +kernel
theorem dX6_step_5 : decode cX6_step 5 = .ok (.iload_n 1, 1) := by decide +kernel
theorem dX6_step_6 : decode cX6_step 6 = .ok (.invokestatic 121, 3) := by decide +kernel
theorem dX6_step_9 : decode cX6_step 9 = .ok (.ifCond .ne 15, 3) := by decide +kernel
theorem dX6_step_12 : decode cX6_step 12 = .ok (.iload_n 2, 1) := by decide +kernel
theorem dX6_step_13 : decode cX6_step 13 = .ok (.i2l, 1) := by decide +kernel
theorem dX6_step_14 : decode cX6_step 14 = .ok (.lconst 0, 1) := by decide +kernel
theorem dX6_step_15 : decode cX6_step 15 = .ok (.ldc2_w 124, 3) := by decide +kernel
theorem dX6_step_18 : decode cX6_step 18 = .ok (.invokestatic 66, 3) := by decide +kernel
theorem dX6_step_21 : decode cX6_step 21 = .ok (.ifCond .ne 6, 3) := by decide +kernel
theorem dX6_step_24 : decode cX6_step 24 = .ok (.ldc 86, 2) := by decide +kernel
theorem dX6_step_26 : decode cX6_step 26 = .ok (.ireturn, 1) := by decide +kernel
theorem dX6_step_27 : decode cX6_step 27 = .ok (.iload_n 3, 1) := by decide +kernel
theorem dX6_step_28 : decode cX6_step 28 = .ok (.i2l, 1) := by decide +kernel
theorem dX6_step_29 : decode cX6_step 29 = .ok (.lconst 1, 1) := by decide +kernel
theorem dX6_step_30 : decode cX6_step 30 = .ok (.ldc2_w 126, 3) := by decide +kernel
theorem dX6_step_33 : decode cX6_step 33 = .ok (.invokestatic 66, 3) := by decide +kernel
theorem dX6_step_36 : decode cX6_step 36 = .ok (.ifCond .eq 24, 3) := by decide +kernel
theorem dX6_step_39 : decode cX6_step 39 = .ok (.iload 4, 2) := by decide +kernel
theorem dX6_step_41 : decode cX6_step 41 = .ok (.i2l, 1) := by decide +kernel
theorem dX6_step_42 : decode cX6_step 42 = .ok (.lconst 1, 1) := by decide +kernel
theorem dX6_step_43 : decode cX6_step 43 = .ok (.ldc2_w 126, 3) := by decide +kernel
theorem dX6_step_46 : decode cX6_step 46 = .ok (.invokestatic 66, 3) := by decide +kernel
theorem dX6_step_49 : decode cX6_step 49 = .ok (.ifCond .eq 11, 3) := by decide +kernel
theorem dX6_step_52 : decode cX6_step 52 = .ok (.iload_n 3, 1) := by decide +kernel
theorem dX6_step_53 : decode cX6_step 53 = .ok (.iconst 4, 1) := by decide +kernel
theorem dX6_step_54 : decode cX6_step 54 = .ok (.iload 4, 2) := by decide +kernel
theorem dX6_step_56 : decode cX6_step 56 = .ok (.imul, 1) := by decide +kernel
theorem dX6_step_57 : decode cX6_step 57 = .ok (.if_icmp .le 6, 3) := by decide +kernel
theorem dX6_step_60 : decode cX6_step 60 = .ok (.ldc 78, 2) := by decide +kernel
theorem dX6_step_62 : decode cX6_step 62 = .ok (.ireturn, 1) := by decide +kernel
theorem dX6_step_63 : decode cX6_step 63 = .ok (.aload_n 0, 1) := by decide +kernel
theorem dX6_step_64 : decode cX6_step 64 = .ok (.getfield 26, 3) := by decide +kernel
theorem dX6_step_67 : decode cX6_step 67 = .ok (.bipush 12, 2) := by decide +kernel
theorem dX6_step_69 : decode cX6_step 69 = .ok (.iload_n 1, 1) := by decide +kernel
theorem dX6_step_70 : decode cX6_step 70 = .ok (.imul, 1) := by decide +kernel
theorem dX6_step_71 : decode cX6_step 71 = .ok (.iload_n 2, 1) := by decide +kernel
theorem dX6_step_72 : decode cX6_step 72 = .ok (.iadd, 1) := by decide +kernel
theorem dX6_step_73 : decode cX6_step 73 = .ok (.iload_n 3, 1) := by decide +kernel
theorem dX6_step_74 : decode cX6_step 74 = .ok (.iastore, 1) := by decide +kernel
theorem dX6_step_75 : decode cX6_step 75 = .ok (.aload_n 0, 1) := by decide +kernel
theorem dX6_step_76 : decode cX6_step 76 = .ok (.getfield 29, 3) := by decide +kernel
theorem dX6_step_79 : decode cX6_step 79 = .ok (.bipush 12, 2) := by decide +kernel
theorem dX6_step_81 : decode cX6_step 81 = .ok (.iload_n 1, 1) := by decide +kernel
theorem dX6_step_82 : decode cX6_step 82 = .ok (.imul, 1) := by decide +kernel
theorem dX6_step_83 : decode cX6_step 83 = .ok (.iload_n 2, 1) := by decide +kernel
theorem dX6_step_84 : decode cX6_step 84 = .ok (.iadd, 1) := by decide +kernel
theorem dX6_step_85 : decode cX6_step 85 = .ok (.iload 4, 2) := by decide +kernel
theorem dX6_step_87 : decode cX6_step 87 = .ok (.iastore, 1) := by decide +kernel
theorem dX6_step_88 : decode cX6_step 88 = .ok (.iconst 1, 1) := by decide +kernel
theorem dX6_step_89 : decode cX6_step 89 = .ok (.ireturn, 1) := by decide +kernel
set_option maxRecDepth 20000 in
theorem ggX6_share_X6_noScale : GoodIn wsX6_share wsX6_noScale := goodIn_r _ [9, 10, 11, 12, 8, 13] (by decide +kernel) (by decide +kernel)
set_option maxRecDepth 20000 in
theorem gX6_share_X6_noScale : GoodIn wsX6_share (va_wsS RX6 121 yX6_noScale wsX6_noScale) := goodIn_app (goodIn_of _ (by decide +kernel)) ggX6_share_X6_noScale
set_option maxRecDepth 20000 in
theorem ggX6_share_X6_in : GoodIn wsX6_share wsX6_in := goodIn_r _ [13] (by decide +kernel) (by decide +kernel)
set_option maxRecDepth 20000 in
theorem gX6_share_X6_in : GoodIn wsX6_share (va_wsS RX6 66 yX6_in wsX6_in) := goodIn_app (goodIn_of _ (by decide +kernel)) ggX6_share_X6_in
theorem dX6_share_0 : decode cX6_share 0 = .ok (.aload_n 0, 1) := by decide +kernel
theorem dX6_share_1 : decode cX6_share 1 = .ok (.iconst 0, 1) := by decide +kernel
theorem dX6_share_2 : decode cX6_share 2 = .ok (.putfield 63, 3) := by decide +kernel
theorem dX6_share_5 : decode cX6_share 5 = .ok (.iload_n 1, 1) := by decide +kernel
theorem dX6_share_6 : decode cX6_share 6 = .ok (.invokestatic 121, 3) := by decide +kernel
theorem dX6_share_9 : decode cX6_share 9 = .ok (.ifCond .ne 15, 3) := by decide +kernel
theorem dX6_share_12 : decode cX6_share 12 = .ok (.iload_n 2, 1) := by decide +kernel
theorem dX6_share_13 : decode cX6_share 13 = .ok (.i2l, 1) := by decide +kernel
theorem dX6_share_14 : decode cX6_share 14 = .ok (.lconst 0, 1) := by decide +kernel
theorem dX6_share_15 : decode cX6_share 15 = .ok (.ldc2_w 124, 3) := by decide +kernel
theorem dX6_share_18 : decode cX6_share 18 = .ok (.invokestatic 66, 3) := by decide +kernel
theorem dX6_share_21 : decode cX6_share 21 = .ok (.ifCond .ne 8, 3) := by decide +kernel
theorem dX6_share_24 : decode cX6_share 24 = .ok (.ldc 86, 2) := by decide +kernel
theorem dX6_share_26 : decode cX6_share 26 = .ok (.goto 32, 3) := by decide +kernel
theorem dX6_share_29 : decode cX6_share 29 = .ok (.iload_n 3, 1) := by decide +kernel
theorem dX6_share_30 : decode cX6_share 30 = .ok (.ifCond .eq 17, 3) := by decide +kernel
theorem dX6_share_33 : decode cX6_share 33 = .ok (.aload_n 0, 1) := by decide +kernel
theorem dX6_share_34 : decode cX6_share 34 = .ok (.getfield 26, 3) := by decide +kernel
theorem dX6_share_37 : decode cX6_share 37 = .ok (.bipush 12, 2) := by decide +kernel
theorem dX6_share_39 : decode cX6_share 39 = .ok (.iload_n 1, 1) := by decide +kernel
theorem dX6_share_40 : decode cX6_share 40 = .ok (.imul, 1) := by decide +kernel
theorem dX6_share_41 : decode cX6_share 41 = .ok (.iload_n 2, 1) := by decide +kernel
theorem dX6_share_42 : decode cX6_share 42 = .ok (.iadd, 1) := by decide +kernel
theorem dX6_share_43 : decode cX6_share 43 = .ok (.iaload, 1) := by decide +kernel
theorem dX6_share_44 : decode cX6_share 44 = .ok (.goto 14, 3) := by decide +kernel
theorem dX6_share_47 : decode cX6_share 47 = .ok (.aload_n 0, 1) := by decide +kernel
theorem dX6_share_48 : decode cX6_share 48 = .ok (.getfield 29, 3) := by decide +kernel
theorem dX6_share_51 : decode cX6_share 51 = .ok (.bipush 12, 2) := by decide +kernel
theorem dX6_share_53 : decode cX6_share 53 = .ok (.iload_n 1, 1) := by decide +kernel
theorem dX6_share_54 : decode cX6_share 54 = .ok (.imul, 1) := by decide +kernel
theorem dX6_share_55 : decode cX6_share 55 = .ok (.iload_n 2, 1) := by decide +kernel
theorem dX6_share_56 : decode cX6_share 56 = .ok (.iadd, 1) := by decide +kernel
theorem dX6_share_57 : decode cX6_share 57 = .ok (.iaload, 1) := by decide +kernel
theorem dX6_share_58 : decode cX6_share 58 = .ok (.ireturn, 1) := by decide +kernel
set_option maxRecDepth 20000 in
theorem ggX6_use_X6_noScale : GoodIn wsX6_use wsX6_noScale := goodIn_r _ [7, 8, 9, 10, 6, 11] (by decide +kernel) (by decide +kernel)
set_option maxRecDepth 20000 in
theorem gX6_use_X6_noScale : GoodIn wsX6_use (va_wsS RX6 121 yX6_noScale wsX6_noScale) := goodIn_app (goodIn_of _ (by decide +kernel)) ggX6_use_X6_noScale
theorem dX6_use_0 : decode cX6_use 0 = .ok (.aload_n 0, 1) := by decide +kernel
theorem dX6_use_1 : decode cX6_use 1 = .ok (.iconst 0, 1) := by decide +kernel
theorem dX6_use_2 : decode cX6_use 2 = .ok (.putfield 63, 3) := by decide +kernel
theorem dX6_use_5 : decode cX6_use 5 = .ok (.iload_n 1, 1) := by decide +kernel
theorem dX6_use_6 : decode cX6_use 6 = .ok (.invokestatic 121, 3) := by decide +kernel
theorem dX6_use_9 : decode cX6_use 9 = .ok (.ifCond .eq 6, 3) := by decide +kernel
theorem dX6_use_12 : decode cX6_use 12 = .ok (.ldc 86, 2) := by decide +kernel
theorem dX6_use_14 : decode cX6_use 14 = .ok (.ireturn, 1) := by decide +kernel
theorem dX6_use_15 : decode cX6_use 15 = .ok (.aload_n 0, 1) := by decide +kernel
theorem dX6_use_16 : decode cX6_use 16 = .ok (.getfield 106, 3) := by decide +kernel
theorem dX6_use_19 : decode cX6_use 19 = .ok (.istore_n 2, 1) := by decide +kernel
theorem dX6_use_20 : decode cX6_use 20 = .ok (.aload_n 0, 1) := by decide +kernel
theorem dX6_use_21 : decode cX6_use 21 = .ok (.iload_n 1, 1) := by decide +kernel
theorem dX6_use_22 : decode cX6_use 22 = .ok (.putfield 106, 3) := by decide +kernel
theorem dX6_use_25 : decode cX6_use 25 = .ok (.iload_n 2, 1) := by decide +kernel
theorem dX6_use_26 : decode cX6_use 26 = .ok (.ireturn, 1) := by decide +kernel
set_option maxRecDepth 20000 in
theorem ggX6_pitch_X6_in : GoodIn wsX6_pitch wsX6_in := goodIn_r _ [9] (by decide +kernel) (by decide +kernel)
set_option maxRecDepth 20000 in
theorem gX6_pitch_X6_in : GoodIn wsX6_pitch (va_wsS RX6 66 yX6_in wsX6_in) := goodIn_app (goodIn_of _ (by decide +kernel)) ggX6_pitch_X6_in
theorem dX6_pitch_0 : decode cX6_pitch 0 = .ok (.aload_n 0, 1) := by decide +kernel
theorem dX6_pitch_1 : decode cX6_pitch 1 = .ok (.iconst 0, 1) := by decide +kernel
theorem dX6_pitch_2 : decode cX6_pitch 2 = .ok (.putfield 63, 3) := by decide +kernel
theorem dX6_pitch_5 : decode cX6_pitch 5 = .ok (.iload_n 1, 1) := by decide +kernel
theorem dX6_pitch_6 : decode cX6_pitch 6 = .ok (.i2l, 1) := by decide +kernel
theorem dX6_pitch_7 : decode cX6_pitch 7 = .ok (.ldc2_w 128, 3) := by decide +kernel
theorem dX6_pitch_10 : decode cX6_pitch 10 = .ok (.ldc2_w 130, 3) := by decide +kernel
theorem dX6_pitch_13 : decode cX6_pitch 13 = .ok (.invokestatic 66, 3) := by decide +kernel
theorem dX6_pitch_16 : decode cX6_pitch 16 = .ok (.ifCond .ne 6, 3) := by decide +kernel
theorem dX6_pitch_19 : decode cX6_pitch 19 = .ok (.ldc 78, 2) := by decide +kernel
theorem dX6_pitch_21 : decode cX6_pitch 21 = .ok (.ireturn, 1) := by decide +kernel
theorem dX6_pitch_22 : decode cX6_pitch 22 = .ok (.aload_n 0, 1) := by decide +kernel
theorem dX6_pitch_23 : decode cX6_pitch 23 = .ok (.getfield 32, 3) := by decide +kernel
theorem dX6_pitch_26 : decode cX6_pitch 26 = .ok (.istore_n 2, 1) := by decide +kernel
theorem dX6_pitch_27 : decode cX6_pitch 27 = .ok (.aload_n 0, 1) := by decide +kernel
theorem dX6_pitch_28 : decode cX6_pitch 28 = .ok (.iload_n 1, 1) := by decide +kernel
theorem dX6_pitch_29 : decode cX6_pitch 29 = .ok (.putfield 32, 3) := by decide +kernel
theorem dX6_pitch_32 : decode cX6_pitch 32 = .ok (.iload_n 2, 1) := by decide +kernel
theorem dX6_pitch_33 : decode cX6_pitch 33 = .ok (.ireturn, 1) := by decide +kernel
set_option maxRecDepth 20000 in
theorem ggX6_allWrong_X6_errorOf : GoodIn wsX6_allWrong wsX6_errorOf := goodIn_r _ [6, 7, 8, 9, 10, 11, 5, 12, 13, 14, 15, 16, 17, 18, 19, 20, 21, 22, 23, 24, 25, 26, 30, 31, 32, 33, 34, 35, 36, 37, 38, 39, 40, 41, 42, 43, 44, 45, 46, 47, 48, 49, 50] (by decide +kernel) (by decide +kernel)
set_option maxRecDepth 20000 in
theorem gX6_allWrong_X6_errorOf : GoodIn wsX6_allWrong (wsV RX6 113 RX6 yX6_errorOf wsX6_errorOf) := goodIn_app (goodIn_of _ (by decide +kernel)) ggX6_allWrong_X6_errorOf
set_option maxRecDepth 20000 in
theorem ggX6_allWrong_X6_size : GoodIn wsX6_allWrong wsX6_size := goodIn_r _ [29] (by decide +kernel) (by decide +kernel)
set_option maxRecDepth 20000 in
theorem gX6_allWrong_X6_size : GoodIn wsX6_allWrong (va_wsS RX6 132 yX6_size wsX6_size) := goodIn_app (goodIn_of _ (by decide +kernel)) ggX6_allWrong_X6_size
theorem dX6_allWrong_0 : decode cX6_allWrong 0 = .ok (.iconst 0, 1) := by decide +kernel
theorem dX6_allWrong_1 : decode cX6_allWrong 1 = .ok (.istore_n 1, 1) := by decide +kernel
theorem dX6_allWrong_2 : decode cX6_allWrong 2 = .ok (.iconst 0, 1) := by decide +kernel
theorem dX6_allWrong_3 : decode cX6_allWrong 3 = .ok (.istore_n 2, 1) := by decide +kernel
theorem dX6_allWrong_4 : decode cX6_allWrong 4 = .ok (.iload_n 2, 1) := by decide +kernel
theorem dX6_allWrong_5 : decode cX6_allWrong 5 = .ok (.aload_n 0, 1) := by decide +kernel
theorem dX6_allWrong_6 : decode cX6_allWrong 6 = .ok (.getfield 7, 3) := by decide +kernel
theorem dX6_allWrong_9 : decode cX6_allWrong 9 = .ok (.if_icmp .ge 20, 3) := by decide +kernel
theorem dX6_allWrong_12 : decode cX6_allWrong 12 = .ok (.iload_n 1, 1) := by decide +kernel
theorem dX6_allWrong_13 : decode cX6_allWrong 13 = .ok (.aload_n 0, 1) := by decide +kernel
theorem dX6_allWrong_14 : decode cX6_allWrong 14 = .ok (.iload_n 2, 1) := by decide +kernel
theorem dX6_allWrong_15 : decode cX6_allWrong 15 = .ok (.invokevirtual 113, 3) := by decide +kernel
theorem dX6_allWrong_18 : decode cX6_allWrong 18 = .ok (.invokestatic 132, 3) := by decide +kernel
theorem dX6_allWrong_21 : decode cX6_allWrong 21 = .ok (.iadd, 1) := by decide +kernel
theorem dX6_allWrong_22 : decode cX6_allWrong 22 = .ok (.istore_n 1, 1) := by decide +kernel
theorem dX6_allWrong_23 : decode cX6_allWrong 23 = .ok (.iinc 2 1, 3) := by decide +kernel
theorem dX6_allWrong_26 : decode cX6_allWrong 26 = .ok (.goto (-22), 3) := by decide +kernel
theorem dX6_allWrong_29 : decode cX6_allWrong 29 = .ok (.iload_n 1, 1) := by decide +kernel
theorem dX6_allWrong_30 : decode cX6_allWrong 30 = .ok (.ireturn, 1) := by decide +kernel
set_option maxRecDepth 20000 in
theorem ggX6_wrong_X6_allWrong : GoodIn wsX6_wrong wsX6_allWrong := goodIn_r _ [6, 7, 8, 9, 10, 5, 11, 12, 13, 14, 15, 16, 17, 18, 19, 20, 21, 22, 23, 24, 25, 26, 27, 28, 29, 30, 31, 32, 33, 34, 35, 36, 37, 38, 39, 40, 41, 42, 43, 44, 45, 46, 47, 48, 49, 50, 51, 52, 53, 54, 55] (by decide +kernel) (by decide +kernel)
set_option maxRecDepth 20000 in
theorem gX6_wrong_X6_allWrong : GoodIn wsX6_wrong (wsV RX6 135 RX6 yX6_allWrong wsX6_allWrong) := goodIn_app (goodIn_of _ (by decide +kernel)) ggX6_wrong_X6_allWrong
theorem dX6_wrong_0 : decode cX6_wrong 0 = .ok (.aload_n 0, 1) := by decide +kernel
theorem dX6_wrong_1 : decode cX6_wrong 1 = .ok (.iconst 0, 1) := by decide +kernel
theorem dX6_wrong_2 : decode cX6_wrong 2 = .ok (.putfield 63, 3) := by decide +kernel
theorem dX6_wrong_5 : decode cX6_wrong 5 = .ok (.aload_n 0, 1) := by decide +kernel
theorem dX6_wrong_6 : decode cX6_wrong 6 = .ok (.invokevirtual 135, 3) := by decide +kernel
theorem dX6_wrong_9 : decode cX6_wrong 9 = .ok (.ireturn, 1) := by decide +kernel
set_option maxRecDepth 20000 in
theorem ggX6_bendBest_X6_errorOf : GoodIn wsX6_bendBest wsX6_errorOf := goodIn_r _ [6, 7, 8, 9, 10, 11, 5, 12, 13, 14, 15, 16, 17, 18, 19, 1, 20, 21, 22, 23, 24, 25, 29, 30, 31, 32, 33, 34, 35, 36, 37, 38, 39, 40, 41, 42, 43, 44, 45, 46, 47, 48, 49] (by decide +kernel) (by decide +kernel)
set_option maxRecDepth 20000 in
theorem gX6_bendBest_X6_errorOf : GoodIn wsX6_bendBest (wsV RX6 113 RX6 yX6_errorOf wsX6_errorOf) := goodIn_app (goodIn_of _ (by decide +kernel)) ggX6_bendBest_X6_errorOf
set_option maxRecDepth 20000 in
theorem ggX6_bendBest_X6_size : GoodIn wsX6_bendBest wsX6_size := goodIn_r _ [28] (by decide +kernel) (by decide +kernel)
set_option maxRecDepth 20000 in
theorem gX6_bendBest_X6_size : GoodIn wsX6_bendBest (va_wsS RX6 132 yX6_size wsX6_size) := goodIn_app (goodIn_of _ (by decide +kernel)) ggX6_bendBest_X6_size
theorem dX6_bendBest_0 : decode cX6_bendBest 0 = .ok (.bipush (-40), 2) := by decide +kernel
theorem dX6_bendBest_2 : decode cX6_bendBest 2 = .ok (.istore_n 2, 1) := by decide +kernel
theorem dX6_bendBest_3 : decode cX6_bendBest 3 = .ok (.iconst 0, 1) := by decide +kernel
theorem dX6_bendBest_4 : decode cX6_bendBest 4 = .ok (.istore_n 3, 1) := by decide +kernel
theorem dX6_bendBest_5 : decode cX6_bendBest 5 = .ok (.bipush (-40), 2) := by decide +kernel
theorem dX6_bendBest_7 : decode cX6_bendBest 7 = .ok (.istore 4, 2) := by decide +kernel
theorem dX6_bendBest_9 : decode cX6_bendBest 9 = .ok (.iload 4, 2) := by decide +kernel
theorem dX6_bendBest_11 : decode cX6_bendBest 11 = .ok (.bipush 40, 2) := by decide +kernel
theorem dX6_bendBest_13 : decode cX6_bendBest 13 = .ok (.if_icmp .gt 64, 3) := by decide +kernel
theorem dX6_bendBest_16 : decode cX6_bendBest 16 = .ok (.aload_n 0, 1) := by decide +kernel
theorem dX6_bendBest_17 : decode cX6_bendBest 17 = .ok (.getfield 20, 3) := by decide +kernel
theorem dX6_bendBest_20 : decode cX6_bendBest 20 = .ok (.iload_n 1, 1) := by decide +kernel
theorem dX6_bendBest_21 : decode cX6_bendBest 21 = .ok (.iload 4, 2) := by decide +kernel
theorem dX6_bendBest_23 : decode cX6_bendBest 23 = .ok (.iastore, 1) := by decide +kernel
theorem dX6_bendBest_24 : decode cX6_bendBest 24 = .ok (.aload_n 0, 1) := by decide +kernel
theorem dX6_bendBest_25 : decode cX6_bendBest 25 = .ok (.iload_n 1, 1) := by decide +kernel
theorem dX6_bendBest_26 : decode cX6_bendBest 26 = .ok (.invokevirtual 113, 3) := by decide +kernel
theorem dX6_bendBest_29 : decode cX6_bendBest 29 = .ok (.invokestatic 132, 3) := by decide +kernel
theorem dX6_bendBest_32 : decode cX6_bendBest 32 = .ok (.istore 5, 2) := by decide +kernel
theorem dX6_bendBest_34 : decode cX6_bendBest 34 = .ok (.iload 4, 2) := by decide +kernel
theorem dX6_bendBest_36 : decode cX6_bendBest 36 = .ok (.bipush (-40), 2) := by decide +kernel
theorem dX6_bendBest_38 : decode cX6_bendBest 38 = .ok (.if_icmp .eq 27, 3) := by decide +kernel
theorem dX6_bendBest_41 : decode cX6_bendBest 41 = .ok (.iload 5, 2) := by decide +kernel
theorem dX6_bendBest_43 : decode cX6_bendBest 43 = .ok (.iload_n 3, 1) := by decide +kernel
theorem dX6_bendBest_44 : decode cX6_bendBest 44 = .ok (.if_icmp .lt 21, 3) := by decide +kernel
theorem dX6_bendBest_47 : decode cX6_bendBest 47 = .ok (.iload 5, 2) := by decide +kernel
theorem dX6_bendBest_49 : decode cX6_bendBest 49 = .ok (.iload_n 3, 1) := by decide +kernel
theorem dX6_bendBest_50 : decode cX6_bendBest 50 = .ok (.if_icmp .ne 21, 3) := by decide +kernel
theorem dX6_bendBest_53 : decode cX6_bendBest 53 = .ok (.iload 4, 2) := by decide +kernel
theorem dX6_bendBest_55 : decode cX6_bendBest 55 = .ok (.invokestatic 132, 3) := by decide +kernel
theorem dX6_bendBest_58 : decode cX6_bendBest 58 = .ok (.iload_n 2, 1) := by decide +kernel
theorem dX6_bendBest_59 : decode cX6_bendBest 59 = .ok (.invokestatic 132, 3) := by decide +kernel
theorem dX6_bendBest_62 : decode cX6_bendBest 62 = .ok (.if_icmp .ge 9, 3) := by decide +kernel
theorem dX6_bendBest_65 : decode cX6_bendBest 65 = .ok (.iload 4, 2) := by decide +kernel
theorem dX6_bendBest_67 : decode cX6_bendBest 67 = .ok (.istore_n 2, 1) := by decide +kernel
theorem dX6_bendBest_68 : decode cX6_bendBest 68 = .ok (.iload 5, 2) := by decide +kernel
theorem dX6_bendBest_70 : decode cX6_bendBest 70 = .ok (.istore_n 3, 1) := by decide +kernel
theorem dX6_bendBest_71 : decode cX6_bendBest 71 = .ok (.iinc 4 1, 3) := by decide +kernel
theorem dX6_bendBest_74 : decode cX6_bendBest 74 = .ok (.goto (-65), 3) := by decide +kernel
theorem dX6_bendBest_77 : decode cX6_bendBest 77 = .ok (.aload_n 0, 1) := by decide +kernel
theorem dX6_bendBest_78 : decode cX6_bendBest 78 = .ok (.getfield 20, 3) := by decide +kernel
theorem dX6_bendBest_81 : decode cX6_bendBest 81 = .ok (.iload_n 1, 1) := by decide +kernel
theorem dX6_bendBest_82 : decode cX6_bendBest 82 = .ok (.iload_n 2, 1) := by decide +kernel
theorem dX6_bendBest_83 : decode cX6_bendBest 83 = .ok (.iastore, 1) := by decide +kernel
theorem dX6_bendBest_84 : decode cX6_bendBest 84 = .ok (.return_, 1) := by decide +kernel
set_option maxRecDepth 20000 in
theorem ggX6_tune_X6_noKey : GoodIn wsX6_tune wsX6_noKey := goodIn_r _ [7, 8, 9, 10, 6, 11, 43, 44, 45, 46, 47, 48, 49, 50, 51, 52, 53, 54, 55, 56, 57, 58, 59, 60, 61, 62, 63] (by decide +kernel) (by decide +kernel)
set_option maxRecDepth 20000 in
theorem gX6_tune_X6_noKey : GoodIn wsX6_tune (wsV RX6 79 RX6 yX6_noKey wsX6_noKey) := goodIn_app (goodIn_of _ (by decide +kernel)) ggX6_tune_X6_noKey
set_option maxRecDepth 20000 in
theorem ggX6_tune_X6_bendBest : GoodIn wsX6_tune wsX6_bendBest := goodIn_r _ [15, 16, 17, 18, 19, 6, 20, 21, 22, 23, 24, 25, 26, 27, 28, 29, 30, 31, 32, 33, 34, 35, 36, 37, 38, 39, 40, 41, 42, 43, 44, 45, 46, 47, 48, 49, 50, 51, 52, 53, 54, 55, 56, 57, 58, 59, 60, 61, 62, 63] (by decide +kernel) (by decide +kernel)
set_option maxRecDepth 20000 in
theorem gX6_tune_X6_bendBest : GoodIn wsX6_tune (wsV RX6 139 RX6 yX6_bendBest wsX6_bendBest) := goodIn_app (goodIn_of _ (by decide +kernel)) ggX6_tune_X6_bendBest
set_option maxRecDepth 20000 in
theorem ggX6_tune_X6_errorOf : GoodIn wsX6_tune wsX6_errorOf := goodIn_r _ [20, 21, 22, 23, 24, 25, 6, 26, 27, 28, 29, 30, 31, 32, 33, 16, 34, 35, 36, 37, 38, 39, 43, 44, 45, 46, 47, 48, 49, 50, 51, 52, 53, 54, 55, 56, 57, 58, 59, 60, 61, 62, 63] (by decide +kernel) (by decide +kernel)
set_option maxRecDepth 20000 in
theorem gX6_tune_X6_errorOf : GoodIn wsX6_tune (wsV RX6 113 RX6 yX6_errorOf wsX6_errorOf) := goodIn_app (goodIn_of _ (by decide +kernel)) ggX6_tune_X6_errorOf
theorem dX6_tune_0 : decode cX6_tune 0 = .ok (.aload_n 0, 1) := by decide +kernel
theorem dX6_tune_1 : decode cX6_tune 1 = .ok (.iconst 0, 1) := by decide +kernel
theorem dX6_tune_2 : decode cX6_tune 2 = .ok (.putfield 63, 3) := by decide +kernel
theorem dX6_tune_5 : decode cX6_tune 5 = .ok (.aload_n 0, 1) := by decide +kernel
theorem dX6_tune_6 : decode cX6_tune 6 = .ok (.iload_n 1, 1) := by decide +kernel
theorem dX6_tune_7 : decode cX6_tune 7 = .ok (.invokevirtual 79, 3) := by decide +kernel
theorem dX6_tune_10 : decode cX6_tune 10 = .ok (.ifCond .eq 6, 3) := by decide +kernel
theorem dX6_tune_13 : decode cX6_tune 13 = .ok (.ldc 86, 2) := by decide +kernel
theorem dX6_tune_15 : decode cX6_tune 15 = .ok (.ireturn, 1) := by decide +kernel
theorem dX6_tune_16 : decode cX6_tune 16 = .ok (.aload_n 0, 1) := by decide +kernel
theorem dX6_tune_17 : decode cX6_tune 17 = .ok (.iload_n 1, 1) := by decide +kernel
theorem dX6_tune_18 : decode cX6_tune 18 = .ok (.invokevirtual 139, 3) := by decide +kernel
theorem dX6_tune_21 : decode cX6_tune 21 = .ok (.aload_n 0, 1) := by decide +kernel
theorem dX6_tune_22 : decode cX6_tune 22 = .ok (.iload_n 1, 1) := by decide +kernel
theorem dX6_tune_23 : decode cX6_tune 23 = .ok (.invokevirtual 113, 3) := by decide +kernel
theorem dX6_tune_26 : decode cX6_tune 26 = .ok (.ireturn, 1) := by decide +kernel
set_option maxRecDepth 20000 in
theorem ggX6_tuneAll_X6_bendBest : GoodIn wsX6_tuneAll wsX6_bendBest := goodIn_r _ [7, 8, 9, 10, 11, 6, 12, 13, 14, 15, 16, 17, 18, 19, 20, 21, 22, 23, 24, 25, 26, 27, 28, 29, 30, 31, 32, 33, 34, 39, 40, 41, 42, 43, 44, 45, 46, 47, 48, 49, 50, 51, 52, 53, 54, 55, 56, 57, 58, 59] (by decide +kernel) (by decide +kernel)
set_option maxRecDepth 20000 in
theorem gX6_tuneAll_X6_bendBest : GoodIn wsX6_tuneAll (wsV RX6 139 RX6 yX6_bendBest wsX6_bendBest) := goodIn_app (goodIn_of _ (by decide +kernel)) ggX6_tuneAll_X6_bendBest
set_option maxRecDepth 20000 in
theorem ggX6_tuneAll_X6_allWrong : GoodIn wsX6_tuneAll wsX6_allWrong := goodIn_r _ [38, 2, 9, 10, 11, 6, 12, 13, 14, 15, 16, 17, 18, 19, 20, 21, 22, 23, 24, 25, 8, 26, 27, 28, 29, 30, 31, 32, 33, 34, 39, 40, 41, 42, 43, 44, 45, 46, 47, 48, 49, 50, 51, 52, 53, 54, 55, 56, 57, 58, 59] (by decide +kernel) (by decide +kernel)
set_option maxRecDepth 20000 in
theorem gX6_tuneAll_X6_allWrong : GoodIn wsX6_tuneAll (wsV RX6 135 RX6 yX6_allWrong wsX6_allWrong) := goodIn_app (goodIn_of _ (by decide +kernel)) ggX6_tuneAll_X6_allWrong
theorem dX6_tuneAll_0 : decode cX6_tuneAll 0 = .ok (.aload_n 0, 1) := by decide +kernel
theorem dX6_tuneAll_1 : decode cX6_tuneAll 1 = .ok (.iconst 0, 1) := by decide +kernel
theorem dX6_tuneAll_2 : decode cX6_tuneAll 2 = .ok (.putfield 63, 3) := by decide +kernel
theorem dX6_tuneAll_5 : decode cX6_tuneAll 5 = .ok (.iconst 0, 1) := by decide +kernel
theorem dX6_tuneAll_6 : decode cX6_tuneAll 6 = .ok (.istore_n 1, 1) := by decide +kernel
theorem dX6_tuneAll_7 : decode cX6_tuneAll 7 = .ok (.iload_n 1, 1) := by decide +kernel
theorem dX6_tuneAll_8 : decode cX6_tuneAll 8 = .ok (.aload_n 0, 1) := by decide +kernel
theorem dX6_tuneAll_9 : decode cX6_tuneAll 9 = .ok (.getfield 7, 3) := by decide +kernel
theorem dX6_tuneAll_12 : decode cX6_tuneAll 12 = .ok (.if_icmp .ge 14, 3) := by decide +kernel
theorem dX6_tuneAll_15 : decode cX6_tuneAll 15 = .ok (.aload_n 0, 1) := by decide +kernel
theorem dX6_tuneAll_16 : decode cX6_tuneAll 16 = .ok (.iload_n 1, 1) := by decide +kernel
theorem dX6_tuneAll_17 : decode cX6_tuneAll 17 = .ok (.invokevirtual 139, 3) := by decide +kernel
theorem dX6_tuneAll_20 : decode cX6_tuneAll 20 = .ok (.iinc 1 1, 3) := by decide +kernel
theorem dX6_tuneAll_23 : decode cX6_tuneAll 23 = .ok (.goto (-16), 3) := by decide +kernel
theorem dX6_tuneAll_26 : decode cX6_tuneAll 26 = .ok (.aload_n 0, 1) := by decide +kernel
theorem dX6_tuneAll_27 : decode cX6_tuneAll 27 = .ok (.invokevirtual 135, 3) := by decide +kernel
theorem dX6_tuneAll_30 : decode cX6_tuneAll 30 = .ok (.ireturn, 1) := by decide +kernel
set_option maxRecDepth 20000 in
theorem ggX6_worst_X6_errorOf : GoodIn wsX6_worst wsX6_errorOf := goodIn_r _ [7, 8, 9, 10, 11, 12, 6, 13, 14, 15, 16, 17, 18, 19, 20, 21, 22, 23, 24, 25, 26, 27, 31, 32, 33, 34, 35, 36, 37, 38, 39, 40, 41, 42, 43, 44, 45, 46, 47, 48, 49, 50, 51] (by decide +kernel) (by decide +kernel)
set_option maxRecDepth 20000 in
theorem gX6_worst_X6_errorOf : GoodIn wsX6_worst (wsV RX6 113 RX6 yX6_errorOf wsX6_errorOf) := goodIn_app (goodIn_of _ (by decide +kernel)) ggX6_worst_X6_errorOf
set_option maxRecDepth 20000 in
theorem ggX6_worst_X6_size : GoodIn wsX6_worst wsX6_size := goodIn_r _ [30] (by decide +kernel) (by decide +kernel)
set_option maxRecDepth 20000 in
theorem gX6_worst_X6_size : GoodIn wsX6_worst (va_wsS RX6 132 yX6_size wsX6_size) := goodIn_app (goodIn_of _ (by decide +kernel)) ggX6_worst_X6_size
theorem dX6_worst_0 : decode cX6_worst 0 = .ok (.aload_n 0, 1) := by decide +kernel
theorem dX6_worst_1 : decode cX6_worst 1 = .ok (.iconst 0, 1) := by decide +kernel
theorem dX6_worst_2 : decode cX6_worst 2 = .ok (.putfield 63, 3) := by decide +kernel
theorem dX6_worst_5 : decode cX6_worst 5 = .ok (.iconst 0, 1) := by decide +kernel
theorem dX6_worst_6 : decode cX6_worst 6 = .ok (.istore_n 1, 1) := by decide +kernel
theorem dX6_worst_7 : decode cX6_worst 7 = .ok (.iconst 1, 1) := by decide +kernel
theorem dX6_worst_8 : decode cX6_worst 8 = .ok (.istore_n 2, 1) := by decide +kernel
theorem dX6_worst_9 : decode cX6_worst 9 = .ok (.iload_n 2, 1) := by decide +kernel
theorem dX6_worst_10 : decode cX6_worst 10 = .ok (.aload_n 0, 1) := by decide +kernel
theorem dX6_worst_11 : decode cX6_worst 11 = .ok (.getfield 7, 3) := by decide +kernel
theorem dX6_worst_14 : decode cX6_worst 14 = .ok (.if_icmp .ge 34, 3) := by decide +kernel
theorem dX6_worst_17 : decode cX6_worst 17 = .ok (.aload_n 0, 1) := by decide +kernel
theorem dX6_worst_18 : decode cX6_worst 18 = .ok (.iload_n 2, 1) := by decide +kernel
theorem dX6_worst_19 : decode cX6_worst 19 = .ok (.invokevirtual 113, 3) := by decide +kernel
theorem dX6_worst_22 : decode cX6_worst 22 = .ok (.invokestatic 132, 3) := by decide +kernel
theorem dX6_worst_25 : decode cX6_worst 25 = .ok (.aload_n 0, 1) := by decide +kernel
theorem dX6_worst_26 : decode cX6_worst 26 = .ok (.iload_n 1, 1) := by decide +kernel
theorem dX6_worst_27 : decode cX6_worst 27 = .ok (.invokevirtual 113, 3) := by decide +kernel
theorem dX6_worst_30 : decode cX6_worst 30 = .ok (.invokestatic 132, 3) := by decide +kernel
theorem dX6_worst_33 : decode cX6_worst 33 = .ok (.if_icmp .le 7, 3) := by decide +kernel
theorem dX6_worst_36 : decode cX6_worst 36 = .ok (.iload_n 2, 1) := by decide +kernel
theorem dX6_worst_37 : decode cX6_worst 37 = .ok (.goto 4, 3) := by decide +kernel
theorem dX6_worst_40 : decode cX6_worst 40 = .ok (.iload_n 1, 1) := by decide +kernel
theorem dX6_worst_41 : decode cX6_worst 41 = .ok (.istore_n 1, 1) := by decide +kernel
theorem dX6_worst_42 : decode cX6_worst 42 = .ok (.iinc 2 1, 3) := by decide +kernel
theorem dX6_worst_45 : decode cX6_worst 45 = .ok (.goto (-36), 3) := by decide +kernel
theorem dX6_worst_48 : decode cX6_worst 48 = .ok (.iload_n 1, 1) := by decide +kernel
theorem dX6_worst_49 : decode cX6_worst 49 = .ok (.ireturn, 1) := by decide +kernel
set_option maxRecDepth 20000 in
theorem ggX6_note_X6_noPiece : GoodIn wsX6_note wsX6_noPiece := goodIn_r _ [16, 17, 18, 19, 15, 20] (by decide +kernel) (by decide +kernel)
set_option maxRecDepth 20000 in
theorem gX6_note_X6_noPiece : GoodIn wsX6_note (va_wsS RX6 143 yX6_noPiece wsX6_noPiece) := goodIn_app (goodIn_of _ (by decide +kernel)) ggX6_note_X6_noPiece
set_option maxRecDepth 20000 in
theorem ggX6_note_X6_in : GoodIn wsX6_note wsX6_in := goodIn_r _ [20] (by decide +kernel) (by decide +kernel)
set_option maxRecDepth 20000 in
theorem gX6_note_X6_in : GoodIn wsX6_note (va_wsS RX6 66 yX6_in wsX6_in) := goodIn_app (goodIn_of _ (by decide +kernel)) ggX6_note_X6_in
theorem dX6_note_0 : decode cX6_note 0 = .ok (.aload_n 0, 1) := by decide +kernel
theorem dX6_note_1 : decode cX6_note 1 = .ok (.iconst 0, 1) := by decide +kernel
theorem dX6_note_2 : decode cX6_note 2 = .ok (.putfield 63, 3) := by decide +kernel
theorem dX6_note_5 : decode cX6_note 5 = .ok (.iload_n 1, 1) := by decide +kernel
theorem dX6_note_6 : decode cX6_note 6 = .ok (.invokestatic 143, 3) := by decide +kernel
theorem dX6_note_9 : decode cX6_note 9 = .ok (.ifCond .eq 6, 3) := by decide +kernel
theorem dX6_note_12 : decode cX6_note 12 = .ok (.ldc 86, 2) := by decide +kernel
theorem dX6_note_14 : decode cX6_note 14 = .ok (.ireturn, 1) := by decide +kernel
theorem dX6_note_15 : decode cX6_note 15 = .ok (.iload_n 2, 1) := by decide +kernel
theorem dX6_note_16 : decode cX6_note 16 = .ok (.i2l, 1) := by decide +kernel
theorem dX6_note_17 : decode cX6_note 17 = .ok (.lconst 0, 1) := by decide +kernel
theorem dX6_note_18 : decode cX6_note 18 = .ok (.ldc2_w 70, 3) := by decide +kernel
theorem dX6_note_21 : decode cX6_note 21 = .ok (.invokestatic 66, 3) := by decide +kernel
theorem dX6_note_24 : decode cX6_note 24 = .ok (.ifCond .eq 28, 3) := by decide +kernel
theorem dX6_note_27 : decode cX6_note 27 = .ok (.iload_n 3, 1) := by decide +kernel
theorem dX6_note_28 : decode cX6_note 28 = .ok (.i2l, 1) := by decide +kernel
theorem dX6_note_29 : decode cX6_note 29 = .ok (.lconst 0, 1) := by decide +kernel
theorem dX6_note_30 : decode cX6_note 30 = .ok (.ldc2_w 126, 3) := by decide +kernel
theorem dX6_note_33 : decode cX6_note 33 = .ok (.invokestatic 66, 3) := by decide +kernel
theorem dX6_note_36 : decode cX6_note 36 = .ok (.ifCond .eq 16, 3) := by decide +kernel
theorem dX6_note_39 : decode cX6_note 39 = .ok (.iload 4, 2) := by decide +kernel
theorem dX6_note_41 : decode cX6_note 41 = .ok (.i2l, 1) := by decide +kernel
theorem dX6_note_42 : decode cX6_note 42 = .ok (.lconst 1, 1) := by decide +kernel
theorem dX6_note_43 : decode cX6_note 43 = .ok (.ldc2_w 146, 3) := by decide +kernel
theorem dX6_note_46 : decode cX6_note 46 = .ok (.invokestatic 66, 3) := by decide +kernel
theorem dX6_note_49 : decode cX6_note 49 = .ok (.ifCond .ne 6, 3) := by decide +kernel
theorem dX6_note_52 : decode cX6_note 52 = .ok (.ldc 78, 2) := by decide +kernel
theorem dX6_note_54 : decode cX6_note 54 = .ok (.ireturn, 1) := by decide +kernel
theorem dX6_note_55 : decode cX6_note 55 = .ok (.aload_n 0, 1) := by decide +kernel
theorem dX6_note_56 : decode cX6_note 56 = .ok (.getfield 35, 3) := by decide +kernel
theorem dX6_note_59 : decode cX6_note 59 = .ok (.iload_n 1, 1) := by decide +kernel
theorem dX6_note_60 : decode cX6_note 60 = .ok (.iaload, 1) := by decide +kernel
theorem dX6_note_61 : decode cX6_note 61 = .ok (.istore 5, 2) := by decide +kernel
theorem dX6_note_63 : decode cX6_note 63 = .ok (.iload 5, 2) := by decide +kernel
theorem dX6_note_65 : decode cX6_note 65 = .ok (.ifCond .le 24, 3) := by decide +kernel
theorem dX6_note_68 : decode cX6_note 68 = .ok (.iload_n 3, 1) := by decide +kernel
theorem dX6_note_69 : decode cX6_note 69 = .ok (.aload_n 0, 1) := by decide +kernel
theorem dX6_note_70 : decode cX6_note 70 = .ok (.getfield 41, 3) := by decide +kernel
theorem dX6_note_73 : decode cX6_note 73 = .ok (.bipush 40, 2) := by decide +kernel
theorem dX6_note_75 : decode cX6_note 75 = .ok (.iload_n 1, 1) := by decide +kernel
theorem dX6_note_76 : decode cX6_note 76 = .ok (.imul, 1) := by decide +kernel
theorem dX6_note_77 : decode cX6_note 77 = .ok (.iload 5, 2) := by decide +kernel
theorem dX6_note_79 : decode cX6_note 79 = .ok (.iadd, 1) := by decide +kernel
theorem dX6_note_80 : decode cX6_note 80 = .ok (.iconst 1, 1) := by decide +kernel
theorem dX6_note_81 : decode cX6_note 81 = .ok (.isub, 1) := by decide +kernel
theorem dX6_note_82 : decode cX6_note 82 = .ok (.iaload, 1) := by decide +kernel
theorem dX6_note_83 : decode cX6_note 83 = .ok (.if_icmp .ge 6, 3) := by decide +kernel
theorem dX6_note_86 : decode cX6_note 86 = .ok (.ldc 148, 2) := by decide +kernel
theorem dX6_note_88 : decode cX6_note 88 = .ok (.ireturn, 1) := by decide +kernel
theorem dX6_note_89 : decode cX6_note 89 = .ok (.iload 5, 2) := by decide +kernel
theorem dX6_note_91 : decode cX6_note 91 = .ok (.bipush 40, 2) := by decide +kernel
theorem dX6_note_93 : decode cX6_note 93 = .ok (.if_icmp .ne 6, 3) := by decide +kernel
theorem dX6_note_96 : decode cX6_note 96 = .ok (.ldc 149, 2) := by decide +kernel
theorem dX6_note_98 : decode cX6_note 98 = .ok (.ireturn, 1) := by decide +kernel
theorem dX6_note_99 : decode cX6_note 99 = .ok (.aload_n 0, 1) := by decide +kernel
theorem dX6_note_100 : decode cX6_note 100 = .ok (.getfield 38, 3) := by decide +kernel
theorem dX6_note_103 : decode cX6_note 103 = .ok (.bipush 40, 2) := by decide +kernel
theorem dX6_note_105 : decode cX6_note 105 = .ok (.iload_n 1, 1) := by decide +kernel
theorem dX6_note_106 : decode cX6_note 106 = .ok (.imul, 1) := by decide +kernel
theorem dX6_note_107 : decode cX6_note 107 = .ok (.iload 5, 2) := by decide +kernel
theorem dX6_note_109 : decode cX6_note 109 = .ok (.iadd, 1) := by decide +kernel
theorem dX6_note_110 : decode cX6_note 110 = .ok (.iload_n 2, 1) := by decide +kernel
theorem dX6_note_111 : decode cX6_note 111 = .ok (.iastore, 1) := by decide +kernel
theorem dX6_note_112 : decode cX6_note 112 = .ok (.aload_n 0, 1) := by decide +kernel
theorem dX6_note_113 : decode cX6_note 113 = .ok (.getfield 41, 3) := by decide +kernel
theorem dX6_note_116 : decode cX6_note 116 = .ok (.bipush 40, 2) := by decide +kernel
theorem dX6_note_118 : decode cX6_note 118 = .ok (.iload_n 1, 1) := by decide +kernel
theorem dX6_note_119 : decode cX6_note 119 = .ok (.imul, 1) := by decide +kernel
theorem dX6_note_120 : decode cX6_note 120 = .ok (.iload 5, 2) := by decide +kernel
theorem dX6_note_122 : decode cX6_note 122 = .ok (.iadd, 1) := by decide +kernel
theorem dX6_note_123 : decode cX6_note 123 = .ok (.iload_n 3, 1) := by decide +kernel
theorem dX6_note_124 : decode cX6_note 124 = .ok (.iastore, 1) := by decide +kernel
theorem dX6_note_125 : decode cX6_note 125 = .ok (.aload_n 0, 1) := by decide +kernel
theorem dX6_note_126 : decode cX6_note 126 = .ok (.getfield 44, 3) := by decide +kernel
theorem dX6_note_129 : decode cX6_note 129 = .ok (.bipush 40, 2) := by decide +kernel
theorem dX6_note_131 : decode cX6_note 131 = .ok (.iload_n 1, 1) := by decide +kernel
theorem dX6_note_132 : decode cX6_note 132 = .ok (.imul, 1) := by decide +kernel
theorem dX6_note_133 : decode cX6_note 133 = .ok (.iload 5, 2) := by decide +kernel
theorem dX6_note_135 : decode cX6_note 135 = .ok (.iadd, 1) := by decide +kernel
theorem dX6_note_136 : decode cX6_note 136 = .ok (.iload 4, 2) := by decide +kernel
theorem dX6_note_138 : decode cX6_note 138 = .ok (.iastore, 1) := by decide +kernel
theorem dX6_note_139 : decode cX6_note 139 = .ok (.aload_n 0, 1) := by decide +kernel
theorem dX6_note_140 : decode cX6_note 140 = .ok (.getfield 35, 3) := by decide +kernel
theorem dX6_note_143 : decode cX6_note 143 = .ok (.iload_n 1, 1) := by decide +kernel
theorem dX6_note_144 : decode cX6_note 144 = .ok (.dup2, 1) := by decide +kernel
theorem dX6_note_145 : decode cX6_note 145 = .ok (.iaload, 1) := by decide +kernel
theorem dX6_note_146 : decode cX6_note 146 = .ok (.iconst 1, 1) := by decide +kernel
theorem dX6_note_147 : decode cX6_note 147 = .ok (.iadd, 1) := by decide +kernel
theorem dX6_note_148 : decode cX6_note 148 = .ok (.iastore, 1) := by decide +kernel
theorem dX6_note_149 : decode cX6_note 149 = .ok (.iload 5, 2) := by decide +kernel
theorem dX6_note_151 : decode cX6_note 151 = .ok (.ireturn, 1) := by decide +kernel
set_option maxRecDepth 20000 in
theorem ggX6_wipe_X6_noPiece : GoodIn wsX6_wipe wsX6_noPiece := goodIn_r _ [7, 8, 9, 10, 6, 11] (by decide +kernel) (by decide +kernel)
set_option maxRecDepth 20000 in
theorem gX6_wipe_X6_noPiece : GoodIn wsX6_wipe (va_wsS RX6 143 yX6_noPiece wsX6_noPiece) := goodIn_app (goodIn_of _ (by decide +kernel)) ggX6_wipe_X6_noPiece
theorem dX6_wipe_0 : decode cX6_wipe 0 = .ok (.aload_n 0, 1) := by decide +kernel
theorem dX6_wipe_1 : decode cX6_wipe 1 = .ok (.iconst 0, 1) := by decide +kernel
theorem dX6_wipe_2 : decode cX6_wipe 2 = .ok (.putfield 63, 3) := by decide +kernel
theorem dX6_wipe_5 : decode cX6_wipe 5 = .ok (.iload_n 1, 1) := by decide +kernel
theorem dX6_wipe_6 : decode cX6_wipe 6 = .ok (.invokestatic 143, 3) := by decide +kernel
theorem dX6_wipe_9 : decode cX6_wipe 9 = .ok (.ifCond .eq 6, 3) := by decide +kernel
theorem dX6_wipe_12 : decode cX6_wipe 12 = .ok (.ldc 86, 2) := by decide +kernel
theorem dX6_wipe_14 : decode cX6_wipe 14 = .ok (.ireturn, 1) := by decide +kernel
theorem dX6_wipe_15 : decode cX6_wipe 15 = .ok (.aload_n 0, 1) := by decide +kernel
theorem dX6_wipe_16 : decode cX6_wipe 16 = .ok (.getfield 35, 3) := by decide +kernel
theorem dX6_wipe_19 : decode cX6_wipe 19 = .ok (.iload_n 1, 1) := by decide +kernel
theorem dX6_wipe_20 : decode cX6_wipe 20 = .ok (.iaload, 1) := by decide +kernel
theorem dX6_wipe_21 : decode cX6_wipe 21 = .ok (.istore_n 2, 1) := by decide +kernel
theorem dX6_wipe_22 : decode cX6_wipe 22 = .ok (.aload_n 0, 1) := by decide +kernel
theorem dX6_wipe_23 : decode cX6_wipe 23 = .ok (.getfield 35, 3) := by decide +kernel
theorem dX6_wipe_26 : decode cX6_wipe 26 = .ok (.iload_n 1, 1) := by decide +kernel
theorem dX6_wipe_27 : decode cX6_wipe 27 = .ok (.iconst 0, 1) := by decide +kernel
theorem dX6_wipe_28 : decode cX6_wipe 28 = .ok (.iastore, 1) := by decide +kernel
theorem dX6_wipe_29 : decode cX6_wipe 29 = .ok (.iload_n 2, 1) := by decide +kernel
theorem dX6_wipe_30 : decode cX6_wipe 30 = .ok (.ireturn, 1) := by decide +kernel
set_option maxRecDepth 20000 in
theorem ggX6_rest_X6_in : GoodIn wsX6_rest wsX6_in := goodIn_r _ [8] (by decide +kernel) (by decide +kernel)
set_option maxRecDepth 20000 in
theorem gX6_rest_X6_in : GoodIn wsX6_rest (va_wsS RX6 66 yX6_in wsX6_in) := goodIn_app (goodIn_of _ (by decide +kernel)) ggX6_rest_X6_in
theorem dX6_rest_0 : decode cX6_rest 0 = .ok (.aload_n 0, 1) := by decide +kernel
theorem dX6_rest_1 : decode cX6_rest 1 = .ok (.iconst 0, 1) := by decide +kernel
theorem dX6_rest_2 : decode cX6_rest 2 = .ok (.putfield 63, 3) := by decide +kernel
theorem dX6_rest_5 : decode cX6_rest 5 = .ok (.iload_n 1, 1) := by decide +kernel
theorem dX6_rest_6 : decode cX6_rest 6 = .ok (.i2l, 1) := by decide +kernel
theorem dX6_rest_7 : decode cX6_rest 7 = .ok (.lconst 0, 1) := by decide +kernel
theorem dX6_rest_8 : decode cX6_rest 8 = .ok (.ldc2_w 116, 3) := by decide +kernel
theorem dX6_rest_11 : decode cX6_rest 11 = .ok (.invokestatic 66, 3) := by decide +kernel
theorem dX6_rest_14 : decode cX6_rest 14 = .ok (.ifCond .ne 6, 3) := by decide +kernel
theorem dX6_rest_17 : decode cX6_rest 17 = .ok (.ldc 78, 2) := by decide +kernel
theorem dX6_rest_19 : decode cX6_rest 19 = .ok (.ireturn, 1) := by decide +kernel
theorem dX6_rest_20 : decode cX6_rest 20 = .ok (.aload_n 0, 1) := by decide +kernel
theorem dX6_rest_21 : decode cX6_rest 21 = .ok (.getfield 47, 3) := by decide +kernel
theorem dX6_rest_24 : decode cX6_rest 24 = .ok (.istore_n 2, 1) := by decide +kernel
theorem dX6_rest_25 : decode cX6_rest 25 = .ok (.aload_n 0, 1) := by decide +kernel
theorem dX6_rest_26 : decode cX6_rest 26 = .ok (.iload_n 1, 1) := by decide +kernel
theorem dX6_rest_27 : decode cX6_rest 27 = .ok (.putfield 47, 3) := by decide +kernel
theorem dX6_rest_30 : decode cX6_rest 30 = .ok (.iload_n 2, 1) := by decide +kernel
theorem dX6_rest_31 : decode cX6_rest 31 = .ok (.ireturn, 1) := by decide +kernel
theorem dX6_meet_0 : decode cX6_meet 0 = .ok (.aload_n 0, 1) := by decide +kernel
theorem dX6_meet_1 : decode cX6_meet 1 = .ok (.getfield 41, 3) := by decide +kernel
theorem dX6_meet_4 : decode cX6_meet 4 = .ok (.iload_n 1, 1) := by decide +kernel
theorem dX6_meet_5 : decode cX6_meet 5 = .ok (.iaload, 1) := by decide +kernel
theorem dX6_meet_6 : decode cX6_meet 6 = .ok (.aload_n 0, 1) := by decide +kernel
theorem dX6_meet_7 : decode cX6_meet 7 = .ok (.getfield 41, 3) := by decide +kernel
theorem dX6_meet_10 : decode cX6_meet 10 = .ok (.iload_n 2, 1) := by decide +kernel
theorem dX6_meet_11 : decode cX6_meet 11 = .ok (.iaload, 1) := by decide +kernel
theorem dX6_meet_12 : decode cX6_meet 12 = .ok (.aload_n 0, 1) := by decide +kernel
theorem dX6_meet_13 : decode cX6_meet 13 = .ok (.getfield 44, 3) := by decide +kernel
theorem dX6_meet_16 : decode cX6_meet 16 = .ok (.iload_n 2, 1) := by decide +kernel
theorem dX6_meet_17 : decode cX6_meet 17 = .ok (.iaload, 1) := by decide +kernel
theorem dX6_meet_18 : decode cX6_meet 18 = .ok (.iadd, 1) := by decide +kernel
theorem dX6_meet_19 : decode cX6_meet 19 = .ok (.if_icmp .ge 29, 3) := by decide +kernel
theorem dX6_meet_22 : decode cX6_meet 22 = .ok (.aload_n 0, 1) := by decide +kernel
theorem dX6_meet_23 : decode cX6_meet 23 = .ok (.getfield 41, 3) := by decide +kernel
theorem dX6_meet_26 : decode cX6_meet 26 = .ok (.iload_n 2, 1) := by decide +kernel
theorem dX6_meet_27 : decode cX6_meet 27 = .ok (.iaload, 1) := by decide +kernel
theorem dX6_meet_28 : decode cX6_meet 28 = .ok (.aload_n 0, 1) := by decide +kernel
theorem dX6_meet_29 : decode cX6_meet 29 = .ok (.getfield 41, 3) := by decide +kernel
theorem dX6_meet_32 : decode cX6_meet 32 = .ok (.iload_n 1, 1) := by decide +kernel
theorem dX6_meet_33 : decode cX6_meet 33 = .ok (.iaload, 1) := by decide +kernel
theorem dX6_meet_34 : decode cX6_meet 34 = .ok (.aload_n 0, 1) := by decide +kernel
theorem dX6_meet_35 : decode cX6_meet 35 = .ok (.getfield 44, 3) := by decide +kernel
theorem dX6_meet_38 : decode cX6_meet 38 = .ok (.iload_n 1, 1) := by decide +kernel
theorem dX6_meet_39 : decode cX6_meet 39 = .ok (.iaload, 1) := by decide +kernel
theorem dX6_meet_40 : decode cX6_meet 40 = .ok (.iadd, 1) := by decide +kernel
theorem dX6_meet_41 : decode cX6_meet 41 = .ok (.if_icmp .ge 7, 3) := by decide +kernel
theorem dX6_meet_44 : decode cX6_meet 44 = .ok (.iconst 1, 1) := by decide +kernel
theorem dX6_meet_45 : decode cX6_meet 45 = .ok (.goto 4, 3) := by decide +kernel
theorem dX6_meet_48 : decode cX6_meet 48 = .ok (.iconst 0, 1) := by decide +kernel
theorem dX6_meet_49 : decode cX6_meet 49 = .ok (.ireturn, 1) := by decide +kernel
theorem dX6_shares_0 : decode cX6_shares 0 = .ok (.aload_n 0, 1) := by decide +kernel
theorem dX6_shares_1 : decode cX6_shares 1 = .ok (.getfield 38, 3) := by decide +kernel
theorem dX6_shares_4 : decode cX6_shares 4 = .ok (.iload_n 1, 1) := by decide +kernel
theorem dX6_shares_5 : decode cX6_shares 5 = .ok (.iaload, 1) := by decide +kernel
theorem dX6_shares_6 : decode cX6_shares 6 = .ok (.istore_n 3, 1) := by decide +kernel
theorem dX6_shares_7 : decode cX6_shares 7 = .ok (.aload_n 0, 1) := by decide +kernel
theorem dX6_shares_8 : decode cX6_shares 8 = .ok (.getfield 38, 3) := by decide +kernel
theorem dX6_shares_11 : decode cX6_shares 11 = .ok (.iload_n 2, 1) := by decide +kernel
theorem dX6_shares_12 : decode cX6_shares 12 = .ok (.iaload, 1) := by decide +kernel
theorem dX6_shares_13 : decode cX6_shares 13 = .ok (.istore 4, 2) := by decide +kernel
theorem dX6_shares_15 : decode cX6_shares 15 = .ok (.iload_n 3, 1) := by decide +kernel
theorem dX6_shares_16 : decode cX6_shares 16 = .ok (.iload 4, 2) := by decide +kernel
theorem dX6_shares_18 : decode cX6_shares 18 = .ok (.if_icmp .eq 40, 3) := by decide +kernel
theorem dX6_shares_21 : decode cX6_shares 21 = .ok (.iload_n 3, 1) := by decide +kernel
theorem dX6_shares_22 : decode cX6_shares 22 = .ok (.aload_n 0, 1) := by decide +kernel
theorem dX6_shares_23 : decode cX6_shares 23 = .ok (.getfield 7, 3) := by decide +kernel
theorem dX6_shares_26 : decode cX6_shares 26 = .ok (.if_icmp .ge 32, 3) := by decide +kernel
theorem dX6_shares_29 : decode cX6_shares 29 = .ok (.iload 4, 2) := by decide +kernel
theorem dX6_shares_31 : decode cX6_shares 31 = .ok (.aload_n 0, 1) := by decide +kernel
theorem dX6_shares_32 : decode cX6_shares 32 = .ok (.getfield 7, 3) := by decide +kernel
theorem dX6_shares_35 : decode cX6_shares 35 = .ok (.if_icmp .ge 23, 3) := by decide +kernel
theorem dX6_shares_38 : decode cX6_shares 38 = .ok (.aload_n 0, 1) := by decide +kernel
theorem dX6_shares_39 : decode cX6_shares 39 = .ok (.getfield 13, 3) := by decide +kernel
theorem dX6_shares_42 : decode cX6_shares 42 = .ok (.iload_n 3, 1) := by decide +kernel
theorem dX6_shares_43 : decode cX6_shares 43 = .ok (.iaload, 1) := by decide +kernel
theorem dX6_shares_44 : decode cX6_shares 44 = .ok (.aload_n 0, 1) := by decide +kernel
theorem dX6_shares_45 : decode cX6_shares 45 = .ok (.getfield 13, 3) := by decide +kernel
theorem dX6_shares_48 : decode cX6_shares 48 = .ok (.iload 4, 2) := by decide +kernel
theorem dX6_shares_50 : decode cX6_shares 50 = .ok (.iaload, 1) := by decide +kernel
theorem dX6_shares_51 : decode cX6_shares 51 = .ok (.if_icmp .ne 7, 3) := by decide +kernel
theorem dX6_shares_54 : decode cX6_shares 54 = .ok (.iconst 1, 1) := by decide +kernel
theorem dX6_shares_55 : decode cX6_shares 55 = .ok (.goto 4, 3) := by decide +kernel
theorem dX6_shares_58 : decode cX6_shares 58 = .ok (.iconst 0, 1) := by decide +kernel
theorem dX6_shares_59 : decode cX6_shares 59 = .ok (.ireturn, 1) := by decide +kernel
set_option maxRecDepth 20000 in
theorem ggX6_clashesOf_X6_shares : GoodIn wsX6_clashesOf wsX6_shares := goodIn_r _ [6, 7, 8, 9, 16, 17, 18, 19, 20, 21, 22, 23, 24, 25, 26, 27, 28, 29, 30, 31, 32, 33, 34, 35, 36] (by decide +kernel) (by decide +kernel)
set_option maxRecDepth 20000 in
theorem gX6_clashesOf_X6_shares : GoodIn wsX6_clashesOf (wsV RX6 150 RX6 yX6_shares wsX6_shares) := goodIn_app (goodIn_of _ (by decide +kernel)) ggX6_clashesOf_X6_shares
set_option maxRecDepth 20000 in
theorem ggX6_clashesOf_X6_meet : GoodIn wsX6_clashesOf wsX6_meet := goodIn_r _ [13, 14, 15, 16, 17, 18, 19, 20, 21, 22, 23, 24, 25, 26, 27, 28, 29, 30, 31, 32, 33, 34, 35, 36] (by decide +kernel) (by decide +kernel)
set_option maxRecDepth 20000 in
theorem gX6_clashesOf_X6_meet : GoodIn wsX6_clashesOf (wsV RX6 154 RX6 yX6_meet wsX6_meet) := goodIn_app (goodIn_of _ (by decide +kernel)) ggX6_clashesOf_X6_meet
theorem dX6_clashesOf_0 : decode cX6_clashesOf 0 = .ok (.iconst 0, 1) := by decide +kernel
theorem dX6_clashesOf_1 : decode cX6_clashesOf 1 = .ok (.istore_n 2, 1) := by decide +kernel
theorem dX6_clashesOf_2 : decode cX6_clashesOf 2 = .ok (.iconst 0, 1) := by decide +kernel
theorem dX6_clashesOf_3 : decode cX6_clashesOf 3 = .ok (.istore_n 3, 1) := by decide +kernel
theorem dX6_clashesOf_4 : decode cX6_clashesOf 4 = .ok (.iload_n 3, 1) := by decide +kernel
theorem dX6_clashesOf_5 : decode cX6_clashesOf 5 = .ok (.aload_n 0, 1) := by decide +kernel
theorem dX6_clashesOf_6 : decode cX6_clashesOf 6 = .ok (.getfield 35, 3) := by decide +kernel
theorem dX6_clashesOf_9 : decode cX6_clashesOf 9 = .ok (.iload_n 1, 1) := by decide +kernel
theorem dX6_clashesOf_10 : decode cX6_clashesOf 10 = .ok (.iaload, 1) := by decide +kernel
theorem dX6_clashesOf_11 : decode cX6_clashesOf 11 = .ok (.if_icmp .ge 72, 3) := by decide +kernel
theorem dX6_clashesOf_14 : decode cX6_clashesOf 14 = .ok (.iconst 0, 1) := by decide +kernel
theorem dX6_clashesOf_15 : decode cX6_clashesOf 15 = .ok (.istore 4, 2) := by decide +kernel
theorem dX6_clashesOf_17 : decode cX6_clashesOf 17 = .ok (.iload 4, 2) := by decide +kernel
theorem dX6_clashesOf_19 : decode cX6_clashesOf 19 = .ok (.iload_n 3, 1) := by decide +kernel
theorem dX6_clashesOf_20 : decode cX6_clashesOf 20 = .ok (.if_icmp .ge 57, 3) := by decide +kernel
theorem dX6_clashesOf_23 : decode cX6_clashesOf 23 = .ok (.iload_n 2, 1) := by decide +kernel
theorem dX6_clashesOf_24 : decode cX6_clashesOf 24 = .ok (.aload_n 0, 1) := by decide +kernel
theorem dX6_clashesOf_25 : decode cX6_clashesOf 25 = .ok (.bipush 40, 2) := by decide +kernel
theorem dX6_clashesOf_27 : decode cX6_clashesOf 27 = .ok (.iload_n 1, 1) := by decide +kernel
theorem dX6_clashesOf_28 : decode cX6_clashesOf 28 = .ok (.imul, 1) := by decide +kernel
theorem dX6_clashesOf_29 : decode cX6_clashesOf 29 = .ok (.iload 4, 2) := by decide +kernel
theorem dX6_clashesOf_31 : decode cX6_clashesOf 31 = .ok (.iadd, 1) := by decide +kernel
theorem dX6_clashesOf_32 : decode cX6_clashesOf 32 = .ok (.bipush 40, 2) := by decide +kernel
theorem dX6_clashesOf_34 : decode cX6_clashesOf 34 = .ok (.iload_n 1, 1) := by decide +kernel
theorem dX6_clashesOf_35 : decode cX6_clashesOf 35 = .ok (.imul, 1) := by decide +kernel
theorem dX6_clashesOf_36 : decode cX6_clashesOf 36 = .ok (.iload_n 3, 1) := by decide +kernel
theorem dX6_clashesOf_37 : decode cX6_clashesOf 37 = .ok (.iadd, 1) := by decide +kernel
theorem dX6_clashesOf_38 : decode cX6_clashesOf 38 = .ok (.invokevirtual 150, 3) := by decide +kernel
theorem dX6_clashesOf_41 : decode cX6_clashesOf 41 = .ok (.ifCond .eq 27, 3) := by decide +kernel
theorem dX6_clashesOf_44 : decode cX6_clashesOf 44 = .ok (.aload_n 0, 1) := by decide +kernel
theorem dX6_clashesOf_45 : decode cX6_clashesOf 45 = .ok (.bipush 40, 2) := by decide +kernel
theorem dX6_clashesOf_47 : decode cX6_clashesOf 47 = .ok (.iload_n 1, 1) := by decide +kernel
theorem dX6_clashesOf_48 : decode cX6_clashesOf 48 = .ok (.imul, 1) := by decide +kernel
theorem dX6_clashesOf_49 : decode cX6_clashesOf 49 = .ok (.iload 4, 2) := by decide +kernel
theorem dX6_clashesOf_51 : decode cX6_clashesOf 51 = .ok (.iadd, 1) := by decide +kernel
theorem dX6_clashesOf_52 : decode cX6_clashesOf 52 = .ok (.bipush 40, 2) := by decide +kernel
theorem dX6_clashesOf_54 : decode cX6_clashesOf 54 = .ok (.iload_n 1, 1) := by decide +kernel
theorem dX6_clashesOf_55 : decode cX6_clashesOf 55 = .ok (.imul, 1) := by decide +kernel
theorem dX6_clashesOf_56 : decode cX6_clashesOf 56 = .ok (.iload_n 3, 1) := by decide +kernel
theorem dX6_clashesOf_57 : decode cX6_clashesOf 57 = .ok (.iadd, 1) := by decide +kernel
theorem dX6_clashesOf_58 : decode cX6_clashesOf 58 = .ok (.invokevirtual 154, 3) := by decide +kernel
theorem dX6_clashesOf_61 : decode cX6_clashesOf 61 = .ok (.ifCond .eq 7, 3) := by decide +kernel
theorem dX6_clashesOf_64 : decode cX6_clashesOf 64 = .ok (.iconst 1, 1) := by decide +kernel
theorem dX6_clashesOf_65 : decode cX6_clashesOf 65 = .ok (.goto 4, 3) := by decide +kernel
theorem dX6_clashesOf_68 : decode cX6_clashesOf 68 = .ok (.iconst 0, 1) := by decide +kernel
theorem dX6_clashesOf_69 : decode cX6_clashesOf 69 = .ok (.iadd, 1) := by decide +kernel
theorem dX6_clashesOf_70 : decode cX6_clashesOf 70 = .ok (.istore_n 2, 1) := by decide +kernel
theorem dX6_clashesOf_71 : decode cX6_clashesOf 71 = .ok (.iinc 4 1, 3) := by decide +kernel
theorem dX6_clashesOf_74 : decode cX6_clashesOf 74 = .ok (.goto (-57), 3) := by decide +kernel
theorem dX6_clashesOf_77 : decode cX6_clashesOf 77 = .ok (.iinc 3 1, 3) := by decide +kernel
theorem dX6_clashesOf_80 : decode cX6_clashesOf 80 = .ok (.goto (-76), 3) := by decide +kernel
theorem dX6_clashesOf_83 : decode cX6_clashesOf 83 = .ok (.iload_n 2, 1) := by decide +kernel
theorem dX6_clashesOf_84 : decode cX6_clashesOf 84 = .ok (.ireturn, 1) := by decide +kernel
set_option maxRecDepth 20000 in
theorem ggX6_clashes_X6_noPiece : GoodIn wsX6_clashes wsX6_noPiece := goodIn_r _ [6, 7, 8, 9, 5, 10] (by decide +kernel) (by decide +kernel)
set_option maxRecDepth 20000 in
theorem gX6_clashes_X6_noPiece : GoodIn wsX6_clashes (va_wsS RX6 143 yX6_noPiece wsX6_noPiece) := goodIn_app (goodIn_of _ (by decide +kernel)) ggX6_clashes_X6_noPiece
set_option maxRecDepth 20000 in
theorem ggX6_clashes_X6_clashesOf : GoodIn wsX6_clashes wsX6_clashesOf := goodIn_r _ [14, 15, 16, 17, 18, 5, 19, 20, 21, 22, 23, 24, 25, 26, 27, 28, 29, 30, 31, 32, 33, 34, 35, 36, 37, 38, 39, 40, 41, 42, 43, 44, 45, 46, 47, 48, 49] (by decide +kernel) (by decide +kernel)
set_option maxRecDepth 20000 in
theorem gX6_clashes_X6_clashesOf : GoodIn wsX6_clashes (wsV RX6 157 RX6 yX6_clashesOf wsX6_clashesOf) := goodIn_app (goodIn_of _ (by decide +kernel)) ggX6_clashes_X6_clashesOf
theorem dX6_clashes_0 : decode cX6_clashes 0 = .ok (.aload_n 0, 1) := by decide +kernel
theorem dX6_clashes_1 : decode cX6_clashes 1 = .ok (.iconst 0, 1) := by decide +kernel
theorem dX6_clashes_2 : decode cX6_clashes 2 = .ok (.putfield 63, 3) := by decide +kernel
theorem dX6_clashes_5 : decode cX6_clashes 5 = .ok (.iload_n 1, 1) := by decide +kernel
theorem dX6_clashes_6 : decode cX6_clashes 6 = .ok (.invokestatic 143, 3) := by decide +kernel
theorem dX6_clashes_9 : decode cX6_clashes 9 = .ok (.ifCond .eq 8, 3) := by decide +kernel
theorem dX6_clashes_12 : decode cX6_clashes 12 = .ok (.ldc 86, 2) := by decide +kernel
theorem dX6_clashes_14 : decode cX6_clashes 14 = .ok (.goto 8, 3) := by decide +kernel
theorem dX6_clashes_17 : decode cX6_clashes 17 = .ok (.aload_n 0, 1) := by decide +kernel
theorem dX6_clashes_18 : decode cX6_clashes 18 = .ok (.iload_n 1, 1) := by decide +kernel
theorem dX6_clashes_19 : decode cX6_clashes 19 = .ok (.invokevirtual 157, 3) := by decide +kernel
theorem dX6_clashes_22 : decode cX6_clashes 22 = .ok (.ireturn, 1) := by decide +kernel
set_option maxRecDepth 20000 in
theorem ggX6_clash_X6_noPiece : GoodIn wsX6_clash wsX6_noPiece := goodIn_r _ [8, 9, 10, 11, 7, 12] (by decide +kernel) (by decide +kernel)
set_option maxRecDepth 20000 in
theorem gX6_clash_X6_noPiece : GoodIn wsX6_clash (va_wsS RX6 143 yX6_noPiece wsX6_noPiece) := goodIn_app (goodIn_of _ (by decide +kernel)) ggX6_clash_X6_noPiece
set_option maxRecDepth 20000 in
theorem ggX6_clash_X6_shares : GoodIn wsX6_clash wsX6_shares := goodIn_r _ [16, 17, 18, 19, 26, 27, 28, 29, 30, 31, 32, 33, 34, 35, 36, 37, 38, 39, 40, 41, 42, 43, 44, 45, 46] (by decide +kernel) (by decide +kernel)
set_option maxRecDepth 20000 in
theorem gX6_clash_X6_shares : GoodIn wsX6_clash (wsV RX6 150 RX6 yX6_shares wsX6_shares) := goodIn_app (goodIn_of _ (by decide +kernel)) ggX6_clash_X6_shares
set_option maxRecDepth 20000 in
theorem ggX6_clash_X6_meet : GoodIn wsX6_clash wsX6_meet := goodIn_r _ [23, 24, 25, 26, 27, 28, 29, 30, 31, 32, 33, 34, 35, 36, 37, 38, 39, 40, 41, 42, 43, 44, 45, 46] (by decide +kernel) (by decide +kernel)
set_option maxRecDepth 20000 in
theorem gX6_clash_X6_meet : GoodIn wsX6_clash (wsV RX6 154 RX6 yX6_meet wsX6_meet) := goodIn_app (goodIn_of _ (by decide +kernel)) ggX6_clash_X6_meet
theorem dX6_clash_0 : decode cX6_clash 0 = .ok (.aload_n 0, 1) := by decide +kernel
theorem dX6_clash_1 : decode cX6_clash 1 = .ok (.iconst 0, 1) := by decide +kernel
theorem dX6_clash_2 : decode cX6_clash 2 = .ok (.putfield 63, 3) := by decide +kernel
theorem dX6_clash_5 : decode cX6_clash 5 = .ok (.iload_n 1, 1) := by decide +kernel
theorem dX6_clash_6 : decode cX6_clash 6 = .ok (.invokestatic 143, 3) := by decide +kernel
theorem dX6_clash_9 : decode cX6_clash 9 = .ok (.ifCond .eq 6, 3) := by decide +kernel
theorem dX6_clash_12 : decode cX6_clash 12 = .ok (.ldc 86, 2) := by decide +kernel
theorem dX6_clash_14 : decode cX6_clash 14 = .ok (.ireturn, 1) := by decide +kernel
theorem dX6_clash_15 : decode cX6_clash 15 = .ok (.iconst 0, 1) := by decide +kernel
theorem dX6_clash_16 : decode cX6_clash 16 = .ok (.istore_n 3, 1) := by decide +kernel
theorem dX6_clash_17 : decode cX6_clash 17 = .ok (.iconst 0, 1) := by decide +kernel
theorem dX6_clash_18 : decode cX6_clash 18 = .ok (.istore 4, 2) := by decide +kernel
theorem dX6_clash_20 : decode cX6_clash 20 = .ok (.iload 4, 2) := by decide +kernel
theorem dX6_clash_22 : decode cX6_clash 22 = .ok (.aload_n 0, 1) := by decide +kernel
theorem dX6_clash_23 : decode cX6_clash 23 = .ok (.getfield 35, 3) := by decide +kernel
theorem dX6_clash_26 : decode cX6_clash 26 = .ok (.iload_n 1, 1) := by decide +kernel
theorem dX6_clash_27 : decode cX6_clash 27 = .ok (.iaload, 1) := by decide +kernel
theorem dX6_clash_28 : decode cX6_clash 28 = .ok (.if_icmp .ge 84, 3) := by decide +kernel
theorem dX6_clash_31 : decode cX6_clash 31 = .ok (.iconst 0, 1) := by decide +kernel
theorem dX6_clash_32 : decode cX6_clash 32 = .ok (.istore 5, 2) := by decide +kernel
theorem dX6_clash_34 : decode cX6_clash 34 = .ok (.iload 5, 2) := by decide +kernel
theorem dX6_clash_36 : decode cX6_clash 36 = .ok (.iload 4, 2) := by decide +kernel
theorem dX6_clash_38 : decode cX6_clash 38 = .ok (.if_icmp .ge 68, 3) := by decide +kernel
theorem dX6_clash_41 : decode cX6_clash 41 = .ok (.aload_n 0, 1) := by decide +kernel
theorem dX6_clash_42 : decode cX6_clash 42 = .ok (.bipush 40, 2) := by decide +kernel
theorem dX6_clash_44 : decode cX6_clash 44 = .ok (.iload_n 1, 1) := by decide +kernel
theorem dX6_clash_45 : decode cX6_clash 45 = .ok (.imul, 1) := by decide +kernel
theorem dX6_clash_46 : decode cX6_clash 46 = .ok (.iload 5, 2) := by decide +kernel
theorem dX6_clash_48 : decode cX6_clash 48 = .ok (.iadd, 1) := by decide +kernel
theorem dX6_clash_49 : decode cX6_clash 49 = .ok (.bipush 40, 2) := by decide +kernel
theorem dX6_clash_51 : decode cX6_clash 51 = .ok (.iload_n 1, 1) := by decide +kernel
theorem dX6_clash_52 : decode cX6_clash 52 = .ok (.imul, 1) := by decide +kernel
theorem dX6_clash_53 : decode cX6_clash 53 = .ok (.iload 4, 2) := by decide +kernel
theorem dX6_clash_55 : decode cX6_clash 55 = .ok (.iadd, 1) := by decide +kernel
theorem dX6_clash_56 : decode cX6_clash 56 = .ok (.invokevirtual 150, 3) := by decide +kernel
theorem dX6_clash_59 : decode cX6_clash 59 = .ok (.ifCond .eq 41, 3) := by decide +kernel
theorem dX6_clash_62 : decode cX6_clash 62 = .ok (.aload_n 0, 1) := by decide +kernel
theorem dX6_clash_63 : decode cX6_clash 63 = .ok (.bipush 40, 2) := by decide +kernel
theorem dX6_clash_65 : decode cX6_clash 65 = .ok (.iload_n 1, 1) := by decide +kernel
theorem dX6_clash_66 : decode cX6_clash 66 = .ok (.imul, 1) := by decide +kernel
theorem dX6_clash_67 : decode cX6_clash 67 = .ok (.iload 5, 2) := by decide +kernel
theorem dX6_clash_69 : decode cX6_clash 69 = .ok (.iadd, 1) := by decide +kernel
theorem dX6_clash_70 : decode cX6_clash 70 = .ok (.bipush 40, 2) := by decide +kernel
theorem dX6_clash_72 : decode cX6_clash 72 = .ok (.iload_n 1, 1) := by decide +kernel
theorem dX6_clash_73 : decode cX6_clash 73 = .ok (.imul, 1) := by decide +kernel
theorem dX6_clash_74 : decode cX6_clash 74 = .ok (.iload 4, 2) := by decide +kernel
theorem dX6_clash_76 : decode cX6_clash 76 = .ok (.iadd, 1) := by decide +kernel
theorem dX6_clash_77 : decode cX6_clash 77 = .ok (.invokevirtual 154, 3) := by decide +kernel
theorem dX6_clash_80 : decode cX6_clash 80 = .ok (.ifCond .eq 20, 3) := by decide +kernel
theorem dX6_clash_83 : decode cX6_clash 83 = .ok (.iload_n 3, 1) := by decide +kernel
theorem dX6_clash_84 : decode cX6_clash 84 = .ok (.iload_n 2, 1) := by decide +kernel
theorem dX6_clash_85 : decode cX6_clash 85 = .ok (.if_icmp .ne 12, 3) := by decide +kernel
theorem dX6_clash_88 : decode cX6_clash 88 = .ok (.bipush 40, 2) := by decide +kernel
theorem dX6_clash_90 : decode cX6_clash 90 = .ok (.iload 5, 2) := by decide +kernel
theorem dX6_clash_92 : decode cX6_clash 92 = .ok (.imul, 1) := by decide +kernel
theorem dX6_clash_93 : decode cX6_clash 93 = .ok (.iload 4, 2) := by decide +kernel
theorem dX6_clash_95 : decode cX6_clash 95 = .ok (.iadd, 1) := by decide +kernel
theorem dX6_clash_96 : decode cX6_clash 96 = .ok (.ireturn, 1) := by decide +kernel
theorem dX6_clash_97 : decode cX6_clash 97 = .ok (.iinc 3 1, 3) := by decide +kernel
theorem dX6_clash_100 : decode cX6_clash 100 = .ok (.iinc 5 1, 3) := by decide +kernel
theorem dX6_clash_103 : decode cX6_clash 103 = .ok (.goto (-69), 3) := by decide +kernel
theorem dX6_clash_106 : decode cX6_clash 106 = .ok (.iinc 4 1, 3) := by decide +kernel
theorem dX6_clash_109 : decode cX6_clash 109 = .ok (.goto (-89), 3) := by decide +kernel
theorem dX6_clash_112 : decode cX6_clash 112 = .ok (.ldc 62, 2) := by decide +kernel
theorem dX6_clash_114 : decode cX6_clash 114 = .ok (.ireturn, 1) := by decide +kernel
set_option maxRecDepth 20000 in
theorem ggX6_chokes_X6_noPiece : GoodIn wsX6_chokes wsX6_noPiece := goodIn_r _ [10, 11, 12, 13, 9, 14] (by decide +kernel) (by decide +kernel)
set_option maxRecDepth 20000 in
theorem gX6_chokes_X6_noPiece : GoodIn wsX6_chokes (va_wsS RX6 143 yX6_noPiece wsX6_noPiece) := goodIn_app (goodIn_of _ (by decide +kernel)) ggX6_chokes_X6_noPiece
set_option maxRecDepth 20000 in
theorem ggX6_chokes_X6_shares : GoodIn wsX6_chokes wsX6_shares := goodIn_r _ [18, 19, 20, 21, 22, 23, 24, 25, 26, 27, 28, 29, 30, 31, 32, 33, 34, 35, 36, 37, 38, 39, 40, 41, 42] (by decide +kernel) (by decide +kernel)
set_option maxRecDepth 20000 in
theorem gX6_chokes_X6_shares : GoodIn wsX6_chokes (wsV RX6 150 RX6 yX6_shares wsX6_shares) := goodIn_app (goodIn_of _ (by decide +kernel)) ggX6_chokes_X6_shares
set_option maxRecDepth 20000 in
theorem ggX6_chokes_X6_in : GoodIn wsX6_chokes wsX6_in := goodIn_r _ [14] (by decide +kernel) (by decide +kernel)
set_option maxRecDepth 20000 in
theorem gX6_chokes_X6_in : GoodIn wsX6_chokes (va_wsS RX6 66 yX6_in wsX6_in) := goodIn_app (goodIn_of _ (by decide +kernel)) ggX6_chokes_X6_in
theorem dX6_chokes_0 : decode cX6_chokes 0 = .ok (.aload_n 0, 1) := by decide +kernel
theorem dX6_chokes_1 : decode cX6_chokes 1 = .ok (.iconst 0, 1) := by decide +kernel
theorem dX6_chokes_2 : decode cX6_chokes 2 = .ok (.putfield 63, 3) := by decide +kernel
theorem dX6_chokes_5 : decode cX6_chokes 5 = .ok (.iload_n 1, 1) := by decide +kernel
theorem dX6_chokes_6 : decode cX6_chokes 6 = .ok (.invokestatic 143, 3) := by decide +kernel
theorem dX6_chokes_9 : decode cX6_chokes 9 = .ok (.ifCond .eq 6, 3) := by decide +kernel
theorem dX6_chokes_12 : decode cX6_chokes 12 = .ok (.ldc 86, 2) := by decide +kernel
theorem dX6_chokes_14 : decode cX6_chokes 14 = .ok (.ireturn, 1) := by decide +kernel
theorem dX6_chokes_15 : decode cX6_chokes 15 = .ok (.iconst 0, 1) := by decide +kernel
theorem dX6_chokes_16 : decode cX6_chokes 16 = .ok (.istore_n 2, 1) := by decide +kernel
theorem dX6_chokes_17 : decode cX6_chokes 17 = .ok (.bipush 40, 2) := by decide +kernel
theorem dX6_chokes_19 : decode cX6_chokes 19 = .ok (.iload_n 1, 1) := by decide +kernel
theorem dX6_chokes_20 : decode cX6_chokes 20 = .ok (.imul, 1) := by decide +kernel
theorem dX6_chokes_21 : decode cX6_chokes 21 = .ok (.istore_n 3, 1) := by decide +kernel
theorem dX6_chokes_22 : decode cX6_chokes 22 = .ok (.iload_n 3, 1) := by decide +kernel
theorem dX6_chokes_23 : decode cX6_chokes 23 = .ok (.bipush 40, 2) := by decide +kernel
theorem dX6_chokes_25 : decode cX6_chokes 25 = .ok (.iload_n 1, 1) := by decide +kernel
theorem dX6_chokes_26 : decode cX6_chokes 26 = .ok (.imul, 1) := by decide +kernel
theorem dX6_chokes_27 : decode cX6_chokes 27 = .ok (.aload_n 0, 1) := by decide +kernel
theorem dX6_chokes_28 : decode cX6_chokes 28 = .ok (.getfield 35, 3) := by decide +kernel
theorem dX6_chokes_31 : decode cX6_chokes 31 = .ok (.iload_n 1, 1) := by decide +kernel
theorem dX6_chokes_32 : decode cX6_chokes 32 = .ok (.iaload, 1) := by decide +kernel
theorem dX6_chokes_33 : decode cX6_chokes 33 = .ok (.iadd, 1) := by decide +kernel
theorem dX6_chokes_34 : decode cX6_chokes 34 = .ok (.if_icmp .ge 95, 3) := by decide +kernel
theorem dX6_chokes_37 : decode cX6_chokes 37 = .ok (.bipush 40, 2) := by decide +kernel
theorem dX6_chokes_39 : decode cX6_chokes 39 = .ok (.iload_n 1, 1) := by decide +kernel
theorem dX6_chokes_40 : decode cX6_chokes 40 = .ok (.imul, 1) := by decide +kernel
theorem dX6_chokes_41 : decode cX6_chokes 41 = .ok (.istore 4, 2) := by decide +kernel
theorem dX6_chokes_43 : decode cX6_chokes 43 = .ok (.iload 4, 2) := by decide +kernel
theorem dX6_chokes_45 : decode cX6_chokes 45 = .ok (.bipush 40, 2) := by decide +kernel
theorem dX6_chokes_47 : decode cX6_chokes 47 = .ok (.iload_n 1, 1) := by decide +kernel
theorem dX6_chokes_48 : decode cX6_chokes 48 = .ok (.imul, 1) := by decide +kernel
theorem dX6_chokes_49 : decode cX6_chokes 49 = .ok (.aload_n 0, 1) := by decide +kernel
theorem dX6_chokes_50 : decode cX6_chokes 50 = .ok (.getfield 35, 3) := by decide +kernel
theorem dX6_chokes_53 : decode cX6_chokes 53 = .ok (.iload_n 1, 1) := by decide +kernel
theorem dX6_chokes_54 : decode cX6_chokes 54 = .ok (.iaload, 1) := by decide +kernel
theorem dX6_chokes_55 : decode cX6_chokes 55 = .ok (.iadd, 1) := by decide +kernel
theorem dX6_chokes_56 : decode cX6_chokes 56 = .ok (.if_icmp .ge 67, 3) := by decide +kernel
theorem dX6_chokes_59 : decode cX6_chokes 59 = .ok (.aload_n 0, 1) := by decide +kernel
theorem dX6_chokes_60 : decode cX6_chokes 60 = .ok (.getfield 41, 3) := by decide +kernel
theorem dX6_chokes_63 : decode cX6_chokes 63 = .ok (.iload 4, 2) := by decide +kernel
theorem dX6_chokes_65 : decode cX6_chokes 65 = .ok (.iaload, 1) := by decide +kernel
theorem dX6_chokes_66 : decode cX6_chokes 66 = .ok (.aload_n 0, 1) := by decide +kernel
theorem dX6_chokes_67 : decode cX6_chokes 67 = .ok (.getfield 41, 3) := by decide +kernel
theorem dX6_chokes_70 : decode cX6_chokes 70 = .ok (.iload_n 3, 1) := by decide +kernel
theorem dX6_chokes_71 : decode cX6_chokes 71 = .ok (.iaload, 1) := by decide +kernel
theorem dX6_chokes_72 : decode cX6_chokes 72 = .ok (.isub, 1) := by decide +kernel
theorem dX6_chokes_73 : decode cX6_chokes 73 = .ok (.aload_n 0, 1) := by decide +kernel
theorem dX6_chokes_74 : decode cX6_chokes 74 = .ok (.getfield 44, 3) := by decide +kernel
theorem dX6_chokes_77 : decode cX6_chokes 77 = .ok (.iload_n 3, 1) := by decide +kernel
theorem dX6_chokes_78 : decode cX6_chokes 78 = .ok (.iaload, 1) := by decide +kernel
theorem dX6_chokes_79 : decode cX6_chokes 79 = .ok (.isub, 1) := by decide +kernel
theorem dX6_chokes_80 : decode cX6_chokes 80 = .ok (.istore 5, 2) := by decide +kernel
theorem dX6_chokes_82 : decode cX6_chokes 82 = .ok (.iload_n 2, 1) := by decide +kernel
theorem dX6_chokes_83 : decode cX6_chokes 83 = .ok (.aload_n 0, 1) := by decide +kernel
theorem dX6_chokes_84 : decode cX6_chokes 84 = .ok (.iload_n 3, 1) := by decide +kernel
theorem dX6_chokes_85 : decode cX6_chokes 85 = .ok (.iload 4, 2) := by decide +kernel
theorem dX6_chokes_87 : decode cX6_chokes 87 = .ok (.invokevirtual 150, 3) := by decide +kernel
theorem dX6_chokes_90 : decode cX6_chokes 90 = .ok (.ifCond .eq 24, 3) := by decide +kernel
theorem dX6_chokes_93 : decode cX6_chokes 93 = .ok (.iload 5, 2) := by decide +kernel
theorem dX6_chokes_95 : decode cX6_chokes 95 = .ok (.i2l, 1) := by decide +kernel
theorem dX6_chokes_96 : decode cX6_chokes 96 = .ok (.lconst 0, 1) := by decide +kernel
theorem dX6_chokes_97 : decode cX6_chokes 97 = .ok (.aload_n 0, 1) := by decide +kernel
theorem dX6_chokes_98 : decode cX6_chokes 98 = .ok (.getfield 47, 3) := by decide +kernel
theorem dX6_chokes_101 : decode cX6_chokes 101 = .ok (.iconst 1, 1) := by decide +kernel
theorem dX6_chokes_102 : decode cX6_chokes 102 = .ok (.isub, 1) := by decide +kernel
theorem dX6_chokes_103 : decode cX6_chokes 103 = .ok (.i2l, 1) := by decide +kernel
theorem dX6_chokes_104 : decode cX6_chokes 104 = .ok (.invokestatic 66, 3) := by decide +kernel
theorem dX6_chokes_107 : decode cX6_chokes 107 = .ok (.ifCond .eq 7, 3) := by decide +kernel
theorem dX6_chokes_110 : decode cX6_chokes 110 = .ok (.iconst 1, 1) := by decide +kernel
theorem dX6_chokes_111 : decode cX6_chokes 111 = .ok (.goto 4, 3) := by decide +kernel
theorem dX6_chokes_114 : decode cX6_chokes 114 = .ok (.iconst 0, 1) := by decide +kernel
theorem dX6_chokes_115 : decode cX6_chokes 115 = .ok (.iadd, 1) := by decide +kernel
theorem dX6_chokes_116 : decode cX6_chokes 116 = .ok (.istore_n 2, 1) := by decide +kernel
theorem dX6_chokes_117 : decode cX6_chokes 117 = .ok (.iinc 4 1, 3) := by decide +kernel
theorem dX6_chokes_120 : decode cX6_chokes 120 = .ok (.goto (-77), 3) := by decide +kernel
theorem dX6_chokes_123 : decode cX6_chokes 123 = .ok (.iinc 3 1, 3) := by decide +kernel
theorem dX6_chokes_126 : decode cX6_chokes 126 = .ok (.goto (-104), 3) := by decide +kernel
theorem dX6_chokes_129 : decode cX6_chokes 129 = .ok (.iload_n 2, 1) := by decide +kernel
theorem dX6_chokes_130 : decode cX6_chokes 130 = .ok (.ireturn, 1) := by decide +kernel
set_option maxRecDepth 20000 in
theorem ggX6_trills_X6_noPiece : GoodIn wsX6_trills wsX6_noPiece := goodIn_r _ [10, 11, 12, 13, 9, 14] (by decide +kernel) (by decide +kernel)
set_option maxRecDepth 20000 in
theorem gX6_trills_X6_noPiece : GoodIn wsX6_trills (va_wsS RX6 143 yX6_noPiece wsX6_noPiece) := goodIn_app (goodIn_of _ (by decide +kernel)) ggX6_trills_X6_noPiece
set_option maxRecDepth 20000 in
theorem ggX6_trills_X6_shares : GoodIn wsX6_trills wsX6_shares := goodIn_r _ [18, 6, 19, 20, 21, 22, 23, 24, 25, 26, 27, 28, 29, 30, 31, 32, 33, 34, 35, 36, 37, 38, 39, 40, 41] (by decide +kernel) (by decide +kernel)
set_option maxRecDepth 20000 in
theorem gX6_trills_X6_shares : GoodIn wsX6_trills (wsV RX6 150 RX6 yX6_shares wsX6_shares) := goodIn_app (goodIn_of _ (by decide +kernel)) ggX6_trills_X6_shares
theorem dX6_trills_0 : decode cX6_trills 0 = .ok (.aload_n 0, 1) := by decide +kernel
theorem dX6_trills_1 : decode cX6_trills 1 = .ok (.iconst 0, 1) := by decide +kernel
theorem dX6_trills_2 : decode cX6_trills 2 = .ok (.putfield 63, 3) := by decide +kernel
theorem dX6_trills_5 : decode cX6_trills 5 = .ok (.iload_n 1, 1) := by decide +kernel
theorem dX6_trills_6 : decode cX6_trills 6 = .ok (.invokestatic 143, 3) := by decide +kernel
theorem dX6_trills_9 : decode cX6_trills 9 = .ok (.ifCond .eq 6, 3) := by decide +kernel
theorem dX6_trills_12 : decode cX6_trills 12 = .ok (.ldc 86, 2) := by decide +kernel
theorem dX6_trills_14 : decode cX6_trills 14 = .ok (.ireturn, 1) := by decide +kernel
theorem dX6_trills_15 : decode cX6_trills 15 = .ok (.iconst 0, 1) := by decide +kernel
theorem dX6_trills_16 : decode cX6_trills 16 = .ok (.istore_n 3, 1) := by decide +kernel
theorem dX6_trills_17 : decode cX6_trills 17 = .ok (.bipush 40, 2) := by decide +kernel
theorem dX6_trills_19 : decode cX6_trills 19 = .ok (.iload_n 1, 1) := by decide +kernel
theorem dX6_trills_20 : decode cX6_trills 20 = .ok (.imul, 1) := by decide +kernel
theorem dX6_trills_21 : decode cX6_trills 21 = .ok (.istore 4, 2) := by decide +kernel
theorem dX6_trills_23 : decode cX6_trills 23 = .ok (.bipush 40, 2) := by decide +kernel
theorem dX6_trills_25 : decode cX6_trills 25 = .ok (.iload_n 1, 1) := by decide +kernel
theorem dX6_trills_26 : decode cX6_trills 26 = .ok (.imul, 1) := by decide +kernel
theorem dX6_trills_27 : decode cX6_trills 27 = .ok (.aload_n 0, 1) := by decide +kernel
theorem dX6_trills_28 : decode cX6_trills 28 = .ok (.getfield 35, 3) := by decide +kernel
theorem dX6_trills_31 : decode cX6_trills 31 = .ok (.iload_n 1, 1) := by decide +kernel
theorem dX6_trills_32 : decode cX6_trills 32 = .ok (.iaload, 1) := by decide +kernel
theorem dX6_trills_33 : decode cX6_trills 33 = .ok (.iadd, 1) := by decide +kernel
theorem dX6_trills_34 : decode cX6_trills 34 = .ok (.istore 5, 2) := by decide +kernel
theorem dX6_trills_36 : decode cX6_trills 36 = .ok (.iload 4, 2) := by decide +kernel
theorem dX6_trills_38 : decode cX6_trills 38 = .ok (.iload 5, 2) := by decide +kernel
theorem dX6_trills_40 : decode cX6_trills 40 = .ok (.if_icmp .ge 168, 3) := by decide +kernel
theorem dX6_trills_43 : decode cX6_trills 43 = .ok (.iload 4, 2) := by decide +kernel
theorem dX6_trills_45 : decode cX6_trills 45 = .ok (.istore 6, 2) := by decide +kernel
theorem dX6_trills_47 : decode cX6_trills 47 = .ok (.iconst 1, 1) := by decide +kernel
theorem dX6_trills_48 : decode cX6_trills 48 = .ok (.istore 7, 2) := by decide +kernel
theorem dX6_trills_50 : decode cX6_trills 50 = .ok (.iload 7, 2) := by decide +kernel
theorem dX6_trills_52 : decode cX6_trills 52 = .ok (.ifCond .eq 109, 3) := by decide +kernel
theorem dX6_trills_55 : decode cX6_trills 55 = .ok (.iload 6, 2) := by decide +kernel
theorem dX6_trills_57 : decode cX6_trills 57 = .ok (.iconst 1, 1) := by decide +kernel
theorem dX6_trills_58 : decode cX6_trills 58 = .ok (.iadd, 1) := by decide +kernel
theorem dX6_trills_59 : decode cX6_trills 59 = .ok (.istore 8, 2) := by decide +kernel
theorem dX6_trills_61 : decode cX6_trills 61 = .ok (.iload 8, 2) := by decide +kernel
theorem dX6_trills_63 : decode cX6_trills 63 = .ok (.iload 5, 2) := by decide +kernel
theorem dX6_trills_65 : decode cX6_trills 65 = .ok (.if_icmp .ge 75, 3) := by decide +kernel
theorem dX6_trills_68 : decode cX6_trills 68 = .ok (.aload_n 0, 1) := by decide +kernel
theorem dX6_trills_69 : decode cX6_trills 69 = .ok (.getfield 41, 3) := by decide +kernel
theorem dX6_trills_72 : decode cX6_trills 72 = .ok (.iload 8, 2) := by decide +kernel
theorem dX6_trills_74 : decode cX6_trills 74 = .ok (.iaload, 1) := by decide +kernel
theorem dX6_trills_75 : decode cX6_trills 75 = .ok (.aload_n 0, 1) := by decide +kernel
theorem dX6_trills_76 : decode cX6_trills 76 = .ok (.getfield 41, 3) := by decide +kernel
theorem dX6_trills_79 : decode cX6_trills 79 = .ok (.iload 6, 2) := by decide +kernel
theorem dX6_trills_81 : decode cX6_trills 81 = .ok (.iaload, 1) := by decide +kernel
theorem dX6_trills_82 : decode cX6_trills 82 = .ok (.aload_n 0, 1) := by decide +kernel
theorem dX6_trills_83 : decode cX6_trills 83 = .ok (.getfield 44, 3) := by decide +kernel
theorem dX6_trills_86 : decode cX6_trills 86 = .ok (.iload 6, 2) := by decide +kernel
theorem dX6_trills_88 : decode cX6_trills 88 = .ok (.iaload, 1) := by decide +kernel
theorem dX6_trills_89 : decode cX6_trills 89 = .ok (.iadd, 1) := by decide +kernel
theorem dX6_trills_90 : decode cX6_trills 90 = .ok (.if_icmp .gt 50, 3) := by decide +kernel
theorem dX6_trills_93 : decode cX6_trills 93 = .ok (.aload_n 0, 1) := by decide +kernel
theorem dX6_trills_94 : decode cX6_trills 94 = .ok (.getfield 38, 3) := by decide +kernel
theorem dX6_trills_97 : decode cX6_trills 97 = .ok (.iload 8, 2) := by decide +kernel
theorem dX6_trills_99 : decode cX6_trills 99 = .ok (.iaload, 1) := by decide +kernel
theorem dX6_trills_100 : decode cX6_trills 100 = .ok (.aload_n 0, 1) := by decide +kernel
theorem dX6_trills_101 : decode cX6_trills 101 = .ok (.getfield 38, 3) := by decide +kernel
theorem dX6_trills_104 : decode cX6_trills 104 = .ok (.iload 6, 2) := by decide +kernel
theorem dX6_trills_106 : decode cX6_trills 106 = .ok (.iaload, 1) := by decide +kernel
theorem dX6_trills_107 : decode cX6_trills 107 = .ok (.if_icmp .eq 33, 3) := by decide +kernel
theorem dX6_trills_110 : decode cX6_trills 110 = .ok (.iload 6, 2) := by decide +kernel
theorem dX6_trills_112 : decode cX6_trills 112 = .ok (.iload 4, 2) := by decide +kernel
theorem dX6_trills_114 : decode cX6_trills 114 = .ok (.if_icmp .eq 22, 3) := by decide +kernel
theorem dX6_trills_117 : decode cX6_trills 117 = .ok (.aload_n 0, 1) := by decide +kernel
theorem dX6_trills_118 : decode cX6_trills 118 = .ok (.getfield 38, 3) := by decide +kernel
theorem dX6_trills_121 : decode cX6_trills 121 = .ok (.iload 8, 2) := by decide +kernel
theorem dX6_trills_123 : decode cX6_trills 123 = .ok (.iaload, 1) := by decide +kernel
theorem dX6_trills_124 : decode cX6_trills 124 = .ok (.aload_n 0, 1) := by decide +kernel
theorem dX6_trills_125 : decode cX6_trills 125 = .ok (.getfield 38, 3) := by decide +kernel
theorem dX6_trills_128 : decode cX6_trills 128 = .ok (.iload 6, 2) := by decide +kernel
theorem dX6_trills_130 : decode cX6_trills 130 = .ok (.iconst 1, 1) := by decide +kernel
theorem dX6_trills_131 : decode cX6_trills 131 = .ok (.isub, 1) := by decide +kernel
theorem dX6_trills_132 : decode cX6_trills 132 = .ok (.iaload, 1) := by decide +kernel
theorem dX6_trills_133 : decode cX6_trills 133 = .ok (.if_icmp .ne 7, 3) := by decide +kernel
theorem dX6_trills_136 : decode cX6_trills 136 = .ok (.iconst 1, 1) := by decide +kernel
theorem dX6_trills_137 : decode cX6_trills 137 = .ok (.goto 4, 3) := by decide +kernel
theorem dX6_trills_140 : decode cX6_trills 140 = .ok (.iconst 0, 1) := by decide +kernel
theorem dX6_trills_141 : decode cX6_trills 141 = .ok (.istore 7, 2) := by decide +kernel
theorem dX6_trills_143 : decode cX6_trills 143 = .ok (.iload 6, 2) := by decide +kernel
theorem dX6_trills_145 : decode cX6_trills 145 = .ok (.iload 7, 2) := by decide +kernel
theorem dX6_trills_147 : decode cX6_trills 147 = .ok (.ifCond .eq 7, 3) := by decide +kernel
theorem dX6_trills_150 : decode cX6_trills 150 = .ok (.iconst 1, 1) := by decide +kernel
theorem dX6_trills_151 : decode cX6_trills 151 = .ok (.goto 4, 3) := by decide +kernel
theorem dX6_trills_154 : decode cX6_trills 154 = .ok (.iconst 0, 1) := by decide +kernel
theorem dX6_trills_155 : decode cX6_trills 155 = .ok (.iadd, 1) := by decide +kernel
theorem dX6_trills_156 : decode cX6_trills 156 = .ok (.istore 6, 2) := by decide +kernel
theorem dX6_trills_158 : decode cX6_trills 158 = .ok (.goto (-108), 3) := by decide +kernel
theorem dX6_trills_161 : decode cX6_trills 161 = .ok (.iload 6, 2) := by decide +kernel
theorem dX6_trills_163 : decode cX6_trills 163 = .ok (.iload 4, 2) := by decide +kernel
theorem dX6_trills_165 : decode cX6_trills 165 = .ok (.isub, 1) := by decide +kernel
theorem dX6_trills_166 : decode cX6_trills 166 = .ok (.iconst 3, 1) := by decide +kernel
theorem dX6_trills_167 : decode cX6_trills 167 = .ok (.if_icmp .lt 35, 3) := by decide +kernel
theorem dX6_trills_170 : decode cX6_trills 170 = .ok (.iload_n 3, 1) := by decide +kernel
theorem dX6_trills_171 : decode cX6_trills 171 = .ok (.iload_n 2, 1) := by decide +kernel
theorem dX6_trills_172 : decode cX6_trills 172 = .ok (.ifCond .eq 16, 3) := by decide +kernel
theorem dX6_trills_175 : decode cX6_trills 175 = .ok (.aload_n 0, 1) := by decide +kernel
theorem dX6_trills_176 : decode cX6_trills 176 = .ok (.iload 4, 2) := by decide +kernel
theorem dX6_trills_178 : decode cX6_trills 178 = .ok (.iload 4, 2) := by decide +kernel
theorem dX6_trills_180 : decode cX6_trills 180 = .ok (.iconst 1, 1) := by decide +kernel
theorem dX6_trills_181 : decode cX6_trills 181 = .ok (.iadd, 1) := by decide +kernel
theorem dX6_trills_182 : decode cX6_trills 182 = .ok (.invokevirtual 150, 3) := by decide +kernel
theorem dX6_trills_185 : decode cX6_trills 185 = .ok (.ifCond .eq 7, 3) := by decide +kernel
theorem dX6_trills_188 : decode cX6_trills 188 = .ok (.iconst 1, 1) := by decide +kernel
theorem dX6_trills_189 : decode cX6_trills 189 = .ok (.goto 4, 3) := by decide +kernel
theorem dX6_trills_192 : decode cX6_trills 192 = .ok (.iconst 0, 1) := by decide +kernel
theorem dX6_trills_193 : decode cX6_trills 193 = .ok (.iadd, 1) := by decide +kernel
theorem dX6_trills_194 : decode cX6_trills 194 = .ok (.istore_n 3, 1) := by decide +kernel
theorem dX6_trills_195 : decode cX6_trills 195 = .ok (.iload 6, 2) := by decide +kernel
theorem dX6_trills_197 : decode cX6_trills 197 = .ok (.istore 4, 2) := by decide +kernel
theorem dX6_trills_199 : decode cX6_trills 199 = .ok (.goto 6, 3) := by decide +kernel
theorem dX6_trills_202 : decode cX6_trills 202 = .ok (.iinc 4 1, 3) := by decide +kernel
theorem dX6_trills_205 : decode cX6_trills 205 = .ok (.goto (-169), 3) := by decide +kernel
theorem dX6_trills_208 : decode cX6_trills 208 = .ok (.iload_n 3, 1) := by decide +kernel
theorem dX6_trills_209 : decode cX6_trills 209 = .ok (.ireturn, 1) := by decide +kernel
set_option maxRecDepth 20000 in
theorem ggX6_heardOf_X6_in : GoodIn wsX6_heardOf wsX6_in := goodIn_r _ [11] (by decide +kernel) (by decide +kernel)
set_option maxRecDepth 20000 in
theorem gX6_heardOf_X6_in : GoodIn wsX6_heardOf (va_wsS RX6 66 yX6_in wsX6_in) := goodIn_app (goodIn_of _ (by decide +kernel)) ggX6_heardOf_X6_in
set_option maxRecDepth 20000 in
theorem ggX6_heardOf_X6_soundsOf : GoodIn wsX6_heardOf wsX6_soundsOf := goodIn_r _ [15, 16, 17, 18, 19, 20, 21, 22, 23, 24, 25, 26, 27, 28, 29, 30, 31, 32, 33, 34, 35, 36, 37, 38] (by decide +kernel) (by decide +kernel)
set_option maxRecDepth 20000 in
theorem gX6_heardOf_X6_soundsOf : GoodIn wsX6_heardOf (wsV RX6 99 RX6 yX6_soundsOf wsX6_soundsOf) := goodIn_app (goodIn_of _ (by decide +kernel)) ggX6_heardOf_X6_soundsOf
theorem dX6_heardOf_0 : decode cX6_heardOf 0 = .ok (.ldc 62, 2) := by decide +kernel
theorem dX6_heardOf_2 : decode cX6_heardOf 2 = .ok (.istore 4, 2) := by decide +kernel
theorem dX6_heardOf_4 : decode cX6_heardOf 4 = .ok (.bipush 40, 2) := by decide +kernel
theorem dX6_heardOf_6 : decode cX6_heardOf 6 = .ok (.iload_n 1, 1) := by decide +kernel
theorem dX6_heardOf_7 : decode cX6_heardOf 7 = .ok (.imul, 1) := by decide +kernel
theorem dX6_heardOf_8 : decode cX6_heardOf 8 = .ok (.istore 5, 2) := by decide +kernel
theorem dX6_heardOf_10 : decode cX6_heardOf 10 = .ok (.iload 5, 2) := by decide +kernel
theorem dX6_heardOf_12 : decode cX6_heardOf 12 = .ok (.bipush 40, 2) := by decide +kernel
theorem dX6_heardOf_14 : decode cX6_heardOf 14 = .ok (.iload_n 1, 1) := by decide +kernel
theorem dX6_heardOf_15 : decode cX6_heardOf 15 = .ok (.imul, 1) := by decide +kernel
theorem dX6_heardOf_16 : decode cX6_heardOf 16 = .ok (.aload_n 0, 1) := by decide +kernel
theorem dX6_heardOf_17 : decode cX6_heardOf 17 = .ok (.getfield 35, 3) := by decide +kernel
theorem dX6_heardOf_20 : decode cX6_heardOf 20 = .ok (.iload_n 1, 1) := by decide +kernel
theorem dX6_heardOf_21 : decode cX6_heardOf 21 = .ok (.iaload, 1) := by decide +kernel
theorem dX6_heardOf_22 : decode cX6_heardOf 22 = .ok (.iadd, 1) := by decide +kernel
theorem dX6_heardOf_23 : decode cX6_heardOf 23 = .ok (.if_icmp .ge 132, 3) := by decide +kernel
theorem dX6_heardOf_26 : decode cX6_heardOf 26 = .ok (.aload_n 0, 1) := by decide +kernel
theorem dX6_heardOf_27 : decode cX6_heardOf 27 = .ok (.getfield 38, 3) := by decide +kernel
theorem dX6_heardOf_30 : decode cX6_heardOf 30 = .ok (.iload 5, 2) := by decide +kernel
theorem dX6_heardOf_32 : decode cX6_heardOf 32 = .ok (.iaload, 1) := by decide +kernel
theorem dX6_heardOf_33 : decode cX6_heardOf 33 = .ok (.istore 6, 2) := by decide +kernel
theorem dX6_heardOf_35 : decode cX6_heardOf 35 = .ok (.iload 6, 2) := by decide +kernel
theorem dX6_heardOf_37 : decode cX6_heardOf 37 = .ok (.aload_n 0, 1) := by decide +kernel
theorem dX6_heardOf_38 : decode cX6_heardOf 38 = .ok (.getfield 7, 3) := by decide +kernel
theorem dX6_heardOf_41 : decode cX6_heardOf 41 = .ok (.if_icmp .ge 52, 3) := by decide +kernel
theorem dX6_heardOf_44 : decode cX6_heardOf 44 = .ok (.aload_n 0, 1) := by decide +kernel
theorem dX6_heardOf_45 : decode cX6_heardOf 45 = .ok (.getfield 13, 3) := by decide +kernel
theorem dX6_heardOf_48 : decode cX6_heardOf 48 = .ok (.iload 6, 2) := by decide +kernel
theorem dX6_heardOf_50 : decode cX6_heardOf 50 = .ok (.iaload, 1) := by decide +kernel
theorem dX6_heardOf_51 : decode cX6_heardOf 51 = .ok (.iload_n 2, 1) := by decide +kernel
theorem dX6_heardOf_52 : decode cX6_heardOf 52 = .ok (.if_icmp .ne 41, 3) := by decide +kernel
theorem dX6_heardOf_55 : decode cX6_heardOf 55 = .ok (.iload_n 3, 1) := by decide +kernel
theorem dX6_heardOf_56 : decode cX6_heardOf 56 = .ok (.i2l, 1) := by decide +kernel
theorem dX6_heardOf_57 : decode cX6_heardOf 57 = .ok (.aload_n 0, 1) := by decide +kernel
theorem dX6_heardOf_58 : decode cX6_heardOf 58 = .ok (.getfield 41, 3) := by decide +kernel
theorem dX6_heardOf_61 : decode cX6_heardOf 61 = .ok (.iload 5, 2) := by decide +kernel
theorem dX6_heardOf_63 : decode cX6_heardOf 63 = .ok (.iaload, 1) := by decide +kernel
theorem dX6_heardOf_64 : decode cX6_heardOf 64 = .ok (.i2l, 1) := by decide +kernel
theorem dX6_heardOf_65 : decode cX6_heardOf 65 = .ok (.aload_n 0, 1) := by decide +kernel
theorem dX6_heardOf_66 : decode cX6_heardOf 66 = .ok (.getfield 41, 3) := by decide +kernel
theorem dX6_heardOf_69 : decode cX6_heardOf 69 = .ok (.iload 5, 2) := by decide +kernel
theorem dX6_heardOf_71 : decode cX6_heardOf 71 = .ok (.iaload, 1) := by decide +kernel
theorem dX6_heardOf_72 : decode cX6_heardOf 72 = .ok (.aload_n 0, 1) := by decide +kernel
theorem dX6_heardOf_73 : decode cX6_heardOf 73 = .ok (.getfield 44, 3) := by decide +kernel
theorem dX6_heardOf_76 : decode cX6_heardOf 76 = .ok (.iload 5, 2) := by decide +kernel
theorem dX6_heardOf_78 : decode cX6_heardOf 78 = .ok (.iaload, 1) := by decide +kernel
theorem dX6_heardOf_79 : decode cX6_heardOf 79 = .ok (.iadd, 1) := by decide +kernel
theorem dX6_heardOf_80 : decode cX6_heardOf 80 = .ok (.iconst 1, 1) := by decide +kernel
theorem dX6_heardOf_81 : decode cX6_heardOf 81 = .ok (.isub, 1) := by decide +kernel
theorem dX6_heardOf_82 : decode cX6_heardOf 82 = .ok (.i2l, 1) := by decide +kernel
theorem dX6_heardOf_83 : decode cX6_heardOf 83 = .ok (.invokestatic 66, 3) := by decide +kernel
theorem dX6_heardOf_86 : decode cX6_heardOf 86 = .ok (.ifCond .eq 7, 3) := by decide +kernel
theorem dX6_heardOf_89 : decode cX6_heardOf 89 = .ok (.iconst 1, 1) := by decide +kernel
theorem dX6_heardOf_90 : decode cX6_heardOf 90 = .ok (.goto 4, 3) := by decide +kernel
theorem dX6_heardOf_93 : decode cX6_heardOf 93 = .ok (.iconst 0, 1) := by decide +kernel
theorem dX6_heardOf_94 : decode cX6_heardOf 94 = .ok (.istore 7, 2) := by decide +kernel
theorem dX6_heardOf_96 : decode cX6_heardOf 96 = .ok (.iload 7, 2) := by decide +kernel
theorem dX6_heardOf_98 : decode cX6_heardOf 98 = .ok (.ifCond .eq 51, 3) := by decide +kernel
theorem dX6_heardOf_101 : decode cX6_heardOf 101 = .ok (.iload 4, 2) := by decide +kernel
theorem dX6_heardOf_103 : decode cX6_heardOf 103 = .ok (.ldc 62, 2) := by decide +kernel
theorem dX6_heardOf_105 : decode cX6_heardOf 105 = .ok (.if_icmp .eq 40, 3) := by decide +kernel
theorem dX6_heardOf_108 : decode cX6_heardOf 108 = .ok (.aload_n 0, 1) := by decide +kernel
theorem dX6_heardOf_109 : decode cX6_heardOf 109 = .ok (.iload 6, 2) := by decide +kernel
theorem dX6_heardOf_111 : decode cX6_heardOf 111 = .ok (.invokevirtual 99, 3) := by decide +kernel
theorem dX6_heardOf_114 : decode cX6_heardOf 114 = .ok (.aload_n 0, 1) := by decide +kernel
theorem dX6_heardOf_115 : decode cX6_heardOf 115 = .ok (.iload 4, 2) := by decide +kernel
theorem dX6_heardOf_117 : decode cX6_heardOf 117 = .ok (.invokevirtual 99, 3) := by decide +kernel
theorem dX6_heardOf_120 : decode cX6_heardOf 120 = .ok (.if_icmp .lt 25, 3) := by decide +kernel
theorem dX6_heardOf_123 : decode cX6_heardOf 123 = .ok (.aload_n 0, 1) := by decide +kernel
theorem dX6_heardOf_124 : decode cX6_heardOf 124 = .ok (.iload 6, 2) := by decide +kernel
theorem dX6_heardOf_126 : decode cX6_heardOf 126 = .ok (.invokevirtual 99, 3) := by decide +kernel
theorem dX6_heardOf_129 : decode cX6_heardOf 129 = .ok (.aload_n 0, 1) := by decide +kernel
theorem dX6_heardOf_130 : decode cX6_heardOf 130 = .ok (.iload 4, 2) := by decide +kernel
theorem dX6_heardOf_132 : decode cX6_heardOf 132 = .ok (.invokevirtual 99, 3) := by decide +kernel
theorem dX6_heardOf_135 : decode cX6_heardOf 135 = .ok (.if_icmp .ne 14, 3) := by decide +kernel
theorem dX6_heardOf_138 : decode cX6_heardOf 138 = .ok (.iload 6, 2) := by decide +kernel
theorem dX6_heardOf_140 : decode cX6_heardOf 140 = .ok (.iload 4, 2) := by decide +kernel
theorem dX6_heardOf_142 : decode cX6_heardOf 142 = .ok (.if_icmp .ge 7, 3) := by decide +kernel
theorem dX6_heardOf_145 : decode cX6_heardOf 145 = .ok (.iload 6, 2) := by decide +kernel
theorem dX6_heardOf_147 : decode cX6_heardOf 147 = .ok (.istore 4, 2) := by decide +kernel
theorem dX6_heardOf_149 : decode cX6_heardOf 149 = .ok (.iinc 5 1, 3) := by decide +kernel
theorem dX6_heardOf_152 : decode cX6_heardOf 152 = .ok (.goto (-142), 3) := by decide +kernel
theorem dX6_heardOf_155 : decode cX6_heardOf 155 = .ok (.iload 4, 2) := by decide +kernel
theorem dX6_heardOf_157 : decode cX6_heardOf 157 = .ok (.ireturn, 1) := by decide +kernel
set_option maxRecDepth 20000 in
theorem ggX6_heard_X6_noPiece : GoodIn wsX6_heard wsX6_noPiece := goodIn_r _ [8, 9, 10, 11, 7, 12] (by decide +kernel) (by decide +kernel)
set_option maxRecDepth 20000 in
theorem gX6_heard_X6_noPiece : GoodIn wsX6_heard (va_wsS RX6 143 yX6_noPiece wsX6_noPiece) := goodIn_app (goodIn_of _ (by decide +kernel)) ggX6_heard_X6_noPiece
set_option maxRecDepth 20000 in
theorem ggX6_heard_X6_noString : GoodIn wsX6_heard wsX6_noString := goodIn_r _ [15, 16, 10, 11, 7, 12] (by decide +kernel) (by decide +kernel)
set_option maxRecDepth 20000 in
theorem gX6_heard_X6_noString : GoodIn wsX6_heard (va_wsS RX6 83 yX6_noString wsX6_noString) := goodIn_app (goodIn_of _ (by decide +kernel)) ggX6_heard_X6_noString
set_option maxRecDepth 20000 in
theorem ggX6_heard_X6_in : GoodIn wsX6_heard wsX6_in := goodIn_r _ [12] (by decide +kernel) (by decide +kernel)
set_option maxRecDepth 20000 in
theorem gX6_heard_X6_in : GoodIn wsX6_heard (va_wsS RX6 66 yX6_in wsX6_in) := goodIn_app (goodIn_of _ (by decide +kernel)) ggX6_heard_X6_in
set_option maxRecDepth 20000 in
theorem ggX6_heard_X6_heardOf : GoodIn wsX6_heard wsX6_heardOf := goodIn_r _ [20, 21, 22, 23, 24, 25, 26, 27, 10, 11, 7, 12, 28, 29, 30, 31, 32, 33, 34, 35, 36, 37, 38, 39, 40, 41, 42, 43, 44, 45, 46, 47, 48, 49, 50, 51, 52, 53, 54] (by decide +kernel) (by decide +kernel)
set_option maxRecDepth 20000 in
theorem gX6_heard_X6_heardOf : GoodIn wsX6_heard (wsV RX6 162 RX6 yX6_heardOf wsX6_heardOf) := goodIn_app (goodIn_of _ (by decide +kernel)) ggX6_heard_X6_heardOf
theorem dX6_heard_0 : decode cX6_heard 0 = .ok (.aload_n 0, 1) := by decide +kernel
theorem dX6_heard_1 : decode cX6_heard 1 = .ok (.iconst 0, 1) := by decide +kernel
theorem dX6_heard_2 : decode cX6_heard 2 = .ok (.putfield 63, 3) := by decide +kernel
theorem dX6_heard_5 : decode cX6_heard 5 = .ok (.iload_n 1, 1) := by decide +kernel
theorem dX6_heard_6 : decode cX6_heard 6 = .ok (.invokestatic 143, 3) := by decide +kernel
theorem dX6_heard_9 : decode cX6_heard 9 = .ok (.ifCond .ne 10, 3) := by decide +kernel
theorem dX6_heard_12 : decode cX6_heard 12 = .ok (.iload_n 2, 1) := by decide +kernel
theorem dX6_heard_13 : decode cX6_heard 13 = .ok (.invokestatic 83, 3) := by decide +kernel
theorem dX6_heard_16 : decode cX6_heard 16 = .ok (.ifCond .eq 6, 3) := by decide +kernel
theorem dX6_heard_19 : decode cX6_heard 19 = .ok (.ldc 86, 2) := by decide +kernel
theorem dX6_heard_21 : decode cX6_heard 21 = .ok (.ireturn, 1) := by decide +kernel
theorem dX6_heard_22 : decode cX6_heard 22 = .ok (.iload_n 3, 1) := by decide +kernel
theorem dX6_heard_23 : decode cX6_heard 23 = .ok (.i2l, 1) := by decide +kernel
theorem dX6_heard_24 : decode cX6_heard 24 = .ok (.lconst 0, 1) := by decide +kernel
theorem dX6_heard_25 : decode cX6_heard 25 = .ok (.ldc2_w 160, 3) := by decide +kernel
theorem dX6_heard_28 : decode cX6_heard 28 = .ok (.invokestatic 66, 3) := by decide +kernel
theorem dX6_heard_31 : decode cX6_heard 31 = .ok (.ifCond .eq 13, 3) := by decide +kernel
theorem dX6_heard_34 : decode cX6_heard 34 = .ok (.aload_n 0, 1) := by decide +kernel
theorem dX6_heard_35 : decode cX6_heard 35 = .ok (.iload_n 1, 1) := by decide +kernel
theorem dX6_heard_36 : decode cX6_heard 36 = .ok (.iload_n 2, 1) := by decide +kernel
theorem dX6_heard_37 : decode cX6_heard 37 = .ok (.iload_n 3, 1) := by decide +kernel
theorem dX6_heard_38 : decode cX6_heard 38 = .ok (.invokevirtual 162, 3) := by decide +kernel
theorem dX6_heard_41 : decode cX6_heard 41 = .ok (.goto 5, 3) := by decide +kernel
theorem dX6_heard_44 : decode cX6_heard 44 = .ok (.ldc 78, 2) := by decide +kernel
theorem dX6_heard_46 : decode cX6_heard 46 = .ok (.ireturn, 1) := by decide +kernel
set_option maxRecDepth 20000 in
theorem ggX6_lost_X6_noPiece : GoodIn wsX6_lost wsX6_noPiece := goodIn_r _ [11, 12, 13, 14, 10, 15] (by decide +kernel) (by decide +kernel)
set_option maxRecDepth 20000 in
theorem gX6_lost_X6_noPiece : GoodIn wsX6_lost (va_wsS RX6 143 yX6_noPiece wsX6_noPiece) := goodIn_app (goodIn_of _ (by decide +kernel)) ggX6_lost_X6_noPiece
set_option maxRecDepth 20000 in
theorem ggX6_lost_X6_noKey : GoodIn wsX6_lost wsX6_noKey := goodIn_r _ [19, 20, 13, 14, 10, 15, 32, 33, 34, 35, 36, 37, 38, 39, 40, 41, 42, 43, 44, 45, 46, 47, 48, 49, 50, 51, 52] (by decide +kernel) (by decide +kernel)
set_option maxRecDepth 20000 in
theorem gX6_lost_X6_noKey : GoodIn wsX6_lost (wsV RX6 79 RX6 yX6_noKey wsX6_noKey) := goodIn_app (goodIn_of _ (by decide +kernel)) ggX6_lost_X6_noKey
set_option maxRecDepth 20000 in
theorem ggX6_lost_X6_in : GoodIn wsX6_lost wsX6_in := goodIn_r _ [15] (by decide +kernel) (by decide +kernel)
set_option maxRecDepth 20000 in
theorem gX6_lost_X6_in : GoodIn wsX6_lost (va_wsS RX6 66 yX6_in wsX6_in) := goodIn_app (goodIn_of _ (by decide +kernel)) ggX6_lost_X6_in
set_option maxRecDepth 20000 in
theorem ggX6_lost_X6_heardOf : GoodIn wsX6_lost wsX6_heardOf := goodIn_r _ [24, 25, 3, 4, 20, 7, 5, 6, 13, 14, 10, 15, 26, 27, 28, 29, 30, 31, 32, 33, 34, 35, 36, 37, 38, 39, 40, 41, 42, 43, 44, 45, 46, 47, 48, 49, 50, 51, 52] (by decide +kernel) (by decide +kernel)
set_option maxRecDepth 20000 in
theorem gX6_lost_X6_heardOf : GoodIn wsX6_lost (wsV RX6 162 RX6 yX6_heardOf wsX6_heardOf) := goodIn_app (goodIn_of _ (by decide +kernel)) ggX6_lost_X6_heardOf
theorem dX6_lost_0 : decode cX6_lost 0 = .ok (.aload_n 0, 1) := by decide +kernel
theorem dX6_lost_1 : decode cX6_lost 1 = .ok (.iconst 0, 1) := by decide +kernel
theorem dX6_lost_2 : decode cX6_lost 2 = .ok (.putfield 63, 3) := by decide +kernel
theorem dX6_lost_5 : decode cX6_lost 5 = .ok (.iload_n 1, 1) := by decide +kernel
theorem dX6_lost_6 : decode cX6_lost 6 = .ok (.invokestatic 143, 3) := by decide +kernel
theorem dX6_lost_9 : decode cX6_lost 9 = .ok (.ifCond .ne 11, 3) := by decide +kernel
theorem dX6_lost_12 : decode cX6_lost 12 = .ok (.aload_n 0, 1) := by decide +kernel
theorem dX6_lost_13 : decode cX6_lost 13 = .ok (.iload_n 2, 1) := by decide +kernel
theorem dX6_lost_14 : decode cX6_lost 14 = .ok (.invokevirtual 79, 3) := by decide +kernel
theorem dX6_lost_17 : decode cX6_lost 17 = .ok (.ifCond .eq 6, 3) := by decide +kernel
theorem dX6_lost_20 : decode cX6_lost 20 = .ok (.ldc 86, 2) := by decide +kernel
theorem dX6_lost_22 : decode cX6_lost 22 = .ok (.ireturn, 1) := by decide +kernel
theorem dX6_lost_23 : decode cX6_lost 23 = .ok (.iconst 0, 1) := by decide +kernel
theorem dX6_lost_24 : decode cX6_lost 24 = .ok (.istore_n 3, 1) := by decide +kernel
theorem dX6_lost_25 : decode cX6_lost 25 = .ok (.iconst 0, 1) := by decide +kernel
theorem dX6_lost_26 : decode cX6_lost 26 = .ok (.istore 4, 2) := by decide +kernel
theorem dX6_lost_28 : decode cX6_lost 28 = .ok (.iload 4, 2) := by decide +kernel
theorem dX6_lost_30 : decode cX6_lost 30 = .ok (.sipush 1100, 3) := by decide +kernel
theorem dX6_lost_33 : decode cX6_lost 33 = .ok (.if_icmp .ge 128, 3) := by decide +kernel
theorem dX6_lost_36 : decode cX6_lost 36 = .ok (.iconst 0, 1) := by decide +kernel
theorem dX6_lost_37 : decode cX6_lost 37 = .ok (.istore 5, 2) := by decide +kernel
theorem dX6_lost_39 : decode cX6_lost 39 = .ok (.bipush 40, 2) := by decide +kernel
theorem dX6_lost_41 : decode cX6_lost 41 = .ok (.iload_n 1, 1) := by decide +kernel
theorem dX6_lost_42 : decode cX6_lost 42 = .ok (.imul, 1) := by decide +kernel
theorem dX6_lost_43 : decode cX6_lost 43 = .ok (.istore 6, 2) := by decide +kernel
theorem dX6_lost_45 : decode cX6_lost 45 = .ok (.iload 6, 2) := by decide +kernel
theorem dX6_lost_47 : decode cX6_lost 47 = .ok (.bipush 40, 2) := by decide +kernel
theorem dX6_lost_49 : decode cX6_lost 49 = .ok (.iload_n 1, 1) := by decide +kernel
theorem dX6_lost_50 : decode cX6_lost 50 = .ok (.imul, 1) := by decide +kernel
theorem dX6_lost_51 : decode cX6_lost 51 = .ok (.aload_n 0, 1) := by decide +kernel
theorem dX6_lost_52 : decode cX6_lost 52 = .ok (.getfield 35, 3) := by decide +kernel
theorem dX6_lost_55 : decode cX6_lost 55 = .ok (.iload_n 1, 1) := by decide +kernel
theorem dX6_lost_56 : decode cX6_lost 56 = .ok (.iaload, 1) := by decide +kernel
theorem dX6_lost_57 : decode cX6_lost 57 = .ok (.iadd, 1) := by decide +kernel
theorem dX6_lost_58 : decode cX6_lost 58 = .ok (.if_icmp .ge 67, 3) := by decide +kernel
theorem dX6_lost_61 : decode cX6_lost 61 = .ok (.iload 5, 2) := by decide +kernel
theorem dX6_lost_63 : decode cX6_lost 63 = .ok (.ifCond .ne 49, 3) := by decide +kernel
theorem dX6_lost_66 : decode cX6_lost 66 = .ok (.aload_n 0, 1) := by decide +kernel
theorem dX6_lost_67 : decode cX6_lost 67 = .ok (.getfield 38, 3) := by decide +kernel
theorem dX6_lost_70 : decode cX6_lost 70 = .ok (.iload 6, 2) := by decide +kernel
theorem dX6_lost_72 : decode cX6_lost 72 = .ok (.iaload, 1) := by decide +kernel
theorem dX6_lost_73 : decode cX6_lost 73 = .ok (.iload_n 2, 1) := by decide +kernel
theorem dX6_lost_74 : decode cX6_lost 74 = .ok (.if_icmp .ne 42, 3) := by decide +kernel
theorem dX6_lost_77 : decode cX6_lost 77 = .ok (.iload 4, 2) := by decide +kernel
theorem dX6_lost_79 : decode cX6_lost 79 = .ok (.i2l, 1) := by decide +kernel
theorem dX6_lost_80 : decode cX6_lost 80 = .ok (.aload_n 0, 1) := by decide +kernel
theorem dX6_lost_81 : decode cX6_lost 81 = .ok (.getfield 41, 3) := by decide +kernel
theorem dX6_lost_84 : decode cX6_lost 84 = .ok (.iload 6, 2) := by decide +kernel
theorem dX6_lost_86 : decode cX6_lost 86 = .ok (.iaload, 1) := by decide +kernel
theorem dX6_lost_87 : decode cX6_lost 87 = .ok (.i2l, 1) := by decide +kernel
theorem dX6_lost_88 : decode cX6_lost 88 = .ok (.aload_n 0, 1) := by decide +kernel
theorem dX6_lost_89 : decode cX6_lost 89 = .ok (.getfield 41, 3) := by decide +kernel
theorem dX6_lost_92 : decode cX6_lost 92 = .ok (.iload 6, 2) := by decide +kernel
theorem dX6_lost_94 : decode cX6_lost 94 = .ok (.iaload, 1) := by decide +kernel
theorem dX6_lost_95 : decode cX6_lost 95 = .ok (.aload_n 0, 1) := by decide +kernel
theorem dX6_lost_96 : decode cX6_lost 96 = .ok (.getfield 44, 3) := by decide +kernel
theorem dX6_lost_99 : decode cX6_lost 99 = .ok (.iload 6, 2) := by decide +kernel
theorem dX6_lost_101 : decode cX6_lost 101 = .ok (.iaload, 1) := by decide +kernel
theorem dX6_lost_102 : decode cX6_lost 102 = .ok (.iadd, 1) := by decide +kernel
theorem dX6_lost_103 : decode cX6_lost 103 = .ok (.iconst 1, 1) := by decide +kernel
theorem dX6_lost_104 : decode cX6_lost 104 = .ok (.isub, 1) := by decide +kernel
theorem dX6_lost_105 : decode cX6_lost 105 = .ok (.i2l, 1) := by decide +kernel
theorem dX6_lost_106 : decode cX6_lost 106 = .ok (.invokestatic 66, 3) := by decide +kernel
theorem dX6_lost_109 : decode cX6_lost 109 = .ok (.ifCond .eq 7, 3) := by decide +kernel
theorem dX6_lost_112 : decode cX6_lost 112 = .ok (.iconst 1, 1) := by decide +kernel
theorem dX6_lost_113 : decode cX6_lost 113 = .ok (.goto 4, 3) := by decide +kernel
theorem dX6_lost_116 : decode cX6_lost 116 = .ok (.iconst 0, 1) := by decide +kernel
theorem dX6_lost_117 : decode cX6_lost 117 = .ok (.istore 5, 2) := by decide +kernel
theorem dX6_lost_119 : decode cX6_lost 119 = .ok (.iinc 6 1, 3) := by decide +kernel
theorem dX6_lost_122 : decode cX6_lost 122 = .ok (.goto (-77), 3) := by decide +kernel
theorem dX6_lost_125 : decode cX6_lost 125 = .ok (.iload_n 3, 1) := by decide +kernel
theorem dX6_lost_126 : decode cX6_lost 126 = .ok (.iload 5, 2) := by decide +kernel
theorem dX6_lost_128 : decode cX6_lost 128 = .ok (.ifCond .eq 24, 3) := by decide +kernel
theorem dX6_lost_131 : decode cX6_lost 131 = .ok (.aload_n 0, 1) := by decide +kernel
theorem dX6_lost_132 : decode cX6_lost 132 = .ok (.iload_n 1, 1) := by decide +kernel
theorem dX6_lost_133 : decode cX6_lost 133 = .ok (.aload_n 0, 1) := by decide +kernel
theorem dX6_lost_134 : decode cX6_lost 134 = .ok (.getfield 13, 3) := by decide +kernel
theorem dX6_lost_137 : decode cX6_lost 137 = .ok (.iload_n 2, 1) := by decide +kernel
theorem dX6_lost_138 : decode cX6_lost 138 = .ok (.iaload, 1) := by decide +kernel
theorem dX6_lost_139 : decode cX6_lost 139 = .ok (.iload 4, 2) := by decide +kernel
theorem dX6_lost_141 : decode cX6_lost 141 = .ok (.invokevirtual 162, 3) := by decide +kernel
theorem dX6_lost_144 : decode cX6_lost 144 = .ok (.iload_n 2, 1) := by decide +kernel
theorem dX6_lost_145 : decode cX6_lost 145 = .ok (.if_icmp .eq 7, 3) := by decide +kernel
theorem dX6_lost_148 : decode cX6_lost 148 = .ok (.iconst 1, 1) := by decide +kernel
theorem dX6_lost_149 : decode cX6_lost 149 = .ok (.goto 4, 3) := by decide +kernel
theorem dX6_lost_152 : decode cX6_lost 152 = .ok (.iconst 0, 1) := by decide +kernel
theorem dX6_lost_153 : decode cX6_lost 153 = .ok (.iadd, 1) := by decide +kernel
theorem dX6_lost_154 : decode cX6_lost 154 = .ok (.istore_n 3, 1) := by decide +kernel
theorem dX6_lost_155 : decode cX6_lost 155 = .ok (.iinc 4 1, 3) := by decide +kernel
theorem dX6_lost_158 : decode cX6_lost 158 = .ok (.goto (-130), 3) := by decide +kernel
theorem dX6_lost_161 : decode cX6_lost 161 = .ok (.iload_n 3, 1) := by decide +kernel
theorem dX6_lost_162 : decode cX6_lost 162 = .ok (.ireturn, 1) := by decide +kernel
set_option maxRecDepth 20000 in
theorem ggX6_passes_X6_noPiece : GoodIn wsX6_passes wsX6_noPiece := goodIn_r _ [9, 10, 11, 12, 8, 13] (by decide +kernel) (by decide +kernel)
set_option maxRecDepth 20000 in
theorem gX6_passes_X6_noPiece : GoodIn wsX6_passes (va_wsS RX6 143 yX6_noPiece wsX6_noPiece) := goodIn_app (goodIn_of _ (by decide +kernel)) ggX6_passes_X6_noPiece
set_option maxRecDepth 20000 in
theorem ggX6_passes_X6_clashesOf : GoodIn wsX6_passes wsX6_clashesOf := goodIn_r _ [17, 3, 18, 19, 20, 8, 21, 4, 5, 22, 23, 24, 25, 26, 27, 28, 29, 30, 31, 32, 33, 34, 35, 36, 37, 38, 39, 40, 41, 42, 43, 44, 45, 46, 47, 48, 49] (by decide +kernel) (by decide +kernel)
set_option maxRecDepth 20000 in
theorem gX6_passes_X6_clashesOf : GoodIn wsX6_passes (wsV RX6 157 RX6 yX6_clashesOf wsX6_clashesOf) := goodIn_app (goodIn_of _ (by decide +kernel)) ggX6_passes_X6_clashesOf
theorem dX6_passes_0 : decode cX6_passes 0 = .ok (.aload_n 0, 1) := by decide +kernel
theorem dX6_passes_1 : decode cX6_passes 1 = .ok (.iconst 0, 1) := by decide +kernel
theorem dX6_passes_2 : decode cX6_passes 2 = .ok (.putfield 63, 3) := by decide +kernel
theorem dX6_passes_5 : decode cX6_passes 5 = .ok (.iload_n 1, 1) := by decide +kernel
theorem dX6_passes_6 : decode cX6_passes 6 = .ok (.invokestatic 143, 3) := by decide +kernel
theorem dX6_passes_9 : decode cX6_passes 9 = .ok (.ifCond .eq 6, 3) := by decide +kernel
theorem dX6_passes_12 : decode cX6_passes 12 = .ok (.ldc 86, 2) := by decide +kernel
theorem dX6_passes_14 : decode cX6_passes 14 = .ok (.ireturn, 1) := by decide +kernel
theorem dX6_passes_15 : decode cX6_passes 15 = .ok (.iconst 1, 1) := by decide +kernel
theorem dX6_passes_16 : decode cX6_passes 16 = .ok (.istore_n 2, 1) := by decide +kernel
theorem dX6_passes_17 : decode cX6_passes 17 = .ok (.bipush 40, 2) := by decide +kernel
theorem dX6_passes_19 : decode cX6_passes 19 = .ok (.iload_n 1, 1) := by decide +kernel
theorem dX6_passes_20 : decode cX6_passes 20 = .ok (.imul, 1) := by decide +kernel
theorem dX6_passes_21 : decode cX6_passes 21 = .ok (.istore_n 3, 1) := by decide +kernel
theorem dX6_passes_22 : decode cX6_passes 22 = .ok (.iload_n 3, 1) := by decide +kernel
theorem dX6_passes_23 : decode cX6_passes 23 = .ok (.bipush 40, 2) := by decide +kernel
theorem dX6_passes_25 : decode cX6_passes 25 = .ok (.iload_n 1, 1) := by decide +kernel
theorem dX6_passes_26 : decode cX6_passes 26 = .ok (.imul, 1) := by decide +kernel
theorem dX6_passes_27 : decode cX6_passes 27 = .ok (.aload_n 0, 1) := by decide +kernel
theorem dX6_passes_28 : decode cX6_passes 28 = .ok (.getfield 35, 3) := by decide +kernel
theorem dX6_passes_31 : decode cX6_passes 31 = .ok (.iload_n 1, 1) := by decide +kernel
theorem dX6_passes_32 : decode cX6_passes 32 = .ok (.iaload, 1) := by decide +kernel
theorem dX6_passes_33 : decode cX6_passes 33 = .ok (.iadd, 1) := by decide +kernel
theorem dX6_passes_34 : decode cX6_passes 34 = .ok (.if_icmp .ge 32, 3) := by decide +kernel
theorem dX6_passes_37 : decode cX6_passes 37 = .ok (.iload_n 2, 1) := by decide +kernel
theorem dX6_passes_38 : decode cX6_passes 38 = .ok (.ifCond .eq 20, 3) := by decide +kernel
theorem dX6_passes_41 : decode cX6_passes 41 = .ok (.aload_n 0, 1) := by decide +kernel
theorem dX6_passes_42 : decode cX6_passes 42 = .ok (.getfield 38, 3) := by decide +kernel
theorem dX6_passes_45 : decode cX6_passes 45 = .ok (.iload_n 3, 1) := by decide +kernel
theorem dX6_passes_46 : decode cX6_passes 46 = .ok (.iaload, 1) := by decide +kernel
theorem dX6_passes_47 : decode cX6_passes 47 = .ok (.aload_n 0, 1) := by decide +kernel
theorem dX6_passes_48 : decode cX6_passes 48 = .ok (.getfield 7, 3) := by decide +kernel
theorem dX6_passes_51 : decode cX6_passes 51 = .ok (.if_icmp .ge 7, 3) := by decide +kernel
theorem dX6_passes_54 : decode cX6_passes 54 = .ok (.iconst 1, 1) := by decide +kernel
theorem dX6_passes_55 : decode cX6_passes 55 = .ok (.goto 4, 3) := by decide +kernel
theorem dX6_passes_58 : decode cX6_passes 58 = .ok (.iconst 0, 1) := by decide +kernel
theorem dX6_passes_59 : decode cX6_passes 59 = .ok (.istore_n 2, 1) := by decide +kernel
theorem dX6_passes_60 : decode cX6_passes 60 = .ok (.iinc 3 1, 3) := by decide +kernel
theorem dX6_passes_63 : decode cX6_passes 63 = .ok (.goto (-41), 3) := by decide +kernel
theorem dX6_passes_66 : decode cX6_passes 66 = .ok (.iload_n 2, 1) := by decide +kernel
theorem dX6_passes_67 : decode cX6_passes 67 = .ok (.ifCond .eq 15, 3) := by decide +kernel
theorem dX6_passes_70 : decode cX6_passes 70 = .ok (.aload_n 0, 1) := by decide +kernel
theorem dX6_passes_71 : decode cX6_passes 71 = .ok (.iload_n 1, 1) := by decide +kernel
theorem dX6_passes_72 : decode cX6_passes 72 = .ok (.invokevirtual 157, 3) := by decide +kernel
theorem dX6_passes_75 : decode cX6_passes 75 = .ok (.ifCond .ne 7, 3) := by decide +kernel
theorem dX6_passes_78 : decode cX6_passes 78 = .ok (.iconst 1, 1) := by decide +kernel
theorem dX6_passes_79 : decode cX6_passes 79 = .ok (.goto 4, 3) := by decide +kernel
theorem dX6_passes_82 : decode cX6_passes 82 = .ok (.iconst 0, 1) := by decide +kernel
theorem dX6_passes_83 : decode cX6_passes 83 = .ok (.ireturn, 1) := by decide +kernel
set_option maxRecDepth 20000 in
theorem ggX6_book_X6_in : GoodIn wsX6_book wsX6_in := goodIn_r _ [8] (by decide +kernel) (by decide +kernel)
set_option maxRecDepth 20000 in
theorem gX6_book_X6_in : GoodIn wsX6_book (va_wsS RX6 66 yX6_in wsX6_in) := goodIn_app (goodIn_of _ (by decide +kernel)) ggX6_book_X6_in
theorem dX6_book_0 : decode cX6_book 0 = .ok (.aload_n 0, 1) := by decide +kernel
theorem dX6_book_1 : decode cX6_book 1 = .ok (.iconst 0, 1) := by decide +kernel
theorem dX6_book_2 : decode cX6_book 2 = .ok (.putfield 63, 3) := by decide +kernel
theorem dX6_book_5 : decode cX6_book 5 = .ok (.iload_n 1, 1) := by decide +kernel
theorem dX6_book_6 : decode cX6_book 6 = .ok (.i2l, 1) := by decide +kernel
theorem dX6_book_7 : decode cX6_book 7 = .ok (.lconst 0, 1) := by decide +kernel
theorem dX6_book_8 : decode cX6_book 8 = .ok (.ldc2_w 165, 3) := by decide +kernel
theorem dX6_book_11 : decode cX6_book 11 = .ok (.invokestatic 66, 3) := by decide +kernel
theorem dX6_book_14 : decode cX6_book 14 = .ok (.ifCond .ne 6, 3) := by decide +kernel
theorem dX6_book_17 : decode cX6_book 17 = .ok (.ldc 78, 2) := by decide +kernel
theorem dX6_book_19 : decode cX6_book 19 = .ok (.ireturn, 1) := by decide +kernel
theorem dX6_book_20 : decode cX6_book 20 = .ok (.aload_n 0, 1) := by decide +kernel
theorem dX6_book_21 : decode cX6_book 21 = .ok (.getfield 167, 3) := by decide +kernel
theorem dX6_book_24 : decode cX6_book 24 = .ok (.istore_n 2, 1) := by decide +kernel
theorem dX6_book_25 : decode cX6_book 25 = .ok (.aload_n 0, 1) := by decide +kernel
theorem dX6_book_26 : decode cX6_book 26 = .ok (.iload_n 1, 1) := by decide +kernel
theorem dX6_book_27 : decode cX6_book 27 = .ok (.putfield 167, 3) := by decide +kernel
theorem dX6_book_30 : decode cX6_book 30 = .ok (.iload_n 2, 1) := by decide +kernel
theorem dX6_book_31 : decode cX6_book 31 = .ok (.ireturn, 1) := by decide +kernel
set_option maxRecDepth 20000 in
theorem ggX6_togetherOf_X6_in : GoodIn wsX6_togetherOf wsX6_in := goodIn_r _ [7] (by decide +kernel) (by decide +kernel)
set_option maxRecDepth 20000 in
theorem gX6_togetherOf_X6_in : GoodIn wsX6_togetherOf (va_wsS RX6 66 yX6_in wsX6_in) := goodIn_app (goodIn_of _ (by decide +kernel)) ggX6_togetherOf_X6_in
set_option maxRecDepth 20000 in
theorem ggX6_togetherOf_X6_meet : GoodIn wsX6_togetherOf wsX6_meet := goodIn_r _ [11, 12, 13, 14, 15, 16, 17, 18, 19, 20, 21, 22, 23, 24, 25, 26, 27, 28, 29, 30, 31, 32, 33, 34] (by decide +kernel) (by decide +kernel)
set_option maxRecDepth 20000 in
theorem gX6_togetherOf_X6_meet : GoodIn wsX6_togetherOf (wsV RX6 154 RX6 yX6_meet wsX6_meet) := goodIn_app (goodIn_of _ (by decide +kernel)) ggX6_togetherOf_X6_meet
theorem dX6_togetherOf_0 : decode cX6_togetherOf 0 = .ok (.iconst 0, 1) := by decide +kernel
theorem dX6_togetherOf_1 : decode cX6_togetherOf 1 = .ok (.istore_n 3, 1) := by decide +kernel
theorem dX6_togetherOf_2 : decode cX6_togetherOf 2 = .ok (.iconst 0, 1) := by decide +kernel
theorem dX6_togetherOf_3 : decode cX6_togetherOf 3 = .ok (.istore 4, 2) := by decide +kernel
theorem dX6_togetherOf_5 : decode cX6_togetherOf 5 = .ok (.iload 4, 2) := by decide +kernel
theorem dX6_togetherOf_7 : decode cX6_togetherOf 7 = .ok (.iconst 4, 1) := by decide +kernel
theorem dX6_togetherOf_8 : decode cX6_togetherOf 8 = .ok (.if_icmp .ge 157, 3) := by decide +kernel
theorem dX6_togetherOf_11 : decode cX6_togetherOf 11 = .ok (.bipush 40, 2) := by decide +kernel
theorem dX6_togetherOf_13 : decode cX6_togetherOf 13 = .ok (.iload 4, 2) := by decide +kernel
theorem dX6_togetherOf_15 : decode cX6_togetherOf 15 = .ok (.imul, 1) := by decide +kernel
theorem dX6_togetherOf_16 : decode cX6_togetherOf 16 = .ok (.istore 5, 2) := by decide +kernel
theorem dX6_togetherOf_18 : decode cX6_togetherOf 18 = .ok (.iload 5, 2) := by decide +kernel
theorem dX6_togetherOf_20 : decode cX6_togetherOf 20 = .ok (.bipush 40, 2) := by decide +kernel
theorem dX6_togetherOf_22 : decode cX6_togetherOf 22 = .ok (.iload 4, 2) := by decide +kernel
theorem dX6_togetherOf_24 : decode cX6_togetherOf 24 = .ok (.imul, 1) := by decide +kernel
theorem dX6_togetherOf_25 : decode cX6_togetherOf 25 = .ok (.aload_n 0, 1) := by decide +kernel
theorem dX6_togetherOf_26 : decode cX6_togetherOf 26 = .ok (.getfield 35, 3) := by decide +kernel
theorem dX6_togetherOf_29 : decode cX6_togetherOf 29 = .ok (.iload 4, 2) := by decide +kernel
theorem dX6_togetherOf_31 : decode cX6_togetherOf 31 = .ok (.iaload, 1) := by decide +kernel
theorem dX6_togetherOf_32 : decode cX6_togetherOf 32 = .ok (.iadd, 1) := by decide +kernel
theorem dX6_togetherOf_33 : decode cX6_togetherOf 33 = .ok (.if_icmp .ge 126, 3) := by decide +kernel
theorem dX6_togetherOf_36 : decode cX6_togetherOf 36 = .ok (.aload_n 0, 1) := by decide +kernel
theorem dX6_togetherOf_37 : decode cX6_togetherOf 37 = .ok (.getfield 167, 3) := by decide +kernel
theorem dX6_togetherOf_40 : decode cX6_togetherOf 40 = .ok (.iload 4, 2) := by decide +kernel
theorem dX6_togetherOf_42 : decode cX6_togetherOf 42 = .ok (.ishr, 1) := by decide +kernel
theorem dX6_togetherOf_43 : decode cX6_togetherOf 43 = .ok (.iconst 1, 1) := by decide +kernel
theorem dX6_togetherOf_44 : decode cX6_togetherOf 44 = .ok (.iand, 1) := by decide +kernel
theorem dX6_togetherOf_45 : decode cX6_togetherOf 45 = .ok (.iconst 1, 1) := by decide +kernel
theorem dX6_togetherOf_46 : decode cX6_togetherOf 46 = .ok (.if_icmp .ne 113, 3) := by decide +kernel
theorem dX6_togetherOf_49 : decode cX6_togetherOf 49 = .ok (.bipush 40, 2) := by decide +kernel
theorem dX6_togetherOf_51 : decode cX6_togetherOf 51 = .ok (.iload 4, 2) := by decide +kernel
theorem dX6_togetherOf_53 : decode cX6_togetherOf 53 = .ok (.imul, 1) := by decide +kernel
theorem dX6_togetherOf_54 : decode cX6_togetherOf 54 = .ok (.istore 6, 2) := by decide +kernel
theorem dX6_togetherOf_56 : decode cX6_togetherOf 56 = .ok (.iload 6, 2) := by decide +kernel
theorem dX6_togetherOf_58 : decode cX6_togetherOf 58 = .ok (.iload 5, 2) := by decide +kernel
theorem dX6_togetherOf_60 : decode cX6_togetherOf 60 = .ok (.if_icmp .ge 93, 3) := by decide +kernel
theorem dX6_togetherOf_63 : decode cX6_togetherOf 63 = .ok (.aload_n 0, 1) := by decide +kernel
theorem dX6_togetherOf_64 : decode cX6_togetherOf 64 = .ok (.getfield 38, 3) := by decide +kernel
theorem dX6_togetherOf_67 : decode cX6_togetherOf 67 = .ok (.iload 6, 2) := by decide +kernel
theorem dX6_togetherOf_69 : decode cX6_togetherOf 69 = .ok (.iaload, 1) := by decide +kernel
theorem dX6_togetherOf_70 : decode cX6_togetherOf 70 = .ok (.i2l, 1) := by decide +kernel
theorem dX6_togetherOf_71 : decode cX6_togetherOf 71 = .ok (.iload_n 1, 1) := by decide +kernel
theorem dX6_togetherOf_72 : decode cX6_togetherOf 72 = .ok (.i2l, 1) := by decide +kernel
theorem dX6_togetherOf_73 : decode cX6_togetherOf 73 = .ok (.iload_n 2, 1) := by decide +kernel
theorem dX6_togetherOf_74 : decode cX6_togetherOf 74 = .ok (.i2l, 1) := by decide +kernel
theorem dX6_togetherOf_75 : decode cX6_togetherOf 75 = .ok (.invokestatic 66, 3) := by decide +kernel
theorem dX6_togetherOf_78 : decode cX6_togetherOf 78 = .ok (.ifCond .eq 42, 3) := by decide +kernel
theorem dX6_togetherOf_81 : decode cX6_togetherOf 81 = .ok (.aload_n 0, 1) := by decide +kernel
theorem dX6_togetherOf_82 : decode cX6_togetherOf 82 = .ok (.getfield 38, 3) := by decide +kernel
theorem dX6_togetherOf_85 : decode cX6_togetherOf 85 = .ok (.iload 5, 2) := by decide +kernel
theorem dX6_togetherOf_87 : decode cX6_togetherOf 87 = .ok (.iaload, 1) := by decide +kernel
theorem dX6_togetherOf_88 : decode cX6_togetherOf 88 = .ok (.i2l, 1) := by decide +kernel
theorem dX6_togetherOf_89 : decode cX6_togetherOf 89 = .ok (.iload_n 1, 1) := by decide +kernel
theorem dX6_togetherOf_90 : decode cX6_togetherOf 90 = .ok (.i2l, 1) := by decide +kernel
theorem dX6_togetherOf_91 : decode cX6_togetherOf 91 = .ok (.iload_n 2, 1) := by decide +kernel
theorem dX6_togetherOf_92 : decode cX6_togetherOf 92 = .ok (.i2l, 1) := by decide +kernel
theorem dX6_togetherOf_93 : decode cX6_togetherOf 93 = .ok (.invokestatic 66, 3) := by decide +kernel
theorem dX6_togetherOf_96 : decode cX6_togetherOf 96 = .ok (.ifCond .eq 24, 3) := by decide +kernel
theorem dX6_togetherOf_99 : decode cX6_togetherOf 99 = .ok (.aload_n 0, 1) := by decide +kernel
theorem dX6_togetherOf_100 : decode cX6_togetherOf 100 = .ok (.getfield 38, 3) := by decide +kernel
theorem dX6_togetherOf_103 : decode cX6_togetherOf 103 = .ok (.iload 6, 2) := by decide +kernel
theorem dX6_togetherOf_105 : decode cX6_togetherOf 105 = .ok (.iaload, 1) := by decide +kernel
theorem dX6_togetherOf_106 : decode cX6_togetherOf 106 = .ok (.aload_n 0, 1) := by decide +kernel
theorem dX6_togetherOf_107 : decode cX6_togetherOf 107 = .ok (.getfield 38, 3) := by decide +kernel
theorem dX6_togetherOf_110 : decode cX6_togetherOf 110 = .ok (.iload 5, 2) := by decide +kernel
theorem dX6_togetherOf_112 : decode cX6_togetherOf 112 = .ok (.iaload, 1) := by decide +kernel
theorem dX6_togetherOf_113 : decode cX6_togetherOf 113 = .ok (.if_icmp .eq 7, 3) := by decide +kernel
theorem dX6_togetherOf_116 : decode cX6_togetherOf 116 = .ok (.iconst 1, 1) := by decide +kernel
theorem dX6_togetherOf_117 : decode cX6_togetherOf 117 = .ok (.goto 4, 3) := by decide +kernel
theorem dX6_togetherOf_120 : decode cX6_togetherOf 120 = .ok (.iconst 0, 1) := by decide +kernel
theorem dX6_togetherOf_121 : decode cX6_togetherOf 121 = .ok (.istore 7, 2) := by decide +kernel
theorem dX6_togetherOf_123 : decode cX6_togetherOf 123 = .ok (.iload_n 3, 1) := by decide +kernel
theorem dX6_togetherOf_124 : decode cX6_togetherOf 124 = .ok (.iload 7, 2) := by decide +kernel
theorem dX6_togetherOf_126 : decode cX6_togetherOf 126 = .ok (.ifCond .eq 18, 3) := by decide +kernel
theorem dX6_togetherOf_129 : decode cX6_togetherOf 129 = .ok (.aload_n 0, 1) := by decide +kernel
theorem dX6_togetherOf_130 : decode cX6_togetherOf 130 = .ok (.iload 6, 2) := by decide +kernel
theorem dX6_togetherOf_132 : decode cX6_togetherOf 132 = .ok (.iload 5, 2) := by decide +kernel
theorem dX6_togetherOf_134 : decode cX6_togetherOf 134 = .ok (.invokevirtual 154, 3) := by decide +kernel
theorem dX6_togetherOf_137 : decode cX6_togetherOf 137 = .ok (.ifCond .eq 7, 3) := by decide +kernel
theorem dX6_togetherOf_140 : decode cX6_togetherOf 140 = .ok (.iconst 1, 1) := by decide +kernel
theorem dX6_togetherOf_141 : decode cX6_togetherOf 141 = .ok (.goto 4, 3) := by decide +kernel
theorem dX6_togetherOf_144 : decode cX6_togetherOf 144 = .ok (.iconst 0, 1) := by decide +kernel
theorem dX6_togetherOf_145 : decode cX6_togetherOf 145 = .ok (.iadd, 1) := by decide +kernel
theorem dX6_togetherOf_146 : decode cX6_togetherOf 146 = .ok (.istore_n 3, 1) := by decide +kernel
theorem dX6_togetherOf_147 : decode cX6_togetherOf 147 = .ok (.iinc 6 1, 3) := by decide +kernel
theorem dX6_togetherOf_150 : decode cX6_togetherOf 150 = .ok (.goto (-94), 3) := by decide +kernel
theorem dX6_togetherOf_153 : decode cX6_togetherOf 153 = .ok (.iinc 5 1, 3) := by decide +kernel
theorem dX6_togetherOf_156 : decode cX6_togetherOf 156 = .ok (.goto (-138), 3) := by decide +kernel
theorem dX6_togetherOf_159 : decode cX6_togetherOf 159 = .ok (.iinc 4 1, 3) := by decide +kernel
theorem dX6_togetherOf_162 : decode cX6_togetherOf 162 = .ok (.goto (-157), 3) := by decide +kernel
theorem dX6_togetherOf_165 : decode cX6_togetherOf 165 = .ok (.iload_n 3, 1) := by decide +kernel
theorem dX6_togetherOf_166 : decode cX6_togetherOf 166 = .ok (.ireturn, 1) := by decide +kernel
set_option maxRecDepth 20000 in
theorem ggX6_together_X6_noKey : GoodIn wsX6_together wsX6_noKey := goodIn_r _ [8, 9, 10, 11, 7, 12, 26, 27, 28, 29, 30, 31, 32, 33, 34, 35, 36, 37, 38, 39, 40, 41, 42, 43, 44, 45, 46] (by decide +kernel) (by decide +kernel)
set_option maxRecDepth 20000 in
theorem gX6_together_X6_noKey : GoodIn wsX6_together (wsV RX6 79 RX6 yX6_noKey wsX6_noKey) := goodIn_app (goodIn_of _ (by decide +kernel)) ggX6_together_X6_noKey
set_option maxRecDepth 20000 in
theorem ggX6_together_X6_togetherOf : GoodIn wsX6_together wsX6_togetherOf := goodIn_r _ [16, 17, 18, 19, 10, 11, 7, 12, 20, 21, 22, 23, 24, 25, 26, 27, 28, 29, 30, 31, 32, 33, 34, 35, 36, 37, 38, 39, 40, 41, 42, 43, 44, 45, 46] (by decide +kernel) (by decide +kernel)
set_option maxRecDepth 20000 in
theorem gX6_together_X6_togetherOf : GoodIn wsX6_together (wsV RX6 170 RX6 yX6_togetherOf wsX6_togetherOf) := goodIn_app (goodIn_of _ (by decide +kernel)) ggX6_together_X6_togetherOf
theorem dX6_together_0 : decode cX6_together 0 = .ok (.aload_n 0, 1) := by decide +kernel
theorem dX6_together_1 : decode cX6_together 1 = .ok (.iconst 0, 1) := by decide +kernel
theorem dX6_together_2 : decode cX6_together 2 = .ok (.putfield 63, 3) := by decide +kernel
theorem dX6_together_5 : decode cX6_together 5 = .ok (.aload_n 0, 1) := by decide +kernel
theorem dX6_together_6 : decode cX6_together 6 = .ok (.iload_n 1, 1) := by decide +kernel
theorem dX6_together_7 : decode cX6_together 7 = .ok (.invokevirtual 79, 3) := by decide +kernel
theorem dX6_together_10 : decode cX6_together 10 = .ok (.ifCond .ne 11, 3) := by decide +kernel
theorem dX6_together_13 : decode cX6_together 13 = .ok (.aload_n 0, 1) := by decide +kernel
theorem dX6_together_14 : decode cX6_together 14 = .ok (.iload_n 2, 1) := by decide +kernel
theorem dX6_together_15 : decode cX6_together 15 = .ok (.invokevirtual 79, 3) := by decide +kernel
theorem dX6_together_18 : decode cX6_together 18 = .ok (.ifCond .eq 6, 3) := by decide +kernel
theorem dX6_together_21 : decode cX6_together 21 = .ok (.ldc 86, 2) := by decide +kernel
theorem dX6_together_23 : decode cX6_together 23 = .ok (.ireturn, 1) := by decide +kernel
theorem dX6_together_24 : decode cX6_together 24 = .ok (.iload_n 2, 1) := by decide +kernel
theorem dX6_together_25 : decode cX6_together 25 = .ok (.iload_n 1, 1) := by decide +kernel
theorem dX6_together_26 : decode cX6_together 26 = .ok (.if_icmp .ge 8, 3) := by decide +kernel
theorem dX6_together_29 : decode cX6_together 29 = .ok (.ldc 78, 2) := by decide +kernel
theorem dX6_together_31 : decode cX6_together 31 = .ok (.goto 9, 3) := by decide +kernel
theorem dX6_together_34 : decode cX6_together 34 = .ok (.aload_n 0, 1) := by decide +kernel
theorem dX6_together_35 : decode cX6_together 35 = .ok (.iload_n 1, 1) := by decide +kernel
theorem dX6_together_36 : decode cX6_together 36 = .ok (.iload_n 2, 1) := by decide +kernel
theorem dX6_together_37 : decode cX6_together 37 = .ok (.invokevirtual 170, 3) := by decide +kernel
theorem dX6_together_40 : decode cX6_together 40 = .ok (.ireturn, 1) := by decide +kernel
set_option maxRecDepth 20000 in
theorem ggX6_look_X6_togetherOf : GoodIn wsX6_look wsX6_togetherOf := goodIn_r _ [9, 10, 11, 12, 13, 14, 8, 15, 16, 17, 18, 19, 20, 21, 22, 23, 24, 25, 26, 27, 28, 29, 30, 31, 32, 33, 34, 35, 36, 37, 38, 39, 40, 41, 42] (by decide +kernel) (by decide +kernel)
set_option maxRecDepth 20000 in
theorem gX6_look_X6_togetherOf : GoodIn wsX6_look (wsV RX6 170 RX6 yX6_togetherOf wsX6_togetherOf) := goodIn_app (goodIn_of _ (by decide +kernel)) ggX6_look_X6_togetherOf
theorem dX6_look_0 : decode cX6_look 0 = .ok (.iconst 0, 1) := by decide +kernel
theorem dX6_look_1 : decode cX6_look 1 = .ok (.istore_n 3, 1) := by decide +kernel
theorem dX6_look_2 : decode cX6_look 2 = .ok (.iload_n 3, 1) := by decide +kernel
theorem dX6_look_3 : decode cX6_look 3 = .ok (.aload_n 0, 1) := by decide +kernel
theorem dX6_look_4 : decode cX6_look 4 = .ok (.getfield 7, 3) := by decide +kernel
theorem dX6_look_7 : decode cX6_look 7 = .ok (.if_icmp .ge 72, 3) := by decide +kernel
theorem dX6_look_10 : decode cX6_look 10 = .ok (.iload_n 3, 1) := by decide +kernel
theorem dX6_look_11 : decode cX6_look 11 = .ok (.istore 4, 2) := by decide +kernel
theorem dX6_look_13 : decode cX6_look 13 = .ok (.iload 4, 2) := by decide +kernel
theorem dX6_look_15 : decode cX6_look 15 = .ok (.aload_n 0, 1) := by decide +kernel
theorem dX6_look_16 : decode cX6_look 16 = .ok (.getfield 7, 3) := by decide +kernel
theorem dX6_look_19 : decode cX6_look 19 = .ok (.if_icmp .ge 54, 3) := by decide +kernel
theorem dX6_look_22 : decode cX6_look 22 = .ok (.iload 4, 2) := by decide +kernel
theorem dX6_look_24 : decode cX6_look 24 = .ok (.iload_n 3, 1) := by decide +kernel
theorem dX6_look_25 : decode cX6_look 25 = .ok (.iload_n 1, 1) := by decide +kernel
theorem dX6_look_26 : decode cX6_look 26 = .ok (.iadd, 1) := by decide +kernel
theorem dX6_look_27 : decode cX6_look 27 = .ok (.if_icmp .ge 46, 3) := by decide +kernel
theorem dX6_look_30 : decode cX6_look 30 = .ok (.aload_n 0, 1) := by decide +kernel
theorem dX6_look_31 : decode cX6_look 31 = .ok (.iload_n 3, 1) := by decide +kernel
theorem dX6_look_32 : decode cX6_look 32 = .ok (.iload 4, 2) := by decide +kernel
theorem dX6_look_34 : decode cX6_look 34 = .ok (.invokevirtual 170, 3) := by decide +kernel
theorem dX6_look_37 : decode cX6_look 37 = .ok (.istore 5, 2) := by decide +kernel
theorem dX6_look_39 : decode cX6_look 39 = .ok (.aload_n 0, 1) := by decide +kernel
theorem dX6_look_40 : decode cX6_look 40 = .ok (.getfield 53, 3) := by decide +kernel
theorem dX6_look_43 : decode cX6_look 43 = .ok (.bipush 24, 2) := by decide +kernel
theorem dX6_look_45 : decode cX6_look 45 = .ok (.iload_n 3, 1) := by decide +kernel
theorem dX6_look_46 : decode cX6_look 46 = .ok (.imul, 1) := by decide +kernel
theorem dX6_look_47 : decode cX6_look 47 = .ok (.iload 4, 2) := by decide +kernel
theorem dX6_look_49 : decode cX6_look 49 = .ok (.iadd, 1) := by decide +kernel
theorem dX6_look_50 : decode cX6_look 50 = .ok (.iload_n 2, 1) := by decide +kernel
theorem dX6_look_51 : decode cX6_look 51 = .ok (.ifCond .eq 13, 3) := by decide +kernel
theorem dX6_look_54 : decode cX6_look 54 = .ok (.iload 5, 2) := by decide +kernel
theorem dX6_look_56 : decode cX6_look 56 = .ok (.ifCond .le 8, 3) := by decide +kernel
theorem dX6_look_59 : decode cX6_look 59 = .ok (.ldc 174, 2) := by decide +kernel
theorem dX6_look_61 : decode cX6_look 61 = .ok (.goto 5, 3) := by decide +kernel
theorem dX6_look_64 : decode cX6_look 64 = .ok (.iload 5, 2) := by decide +kernel
theorem dX6_look_66 : decode cX6_look 66 = .ok (.iastore, 1) := by decide +kernel
theorem dX6_look_67 : decode cX6_look 67 = .ok (.iinc 4 1, 3) := by decide +kernel
theorem dX6_look_70 : decode cX6_look 70 = .ok (.goto (-57), 3) := by decide +kernel
theorem dX6_look_73 : decode cX6_look 73 = .ok (.iinc 3 1, 3) := by decide +kernel
theorem dX6_look_76 : decode cX6_look 76 = .ok (.goto (-74), 3) := by decide +kernel
theorem dX6_look_79 : decode cX6_look 79 = .ok (.aload_n 0, 1) := by decide +kernel
theorem dX6_look_80 : decode cX6_look 80 = .ok (.getfield 7, 3) := by decide +kernel
theorem dX6_look_83 : decode cX6_look 83 = .ok (.istore_n 3, 1) := by decide +kernel
theorem dX6_look_84 : decode cX6_look 84 = .ok (.iload_n 3, 1) := by decide +kernel
theorem dX6_look_85 : decode cX6_look 85 = .ok (.ifCond .lt 139, 3) := by decide +kernel
theorem dX6_look_88 : decode cX6_look 88 = .ok (.iconst 0, 1) := by decide +kernel
theorem dX6_look_89 : decode cX6_look 89 = .ok (.istore 4, 2) := by decide +kernel
theorem dX6_look_91 : decode cX6_look 91 = .ok (.iload 4, 2) := by decide +kernel
theorem dX6_look_93 : decode cX6_look 93 = .ok (.bipush 24, 2) := by decide +kernel
theorem dX6_look_95 : decode cX6_look 95 = .ok (.if_icmp .gt 123, 3) := by decide +kernel
theorem dX6_look_98 : decode cX6_look 98 = .ok (.iload_n 3, 1) := by decide +kernel
theorem dX6_look_99 : decode cX6_look 99 = .ok (.aload_n 0, 1) := by decide +kernel
theorem dX6_look_100 : decode cX6_look 100 = .ok (.getfield 7, 3) := by decide +kernel
theorem dX6_look_103 : decode cX6_look 103 = .ok (.if_icmp .ne 12, 3) := by decide +kernel
theorem dX6_look_106 : decode cX6_look 106 = .ok (.iload 4, 2) := by decide +kernel
theorem dX6_look_108 : decode cX6_look 108 = .ok (.ifCond .ne 7, 3) := by decide +kernel
theorem dX6_look_111 : decode cX6_look 111 = .ok (.iconst 0, 1) := by decide +kernel
theorem dX6_look_112 : decode cX6_look 112 = .ok (.goto 5, 3) := by decide +kernel
theorem dX6_look_115 : decode cX6_look 115 = .ok (.ldc 174, 2) := by decide +kernel
theorem dX6_look_117 : decode cX6_look 117 = .ok (.istore 5, 2) := by decide +kernel
theorem dX6_look_119 : decode cX6_look 119 = .ok (.iload_n 3, 1) := by decide +kernel
theorem dX6_look_120 : decode cX6_look 120 = .ok (.istore 6, 2) := by decide +kernel
theorem dX6_look_122 : decode cX6_look 122 = .ok (.iload 6, 2) := by decide +kernel
theorem dX6_look_124 : decode cX6_look 124 = .ok (.aload_n 0, 1) := by decide +kernel
theorem dX6_look_125 : decode cX6_look 125 = .ok (.getfield 7, 3) := by decide +kernel
theorem dX6_look_128 : decode cX6_look 128 = .ok (.if_icmp .ge 70, 3) := by decide +kernel
theorem dX6_look_131 : decode cX6_look 131 = .ok (.iload 6, 2) := by decide +kernel
theorem dX6_look_133 : decode cX6_look 133 = .ok (.iload_n 3, 1) := by decide +kernel
theorem dX6_look_134 : decode cX6_look 134 = .ok (.iload_n 1, 1) := by decide +kernel
theorem dX6_look_135 : decode cX6_look 135 = .ok (.iadd, 1) := by decide +kernel
theorem dX6_look_136 : decode cX6_look 136 = .ok (.if_icmp .ge 62, 3) := by decide +kernel
theorem dX6_look_139 : decode cX6_look 139 = .ok (.iload 4, 2) := by decide +kernel
theorem dX6_look_141 : decode cX6_look 141 = .ok (.ifCond .le 57, 3) := by decide +kernel
theorem dX6_look_144 : decode cX6_look 144 = .ok (.aload_n 0, 1) := by decide +kernel
theorem dX6_look_145 : decode cX6_look 145 = .ok (.getfield 53, 3) := by decide +kernel
theorem dX6_look_148 : decode cX6_look 148 = .ok (.bipush 24, 2) := by decide +kernel
theorem dX6_look_150 : decode cX6_look 150 = .ok (.iload_n 3, 1) := by decide +kernel
theorem dX6_look_151 : decode cX6_look 151 = .ok (.imul, 1) := by decide +kernel
theorem dX6_look_152 : decode cX6_look 152 = .ok (.iload 6, 2) := by decide +kernel
theorem dX6_look_154 : decode cX6_look 154 = .ok (.iadd, 1) := by decide +kernel
theorem dX6_look_155 : decode cX6_look 155 = .ok (.iaload, 1) := by decide +kernel
theorem dX6_look_156 : decode cX6_look 156 = .ok (.aload_n 0, 1) := by decide +kernel
theorem dX6_look_157 : decode cX6_look 157 = .ok (.getfield 56, 3) := by decide +kernel
theorem dX6_look_160 : decode cX6_look 160 = .ok (.bipush 25, 2) := by decide +kernel
theorem dX6_look_162 : decode cX6_look 162 = .ok (.iload 6, 2) := by decide +kernel
theorem dX6_look_164 : decode cX6_look 164 = .ok (.iconst 1, 1) := by decide +kernel
theorem dX6_look_165 : decode cX6_look 165 = .ok (.iadd, 1) := by decide +kernel
theorem dX6_look_166 : decode cX6_look 166 = .ok (.imul, 1) := by decide +kernel
theorem dX6_look_167 : decode cX6_look 167 = .ok (.iload 4, 2) := by decide +kernel
theorem dX6_look_169 : decode cX6_look 169 = .ok (.iadd, 1) := by decide +kernel
theorem dX6_look_170 : decode cX6_look 170 = .ok (.iconst 1, 1) := by decide +kernel
theorem dX6_look_171 : decode cX6_look 171 = .ok (.isub, 1) := by decide +kernel
theorem dX6_look_172 : decode cX6_look 172 = .ok (.iaload, 1) := by decide +kernel
theorem dX6_look_173 : decode cX6_look 173 = .ok (.iadd, 1) := by decide +kernel
theorem dX6_look_174 : decode cX6_look 174 = .ok (.istore 7, 2) := by decide +kernel
theorem dX6_look_176 : decode cX6_look 176 = .ok (.iload 7, 2) := by decide +kernel
theorem dX6_look_178 : decode cX6_look 178 = .ok (.iload 5, 2) := by decide +kernel
theorem dX6_look_180 : decode cX6_look 180 = .ok (.if_icmp .ge 8, 3) := by decide +kernel
theorem dX6_look_183 : decode cX6_look 183 = .ok (.iload 7, 2) := by decide +kernel
theorem dX6_look_185 : decode cX6_look 185 = .ok (.goto 5, 3) := by decide +kernel
theorem dX6_look_188 : decode cX6_look 188 = .ok (.iload 5, 2) := by decide +kernel
theorem dX6_look_190 : decode cX6_look 190 = .ok (.istore 5, 2) := by decide +kernel
theorem dX6_look_192 : decode cX6_look 192 = .ok (.iinc 6 1, 3) := by decide +kernel
theorem dX6_look_195 : decode cX6_look 195 = .ok (.goto (-73), 3) := by decide +kernel
theorem dX6_look_198 : decode cX6_look 198 = .ok (.aload_n 0, 1) := by decide +kernel
theorem dX6_look_199 : decode cX6_look 199 = .ok (.getfield 56, 3) := by decide +kernel
theorem dX6_look_202 : decode cX6_look 202 = .ok (.bipush 25, 2) := by decide +kernel
theorem dX6_look_204 : decode cX6_look 204 = .ok (.iload_n 3, 1) := by decide +kernel
theorem dX6_look_205 : decode cX6_look 205 = .ok (.imul, 1) := by decide +kernel
theorem dX6_look_206 : decode cX6_look 206 = .ok (.iload 4, 2) := by decide +kernel
theorem dX6_look_208 : decode cX6_look 208 = .ok (.iadd, 1) := by decide +kernel
theorem dX6_look_209 : decode cX6_look 209 = .ok (.iload 5, 2) := by decide +kernel
theorem dX6_look_211 : decode cX6_look 211 = .ok (.iastore, 1) := by decide +kernel
theorem dX6_look_212 : decode cX6_look 212 = .ok (.iinc 4 1, 3) := by decide +kernel
theorem dX6_look_215 : decode cX6_look 215 = .ok (.goto (-124), 3) := by decide +kernel
theorem dX6_look_218 : decode cX6_look 218 = .ok (.iinc 3 (-1), 3) := by decide +kernel
theorem dX6_look_221 : decode cX6_look 221 = .ok (.goto (-137), 3) := by decide +kernel
theorem dX6_look_224 : decode cX6_look 224 = .ok (.return_, 1) := by decide +kernel
set_option maxRecDepth 20000 in
theorem ggX6_shareBest_X6_look : GoodIn wsX6_shareBest wsX6_look := goodIn_r _ [12, 5, 6, 3, 2, 13, 14, 15, 11, 16, 17, 18, 19, 20, 21, 22, 23, 24, 25, 26, 27, 28, 29, 30, 31, 32, 33, 34, 35, 36, 37, 38, 39, 40, 41, 42, 43, 44, 45, 46, 47, 48, 49] (by decide +kernel) (by decide +kernel)
set_option maxRecDepth 20000 in
theorem gX6_shareBest_X6_look : GoodIn wsX6_shareBest (wsV RX6 175 RX6 yX6_look wsX6_look) := goodIn_app (goodIn_of _ (by decide +kernel)) ggX6_shareBest_X6_look
theorem dX6_shareBest_0 : decode cX6_shareBest 0 = .ok (.iload_n 2, 1) := by decide +kernel
theorem dX6_shareBest_1 : decode cX6_shareBest 1 = .ok (.ifCond .ne 7, 3) := by decide +kernel
theorem dX6_shareBest_4 : decode cX6_shareBest 4 = .ok (.iconst 1, 1) := by decide +kernel
theorem dX6_shareBest_5 : decode cX6_shareBest 5 = .ok (.goto 4, 3) := by decide +kernel
theorem dX6_shareBest_8 : decode cX6_shareBest 8 = .ok (.iconst 0, 1) := by decide +kernel
theorem dX6_shareBest_9 : decode cX6_shareBest 9 = .ok (.istore_n 3, 1) := by decide +kernel
theorem dX6_shareBest_10 : decode cX6_shareBest 10 = .ok (.aload_n 0, 1) := by decide +kernel
theorem dX6_shareBest_11 : decode cX6_shareBest 11 = .ok (.iload_n 1, 1) := by decide +kernel
theorem dX6_shareBest_12 : decode cX6_shareBest 12 = .ok (.iload_n 3, 1) := by decide +kernel
theorem dX6_shareBest_13 : decode cX6_shareBest 13 = .ok (.invokevirtual 175, 3) := by decide +kernel
theorem dX6_shareBest_16 : decode cX6_shareBest 16 = .ok (.ldc 62, 2) := by decide +kernel
theorem dX6_shareBest_18 : decode cX6_shareBest 18 = .ok (.istore 4, 2) := by decide +kernel
theorem dX6_shareBest_20 : decode cX6_shareBest 20 = .ok (.iconst 1, 1) := by decide +kernel
theorem dX6_shareBest_21 : decode cX6_shareBest 21 = .ok (.istore 5, 2) := by decide +kernel
theorem dX6_shareBest_23 : decode cX6_shareBest 23 = .ok (.iload 5, 2) := by decide +kernel
theorem dX6_shareBest_25 : decode cX6_shareBest 25 = .ok (.iload_n 3, 1) := by decide +kernel
theorem dX6_shareBest_26 : decode cX6_shareBest 26 = .ok (.ifCond .eq 8, 3) := by decide +kernel
theorem dX6_shareBest_29 : decode cX6_shareBest 29 = .ok (.bipush 24, 2) := by decide +kernel
theorem dX6_shareBest_31 : decode cX6_shareBest 31 = .ok (.goto 4, 3) := by decide +kernel
theorem dX6_shareBest_34 : decode cX6_shareBest 34 = .ok (.iload_n 2, 1) := by decide +kernel
theorem dX6_shareBest_35 : decode cX6_shareBest 35 = .ok (.if_icmp .gt 54, 3) := by decide +kernel
theorem dX6_shareBest_38 : decode cX6_shareBest 38 = .ok (.aload_n 0, 1) := by decide +kernel
theorem dX6_shareBest_39 : decode cX6_shareBest 39 = .ok (.getfield 56, 3) := by decide +kernel
theorem dX6_shareBest_42 : decode cX6_shareBest 42 = .ok (.iload 5, 2) := by decide +kernel
theorem dX6_shareBest_44 : decode cX6_shareBest 44 = .ok (.iaload, 1) := by decide +kernel
theorem dX6_shareBest_45 : decode cX6_shareBest 45 = .ok (.ldc 174, 2) := by decide +kernel
theorem dX6_shareBest_47 : decode cX6_shareBest 47 = .ok (.if_icmp .ge 32, 3) := by decide +kernel
theorem dX6_shareBest_50 : decode cX6_shareBest 50 = .ok (.iload 4, 2) := by decide +kernel
theorem dX6_shareBest_52 : decode cX6_shareBest 52 = .ok (.ldc 62, 2) := by decide +kernel
theorem dX6_shareBest_54 : decode cX6_shareBest 54 = .ok (.if_icmp .eq 20, 3) := by decide +kernel
theorem dX6_shareBest_57 : decode cX6_shareBest 57 = .ok (.aload_n 0, 1) := by decide +kernel
theorem dX6_shareBest_58 : decode cX6_shareBest 58 = .ok (.getfield 56, 3) := by decide +kernel
theorem dX6_shareBest_61 : decode cX6_shareBest 61 = .ok (.iload 5, 2) := by decide +kernel
theorem dX6_shareBest_63 : decode cX6_shareBest 63 = .ok (.iaload, 1) := by decide +kernel
theorem dX6_shareBest_64 : decode cX6_shareBest 64 = .ok (.aload_n 0, 1) := by decide +kernel
theorem dX6_shareBest_65 : decode cX6_shareBest 65 = .ok (.getfield 56, 3) := by decide +kernel
theorem dX6_shareBest_68 : decode cX6_shareBest 68 = .ok (.iload 4, 2) := by decide +kernel
theorem dX6_shareBest_70 : decode cX6_shareBest 70 = .ok (.iaload, 1) := by decide +kernel
theorem dX6_shareBest_71 : decode cX6_shareBest 71 = .ok (.if_icmp .ge 8, 3) := by decide +kernel
theorem dX6_shareBest_74 : decode cX6_shareBest 74 = .ok (.iload 5, 2) := by decide +kernel
theorem dX6_shareBest_76 : decode cX6_shareBest 76 = .ok (.goto 5, 3) := by decide +kernel
theorem dX6_shareBest_79 : decode cX6_shareBest 79 = .ok (.iload 4, 2) := by decide +kernel
theorem dX6_shareBest_81 : decode cX6_shareBest 81 = .ok (.istore 4, 2) := by decide +kernel
theorem dX6_shareBest_83 : decode cX6_shareBest 83 = .ok (.iinc 5 1, 3) := by decide +kernel
theorem dX6_shareBest_86 : decode cX6_shareBest 86 = .ok (.goto (-63), 3) := by decide +kernel
theorem dX6_shareBest_89 : decode cX6_shareBest 89 = .ok (.iload 4, 2) := by decide +kernel
theorem dX6_shareBest_91 : decode cX6_shareBest 91 = .ok (.ldc 62, 2) := by decide +kernel
theorem dX6_shareBest_93 : decode cX6_shareBest 93 = .ok (.if_icmp .ne 6, 3) := by decide +kernel
theorem dX6_shareBest_96 : decode cX6_shareBest 96 = .ok (.ldc 62, 2) := by decide +kernel
theorem dX6_shareBest_98 : decode cX6_shareBest 98 = .ok (.ireturn, 1) := by decide +kernel
theorem dX6_shareBest_99 : decode cX6_shareBest 99 = .ok (.aload_n 0, 1) := by decide +kernel
theorem dX6_shareBest_100 : decode cX6_shareBest 100 = .ok (.aload_n 0, 1) := by decide +kernel
theorem dX6_shareBest_101 : decode cX6_shareBest 101 = .ok (.getfield 56, 3) := by decide +kernel
theorem dX6_shareBest_104 : decode cX6_shareBest 104 = .ok (.iload 4, 2) := by decide +kernel
theorem dX6_shareBest_106 : decode cX6_shareBest 106 = .ok (.iaload, 1) := by decide +kernel
theorem dX6_shareBest_107 : decode cX6_shareBest 107 = .ok (.putfield 179, 3) := by decide +kernel
theorem dX6_shareBest_110 : decode cX6_shareBest 110 = .ok (.iconst 0, 1) := by decide +kernel
theorem dX6_shareBest_111 : decode cX6_shareBest 111 = .ok (.istore 5, 2) := by decide +kernel
theorem dX6_shareBest_113 : decode cX6_shareBest 113 = .ok (.iconst 0, 1) := by decide +kernel
theorem dX6_shareBest_114 : decode cX6_shareBest 114 = .ok (.istore 6, 2) := by decide +kernel
theorem dX6_shareBest_116 : decode cX6_shareBest 116 = .ok (.iload 6, 2) := by decide +kernel
theorem dX6_shareBest_118 : decode cX6_shareBest 118 = .ok (.iload 4, 2) := by decide +kernel
theorem dX6_shareBest_120 : decode cX6_shareBest 120 = .ok (.if_icmp .ge 135, 3) := by decide +kernel
theorem dX6_shareBest_123 : decode cX6_shareBest 123 = .ok (.iload 5, 2) := by decide +kernel
theorem dX6_shareBest_125 : decode cX6_shareBest 125 = .ok (.istore 7, 2) := by decide +kernel
theorem dX6_shareBest_127 : decode cX6_shareBest 127 = .ok (.iload 5, 2) := by decide +kernel
theorem dX6_shareBest_129 : decode cX6_shareBest 129 = .ok (.istore 8, 2) := by decide +kernel
theorem dX6_shareBest_131 : decode cX6_shareBest 131 = .ok (.iload 8, 2) := by decide +kernel
theorem dX6_shareBest_133 : decode cX6_shareBest 133 = .ok (.aload_n 0, 1) := by decide +kernel
theorem dX6_shareBest_134 : decode cX6_shareBest 134 = .ok (.getfield 7, 3) := by decide +kernel
theorem dX6_shareBest_137 : decode cX6_shareBest 137 = .ok (.if_icmp .ge 80, 3) := by decide +kernel
theorem dX6_shareBest_140 : decode cX6_shareBest 140 = .ok (.iload 8, 2) := by decide +kernel
theorem dX6_shareBest_142 : decode cX6_shareBest 142 = .ok (.iload 5, 2) := by decide +kernel
theorem dX6_shareBest_144 : decode cX6_shareBest 144 = .ok (.iload_n 1, 1) := by decide +kernel
theorem dX6_shareBest_145 : decode cX6_shareBest 145 = .ok (.iadd, 1) := by decide +kernel
theorem dX6_shareBest_146 : decode cX6_shareBest 146 = .ok (.if_icmp .ge 71, 3) := by decide +kernel
theorem dX6_shareBest_149 : decode cX6_shareBest 149 = .ok (.aload_n 0, 1) := by decide +kernel
theorem dX6_shareBest_150 : decode cX6_shareBest 150 = .ok (.getfield 53, 3) := by decide +kernel
theorem dX6_shareBest_153 : decode cX6_shareBest 153 = .ok (.bipush 24, 2) := by decide +kernel
theorem dX6_shareBest_155 : decode cX6_shareBest 155 = .ok (.iload 5, 2) := by decide +kernel
theorem dX6_shareBest_157 : decode cX6_shareBest 157 = .ok (.imul, 1) := by decide +kernel
theorem dX6_shareBest_158 : decode cX6_shareBest 158 = .ok (.iload 8, 2) := by decide +kernel
theorem dX6_shareBest_160 : decode cX6_shareBest 160 = .ok (.iadd, 1) := by decide +kernel
theorem dX6_shareBest_161 : decode cX6_shareBest 161 = .ok (.iaload, 1) := by decide +kernel
theorem dX6_shareBest_162 : decode cX6_shareBest 162 = .ok (.aload_n 0, 1) := by decide +kernel
theorem dX6_shareBest_163 : decode cX6_shareBest 163 = .ok (.getfield 56, 3) := by decide +kernel
theorem dX6_shareBest_166 : decode cX6_shareBest 166 = .ok (.bipush 25, 2) := by decide +kernel
theorem dX6_shareBest_168 : decode cX6_shareBest 168 = .ok (.iload 8, 2) := by decide +kernel
theorem dX6_shareBest_170 : decode cX6_shareBest 170 = .ok (.iconst 1, 1) := by decide +kernel
theorem dX6_shareBest_171 : decode cX6_shareBest 171 = .ok (.iadd, 1) := by decide +kernel
theorem dX6_shareBest_172 : decode cX6_shareBest 172 = .ok (.imul, 1) := by decide +kernel
theorem dX6_shareBest_173 : decode cX6_shareBest 173 = .ok (.iload 4, 2) := by decide +kernel
theorem dX6_shareBest_175 : decode cX6_shareBest 175 = .ok (.iadd, 1) := by decide +kernel
theorem dX6_shareBest_176 : decode cX6_shareBest 176 = .ok (.iload 6, 2) := by decide +kernel
theorem dX6_shareBest_178 : decode cX6_shareBest 178 = .ok (.isub, 1) := by decide +kernel
theorem dX6_shareBest_179 : decode cX6_shareBest 179 = .ok (.iconst 1, 1) := by decide +kernel
theorem dX6_shareBest_180 : decode cX6_shareBest 180 = .ok (.isub, 1) := by decide +kernel
theorem dX6_shareBest_181 : decode cX6_shareBest 181 = .ok (.iaload, 1) := by decide +kernel
theorem dX6_shareBest_182 : decode cX6_shareBest 182 = .ok (.iadd, 1) := by decide +kernel
theorem dX6_shareBest_183 : decode cX6_shareBest 183 = .ok (.aload_n 0, 1) := by decide +kernel
theorem dX6_shareBest_184 : decode cX6_shareBest 184 = .ok (.getfield 56, 3) := by decide +kernel
theorem dX6_shareBest_187 : decode cX6_shareBest 187 = .ok (.bipush 25, 2) := by decide +kernel
theorem dX6_shareBest_189 : decode cX6_shareBest 189 = .ok (.iload 5, 2) := by decide +kernel
theorem dX6_shareBest_191 : decode cX6_shareBest 191 = .ok (.imul, 1) := by decide +kernel
theorem dX6_shareBest_192 : decode cX6_shareBest 192 = .ok (.iload 4, 2) := by decide +kernel
theorem dX6_shareBest_194 : decode cX6_shareBest 194 = .ok (.iadd, 1) := by decide +kernel
theorem dX6_shareBest_195 : decode cX6_shareBest 195 = .ok (.iload 6, 2) := by decide +kernel
theorem dX6_shareBest_197 : decode cX6_shareBest 197 = .ok (.isub, 1) := by decide +kernel
theorem dX6_shareBest_198 : decode cX6_shareBest 198 = .ok (.iaload, 1) := by decide +kernel
theorem dX6_shareBest_199 : decode cX6_shareBest 199 = .ok (.if_icmp .ne 8, 3) := by decide +kernel
theorem dX6_shareBest_202 : decode cX6_shareBest 202 = .ok (.iload 8, 2) := by decide +kernel
theorem dX6_shareBest_204 : decode cX6_shareBest 204 = .ok (.goto 5, 3) := by decide +kernel
theorem dX6_shareBest_207 : decode cX6_shareBest 207 = .ok (.iload 7, 2) := by decide +kernel
theorem dX6_shareBest_209 : decode cX6_shareBest 209 = .ok (.istore 7, 2) := by decide +kernel
theorem dX6_shareBest_211 : decode cX6_shareBest 211 = .ok (.iinc 8 1, 3) := by decide +kernel
theorem dX6_shareBest_214 : decode cX6_shareBest 214 = .ok (.goto (-83), 3) := by decide +kernel
theorem dX6_shareBest_217 : decode cX6_shareBest 217 = .ok (.iload 5, 2) := by decide +kernel
theorem dX6_shareBest_219 : decode cX6_shareBest 219 = .ok (.istore 8, 2) := by decide +kernel
theorem dX6_shareBest_221 : decode cX6_shareBest 221 = .ok (.iload 8, 2) := by decide +kernel
theorem dX6_shareBest_223 : decode cX6_shareBest 223 = .ok (.iload 7, 2) := by decide +kernel
theorem dX6_shareBest_225 : decode cX6_shareBest 225 = .ok (.if_icmp .gt 18, 3) := by decide +kernel
theorem dX6_shareBest_228 : decode cX6_shareBest 228 = .ok (.aload_n 0, 1) := by decide +kernel
theorem dX6_shareBest_229 : decode cX6_shareBest 229 = .ok (.getfield 59, 3) := by decide +kernel
theorem dX6_shareBest_232 : decode cX6_shareBest 232 = .ok (.iload 8, 2) := by decide +kernel
theorem dX6_shareBest_234 : decode cX6_shareBest 234 = .ok (.iload 6, 2) := by decide +kernel
theorem dX6_shareBest_236 : decode cX6_shareBest 236 = .ok (.iastore, 1) := by decide +kernel
theorem dX6_shareBest_237 : decode cX6_shareBest 237 = .ok (.iinc 8 1, 3) := by decide +kernel
theorem dX6_shareBest_240 : decode cX6_shareBest 240 = .ok (.goto (-19), 3) := by decide +kernel
theorem dX6_shareBest_243 : decode cX6_shareBest 243 = .ok (.iload 7, 2) := by decide +kernel
theorem dX6_shareBest_245 : decode cX6_shareBest 245 = .ok (.iconst 1, 1) := by decide +kernel
theorem dX6_shareBest_246 : decode cX6_shareBest 246 = .ok (.iadd, 1) := by decide +kernel
theorem dX6_shareBest_247 : decode cX6_shareBest 247 = .ok (.istore 5, 2) := by decide +kernel
theorem dX6_shareBest_249 : decode cX6_shareBest 249 = .ok (.iinc 6 1, 3) := by decide +kernel
theorem dX6_shareBest_252 : decode cX6_shareBest 252 = .ok (.goto (-136), 3) := by decide +kernel
theorem dX6_shareBest_255 : decode cX6_shareBest 255 = .ok (.iload 4, 2) := by decide +kernel
theorem dX6_shareBest_257 : decode cX6_shareBest 257 = .ok (.ireturn, 1) := by decide +kernel
set_option maxRecDepth 20000 in
theorem ggX6_badSharing_X6_in : GoodIn wsX6_badSharing wsX6_in := goodIn_r _ [6] (by decide +kernel) (by decide +kernel)
set_option maxRecDepth 20000 in
theorem gX6_badSharing_X6_in : GoodIn wsX6_badSharing (va_wsS RX6 66 yX6_in wsX6_in) := goodIn_app (goodIn_of _ (by decide +kernel)) ggX6_badSharing_X6_in
theorem dX6_badSharing_0 : decode cX6_badSharing 0 = .ok (.iload_n 0, 1) := by decide +kernel
theorem dX6_badSharing_1 : decode cX6_badSharing 1 = .ok (.i2l, 1) := by decide +kernel
theorem dX6_badSharing_2 : decode cX6_badSharing 2 = .ok (.lconst 1, 1) := by decide +kernel
theorem dX6_badSharing_3 : decode cX6_badSharing 3 = .ok (.ldc2_w 182, 3) := by decide +kernel
theorem dX6_badSharing_6 : decode cX6_badSharing 6 = .ok (.invokestatic 66, 3) := by decide +kernel
theorem dX6_badSharing_9 : decode cX6_badSharing 9 = .ok (.ifCond .eq 15, 3) := by decide +kernel
theorem dX6_badSharing_12 : decode cX6_badSharing 12 = .ok (.iload_n 1, 1) := by decide +kernel
theorem dX6_badSharing_13 : decode cX6_badSharing 13 = .ok (.i2l, 1) := by decide +kernel
theorem dX6_badSharing_14 : decode cX6_badSharing 14 = .ok (.lconst 0, 1) := by decide +kernel
theorem dX6_badSharing_15 : decode cX6_badSharing 15 = .ok (.ldc2_w 76, 3) := by decide +kernel
theorem dX6_badSharing_18 : decode cX6_badSharing 18 = .ok (.invokestatic 66, 3) := by decide +kernel
theorem dX6_badSharing_21 : decode cX6_badSharing 21 = .ok (.ifCond .ne 7, 3) := by decide +kernel
theorem dX6_badSharing_24 : decode cX6_badSharing 24 = .ok (.iconst 1, 1) := by decide +kernel
theorem dX6_badSharing_25 : decode cX6_badSharing 25 = .ok (.goto 4, 3) := by decide +kernel
theorem dX6_badSharing_28 : decode cX6_badSharing 28 = .ok (.iconst 0, 1) := by decide +kernel
theorem dX6_badSharing_29 : decode cX6_badSharing 29 = .ok (.ireturn, 1) := by decide +kernel
set_option maxRecDepth 20000 in
theorem ggX6_fewest_X6_in : GoodIn wsX6_fewest wsX6_in := goodIn_r _ [7] (by decide +kernel) (by decide +kernel)
set_option maxRecDepth 20000 in
theorem gX6_fewest_X6_in : GoodIn wsX6_fewest (va_wsS RX6 66 yX6_in wsX6_in) := goodIn_app (goodIn_of _ (by decide +kernel)) ggX6_fewest_X6_in
set_option maxRecDepth 20000 in
theorem ggX6_fewest_X6_shareBest : GoodIn wsX6_fewest wsX6_shareBest := goodIn_r _ [11, 12, 13, 14, 15, 16, 17, 18, 19, 20, 21, 6, 22, 23, 24, 25, 26, 27, 28, 29, 4, 5, 7, 30, 31, 32, 33, 34, 35, 36, 37, 38, 39, 40, 41, 42, 43, 44, 45, 46, 47, 48, 49, 50, 51, 52, 53, 54, 55, 56] (by decide +kernel) (by decide +kernel)
set_option maxRecDepth 20000 in
theorem gX6_fewest_X6_shareBest : GoodIn wsX6_fewest (wsV RX6 184 RX6 yX6_shareBest wsX6_shareBest) := goodIn_app (goodIn_of _ (by decide +kernel)) ggX6_fewest_X6_shareBest
theorem dX6_fewest_0 : decode cX6_fewest 0 = .ok (.aload_n 0, 1) := by decide +kernel
theorem dX6_fewest_1 : decode cX6_fewest 1 = .ok (.iconst 0, 1) := by decide +kernel
theorem dX6_fewest_2 : decode cX6_fewest 2 = .ok (.putfield 63, 3) := by decide +kernel
theorem dX6_fewest_5 : decode cX6_fewest 5 = .ok (.iload_n 1, 1) := by decide +kernel
theorem dX6_fewest_6 : decode cX6_fewest 6 = .ok (.i2l, 1) := by decide +kernel
theorem dX6_fewest_7 : decode cX6_fewest 7 = .ok (.lconst 1, 1) := by decide +kernel
theorem dX6_fewest_8 : decode cX6_fewest 8 = .ok (.ldc2_w 182, 3) := by decide +kernel
theorem dX6_fewest_11 : decode cX6_fewest 11 = .ok (.invokestatic 66, 3) := by decide +kernel
theorem dX6_fewest_14 : decode cX6_fewest 14 = .ok (.ifCond .eq 12, 3) := by decide +kernel
theorem dX6_fewest_17 : decode cX6_fewest 17 = .ok (.aload_n 0, 1) := by decide +kernel
theorem dX6_fewest_18 : decode cX6_fewest 18 = .ok (.iload_n 1, 1) := by decide +kernel
theorem dX6_fewest_19 : decode cX6_fewest 19 = .ok (.iconst 0, 1) := by decide +kernel
theorem dX6_fewest_20 : decode cX6_fewest 20 = .ok (.invokevirtual 184, 3) := by decide +kernel
theorem dX6_fewest_23 : decode cX6_fewest 23 = .ok (.goto 5, 3) := by decide +kernel
theorem dX6_fewest_26 : decode cX6_fewest 26 = .ok (.ldc 78, 2) := by decide +kernel
theorem dX6_fewest_28 : decode cX6_fewest 28 = .ok (.ireturn, 1) := by decide +kernel
set_option maxRecDepth 20000 in
theorem ggX6_least_X6_badSharing : GoodIn wsX6_least wsX6_badSharing := goodIn_r _ [8, 9, 10, 11, 12, 7, 13] (by decide +kernel) (by decide +kernel)
set_option maxRecDepth 20000 in
theorem gX6_least_X6_badSharing : GoodIn wsX6_least (va_wsS RX6 187 yX6_badSharing wsX6_badSharing) := goodIn_app (goodIn_of _ (by decide +kernel)) ggX6_least_X6_badSharing
set_option maxRecDepth 20000 in
theorem ggX6_least_X6_shareBest : GoodIn wsX6_least wsX6_shareBest := goodIn_r _ [17, 3, 18, 19, 4, 20, 21, 22, 23, 24, 25, 7, 26, 27, 28, 29, 30, 31, 32, 33, 11, 12, 13, 34, 35, 36, 37, 38, 39, 40, 41, 42, 43, 44, 45, 46, 47, 48, 49, 50, 51, 52, 53, 54, 55, 56, 57, 58, 59, 60] (by decide +kernel) (by decide +kernel)
set_option maxRecDepth 20000 in
theorem gX6_least_X6_shareBest : GoodIn wsX6_least (wsV RX6 184 RX6 yX6_shareBest wsX6_shareBest) := goodIn_app (goodIn_of _ (by decide +kernel)) ggX6_least_X6_shareBest
theorem dX6_least_0 : decode cX6_least 0 = .ok (.aload_n 0, 1) := by decide +kernel
theorem dX6_least_1 : decode cX6_least 1 = .ok (.iconst 0, 1) := by decide +kernel
theorem dX6_least_2 : decode cX6_least 2 = .ok (.putfield 63, 3) := by decide +kernel
theorem dX6_least_5 : decode cX6_least 5 = .ok (.iload_n 1, 1) := by decide +kernel
theorem dX6_least_6 : decode cX6_least 6 = .ok (.iload_n 2, 1) := by decide +kernel
theorem dX6_least_7 : decode cX6_least 7 = .ok (.invokestatic 187, 3) := by decide +kernel
theorem dX6_least_10 : decode cX6_least 10 = .ok (.ifCond .ne 7, 3) := by decide +kernel
theorem dX6_least_13 : decode cX6_least 13 = .ok (.iload_n 2, 1) := by decide +kernel
theorem dX6_least_14 : decode cX6_least 14 = .ok (.ifCond .ne 6, 3) := by decide +kernel
theorem dX6_least_17 : decode cX6_least 17 = .ok (.ldc 78, 2) := by decide +kernel
theorem dX6_least_19 : decode cX6_least 19 = .ok (.ireturn, 1) := by decide +kernel
theorem dX6_least_20 : decode cX6_least 20 = .ok (.aload_n 0, 1) := by decide +kernel
theorem dX6_least_21 : decode cX6_least 21 = .ok (.iload_n 1, 1) := by decide +kernel
theorem dX6_least_22 : decode cX6_least 22 = .ok (.iload_n 2, 1) := by decide +kernel
theorem dX6_least_23 : decode cX6_least 23 = .ok (.invokevirtual 184, 3) := by decide +kernel
theorem dX6_least_26 : decode cX6_least 26 = .ok (.ldc 62, 2) := by decide +kernel
theorem dX6_least_28 : decode cX6_least 28 = .ok (.if_icmp .ne 8, 3) := by decide +kernel
theorem dX6_least_31 : decode cX6_least 31 = .ok (.ldc 62, 2) := by decide +kernel
theorem dX6_least_33 : decode cX6_least 33 = .ok (.goto 7, 3) := by decide +kernel
theorem dX6_least_36 : decode cX6_least 36 = .ok (.aload_n 0, 1) := by decide +kernel
theorem dX6_least_37 : decode cX6_least 37 = .ok (.getfield 179, 3) := by decide +kernel
theorem dX6_least_40 : decode cX6_least 40 = .ok (.ireturn, 1) := by decide +kernel
set_option maxRecDepth 20000 in
theorem ggX6_group_X6_noKey : GoodIn wsX6_group wsX6_noKey := goodIn_r _ [10, 11, 12, 13, 9, 14, 45, 46, 47, 48, 49, 50, 51, 52, 53, 54, 55, 56, 57, 58, 59, 60, 61, 62, 63, 64, 65] (by decide +kernel) (by decide +kernel)
set_option maxRecDepth 20000 in
theorem gX6_group_X6_noKey : GoodIn wsX6_group (wsV RX6 79 RX6 yX6_noKey wsX6_noKey) := goodIn_app (goodIn_of _ (by decide +kernel)) ggX6_group_X6_noKey
set_option maxRecDepth 20000 in
theorem ggX6_group_X6_badSharing : GoodIn wsX6_group wsX6_badSharing := goodIn_r _ [17, 18, 19, 12, 13, 9, 14] (by decide +kernel) (by decide +kernel)
set_option maxRecDepth 20000 in
theorem gX6_group_X6_badSharing : GoodIn wsX6_group (va_wsS RX6 187 yX6_badSharing wsX6_badSharing) := goodIn_app (goodIn_of _ (by decide +kernel)) ggX6_group_X6_badSharing
set_option maxRecDepth 20000 in
theorem ggX6_group_X6_shareBest : GoodIn wsX6_group wsX6_shareBest := goodIn_r _ [23, 4, 24, 25, 26, 11, 27, 5, 28, 29, 30, 9, 31, 32, 33, 34, 35, 36, 37, 38, 12, 13, 14, 39, 40, 41, 42, 43, 44, 45, 46, 47, 48, 49, 50, 51, 52, 53, 54, 55, 56, 57, 58, 59, 60, 61, 62, 63, 64, 65] (by decide +kernel) (by decide +kernel)
set_option maxRecDepth 20000 in
theorem gX6_group_X6_shareBest : GoodIn wsX6_group (wsV RX6 184 RX6 yX6_shareBest wsX6_shareBest) := goodIn_app (goodIn_of _ (by decide +kernel)) ggX6_group_X6_shareBest
theorem dX6_group_0 : decode cX6_group 0 = .ok (.aload_n 0, 1) := by decide +kernel
theorem dX6_group_1 : decode cX6_group 1 = .ok (.iconst 0, 1) := by decide +kernel
theorem dX6_group_2 : decode cX6_group 2 = .ok (.putfield 63, 3) := by decide +kernel
theorem dX6_group_5 : decode cX6_group 5 = .ok (.aload_n 0, 1) := by decide +kernel
theorem dX6_group_6 : decode cX6_group 6 = .ok (.iload_n 3, 1) := by decide +kernel
theorem dX6_group_7 : decode cX6_group 7 = .ok (.invokevirtual 79, 3) := by decide +kernel
theorem dX6_group_10 : decode cX6_group 10 = .ok (.ifCond .eq 6, 3) := by decide +kernel
theorem dX6_group_13 : decode cX6_group 13 = .ok (.ldc 86, 2) := by decide +kernel
theorem dX6_group_15 : decode cX6_group 15 = .ok (.ireturn, 1) := by decide +kernel
theorem dX6_group_16 : decode cX6_group 16 = .ok (.iload_n 1, 1) := by decide +kernel
theorem dX6_group_17 : decode cX6_group 17 = .ok (.iload_n 2, 1) := by decide +kernel
theorem dX6_group_18 : decode cX6_group 18 = .ok (.invokestatic 187, 3) := by decide +kernel
theorem dX6_group_21 : decode cX6_group 21 = .ok (.ifCond .eq 6, 3) := by decide +kernel
theorem dX6_group_24 : decode cX6_group 24 = .ok (.ldc 78, 2) := by decide +kernel
theorem dX6_group_26 : decode cX6_group 26 = .ok (.ireturn, 1) := by decide +kernel
theorem dX6_group_27 : decode cX6_group 27 = .ok (.aload_n 0, 1) := by decide +kernel
theorem dX6_group_28 : decode cX6_group 28 = .ok (.iload_n 1, 1) := by decide +kernel
theorem dX6_group_29 : decode cX6_group 29 = .ok (.iload_n 2, 1) := by decide +kernel
theorem dX6_group_30 : decode cX6_group 30 = .ok (.invokevirtual 184, 3) := by decide +kernel
theorem dX6_group_33 : decode cX6_group 33 = .ok (.ldc 62, 2) := by decide +kernel
theorem dX6_group_35 : decode cX6_group 35 = .ok (.if_icmp .ne 8, 3) := by decide +kernel
theorem dX6_group_38 : decode cX6_group 38 = .ok (.ldc 62, 2) := by decide +kernel
theorem dX6_group_40 : decode cX6_group 40 = .ok (.goto 9, 3) := by decide +kernel
theorem dX6_group_43 : decode cX6_group 43 = .ok (.aload_n 0, 1) := by decide +kernel
theorem dX6_group_44 : decode cX6_group 44 = .ok (.getfield 59, 3) := by decide +kernel
theorem dX6_group_47 : decode cX6_group 47 = .ok (.iload_n 3, 1) := by decide +kernel
theorem dX6_group_48 : decode cX6_group 48 = .ok (.iaload, 1) := by decide +kernel
theorem dX6_group_49 : decode cX6_group 49 = .ok (.ireturn, 1) := by decide +kernel
set_option maxRecDepth 20000 in
theorem ggX6_setUp_X6_badSharing : GoodIn wsX6_setUp wsX6_badSharing := goodIn_r _ [10, 11, 12, 13, 14, 9, 15] (by decide +kernel) (by decide +kernel)
set_option maxRecDepth 20000 in
theorem gX6_setUp_X6_badSharing : GoodIn wsX6_setUp (va_wsS RX6 187 yX6_badSharing wsX6_badSharing) := goodIn_app (goodIn_of _ (by decide +kernel)) ggX6_setUp_X6_badSharing
set_option maxRecDepth 20000 in
theorem ggX6_setUp_X6_shareBest : GoodIn wsX6_setUp wsX6_shareBest := goodIn_r _ [19, 4, 20, 21, 22, 3, 23, 6, 24, 25, 26, 9, 27, 28, 29, 30, 31, 32, 33, 34, 13, 14, 15, 35, 36, 37, 38, 39, 40, 41, 42, 43, 44, 45, 46, 47, 48, 49, 50, 51, 52, 53, 54, 55, 56, 57, 58, 59, 60, 61] (by decide +kernel) (by decide +kernel)
set_option maxRecDepth 20000 in
theorem gX6_setUp_X6_shareBest : GoodIn wsX6_setUp (wsV RX6 184 RX6 yX6_shareBest wsX6_shareBest) := goodIn_app (goodIn_of _ (by decide +kernel)) ggX6_setUp_X6_shareBest
theorem dX6_setUp_0 : decode cX6_setUp 0 = .ok (.aload_n 0, 1) := by decide +kernel
theorem dX6_setUp_1 : decode cX6_setUp 1 = .ok (.iconst 0, 1) := by decide +kernel
theorem dX6_setUp_2 : decode cX6_setUp 2 = .ok (.putfield 63, 3) := by decide +kernel
theorem dX6_setUp_5 : decode cX6_setUp 5 = .ok (.iload_n 1, 1) := by decide +kernel
theorem dX6_setUp_6 : decode cX6_setUp 6 = .ok (.iload_n 2, 1) := by decide +kernel
theorem dX6_setUp_7 : decode cX6_setUp 7 = .ok (.invokestatic 187, 3) := by decide +kernel
theorem dX6_setUp_10 : decode cX6_setUp 10 = .ok (.ifCond .eq 6, 3) := by decide +kernel
theorem dX6_setUp_13 : decode cX6_setUp 13 = .ok (.ldc 78, 2) := by decide +kernel
theorem dX6_setUp_15 : decode cX6_setUp 15 = .ok (.ireturn, 1) := by decide +kernel
theorem dX6_setUp_16 : decode cX6_setUp 16 = .ok (.aload_n 0, 1) := by decide +kernel
theorem dX6_setUp_17 : decode cX6_setUp 17 = .ok (.iload_n 1, 1) := by decide +kernel
theorem dX6_setUp_18 : decode cX6_setUp 18 = .ok (.iload_n 2, 1) := by decide +kernel
theorem dX6_setUp_19 : decode cX6_setUp 19 = .ok (.invokevirtual 184, 3) := by decide +kernel
theorem dX6_setUp_22 : decode cX6_setUp 22 = .ok (.istore_n 3, 1) := by decide +kernel
theorem dX6_setUp_23 : decode cX6_setUp 23 = .ok (.iconst 0, 1) := by decide +kernel
theorem dX6_setUp_24 : decode cX6_setUp 24 = .ok (.istore 4, 2) := by decide +kernel
theorem dX6_setUp_26 : decode cX6_setUp 26 = .ok (.iload 4, 2) := by decide +kernel
theorem dX6_setUp_28 : decode cX6_setUp 28 = .ok (.aload_n 0, 1) := by decide +kernel
theorem dX6_setUp_29 : decode cX6_setUp 29 = .ok (.getfield 7, 3) := by decide +kernel
theorem dX6_setUp_32 : decode cX6_setUp 32 = .ok (.if_icmp .ge 29, 3) := by decide +kernel
theorem dX6_setUp_35 : decode cX6_setUp 35 = .ok (.iload_n 3, 1) := by decide +kernel
theorem dX6_setUp_36 : decode cX6_setUp 36 = .ok (.ldc 62, 2) := by decide +kernel
theorem dX6_setUp_38 : decode cX6_setUp 38 = .ok (.if_icmp .eq 23, 3) := by decide +kernel
theorem dX6_setUp_41 : decode cX6_setUp 41 = .ok (.aload_n 0, 1) := by decide +kernel
theorem dX6_setUp_42 : decode cX6_setUp 42 = .ok (.getfield 13, 3) := by decide +kernel
theorem dX6_setUp_45 : decode cX6_setUp 45 = .ok (.iload 4, 2) := by decide +kernel
theorem dX6_setUp_47 : decode cX6_setUp 47 = .ok (.aload_n 0, 1) := by decide +kernel
theorem dX6_setUp_48 : decode cX6_setUp 48 = .ok (.getfield 59, 3) := by decide +kernel
theorem dX6_setUp_51 : decode cX6_setUp 51 = .ok (.iload 4, 2) := by decide +kernel
theorem dX6_setUp_53 : decode cX6_setUp 53 = .ok (.iaload, 1) := by decide +kernel
theorem dX6_setUp_54 : decode cX6_setUp 54 = .ok (.iastore, 1) := by decide +kernel
theorem dX6_setUp_55 : decode cX6_setUp 55 = .ok (.iinc 4 1, 3) := by decide +kernel
theorem dX6_setUp_58 : decode cX6_setUp 58 = .ok (.goto (-32), 3) := by decide +kernel
theorem dX6_setUp_61 : decode cX6_setUp 61 = .ok (.iload_n 3, 1) := by decide +kernel
theorem dX6_setUp_62 : decode cX6_setUp 62 = .ok (.ireturn, 1) := by decide +kernel
set_option maxRecDepth 20000 in
theorem ggX6_measure_X6_noKey : GoodIn wsX6_measure wsX6_noKey := goodIn_r _ [12, 13, 14, 15, 11, 16, 17, 18, 19, 20, 21, 22, 23, 24, 25, 26, 27, 28, 29, 30, 31, 32, 33, 34, 35, 36, 37] (by decide +kernel) (by decide +kernel)
set_option maxRecDepth 20000 in
theorem gX6_measure_X6_noKey : GoodIn wsX6_measure (wsV RX6 79 RX6 yX6_noKey wsX6_noKey) := goodIn_app (goodIn_of _ (by decide +kernel)) ggX6_measure_X6_noKey
set_option maxRecDepth 20000 in
theorem ggX6_measure_X6_in : GoodIn wsX6_measure wsX6_in := goodIn_r _ [16] (by decide +kernel) (by decide +kernel)
set_option maxRecDepth 20000 in
theorem gX6_measure_X6_in : GoodIn wsX6_measure (va_wsS RX6 66 yX6_in wsX6_in) := goodIn_app (goodIn_of _ (by decide +kernel)) ggX6_measure_X6_in
theorem dX6_measure_0 : decode cX6_measure 0 = .ok (.aload_n 0, 1) := by decide +kernel
theorem dX6_measure_1 : decode cX6_measure 1 = .ok (.iconst 0, 1) := by decide +kernel
theorem dX6_measure_2 : decode cX6_measure 2 = .ok (.putfield 63, 3) := by decide +kernel
theorem dX6_measure_5 : decode cX6_measure 5 = .ok (.aload_n 0, 1) := by decide +kernel
theorem dX6_measure_6 : decode cX6_measure 6 = .ok (.iload_n 1, 1) := by decide +kernel
theorem dX6_measure_7 : decode cX6_measure 7 = .ok (.invokevirtual 79, 3) := by decide +kernel
theorem dX6_measure_10 : decode cX6_measure 10 = .ok (.ifCond .eq 6, 3) := by decide +kernel
theorem dX6_measure_13 : decode cX6_measure 13 = .ok (.ldc 86, 2) := by decide +kernel
theorem dX6_measure_15 : decode cX6_measure 15 = .ok (.ireturn, 1) := by decide +kernel
theorem dX6_measure_16 : decode cX6_measure 16 = .ok (.iload_n 2, 1) := by decide +kernel
theorem dX6_measure_17 : decode cX6_measure 17 = .ok (.ldc 62, 2) := by decide +kernel
theorem dX6_measure_19 : decode cX6_measure 19 = .ok (.if_icmp .eq 20, 3) := by decide +kernel
theorem dX6_measure_22 : decode cX6_measure 22 = .ok (.iload_n 2, 1) := by decide +kernel
theorem dX6_measure_23 : decode cX6_measure 23 = .ok (.i2l, 1) := by decide +kernel
theorem dX6_measure_24 : decode cX6_measure 24 = .ok (.ldc2_w 91, 3) := by decide +kernel
theorem dX6_measure_27 : decode cX6_measure 27 = .ok (.ldc2_w 190, 3) := by decide +kernel
theorem dX6_measure_30 : decode cX6_measure 30 = .ok (.invokestatic 66, 3) := by decide +kernel
theorem dX6_measure_33 : decode cX6_measure 33 = .ok (.ifCond .ne 6, 3) := by decide +kernel
theorem dX6_measure_36 : decode cX6_measure 36 = .ok (.ldc 78, 2) := by decide +kernel
theorem dX6_measure_38 : decode cX6_measure 38 = .ok (.ireturn, 1) := by decide +kernel
theorem dX6_measure_39 : decode cX6_measure 39 = .ok (.aload_n 0, 1) := by decide +kernel
theorem dX6_measure_40 : decode cX6_measure 40 = .ok (.getfield 50, 3) := by decide +kernel
theorem dX6_measure_43 : decode cX6_measure 43 = .ok (.iload_n 1, 1) := by decide +kernel
theorem dX6_measure_44 : decode cX6_measure 44 = .ok (.iaload, 1) := by decide +kernel
theorem dX6_measure_45 : decode cX6_measure 45 = .ok (.istore_n 3, 1) := by decide +kernel
theorem dX6_measure_46 : decode cX6_measure 46 = .ok (.aload_n 0, 1) := by decide +kernel
theorem dX6_measure_47 : decode cX6_measure 47 = .ok (.getfield 50, 3) := by decide +kernel
theorem dX6_measure_50 : decode cX6_measure 50 = .ok (.iload_n 1, 1) := by decide +kernel
theorem dX6_measure_51 : decode cX6_measure 51 = .ok (.iload_n 2, 1) := by decide +kernel
theorem dX6_measure_52 : decode cX6_measure 52 = .ok (.iastore, 1) := by decide +kernel
theorem dX6_measure_53 : decode cX6_measure 53 = .ok (.iload_n 3, 1) := by decide +kernel
theorem dX6_measure_54 : decode cX6_measure 54 = .ok (.ireturn, 1) := by decide +kernel
theorem dX6_measuredKeys_0 : decode cX6_measuredKeys 0 = .ok (.iconst 0, 1) := by decide +kernel
theorem dX6_measuredKeys_1 : decode cX6_measuredKeys 1 = .ok (.istore_n 1, 1) := by decide +kernel
theorem dX6_measuredKeys_2 : decode cX6_measuredKeys 2 = .ok (.iconst 0, 1) := by decide +kernel
theorem dX6_measuredKeys_3 : decode cX6_measuredKeys 3 = .ok (.istore_n 2, 1) := by decide +kernel
theorem dX6_measuredKeys_4 : decode cX6_measuredKeys 4 = .ok (.iload_n 2, 1) := by decide +kernel
theorem dX6_measuredKeys_5 : decode cX6_measuredKeys 5 = .ok (.aload_n 0, 1) := by decide +kernel
theorem dX6_measuredKeys_6 : decode cX6_measuredKeys 6 = .ok (.getfield 7, 3) := by decide +kernel
theorem dX6_measuredKeys_9 : decode cX6_measuredKeys 9 = .ok (.if_icmp .ge 28, 3) := by decide +kernel
theorem dX6_measuredKeys_12 : decode cX6_measuredKeys 12 = .ok (.iload_n 1, 1) := by decide +kernel
theorem dX6_measuredKeys_13 : decode cX6_measuredKeys 13 = .ok (.aload_n 0, 1) := by decide +kernel
theorem dX6_measuredKeys_14 : decode cX6_measuredKeys 14 = .ok (.getfield 50, 3) := by decide +kernel
theorem dX6_measuredKeys_17 : decode cX6_measuredKeys 17 = .ok (.iload_n 2, 1) := by decide +kernel
theorem dX6_measuredKeys_18 : decode cX6_measuredKeys 18 = .ok (.iaload, 1) := by decide +kernel
theorem dX6_measuredKeys_19 : decode cX6_measuredKeys 19 = .ok (.ldc 62, 2) := by decide +kernel
theorem dX6_measuredKeys_21 : decode cX6_measuredKeys 21 = .ok (.if_icmp .ne 7, 3) := by decide +kernel
theorem dX6_measuredKeys_24 : decode cX6_measuredKeys 24 = .ok (.iconst 0, 1) := by decide +kernel
theorem dX6_measuredKeys_25 : decode cX6_measuredKeys 25 = .ok (.goto 4, 3) := by decide +kernel
theorem dX6_measuredKeys_28 : decode cX6_measuredKeys 28 = .ok (.iconst 1, 1) := by decide +kernel
theorem dX6_measuredKeys_29 : decode cX6_measuredKeys 29 = .ok (.iadd, 1) := by decide +kernel
theorem dX6_measuredKeys_30 : decode cX6_measuredKeys 30 = .ok (.istore_n 1, 1) := by decide +kernel
theorem dX6_measuredKeys_31 : decode cX6_measuredKeys 31 = .ok (.iinc 2 1, 3) := by decide +kernel
theorem dX6_measuredKeys_34 : decode cX6_measuredKeys 34 = .ok (.goto (-30), 3) := by decide +kernel
theorem dX6_measuredKeys_37 : decode cX6_measuredKeys 37 = .ok (.iload_n 1, 1) := by decide +kernel
theorem dX6_measuredKeys_38 : decode cX6_measuredKeys 38 = .ok (.ireturn, 1) := by decide +kernel
set_option maxRecDepth 20000 in
theorem ggX6_misfitOf_X6_goalOf : GoodIn wsX6_misfitOf wsX6_goalOf := goodIn_r _ [8, 9, 10, 14, 15, 16, 17, 18, 19, 20, 21, 22, 23, 24, 25, 26, 27, 28, 29, 30, 31, 32, 33, 34] (by decide +kernel) (by decide +kernel)
set_option maxRecDepth 20000 in
theorem gX6_misfitOf_X6_goalOf : GoodIn wsX6_misfitOf (wsV RX6 109 RX6 yX6_goalOf wsX6_goalOf) := goodIn_app (goodIn_of _ (by decide +kernel)) ggX6_misfitOf_X6_goalOf
set_option maxRecDepth 20000 in
theorem ggX6_misfitOf_X6_size : GoodIn wsX6_misfitOf wsX6_size := goodIn_r _ [13] (by decide +kernel) (by decide +kernel)
set_option maxRecDepth 20000 in
theorem gX6_misfitOf_X6_size : GoodIn wsX6_misfitOf (va_wsS RX6 132 yX6_size wsX6_size) := goodIn_app (goodIn_of _ (by decide +kernel)) ggX6_misfitOf_X6_size
theorem dX6_misfitOf_0 : decode cX6_misfitOf 0 = .ok (.iconst 0, 1) := by decide +kernel
theorem dX6_misfitOf_1 : decode cX6_misfitOf 1 = .ok (.istore 4, 2) := by decide +kernel
theorem dX6_misfitOf_3 : decode cX6_misfitOf 3 = .ok (.iconst 0, 1) := by decide +kernel
theorem dX6_misfitOf_4 : decode cX6_misfitOf 4 = .ok (.istore 5, 2) := by decide +kernel
theorem dX6_misfitOf_6 : decode cX6_misfitOf 6 = .ok (.iload 5, 2) := by decide +kernel
theorem dX6_misfitOf_8 : decode cX6_misfitOf 8 = .ok (.aload_n 0, 1) := by decide +kernel
theorem dX6_misfitOf_9 : decode cX6_misfitOf 9 = .ok (.getfield 7, 3) := by decide +kernel
theorem dX6_misfitOf_12 : decode cX6_misfitOf 12 = .ok (.if_icmp .ge 55, 3) := by decide +kernel
theorem dX6_misfitOf_15 : decode cX6_misfitOf 15 = .ok (.iload 4, 2) := by decide +kernel
theorem dX6_misfitOf_17 : decode cX6_misfitOf 17 = .ok (.aload_n 0, 1) := by decide +kernel
theorem dX6_misfitOf_18 : decode cX6_misfitOf 18 = .ok (.getfield 50, 3) := by decide +kernel
theorem dX6_misfitOf_21 : decode cX6_misfitOf 21 = .ok (.iload 5, 2) := by decide +kernel
theorem dX6_misfitOf_23 : decode cX6_misfitOf 23 = .ok (.iaload, 1) := by decide +kernel
theorem dX6_misfitOf_24 : decode cX6_misfitOf 24 = .ok (.ldc 62, 2) := by decide +kernel
theorem dX6_misfitOf_26 : decode cX6_misfitOf 26 = .ok (.if_icmp .eq 9, 3) := by decide +kernel
theorem dX6_misfitOf_29 : decode cX6_misfitOf 29 = .ok (.iload 5, 2) := by decide +kernel
theorem dX6_misfitOf_31 : decode cX6_misfitOf 31 = .ok (.iload_n 3, 1) := by decide +kernel
theorem dX6_misfitOf_32 : decode cX6_misfitOf 32 = .ok (.if_icmp .ne 7, 3) := by decide +kernel
theorem dX6_misfitOf_35 : decode cX6_misfitOf 35 = .ok (.iconst 0, 1) := by decide +kernel
theorem dX6_misfitOf_36 : decode cX6_misfitOf 36 = .ok (.goto 22, 3) := by decide +kernel
theorem dX6_misfitOf_39 : decode cX6_misfitOf 39 = .ok (.aload_n 0, 1) := by decide +kernel
theorem dX6_misfitOf_40 : decode cX6_misfitOf 40 = .ok (.iload 5, 2) := by decide +kernel
theorem dX6_misfitOf_42 : decode cX6_misfitOf 42 = .ok (.iload_n 1, 1) := by decide +kernel
theorem dX6_misfitOf_43 : decode cX6_misfitOf 43 = .ok (.iload_n 2, 1) := by decide +kernel
theorem dX6_misfitOf_44 : decode cX6_misfitOf 44 = .ok (.invokevirtual 109, 3) := by decide +kernel
theorem dX6_misfitOf_47 : decode cX6_misfitOf 47 = .ok (.aload_n 0, 1) := by decide +kernel
theorem dX6_misfitOf_48 : decode cX6_misfitOf 48 = .ok (.getfield 50, 3) := by decide +kernel
theorem dX6_misfitOf_51 : decode cX6_misfitOf 51 = .ok (.iload 5, 2) := by decide +kernel
theorem dX6_misfitOf_53 : decode cX6_misfitOf 53 = .ok (.iaload, 1) := by decide +kernel
theorem dX6_misfitOf_54 : decode cX6_misfitOf 54 = .ok (.isub, 1) := by decide +kernel
theorem dX6_misfitOf_55 : decode cX6_misfitOf 55 = .ok (.invokestatic 132, 3) := by decide +kernel
theorem dX6_misfitOf_58 : decode cX6_misfitOf 58 = .ok (.iadd, 1) := by decide +kernel
theorem dX6_misfitOf_59 : decode cX6_misfitOf 59 = .ok (.istore 4, 2) := by decide +kernel
theorem dX6_misfitOf_61 : decode cX6_misfitOf 61 = .ok (.iinc 5 1, 3) := by decide +kernel
theorem dX6_misfitOf_64 : decode cX6_misfitOf 64 = .ok (.goto (-58), 3) := by decide +kernel
theorem dX6_misfitOf_67 : decode cX6_misfitOf 67 = .ok (.iload 4, 2) := by decide +kernel
theorem dX6_misfitOf_69 : decode cX6_misfitOf 69 = .ok (.ireturn, 1) := by decide +kernel
set_option maxRecDepth 20000 in
theorem ggX6_misfit_X6_noScale : GoodIn wsX6_misfit wsX6_noScale := goodIn_r _ [10, 11, 12, 13, 9, 14] (by decide +kernel) (by decide +kernel)
set_option maxRecDepth 20000 in
theorem gX6_misfit_X6_noScale : GoodIn wsX6_misfit (va_wsS RX6 121 yX6_noScale wsX6_noScale) := goodIn_app (goodIn_of _ (by decide +kernel)) ggX6_misfit_X6_noScale
set_option maxRecDepth 20000 in
theorem ggX6_misfit_X6_in : GoodIn wsX6_misfit wsX6_in := goodIn_r _ [14] (by decide +kernel) (by decide +kernel)
set_option maxRecDepth 20000 in
theorem gX6_misfit_X6_in : GoodIn wsX6_misfit (va_wsS RX6 66 yX6_in wsX6_in) := goodIn_app (goodIn_of _ (by decide +kernel)) ggX6_misfit_X6_in
set_option maxRecDepth 20000 in
theorem ggX6_misfit_X6_misfitOf : GoodIn wsX6_misfit wsX6_misfitOf := goodIn_r _ [18, 19, 20, 5, 21, 22, 23, 9, 24, 25, 26, 27, 28, 29, 30, 31, 32, 33, 34, 35, 36, 37, 38, 39, 40, 41, 42, 43, 44, 45, 46, 47, 48, 49, 50] (by decide +kernel) (by decide +kernel)
set_option maxRecDepth 20000 in
theorem gX6_misfit_X6_misfitOf : GoodIn wsX6_misfit (wsV RX6 192 RX6 yX6_misfitOf wsX6_misfitOf) := goodIn_app (goodIn_of _ (by decide +kernel)) ggX6_misfit_X6_misfitOf
theorem dX6_misfit_0 : decode cX6_misfit 0 = .ok (.aload_n 0, 1) := by decide +kernel
theorem dX6_misfit_1 : decode cX6_misfit 1 = .ok (.iconst 0, 1) := by decide +kernel
theorem dX6_misfit_2 : decode cX6_misfit 2 = .ok (.putfield 63, 3) := by decide +kernel
theorem dX6_misfit_5 : decode cX6_misfit 5 = .ok (.iload_n 1, 1) := by decide +kernel
theorem dX6_misfit_6 : decode cX6_misfit 6 = .ok (.invokestatic 121, 3) := by decide +kernel
theorem dX6_misfit_9 : decode cX6_misfit 9 = .ok (.ifCond .eq 6, 3) := by decide +kernel
theorem dX6_misfit_12 : decode cX6_misfit 12 = .ok (.ldc 86, 2) := by decide +kernel
theorem dX6_misfit_14 : decode cX6_misfit 14 = .ok (.ireturn, 1) := by decide +kernel
theorem dX6_misfit_15 : decode cX6_misfit 15 = .ok (.iload_n 2, 1) := by decide +kernel
theorem dX6_misfit_16 : decode cX6_misfit 16 = .ok (.i2l, 1) := by decide +kernel
theorem dX6_misfit_17 : decode cX6_misfit 17 = .ok (.ldc2_w 128, 3) := by decide +kernel
theorem dX6_misfit_20 : decode cX6_misfit 20 = .ok (.ldc2_w 130, 3) := by decide +kernel
theorem dX6_misfit_23 : decode cX6_misfit 23 = .ok (.invokestatic 66, 3) := by decide +kernel
theorem dX6_misfit_26 : decode cX6_misfit 26 = .ok (.ifCond .eq 14, 3) := by decide +kernel
theorem dX6_misfit_29 : decode cX6_misfit 29 = .ok (.aload_n 0, 1) := by decide +kernel
theorem dX6_misfit_30 : decode cX6_misfit 30 = .ok (.iload_n 1, 1) := by decide +kernel
theorem dX6_misfit_31 : decode cX6_misfit 31 = .ok (.iload_n 2, 1) := by decide +kernel
theorem dX6_misfit_32 : decode cX6_misfit 32 = .ok (.ldc 62, 2) := by decide +kernel
theorem dX6_misfit_34 : decode cX6_misfit 34 = .ok (.invokevirtual 192, 3) := by decide +kernel
theorem dX6_misfit_37 : decode cX6_misfit 37 = .ok (.goto 5, 3) := by decide +kernel
theorem dX6_misfit_40 : decode cX6_misfit 40 = .ok (.ldc 78, 2) := by decide +kernel
theorem dX6_misfit_42 : decode cX6_misfit 42 = .ok (.ireturn, 1) := by decide +kernel
set_option maxRecDepth 20000 in
theorem ggX6_pitchOf_X6_misfitOf : GoodIn wsX6_pitchOf wsX6_misfitOf := goodIn_r _ [7, 8, 9, 10, 11, 12, 13, 6, 14, 15, 16, 17, 18, 19, 20, 21, 22, 23, 24, 25, 26, 27, 28, 29, 30, 31, 32, 33, 34, 35, 36, 37, 38, 39, 40] (by decide +kernel) (by decide +kernel)
set_option maxRecDepth 20000 in
theorem gX6_pitchOf_X6_misfitOf : GoodIn wsX6_pitchOf (wsV RX6 192 RX6 yX6_misfitOf wsX6_misfitOf) := goodIn_app (goodIn_of _ (by decide +kernel)) ggX6_pitchOf_X6_misfitOf
theorem dX6_pitchOf_0 : decode cX6_pitchOf 0 = .ok (.sipush 1000, 3) := by decide +kernel
theorem dX6_pitchOf_3 : decode cX6_pitchOf 3 = .ok (.istore_n 3, 1) := by decide +kernel
theorem dX6_pitchOf_4 : decode cX6_pitchOf 4 = .ok (.aload_n 0, 1) := by decide +kernel
theorem dX6_pitchOf_5 : decode cX6_pitchOf 5 = .ok (.iload_n 1, 1) := by decide +kernel
theorem dX6_pitchOf_6 : decode cX6_pitchOf 6 = .ok (.sipush 1000, 3) := by decide +kernel
theorem dX6_pitchOf_9 : decode cX6_pitchOf 9 = .ok (.iload_n 2, 1) := by decide +kernel
theorem dX6_pitchOf_10 : decode cX6_pitchOf 10 = .ok (.invokevirtual 192, 3) := by decide +kernel
theorem dX6_pitchOf_13 : decode cX6_pitchOf 13 = .ok (.istore 4, 2) := by decide +kernel
theorem dX6_pitchOf_15 : decode cX6_pitchOf 15 = .ok (.sipush 1020, 3) := by decide +kernel
theorem dX6_pitchOf_18 : decode cX6_pitchOf 18 = .ok (.istore 5, 2) := by decide +kernel
theorem dX6_pitchOf_20 : decode cX6_pitchOf 20 = .ok (.iload 5, 2) := by decide +kernel
theorem dX6_pitchOf_22 : decode cX6_pitchOf 22 = .ok (.ldc 195, 2) := by decide +kernel
theorem dX6_pitchOf_24 : decode cX6_pitchOf 24 = .ok (.if_icmp .gt 33, 3) := by decide +kernel
theorem dX6_pitchOf_27 : decode cX6_pitchOf 27 = .ok (.aload_n 0, 1) := by decide +kernel
theorem dX6_pitchOf_28 : decode cX6_pitchOf 28 = .ok (.iload_n 1, 1) := by decide +kernel
theorem dX6_pitchOf_29 : decode cX6_pitchOf 29 = .ok (.iload 5, 2) := by decide +kernel
theorem dX6_pitchOf_31 : decode cX6_pitchOf 31 = .ok (.iload_n 2, 1) := by decide +kernel
theorem dX6_pitchOf_32 : decode cX6_pitchOf 32 = .ok (.invokevirtual 192, 3) := by decide +kernel
theorem dX6_pitchOf_35 : decode cX6_pitchOf 35 = .ok (.istore 6, 2) := by decide +kernel
theorem dX6_pitchOf_37 : decode cX6_pitchOf 37 = .ok (.iload 6, 2) := by decide +kernel
theorem dX6_pitchOf_39 : decode cX6_pitchOf 39 = .ok (.iload 4, 2) := by decide +kernel
theorem dX6_pitchOf_41 : decode cX6_pitchOf 41 = .ok (.if_icmp .ge 10, 3) := by decide +kernel
theorem dX6_pitchOf_44 : decode cX6_pitchOf 44 = .ok (.iload 6, 2) := by decide +kernel
theorem dX6_pitchOf_46 : decode cX6_pitchOf 46 = .ok (.istore 4, 2) := by decide +kernel
theorem dX6_pitchOf_48 : decode cX6_pitchOf 48 = .ok (.iload 5, 2) := by decide +kernel
theorem dX6_pitchOf_50 : decode cX6_pitchOf 50 = .ok (.istore_n 3, 1) := by decide +kernel
theorem dX6_pitchOf_51 : decode cX6_pitchOf 51 = .ok (.iinc 5 20, 3) := by decide +kernel
theorem dX6_pitchOf_54 : decode cX6_pitchOf 54 = .ok (.goto (-34), 3) := by decide +kernel
theorem dX6_pitchOf_57 : decode cX6_pitchOf 57 = .ok (.aload_n 0, 1) := by decide +kernel
theorem dX6_pitchOf_58 : decode cX6_pitchOf 58 = .ok (.iload 4, 2) := by decide +kernel
theorem dX6_pitchOf_60 : decode cX6_pitchOf 60 = .ok (.putfield 179, 3) := by decide +kernel
theorem dX6_pitchOf_63 : decode cX6_pitchOf 63 = .ok (.iload_n 3, 1) := by decide +kernel
theorem dX6_pitchOf_64 : decode cX6_pitchOf 64 = .ok (.ireturn, 1) := by decide +kernel
set_option maxRecDepth 20000 in
theorem ggX6_found_X6_noScale : GoodIn wsX6_found wsX6_noScale := goodIn_r _ [10, 11, 12, 13, 9, 14] (by decide +kernel) (by decide +kernel)
set_option maxRecDepth 20000 in
theorem gX6_found_X6_noScale : GoodIn wsX6_found (va_wsS RX6 121 yX6_noScale wsX6_noScale) := goodIn_app (goodIn_of _ (by decide +kernel)) ggX6_found_X6_noScale
set_option maxRecDepth 20000 in
theorem ggX6_found_X6_in : GoodIn wsX6_found wsX6_in := goodIn_r _ [14] (by decide +kernel) (by decide +kernel)
set_option maxRecDepth 20000 in
theorem gX6_found_X6_in : GoodIn wsX6_found (va_wsS RX6 66 yX6_in wsX6_in) := goodIn_app (goodIn_of _ (by decide +kernel)) ggX6_found_X6_in
set_option maxRecDepth 20000 in
theorem ggX6_found_X6_measuredKeys : GoodIn wsX6_found wsX6_measuredKeys := goodIn_r _ [18, 19, 20, 5, 39, 40, 41, 42, 43, 44, 45, 46, 47, 48, 49, 50, 51, 52, 53, 54, 55, 56, 57, 58, 59] (by decide +kernel) (by decide +kernel)
set_option maxRecDepth 20000 in
theorem gX6_found_X6_measuredKeys : GoodIn wsX6_found (wsV RX6 196 RX6 yX6_measuredKeys wsX6_measuredKeys) := goodIn_app (goodIn_of _ (by decide +kernel)) ggX6_found_X6_measuredKeys
set_option maxRecDepth 20000 in
theorem ggX6_found_X6_pitchOf : GoodIn wsX6_found wsX6_pitchOf := goodIn_r _ [24, 25, 6, 26, 27, 28, 9, 29, 19, 20, 5, 30, 31, 32, 33, 34, 35, 36, 37, 38, 39, 40, 41, 42, 43, 44, 45, 46, 47, 48, 49, 50, 51, 52, 53, 54, 55, 56, 57, 58, 59] (by decide +kernel) (by decide +kernel)
set_option maxRecDepth 20000 in
theorem gX6_found_X6_pitchOf : GoodIn wsX6_found (wsV RX6 199 RX6 yX6_pitchOf wsX6_pitchOf) := goodIn_app (goodIn_of _ (by decide +kernel)) ggX6_found_X6_pitchOf
theorem dX6_found_0 : decode cX6_found 0 = .ok (.aload_n 0, 1) := by decide +kernel
theorem dX6_found_1 : decode cX6_found 1 = .ok (.iconst 0, 1) := by decide +kernel
theorem dX6_found_2 : decode cX6_found 2 = .ok (.putfield 63, 3) := by decide +kernel
theorem dX6_found_5 : decode cX6_found 5 = .ok (.iload_n 1, 1) := by decide +kernel
theorem dX6_found_6 : decode cX6_found 6 = .ok (.invokestatic 121, 3) := by decide +kernel
theorem dX6_found_9 : decode cX6_found 9 = .ok (.ifCond .eq 6, 3) := by decide +kernel
theorem dX6_found_12 : decode cX6_found 12 = .ok (.ldc 86, 2) := by decide +kernel
theorem dX6_found_14 : decode cX6_found 14 = .ok (.ireturn, 1) := by decide +kernel
theorem dX6_found_15 : decode cX6_found 15 = .ok (.iload_n 2, 1) := by decide +kernel
theorem dX6_found_16 : decode cX6_found 16 = .ok (.i2l, 1) := by decide +kernel
theorem dX6_found_17 : decode cX6_found 17 = .ok (.lconst 0, 1) := by decide +kernel
theorem dX6_found_18 : decode cX6_found 18 = .ok (.lconst 1, 1) := by decide +kernel
theorem dX6_found_19 : decode cX6_found 19 = .ok (.invokestatic 66, 3) := by decide +kernel
theorem dX6_found_22 : decode cX6_found 22 = .ok (.ifCond .ne 6, 3) := by decide +kernel
theorem dX6_found_25 : decode cX6_found 25 = .ok (.ldc 78, 2) := by decide +kernel
theorem dX6_found_27 : decode cX6_found 27 = .ok (.ireturn, 1) := by decide +kernel
theorem dX6_found_28 : decode cX6_found 28 = .ok (.aload_n 0, 1) := by decide +kernel
theorem dX6_found_29 : decode cX6_found 29 = .ok (.invokevirtual 196, 3) := by decide +kernel
theorem dX6_found_32 : decode cX6_found 32 = .ok (.ifCond .ne 6, 3) := by decide +kernel
theorem dX6_found_35 : decode cX6_found 35 = .ok (.ldc 148, 2) := by decide +kernel
theorem dX6_found_37 : decode cX6_found 37 = .ok (.ireturn, 1) := by decide +kernel
theorem dX6_found_38 : decode cX6_found 38 = .ok (.aload_n 0, 1) := by decide +kernel
theorem dX6_found_39 : decode cX6_found 39 = .ok (.iload_n 1, 1) := by decide +kernel
theorem dX6_found_40 : decode cX6_found 40 = .ok (.ldc 62, 2) := by decide +kernel
theorem dX6_found_42 : decode cX6_found 42 = .ok (.invokevirtual 199, 3) := by decide +kernel
theorem dX6_found_45 : decode cX6_found 45 = .ok (.istore_n 3, 1) := by decide +kernel
theorem dX6_found_46 : decode cX6_found 46 = .ok (.iload_n 2, 1) := by decide +kernel
theorem dX6_found_47 : decode cX6_found 47 = .ok (.ifCond .ne 7, 3) := by decide +kernel
theorem dX6_found_50 : decode cX6_found 50 = .ok (.iload_n 3, 1) := by decide +kernel
theorem dX6_found_51 : decode cX6_found 51 = .ok (.goto 7, 3) := by decide +kernel
theorem dX6_found_54 : decode cX6_found 54 = .ok (.aload_n 0, 1) := by decide +kernel
theorem dX6_found_55 : decode cX6_found 55 = .ok (.getfield 179, 3) := by decide +kernel
theorem dX6_found_58 : decode cX6_found 58 = .ok (.ireturn, 1) := by decide +kernel
set_option maxRecDepth 20000 in
theorem ggX6_meantOf_X6_pitchOf : GoodIn wsX6_meantOf wsX6_pitchOf := goodIn_r _ [7, 8, 2, 9, 10, 11, 6, 12, 13, 14, 1, 15, 16, 17, 18, 19, 20, 21, 22, 23, 24, 25, 26, 27, 28, 29, 30, 31, 32, 33, 34, 35, 36, 37, 38, 39, 40, 41, 42, 43, 44] (by decide +kernel) (by decide +kernel)
set_option maxRecDepth 20000 in
theorem gX6_meantOf_X6_pitchOf : GoodIn wsX6_meantOf (wsV RX6 199 RX6 yX6_pitchOf wsX6_pitchOf) := goodIn_app (goodIn_of _ (by decide +kernel)) ggX6_meantOf_X6_pitchOf
theorem dX6_meantOf_0 : decode cX6_meantOf 0 = .ok (.iconst 0, 1) := by decide +kernel
theorem dX6_meantOf_1 : decode cX6_meantOf 1 = .ok (.istore_n 1, 1) := by decide +kernel
theorem dX6_meantOf_2 : decode cX6_meantOf 2 = .ok (.iconst 0, 1) := by decide +kernel
theorem dX6_meantOf_3 : decode cX6_meantOf 3 = .ok (.istore_n 2, 1) := by decide +kernel
theorem dX6_meantOf_4 : decode cX6_meantOf 4 = .ok (.iconst 0, 1) := by decide +kernel
theorem dX6_meantOf_5 : decode cX6_meantOf 5 = .ok (.istore_n 3, 1) := by decide +kernel
theorem dX6_meantOf_6 : decode cX6_meantOf 6 = .ok (.iload_n 3, 1) := by decide +kernel
theorem dX6_meantOf_7 : decode cX6_meantOf 7 = .ok (.iconst 5, 1) := by decide +kernel
theorem dX6_meantOf_8 : decode cX6_meantOf 8 = .ok (.if_icmp .ge 42, 3) := by decide +kernel
theorem dX6_meantOf_11 : decode cX6_meantOf 11 = .ok (.aload_n 0, 1) := by decide +kernel
theorem dX6_meantOf_12 : decode cX6_meantOf 12 = .ok (.iload_n 3, 1) := by decide +kernel
theorem dX6_meantOf_13 : decode cX6_meantOf 13 = .ok (.ldc 62, 2) := by decide +kernel
theorem dX6_meantOf_15 : decode cX6_meantOf 15 = .ok (.invokevirtual 199, 3) := by decide +kernel
theorem dX6_meantOf_18 : decode cX6_meantOf 18 = .ok (.istore 4, 2) := by decide +kernel
theorem dX6_meantOf_20 : decode cX6_meantOf 20 = .ok (.iload_n 3, 1) := by decide +kernel
theorem dX6_meantOf_21 : decode cX6_meantOf 21 = .ok (.ifCond .eq 16, 3) := by decide +kernel
theorem dX6_meantOf_24 : decode cX6_meantOf 24 = .ok (.iload 4, 2) := by decide +kernel
theorem dX6_meantOf_26 : decode cX6_meantOf 26 = .ok (.ifCond .lt 18, 3) := by decide +kernel
theorem dX6_meantOf_29 : decode cX6_meantOf 29 = .ok (.aload_n 0, 1) := by decide +kernel
theorem dX6_meantOf_30 : decode cX6_meantOf 30 = .ok (.getfield 179, 3) := by decide +kernel
theorem dX6_meantOf_33 : decode cX6_meantOf 33 = .ok (.iload_n 2, 1) := by decide +kernel
theorem dX6_meantOf_34 : decode cX6_meantOf 34 = .ok (.if_icmp .ge 10, 3) := by decide +kernel
theorem dX6_meantOf_37 : decode cX6_meantOf 37 = .ok (.iload_n 3, 1) := by decide +kernel
theorem dX6_meantOf_38 : decode cX6_meantOf 38 = .ok (.istore_n 1, 1) := by decide +kernel
theorem dX6_meantOf_39 : decode cX6_meantOf 39 = .ok (.aload_n 0, 1) := by decide +kernel
theorem dX6_meantOf_40 : decode cX6_meantOf 40 = .ok (.getfield 179, 3) := by decide +kernel
theorem dX6_meantOf_43 : decode cX6_meantOf 43 = .ok (.istore_n 2, 1) := by decide +kernel
theorem dX6_meantOf_44 : decode cX6_meantOf 44 = .ok (.iinc 3 1, 3) := by decide +kernel
theorem dX6_meantOf_47 : decode cX6_meantOf 47 = .ok (.goto (-41), 3) := by decide +kernel
theorem dX6_meantOf_50 : decode cX6_meantOf 50 = .ok (.iload_n 1, 1) := by decide +kernel
theorem dX6_meantOf_51 : decode cX6_meantOf 51 = .ok (.ireturn, 1) := by decide +kernel
set_option maxRecDepth 20000 in
theorem ggX6_meant_X6_measuredKeys : GoodIn wsX6_meant wsX6_measuredKeys := goodIn_r _ [7, 8, 9, 10, 34, 35, 36, 37, 38, 39, 40, 41, 42, 43, 44, 45, 46, 47, 48, 49, 50, 51, 52, 53, 54] (by decide +kernel) (by decide +kernel)
set_option maxRecDepth 20000 in
theorem gX6_meant_X6_measuredKeys : GoodIn wsX6_meant (wsV RX6 196 RX6 yX6_measuredKeys wsX6_measuredKeys) := goodIn_app (goodIn_of _ (by decide +kernel)) ggX6_meant_X6_measuredKeys
set_option maxRecDepth 20000 in
theorem ggX6_meant_X6_meantOf : GoodIn wsX6_meant wsX6_meantOf := goodIn_r _ [14, 10, 15, 16, 17, 18, 6, 19, 20, 21, 22, 23, 24, 8, 9, 25, 26, 27, 28, 29, 30, 31, 32, 33, 34, 35, 36, 37, 38, 39, 40, 41, 42, 43, 44, 45, 46, 47, 48, 49, 50, 51, 52, 53, 54] (by decide +kernel) (by decide +kernel)
set_option maxRecDepth 20000 in
theorem gX6_meant_X6_meantOf : GoodIn wsX6_meant (wsV RX6 202 RX6 yX6_meantOf wsX6_meantOf) := goodIn_app (goodIn_of _ (by decide +kernel)) ggX6_meant_X6_meantOf
theorem dX6_meant_0 : decode cX6_meant 0 = .ok (.aload_n 0, 1) := by decide +kernel
theorem dX6_meant_1 : decode cX6_meant 1 = .ok (.iconst 0, 1) := by decide +kernel
theorem dX6_meant_2 : decode cX6_meant 2 = .ok (.putfield 63, 3) := by decide +kernel
theorem dX6_meant_5 : decode cX6_meant 5 = .ok (.aload_n 0, 1) := by decide +kernel
theorem dX6_meant_6 : decode cX6_meant 6 = .ok (.invokevirtual 196, 3) := by decide +kernel
theorem dX6_meant_9 : decode cX6_meant 9 = .ok (.ifCond .ne 8, 3) := by decide +kernel
theorem dX6_meant_12 : decode cX6_meant 12 = .ok (.ldc 148, 2) := by decide +kernel
theorem dX6_meant_14 : decode cX6_meant 14 = .ok (.goto 7, 3) := by decide +kernel
theorem dX6_meant_17 : decode cX6_meant 17 = .ok (.aload_n 0, 1) := by decide +kernel
theorem dX6_meant_18 : decode cX6_meant 18 = .ok (.invokevirtual 202, 3) := by decide +kernel
theorem dX6_meant_21 : decode cX6_meant 21 = .ok (.ireturn, 1) := by decide +kernel
set_option maxRecDepth 20000 in
theorem ggX6_added_X6_in : GoodIn wsX6_added wsX6_in := goodIn_r _ [11] (by decide +kernel) (by decide +kernel)
set_option maxRecDepth 20000 in
theorem gX6_added_X6_in : GoodIn wsX6_added (va_wsS RX6 66 yX6_in wsX6_in) := goodIn_app (goodIn_of _ (by decide +kernel)) ggX6_added_X6_in
set_option maxRecDepth 20000 in
theorem ggX6_added_X6_measuredKeys : GoodIn wsX6_added wsX6_measuredKeys := goodIn_r _ [15, 5, 6, 4, 38, 39, 40, 41, 42, 43, 44, 45, 46, 47, 48, 49, 50, 51, 52, 53, 54, 55, 56, 57, 58] (by decide +kernel) (by decide +kernel)
set_option maxRecDepth 20000 in
theorem gX6_added_X6_measuredKeys : GoodIn wsX6_added (wsV RX6 196 RX6 yX6_measuredKeys wsX6_measuredKeys) := goodIn_app (goodIn_of _ (by decide +kernel)) ggX6_added_X6_measuredKeys
set_option maxRecDepth 20000 in
theorem ggX6_added_X6_meantOf : GoodIn wsX6_added wsX6_meantOf := goodIn_r _ [19, 4, 7, 20, 21, 22, 10, 23, 24, 25, 26, 27, 28, 5, 6, 29, 30, 31, 32, 33, 34, 35, 36, 37, 38, 39, 40, 41, 42, 43, 44, 45, 46, 47, 48, 49, 50, 51, 52, 53, 54, 55, 56, 57, 58] (by decide +kernel) (by decide +kernel)
set_option maxRecDepth 20000 in
theorem gX6_added_X6_meantOf : GoodIn wsX6_added (wsV RX6 202 RX6 yX6_meantOf wsX6_meantOf) := goodIn_app (goodIn_of _ (by decide +kernel)) ggX6_added_X6_meantOf
set_option maxRecDepth 20000 in
theorem ggX6_added_X6_pitchOf : GoodIn wsX6_added wsX6_pitchOf := goodIn_r _ [23, 24, 7, 25, 26, 27, 10, 28, 5, 6, 4, 29, 30, 31, 32, 33, 34, 35, 36, 37, 38, 39, 40, 41, 42, 43, 44, 45, 46, 47, 48, 49, 50, 51, 52, 53, 54, 55, 56, 57, 58] (by decide +kernel) (by decide +kernel)
set_option maxRecDepth 20000 in
theorem gX6_added_X6_pitchOf : GoodIn wsX6_added (wsV RX6 199 RX6 yX6_pitchOf wsX6_pitchOf) := goodIn_app (goodIn_of _ (by decide +kernel)) ggX6_added_X6_pitchOf
theorem dX6_added_0 : decode cX6_added 0 = .ok (.aload_n 0, 1) := by decide +kernel
theorem dX6_added_1 : decode cX6_added 1 = .ok (.iconst 0, 1) := by decide +kernel
theorem dX6_added_2 : decode cX6_added 2 = .ok (.putfield 63, 3) := by decide +kernel
theorem dX6_added_5 : decode cX6_added 5 = .ok (.iload_n 1, 1) := by decide +kernel
theorem dX6_added_6 : decode cX6_added 6 = .ok (.i2l, 1) := by decide +kernel
theorem dX6_added_7 : decode cX6_added 7 = .ok (.lconst 0, 1) := by decide +kernel
theorem dX6_added_8 : decode cX6_added 8 = .ok (.lconst 1, 1) := by decide +kernel
theorem dX6_added_9 : decode cX6_added 9 = .ok (.invokestatic 66, 3) := by decide +kernel
theorem dX6_added_12 : decode cX6_added 12 = .ok (.ifCond .ne 6, 3) := by decide +kernel
theorem dX6_added_15 : decode cX6_added 15 = .ok (.ldc 78, 2) := by decide +kernel
theorem dX6_added_17 : decode cX6_added 17 = .ok (.ireturn, 1) := by decide +kernel
theorem dX6_added_18 : decode cX6_added 18 = .ok (.aload_n 0, 1) := by decide +kernel
theorem dX6_added_19 : decode cX6_added 19 = .ok (.invokevirtual 196, 3) := by decide +kernel
theorem dX6_added_22 : decode cX6_added 22 = .ok (.iconst 2, 1) := by decide +kernel
theorem dX6_added_23 : decode cX6_added 23 = .ok (.if_icmp .ge 6, 3) := by decide +kernel
theorem dX6_added_26 : decode cX6_added 26 = .ok (.ldc 148, 2) := by decide +kernel
theorem dX6_added_28 : decode cX6_added 28 = .ok (.ireturn, 1) := by decide +kernel
theorem dX6_added_29 : decode cX6_added 29 = .ok (.aload_n 0, 1) := by decide +kernel
theorem dX6_added_30 : decode cX6_added 30 = .ok (.invokevirtual 202, 3) := by decide +kernel
theorem dX6_added_33 : decode cX6_added 33 = .ok (.istore_n 2, 1) := by decide +kernel
theorem dX6_added_34 : decode cX6_added 34 = .ok (.ldc 62, 2) := by decide +kernel
theorem dX6_added_36 : decode cX6_added 36 = .ok (.istore_n 3, 1) := by decide +kernel
theorem dX6_added_37 : decode cX6_added 37 = .ok (.iconst 0, 1) := by decide +kernel
theorem dX6_added_38 : decode cX6_added 38 = .ok (.istore 4, 2) := by decide +kernel
theorem dX6_added_40 : decode cX6_added 40 = .ok (.iconst 0, 1) := by decide +kernel
theorem dX6_added_41 : decode cX6_added 41 = .ok (.istore 5, 2) := by decide +kernel
theorem dX6_added_43 : decode cX6_added 43 = .ok (.iload 5, 2) := by decide +kernel
theorem dX6_added_45 : decode cX6_added 45 = .ok (.aload_n 0, 1) := by decide +kernel
theorem dX6_added_46 : decode cX6_added 46 = .ok (.getfield 7, 3) := by decide +kernel
theorem dX6_added_49 : decode cX6_added 49 = .ok (.if_icmp .ge 59, 3) := by decide +kernel
theorem dX6_added_52 : decode cX6_added 52 = .ok (.aload_n 0, 1) := by decide +kernel
theorem dX6_added_53 : decode cX6_added 53 = .ok (.getfield 50, 3) := by decide +kernel
theorem dX6_added_56 : decode cX6_added 56 = .ok (.iload 5, 2) := by decide +kernel
theorem dX6_added_58 : decode cX6_added 58 = .ok (.iaload, 1) := by decide +kernel
theorem dX6_added_59 : decode cX6_added 59 = .ok (.ldc 62, 2) := by decide +kernel
theorem dX6_added_61 : decode cX6_added 61 = .ok (.if_icmp .eq 41, 3) := by decide +kernel
theorem dX6_added_64 : decode cX6_added 64 = .ok (.aload_n 0, 1) := by decide +kernel
theorem dX6_added_65 : decode cX6_added 65 = .ok (.iload_n 2, 1) := by decide +kernel
theorem dX6_added_66 : decode cX6_added 66 = .ok (.iload 5, 2) := by decide +kernel
theorem dX6_added_68 : decode cX6_added 68 = .ok (.invokevirtual 199, 3) := by decide +kernel
theorem dX6_added_71 : decode cX6_added 71 = .ok (.istore 6, 2) := by decide +kernel
theorem dX6_added_73 : decode cX6_added 73 = .ok (.iload_n 3, 1) := by decide +kernel
theorem dX6_added_74 : decode cX6_added 74 = .ok (.ldc 62, 2) := by decide +kernel
theorem dX6_added_76 : decode cX6_added 76 = .ok (.if_icmp .eq 17, 3) := by decide +kernel
theorem dX6_added_79 : decode cX6_added 79 = .ok (.iload 6, 2) := by decide +kernel
theorem dX6_added_81 : decode cX6_added 81 = .ok (.ifCond .lt 21, 3) := by decide +kernel
theorem dX6_added_84 : decode cX6_added 84 = .ok (.aload_n 0, 1) := by decide +kernel
theorem dX6_added_85 : decode cX6_added 85 = .ok (.getfield 179, 3) := by decide +kernel
theorem dX6_added_88 : decode cX6_added 88 = .ok (.iload 4, 2) := by decide +kernel
theorem dX6_added_90 : decode cX6_added 90 = .ok (.if_icmp .ge 12, 3) := by decide +kernel
theorem dX6_added_93 : decode cX6_added 93 = .ok (.iload 5, 2) := by decide +kernel
theorem dX6_added_95 : decode cX6_added 95 = .ok (.istore_n 3, 1) := by decide +kernel
theorem dX6_added_96 : decode cX6_added 96 = .ok (.aload_n 0, 1) := by decide +kernel
theorem dX6_added_97 : decode cX6_added 97 = .ok (.getfield 179, 3) := by decide +kernel
theorem dX6_added_100 : decode cX6_added 100 = .ok (.istore 4, 2) := by decide +kernel
theorem dX6_added_102 : decode cX6_added 102 = .ok (.iinc 5 1, 3) := by decide +kernel
theorem dX6_added_105 : decode cX6_added 105 = .ok (.goto (-62), 3) := by decide +kernel
theorem dX6_added_108 : decode cX6_added 108 = .ok (.iload_n 1, 1) := by decide +kernel
theorem dX6_added_109 : decode cX6_added 109 = .ok (.ifCond .ne 7, 3) := by decide +kernel
theorem dX6_added_112 : decode cX6_added 112 = .ok (.iload_n 3, 1) := by decide +kernel
theorem dX6_added_113 : decode cX6_added 113 = .ok (.goto 5, 3) := by decide +kernel
theorem dX6_added_116 : decode cX6_added 116 = .ok (.iload 4, 2) := by decide +kernel
theorem dX6_added_118 : decode cX6_added 118 = .ok (.ireturn, 1) := by decide +kernel
set_option maxRecDepth 20000 in
theorem ggX6_bentLater_X6_in : GoodIn wsX6_bentLater wsX6_in := goodIn_r _ [11] (by decide +kernel) (by decide +kernel)
set_option maxRecDepth 20000 in
theorem gX6_bentLater_X6_in : GoodIn wsX6_bentLater (va_wsS RX6 66 yX6_in wsX6_in) := goodIn_app (goodIn_of _ (by decide +kernel)) ggX6_bentLater_X6_in
set_option maxRecDepth 20000 in
theorem ggX6_bentLater_X6_measuredKeys : GoodIn wsX6_bentLater wsX6_measuredKeys := goodIn_r _ [15, 6, 7, 5, 39, 40, 41, 42, 43, 44, 45, 46, 47, 48, 49, 50, 51, 52, 53, 54, 55, 56, 57, 58, 59] (by decide +kernel) (by decide +kernel)
set_option maxRecDepth 20000 in
theorem gX6_bentLater_X6_measuredKeys : GoodIn wsX6_bentLater (wsV RX6 196 RX6 yX6_measuredKeys wsX6_measuredKeys) := goodIn_app (goodIn_of _ (by decide +kernel)) ggX6_bentLater_X6_measuredKeys
set_option maxRecDepth 20000 in
theorem ggX6_bentLater_X6_meantOf : GoodIn wsX6_bentLater wsX6_meantOf := goodIn_r _ [19, 5, 20, 21, 22, 23, 10, 24, 25, 26, 27, 28, 29, 6, 7, 30, 31, 32, 33, 34, 35, 36, 37, 38, 39, 40, 41, 42, 43, 44, 45, 46, 47, 48, 49, 50, 51, 52, 53, 54, 55, 56, 57, 58, 59] (by decide +kernel) (by decide +kernel)
set_option maxRecDepth 20000 in
theorem gX6_bentLater_X6_meantOf : GoodIn wsX6_bentLater (wsV RX6 202 RX6 yX6_meantOf wsX6_meantOf) := goodIn_app (goodIn_of _ (by decide +kernel)) ggX6_bentLater_X6_meantOf
set_option maxRecDepth 20000 in
theorem ggX6_bentLater_X6_pitchOf : GoodIn wsX6_bentLater wsX6_pitchOf := goodIn_r _ [24, 25, 20, 26, 27, 28, 10, 29, 6, 7, 5, 30, 31, 32, 33, 34, 35, 36, 37, 38, 39, 40, 41, 42, 43, 44, 45, 46, 47, 48, 49, 50, 51, 52, 53, 54, 55, 56, 57, 58, 59] (by decide +kernel) (by decide +kernel)
set_option maxRecDepth 20000 in
theorem gX6_bentLater_X6_pitchOf : GoodIn wsX6_bentLater (wsV RX6 199 RX6 yX6_pitchOf wsX6_pitchOf) := goodIn_app (goodIn_of _ (by decide +kernel)) ggX6_bentLater_X6_pitchOf
set_option maxRecDepth 20000 in
theorem ggX6_bentLater_X6_goalOf : GoodIn wsX6_bentLater wsX6_goalOf := goodIn_r _ [33, 34, 35, 39, 40, 41, 42, 43, 44, 45, 46, 47, 48, 49, 50, 51, 52, 53, 54, 55, 56, 57, 58, 59] (by decide +kernel) (by decide +kernel)
set_option maxRecDepth 20000 in
theorem gX6_bentLater_X6_goalOf : GoodIn wsX6_bentLater (wsV RX6 109 RX6 yX6_goalOf wsX6_goalOf) := goodIn_app (goodIn_of _ (by decide +kernel)) ggX6_bentLater_X6_goalOf
set_option maxRecDepth 20000 in
theorem ggX6_bentLater_X6_size : GoodIn wsX6_bentLater wsX6_size := goodIn_r _ [38] (by decide +kernel) (by decide +kernel)
set_option maxRecDepth 20000 in
theorem gX6_bentLater_X6_size : GoodIn wsX6_bentLater (va_wsS RX6 132 yX6_size wsX6_size) := goodIn_app (goodIn_of _ (by decide +kernel)) ggX6_bentLater_X6_size
theorem dX6_bentLater_0 : decode cX6_bentLater 0 = .ok (.aload_n 0, 1) := by decide +kernel
theorem dX6_bentLater_1 : decode cX6_bentLater 1 = .ok (.iconst 0, 1) := by decide +kernel
theorem dX6_bentLater_2 : decode cX6_bentLater 2 = .ok (.putfield 63, 3) := by decide +kernel
theorem dX6_bentLater_5 : decode cX6_bentLater 5 = .ok (.iload_n 1, 1) := by decide +kernel
theorem dX6_bentLater_6 : decode cX6_bentLater 6 = .ok (.i2l, 1) := by decide +kernel
theorem dX6_bentLater_7 : decode cX6_bentLater 7 = .ok (.lconst 0, 1) := by decide +kernel
theorem dX6_bentLater_8 : decode cX6_bentLater 8 = .ok (.ldc2_w 190, 3) := by decide +kernel
theorem dX6_bentLater_11 : decode cX6_bentLater 11 = .ok (.invokestatic 66, 3) := by decide +kernel
theorem dX6_bentLater_14 : decode cX6_bentLater 14 = .ok (.ifCond .ne 6, 3) := by decide +kernel
theorem dX6_bentLater_17 : decode cX6_bentLater 17 = .ok (.ldc 78, 2) := by decide +kernel
theorem dX6_bentLater_19 : decode cX6_bentLater 19 = .ok (.ireturn, 1) := by decide +kernel
theorem dX6_bentLater_20 : decode cX6_bentLater 20 = .ok (.aload_n 0, 1) := by decide +kernel
theorem dX6_bentLater_21 : decode cX6_bentLater 21 = .ok (.invokevirtual 196, 3) := by decide +kernel
theorem dX6_bentLater_24 : decode cX6_bentLater 24 = .ok (.ifCond .ne 6, 3) := by decide +kernel
theorem dX6_bentLater_27 : decode cX6_bentLater 27 = .ok (.ldc 148, 2) := by decide +kernel
theorem dX6_bentLater_29 : decode cX6_bentLater 29 = .ok (.ireturn, 1) := by decide +kernel
theorem dX6_bentLater_30 : decode cX6_bentLater 30 = .ok (.aload_n 0, 1) := by decide +kernel
theorem dX6_bentLater_31 : decode cX6_bentLater 31 = .ok (.invokevirtual 202, 3) := by decide +kernel
theorem dX6_bentLater_34 : decode cX6_bentLater 34 = .ok (.istore_n 3, 1) := by decide +kernel
theorem dX6_bentLater_35 : decode cX6_bentLater 35 = .ok (.aload_n 0, 1) := by decide +kernel
theorem dX6_bentLater_36 : decode cX6_bentLater 36 = .ok (.iload_n 3, 1) := by decide +kernel
theorem dX6_bentLater_37 : decode cX6_bentLater 37 = .ok (.ldc 62, 2) := by decide +kernel
theorem dX6_bentLater_39 : decode cX6_bentLater 39 = .ok (.invokevirtual 199, 3) := by decide +kernel
theorem dX6_bentLater_42 : decode cX6_bentLater 42 = .ok (.istore 4, 2) := by decide +kernel
theorem dX6_bentLater_44 : decode cX6_bentLater 44 = .ok (.iconst 0, 1) := by decide +kernel
theorem dX6_bentLater_45 : decode cX6_bentLater 45 = .ok (.istore 5, 2) := by decide +kernel
theorem dX6_bentLater_47 : decode cX6_bentLater 47 = .ok (.iconst 0, 1) := by decide +kernel
theorem dX6_bentLater_48 : decode cX6_bentLater 48 = .ok (.istore 6, 2) := by decide +kernel
theorem dX6_bentLater_50 : decode cX6_bentLater 50 = .ok (.iload 6, 2) := by decide +kernel
theorem dX6_bentLater_52 : decode cX6_bentLater 52 = .ok (.aload_n 0, 1) := by decide +kernel
theorem dX6_bentLater_53 : decode cX6_bentLater 53 = .ok (.getfield 7, 3) := by decide +kernel
theorem dX6_bentLater_56 : decode cX6_bentLater 56 = .ok (.if_icmp .ge 57, 3) := by decide +kernel
theorem dX6_bentLater_59 : decode cX6_bentLater 59 = .ok (.aload_n 0, 1) := by decide +kernel
theorem dX6_bentLater_60 : decode cX6_bentLater 60 = .ok (.getfield 50, 3) := by decide +kernel
theorem dX6_bentLater_63 : decode cX6_bentLater 63 = .ok (.iload 6, 2) := by decide +kernel
theorem dX6_bentLater_65 : decode cX6_bentLater 65 = .ok (.iaload, 1) := by decide +kernel
theorem dX6_bentLater_66 : decode cX6_bentLater 66 = .ok (.ldc 62, 2) := by decide +kernel
theorem dX6_bentLater_68 : decode cX6_bentLater 68 = .ok (.if_icmp .eq 39, 3) := by decide +kernel
theorem dX6_bentLater_71 : decode cX6_bentLater 71 = .ok (.aload_n 0, 1) := by decide +kernel
theorem dX6_bentLater_72 : decode cX6_bentLater 72 = .ok (.iload 6, 2) := by decide +kernel
theorem dX6_bentLater_74 : decode cX6_bentLater 74 = .ok (.iload_n 3, 1) := by decide +kernel
theorem dX6_bentLater_75 : decode cX6_bentLater 75 = .ok (.iload 4, 2) := by decide +kernel
theorem dX6_bentLater_77 : decode cX6_bentLater 77 = .ok (.invokevirtual 109, 3) := by decide +kernel
theorem dX6_bentLater_80 : decode cX6_bentLater 80 = .ok (.aload_n 0, 1) := by decide +kernel
theorem dX6_bentLater_81 : decode cX6_bentLater 81 = .ok (.getfield 50, 3) := by decide +kernel
theorem dX6_bentLater_84 : decode cX6_bentLater 84 = .ok (.iload 6, 2) := by decide +kernel
theorem dX6_bentLater_86 : decode cX6_bentLater 86 = .ok (.iaload, 1) := by decide +kernel
theorem dX6_bentLater_87 : decode cX6_bentLater 87 = .ok (.isub, 1) := by decide +kernel
theorem dX6_bentLater_88 : decode cX6_bentLater 88 = .ok (.invokestatic 132, 3) := by decide +kernel
theorem dX6_bentLater_91 : decode cX6_bentLater 91 = .ok (.iload_n 1, 1) := by decide +kernel
theorem dX6_bentLater_92 : decode cX6_bentLater 92 = .ok (.if_icmp .le 15, 3) := by decide +kernel
theorem dX6_bentLater_95 : decode cX6_bentLater 95 = .ok (.iload 5, 2) := by decide +kernel
theorem dX6_bentLater_97 : decode cX6_bentLater 97 = .ok (.iload_n 2, 1) := by decide +kernel
theorem dX6_bentLater_98 : decode cX6_bentLater 98 = .ok (.if_icmp .ne 6, 3) := by decide +kernel
theorem dX6_bentLater_101 : decode cX6_bentLater 101 = .ok (.iload 6, 2) := by decide +kernel
theorem dX6_bentLater_103 : decode cX6_bentLater 103 = .ok (.ireturn, 1) := by decide +kernel
theorem dX6_bentLater_104 : decode cX6_bentLater 104 = .ok (.iinc 5 1, 3) := by decide +kernel
theorem dX6_bentLater_107 : decode cX6_bentLater 107 = .ok (.iinc 6 1, 3) := by decide +kernel
theorem dX6_bentLater_110 : decode cX6_bentLater 110 = .ok (.goto (-60), 3) := by decide +kernel
theorem dX6_bentLater_113 : decode cX6_bentLater 113 = .ok (.ldc 62, 2) := by decide +kernel
theorem dX6_bentLater_115 : decode cX6_bentLater 115 = .ok (.ireturn, 1) := by decide +kernel
set_option maxRecDepth 20000 in
theorem ggX6_count_X6_onString : GoodIn wsX6_count wsX6_onString := goodIn_r _ [11, 4, 12, 19, 20, 21, 22, 23, 24, 25, 26, 27, 28, 29, 30, 31, 32, 33, 34, 35, 36, 37, 38, 39] (by decide +kernel) (by decide +kernel)
set_option maxRecDepth 20000 in
theorem gX6_count_X6_onString : GoodIn wsX6_count (wsV RX6 118 RX6 yX6_onString wsX6_onString) := goodIn_app (goodIn_of _ (by decide +kernel)) ggX6_count_X6_onString
set_option maxRecDepth 20000 in
theorem ggX6_count_X6_measuredKeys : GoodIn wsX6_count wsX6_measuredKeys := goodIn_r _ [16, 4, 17, 18, 19, 20, 21, 22, 23, 24, 25, 26, 27, 28, 29, 30, 31, 32, 33, 34, 35, 36, 37, 38, 39] (by decide +kernel) (by decide +kernel)
set_option maxRecDepth 20000 in
theorem gX6_count_X6_measuredKeys : GoodIn wsX6_count (wsV RX6 196 RX6 yX6_measuredKeys wsX6_measuredKeys) := goodIn_app (goodIn_of _ (by decide +kernel)) ggX6_count_X6_measuredKeys
theorem dX6_count_0 : decode cX6_count 0 = .ok (.aload_n 0, 1) := by decide +kernel
theorem dX6_count_1 : decode cX6_count 1 = .ok (.iconst 0, 1) := by decide +kernel
theorem dX6_count_2 : decode cX6_count 2 = .ok (.putfield 63, 3) := by decide +kernel
theorem dX6_count_5 : decode cX6_count 5 = .ok (.iconst 0, 1) := by decide +kernel
theorem dX6_count_6 : decode cX6_count 6 = .ok (.istore_n 2, 1) := by decide +kernel
theorem dX6_count_7 : decode cX6_count 7 = .ok (.iconst 0, 1) := by decide +kernel
theorem dX6_count_8 : decode cX6_count 8 = .ok (.istore_n 3, 1) := by decide +kernel
theorem dX6_count_9 : decode cX6_count 9 = .ok (.iconst 0, 1) := by decide +kernel
theorem dX6_count_10 : decode cX6_count 10 = .ok (.istore 4, 2) := by decide +kernel
theorem dX6_count_12 : decode cX6_count 12 = .ok (.iconst 0, 1) := by decide +kernel
theorem dX6_count_13 : decode cX6_count 13 = .ok (.istore 5, 2) := by decide +kernel
theorem dX6_count_15 : decode cX6_count 15 = .ok (.iconst 0, 1) := by decide +kernel
theorem dX6_count_16 : decode cX6_count 16 = .ok (.istore 6, 2) := by decide +kernel
theorem dX6_count_18 : decode cX6_count 18 = .ok (.iload 6, 2) := by decide +kernel
theorem dX6_count_20 : decode cX6_count 20 = .ok (.bipush 24, 2) := by decide +kernel
theorem dX6_count_22 : decode cX6_count 22 = .ok (.if_icmp .ge 26, 3) := by decide +kernel
theorem dX6_count_25 : decode cX6_count 25 = .ok (.iload_n 2, 1) := by decide +kernel
theorem dX6_count_26 : decode cX6_count 26 = .ok (.aload_n 0, 1) := by decide +kernel
theorem dX6_count_27 : decode cX6_count 27 = .ok (.iload 6, 2) := by decide +kernel
theorem dX6_count_29 : decode cX6_count 29 = .ok (.invokevirtual 118, 3) := by decide +kernel
theorem dX6_count_32 : decode cX6_count 32 = .ok (.ifCond .le 7, 3) := by decide +kernel
theorem dX6_count_35 : decode cX6_count 35 = .ok (.iconst 1, 1) := by decide +kernel
theorem dX6_count_36 : decode cX6_count 36 = .ok (.goto 4, 3) := by decide +kernel
theorem dX6_count_39 : decode cX6_count 39 = .ok (.iconst 0, 1) := by decide +kernel
theorem dX6_count_40 : decode cX6_count 40 = .ok (.iadd, 1) := by decide +kernel
theorem dX6_count_41 : decode cX6_count 41 = .ok (.istore_n 2, 1) := by decide +kernel
theorem dX6_count_42 : decode cX6_count 42 = .ok (.iinc 6 1, 3) := by decide +kernel
theorem dX6_count_45 : decode cX6_count 45 = .ok (.goto (-27), 3) := by decide +kernel
theorem dX6_count_48 : decode cX6_count 48 = .ok (.iconst 0, 1) := by decide +kernel
theorem dX6_count_49 : decode cX6_count 49 = .ok (.istore 6, 2) := by decide +kernel
theorem dX6_count_51 : decode cX6_count 51 = .ok (.iload 6, 2) := by decide +kernel
theorem dX6_count_53 : decode cX6_count 53 = .ok (.iconst 4, 1) := by decide +kernel
theorem dX6_count_54 : decode cX6_count 54 = .ok (.if_icmp .ge 33, 3) := by decide +kernel
theorem dX6_count_57 : decode cX6_count 57 = .ok (.iload_n 3, 1) := by decide +kernel
theorem dX6_count_58 : decode cX6_count 58 = .ok (.aload_n 0, 1) := by decide +kernel
theorem dX6_count_59 : decode cX6_count 59 = .ok (.getfield 35, 3) := by decide +kernel
theorem dX6_count_62 : decode cX6_count 62 = .ok (.iload 6, 2) := by decide +kernel
theorem dX6_count_64 : decode cX6_count 64 = .ok (.iaload, 1) := by decide +kernel
theorem dX6_count_65 : decode cX6_count 65 = .ok (.iadd, 1) := by decide +kernel
theorem dX6_count_66 : decode cX6_count 66 = .ok (.istore_n 3, 1) := by decide +kernel
theorem dX6_count_67 : decode cX6_count 67 = .ok (.iload 4, 2) := by decide +kernel
theorem dX6_count_69 : decode cX6_count 69 = .ok (.aload_n 0, 1) := by decide +kernel
theorem dX6_count_70 : decode cX6_count 70 = .ok (.getfield 167, 3) := by decide +kernel
theorem dX6_count_73 : decode cX6_count 73 = .ok (.iload 6, 2) := by decide +kernel
theorem dX6_count_75 : decode cX6_count 75 = .ok (.ishr, 1) := by decide +kernel
theorem dX6_count_76 : decode cX6_count 76 = .ok (.iconst 1, 1) := by decide +kernel
theorem dX6_count_77 : decode cX6_count 77 = .ok (.iand, 1) := by decide +kernel
theorem dX6_count_78 : decode cX6_count 78 = .ok (.iadd, 1) := by decide +kernel
theorem dX6_count_79 : decode cX6_count 79 = .ok (.istore 4, 2) := by decide +kernel
theorem dX6_count_81 : decode cX6_count 81 = .ok (.iinc 6 1, 3) := by decide +kernel
theorem dX6_count_84 : decode cX6_count 84 = .ok (.goto (-33), 3) := by decide +kernel
theorem dX6_count_87 : decode cX6_count 87 = .ok (.iconst 0, 1) := by decide +kernel
theorem dX6_count_88 : decode cX6_count 88 = .ok (.istore 6, 2) := by decide +kernel
theorem dX6_count_90 : decode cX6_count 90 = .ok (.iload 6, 2) := by decide +kernel
theorem dX6_count_92 : decode cX6_count 92 = .ok (.aload_n 0, 1) := by decide +kernel
theorem dX6_count_93 : decode cX6_count 93 = .ok (.getfield 7, 3) := by decide +kernel
theorem dX6_count_96 : decode cX6_count 96 = .ok (.if_icmp .ge 29, 3) := by decide +kernel
theorem dX6_count_99 : decode cX6_count 99 = .ok (.iload 5, 2) := by decide +kernel
theorem dX6_count_101 : decode cX6_count 101 = .ok (.aload_n 0, 1) := by decide +kernel
theorem dX6_count_102 : decode cX6_count 102 = .ok (.getfield 20, 3) := by decide +kernel
theorem dX6_count_105 : decode cX6_count 105 = .ok (.iload 6, 2) := by decide +kernel
theorem dX6_count_107 : decode cX6_count 107 = .ok (.iaload, 1) := by decide +kernel
theorem dX6_count_108 : decode cX6_count 108 = .ok (.ifCond .ne 7, 3) := by decide +kernel
theorem dX6_count_111 : decode cX6_count 111 = .ok (.iconst 0, 1) := by decide +kernel
theorem dX6_count_112 : decode cX6_count 112 = .ok (.goto 4, 3) := by decide +kernel
theorem dX6_count_115 : decode cX6_count 115 = .ok (.iconst 1, 1) := by decide +kernel
theorem dX6_count_116 : decode cX6_count 116 = .ok (.iadd, 1) := by decide +kernel
theorem dX6_count_117 : decode cX6_count 117 = .ok (.istore 5, 2) := by decide +kernel
theorem dX6_count_119 : decode cX6_count 119 = .ok (.iinc 6 1, 3) := by decide +kernel
theorem dX6_count_122 : decode cX6_count 122 = .ok (.goto (-32), 3) := by decide +kernel
theorem dX6_count_125 : decode cX6_count 125 = .ok (.iload_n 1, 1) := by decide +kernel
theorem dX6_count_126 : decode cX6_count 126 = .ok (.tableswitch 58 0 5 #[38, 43, 45, 47, 50, 55], 38) := by decide +kernel
theorem dX6_count_164 : decode cX6_count 164 = .ok (.aload_n 0, 1) := by decide +kernel
theorem dX6_count_165 : decode cX6_count 165 = .ok (.getfield 7, 3) := by decide +kernel
theorem dX6_count_168 : decode cX6_count 168 = .ok (.ireturn, 1) := by decide +kernel
theorem dX6_count_169 : decode cX6_count 169 = .ok (.iload_n 2, 1) := by decide +kernel
theorem dX6_count_170 : decode cX6_count 170 = .ok (.ireturn, 1) := by decide +kernel
theorem dX6_count_171 : decode cX6_count 171 = .ok (.iload_n 3, 1) := by decide +kernel
theorem dX6_count_172 : decode cX6_count 172 = .ok (.ireturn, 1) := by decide +kernel
theorem dX6_count_173 : decode cX6_count 173 = .ok (.iload 4, 2) := by decide +kernel
theorem dX6_count_175 : decode cX6_count 175 = .ok (.ireturn, 1) := by decide +kernel
theorem dX6_count_176 : decode cX6_count 176 = .ok (.aload_n 0, 1) := by decide +kernel
theorem dX6_count_177 : decode cX6_count 177 = .ok (.invokevirtual 196, 3) := by decide +kernel
theorem dX6_count_180 : decode cX6_count 180 = .ok (.ireturn, 1) := by decide +kernel
theorem dX6_count_181 : decode cX6_count 181 = .ok (.iload 5, 2) := by decide +kernel
theorem dX6_count_183 : decode cX6_count 183 = .ok (.ireturn, 1) := by decide +kernel
theorem dX6_count_184 : decode cX6_count 184 = .ok (.ldc 78, 2) := by decide +kernel
theorem dX6_count_186 : decode cX6_count 186 = .ok (.ireturn, 1) := by decide +kernel
