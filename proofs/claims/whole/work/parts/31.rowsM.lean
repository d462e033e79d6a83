theorem dX6_init_0 : decode cX6_init 0 = .ok (.aload_n 0, 1) := by decide +kernel
theorem dX6_init_1 : decode cX6_init 1 = .ok (.invokespecial 1, 3) := by decide +kernel
theorem dX6_init_4 : decode cX6_init 4 = .ok (.aload_n 0, 1) := by decide +kernel
theorem dX6_init_5 : decode cX6_init 5 = .ok (.bipush 12, 2) := by decide +kernel
theorem dX6_init_7 : decode cX6_init 7 = .ok (.putfield 7, 3) := by decide +kernel
theorem dX6_init_10 : decode cX6_init 10 = .ok (.aload_n 0, 1) := by decide +kernel
theorem dX6_init_11 : decode cX6_init 11 = .ok (.bipush 30, 2) := by decide +kernel
theorem dX6_init_13 : decode cX6_init 13 = .ok (.newarray .int, 2) := by decide +kernel
theorem dX6_init_15 : decode cX6_init 15 = .ok (.dup, 1) := by decide +kernel
theorem dX6_init_16 : decode cX6_init 16 = .ok (.iconst 0, 1) := by decide +kernel
theorem dX6_init_17 : decode cX6_init 17 = .ok (.bipush 10, 2) := by decide +kernel
theorem dX6_init_19 : decode cX6_init 19 = .ok (.iastore, 1) := by decide +kernel
theorem dX6_init_20 : decode cX6_init 20 = .ok (.dup, 1) := by decide +kernel
theorem dX6_init_21 : decode cX6_init 21 = .ok (.iconst 1, 1) := by decide +kernel
theorem dX6_init_22 : decode cX6_init 22 = .ok (.bipush 20, 2) := by decide +kernel
theorem dX6_init_24 : decode cX6_init 24 = .ok (.iastore, 1) := by decide +kernel
theorem dX6_init_25 : decode cX6_init 25 = .ok (.dup, 1) := by decide +kernel
theorem dX6_init_26 : decode cX6_init 26 = .ok (.iconst 2, 1) := by decide +kernel
theorem dX6_init_27 : decode cX6_init 27 = .ok (.bipush 35, 2) := by decide +kernel
theorem dX6_init_29 : decode cX6_init 29 = .ok (.iastore, 1) := by decide +kernel
theorem dX6_init_30 : decode cX6_init 30 = .ok (.dup, 1) := by decide +kernel
theorem dX6_init_31 : decode cX6_init 31 = .ok (.iconst 3, 1) := by decide +kernel
theorem dX6_init_32 : decode cX6_init 32 = .ok (.bipush 55, 2) := by decide +kernel
theorem dX6_init_34 : decode cX6_init 34 = .ok (.iastore, 1) := by decide +kernel
theorem dX6_init_35 : decode cX6_init 35 = .ok (.dup, 1) := by decide +kernel
theorem dX6_init_36 : decode cX6_init 36 = .ok (.iconst 4, 1) := by decide +kernel
theorem dX6_init_37 : decode cX6_init 37 = .ok (.bipush 75, 2) := by decide +kernel
theorem dX6_init_39 : decode cX6_init 39 = .ok (.iastore, 1) := by decide +kernel
theorem dX6_init_40 : decode cX6_init 40 = .ok (.dup, 1) := by decide +kernel
theorem dX6_init_41 : decode cX6_init 41 = .ok (.iconst 5, 1) := by decide +kernel
theorem dX6_init_42 : decode cX6_init 42 = .ok (.bipush 90, 2) := by decide +kernel
theorem dX6_init_44 : decode cX6_init 44 = .ok (.iastore, 1) := by decide +kernel
theorem dX6_init_45 : decode cX6_init 45 = .ok (.dup, 1) := by decide +kernel
theorem dX6_init_46 : decode cX6_init 46 = .ok (.bipush 6, 2) := by decide +kernel
theorem dX6_init_48 : decode cX6_init 48 = .ok (.bipush 95, 2) := by decide +kernel
theorem dX6_init_50 : decode cX6_init 50 = .ok (.iastore, 1) := by decide +kernel
theorem dX6_init_51 : decode cX6_init 51 = .ok (.dup, 1) := by decide +kernel
theorem dX6_init_52 : decode cX6_init 52 = .ok (.bipush 7, 2) := by decide +kernel
theorem dX6_init_54 : decode cX6_init 54 = .ok (.bipush 85, 2) := by decide +kernel
theorem dX6_init_56 : decode cX6_init 56 = .ok (.iastore, 1) := by decide +kernel
theorem dX6_init_57 : decode cX6_init 57 = .ok (.dup, 1) := by decide +kernel
theorem dX6_init_58 : decode cX6_init 58 = .ok (.bipush 8, 2) := by decide +kernel
theorem dX6_init_60 : decode cX6_init 60 = .ok (.bipush 65, 2) := by decide +kernel
theorem dX6_init_62 : decode cX6_init 62 = .ok (.iastore, 1) := by decide +kernel
theorem dX6_init_63 : decode cX6_init 63 = .ok (.dup, 1) := by decide +kernel
theorem dX6_init_64 : decode cX6_init 64 = .ok (.bipush 9, 2) := by decide +kernel
theorem dX6_init_66 : decode cX6_init 66 = .ok (.bipush 45, 2) := by decide +kernel
theorem dX6_init_68 : decode cX6_init 68 = .ok (.iastore, 1) := by decide +kernel
theorem dX6_init_69 : decode cX6_init 69 = .ok (.dup, 1) := by decide +kernel
theorem dX6_init_70 : decode cX6_init 70 = .ok (.bipush 10, 2) := by decide +kernel
theorem dX6_init_72 : decode cX6_init 72 = .ok (.bipush 25, 2) := by decide +kernel
theorem dX6_init_74 : decode cX6_init 74 = .ok (.iastore, 1) := by decide +kernel
theorem dX6_init_75 : decode cX6_init 75 = .ok (.dup, 1) := by decide +kernel
theorem dX6_init_76 : decode cX6_init 76 = .ok (.bipush 11, 2) := by decide +kernel
theorem dX6_init_78 : decode cX6_init 78 = .ok (.bipush 12, 2) := by decide +kernel
theorem dX6_init_80 : decode cX6_init 80 = .ok (.iastore, 1) := by decide +kernel
theorem dX6_init_81 : decode cX6_init 81 = .ok (.dup, 1) := by decide +kernel
theorem dX6_init_82 : decode cX6_init 82 = .ok (.bipush 12, 2) := by decide +kernel
theorem dX6_init_84 : decode cX6_init 84 = .ok (.iconst 0, 1) := by decide +kernel
theorem dX6_init_85 : decode cX6_init 85 = .ok (.iastore, 1) := by decide +kernel
theorem dX6_init_86 : decode cX6_init 86 = .ok (.dup, 1) := by decide +kernel
theorem dX6_init_87 : decode cX6_init 87 = .ok (.bipush 13, 2) := by decide +kernel
theorem dX6_init_89 : decode cX6_init 89 = .ok (.iconst 0, 1) := by decide +kernel
theorem dX6_init_90 : decode cX6_init 90 = .ok (.iastore, 1) := by decide +kernel
theorem dX6_init_91 : decode cX6_init 91 = .ok (.dup, 1) := by decide +kernel
theorem dX6_init_92 : decode cX6_init 92 = .ok (.bipush 14, 2) := by decide +kernel
theorem dX6_init_94 : decode cX6_init 94 = .ok (.iconst 0, 1) := by decide +kernel
theorem dX6_init_95 : decode cX6_init 95 = .ok (.iastore, 1) := by decide +kernel
theorem dX6_init_96 : decode cX6_init 96 = .ok (.dup, 1) := by decide +kernel
theorem dX6_init_97 : decode cX6_init 97 = .ok (.bipush 15, 2) := by decide +kernel
theorem dX6_init_99 : decode cX6_init 99 = .ok (.iconst 0, 1) := by decide +kernel
theorem dX6_init_100 : decode cX6_init 100 = .ok (.iastore, 1) := by decide +kernel
theorem dX6_init_101 : decode cX6_init 101 = .ok (.dup, 1) := by decide +kernel
theorem dX6_init_102 : decode cX6_init 102 = .ok (.bipush 16, 2) := by decide +kernel
theorem dX6_init_104 : decode cX6_init 104 = .ok (.iconst 0, 1) := by decide +kernel
theorem dX6_init_105 : decode cX6_init 105 = .ok (.iastore, 1) := by decide +kernel
theorem dX6_init_106 : decode cX6_init 106 = .ok (.dup, 1) := by decide +kernel
theorem dX6_init_107 : decode cX6_init 107 = .ok (.bipush 17, 2) := by decide +kernel
theorem dX6_init_109 : decode cX6_init 109 = .ok (.iconst 0, 1) := by decide +kernel
theorem dX6_init_110 : decode cX6_init 110 = .ok (.iastore, 1) := by decide +kernel
theorem dX6_init_111 : decode cX6_init 111 = .ok (.dup, 1) := by decide +kernel
theorem dX6_init_112 : decode cX6_init 112 = .ok (.bipush 18, 2) := by decide +kernel
theorem dX6_init_114 : decode cX6_init 114 = .ok (.iconst 0, 1) := by decide +kernel
theorem dX6_init_115 : decode cX6_init 115 = .ok (.iastore, 1) := by decide +kernel
theorem dX6_init_116 : decode cX6_init 116 = .ok (.dup, 1) := by decide +kernel
theorem dX6_init_117 : decode cX6_init 117 = .ok (.bipush 19, 2) := by decide +kernel
theorem dX6_init_119 : decode cX6_init 119 = .ok (.iconst 0, 1) := by decide +kernel
theorem dX6_init_120 : decode cX6_init 120 = .ok (.iastore, 1) := by decide +kernel
theorem dX6_init_121 : decode cX6_init 121 = .ok (.dup, 1) := by decide +kernel
theorem dX6_init_122 : decode cX6_init 122 = .ok (.bipush 20, 2) := by decide +kernel
theorem dX6_init_124 : decode cX6_init 124 = .ok (.iconst 0, 1) := by decide +kernel
theorem dX6_init_125 : decode cX6_init 125 = .ok (.iastore, 1) := by decide +kernel
theorem dX6_init_126 : decode cX6_init 126 = .ok (.dup, 1) := by decide +kernel
theorem dX6_init_127 : decode cX6_init 127 = .ok (.bipush 21, 2) := by decide +kernel
theorem dX6_init_129 : decode cX6_init 129 = .ok (.iconst 0, 1) := by decide +kernel
theorem dX6_init_130 : decode cX6_init 130 = .ok (.iastore, 1) := by decide +kernel
theorem dX6_init_131 : decode cX6_init 131 = .ok (.dup, 1) := by decide +kernel
theorem dX6_init_132 : decode cX6_init 132 = .ok (.bipush 22, 2) := by decide +kernel
theorem dX6_init_134 : decode cX6_init 134 = .ok (.iconst 0, 1) := by decide +kernel
theorem dX6_init_135 : decode cX6_init 135 = .ok (.iastore, 1) := by decide +kernel
theorem dX6_init_136 : decode cX6_init 136 = .ok (.dup, 1) := by decide +kernel
theorem dX6_init_137 : decode cX6_init 137 = .ok (.bipush 23, 2) := by decide +kernel
theorem dX6_init_139 : decode cX6_init 139 = .ok (.iconst 0, 1) := by decide +kernel
theorem dX6_init_140 : decode cX6_init 140 = .ok (.iastore, 1) := by decide +kernel
theorem dX6_init_141 : decode cX6_init 141 = .ok (.dup, 1) := by decide +kernel
theorem dX6_init_142 : decode cX6_init 142 = .ok (.bipush 24, 2) := by decide +kernel
theorem dX6_init_144 : decode cX6_init 144 = .ok (.iconst 0, 1) := by decide +kernel
theorem dX6_init_145 : decode cX6_init 145 = .ok (.iastore, 1) := by decide +kernel
theorem dX6_init_146 : decode cX6_init 146 = .ok (.dup, 1) := by decide +kernel
theorem dX6_init_147 : decode cX6_init 147 = .ok (.bipush 25, 2) := by decide +kernel
theorem dX6_init_149 : decode cX6_init 149 = .ok (.iconst 0, 1) := by decide +kernel
theorem dX6_init_150 : decode cX6_init 150 = .ok (.iastore, 1) := by decide +kernel
theorem dX6_init_151 : decode cX6_init 151 = .ok (.dup, 1) := by decide +kernel
theorem dX6_init_152 : decode cX6_init 152 = .ok (.bipush 26, 2) := by decide +kernel
theorem dX6_init_154 : decode cX6_init 154 = .ok (.iconst 0, 1) := by decide +kernel
theorem dX6_init_155 : decode cX6_init 155 = .ok (.iastore, 1) := by decide +kernel
theorem dX6_init_156 : decode cX6_init 156 = .ok (.dup, 1) := by decide +kernel
theorem dX6_init_157 : decode cX6_init 157 = .ok (.bipush 27, 2) := by decide +kernel
theorem dX6_init_159 : decode cX6_init 159 = .ok (.iconst 0, 1) := by decide +kernel
theorem dX6_init_160 : decode cX6_init 160 = .ok (.iastore, 1) := by decide +kernel
theorem dX6_init_161 : decode cX6_init 161 = .ok (.dup, 1) := by decide +kernel
theorem dX6_init_162 : decode cX6_init 162 = .ok (.bipush 28, 2) := by decide +kernel
theorem dX6_init_164 : decode cX6_init 164 = .ok (.iconst 0, 1) := by decide +kernel
theorem dX6_init_165 : decode cX6_init 165 = .ok (.iastore, 1) := by decide +kernel
theorem dX6_init_166 : decode cX6_init 166 = .ok (.dup, 1) := by decide +kernel
theorem dX6_init_167 : decode cX6_init 167 = .ok (.bipush 29, 2) := by decide +kernel
theorem dX6_init_169 : decode cX6_init 169 = .ok (.iconst 0, 1) := by decide +kernel
theorem dX6_init_170 : decode cX6_init 170 = .ok (.iastore, 1) := by decide +kernel
theorem dX6_init_171 : decode cX6_init 171 = .ok (.putfield 13, 3) := by decide +kernel
theorem dX6_init_174 : decode cX6_init 174 = .ok (.aload_n 0, 1) := by decide +kernel
theorem dX6_init_175 : decode cX6_init 175 = .ok (.bipush 20, 2) := by decide +kernel
theorem dX6_init_177 : decode cX6_init 177 = .ok (.newarray .int, 2) := by decide +kernel
theorem dX6_init_179 : decode cX6_init 179 = .ok (.putfield 17, 3) := by decide +kernel
theorem dX6_init_182 : decode cX6_init 182 = .ok (.aload_n 0, 1) := by decide +kernel
theorem dX6_init_183 : decode cX6_init 183 = .ok (.bipush 80, 2) := by decide +kernel
theorem dX6_init_185 : decode cX6_init 185 = .ok (.newarray .int, 2) := by decide +kernel
theorem dX6_init_187 : decode cX6_init 187 = .ok (.putfield 20, 3) := by decide +kernel
theorem dX6_init_190 : decode cX6_init 190 = .ok (.aload_n 0, 1) := by decide +kernel
theorem dX6_init_191 : decode cX6_init 191 = .ok (.sipush 1350, 3) := by decide +kernel
theorem dX6_init_194 : decode cX6_init 194 = .ok (.newarray .int, 2) := by decide +kernel
theorem dX6_init_196 : decode cX6_init 196 = .ok (.putfield 23, 3) := by decide +kernel
theorem dX6_init_199 : decode cX6_init 199 = .ok (.aload_n 0, 1) := by decide +kernel
theorem dX6_init_200 : decode cX6_init 200 = .ok (.iconst 2, 1) := by decide +kernel
theorem dX6_init_201 : decode cX6_init 201 = .ok (.putfield 26, 3) := by decide +kernel
theorem dX6_init_204 : decode cX6_init 204 = .ok (.aload_n 0, 1) := by decide +kernel
theorem dX6_init_205 : decode cX6_init 205 = .ok (.iconst 3, 1) := by decide +kernel
theorem dX6_init_206 : decode cX6_init 206 = .ok (.putfield 29, 3) := by decide +kernel
theorem dX6_init_209 : decode cX6_init 209 = .ok (.aload_n 0, 1) := by decide +kernel
theorem dX6_init_210 : decode cX6_init 210 = .ok (.bipush 80, 2) := by decide +kernel
theorem dX6_init_212 : decode cX6_init 212 = .ok (.newarray .int, 2) := by decide +kernel
theorem dX6_init_214 : decode cX6_init 214 = .ok (.putfield 32, 3) := by decide +kernel
theorem dX6_init_217 : decode cX6_init 217 = .ok (.aload_n 0, 1) := by decide +kernel
theorem dX6_init_218 : decode cX6_init 218 = .ok (.sipush 1350, 3) := by decide +kernel
theorem dX6_init_221 : decode cX6_init 221 = .ok (.newarray .int, 2) := by decide +kernel
theorem dX6_init_223 : decode cX6_init 223 = .ok (.putfield 35, 3) := by decide +kernel
theorem dX6_init_226 : decode cX6_init 226 = .ok (.aload_n 0, 1) := by decide +kernel
theorem dX6_init_227 : decode cX6_init 227 = .ok (.sipush 150, 3) := by decide +kernel
theorem dX6_init_230 : decode cX6_init 230 = .ok (.newarray .boolean, 2) := by decide +kernel
theorem dX6_init_232 : decode cX6_init 232 = .ok (.putfield 38, 3) := by decide +kernel
theorem dX6_init_235 : decode cX6_init 235 = .ok (.return_, 1) := by decide +kernel
theorem dX6_thrown_0 : decode cX6_thrown 0 = .ok (.aload_n 0, 1) := by decide +kernel
theorem dX6_thrown_1 : decode cX6_thrown 1 = .ok (.getfield 42, 3) := by decide +kernel
theorem dX6_thrown_4 : decode cX6_thrown 4 = .ok (.ireturn, 1) := by decide +kernel
theorem dX6_fail_0 : decode cX6_fail 0 = .ok (.aload_n 0, 1) := by decide +kernel
theorem dX6_fail_1 : decode cX6_fail 1 = .ok (.iload_n 1, 1) := by decide +kernel
theorem dX6_fail_2 : decode cX6_fail 2 = .ok (.putfield 42, 3) := by decide +kernel
theorem dX6_fail_5 : decode cX6_fail 5 = .ok (.iconst 0, 1) := by decide +kernel
theorem dX6_fail_6 : decode cX6_fail 6 = .ok (.ireturn, 1) := by decide +kernel
theorem dX6_isIn_0 : decode cX6_isIn 0 = .ok (.iload_n 0, 1) := by decide +kernel
theorem dX6_isIn_1 : decode cX6_isIn 1 = .ok (.iload_n 1, 1) := by decide +kernel
theorem dX6_isIn_2 : decode cX6_isIn 2 = .ok (.if_icmp .lt 12, 3) := by decide +kernel
theorem dX6_isIn_5 : decode cX6_isIn 5 = .ok (.iload_n 0, 1) := by decide +kernel
theorem dX6_isIn_6 : decode cX6_isIn 6 = .ok (.iload_n 2, 1) := by decide +kernel
theorem dX6_isIn_7 : decode cX6_isIn 7 = .ok (.if_icmp .gt 7, 3) := by decide +kernel
theorem dX6_isIn_10 : decode cX6_isIn 10 = .ok (.iconst 1, 1) := by decide +kernel
theorem dX6_isIn_11 : decode cX6_isIn 11 = .ok (.goto 4, 3) := by decide +kernel
theorem dX6_isIn_14 : decode cX6_isIn 14 = .ok (.iconst 0, 1) := by decide +kernel
theorem dX6_isIn_15 : decode cX6_isIn 15 = .ok (.ireturn, 1) := by decide +kernel
set_option maxRecDepth 20000 in
theorem ggX6_isHeight_X6_isIn : GoodIn wsX6_isHeight wsX6_isIn := goodIn_r _ [4] (by decide +kernel) (by decide +kernel)
set_option maxRecDepth 20000 in
theorem gX6_isHeight_X6_isIn : GoodIn wsX6_isHeight (va_wsS RX6 45 yX6_isIn wsX6_isIn) := goodIn_app (goodIn_of _ (by decide +kernel)) ggX6_isHeight_X6_isIn
theorem dX6_isHeight_0 : decode cX6_isHeight 0 = .ok (.iload_n 0, 1) := by decide +kernel
theorem dX6_isHeight_1 : decode cX6_isHeight 1 = .ok (.iconst 0, 1) := by decide +kernel
theorem dX6_isHeight_2 : decode cX6_isHeight 2 = .ok (.bipush 99, 2) := by decide +kernel
theorem dX6_isHeight_4 : decode cX6_isHeight 4 = .ok (.invokestatic 45, 3) := by decide +kernel
theorem dX6_isHeight_7 : decode cX6_isHeight 7 = .ok (.ireturn, 1) := by decide +kernel
theorem dX6_get_0 : decode cX6_get 0 = .ok (.aload_n 0, 1) := by decide +kernel
theorem dX6_get_1 : decode cX6_get 1 = .ok (.getfield 23, 3) := by decide +kernel
theorem dX6_get_4 : decode cX6_get 4 = .ok (.bipush 9, 2) := by decide +kernel
theorem dX6_get_6 : decode cX6_get 6 = .ok (.iload_n 1, 1) := by decide +kernel
theorem dX6_get_7 : decode cX6_get 7 = .ok (.imul, 1) := by decide +kernel
theorem dX6_get_8 : decode cX6_get 8 = .ok (.iload_n 2, 1) := by decide +kernel
theorem dX6_get_9 : decode cX6_get 9 = .ok (.iadd, 1) := by decide +kernel
theorem dX6_get_10 : decode cX6_get 10 = .ok (.iaload, 1) := by decide +kernel
theorem dX6_get_11 : decode cX6_get 11 = .ok (.ireturn, 1) := by decide +kernel
theorem dX6_set_0 : decode cX6_set 0 = .ok (.aload_n 0, 1) := by decide +kernel
theorem dX6_set_1 : decode cX6_set 1 = .ok (.getfield 23, 3) := by decide +kernel
theorem dX6_set_4 : decode cX6_set 4 = .ok (.bipush 9, 2) := by decide +kernel
theorem dX6_set_6 : decode cX6_set 6 = .ok (.iload_n 1, 1) := by decide +kernel
theorem dX6_set_7 : decode cX6_set 7 = .ok (.imul, 1) := by decide +kernel
theorem dX6_set_8 : decode cX6_set 8 = .ok (.iload_n 2, 1) := by decide +kernel
theorem dX6_set_9 : decode cX6_set 9 = .ok (.iadd, 1) := by decide +kernel
theorem dX6_set_10 : decode cX6_set 10 = .ok (.iload_n 3, 1) := by decide +kernel
theorem dX6_set_11 : decode cX6_set 11 = .ok (.iastore, 1) := by decide +kernel
theorem dX6_set_12 : decode cX6_set 12 = .ok (.return_, 1) := by decide +kernel
set_option maxRecDepth 20000 in
theorem ggX6_isIn__X6_get : GoodIn wsX6_isIn_ wsX6_get := goodIn_r _ [5, 6, 7, 8, 9, 10, 11, 12, 13, 14, 15, 16, 17, 18, 19, 20, 21] (by decide +kernel) (by decide +kernel)
set_option maxRecDepth 20000 in
theorem gX6_isIn__X6_get : GoodIn wsX6_isIn_ (wsV RX6 49 RX6 yX6_get wsX6_get) := goodIn_app (goodIn_of _ (by decide +kernel)) ggX6_isIn__X6_get
theorem dX6_isIn__0 : decode cX6_isIn_ 0 = .ok (.aload_n 0, 1) := by decide +kernel
theorem dX6_isIn__1 : decode cX6_isIn_ 1 = .ok (.iload_n 1, 1) := by decide +kernel
theorem dX6_isIn__2 : decode cX6_isIn_ 2 = .ok (.iconst 3, 1) := by decide +kernel
theorem dX6_isIn__3 : decode cX6_isIn_ 3 = .ok (.invokevirtual 49, 3) := by decide +kernel
theorem dX6_isIn__6 : decode cX6_isIn_ 6 = .ok (.iload_n 2, 1) := by decide +kernel
theorem dX6_isIn__7 : decode cX6_isIn_ 7 = .ok (.if_icmp .ne 7, 3) := by decide +kernel
theorem dX6_isIn__10 : decode cX6_isIn_ 10 = .ok (.iconst 1, 1) := by decide +kernel
theorem dX6_isIn__11 : decode cX6_isIn_ 11 = .ok (.goto 4, 3) := by decide +kernel
theorem dX6_isIn__14 : decode cX6_isIn_ 14 = .ok (.iconst 0, 1) := by decide +kernel
theorem dX6_isIn__15 : decode cX6_isIn_ 15 = .ok (.ireturn, 1) := by decide +kernel
theorem dX6_one_0 : decode cX6_one 0 = .ok (.aload_n 0, 1) := by decide +kernel
theorem dX6_one_1 : decode cX6_one 1 = .ok (.getfield 20, 3) := by decide +kernel
theorem dX6_one_4 : decode cX6_one 4 = .ok (.iconst 5, 1) := by decide +kernel
theorem dX6_one_5 : decode cX6_one 5 = .ok (.iload_n 1, 1) := by decide +kernel
theorem dX6_one_6 : decode cX6_one 6 = .ok (.imul, 1) := by decide +kernel
theorem dX6_one_7 : decode cX6_one 7 = .ok (.iload_n 2, 1) := by decide +kernel
theorem dX6_one_8 : decode cX6_one 8 = .ok (.iadd, 1) := by decide +kernel
theorem dX6_one_9 : decode cX6_one 9 = .ok (.iaload, 1) := by decide +kernel
theorem dX6_one_10 : decode cX6_one 10 = .ok (.ireturn, 1) := by decide +kernel
theorem dX6_tideOf_0 : decode cX6_tideOf 0 = .ok (.aload_n 0, 1) := by decide +kernel
theorem dX6_tideOf_1 : decode cX6_tideOf 1 = .ok (.getfield 13, 3) := by decide +kernel
theorem dX6_tideOf_4 : decode cX6_tideOf 4 = .ok (.iload_n 1, 1) := by decide +kernel
theorem dX6_tideOf_5 : decode cX6_tideOf 5 = .ok (.aload_n 0, 1) := by decide +kernel
theorem dX6_tideOf_6 : decode cX6_tideOf 6 = .ok (.getfield 7, 3) := by decide +kernel
theorem dX6_tideOf_9 : decode cX6_tideOf 9 = .ok (.irem, 1) := by decide +kernel
theorem dX6_tideOf_10 : decode cX6_tideOf 10 = .ok (.iaload, 1) := by decide +kernel
theorem dX6_tideOf_11 : decode cX6_tideOf 11 = .ok (.ireturn, 1) := by decide +kernel
theorem dX6_isUnder_0 : decode cX6_isUnder 0 = .ok (.iload_n 2, 1) := by decide +kernel
theorem dX6_isUnder_1 : decode cX6_isUnder 1 = .ok (.aload_n 0, 1) := by decide +kernel
theorem dX6_isUnder_2 : decode cX6_isUnder 2 = .ok (.getfield 17, 3) := by decide +kernel
theorem dX6_isUnder_5 : decode cX6_isUnder 5 = .ok (.iconst 2, 1) := by decide +kernel
theorem dX6_isUnder_6 : decode cX6_isUnder 6 = .ok (.iload_n 1, 1) := by decide +kernel
theorem dX6_isUnder_7 : decode cX6_isUnder 7 = .ok (.imul, 1) := by decide +kernel
theorem dX6_isUnder_8 : decode cX6_isUnder 8 = .ok (.iaload, 1) := by decide +kernel
theorem dX6_isUnder_9 : decode cX6_isUnder 9 = .ok (.if_icmp .le 7, 3) := by decide +kernel
theorem dX6_isUnder_12 : decode cX6_isUnder 12 = .ok (.iconst 1, 1) := by decide +kernel
theorem dX6_isUnder_13 : decode cX6_isUnder 13 = .ok (.goto 4, 3) := by decide +kernel
theorem dX6_isUnder_16 : decode cX6_isUnder 16 = .ok (.iconst 0, 1) := by decide +kernel
theorem dX6_isUnder_17 : decode cX6_isUnder 17 = .ok (.ireturn, 1) := by decide +kernel
set_option maxRecDepth 20000 in
theorem ggX6_beginTides_X6_isHeight : GoodIn wsX6_beginTides wsX6_isHeight := goodIn_r _ [7, 8, 9, 6, 10] (by decide +kernel) (by decide +kernel)
set_option maxRecDepth 20000 in
theorem gX6_beginTides_X6_isHeight : GoodIn wsX6_beginTides (va_wsS RX6 53 yX6_isHeight wsX6_isHeight) := goodIn_app (goodIn_of _ (by decide +kernel)) ggX6_beginTides_X6_isHeight
set_option maxRecDepth 20000 in
theorem ggX6_beginTides_X6_fail : GoodIn wsX6_beginTides wsX6_fail := goodIn_r _ [14, 1, 15, 16, 17, 18, 19, 20, 21, 22, 23, 24, 25, 26, 27, 28, 29] (by decide +kernel) (by decide +kernel)
set_option maxRecDepth 20000 in
theorem gX6_beginTides_X6_fail : GoodIn wsX6_beginTides (wsV RX6 57 RX6 yX6_fail wsX6_fail) := goodIn_app (goodIn_of _ (by decide +kernel)) ggX6_beginTides_X6_fail
theorem dX6_beginTides_0 : decode cX6_beginTides 0 = .ok (.aload_n 0, 1) := by decide +kernel
theorem dX6_beginTides_1 : decode cX6_beginTides 1 = .ok (.iconst 0, 1) := by decide +kernel
theorem dX6_beginTides_2 : decode cX6_beginTides 2 = .ok (.putfield 42, 3) := by decide +kernel
theorem dX6_beginTides_5 : decode cX6_beginTides 5 = .ok (.iload_n 1, 1) := by decide +kernel
theorem dX6_beginTides_6 : decode cX6_beginTides 6 = .ok (.invokestatic 53, 3) := by decide +kernel
theorem dX6_beginTides_9 : decode cX6_beginTides 9 = .ok (.ifCond .ne 9, 3) := by decide +kernel
theorem dX6_beginTides_12 : decode cX6_beginTides 12 = .ok (.aload_n 0, 1) := by decide +kernel
theorem dX6_beginTides_13 : decode cX6_beginTides 13 = .ok (.iconst 1, 1) := by decide +kernel
theorem dX6_beginTides_14 : decode cX6_beginTides 14 = .ok (.invokevirtual 57, 3) := by decide +kernel
theorem dX6_beginTides_17 : decode cX6_beginTides 17 = .ok (.ireturn, 1) := by decide +kernel
theorem dX6_beginTides_18 : decode cX6_beginTides 18 = .ok (.aload_n 0, 1) := by decide +kernel
theorem dX6_beginTides_19 : decode cX6_beginTides 19 = .ok (.getfield 7, 3) := by decide +kernel
theorem dX6_beginTides_22 : decode cX6_beginTides 22 = .ok (.istore_n 2, 1) := by decide +kernel
theorem dX6_beginTides_23 : decode cX6_beginTides 23 = .ok (.aload_n 0, 1) := by decide +kernel
theorem dX6_beginTides_24 : decode cX6_beginTides 24 = .ok (.getfield 13, 3) := by decide +kernel
theorem dX6_beginTides_27 : decode cX6_beginTides 27 = .ok (.iconst 0, 1) := by decide +kernel
theorem dX6_beginTides_28 : decode cX6_beginTides 28 = .ok (.iload_n 1, 1) := by decide +kernel
theorem dX6_beginTides_29 : decode cX6_beginTides 29 = .ok (.iastore, 1) := by decide +kernel
theorem dX6_beginTides_30 : decode cX6_beginTides 30 = .ok (.aload_n 0, 1) := by decide +kernel
theorem dX6_beginTides_31 : decode cX6_beginTides 31 = .ok (.iconst 1, 1) := by decide +kernel
theorem dX6_beginTides_32 : decode cX6_beginTides 32 = .ok (.putfield 7, 3) := by decide +kernel
theorem dX6_beginTides_35 : decode cX6_beginTides 35 = .ok (.iload_n 2, 1) := by decide +kernel
theorem dX6_beginTides_36 : decode cX6_beginTides 36 = .ok (.ireturn, 1) := by decide +kernel
set_option maxRecDepth 20000 in
theorem ggX6_addTide_X6_isHeight : GoodIn wsX6_addTide wsX6_isHeight := goodIn_r _ [7, 8, 9, 6, 10] (by decide +kernel) (by decide +kernel)
set_option maxRecDepth 20000 in
theorem gX6_addTide_X6_isHeight : GoodIn wsX6_addTide (va_wsS RX6 53 yX6_isHeight wsX6_isHeight) := goodIn_app (goodIn_of _ (by decide +kernel)) ggX6_addTide_X6_isHeight
set_option maxRecDepth 20000 in
theorem ggX6_addTide_X6_fail : GoodIn wsX6_addTide wsX6_fail := goodIn_r _ [14, 1, 15, 16, 17, 18, 19, 20, 21, 22, 23, 24, 25, 26, 27, 28, 29] (by decide +kernel) (by decide +kernel)
set_option maxRecDepth 20000 in
theorem gX6_addTide_X6_fail : GoodIn wsX6_addTide (wsV RX6 57 RX6 yX6_fail wsX6_fail) := goodIn_app (goodIn_of _ (by decide +kernel)) ggX6_addTide_X6_fail
theorem dX6_addTide_0 : decode cX6_addTide 0 = .ok (.aload_n 0, 1) := by decide +kernel
theorem dX6_addTide_1 : decode cX6_addTide 1 = .ok (.iconst 0, 1) := by decide +kernel
theorem dX6_addTide_2 : decode cX6_addTide 2 = .ok (.putfield 42, 3) := by decide +kernel
theorem dX6_addTide_5 : decode cX6_addTide 5 = .ok (.iload_n 1, 1) := by decide +kernel
theorem dX6_addTide_6 : decode cX6_addTide 6 = .ok (.invokestatic 53, 3) := by decide +kernel
theorem dX6_addTide_9 : decode cX6_addTide 9 = .ok (.ifCond .ne 9, 3) := by decide +kernel
theorem dX6_addTide_12 : decode cX6_addTide 12 = .ok (.aload_n 0, 1) := by decide +kernel
theorem dX6_addTide_13 : decode cX6_addTide 13 = .ok (.iconst 1, 1) := by decide +kernel
theorem dX6_addTide_14 : decode cX6_addTide 14 = .ok (.invokevirtual 57, 3) := by decide +kernel
theorem dX6_addTide_17 : decode cX6_addTide 17 = .ok (.ireturn, 1) := by decide +kernel
theorem dX6_addTide_18 : decode cX6_addTide 18 = .ok (.aload_n 0, 1) := by decide +kernel
theorem dX6_addTide_19 : decode cX6_addTide 19 = .ok (.getfield 7, 3) := by decide +kernel
theorem dX6_addTide_22 : decode cX6_addTide 22 = .ok (.bipush 30, 2) := by decide +kernel
theorem dX6_addTide_24 : decode cX6_addTide 24 = .ok (.if_icmp .ne 9, 3) := by decide +kernel
theorem dX6_addTide_27 : decode cX6_addTide 27 = .ok (.aload_n 0, 1) := by decide +kernel
theorem dX6_addTide_28 : decode cX6_addTide 28 = .ok (.iconst 2, 1) := by decide +kernel
theorem dX6_addTide_29 : decode cX6_addTide 29 = .ok (.invokevirtual 57, 3) := by decide +kernel
theorem dX6_addTide_32 : decode cX6_addTide 32 = .ok (.ireturn, 1) := by decide +kernel
theorem dX6_addTide_33 : decode cX6_addTide 33 = .ok (.aload_n 0, 1) := by decide +kernel
theorem dX6_addTide_34 : decode cX6_addTide 34 = .ok (.getfield 13, 3) := by decide +kernel
theorem dX6_addTide_37 : decode cX6_addTide 37 = .ok (.aload_n 0, 1) := by decide +kernel
theorem dX6_addTide_38 : decode cX6_addTide 38 = .ok (.getfield 7, 3) := by decide +kernel
theorem dX6_addTide_41 : decode cX6_addTide 41 = .ok (.iload_n 1, 1) := by decide +kernel
theorem dX6_addTide_42 : decode cX6_addTide 42 = .ok (.iastore, 1) := by decide +kernel
theorem dX6_addTide_43 : decode cX6_addTide 43 = .ok (.aload_n 0, 1) := by decide +kernel
theorem dX6_addTide_44 : decode cX6_addTide 44 = .ok (.dup, 1) := by decide +kernel
theorem dX6_addTide_45 : decode cX6_addTide 45 = .ok (.getfield 7, 3) := by decide +kernel
theorem dX6_addTide_48 : decode cX6_addTide 48 = .ok (.iconst 1, 1) := by decide +kernel
theorem dX6_addTide_49 : decode cX6_addTide 49 = .ok (.iadd, 1) := by decide +kernel
theorem dX6_addTide_50 : decode cX6_addTide 50 = .ok (.putfield 7, 3) := by decide +kernel
theorem dX6_addTide_53 : decode cX6_addTide 53 = .ok (.aload_n 0, 1) := by decide +kernel
theorem dX6_addTide_54 : decode cX6_addTide 54 = .ok (.getfield 7, 3) := by decide +kernel
theorem dX6_addTide_57 : decode cX6_addTide 57 = .ok (.ireturn, 1) := by decide +kernel
set_option maxRecDepth 20000 in
theorem ggX6_tide_X6_tideOf : GoodIn wsX6_tide wsX6_tideOf := goodIn_r _ [6, 7, 8, 13, 14, 15, 16, 17, 18, 19, 20, 21, 22, 23, 24, 25, 26, 27] (by decide +kernel) (by decide +kernel)
set_option maxRecDepth 20000 in
theorem gX6_tide_X6_tideOf : GoodIn wsX6_tide (wsV RX6 61 RX6 yX6_tideOf wsX6_tideOf) := goodIn_app (goodIn_of _ (by decide +kernel)) ggX6_tide_X6_tideOf
set_option maxRecDepth 20000 in
theorem ggX6_tide_X6_fail : GoodIn wsX6_tide wsX6_fail := goodIn_r _ [12, 1, 13, 14, 15, 16, 17, 18, 19, 20, 21, 22, 23, 24, 25, 26, 27] (by decide +kernel) (by decide +kernel)
set_option maxRecDepth 20000 in
theorem gX6_tide_X6_fail : GoodIn wsX6_tide (wsV RX6 57 RX6 yX6_fail wsX6_fail) := goodIn_app (goodIn_of _ (by decide +kernel)) ggX6_tide_X6_fail
theorem dX6_tide_0 : decode cX6_tide 0 = .ok (.aload_n 0, 1) := by decide +kernel
theorem dX6_tide_1 : decode cX6_tide 1 = .ok (.iconst 0, 1) := by decide +kernel
theorem dX6_tide_2 : decode cX6_tide 2 = .ok (.putfield 42, 3) := by decide +kernel
theorem dX6_tide_5 : decode cX6_tide 5 = .ok (.iload_n 1, 1) := by decide +kernel
theorem dX6_tide_6 : decode cX6_tide 6 = .ok (.ifCond .lt 11, 3) := by decide +kernel
theorem dX6_tide_9 : decode cX6_tide 9 = .ok (.aload_n 0, 1) := by decide +kernel
theorem dX6_tide_10 : decode cX6_tide 10 = .ok (.iload_n 1, 1) := by decide +kernel
theorem dX6_tide_11 : decode cX6_tide 11 = .ok (.invokevirtual 61, 3) := by decide +kernel
theorem dX6_tide_14 : decode cX6_tide 14 = .ok (.goto 8, 3) := by decide +kernel
theorem dX6_tide_17 : decode cX6_tide 17 = .ok (.aload_n 0, 1) := by decide +kernel
theorem dX6_tide_18 : decode cX6_tide 18 = .ok (.iconst 1, 1) := by decide +kernel
theorem dX6_tide_19 : decode cX6_tide 19 = .ok (.invokevirtual 57, 3) := by decide +kernel
theorem dX6_tide_22 : decode cX6_tide 22 = .ok (.ireturn, 1) := by decide +kernel
set_option maxRecDepth 20000 in
theorem ggX6_addBin_X6_isHeight : GoodIn wsX6_addBin wsX6_isHeight := goodIn_r _ [7, 8, 9, 6, 10] (by decide +kernel) (by decide +kernel)
set_option maxRecDepth 20000 in
theorem gX6_addBin_X6_isHeight : GoodIn wsX6_addBin (va_wsS RX6 53 yX6_isHeight wsX6_isHeight) := goodIn_app (goodIn_of _ (by decide +kernel)) ggX6_addBin_X6_isHeight
set_option maxRecDepth 20000 in
theorem ggX6_addBin_X6_isIn : GoodIn wsX6_addBin wsX6_isIn := goodIn_r _ [10] (by decide +kernel) (by decide +kernel)
set_option maxRecDepth 20000 in
theorem gX6_addBin_X6_isIn : GoodIn wsX6_addBin (va_wsS RX6 45 yX6_isIn wsX6_isIn) := goodIn_app (goodIn_of _ (by decide +kernel)) ggX6_addBin_X6_isIn
set_option maxRecDepth 20000 in
theorem ggX6_addBin_X6_fail : GoodIn wsX6_addBin wsX6_fail := goodIn_r _ [14, 1, 15, 16, 17, 18, 19, 20, 21, 22, 23, 24, 25, 26, 27, 28, 29] (by decide +kernel) (by decide +kernel)
set_option maxRecDepth 20000 in
theorem gX6_addBin_X6_fail : GoodIn wsX6_addBin (wsV RX6 57 RX6 yX6_fail wsX6_fail) := goodIn_app (goodIn_of _ (by decide +kernel)) ggX6_addBin_X6_fail
theorem dX6_addBin_0 : decode cX6_addBin 0 = .ok (.aload_n 0, 1) := by decide +kernel
theorem dX6_addBin_1 : decode cX6_addBin 1 = .ok (.iconst 0, 1) := by decide +kernel
theorem dX6_addBin_2 : decode cX6_addBin 2 = .ok (.putfield 42, 3) := by decide +kernel
theorem dX6_addBin_5 : decode cX6_addBin 5 = .ok (.iload_n 1, 1) := by decide +kernel
theorem dX6_addBin_6 : decode cX6_addBin 6 = .ok (.invokestatic 53, 3) := by decide +kernel
theorem dX6_addBin_9 : decode cX6_addBin 9 = .ok (.ifCond .eq 13, 3) := by decide +kernel
theorem dX6_addBin_12 : decode cX6_addBin 12 = .ok (.iload_n 2, 1) := by decide +kernel
theorem dX6_addBin_13 : decode cX6_addBin 13 = .ok (.iconst 1, 1) := by decide +kernel
theorem dX6_addBin_14 : decode cX6_addBin 14 = .ok (.bipush 20, 2) := by decide +kernel
theorem dX6_addBin_16 : decode cX6_addBin 16 = .ok (.invokestatic 45, 3) := by decide +kernel
theorem dX6_addBin_19 : decode cX6_addBin 19 = .ok (.ifCond .ne 9, 3) := by decide +kernel
theorem dX6_addBin_22 : decode cX6_addBin 22 = .ok (.aload_n 0, 1) := by decide +kernel
theorem dX6_addBin_23 : decode cX6_addBin 23 = .ok (.iconst 1, 1) := by decide +kernel
theorem dX6_addBin_24 : decode cX6_addBin 24 = .ok (.invokevirtual 57, 3) := by decide +kernel
theorem dX6_addBin_27 : decode cX6_addBin 27 = .ok (.ireturn, 1) := by decide +kernel
theorem dX6_addBin_28 : decode cX6_addBin 28 = .ok (.aload_n 0, 1) := by decide +kernel
theorem dX6_addBin_29 : decode cX6_addBin 29 = .ok (.getfield 64, 3) := by decide +kernel
theorem dX6_addBin_32 : decode cX6_addBin 32 = .ok (.bipush 10, 2) := by decide +kernel
theorem dX6_addBin_34 : decode cX6_addBin 34 = .ok (.if_icmp .ne 9, 3) := by decide +kernel
theorem dX6_addBin_37 : decode cX6_addBin 37 = .ok (.aload_n 0, 1) := by decide +kernel
theorem dX6_addBin_38 : decode cX6_addBin 38 = .ok (.iconst 2, 1) := by decide +kernel
theorem dX6_addBin_39 : decode cX6_addBin 39 = .ok (.invokevirtual 57, 3) := by decide +kernel
theorem dX6_addBin_42 : decode cX6_addBin 42 = .ok (.ireturn, 1) := by decide +kernel
theorem dX6_addBin_43 : decode cX6_addBin 43 = .ok (.aload_n 0, 1) := by decide +kernel
theorem dX6_addBin_44 : decode cX6_addBin 44 = .ok (.getfield 17, 3) := by decide +kernel
theorem dX6_addBin_47 : decode cX6_addBin 47 = .ok (.iconst 2, 1) := by decide +kernel
theorem dX6_addBin_48 : decode cX6_addBin 48 = .ok (.aload_n 0, 1) := by decide +kernel
theorem dX6_addBin_49 : decode cX6_addBin 49 = .ok (.getfield 64, 3) := by decide +kernel
theorem dX6_addBin_52 : decode cX6_addBin 52 = .ok (.imul, 1) := by decide +kernel
theorem dX6_addBin_53 : decode cX6_addBin 53 = .ok (.iload_n 1, 1) := by decide +kernel
theorem dX6_addBin_54 : decode cX6_addBin 54 = .ok (.iastore, 1) := by decide +kernel
theorem dX6_addBin_55 : decode cX6_addBin 55 = .ok (.aload_n 0, 1) := by decide +kernel
theorem dX6_addBin_56 : decode cX6_addBin 56 = .ok (.getfield 17, 3) := by decide +kernel
theorem dX6_addBin_59 : decode cX6_addBin 59 = .ok (.iconst 2, 1) := by decide +kernel
theorem dX6_addBin_60 : decode cX6_addBin 60 = .ok (.aload_n 0, 1) := by decide +kernel
theorem dX6_addBin_61 : decode cX6_addBin 61 = .ok (.getfield 64, 3) := by decide +kernel
theorem dX6_addBin_64 : decode cX6_addBin 64 = .ok (.imul, 1) := by decide +kernel
theorem dX6_addBin_65 : decode cX6_addBin 65 = .ok (.iconst 1, 1) := by decide +kernel
theorem dX6_addBin_66 : decode cX6_addBin 66 = .ok (.iadd, 1) := by decide +kernel
theorem dX6_addBin_67 : decode cX6_addBin 67 = .ok (.iload_n 2, 1) := by decide +kernel
theorem dX6_addBin_68 : decode cX6_addBin 68 = .ok (.iastore, 1) := by decide +kernel
theorem dX6_addBin_69 : decode cX6_addBin 69 = .ok (.aload_n 0, 1) := by decide +kernel
theorem dX6_addBin_70 : decode cX6_addBin 70 = .ok (.dup, 1) := by decide +kernel
theorem dX6_addBin_71 : decode cX6_addBin 71 = .ok (.getfield 64, 3) := by decide +kernel
theorem dX6_addBin_74 : decode cX6_addBin 74 = .ok (.iconst 1, 1) := by decide +kernel
theorem dX6_addBin_75 : decode cX6_addBin 75 = .ok (.iadd, 1) := by decide +kernel
theorem dX6_addBin_76 : decode cX6_addBin 76 = .ok (.putfield 64, 3) := by decide +kernel
theorem dX6_addBin_79 : decode cX6_addBin 79 = .ok (.aload_n 0, 1) := by decide +kernel
theorem dX6_addBin_80 : decode cX6_addBin 80 = .ok (.getfield 64, 3) := by decide +kernel
theorem dX6_addBin_83 : decode cX6_addBin 83 = .ok (.iconst 1, 1) := by decide +kernel
theorem dX6_addBin_84 : decode cX6_addBin 84 = .ok (.isub, 1) := by decide +kernel
theorem dX6_addBin_85 : decode cX6_addBin 85 = .ok (.ireturn, 1) := by decide +kernel
set_option maxRecDepth 20000 in
theorem ggX6_setCrew_X6_isIn : GoodIn wsX6_setCrew wsX6_isIn := goodIn_r _ [7] (by decide +kernel) (by decide +kernel)
set_option maxRecDepth 20000 in
theorem gX6_setCrew_X6_isIn : GoodIn wsX6_setCrew (va_wsS RX6 45 yX6_isIn wsX6_isIn) := goodIn_app (goodIn_of _ (by decide +kernel)) ggX6_setCrew_X6_isIn
set_option maxRecDepth 20000 in
theorem ggX6_setCrew_X6_fail : GoodIn wsX6_setCrew wsX6_fail := goodIn_r _ [11, 1, 12, 13, 14, 15, 16, 17, 18, 19, 20, 21, 22, 23, 24, 25, 26] (by decide +kernel) (by decide +kernel)
set_option maxRecDepth 20000 in
theorem gX6_setCrew_X6_fail : GoodIn wsX6_setCrew (wsV RX6 57 RX6 yX6_fail wsX6_fail) := goodIn_app (goodIn_of _ (by decide +kernel)) ggX6_setCrew_X6_fail
theorem dX6_setCrew_0 : decode cX6_setCrew 0 = .ok (.aload_n 0, 1) := by decide +kernel
theorem dX6_setCrew_1 : decode cX6_setCrew 1 = .ok (.iconst 0, 1) := by decide +kernel
theorem dX6_setCrew_2 : decode cX6_setCrew 2 = .ok (.putfield 42, 3) := by decide +kernel
theorem dX6_setCrew_5 : decode cX6_setCrew 5 = .ok (.iload_n 1, 1) := by decide +kernel
theorem dX6_setCrew_6 : decode cX6_setCrew 6 = .ok (.iconst 0, 1) := by decide +kernel
theorem dX6_setCrew_7 : decode cX6_setCrew 7 = .ok (.bipush 9, 2) := by decide +kernel
theorem dX6_setCrew_9 : decode cX6_setCrew 9 = .ok (.invokestatic 45, 3) := by decide +kernel
theorem dX6_setCrew_12 : decode cX6_setCrew 12 = .ok (.ifCond .eq 13, 3) := by decide +kernel
theorem dX6_setCrew_15 : decode cX6_setCrew 15 = .ok (.iload_n 2, 1) := by decide +kernel
theorem dX6_setCrew_16 : decode cX6_setCrew 16 = .ok (.iconst 0, 1) := by decide +kernel
theorem dX6_setCrew_17 : decode cX6_setCrew 17 = .ok (.bipush 9, 2) := by decide +kernel
theorem dX6_setCrew_19 : decode cX6_setCrew 19 = .ok (.invokestatic 45, 3) := by decide +kernel
theorem dX6_setCrew_22 : decode cX6_setCrew 22 = .ok (.ifCond .ne 9, 3) := by decide +kernel
theorem dX6_setCrew_25 : decode cX6_setCrew 25 = .ok (.aload_n 0, 1) := by decide +kernel
theorem dX6_setCrew_26 : decode cX6_setCrew 26 = .ok (.iconst 1, 1) := by decide +kernel
theorem dX6_setCrew_27 : decode cX6_setCrew 27 = .ok (.invokevirtual 57, 3) := by decide +kernel
theorem dX6_setCrew_30 : decode cX6_setCrew 30 = .ok (.ireturn, 1) := by decide +kernel
theorem dX6_setCrew_31 : decode cX6_setCrew 31 = .ok (.aload_n 0, 1) := by decide +kernel
theorem dX6_setCrew_32 : decode cX6_setCrew 32 = .ok (.getfield 29, 3) := by decide +kernel
theorem dX6_setCrew_35 : decode cX6_setCrew 35 = .ok (.istore_n 3, 1) := by decide +kernel
theorem dX6_setCrew_36 : decode cX6_setCrew 36 = .ok (.aload_n 0, 1) := by decide +kernel
theorem dX6_setCrew_37 : decode cX6_setCrew 37 = .ok (.iload_n 1, 1) := by decide +kernel
theorem dX6_setCrew_38 : decode cX6_setCrew 38 = .ok (.putfield 26, 3) := by decide +kernel
theorem dX6_setCrew_41 : decode cX6_setCrew 41 = .ok (.aload_n 0, 1) := by decide +kernel
theorem dX6_setCrew_42 : decode cX6_setCrew 42 = .ok (.iload_n 2, 1) := by decide +kernel
theorem dX6_setCrew_43 : decode cX6_setCrew 43 = .ok (.putfield 29, 3) := by decide +kernel
theorem dX6_setCrew_46 : decode cX6_setCrew 46 = .ok (.iload_n 3, 1) := by decide +kernel
theorem dX6_setCrew_47 : decode cX6_setCrew 47 = .ok (.ireturn, 1) := by decide +kernel
set_option maxRecDepth 20000 in
theorem ggX6_isOne_X6_isIn : GoodIn wsX6_isOne wsX6_isIn := goodIn_r _ [5] (by decide +kernel) (by decide +kernel)
set_option maxRecDepth 20000 in
theorem gX6_isOne_X6_isIn : GoodIn wsX6_isOne (va_wsS RX6 45 yX6_isIn wsX6_isIn) := goodIn_app (goodIn_of _ (by decide +kernel)) ggX6_isOne_X6_isIn
theorem dX6_isOne_0 : decode cX6_isOne 0 = .ok (.iload_n 1, 1) := by decide +kernel
theorem dX6_isOne_1 : decode cX6_isOne 1 = .ok (.iconst 0, 1) := by decide +kernel
theorem dX6_isOne_2 : decode cX6_isOne 2 = .ok (.aload_n 0, 1) := by decide +kernel
theorem dX6_isOne_3 : decode cX6_isOne 3 = .ok (.getfield 67, 3) := by decide +kernel
theorem dX6_isOne_6 : decode cX6_isOne 6 = .ok (.iconst 1, 1) := by decide +kernel
theorem dX6_isOne_7 : decode cX6_isOne 7 = .ok (.isub, 1) := by decide +kernel
theorem dX6_isOne_8 : decode cX6_isOne 8 = .ok (.invokestatic 45, 3) := by decide +kernel
theorem dX6_isOne_11 : decode cX6_isOne 11 = .ok (.ireturn, 1) := by decide +kernel
set_option maxRecDepth 20000 in
theorem ggX6_isLetter_X6_isIn : GoodIn wsX6_isLetter wsX6_isIn := goodIn_r _ [5] (by decide +kernel) (by decide +kernel)
set_option maxRecDepth 20000 in
theorem gX6_isLetter_X6_isIn : GoodIn wsX6_isLetter (va_wsS RX6 45 yX6_isIn wsX6_isIn) := goodIn_app (goodIn_of _ (by decide +kernel)) ggX6_isLetter_X6_isIn
theorem dX6_isLetter_0 : decode cX6_isLetter 0 = .ok (.iload_n 1, 1) := by decide +kernel
theorem dX6_isLetter_1 : decode cX6_isLetter 1 = .ok (.iconst 0, 1) := by decide +kernel
theorem dX6_isLetter_2 : decode cX6_isLetter 2 = .ok (.aload_n 0, 1) := by decide +kernel
theorem dX6_isLetter_3 : decode cX6_isLetter 3 = .ok (.getfield 70, 3) := by decide +kernel
theorem dX6_isLetter_6 : decode cX6_isLetter 6 = .ok (.iconst 1, 1) := by decide +kernel
theorem dX6_isLetter_7 : decode cX6_isLetter 7 = .ok (.isub, 1) := by decide +kernel
theorem dX6_isLetter_8 : decode cX6_isLetter 8 = .ok (.invokestatic 45, 3) := by decide +kernel
theorem dX6_isLetter_11 : decode cX6_isLetter 11 = .ok (.ireturn, 1) := by decide +kernel
set_option maxRecDepth 20000 in
theorem ggX6_addDrowned_X6_isHeight : GoodIn wsX6_addDrowned wsX6_isHeight := goodIn_r _ [12, 13, 14, 11, 15] (by decide +kernel) (by decide +kernel)
set_option maxRecDepth 20000 in
theorem gX6_addDrowned_X6_isHeight : GoodIn wsX6_addDrowned (va_wsS RX6 53 yX6_isHeight wsX6_isHeight) := goodIn_app (goodIn_of _ (by decide +kernel)) ggX6_addDrowned_X6_isHeight
set_option maxRecDepth 20000 in
theorem ggX6_addDrowned_X6_isIn : GoodIn wsX6_addDrowned wsX6_isIn := goodIn_r _ [15] (by decide +kernel) (by decide +kernel)
set_option maxRecDepth 20000 in
theorem gX6_addDrowned_X6_isIn : GoodIn wsX6_addDrowned (va_wsS RX6 45 yX6_isIn wsX6_isIn) := goodIn_app (goodIn_of _ (by decide +kernel)) ggX6_addDrowned_X6_isIn
set_option maxRecDepth 20000 in
theorem ggX6_addDrowned_X6_fail : GoodIn wsX6_addDrowned wsX6_fail := goodIn_r _ [19, 1, 20, 21, 22, 23, 24, 25, 26, 27, 28, 29, 30, 31, 32, 33, 34] (by decide +kernel) (by decide +kernel)
set_option maxRecDepth 20000 in
theorem gX6_addDrowned_X6_fail : GoodIn wsX6_addDrowned (wsV RX6 57 RX6 yX6_fail wsX6_fail) := goodIn_app (goodIn_of _ (by decide +kernel)) ggX6_addDrowned_X6_fail
theorem dX6_addDrowned_0 : decode cX6_addDrowned 0 = .ok (.aload_n 0, 1) := by decide +kernel
theorem dX6_addDrowned_1 : decode cX6_addDrowned 1 = .ok (.iconst 0, 1) := by decide +kernel
theorem dX6_addDrowned_2 : decode cX6_addDrowned 2 = .ok (.putfield 42, 3) := by decide +kernel
theorem dX6_addDrowned_5 : decode cX6_addDrowned 5 = .ok (.iload_n 1, 1) := by decide +kernel
theorem dX6_addDrowned_6 : decode cX6_addDrowned 6 = .ok (.invokestatic 53, 3) := by decide +kernel
theorem dX6_addDrowned_9 : decode cX6_addDrowned 9 = .ok (.ifCond .eq 22, 3) := by decide +kernel
theorem dX6_addDrowned_12 : decode cX6_addDrowned 12 = .ok (.iload_n 2, 1) := by decide +kernel
theorem dX6_addDrowned_13 : decode cX6_addDrowned 13 = .ok (.iconst 0, 1) := by decide +kernel
theorem dX6_addDrowned_14 : decode cX6_addDrowned 14 = .ok (.iconst 5, 1) := by decide +kernel
theorem dX6_addDrowned_15 : decode cX6_addDrowned 15 = .ok (.invokestatic 45, 3) := by decide +kernel
theorem dX6_addDrowned_18 : decode cX6_addDrowned 18 = .ok (.ifCond .eq 13, 3) := by decide +kernel
theorem dX6_addDrowned_21 : decode cX6_addDrowned 21 = .ok (.iload_n 3, 1) := by decide +kernel
theorem dX6_addDrowned_22 : decode cX6_addDrowned 22 = .ok (.iconst 1, 1) := by decide +kernel
theorem dX6_addDrowned_23 : decode cX6_addDrowned 23 = .ok (.bipush 60, 2) := by decide +kernel
theorem dX6_addDrowned_25 : decode cX6_addDrowned 25 = .ok (.invokestatic 45, 3) := by decide +kernel
theorem dX6_addDrowned_28 : decode cX6_addDrowned 28 = .ok (.ifCond .ne 9, 3) := by decide +kernel
theorem dX6_addDrowned_31 : decode cX6_addDrowned 31 = .ok (.aload_n 0, 1) := by decide +kernel
theorem dX6_addDrowned_32 : decode cX6_addDrowned 32 = .ok (.iconst 1, 1) := by decide +kernel
theorem dX6_addDrowned_33 : decode cX6_addDrowned 33 = .ok (.invokevirtual 57, 3) := by decide +kernel
theorem dX6_addDrowned_36 : decode cX6_addDrowned 36 = .ok (.ireturn, 1) := by decide +kernel
theorem dX6_addDrowned_37 : decode cX6_addDrowned 37 = .ok (.aload_n 0, 1) := by decide +kernel
theorem dX6_addDrowned_38 : decode cX6_addDrowned 38 = .ok (.getfield 67, 3) := by decide +kernel
theorem dX6_addDrowned_41 : decode cX6_addDrowned 41 = .ok (.bipush 16, 2) := by decide +kernel
theorem dX6_addDrowned_43 : decode cX6_addDrowned 43 = .ok (.if_icmp .ne 9, 3) := by decide +kernel
theorem dX6_addDrowned_46 : decode cX6_addDrowned 46 = .ok (.aload_n 0, 1) := by decide +kernel
theorem dX6_addDrowned_47 : decode cX6_addDrowned 47 = .ok (.iconst 2, 1) := by decide +kernel
theorem dX6_addDrowned_48 : decode cX6_addDrowned 48 = .ok (.invokevirtual 57, 3) := by decide +kernel
theorem dX6_addDrowned_51 : decode cX6_addDrowned 51 = .ok (.ireturn, 1) := by decide +kernel
theorem dX6_addDrowned_52 : decode cX6_addDrowned 52 = .ok (.iconst 5, 1) := by decide +kernel
theorem dX6_addDrowned_53 : decode cX6_addDrowned 53 = .ok (.newarray .int, 2) := by decide +kernel
theorem dX6_addDrowned_55 : decode cX6_addDrowned 55 = .ok (.dup, 1) := by decide +kernel
theorem dX6_addDrowned_56 : decode cX6_addDrowned 56 = .ok (.iconst 0, 1) := by decide +kernel
theorem dX6_addDrowned_57 : decode cX6_addDrowned 57 = .ok (.iload_n 1, 1) := by decide +kernel
theorem dX6_addDrowned_58 : decode cX6_addDrowned 58 = .ok (.iastore, 1) := by decide +kernel
theorem dX6_addDrowned_59 : decode cX6_addDrowned 59 = .ok (.dup, 1) := by decide +kernel
theorem dX6_addDrowned_60 : decode cX6_addDrowned 60 = .ok (.iconst 1, 1) := by decide +kernel
theorem dX6_addDrowned_61 : decode cX6_addDrowned 61 = .ok (.iload_n 2, 1) := by decide +kernel
theorem dX6_addDrowned_62 : decode cX6_addDrowned 62 = .ok (.iastore, 1) := by decide +kernel
theorem dX6_addDrowned_63 : decode cX6_addDrowned 63 = .ok (.dup, 1) := by decide +kernel
theorem dX6_addDrowned_64 : decode cX6_addDrowned 64 = .ok (.iconst 2, 1) := by decide +kernel
theorem dX6_addDrowned_65 : decode cX6_addDrowned 65 = .ok (.iload_n 3, 1) := by decide +kernel
theorem dX6_addDrowned_66 : decode cX6_addDrowned 66 = .ok (.iastore, 1) := by decide +kernel
theorem dX6_addDrowned_67 : decode cX6_addDrowned 67 = .ok (.dup, 1) := by decide +kernel
theorem dX6_addDrowned_68 : decode cX6_addDrowned 68 = .ok (.iconst 3, 1) := by decide +kernel
theorem dX6_addDrowned_69 : decode cX6_addDrowned 69 = .ok (.iconst 0, 1) := by decide +kernel
theorem dX6_addDrowned_70 : decode cX6_addDrowned 70 = .ok (.iastore, 1) := by decide +kernel
theorem dX6_addDrowned_71 : decode cX6_addDrowned 71 = .ok (.dup, 1) := by decide +kernel
theorem dX6_addDrowned_72 : decode cX6_addDrowned 72 = .ok (.iconst 4, 1) := by decide +kernel
theorem dX6_addDrowned_73 : decode cX6_addDrowned 73 = .ok (.iconst 0, 1) := by decide +kernel
theorem dX6_addDrowned_74 : decode cX6_addDrowned 74 = .ok (.iastore, 1) := by decide +kernel
theorem dX6_addDrowned_75 : decode cX6_addDrowned 75 = .ok (.astore 4, 2) := by decide +kernel
theorem dX6_addDrowned_77 : decode cX6_addDrowned 77 = .ok (.aload 4, 2) := by decide +kernel
theorem dX6_addDrowned_79 : decode cX6_addDrowned 79 = .ok (.iconst 0, 1) := by decide +kernel
theorem dX6_addDrowned_80 : decode cX6_addDrowned 80 = .ok (.aload_n 0, 1) := by decide +kernel
theorem dX6_addDrowned_81 : decode cX6_addDrowned 81 = .ok (.getfield 20, 3) := by decide +kernel
theorem dX6_addDrowned_84 : decode cX6_addDrowned 84 = .ok (.iconst 5, 1) := by decide +kernel
theorem dX6_addDrowned_85 : decode cX6_addDrowned 85 = .ok (.aload_n 0, 1) := by decide +kernel
theorem dX6_addDrowned_86 : decode cX6_addDrowned 86 = .ok (.getfield 67, 3) := by decide +kernel
theorem dX6_addDrowned_89 : decode cX6_addDrowned 89 = .ok (.imul, 1) := by decide +kernel
theorem dX6_addDrowned_90 : decode cX6_addDrowned 90 = .ok (.iconst 5, 1) := by decide +kernel
theorem dX6_addDrowned_91 : decode cX6_addDrowned 91 = .ok (.invokestatic 73, 3) := by decide +kernel
theorem dX6_addDrowned_94 : decode cX6_addDrowned 94 = .ok (.aload_n 0, 1) := by decide +kernel
theorem dX6_addDrowned_95 : decode cX6_addDrowned 95 = .ok (.dup, 1) := by decide +kernel
theorem dX6_addDrowned_96 : decode cX6_addDrowned 96 = .ok (.getfield 67, 3) := by decide +kernel
theorem dX6_addDrowned_99 : decode cX6_addDrowned 99 = .ok (.iconst 1, 1) := by decide +kernel
theorem dX6_addDrowned_100 : decode cX6_addDrowned 100 = .ok (.iadd, 1) := by decide +kernel
theorem dX6_addDrowned_101 : decode cX6_addDrowned 101 = .ok (.putfield 67, 3) := by decide +kernel
theorem dX6_addDrowned_104 : decode cX6_addDrowned 104 = .ok (.aload_n 0, 1) := by decide +kernel
theorem dX6_addDrowned_105 : decode cX6_addDrowned 105 = .ok (.getfield 67, 3) := by decide +kernel
theorem dX6_addDrowned_108 : decode cX6_addDrowned 108 = .ok (.iconst 1, 1) := by decide +kernel
theorem dX6_addDrowned_109 : decode cX6_addDrowned 109 = .ok (.isub, 1) := by decide +kernel
theorem dX6_addDrowned_110 : decode cX6_addDrowned 110 = .ok (.ireturn, 1) := by decide +kernel
theorem dX6_add_0 : decode cX6_add 0 = .ok (.bipush 9, 2) := by decide +kernel
theorem dX6_add_2 : decode cX6_add 2 = .ok (.newarray .int, 2) := by decide +kernel
theorem dX6_add_4 : decode cX6_add 4 = .ok (.dup, 1) := by decide +kernel
theorem dX6_add_5 : decode cX6_add 5 = .ok (.iconst 0, 1) := by decide +kernel
theorem dX6_add_6 : decode cX6_add 6 = .ok (.iload_n 1, 1) := by decide +kernel
theorem dX6_add_7 : decode cX6_add 7 = .ok (.iastore, 1) := by decide +kernel
theorem dX6_add_8 : decode cX6_add 8 = .ok (.dup, 1) := by decide +kernel
theorem dX6_add_9 : decode cX6_add 9 = .ok (.iconst 1, 1) := by decide +kernel
theorem dX6_add_10 : decode cX6_add 10 = .ok (.iload_n 2, 1) := by decide +kernel
theorem dX6_add_11 : decode cX6_add 11 = .ok (.iastore, 1) := by decide +kernel
theorem dX6_add_12 : decode cX6_add 12 = .ok (.dup, 1) := by decide +kernel
theorem dX6_add_13 : decode cX6_add 13 = .ok (.iconst 2, 1) := by decide +kernel
theorem dX6_add_14 : decode cX6_add 14 = .ok (.iload_n 3, 1) := by decide +kernel
theorem dX6_add_15 : decode cX6_add 15 = .ok (.iastore, 1) := by decide +kernel
theorem dX6_add_16 : decode cX6_add 16 = .ok (.dup, 1) := by decide +kernel
theorem dX6_add_17 : decode cX6_add 17 = .ok (.iconst 3, 1) := by decide +kernel
theorem dX6_add_18 : decode cX6_add 18 = .ok (.iload 4, 2) := by decide +kernel
theorem dX6_add_20 : decode cX6_add 20 = .ok (.iastore, 1) := by decide +kernel
theorem dX6_add_21 : decode cX6_add 21 = .ok (.dup, 1) := by decide +kernel
theorem dX6_add_22 : decode cX6_add 22 = .ok (.iconst 4, 1) := by decide +kernel
theorem dX6_add_23 : decode cX6_add 23 = .ok (.iconst 0, 1) := by decide +kernel
theorem dX6_add_24 : decode cX6_add 24 = .ok (.iastore, 1) := by decide +kernel
theorem dX6_add_25 : decode cX6_add 25 = .ok (.dup, 1) := by decide +kernel
theorem dX6_add_26 : decode cX6_add 26 = .ok (.iconst 5, 1) := by decide +kernel
theorem dX6_add_27 : decode cX6_add 27 = .ok (.iconst (-1), 1) := by decide +kernel
theorem dX6_add_28 : decode cX6_add 28 = .ok (.iastore, 1) := by decide +kernel
theorem dX6_add_29 : decode cX6_add 29 = .ok (.dup, 1) := by decide +kernel
theorem dX6_add_30 : decode cX6_add 30 = .ok (.bipush 6, 2) := by decide +kernel
theorem dX6_add_32 : decode cX6_add 32 = .ok (.iconst 0, 1) := by decide +kernel
theorem dX6_add_33 : decode cX6_add 33 = .ok (.iastore, 1) := by decide +kernel
theorem dX6_add_34 : decode cX6_add 34 = .ok (.dup, 1) := by decide +kernel
theorem dX6_add_35 : decode cX6_add 35 = .ok (.bipush 7, 2) := by decide +kernel
theorem dX6_add_37 : decode cX6_add 37 = .ok (.iload 5, 2) := by decide +kernel
theorem dX6_add_39 : decode cX6_add 39 = .ok (.iastore, 1) := by decide +kernel
theorem dX6_add_40 : decode cX6_add 40 = .ok (.dup, 1) := by decide +kernel
theorem dX6_add_41 : decode cX6_add 41 = .ok (.bipush 8, 2) := by decide +kernel
theorem dX6_add_43 : decode cX6_add 43 = .ok (.iload 6, 2) := by decide +kernel
theorem dX6_add_45 : decode cX6_add 45 = .ok (.iastore, 1) := by decide +kernel
theorem dX6_add_46 : decode cX6_add 46 = .ok (.astore 7, 2) := by decide +kernel
theorem dX6_add_48 : decode cX6_add 48 = .ok (.aload 7, 2) := by decide +kernel
theorem dX6_add_50 : decode cX6_add 50 = .ok (.iconst 0, 1) := by decide +kernel
theorem dX6_add_51 : decode cX6_add 51 = .ok (.aload_n 0, 1) := by decide +kernel
theorem dX6_add_52 : decode cX6_add 52 = .ok (.getfield 23, 3) := by decide +kernel
theorem dX6_add_55 : decode cX6_add 55 = .ok (.bipush 9, 2) := by decide +kernel
theorem dX6_add_57 : decode cX6_add 57 = .ok (.aload_n 0, 1) := by decide +kernel
theorem dX6_add_58 : decode cX6_add 58 = .ok (.getfield 70, 3) := by decide +kernel
theorem dX6_add_61 : decode cX6_add 61 = .ok (.imul, 1) := by decide +kernel
theorem dX6_add_62 : decode cX6_add 62 = .ok (.bipush 9, 2) := by decide +kernel
theorem dX6_add_64 : decode cX6_add 64 = .ok (.invokestatic 73, 3) := by decide +kernel
theorem dX6_add_67 : decode cX6_add 67 = .ok (.aload_n 0, 1) := by decide +kernel
theorem dX6_add_68 : decode cX6_add 68 = .ok (.dup, 1) := by decide +kernel
theorem dX6_add_69 : decode cX6_add 69 = .ok (.getfield 70, 3) := by decide +kernel
theorem dX6_add_72 : decode cX6_add 72 = .ok (.iconst 1, 1) := by decide +kernel
theorem dX6_add_73 : decode cX6_add 73 = .ok (.iadd, 1) := by decide +kernel
theorem dX6_add_74 : decode cX6_add 74 = .ok (.putfield 70, 3) := by decide +kernel
theorem dX6_add_77 : decode cX6_add 77 = .ok (.return_, 1) := by decide +kernel
set_option maxRecDepth 20000 in
theorem ggX6_bring_X6_isOne : GoodIn wsX6_bring wsX6_isOne := goodIn_r _ [7, 8, 9, 10, 6, 11, 26, 27, 28, 29, 30, 31, 32, 33, 34, 35, 36, 37, 38, 39, 40] (by decide +kernel) (by decide +kernel)
set_option maxRecDepth 20000 in
theorem gX6_bring_X6_isOne : GoodIn wsX6_bring (wsV RX6 79 RX6 yX6_isOne wsX6_isOne) := goodIn_app (goodIn_of _ (by decide +kernel)) ggX6_bring_X6_isOne
set_option maxRecDepth 20000 in
theorem ggX6_bring_X6_fail : GoodIn wsX6_bring wsX6_fail := goodIn_r _ [15, 1, 26, 27, 28, 29, 30, 31, 32, 33, 34, 35, 36, 37, 38, 39, 40] (by decide +kernel) (by decide +kernel)
set_option maxRecDepth 20000 in
theorem gX6_bring_X6_fail : GoodIn wsX6_bring (wsV RX6 57 RX6 yX6_fail wsX6_fail) := goodIn_app (goodIn_of _ (by decide +kernel)) ggX6_bring_X6_fail
set_option maxRecDepth 20000 in
theorem ggX6_bring_X6_isIn : GoodIn wsX6_bring wsX6_isIn := goodIn_r _ [11] (by decide +kernel) (by decide +kernel)
set_option maxRecDepth 20000 in
theorem gX6_bring_X6_isIn : GoodIn wsX6_bring (va_wsS RX6 45 yX6_isIn wsX6_isIn) := goodIn_app (goodIn_of _ (by decide +kernel)) ggX6_bring_X6_isIn
set_option maxRecDepth 20000 in
theorem ggX6_bring_X6_add : GoodIn wsX6_bring wsX6_add := goodIn_r _ [19, 20, 21, 2, 22, 23, 24, 25, 26, 27, 28, 29, 30, 31, 32, 33, 34, 35, 36, 37, 38, 39, 40] (by decide +kernel) (by decide +kernel)
set_option maxRecDepth 20000 in
theorem gX6_bring_X6_add : GoodIn wsX6_bring (wsV RX6 82 RX6 yX6_add wsX6_add) := goodIn_app (goodIn_of _ (by decide +kernel)) ggX6_bring_X6_add
theorem dX6_bring_0 : decode cX6_bring 0 = .ok (.aload_n 0, 1) := by decide +kernel
theorem dX6_bring_1 : decode cX6_bring 1 = .ok (.iconst 0, 1) := by decide +kernel
theorem dX6_bring_2 : decode cX6_bring 2 = .ok (.putfield 42, 3) := by decide +kernel
theorem dX6_bring_5 : decode cX6_bring 5 = .ok (.aload_n 0, 1) := by decide +kernel
theorem dX6_bring_6 : decode cX6_bring 6 = .ok (.iload_n 1, 1) := by decide +kernel
theorem dX6_bring_7 : decode cX6_bring 7 = .ok (.invokevirtual 79, 3) := by decide +kernel
theorem dX6_bring_10 : decode cX6_bring 10 = .ok (.ifCond .ne 9, 3) := by decide +kernel
theorem dX6_bring_13 : decode cX6_bring 13 = .ok (.aload_n 0, 1) := by decide +kernel
theorem dX6_bring_14 : decode cX6_bring 14 = .ok (.iconst 1, 1) := by decide +kernel
theorem dX6_bring_15 : decode cX6_bring 15 = .ok (.invokevirtual 57, 3) := by decide +kernel
theorem dX6_bring_18 : decode cX6_bring 18 = .ok (.ireturn, 1) := by decide +kernel
theorem dX6_bring_19 : decode cX6_bring 19 = .ok (.iload_n 2, 1) := by decide +kernel
theorem dX6_bring_20 : decode cX6_bring 20 = .ok (.iconst 1, 1) := by decide +kernel
theorem dX6_bring_21 : decode cX6_bring 21 = .ok (.bipush 9, 2) := by decide +kernel
theorem dX6_bring_23 : decode cX6_bring 23 = .ok (.invokestatic 45, 3) := by decide +kernel
theorem dX6_bring_26 : decode cX6_bring 26 = .ok (.ifCond .eq 13, 3) := by decide +kernel
theorem dX6_bring_29 : decode cX6_bring 29 = .ok (.iload_n 3, 1) := by decide +kernel
theorem dX6_bring_30 : decode cX6_bring 30 = .ok (.iconst 1, 1) := by decide +kernel
theorem dX6_bring_31 : decode cX6_bring 31 = .ok (.bipush 60, 2) := by decide +kernel
theorem dX6_bring_33 : decode cX6_bring 33 = .ok (.invokestatic 45, 3) := by decide +kernel
theorem dX6_bring_36 : decode cX6_bring 36 = .ok (.ifCond .ne 9, 3) := by decide +kernel
theorem dX6_bring_39 : decode cX6_bring 39 = .ok (.aload_n 0, 1) := by decide +kernel
theorem dX6_bring_40 : decode cX6_bring 40 = .ok (.iconst 2, 1) := by decide +kernel
theorem dX6_bring_41 : decode cX6_bring 41 = .ok (.invokevirtual 57, 3) := by decide +kernel
theorem dX6_bring_44 : decode cX6_bring 44 = .ok (.ireturn, 1) := by decide +kernel
theorem dX6_bring_45 : decode cX6_bring 45 = .ok (.aload_n 0, 1) := by decide +kernel
theorem dX6_bring_46 : decode cX6_bring 46 = .ok (.getfield 70, 3) := by decide +kernel
theorem dX6_bring_49 : decode cX6_bring 49 = .ok (.sipush 150, 3) := by decide +kernel
theorem dX6_bring_52 : decode cX6_bring 52 = .ok (.if_icmp .ne 9, 3) := by decide +kernel
theorem dX6_bring_55 : decode cX6_bring 55 = .ok (.aload_n 0, 1) := by decide +kernel
theorem dX6_bring_56 : decode cX6_bring 56 = .ok (.iconst 3, 1) := by decide +kernel
theorem dX6_bring_57 : decode cX6_bring 57 = .ok (.invokevirtual 57, 3) := by decide +kernel
theorem dX6_bring_60 : decode cX6_bring 60 = .ok (.ireturn, 1) := by decide +kernel
theorem dX6_bring_61 : decode cX6_bring 61 = .ok (.aload_n 0, 1) := by decide +kernel
theorem dX6_bring_62 : decode cX6_bring 62 = .ok (.iload_n 1, 1) := by decide +kernel
theorem dX6_bring_63 : decode cX6_bring 63 = .ok (.iload_n 2, 1) := by decide +kernel
theorem dX6_bring_64 : decode cX6_bring 64 = .ok (.iload_n 3, 1) := by decide +kernel
theorem dX6_bring_65 : decode cX6_bring 65 = .ok (.iconst 0, 1) := by decide +kernel
theorem dX6_bring_66 : decode cX6_bring 66 = .ok (.iconst 0, 1) := by decide +kernel
theorem dX6_bring_67 : decode cX6_bring 67 = .ok (.iconst (-1), 1) := by decide +kernel
theorem dX6_bring_68 : decode cX6_bring 68 = .ok (.invokevirtual 82, 3) := by decide +kernel
theorem dX6_bring_71 : decode cX6_bring 71 = .ok (.aload_n 0, 1) := by decide +kernel
theorem dX6_bring_72 : decode cX6_bring 72 = .ok (.getfield 70, 3) := by decide +kernel
theorem dX6_bring_75 : decode cX6_bring 75 = .ok (.iconst 1, 1) := by decide +kernel
theorem dX6_bring_76 : decode cX6_bring 76 = .ok (.isub, 1) := by decide +kernel
theorem dX6_bring_77 : decode cX6_bring 77 = .ok (.ireturn, 1) := by decide +kernel
set_option maxRecDepth 20000 in
theorem ggX6_leave_X6_get : GoodIn wsX6_leave wsX6_get := goodIn_r _ [5, 6, 11, 12, 13, 14, 15, 16, 17, 18, 19, 20, 21, 22, 23, 24, 25] (by decide +kernel) (by decide +kernel)
set_option maxRecDepth 20000 in
theorem gX6_leave_X6_get : GoodIn wsX6_leave (wsV RX6 49 RX6 yX6_get wsX6_get) := goodIn_app (goodIn_of _ (by decide +kernel)) ggX6_leave_X6_get
set_option maxRecDepth 20000 in
theorem ggX6_leave_X6_set : GoodIn wsX6_leave wsX6_set := goodIn_r _ [10, 6, 11, 12, 13, 14, 15, 16, 17, 18, 19, 20, 21, 22, 23, 24, 25] (by decide +kernel) (by decide +kernel)
set_option maxRecDepth 20000 in
theorem gX6_leave_X6_set : GoodIn wsX6_leave (wsV RX6 86 RX6 yX6_set wsX6_set) := goodIn_app (goodIn_of _ (by decide +kernel)) ggX6_leave_X6_set
theorem dX6_leave_0 : decode cX6_leave 0 = .ok (.aload_n 0, 1) := by decide +kernel
theorem dX6_leave_1 : decode cX6_leave 1 = .ok (.iload_n 1, 1) := by decide +kernel
theorem dX6_leave_2 : decode cX6_leave 2 = .ok (.iconst 5, 1) := by decide +kernel
theorem dX6_leave_3 : decode cX6_leave 3 = .ok (.invokevirtual 49, 3) := by decide +kernel
theorem dX6_leave_6 : decode cX6_leave 6 = .ok (.istore_n 3, 1) := by decide +kernel
theorem dX6_leave_7 : decode cX6_leave 7 = .ok (.aload_n 0, 1) := by decide +kernel
theorem dX6_leave_8 : decode cX6_leave 8 = .ok (.iload_n 1, 1) := by decide +kernel
theorem dX6_leave_9 : decode cX6_leave 9 = .ok (.iconst 3, 1) := by decide +kernel
theorem dX6_leave_10 : decode cX6_leave 10 = .ok (.iload_n 2, 1) := by decide +kernel
theorem dX6_leave_11 : decode cX6_leave 11 = .ok (.invokevirtual 86, 3) := by decide +kernel
theorem dX6_leave_14 : decode cX6_leave 14 = .ok (.aload_n 0, 1) := by decide +kernel
theorem dX6_leave_15 : decode cX6_leave 15 = .ok (.iload_n 1, 1) := by decide +kernel
theorem dX6_leave_16 : decode cX6_leave 16 = .ok (.iconst 5, 1) := by decide +kernel
theorem dX6_leave_17 : decode cX6_leave 17 = .ok (.iconst (-1), 1) := by decide +kernel
theorem dX6_leave_18 : decode cX6_leave 18 = .ok (.invokevirtual 86, 3) := by decide +kernel
theorem dX6_leave_21 : decode cX6_leave 21 = .ok (.aload_n 0, 1) := by decide +kernel
theorem dX6_leave_22 : decode cX6_leave 22 = .ok (.iload_n 1, 1) := by decide +kernel
theorem dX6_leave_23 : decode cX6_leave 23 = .ok (.bipush 6, 2) := by decide +kernel
theorem dX6_leave_25 : decode cX6_leave 25 = .ok (.iconst 0, 1) := by decide +kernel
theorem dX6_leave_26 : decode cX6_leave 26 = .ok (.invokevirtual 86, 3) := by decide +kernel
theorem dX6_leave_29 : decode cX6_leave 29 = .ok (.iload_n 3, 1) := by decide +kernel
theorem dX6_leave_30 : decode cX6_leave 30 = .ok (.ireturn, 1) := by decide +kernel
set_option maxRecDepth 20000 in
theorem ggX6_takeOut_X6_isLetter : GoodIn wsX6_takeOut wsX6_isLetter := goodIn_r _ [7, 8, 9, 10, 6, 11, 44, 45, 46, 47, 48, 49, 50, 51, 52, 53, 54, 55, 56, 57, 58] (by decide +kernel) (by decide +kernel)
set_option maxRecDepth 20000 in
theorem gX6_takeOut_X6_isLetter : GoodIn wsX6_takeOut (wsV RX6 90 RX6 yX6_isLetter wsX6_isLetter) := goodIn_app (goodIn_of _ (by decide +kernel)) ggX6_takeOut_X6_isLetter
set_option maxRecDepth 20000 in
theorem ggX6_takeOut_X6_fail : GoodIn wsX6_takeOut wsX6_fail := goodIn_r _ [15, 1, 44, 45, 46, 47, 48, 49, 50, 51, 52, 53, 54, 55, 56, 57, 58] (by decide +kernel) (by decide +kernel)
set_option maxRecDepth 20000 in
theorem gX6_takeOut_X6_fail : GoodIn wsX6_takeOut (wsV RX6 57 RX6 yX6_fail wsX6_fail) := goodIn_app (goodIn_of _ (by decide +kernel)) ggX6_takeOut_X6_fail
set_option maxRecDepth 20000 in
theorem ggX6_takeOut_X6_isIn_ : GoodIn wsX6_takeOut wsX6_isIn_ := goodIn_r _ [19, 20, 21, 22, 6, 23, 24, 44, 45, 46, 47, 48, 49, 50, 51, 52, 53, 54, 55, 56, 57, 58] (by decide +kernel) (by decide +kernel)
set_option maxRecDepth 20000 in
theorem gX6_takeOut_X6_isIn_ : GoodIn wsX6_takeOut (wsV RX6 93 RX6 yX6_isIn_ wsX6_isIn_) := goodIn_app (goodIn_of _ (by decide +kernel)) ggX6_takeOut_X6_isIn_
set_option maxRecDepth 20000 in
theorem ggX6_takeOut_X6_get : GoodIn wsX6_takeOut wsX6_get := goodIn_r _ [23, 24, 44, 45, 46, 47, 48, 49, 50, 51, 52, 53, 54, 55, 56, 57, 58] (by decide +kernel) (by decide +kernel)
set_option maxRecDepth 20000 in
theorem gX6_takeOut_X6_get : GoodIn wsX6_takeOut (wsV RX6 49 RX6 yX6_get wsX6_get) := goodIn_app (goodIn_of _ (by decide +kernel)) ggX6_takeOut_X6_get
set_option maxRecDepth 20000 in
theorem ggX6_takeOut_X6_tideOf : GoodIn wsX6_takeOut wsX6_tideOf := goodIn_r _ [28, 29, 30, 44, 45, 46, 47, 48, 49, 50, 51, 52, 53, 54, 55, 56, 57, 58] (by decide +kernel) (by decide +kernel)
set_option maxRecDepth 20000 in
theorem gX6_takeOut_X6_tideOf : GoodIn wsX6_takeOut (wsV RX6 61 RX6 yX6_tideOf wsX6_tideOf) := goodIn_app (goodIn_of _ (by decide +kernel)) ggX6_takeOut_X6_tideOf
set_option maxRecDepth 20000 in
theorem ggX6_takeOut_X6_isUnder : GoodIn wsX6_takeOut wsX6_isUnder := goodIn_r _ [34, 35, 44, 45, 46, 47, 48, 49, 50, 51, 52, 53, 54, 55, 56, 57, 58] (by decide +kernel) (by decide +kernel)
set_option maxRecDepth 20000 in
theorem gX6_takeOut_X6_isUnder : GoodIn wsX6_takeOut (wsV RX6 99 RX6 yX6_isUnder wsX6_isUnder) := goodIn_app (goodIn_of _ (by decide +kernel)) ggX6_takeOut_X6_isUnder
set_option maxRecDepth 20000 in
theorem ggX6_takeOut_X6_leave : GoodIn wsX6_takeOut wsX6_leave := goodIn_r _ [39, 20, 21, 22, 6, 23, 24, 40, 41, 42, 43, 44, 45, 46, 47, 48, 49, 50, 51, 52, 53, 54, 55, 56, 57, 58] (by decide +kernel) (by decide +kernel)
set_option maxRecDepth 20000 in
theorem gX6_takeOut_X6_leave : GoodIn wsX6_takeOut (wsV RX6 102 RX6 yX6_leave wsX6_leave) := goodIn_app (goodIn_of _ (by decide +kernel)) ggX6_takeOut_X6_leave
theorem dX6_takeOut_0 : decode cX6_takeOut 0 = .ok (.aload_n 0, 1) := by decide +kernel
theorem dX6_takeOut_1 : decode cX6_takeOut 1 = .ok (.iconst 0, 1) := by decide +kernel
theorem dX6_takeOut_2 : decode cX6_takeOut 2 = .ok (.putfield 42, 3) := by decide +kernel
theorem dX6_takeOut_5 : decode cX6_takeOut 5 = .ok (.aload_n 0, 1) := by decide +kernel
theorem dX6_takeOut_6 : decode cX6_takeOut 6 = .ok (.iload_n 1, 1) := by decide +kernel
theorem dX6_takeOut_7 : decode cX6_takeOut 7 = .ok (.invokevirtual 90, 3) := by decide +kernel
theorem dX6_takeOut_10 : decode cX6_takeOut 10 = .ok (.ifCond .ne 9, 3) := by decide +kernel
theorem dX6_takeOut_13 : decode cX6_takeOut 13 = .ok (.aload_n 0, 1) := by decide +kernel
theorem dX6_takeOut_14 : decode cX6_takeOut 14 = .ok (.iconst 1, 1) := by decide +kernel
theorem dX6_takeOut_15 : decode cX6_takeOut 15 = .ok (.invokevirtual 57, 3) := by decide +kernel
theorem dX6_takeOut_18 : decode cX6_takeOut 18 = .ok (.ireturn, 1) := by decide +kernel
theorem dX6_takeOut_19 : decode cX6_takeOut 19 = .ok (.aload_n 0, 1) := by decide +kernel
theorem dX6_takeOut_20 : decode cX6_takeOut 20 = .ok (.iload_n 1, 1) := by decide +kernel
theorem dX6_takeOut_21 : decode cX6_takeOut 21 = .ok (.iconst 1, 1) := by decide +kernel
theorem dX6_takeOut_22 : decode cX6_takeOut 22 = .ok (.invokevirtual 93, 3) := by decide +kernel
theorem dX6_takeOut_25 : decode cX6_takeOut 25 = .ok (.ifCond .eq 24, 3) := by decide +kernel
theorem dX6_takeOut_28 : decode cX6_takeOut 28 = .ok (.aload_n 0, 1) := by decide +kernel
theorem dX6_takeOut_29 : decode cX6_takeOut 29 = .ok (.aload_n 0, 1) := by decide +kernel
theorem dX6_takeOut_30 : decode cX6_takeOut 30 = .ok (.iload_n 1, 1) := by decide +kernel
theorem dX6_takeOut_31 : decode cX6_takeOut 31 = .ok (.iconst 5, 1) := by decide +kernel
theorem dX6_takeOut_32 : decode cX6_takeOut 32 = .ok (.invokevirtual 49, 3) := by decide +kernel
theorem dX6_takeOut_35 : decode cX6_takeOut 35 = .ok (.aload_n 0, 1) := by decide +kernel
theorem dX6_takeOut_36 : decode cX6_takeOut 36 = .ok (.aload_n 0, 1) := by decide +kernel
theorem dX6_takeOut_37 : decode cX6_takeOut 37 = .ok (.getfield 96, 3) := by decide +kernel
theorem dX6_takeOut_40 : decode cX6_takeOut 40 = .ok (.invokevirtual 61, 3) := by decide +kernel
theorem dX6_takeOut_43 : decode cX6_takeOut 43 = .ok (.invokevirtual 99, 3) := by decide +kernel
theorem dX6_takeOut_46 : decode cX6_takeOut 46 = .ok (.ifCond .eq 9, 3) := by decide +kernel
theorem dX6_takeOut_49 : decode cX6_takeOut 49 = .ok (.aload_n 0, 1) := by decide +kernel
theorem dX6_takeOut_50 : decode cX6_takeOut 50 = .ok (.iconst 2, 1) := by decide +kernel
theorem dX6_takeOut_51 : decode cX6_takeOut 51 = .ok (.invokevirtual 57, 3) := by decide +kernel
theorem dX6_takeOut_54 : decode cX6_takeOut 54 = .ok (.ireturn, 1) := by decide +kernel
theorem dX6_takeOut_55 : decode cX6_takeOut 55 = .ok (.aload_n 0, 1) := by decide +kernel
theorem dX6_takeOut_56 : decode cX6_takeOut 56 = .ok (.iload_n 1, 1) := by decide +kernel
theorem dX6_takeOut_57 : decode cX6_takeOut 57 = .ok (.iconst 0, 1) := by decide +kernel
theorem dX6_takeOut_58 : decode cX6_takeOut 58 = .ok (.invokevirtual 102, 3) := by decide +kernel
theorem dX6_takeOut_61 : decode cX6_takeOut 61 = .ok (.ireturn, 1) := by decide +kernel
set_option maxRecDepth 20000 in
theorem ggX6_letter_X6_isLetter : GoodIn wsX6_letter wsX6_isLetter := goodIn_r _ [6, 7, 8, 9, 5, 10, 20, 21, 22, 23, 24, 25, 26, 27, 28, 29, 30, 31, 32, 33, 34] (by decide +kernel) (by decide +kernel)
set_option maxRecDepth 20000 in
theorem gX6_letter_X6_isLetter : GoodIn wsX6_letter (wsV RX6 90 RX6 yX6_isLetter wsX6_isLetter) := goodIn_app (goodIn_of _ (by decide +kernel)) ggX6_letter_X6_isLetter
set_option maxRecDepth 20000 in
theorem ggX6_letter_X6_isIn : GoodIn wsX6_letter wsX6_isIn := goodIn_r _ [10] (by decide +kernel) (by decide +kernel)
set_option maxRecDepth 20000 in
theorem gX6_letter_X6_isIn : GoodIn wsX6_letter (va_wsS RX6 45 yX6_isIn wsX6_isIn) := goodIn_app (goodIn_of _ (by decide +kernel)) ggX6_letter_X6_isIn
set_option maxRecDepth 20000 in
theorem ggX6_letter_X6_get : GoodIn wsX6_letter wsX6_get := goodIn_r _ [14, 15, 20, 21, 22, 23, 24, 25, 26, 27, 28, 29, 30, 31, 32, 33, 34] (by decide +kernel) (by decide +kernel)
set_option maxRecDepth 20000 in
theorem gX6_letter_X6_get : GoodIn wsX6_letter (wsV RX6 49 RX6 yX6_get wsX6_get) := goodIn_app (goodIn_of _ (by decide +kernel)) ggX6_letter_X6_get
set_option maxRecDepth 20000 in
theorem ggX6_letter_X6_fail : GoodIn wsX6_letter wsX6_fail := goodIn_r _ [19, 1, 20, 21, 22, 23, 24, 25, 26, 27, 28, 29, 30, 31, 32, 33, 34] (by decide +kernel) (by decide +kernel)
set_option maxRecDepth 20000 in
theorem gX6_letter_X6_fail : GoodIn wsX6_letter (wsV RX6 57 RX6 yX6_fail wsX6_fail) := goodIn_app (goodIn_of _ (by decide +kernel)) ggX6_letter_X6_fail
theorem dX6_letter_0 : decode cX6_letter 0 = .ok (.aload_n 0, 1) := by decide +kernel
theorem dX6_letter_1 : decode cX6_letter 1 = .ok (.iconst 0, 1) := by decide +kernel
theorem dX6_letter_2 : decode cX6_letter 2 = .ok (.putfield 42, 3) := by decide +kernel
theorem dX6_letter_5 : decode cX6_letter 5 = .ok (.aload_n 0, 1) := by decide +kernel
theorem dX6_letter_6 : decode cX6_letter 6 = .ok (.iload_n 1, 1) := by decide +kernel
theorem dX6_letter_7 : decode cX6_letter 7 = .ok (.invokevirtual 90, 3) := by decide +kernel
theorem dX6_letter_10 : decode cX6_letter 10 = .ok (.ifCond .eq 22, 3) := by decide +kernel
theorem dX6_letter_13 : decode cX6_letter 13 = .ok (.iload_n 2, 1) := by decide +kernel
theorem dX6_letter_14 : decode cX6_letter 14 = .ok (.iconst 0, 1) := by decide +kernel
theorem dX6_letter_15 : decode cX6_letter 15 = .ok (.bipush 8, 2) := by decide +kernel
theorem dX6_letter_17 : decode cX6_letter 17 = .ok (.invokestatic 45, 3) := by decide +kernel
theorem dX6_letter_20 : decode cX6_letter 20 = .ok (.ifCond .eq 12, 3) := by decide +kernel
theorem dX6_letter_23 : decode cX6_letter 23 = .ok (.aload_n 0, 1) := by decide +kernel
theorem dX6_letter_24 : decode cX6_letter 24 = .ok (.iload_n 1, 1) := by decide +kernel
theorem dX6_letter_25 : decode cX6_letter 25 = .ok (.iload_n 2, 1) := by decide +kernel
theorem dX6_letter_26 : decode cX6_letter 26 = .ok (.invokevirtual 49, 3) := by decide +kernel
theorem dX6_letter_29 : decode cX6_letter 29 = .ok (.goto 8, 3) := by decide +kernel
theorem dX6_letter_32 : decode cX6_letter 32 = .ok (.aload_n 0, 1) := by decide +kernel
theorem dX6_letter_33 : decode cX6_letter 33 = .ok (.iconst 1, 1) := by decide +kernel
theorem dX6_letter_34 : decode cX6_letter 34 = .ok (.invokevirtual 57, 3) := by decide +kernel
theorem dX6_letter_37 : decode cX6_letter 37 = .ok (.ireturn, 1) := by decide +kernel
set_option maxRecDepth 20000 in
theorem ggX6_drowned_X6_isOne : GoodIn wsX6_drowned wsX6_isOne := goodIn_r _ [6, 7, 8, 9, 5, 10, 20, 21, 22, 23, 24, 25, 26, 27, 28, 29, 30, 31, 32, 33, 34] (by decide +kernel) (by decide +kernel)
set_option maxRecDepth 20000 in
theorem gX6_drowned_X6_isOne : GoodIn wsX6_drowned (wsV RX6 79 RX6 yX6_isOne wsX6_isOne) := goodIn_app (goodIn_of _ (by decide +kernel)) ggX6_drowned_X6_isOne
set_option maxRecDepth 20000 in
theorem ggX6_drowned_X6_isIn : GoodIn wsX6_drowned wsX6_isIn := goodIn_r _ [10] (by decide +kernel) (by decide +kernel)
set_option maxRecDepth 20000 in
theorem gX6_drowned_X6_isIn : GoodIn wsX6_drowned (va_wsS RX6 45 yX6_isIn wsX6_isIn) := goodIn_app (goodIn_of _ (by decide +kernel)) ggX6_drowned_X6_isIn
set_option maxRecDepth 20000 in
theorem ggX6_drowned_X6_one : GoodIn wsX6_drowned wsX6_one := goodIn_r _ [14, 15, 20, 21, 22, 23, 24, 25, 26, 27, 28, 29, 30, 31, 32, 33, 34] (by decide +kernel) (by decide +kernel)
set_option maxRecDepth 20000 in
theorem gX6_drowned_X6_one : GoodIn wsX6_drowned (wsV RX6 105 RX6 yX6_one wsX6_one) := goodIn_app (goodIn_of _ (by decide +kernel)) ggX6_drowned_X6_one
set_option maxRecDepth 20000 in
theorem ggX6_drowned_X6_fail : GoodIn wsX6_drowned wsX6_fail := goodIn_r _ [19, 1, 20, 21, 22, 23, 24, 25, 26, 27, 28, 29, 30, 31, 32, 33, 34] (by decide +kernel) (by decide +kernel)
set_option maxRecDepth 20000 in
theorem gX6_drowned_X6_fail : GoodIn wsX6_drowned (wsV RX6 57 RX6 yX6_fail wsX6_fail) := goodIn_app (goodIn_of _ (by decide +kernel)) ggX6_drowned_X6_fail
theorem dX6_drowned_0 : decode cX6_drowned 0 = .ok (.aload_n 0, 1) := by decide +kernel
theorem dX6_drowned_1 : decode cX6_drowned 1 = .ok (.iconst 0, 1) := by decide +kernel
theorem dX6_drowned_2 : decode cX6_drowned 2 = .ok (.putfield 42, 3) := by decide +kernel
theorem dX6_drowned_5 : decode cX6_drowned 5 = .ok (.aload_n 0, 1) := by decide +kernel
theorem dX6_drowned_6 : decode cX6_drowned 6 = .ok (.iload_n 1, 1) := by decide +kernel
theorem dX6_drowned_7 : decode cX6_drowned 7 = .ok (.invokevirtual 79, 3) := by decide +kernel
theorem dX6_drowned_10 : decode cX6_drowned 10 = .ok (.ifCond .eq 21, 3) := by decide +kernel
theorem dX6_drowned_13 : decode cX6_drowned 13 = .ok (.iload_n 2, 1) := by decide +kernel
theorem dX6_drowned_14 : decode cX6_drowned 14 = .ok (.iconst 0, 1) := by decide +kernel
theorem dX6_drowned_15 : decode cX6_drowned 15 = .ok (.iconst 4, 1) := by decide +kernel
theorem dX6_drowned_16 : decode cX6_drowned 16 = .ok (.invokestatic 45, 3) := by decide +kernel
theorem dX6_drowned_19 : decode cX6_drowned 19 = .ok (.ifCond .eq 12, 3) := by decide +kernel
theorem dX6_drowned_22 : decode cX6_drowned 22 = .ok (.aload_n 0, 1) := by decide +kernel
theorem dX6_drowned_23 : decode cX6_drowned 23 = .ok (.iload_n 1, 1) := by decide +kernel
theorem dX6_drowned_24 : decode cX6_drowned 24 = .ok (.iload_n 2, 1) := by decide +kernel
theorem dX6_drowned_25 : decode cX6_drowned 25 = .ok (.invokevirtual 105, 3) := by decide +kernel
theorem dX6_drowned_28 : decode cX6_drowned 28 = .ok (.goto 8, 3) := by decide +kernel
theorem dX6_drowned_31 : decode cX6_drowned 31 = .ok (.aload_n 0, 1) := by decide +kernel
theorem dX6_drowned_32 : decode cX6_drowned 32 = .ok (.iconst 1, 1) := by decide +kernel
theorem dX6_drowned_33 : decode cX6_drowned 33 = .ok (.invokevirtual 57, 3) := by decide +kernel
theorem dX6_drowned_36 : decode cX6_drowned 36 = .ok (.ireturn, 1) := by decide +kernel
set_option maxRecDepth 20000 in
theorem ggX6_sumOf_X6_isIn_ : GoodIn wsX6_sumOf wsX6_isIn_ := goodIn_r _ [6, 7, 8, 9, 5, 10, 11, 12, 13, 14, 15, 16, 17, 18, 19, 20, 21, 22, 23, 24, 25, 26] (by decide +kernel) (by decide +kernel)
set_option maxRecDepth 20000 in
theorem gX6_sumOf_X6_isIn_ : GoodIn wsX6_sumOf (wsV RX6 93 RX6 yX6_isIn_ wsX6_isIn_) := goodIn_app (goodIn_of _ (by decide +kernel)) ggX6_sumOf_X6_isIn_
set_option maxRecDepth 20000 in
theorem ggX6_sumOf_X6_get : GoodIn wsX6_sumOf wsX6_get := goodIn_r _ [10, 11, 12, 13, 14, 15, 16, 17, 18, 19, 20, 21, 22, 23, 24, 25, 26] (by decide +kernel) (by decide +kernel)
set_option maxRecDepth 20000 in
theorem gX6_sumOf_X6_get : GoodIn wsX6_sumOf (wsV RX6 49 RX6 yX6_get wsX6_get) := goodIn_app (goodIn_of _ (by decide +kernel)) ggX6_sumOf_X6_get
theorem dX6_sumOf_0 : decode cX6_sumOf 0 = .ok (.iconst 0, 1) := by decide +kernel
theorem dX6_sumOf_1 : decode cX6_sumOf 1 = .ok (.istore_n 3, 1) := by decide +kernel
theorem dX6_sumOf_2 : decode cX6_sumOf 2 = .ok (.iconst 0, 1) := by decide +kernel
theorem dX6_sumOf_3 : decode cX6_sumOf 3 = .ok (.istore 4, 2) := by decide +kernel
theorem dX6_sumOf_5 : decode cX6_sumOf 5 = .ok (.iload 4, 2) := by decide +kernel
theorem dX6_sumOf_7 : decode cX6_sumOf 7 = .ok (.aload_n 0, 1) := by decide +kernel
theorem dX6_sumOf_8 : decode cX6_sumOf 8 = .ok (.getfield 70, 3) := by decide +kernel
theorem dX6_sumOf_11 : decode cX6_sumOf 11 = .ok (.if_icmp .ge 48, 3) := by decide +kernel
theorem dX6_sumOf_14 : decode cX6_sumOf 14 = .ok (.aload_n 0, 1) := by decide +kernel
theorem dX6_sumOf_15 : decode cX6_sumOf 15 = .ok (.iload 4, 2) := by decide +kernel
theorem dX6_sumOf_17 : decode cX6_sumOf 17 = .ok (.iconst 1, 1) := by decide +kernel
theorem dX6_sumOf_18 : decode cX6_sumOf 18 = .ok (.invokevirtual 93, 3) := by decide +kernel
theorem dX6_sumOf_21 : decode cX6_sumOf 21 = .ok (.ifCond .eq 32, 3) := by decide +kernel
theorem dX6_sumOf_24 : decode cX6_sumOf 24 = .ok (.aload_n 0, 1) := by decide +kernel
theorem dX6_sumOf_25 : decode cX6_sumOf 25 = .ok (.iload 4, 2) := by decide +kernel
theorem dX6_sumOf_27 : decode cX6_sumOf 27 = .ok (.iconst 5, 1) := by decide +kernel
theorem dX6_sumOf_28 : decode cX6_sumOf 28 = .ok (.invokevirtual 49, 3) := by decide +kernel
theorem dX6_sumOf_31 : decode cX6_sumOf 31 = .ok (.iload_n 1, 1) := by decide +kernel
theorem dX6_sumOf_32 : decode cX6_sumOf 32 = .ok (.if_icmp .ne 21, 3) := by decide +kernel
theorem dX6_sumOf_35 : decode cX6_sumOf 35 = .ok (.iload_n 3, 1) := by decide +kernel
theorem dX6_sumOf_36 : decode cX6_sumOf 36 = .ok (.iload_n 2, 1) := by decide +kernel
theorem dX6_sumOf_37 : decode cX6_sumOf 37 = .ok (.ifCond .eq 7, 3) := by decide +kernel
theorem dX6_sumOf_40 : decode cX6_sumOf 40 = .ok (.iconst 1, 1) := by decide +kernel
theorem dX6_sumOf_41 : decode cX6_sumOf 41 = .ok (.goto 10, 3) := by decide +kernel
theorem dX6_sumOf_44 : decode cX6_sumOf 44 = .ok (.aload_n 0, 1) := by decide +kernel
theorem dX6_sumOf_45 : decode cX6_sumOf 45 = .ok (.iload 4, 2) := by decide +kernel
theorem dX6_sumOf_47 : decode cX6_sumOf 47 = .ok (.iconst 4, 1) := by decide +kernel
theorem dX6_sumOf_48 : decode cX6_sumOf 48 = .ok (.invokevirtual 49, 3) := by decide +kernel
theorem dX6_sumOf_51 : decode cX6_sumOf 51 = .ok (.iadd, 1) := by decide +kernel
theorem dX6_sumOf_52 : decode cX6_sumOf 52 = .ok (.istore_n 3, 1) := by decide +kernel
theorem dX6_sumOf_53 : decode cX6_sumOf 53 = .ok (.iinc 4 1, 3) := by decide +kernel
theorem dX6_sumOf_56 : decode cX6_sumOf 56 = .ok (.goto (-51), 3) := by decide +kernel
theorem dX6_sumOf_59 : decode cX6_sumOf 59 = .ok (.iload_n 3, 1) := by decide +kernel
theorem dX6_sumOf_60 : decode cX6_sumOf 60 = .ok (.ireturn, 1) := by decide +kernel
set_option maxRecDepth 20000 in
theorem ggX6_binTold_X6_sumOf : GoodIn wsX6_binTold wsX6_sumOf := goodIn_r _ [7, 8, 9, 10, 11, 6, 12, 13, 14, 15, 16, 17, 28, 29, 30, 31, 32, 33, 34, 35, 36, 37, 38, 39, 40, 41, 42] (by decide +kernel) (by decide +kernel)
set_option maxRecDepth 20000 in
theorem gX6_binTold_X6_sumOf : GoodIn wsX6_binTold (wsV RX6 108 RX6 yX6_sumOf wsX6_sumOf) := goodIn_app (goodIn_of _ (by decide +kernel)) ggX6_binTold_X6_sumOf
set_option maxRecDepth 20000 in
theorem ggX6_binTold_X6_tideOf : GoodIn wsX6_binTold wsX6_tideOf := goodIn_r _ [21, 22, 23, 28, 29, 30, 31, 32, 33, 34, 35, 36, 37, 38, 39, 40, 41, 42] (by decide +kernel) (by decide +kernel)
set_option maxRecDepth 20000 in
theorem gX6_binTold_X6_tideOf : GoodIn wsX6_binTold (wsV RX6 61 RX6 yX6_tideOf wsX6_tideOf) := goodIn_app (goodIn_of _ (by decide +kernel)) ggX6_binTold_X6_tideOf
set_option maxRecDepth 20000 in
theorem ggX6_binTold_X6_isUnder : GoodIn wsX6_binTold wsX6_isUnder := goodIn_r _ [27, 1, 28, 29, 30, 31, 32, 33, 34, 35, 36, 37, 38, 39, 40, 41, 42] (by decide +kernel) (by decide +kernel)
set_option maxRecDepth 20000 in
theorem gX6_binTold_X6_isUnder : GoodIn wsX6_binTold (wsV RX6 99 RX6 yX6_isUnder wsX6_isUnder) := goodIn_app (goodIn_of _ (by decide +kernel)) ggX6_binTold_X6_isUnder
theorem dX6_binTold_0 : decode cX6_binTold 0 = .ok (.iload_n 2, 1) := by decide +kernel
theorem dX6_binTold_1 : decode cX6_binTold 1 = .ok (.tableswitch 71 0 3 #[31, 31, 42, 49], 31) := by decide +kernel
theorem dX6_binTold_32 : decode cX6_binTold 32 = .ok (.aload_n 0, 1) := by decide +kernel
theorem dX6_binTold_33 : decode cX6_binTold 33 = .ok (.getfield 17, 3) := by decide +kernel
theorem dX6_binTold_36 : decode cX6_binTold 36 = .ok (.iconst 2, 1) := by decide +kernel
theorem dX6_binTold_37 : decode cX6_binTold 37 = .ok (.iload_n 1, 1) := by decide +kernel
theorem dX6_binTold_38 : decode cX6_binTold 38 = .ok (.imul, 1) := by decide +kernel
theorem dX6_binTold_39 : decode cX6_binTold 39 = .ok (.iload_n 2, 1) := by decide +kernel
theorem dX6_binTold_40 : decode cX6_binTold 40 = .ok (.iadd, 1) := by decide +kernel
theorem dX6_binTold_41 : decode cX6_binTold 41 = .ok (.iaload, 1) := by decide +kernel
theorem dX6_binTold_42 : decode cX6_binTold 42 = .ok (.ireturn, 1) := by decide +kernel
theorem dX6_binTold_43 : decode cX6_binTold 43 = .ok (.aload_n 0, 1) := by decide +kernel
theorem dX6_binTold_44 : decode cX6_binTold 44 = .ok (.iload_n 1, 1) := by decide +kernel
theorem dX6_binTold_45 : decode cX6_binTold 45 = .ok (.iconst 1, 1) := by decide +kernel
theorem dX6_binTold_46 : decode cX6_binTold 46 = .ok (.invokevirtual 108, 3) := by decide +kernel
theorem dX6_binTold_49 : decode cX6_binTold 49 = .ok (.ireturn, 1) := by decide +kernel
theorem dX6_binTold_50 : decode cX6_binTold 50 = .ok (.aload_n 0, 1) := by decide +kernel
theorem dX6_binTold_51 : decode cX6_binTold 51 = .ok (.iload_n 1, 1) := by decide +kernel
theorem dX6_binTold_52 : decode cX6_binTold 52 = .ok (.aload_n 0, 1) := by decide +kernel
theorem dX6_binTold_53 : decode cX6_binTold 53 = .ok (.aload_n 0, 1) := by decide +kernel
theorem dX6_binTold_54 : decode cX6_binTold 54 = .ok (.getfield 96, 3) := by decide +kernel
theorem dX6_binTold_57 : decode cX6_binTold 57 = .ok (.invokevirtual 61, 3) := by decide +kernel
theorem dX6_binTold_60 : decode cX6_binTold 60 = .ok (.invokevirtual 99, 3) := by decide +kernel
theorem dX6_binTold_63 : decode cX6_binTold 63 = .ok (.ifCond .eq 7, 3) := by decide +kernel
theorem dX6_binTold_66 : decode cX6_binTold 66 = .ok (.iconst 1, 1) := by decide +kernel
theorem dX6_binTold_67 : decode cX6_binTold 67 = .ok (.goto 4, 3) := by decide +kernel
theorem dX6_binTold_70 : decode cX6_binTold 70 = .ok (.iconst 0, 1) := by decide +kernel
theorem dX6_binTold_71 : decode cX6_binTold 71 = .ok (.ireturn, 1) := by decide +kernel
theorem dX6_binTold_72 : decode cX6_binTold 72 = .ok (.aload_n 0, 1) := by decide +kernel
theorem dX6_binTold_73 : decode cX6_binTold 73 = .ok (.iload_n 1, 1) := by decide +kernel
theorem dX6_binTold_74 : decode cX6_binTold 74 = .ok (.iconst 0, 1) := by decide +kernel
theorem dX6_binTold_75 : decode cX6_binTold 75 = .ok (.invokevirtual 108, 3) := by decide +kernel
theorem dX6_binTold_78 : decode cX6_binTold 78 = .ok (.ireturn, 1) := by decide +kernel
set_option maxRecDepth 20000 in
theorem ggX6_bin_X6_isIn : GoodIn wsX6_bin wsX6_isIn := goodIn_r _ [6] (by decide +kernel) (by decide +kernel)
set_option maxRecDepth 20000 in
theorem gX6_bin_X6_isIn : GoodIn wsX6_bin (va_wsS RX6 45 yX6_isIn wsX6_isIn) := goodIn_app (goodIn_of _ (by decide +kernel)) ggX6_bin_X6_isIn
set_option maxRecDepth 20000 in
theorem ggX6_bin_X6_binTold : GoodIn wsX6_bin wsX6_binTold := goodIn_r _ [10, 11, 12, 13, 14, 15, 5, 16, 17, 18, 19, 20, 21, 22, 23, 24, 25, 26, 27, 28, 29, 30, 31, 32, 33, 34, 35, 36, 41, 42, 43, 44, 45, 46, 47, 48, 49, 50, 51, 52, 53, 54, 55] (by decide +kernel) (by decide +kernel)
set_option maxRecDepth 20000 in
theorem gX6_bin_X6_binTold : GoodIn wsX6_bin (wsV RX6 112 RX6 yX6_binTold wsX6_binTold) := goodIn_app (goodIn_of _ (by decide +kernel)) ggX6_bin_X6_binTold
set_option maxRecDepth 20000 in
theorem ggX6_bin_X6_fail : GoodIn wsX6_bin wsX6_fail := goodIn_r _ [40, 1, 41, 42, 43, 44, 45, 46, 47, 48, 49, 50, 51, 52, 53, 54, 55] (by decide +kernel) (by decide +kernel)
set_option maxRecDepth 20000 in
theorem gX6_bin_X6_fail : GoodIn wsX6_bin (wsV RX6 57 RX6 yX6_fail wsX6_fail) := goodIn_app (goodIn_of _ (by decide +kernel)) ggX6_bin_X6_fail
theorem dX6_bin_0 : decode cX6_bin 0 = .ok (.aload_n 0, 1) := by decide +kernel
theorem dX6_bin_1 : decode cX6_bin 1 = .ok (.iconst 0, 1) := by decide +kernel
theorem dX6_bin_2 : decode cX6_bin 2 = .ok (.putfield 42, 3) := by decide +kernel
theorem dX6_bin_5 : decode cX6_bin 5 = .ok (.iload_n 1, 1) := by decide +kernel
theorem dX6_bin_6 : decode cX6_bin 6 = .ok (.iconst 0, 1) := by decide +kernel
theorem dX6_bin_7 : decode cX6_bin 7 = .ok (.aload_n 0, 1) := by decide +kernel
theorem dX6_bin_8 : decode cX6_bin 8 = .ok (.getfield 64, 3) := by decide +kernel
theorem dX6_bin_11 : decode cX6_bin 11 = .ok (.iconst 1, 1) := by decide +kernel
theorem dX6_bin_12 : decode cX6_bin 12 = .ok (.isub, 1) := by decide +kernel
theorem dX6_bin_13 : decode cX6_bin 13 = .ok (.invokestatic 45, 3) := by decide +kernel
theorem dX6_bin_16 : decode cX6_bin 16 = .ok (.ifCond .eq 21, 3) := by decide +kernel
theorem dX6_bin_19 : decode cX6_bin 19 = .ok (.iload_n 2, 1) := by decide +kernel
theorem dX6_bin_20 : decode cX6_bin 20 = .ok (.iconst 0, 1) := by decide +kernel
theorem dX6_bin_21 : decode cX6_bin 21 = .ok (.iconst 4, 1) := by decide +kernel
theorem dX6_bin_22 : decode cX6_bin 22 = .ok (.invokestatic 45, 3) := by decide +kernel
theorem dX6_bin_25 : decode cX6_bin 25 = .ok (.ifCond .eq 12, 3) := by decide +kernel
theorem dX6_bin_28 : decode cX6_bin 28 = .ok (.aload_n 0, 1) := by decide +kernel
theorem dX6_bin_29 : decode cX6_bin 29 = .ok (.iload_n 1, 1) := by decide +kernel
theorem dX6_bin_30 : decode cX6_bin 30 = .ok (.iload_n 2, 1) := by decide +kernel
theorem dX6_bin_31 : decode cX6_bin 31 = .ok (.invokevirtual 112, 3) := by decide +kernel
theorem dX6_bin_34 : decode cX6_bin 34 = .ok (.goto 8, 3) := by decide +kernel
theorem dX6_bin_37 : decode cX6_bin 37 = .ok (.aload_n 0, 1) := by decide +kernel
theorem dX6_bin_38 : decode cX6_bin 38 = .ok (.iconst 1, 1) := by decide +kernel
theorem dX6_bin_39 : decode cX6_bin 39 = .ok (.invokevirtual 57, 3) := by decide +kernel
theorem dX6_bin_42 : decode cX6_bin 42 = .ok (.ireturn, 1) := by decide +kernel
set_option maxRecDepth 20000 in
theorem ggX6_water_X6_get : GoodIn wsX6_water wsX6_get := goodIn_r _ [5, 6, 25, 26, 27, 28, 29, 30, 31, 32, 33, 34, 35, 36, 37, 38, 39] (by decide +kernel) (by decide +kernel)
set_option maxRecDepth 20000 in
theorem gX6_water_X6_get : GoodIn wsX6_water (wsV RX6 49 RX6 yX6_get wsX6_get) := goodIn_app (goodIn_of _ (by decide +kernel)) ggX6_water_X6_get
set_option maxRecDepth 20000 in
theorem ggX6_water_X6_isUnder : GoodIn wsX6_water wsX6_isUnder := goodIn_r _ [10, 11, 25, 26, 27, 28, 29, 30, 31, 32, 33, 34, 35, 36, 37, 38, 39] (by decide +kernel) (by decide +kernel)
set_option maxRecDepth 20000 in
theorem gX6_water_X6_isUnder : GoodIn wsX6_water (wsV RX6 99 RX6 yX6_isUnder wsX6_isUnder) := goodIn_app (goodIn_of _ (by decide +kernel)) ggX6_water_X6_isUnder
set_option maxRecDepth 20000 in
theorem ggX6_water_X6_set : GoodIn wsX6_water wsX6_set := goodIn_r _ [15, 6, 25, 26, 27, 28, 29, 30, 31, 32, 33, 34, 35, 36, 37, 38, 39] (by decide +kernel) (by decide +kernel)
set_option maxRecDepth 20000 in
theorem gX6_water_X6_set : GoodIn wsX6_water (wsV RX6 86 RX6 yX6_set wsX6_set) := goodIn_app (goodIn_of _ (by decide +kernel)) ggX6_water_X6_set
set_option maxRecDepth 20000 in
theorem ggX6_water_X6_leave : GoodIn wsX6_water wsX6_leave := goodIn_r _ [19, 1, 2, 3, 4, 5, 6, 12, 13, 14, 15, 25, 26, 27, 28, 29, 30, 31, 32, 33, 34, 35, 36, 37, 38, 39] (by decide +kernel) (by decide +kernel)
set_option maxRecDepth 20000 in
theorem gX6_water_X6_leave : GoodIn wsX6_water (wsV RX6 102 RX6 yX6_leave wsX6_leave) := goodIn_app (goodIn_of _ (by decide +kernel)) ggX6_water_X6_leave
set_option maxRecDepth 20000 in
theorem ggX6_water_X6_one : GoodIn wsX6_water wsX6_one := goodIn_r _ [23, 24, 25, 26, 27, 28, 29, 30, 31, 32, 33, 34, 35, 36, 37, 38, 39] (by decide +kernel) (by decide +kernel)
set_option maxRecDepth 20000 in
theorem gX6_water_X6_one : GoodIn wsX6_water (wsV RX6 105 RX6 yX6_one wsX6_one) := goodIn_app (goodIn_of _ (by decide +kernel)) ggX6_water_X6_one
theorem dX6_water_0 : decode cX6_water 0 = .ok (.aload_n 0, 1) := by decide +kernel
theorem dX6_water_1 : decode cX6_water 1 = .ok (.aload_n 0, 1) := by decide +kernel
theorem dX6_water_2 : decode cX6_water 2 = .ok (.iload_n 1, 1) := by decide +kernel
theorem dX6_water_3 : decode cX6_water 3 = .ok (.iconst 5, 1) := by decide +kernel
theorem dX6_water_4 : decode cX6_water 4 = .ok (.invokevirtual 49, 3) := by decide +kernel
theorem dX6_water_7 : decode cX6_water 7 = .ok (.iload_n 2, 1) := by decide +kernel
theorem dX6_water_8 : decode cX6_water 8 = .ok (.invokevirtual 99, 3) := by decide +kernel
theorem dX6_water_11 : decode cX6_water 11 = .ok (.ifCond .ne 12, 3) := by decide +kernel
theorem dX6_water_14 : decode cX6_water 14 = .ok (.aload_n 0, 1) := by decide +kernel
theorem dX6_water_15 : decode cX6_water 15 = .ok (.iload_n 1, 1) := by decide +kernel
theorem dX6_water_16 : decode cX6_water 16 = .ok (.bipush 6, 2) := by decide +kernel
theorem dX6_water_18 : decode cX6_water 18 = .ok (.iconst 0, 1) := by decide +kernel
theorem dX6_water_19 : decode cX6_water 19 = .ok (.invokevirtual 86, 3) := by decide +kernel
theorem dX6_water_22 : decode cX6_water 22 = .ok (.return_, 1) := by decide +kernel
theorem dX6_water_23 : decode cX6_water 23 = .ok (.aload_n 0, 1) := by decide +kernel
theorem dX6_water_24 : decode cX6_water 24 = .ok (.iload_n 1, 1) := by decide +kernel
theorem dX6_water_25 : decode cX6_water 25 = .ok (.iconst 4, 1) := by decide +kernel
theorem dX6_water_26 : decode cX6_water 26 = .ok (.aload_n 0, 1) := by decide +kernel
theorem dX6_water_27 : decode cX6_water 27 = .ok (.iload_n 1, 1) := by decide +kernel
theorem dX6_water_28 : decode cX6_water 28 = .ok (.iconst 4, 1) := by decide +kernel
theorem dX6_water_29 : decode cX6_water 29 = .ok (.invokevirtual 49, 3) := by decide +kernel
theorem dX6_water_32 : decode cX6_water 32 = .ok (.iconst 1, 1) := by decide +kernel
theorem dX6_water_33 : decode cX6_water 33 = .ok (.iadd, 1) := by decide +kernel
theorem dX6_water_34 : decode cX6_water 34 = .ok (.aload_n 0, 1) := by decide +kernel
theorem dX6_water_35 : decode cX6_water 35 = .ok (.iload_n 1, 1) := by decide +kernel
theorem dX6_water_36 : decode cX6_water 36 = .ok (.iconst 1, 1) := by decide +kernel
theorem dX6_water_37 : decode cX6_water 37 = .ok (.invokevirtual 49, 3) := by decide +kernel
theorem dX6_water_40 : decode cX6_water 40 = .ok (.iconst 3, 1) := by decide +kernel
theorem dX6_water_41 : decode cX6_water 41 = .ok (.idiv, 1) := by decide +kernel
theorem dX6_water_42 : decode cX6_water 42 = .ok (.iadd, 1) := by decide +kernel
theorem dX6_water_43 : decode cX6_water 43 = .ok (.invokevirtual 86, 3) := by decide +kernel
theorem dX6_water_46 : decode cX6_water 46 = .ok (.aload_n 0, 1) := by decide +kernel
theorem dX6_water_47 : decode cX6_water 47 = .ok (.iload_n 1, 1) := by decide +kernel
theorem dX6_water_48 : decode cX6_water 48 = .ok (.iconst 4, 1) := by decide +kernel
theorem dX6_water_49 : decode cX6_water 49 = .ok (.invokevirtual 49, 3) := by decide +kernel
theorem dX6_water_52 : decode cX6_water 52 = .ok (.aload_n 0, 1) := by decide +kernel
theorem dX6_water_53 : decode cX6_water 53 = .ok (.iload_n 1, 1) := by decide +kernel
theorem dX6_water_54 : decode cX6_water 54 = .ok (.iconst 2, 1) := by decide +kernel
theorem dX6_water_55 : decode cX6_water 55 = .ok (.invokevirtual 49, 3) := by decide +kernel
theorem dX6_water_58 : decode cX6_water 58 = .ok (.if_icmp .lt 11, 3) := by decide +kernel
theorem dX6_water_61 : decode cX6_water 61 = .ok (.aload_n 0, 1) := by decide +kernel
theorem dX6_water_62 : decode cX6_water 62 = .ok (.iload_n 1, 1) := by decide +kernel
theorem dX6_water_63 : decode cX6_water 63 = .ok (.iconst 3, 1) := by decide +kernel
theorem dX6_water_64 : decode cX6_water 64 = .ok (.invokevirtual 102, 3) := by decide +kernel
theorem dX6_water_67 : decode cX6_water 67 = .ok (.pop, 1) := by decide +kernel
theorem dX6_water_68 : decode cX6_water 68 = .ok (.return_, 1) := by decide +kernel
theorem dX6_water_69 : decode cX6_water 69 = .ok (.aload_n 0, 1) := by decide +kernel
theorem dX6_water_70 : decode cX6_water 70 = .ok (.iload_n 1, 1) := by decide +kernel
theorem dX6_water_71 : decode cX6_water 71 = .ok (.bipush 6, 2) := by decide +kernel
theorem dX6_water_73 : decode cX6_water 73 = .ok (.iload_n 2, 1) := by decide +kernel
theorem dX6_water_74 : decode cX6_water 74 = .ok (.aload_n 0, 1) := by decide +kernel
theorem dX6_water_75 : decode cX6_water 75 = .ok (.aload_n 0, 1) := by decide +kernel
theorem dX6_water_76 : decode cX6_water 76 = .ok (.iload_n 1, 1) := by decide +kernel
theorem dX6_water_77 : decode cX6_water 77 = .ok (.iconst 0, 1) := by decide +kernel
theorem dX6_water_78 : decode cX6_water 78 = .ok (.invokevirtual 49, 3) := by decide +kernel
theorem dX6_water_81 : decode cX6_water 81 = .ok (.iconst 0, 1) := by decide +kernel
theorem dX6_water_82 : decode cX6_water 82 = .ok (.invokevirtual 105, 3) := by decide +kernel
theorem dX6_water_85 : decode cX6_water 85 = .ok (.if_icmp .lt 15, 3) := by decide +kernel
theorem dX6_water_88 : decode cX6_water 88 = .ok (.aload_n 0, 1) := by decide +kernel
theorem dX6_water_89 : decode cX6_water 89 = .ok (.iload_n 1, 1) := by decide +kernel
theorem dX6_water_90 : decode cX6_water 90 = .ok (.bipush 6, 2) := by decide +kernel
theorem dX6_water_92 : decode cX6_water 92 = .ok (.invokevirtual 49, 3) := by decide +kernel
theorem dX6_water_95 : decode cX6_water 95 = .ok (.iconst 1, 1) := by decide +kernel
theorem dX6_water_96 : decode cX6_water 96 = .ok (.iadd, 1) := by decide +kernel
theorem dX6_water_97 : decode cX6_water 97 = .ok (.goto 4, 3) := by decide +kernel
theorem dX6_water_100 : decode cX6_water 100 = .ok (.iconst 0, 1) := by decide +kernel
theorem dX6_water_101 : decode cX6_water 101 = .ok (.invokevirtual 86, 3) := by decide +kernel
theorem dX6_water_104 : decode cX6_water 104 = .ok (.aload_n 0, 1) := by decide +kernel
theorem dX6_water_105 : decode cX6_water 105 = .ok (.iload_n 1, 1) := by decide +kernel
theorem dX6_water_106 : decode cX6_water 106 = .ok (.bipush 6, 2) := by decide +kernel
theorem dX6_water_108 : decode cX6_water 108 = .ok (.invokevirtual 49, 3) := by decide +kernel
theorem dX6_water_111 : decode cX6_water 111 = .ok (.iconst 3, 1) := by decide +kernel
theorem dX6_water_112 : decode cX6_water 112 = .ok (.if_icmp .ne 10, 3) := by decide +kernel
theorem dX6_water_115 : decode cX6_water 115 = .ok (.aload_n 0, 1) := by decide +kernel
theorem dX6_water_116 : decode cX6_water 116 = .ok (.iload_n 1, 1) := by decide +kernel
theorem dX6_water_117 : decode cX6_water 117 = .ok (.iconst 2, 1) := by decide +kernel
theorem dX6_water_118 : decode cX6_water 118 = .ok (.invokevirtual 102, 3) := by decide +kernel
theorem dX6_water_121 : decode cX6_water 121 = .ok (.pop, 1) := by decide +kernel
theorem dX6_water_122 : decode cX6_water 122 = .ok (.return_, 1) := by decide +kernel
set_option maxRecDepth 20000 in
theorem ggX6_answer_X6_get : GoodIn wsX6_answer wsX6_get := goodIn_r _ [7, 8, 22, 23, 24, 25, 26, 27, 28, 29, 30, 31, 32, 33, 34, 35, 36] (by decide +kernel) (by decide +kernel)
set_option maxRecDepth 20000 in
theorem gX6_answer_X6_get : GoodIn wsX6_answer (wsV RX6 49 RX6 yX6_get wsX6_get) := goodIn_app (goodIn_of _ (by decide +kernel)) ggX6_answer_X6_get
set_option maxRecDepth 20000 in
theorem ggX6_answer_X6_one : GoodIn wsX6_answer wsX6_one := goodIn_r _ [12, 1, 22, 23, 24, 25, 26, 27, 28, 29, 30, 31, 32, 33, 34, 35, 36] (by decide +kernel) (by decide +kernel)
set_option maxRecDepth 20000 in
theorem gX6_answer_X6_one : GoodIn wsX6_answer (wsV RX6 105 RX6 yX6_one wsX6_one) := goodIn_app (goodIn_of _ (by decide +kernel)) ggX6_answer_X6_one
set_option maxRecDepth 20000 in
theorem ggX6_answer_X6_add : GoodIn wsX6_answer wsX6_add := goodIn_r _ [16, 17, 8, 2, 18, 19, 20, 21, 22, 23, 24, 25, 26, 27, 28, 29, 30, 31, 32, 33, 34, 35, 36] (by decide +kernel) (by decide +kernel)
set_option maxRecDepth 20000 in
theorem gX6_answer_X6_add : GoodIn wsX6_answer (wsV RX6 82 RX6 yX6_add wsX6_add) := goodIn_app (goodIn_of _ (by decide +kernel)) ggX6_answer_X6_add
theorem dX6_answer_0 : decode cX6_answer 0 = .ok (.aload_n 0, 1) := by decide +kernel
theorem dX6_answer_1 : decode cX6_answer 1 = .ok (.iload_n 1, 1) := by decide +kernel
theorem dX6_answer_2 : decode cX6_answer 2 = .ok (.iconst 0, 1) := by decide +kernel
theorem dX6_answer_3 : decode cX6_answer 3 = .ok (.invokevirtual 49, 3) := by decide +kernel
theorem dX6_answer_6 : decode cX6_answer 6 = .ok (.istore_n 2, 1) := by decide +kernel
theorem dX6_answer_7 : decode cX6_answer 7 = .ok (.aload_n 0, 1) := by decide +kernel
theorem dX6_answer_8 : decode cX6_answer 8 = .ok (.getfield 20, 3) := by decide +kernel
theorem dX6_answer_11 : decode cX6_answer 11 = .ok (.iconst 5, 1) := by decide +kernel
theorem dX6_answer_12 : decode cX6_answer 12 = .ok (.iload_n 2, 1) := by decide +kernel
theorem dX6_answer_13 : decode cX6_answer 13 = .ok (.imul, 1) := by decide +kernel
theorem dX6_answer_14 : decode cX6_answer 14 = .ok (.iconst 3, 1) := by decide +kernel
theorem dX6_answer_15 : decode cX6_answer 15 = .ok (.iadd, 1) := by decide +kernel
theorem dX6_answer_16 : decode cX6_answer 16 = .ok (.dup2, 1) := by decide +kernel
theorem dX6_answer_17 : decode cX6_answer 17 = .ok (.iaload, 1) := by decide +kernel
theorem dX6_answer_18 : decode cX6_answer 18 = .ok (.iconst 1, 1) := by decide +kernel
theorem dX6_answer_19 : decode cX6_answer 19 = .ok (.iadd, 1) := by decide +kernel
theorem dX6_answer_20 : decode cX6_answer 20 = .ok (.iastore, 1) := by decide +kernel
theorem dX6_answer_21 : decode cX6_answer 21 = .ok (.aload_n 0, 1) := by decide +kernel
theorem dX6_answer_22 : decode cX6_answer 22 = .ok (.iload_n 2, 1) := by decide +kernel
theorem dX6_answer_23 : decode cX6_answer 23 = .ok (.iconst 1, 1) := by decide +kernel
theorem dX6_answer_24 : decode cX6_answer 24 = .ok (.invokevirtual 105, 3) := by decide +kernel
theorem dX6_answer_27 : decode cX6_answer 27 = .ok (.ifCond .eq 29, 3) := by decide +kernel
theorem dX6_answer_30 : decode cX6_answer 30 = .ok (.aload_n 0, 1) := by decide +kernel
theorem dX6_answer_31 : decode cX6_answer 31 = .ok (.iload_n 2, 1) := by decide +kernel
theorem dX6_answer_32 : decode cX6_answer 32 = .ok (.iconst 3, 1) := by decide +kernel
theorem dX6_answer_33 : decode cX6_answer 33 = .ok (.invokevirtual 105, 3) := by decide +kernel
theorem dX6_answer_36 : decode cX6_answer 36 = .ok (.aload_n 0, 1) := by decide +kernel
theorem dX6_answer_37 : decode cX6_answer 37 = .ok (.iload_n 2, 1) := by decide +kernel
theorem dX6_answer_38 : decode cX6_answer 38 = .ok (.iconst 1, 1) := by decide +kernel
theorem dX6_answer_39 : decode cX6_answer 39 = .ok (.invokevirtual 105, 3) := by decide +kernel
theorem dX6_answer_42 : decode cX6_answer 42 = .ok (.irem, 1) := by decide +kernel
theorem dX6_answer_43 : decode cX6_answer 43 = .ok (.ifCond .ne 13, 3) := by decide +kernel
theorem dX6_answer_46 : decode cX6_answer 46 = .ok (.aload_n 0, 1) := by decide +kernel
theorem dX6_answer_47 : decode cX6_answer 47 = .ok (.getfield 70, 3) := by decide +kernel
theorem dX6_answer_50 : decode cX6_answer 50 = .ok (.sipush 150, 3) := by decide +kernel
theorem dX6_answer_53 : decode cX6_answer 53 = .ok (.if_icmp .ne 4, 3) := by decide +kernel
theorem dX6_answer_56 : decode cX6_answer 56 = .ok (.return_, 1) := by decide +kernel
theorem dX6_answer_57 : decode cX6_answer 57 = .ok (.aload_n 0, 1) := by decide +kernel
theorem dX6_answer_58 : decode cX6_answer 58 = .ok (.iload_n 2, 1) := by decide +kernel
theorem dX6_answer_59 : decode cX6_answer 59 = .ok (.aload_n 0, 1) := by decide +kernel
theorem dX6_answer_60 : decode cX6_answer 60 = .ok (.iload_n 1, 1) := by decide +kernel
theorem dX6_answer_61 : decode cX6_answer 61 = .ok (.iconst 1, 1) := by decide +kernel
theorem dX6_answer_62 : decode cX6_answer 62 = .ok (.invokevirtual 49, 3) := by decide +kernel
theorem dX6_answer_65 : decode cX6_answer 65 = .ok (.aload_n 0, 1) := by decide +kernel
theorem dX6_answer_66 : decode cX6_answer 66 = .ok (.iload_n 1, 1) := by decide +kernel
theorem dX6_answer_67 : decode cX6_answer 67 = .ok (.iconst 2, 1) := by decide +kernel
theorem dX6_answer_68 : decode cX6_answer 68 = .ok (.invokevirtual 49, 3) := by decide +kernel
theorem dX6_answer_71 : decode cX6_answer 71 = .ok (.iconst 4, 1) := by decide +kernel
theorem dX6_answer_72 : decode cX6_answer 72 = .ok (.aload_n 0, 1) := by decide +kernel
theorem dX6_answer_73 : decode cX6_answer 73 = .ok (.iload_n 2, 1) := by decide +kernel
theorem dX6_answer_74 : decode cX6_answer 74 = .ok (.iconst 2, 1) := by decide +kernel
theorem dX6_answer_75 : decode cX6_answer 75 = .ok (.invokevirtual 105, 3) := by decide +kernel
theorem dX6_answer_78 : decode cX6_answer 78 = .ok (.iload_n 1, 1) := by decide +kernel
theorem dX6_answer_79 : decode cX6_answer 79 = .ok (.invokevirtual 82, 3) := by decide +kernel
theorem dX6_answer_82 : decode cX6_answer 82 = .ok (.aload_n 0, 1) := by decide +kernel
theorem dX6_answer_83 : decode cX6_answer 83 = .ok (.getfield 20, 3) := by decide +kernel
theorem dX6_answer_86 : decode cX6_answer 86 = .ok (.iconst 5, 1) := by decide +kernel
theorem dX6_answer_87 : decode cX6_answer 87 = .ok (.iload_n 2, 1) := by decide +kernel
theorem dX6_answer_88 : decode cX6_answer 88 = .ok (.imul, 1) := by decide +kernel
theorem dX6_answer_89 : decode cX6_answer 89 = .ok (.iconst 4, 1) := by decide +kernel
theorem dX6_answer_90 : decode cX6_answer 90 = .ok (.iadd, 1) := by decide +kernel
theorem dX6_answer_91 : decode cX6_answer 91 = .ok (.dup2, 1) := by decide +kernel
theorem dX6_answer_92 : decode cX6_answer 92 = .ok (.iaload, 1) := by decide +kernel
theorem dX6_answer_93 : decode cX6_answer 93 = .ok (.iconst 1, 1) := by decide +kernel
theorem dX6_answer_94 : decode cX6_answer 94 = .ok (.iadd, 1) := by decide +kernel
theorem dX6_answer_95 : decode cX6_answer 95 = .ok (.iastore, 1) := by decide +kernel
theorem dX6_answer_96 : decode cX6_answer 96 = .ok (.return_, 1) := by decide +kernel
set_option maxRecDepth 20000 in
theorem ggX6_scrape_X6_isIn_ : GoodIn wsX6_scrape wsX6_isIn_ := goodIn_r _ [12, 13, 14, 15, 11, 16, 17, 27, 28, 29, 30, 31, 32, 33, 34, 35, 36, 37, 38, 39, 40, 41] (by decide +kernel) (by decide +kernel)
set_option maxRecDepth 20000 in
theorem gX6_scrape_X6_isIn_ : GoodIn wsX6_scrape (wsV RX6 93 RX6 yX6_isIn_ wsX6_isIn_) := goodIn_app (goodIn_of _ (by decide +kernel)) ggX6_scrape_X6_isIn_
set_option maxRecDepth 20000 in
theorem ggX6_scrape_X6_get : GoodIn wsX6_scrape wsX6_get := goodIn_r _ [16, 17, 27, 28, 29, 30, 31, 32, 33, 34, 35, 36, 37, 38, 39, 40, 41] (by decide +kernel) (by decide +kernel)
set_option maxRecDepth 20000 in
theorem gX6_scrape_X6_get : GoodIn wsX6_scrape (wsV RX6 49 RX6 yX6_get wsX6_get) := goodIn_app (goodIn_of _ (by decide +kernel)) ggX6_scrape_X6_get
set_option maxRecDepth 20000 in
theorem ggX6_scrape_X6_isUnder : GoodIn wsX6_scrape wsX6_isUnder := goodIn_r _ [21, 22, 27, 28, 29, 30, 31, 32, 33, 34, 35, 36, 37, 38, 39, 40, 41] (by decide +kernel) (by decide +kernel)
set_option maxRecDepth 20000 in
theorem gX6_scrape_X6_isUnder : GoodIn wsX6_scrape (wsV RX6 99 RX6 yX6_isUnder wsX6_isUnder) := goodIn_app (goodIn_of _ (by decide +kernel)) ggX6_scrape_X6_isUnder
set_option maxRecDepth 20000 in
theorem ggX6_scrape_X6_set : GoodIn wsX6_scrape wsX6_set := goodIn_r _ [26, 17, 27, 28, 29, 30, 31, 32, 33, 34, 35, 36, 37, 38, 39, 40, 41] (by decide +kernel) (by decide +kernel)
set_option maxRecDepth 20000 in
theorem gX6_scrape_X6_set : GoodIn wsX6_scrape (wsV RX6 86 RX6 yX6_set wsX6_set) := goodIn_app (goodIn_of _ (by decide +kernel)) ggX6_scrape_X6_set
theorem dX6_scrape_0 : decode cX6_scrape 0 = .ok (.iconst 0, 1) := by decide +kernel
theorem dX6_scrape_1 : decode cX6_scrape 1 = .ok (.istore_n 2, 1) := by decide +kernel
theorem dX6_scrape_2 : decode cX6_scrape 2 = .ok (.iload_n 2, 1) := by decide +kernel
theorem dX6_scrape_3 : decode cX6_scrape 3 = .ok (.aload_n 0, 1) := by decide +kernel
theorem dX6_scrape_4 : decode cX6_scrape 4 = .ok (.getfield 70, 3) := by decide +kernel
theorem dX6_scrape_7 : decode cX6_scrape 7 = .ok (.if_icmp .ge 52, 3) := by decide +kernel
theorem dX6_scrape_10 : decode cX6_scrape 10 = .ok (.aload_n 0, 1) := by decide +kernel
theorem dX6_scrape_11 : decode cX6_scrape 11 = .ok (.getfield 38, 3) := by decide +kernel
theorem dX6_scrape_14 : decode cX6_scrape 14 = .ok (.iload_n 2, 1) := by decide +kernel
theorem dX6_scrape_15 : decode cX6_scrape 15 = .ok (.aload_n 0, 1) := by decide +kernel
theorem dX6_scrape_16 : decode cX6_scrape 16 = .ok (.iload_n 2, 1) := by decide +kernel
theorem dX6_scrape_17 : decode cX6_scrape 17 = .ok (.iconst 1, 1) := by decide +kernel
theorem dX6_scrape_18 : decode cX6_scrape 18 = .ok (.invokevirtual 93, 3) := by decide +kernel
theorem dX6_scrape_21 : decode cX6_scrape 21 = .ok (.ifCond .eq 26, 3) := by decide +kernel
theorem dX6_scrape_24 : decode cX6_scrape 24 = .ok (.aload_n 0, 1) := by decide +kernel
theorem dX6_scrape_25 : decode cX6_scrape 25 = .ok (.aload_n 0, 1) := by decide +kernel
theorem dX6_scrape_26 : decode cX6_scrape 26 = .ok (.iload_n 2, 1) := by decide +kernel
theorem dX6_scrape_27 : decode cX6_scrape 27 = .ok (.iconst 5, 1) := by decide +kernel
theorem dX6_scrape_28 : decode cX6_scrape 28 = .ok (.invokevirtual 49, 3) := by decide +kernel
theorem dX6_scrape_31 : decode cX6_scrape 31 = .ok (.iload_n 1, 1) := by decide +kernel
theorem dX6_scrape_32 : decode cX6_scrape 32 = .ok (.invokevirtual 99, 3) := by decide +kernel
theorem dX6_scrape_35 : decode cX6_scrape 35 = .ok (.ifCond .ne 12, 3) := by decide +kernel
theorem dX6_scrape_38 : decode cX6_scrape 38 = .ok (.aload_n 0, 1) := by decide +kernel
theorem dX6_scrape_39 : decode cX6_scrape 39 = .ok (.iload_n 2, 1) := by decide +kernel
theorem dX6_scrape_40 : decode cX6_scrape 40 = .ok (.iconst 4, 1) := by decide +kernel
theorem dX6_scrape_41 : decode cX6_scrape 41 = .ok (.invokevirtual 49, 3) := by decide +kernel
theorem dX6_scrape_44 : decode cX6_scrape 44 = .ok (.ifCond .ne 7, 3) := by decide +kernel
theorem dX6_scrape_47 : decode cX6_scrape 47 = .ok (.iconst 1, 1) := by decide +kernel
theorem dX6_scrape_48 : decode cX6_scrape 48 = .ok (.goto 4, 3) := by decide +kernel
theorem dX6_scrape_51 : decode cX6_scrape 51 = .ok (.iconst 0, 1) := by decide +kernel
theorem dX6_scrape_52 : decode cX6_scrape 52 = .ok (.bastore, 1) := by decide +kernel
theorem dX6_scrape_53 : decode cX6_scrape 53 = .ok (.iinc 2 1, 3) := by decide +kernel
theorem dX6_scrape_56 : decode cX6_scrape 56 = .ok (.goto (-54), 3) := by decide +kernel
theorem dX6_scrape_59 : decode cX6_scrape 59 = .ok (.iconst 0, 1) := by decide +kernel
theorem dX6_scrape_60 : decode cX6_scrape 60 = .ok (.istore_n 2, 1) := by decide +kernel
theorem dX6_scrape_61 : decode cX6_scrape 61 = .ok (.iload_n 2, 1) := by decide +kernel
theorem dX6_scrape_62 : decode cX6_scrape 62 = .ok (.aload_n 0, 1) := by decide +kernel
theorem dX6_scrape_63 : decode cX6_scrape 63 = .ok (.getfield 26, 3) := by decide +kernel
theorem dX6_scrape_66 : decode cX6_scrape 66 = .ok (.if_icmp .ge 94, 3) := by decide +kernel
theorem dX6_scrape_69 : decode cX6_scrape 69 = .ok (.iconst (-1), 1) := by decide +kernel
theorem dX6_scrape_70 : decode cX6_scrape 70 = .ok (.istore_n 3, 1) := by decide +kernel
theorem dX6_scrape_71 : decode cX6_scrape 71 = .ok (.iconst 0, 1) := by decide +kernel
theorem dX6_scrape_72 : decode cX6_scrape 72 = .ok (.istore 4, 2) := by decide +kernel
theorem dX6_scrape_74 : decode cX6_scrape 74 = .ok (.iload 4, 2) := by decide +kernel
theorem dX6_scrape_76 : decode cX6_scrape 76 = .ok (.aload_n 0, 1) := by decide +kernel
theorem dX6_scrape_77 : decode cX6_scrape 77 = .ok (.getfield 70, 3) := by decide +kernel
theorem dX6_scrape_80 : decode cX6_scrape 80 = .ok (.if_icmp .ge 43, 3) := by decide +kernel
theorem dX6_scrape_83 : decode cX6_scrape 83 = .ok (.aload_n 0, 1) := by decide +kernel
theorem dX6_scrape_84 : decode cX6_scrape 84 = .ok (.getfield 38, 3) := by decide +kernel
theorem dX6_scrape_87 : decode cX6_scrape 87 = .ok (.iload 4, 2) := by decide +kernel
theorem dX6_scrape_89 : decode cX6_scrape 89 = .ok (.baload, 1) := by decide +kernel
theorem dX6_scrape_90 : decode cX6_scrape 90 = .ok (.ifCond .ne 27, 3) := by decide +kernel
theorem dX6_scrape_93 : decode cX6_scrape 93 = .ok (.iload_n 3, 1) := by decide +kernel
theorem dX6_scrape_94 : decode cX6_scrape 94 = .ok (.iconst (-1), 1) := by decide +kernel
theorem dX6_scrape_95 : decode cX6_scrape 95 = .ok (.if_icmp .eq 19, 3) := by decide +kernel
theorem dX6_scrape_98 : decode cX6_scrape 98 = .ok (.aload_n 0, 1) := by decide +kernel
theorem dX6_scrape_99 : decode cX6_scrape 99 = .ok (.iload 4, 2) := by decide +kernel
theorem dX6_scrape_101 : decode cX6_scrape 101 = .ok (.iconst 4, 1) := by decide +kernel
theorem dX6_scrape_102 : decode cX6_scrape 102 = .ok (.invokevirtual 49, 3) := by decide +kernel
theorem dX6_scrape_105 : decode cX6_scrape 105 = .ok (.aload_n 0, 1) := by decide +kernel
theorem dX6_scrape_106 : decode cX6_scrape 106 = .ok (.iload_n 3, 1) := by decide +kernel
theorem dX6_scrape_107 : decode cX6_scrape 107 = .ok (.iconst 4, 1) := by decide +kernel
theorem dX6_scrape_108 : decode cX6_scrape 108 = .ok (.invokevirtual 49, 3) := by decide +kernel
theorem dX6_scrape_111 : decode cX6_scrape 111 = .ok (.if_icmp .le 6, 3) := by decide +kernel
theorem dX6_scrape_114 : decode cX6_scrape 114 = .ok (.iload 4, 2) := by decide +kernel
theorem dX6_scrape_116 : decode cX6_scrape 116 = .ok (.istore_n 3, 1) := by decide +kernel
theorem dX6_scrape_117 : decode cX6_scrape 117 = .ok (.iinc 4 1, 3) := by decide +kernel
theorem dX6_scrape_120 : decode cX6_scrape 120 = .ok (.goto (-46), 3) := by decide +kernel
theorem dX6_scrape_123 : decode cX6_scrape 123 = .ok (.iload_n 3, 1) := by decide +kernel
theorem dX6_scrape_124 : decode cX6_scrape 124 = .ok (.iconst (-1), 1) := by decide +kernel
theorem dX6_scrape_125 : decode cX6_scrape 125 = .ok (.if_icmp .ne 4, 3) := by decide +kernel
theorem dX6_scrape_128 : decode cX6_scrape 128 = .ok (.return_, 1) := by decide +kernel
theorem dX6_scrape_129 : decode cX6_scrape 129 = .ok (.aload_n 0, 1) := by decide +kernel
theorem dX6_scrape_130 : decode cX6_scrape 130 = .ok (.getfield 38, 3) := by decide +kernel
theorem dX6_scrape_133 : decode cX6_scrape 133 = .ok (.iload_n 3, 1) := by decide +kernel
theorem dX6_scrape_134 : decode cX6_scrape 134 = .ok (.iconst 1, 1) := by decide +kernel
theorem dX6_scrape_135 : decode cX6_scrape 135 = .ok (.bastore, 1) := by decide +kernel
theorem dX6_scrape_136 : decode cX6_scrape 136 = .ok (.aload_n 0, 1) := by decide +kernel
theorem dX6_scrape_137 : decode cX6_scrape 137 = .ok (.iload_n 3, 1) := by decide +kernel
theorem dX6_scrape_138 : decode cX6_scrape 138 = .ok (.iconst 4, 1) := by decide +kernel
theorem dX6_scrape_139 : decode cX6_scrape 139 = .ok (.iconst 0, 1) := by decide +kernel
theorem dX6_scrape_140 : decode cX6_scrape 140 = .ok (.aload_n 0, 1) := by decide +kernel
theorem dX6_scrape_141 : decode cX6_scrape 141 = .ok (.iload_n 3, 1) := by decide +kernel
theorem dX6_scrape_142 : decode cX6_scrape 142 = .ok (.iconst 4, 1) := by decide +kernel
theorem dX6_scrape_143 : decode cX6_scrape 143 = .ok (.invokevirtual 49, 3) := by decide +kernel
theorem dX6_scrape_146 : decode cX6_scrape 146 = .ok (.iconst 2, 1) := by decide +kernel
theorem dX6_scrape_147 : decode cX6_scrape 147 = .ok (.isub, 1) := by decide +kernel
theorem dX6_scrape_148 : decode cX6_scrape 148 = .ok (.invokestatic 115, 3) := by decide +kernel
theorem dX6_scrape_151 : decode cX6_scrape 151 = .ok (.invokevirtual 86, 3) := by decide +kernel
theorem dX6_scrape_154 : decode cX6_scrape 154 = .ok (.iinc 2 1, 3) := by decide +kernel
theorem dX6_scrape_157 : decode cX6_scrape 157 = .ok (.goto (-96), 3) := by decide +kernel
theorem dX6_scrape_160 : decode cX6_scrape 160 = .ok (.return_, 1) := by decide +kernel
set_option maxRecDepth 20000 in
theorem ggX6_binOf_X6_sumOf : GoodIn wsX6_binOf wsX6_sumOf := goodIn_r _ [11, 12, 13, 14, 15, 10, 16, 17, 18, 19, 20, 21, 27, 28, 29, 30, 31, 32, 33, 34, 35, 36, 37, 38, 39, 40, 41] (by decide +kernel) (by decide +kernel)
set_option maxRecDepth 20000 in
theorem gX6_binOf_X6_sumOf : GoodIn wsX6_binOf (wsV RX6 108 RX6 yX6_sumOf wsX6_sumOf) := goodIn_app (goodIn_of _ (by decide +kernel)) ggX6_binOf_X6_sumOf
set_option maxRecDepth 20000 in
theorem ggX6_binOf_X6_one : GoodIn wsX6_binOf wsX6_one := goodIn_r _ [25, 26, 27, 28, 29, 30, 31, 32, 33, 34, 35, 36, 37, 38, 39, 40, 41] (by decide +kernel) (by decide +kernel)
set_option maxRecDepth 20000 in
theorem gX6_binOf_X6_one : GoodIn wsX6_binOf (wsV RX6 105 RX6 yX6_one wsX6_one) := goodIn_app (goodIn_of _ (by decide +kernel)) ggX6_binOf_X6_one
theorem dX6_binOf_0 : decode cX6_binOf 0 = .ok (.iconst (-1), 1) := by decide +kernel
theorem dX6_binOf_1 : decode cX6_binOf 1 = .ok (.istore_n 2, 1) := by decide +kernel
theorem dX6_binOf_2 : decode cX6_binOf 2 = .ok (.iconst 0, 1) := by decide +kernel
theorem dX6_binOf_3 : decode cX6_binOf 3 = .ok (.istore_n 3, 1) := by decide +kernel
theorem dX6_binOf_4 : decode cX6_binOf 4 = .ok (.iload_n 3, 1) := by decide +kernel
theorem dX6_binOf_5 : decode cX6_binOf 5 = .ok (.aload_n 0, 1) := by decide +kernel
theorem dX6_binOf_6 : decode cX6_binOf 6 = .ok (.getfield 64, 3) := by decide +kernel
theorem dX6_binOf_9 : decode cX6_binOf 9 = .ok (.if_icmp .ge 120, 3) := by decide +kernel
theorem dX6_binOf_12 : decode cX6_binOf 12 = .ok (.aload_n 0, 1) := by decide +kernel
theorem dX6_binOf_13 : decode cX6_binOf 13 = .ok (.iload_n 3, 1) := by decide +kernel
theorem dX6_binOf_14 : decode cX6_binOf 14 = .ok (.iconst 1, 1) := by decide +kernel
theorem dX6_binOf_15 : decode cX6_binOf 15 = .ok (.invokevirtual 108, 3) := by decide +kernel
theorem dX6_binOf_18 : decode cX6_binOf 18 = .ok (.aload_n 0, 1) := by decide +kernel
theorem dX6_binOf_19 : decode cX6_binOf 19 = .ok (.getfield 17, 3) := by decide +kernel
theorem dX6_binOf_22 : decode cX6_binOf 22 = .ok (.iconst 2, 1) := by decide +kernel
theorem dX6_binOf_23 : decode cX6_binOf 23 = .ok (.iload_n 3, 1) := by decide +kernel
theorem dX6_binOf_24 : decode cX6_binOf 24 = .ok (.imul, 1) := by decide +kernel
theorem dX6_binOf_25 : decode cX6_binOf 25 = .ok (.iconst 1, 1) := by decide +kernel
theorem dX6_binOf_26 : decode cX6_binOf 26 = .ok (.iadd, 1) := by decide +kernel
theorem dX6_binOf_27 : decode cX6_binOf 27 = .ok (.iaload, 1) := by decide +kernel
theorem dX6_binOf_28 : decode cX6_binOf 28 = .ok (.if_icmp .ne 6, 3) := by decide +kernel
theorem dX6_binOf_31 : decode cX6_binOf 31 = .ok (.goto 92, 3) := by decide +kernel
theorem dX6_binOf_34 : decode cX6_binOf 34 = .ok (.aload_n 0, 1) := by decide +kernel
theorem dX6_binOf_35 : decode cX6_binOf 35 = .ok (.getfield 17, 3) := by decide +kernel
theorem dX6_binOf_38 : decode cX6_binOf 38 = .ok (.iconst 2, 1) := by decide +kernel
theorem dX6_binOf_39 : decode cX6_binOf 39 = .ok (.iload_n 3, 1) := by decide +kernel
theorem dX6_binOf_40 : decode cX6_binOf 40 = .ok (.imul, 1) := by decide +kernel
theorem dX6_binOf_41 : decode cX6_binOf 41 = .ok (.iaload, 1) := by decide +kernel
theorem dX6_binOf_42 : decode cX6_binOf 42 = .ok (.aload_n 0, 1) := by decide +kernel
theorem dX6_binOf_43 : decode cX6_binOf 43 = .ok (.iload_n 1, 1) := by decide +kernel
theorem dX6_binOf_44 : decode cX6_binOf 44 = .ok (.iconst 0, 1) := by decide +kernel
theorem dX6_binOf_45 : decode cX6_binOf 45 = .ok (.invokevirtual 105, 3) := by decide +kernel
theorem dX6_binOf_48 : decode cX6_binOf 48 = .ok (.isub, 1) := by decide +kernel
theorem dX6_binOf_49 : decode cX6_binOf 49 = .ok (.invokestatic 120, 3) := by decide +kernel
theorem dX6_binOf_52 : decode cX6_binOf 52 = .ok (.istore 4, 2) := by decide +kernel
theorem dX6_binOf_54 : decode cX6_binOf 54 = .ok (.iload_n 2, 1) := by decide +kernel
theorem dX6_binOf_55 : decode cX6_binOf 55 = .ok (.iconst (-1), 1) := by decide +kernel
theorem dX6_binOf_56 : decode cX6_binOf 56 = .ok (.if_icmp .ne 7, 3) := by decide +kernel
theorem dX6_binOf_59 : decode cX6_binOf 59 = .ok (.iconst 0, 1) := by decide +kernel
theorem dX6_binOf_60 : decode cX6_binOf 60 = .ok (.goto 21, 3) := by decide +kernel
theorem dX6_binOf_63 : decode cX6_binOf 63 = .ok (.aload_n 0, 1) := by decide +kernel
theorem dX6_binOf_64 : decode cX6_binOf 64 = .ok (.getfield 17, 3) := by decide +kernel
theorem dX6_binOf_67 : decode cX6_binOf 67 = .ok (.iconst 2, 1) := by decide +kernel
theorem dX6_binOf_68 : decode cX6_binOf 68 = .ok (.iload_n 2, 1) := by decide +kernel
theorem dX6_binOf_69 : decode cX6_binOf 69 = .ok (.imul, 1) := by decide +kernel
theorem dX6_binOf_70 : decode cX6_binOf 70 = .ok (.iaload, 1) := by decide +kernel
theorem dX6_binOf_71 : decode cX6_binOf 71 = .ok (.aload_n 0, 1) := by decide +kernel
theorem dX6_binOf_72 : decode cX6_binOf 72 = .ok (.iload_n 1, 1) := by decide +kernel
theorem dX6_binOf_73 : decode cX6_binOf 73 = .ok (.iconst 0, 1) := by decide +kernel
theorem dX6_binOf_74 : decode cX6_binOf 74 = .ok (.invokevirtual 105, 3) := by decide +kernel
theorem dX6_binOf_77 : decode cX6_binOf 77 = .ok (.isub, 1) := by decide +kernel
theorem dX6_binOf_78 : decode cX6_binOf 78 = .ok (.invokestatic 120, 3) := by decide +kernel
theorem dX6_binOf_81 : decode cX6_binOf 81 = .ok (.istore 5, 2) := by decide +kernel
theorem dX6_binOf_83 : decode cX6_binOf 83 = .ok (.iload_n 2, 1) := by decide +kernel
theorem dX6_binOf_84 : decode cX6_binOf 84 = .ok (.iconst (-1), 1) := by decide +kernel
theorem dX6_binOf_85 : decode cX6_binOf 85 = .ok (.if_icmp .eq 36, 3) := by decide +kernel
theorem dX6_binOf_88 : decode cX6_binOf 88 = .ok (.iload 4, 2) := by decide +kernel
theorem dX6_binOf_90 : decode cX6_binOf 90 = .ok (.iload 5, 2) := by decide +kernel
theorem dX6_binOf_92 : decode cX6_binOf 92 = .ok (.if_icmp .lt 29, 3) := by decide +kernel
theorem dX6_binOf_95 : decode cX6_binOf 95 = .ok (.iload 4, 2) := by decide +kernel
theorem dX6_binOf_97 : decode cX6_binOf 97 = .ok (.iload 5, 2) := by decide +kernel
theorem dX6_binOf_99 : decode cX6_binOf 99 = .ok (.if_icmp .ne 24, 3) := by decide +kernel
theorem dX6_binOf_102 : decode cX6_binOf 102 = .ok (.aload_n 0, 1) := by decide +kernel
theorem dX6_binOf_103 : decode cX6_binOf 103 = .ok (.getfield 17, 3) := by decide +kernel
theorem dX6_binOf_106 : decode cX6_binOf 106 = .ok (.iconst 2, 1) := by decide +kernel
theorem dX6_binOf_107 : decode cX6_binOf 107 = .ok (.iload_n 3, 1) := by decide +kernel
theorem dX6_binOf_108 : decode cX6_binOf 108 = .ok (.imul, 1) := by decide +kernel
theorem dX6_binOf_109 : decode cX6_binOf 109 = .ok (.iaload, 1) := by decide +kernel
theorem dX6_binOf_110 : decode cX6_binOf 110 = .ok (.aload_n 0, 1) := by decide +kernel
theorem dX6_binOf_111 : decode cX6_binOf 111 = .ok (.getfield 17, 3) := by decide +kernel
theorem dX6_binOf_114 : decode cX6_binOf 114 = .ok (.iconst 2, 1) := by decide +kernel
theorem dX6_binOf_115 : decode cX6_binOf 115 = .ok (.iload_n 2, 1) := by decide +kernel
theorem dX6_binOf_116 : decode cX6_binOf 116 = .ok (.imul, 1) := by decide +kernel
theorem dX6_binOf_117 : decode cX6_binOf 117 = .ok (.iaload, 1) := by decide +kernel
theorem dX6_binOf_118 : decode cX6_binOf 118 = .ok (.if_icmp .ge 5, 3) := by decide +kernel
theorem dX6_binOf_121 : decode cX6_binOf 121 = .ok (.iload_n 3, 1) := by decide +kernel
theorem dX6_binOf_122 : decode cX6_binOf 122 = .ok (.istore_n 2, 1) := by decide +kernel
theorem dX6_binOf_123 : decode cX6_binOf 123 = .ok (.iinc 3 1, 3) := by decide +kernel
theorem dX6_binOf_126 : decode cX6_binOf 126 = .ok (.goto (-122), 3) := by decide +kernel
theorem dX6_binOf_129 : decode cX6_binOf 129 = .ok (.iload_n 2, 1) := by decide +kernel
theorem dX6_binOf_130 : decode cX6_binOf 130 = .ok (.ireturn, 1) := by decide +kernel
set_option maxRecDepth 20000 in
theorem ggX6_sort_X6_isIn_ : GoodIn wsX6_sort wsX6_isIn_ := goodIn_r _ [7, 8, 9, 10, 6, 11, 12, 36, 37, 38, 39, 40, 41, 42, 43, 44, 45, 46, 47, 48, 49, 50] (by decide +kernel) (by decide +kernel)
set_option maxRecDepth 20000 in
theorem gX6_sort_X6_isIn_ : GoodIn wsX6_sort (wsV RX6 93 RX6 yX6_isIn_ wsX6_isIn_) := goodIn_app (goodIn_of _ (by decide +kernel)) ggX6_sort_X6_isIn_
set_option maxRecDepth 20000 in
theorem ggX6_sort_X6_get : GoodIn wsX6_sort wsX6_get := goodIn_r _ [11, 12, 36, 37, 38, 39, 40, 41, 42, 43, 44, 45, 46, 47, 48, 49, 50] (by decide +kernel) (by decide +kernel)
set_option maxRecDepth 20000 in
theorem gX6_sort_X6_get : GoodIn wsX6_sort (wsV RX6 49 RX6 yX6_get wsX6_get) := goodIn_app (goodIn_of _ (by decide +kernel)) ggX6_sort_X6_get
set_option maxRecDepth 20000 in
theorem ggX6_sort_X6_binOf : GoodIn wsX6_sort wsX6_binOf := goodIn_r _ [16, 17, 18, 19, 20, 21, 22, 23, 24, 25, 6, 26, 2, 3, 4, 5, 7, 8, 9, 10, 11, 12, 27, 28, 29, 30, 31, 36, 37, 38, 39, 40, 41, 42, 43, 44, 45, 46, 47, 48, 49, 50] (by decide +kernel) (by decide +kernel)
set_option maxRecDepth 20000 in
theorem gX6_sort_X6_binOf : GoodIn wsX6_sort (wsV RX6 123 RX6 yX6_binOf wsX6_binOf) := goodIn_app (goodIn_of _ (by decide +kernel)) ggX6_sort_X6_binOf
set_option maxRecDepth 20000 in
theorem ggX6_sort_X6_set : GoodIn wsX6_sort wsX6_set := goodIn_r _ [35, 12, 36, 37, 38, 39, 40, 41, 42, 43, 44, 45, 46, 47, 48, 49, 50] (by decide +kernel) (by decide +kernel)
set_option maxRecDepth 20000 in
theorem gX6_sort_X6_set : GoodIn wsX6_sort (wsV RX6 86 RX6 yX6_set wsX6_set) := goodIn_app (goodIn_of _ (by decide +kernel)) ggX6_sort_X6_set
theorem dX6_sort_0 : decode cX6_sort 0 = .ok (.iconst 0, 1) := by decide +kernel
theorem dX6_sort_1 : decode cX6_sort 1 = .ok (.istore_n 1, 1) := by decide +kernel
theorem dX6_sort_2 : decode cX6_sort 2 = .ok (.iload_n 1, 1) := by decide +kernel
theorem dX6_sort_3 : decode cX6_sort 3 = .ok (.aload_n 0, 1) := by decide +kernel
theorem dX6_sort_4 : decode cX6_sort 4 = .ok (.getfield 29, 3) := by decide +kernel
theorem dX6_sort_7 : decode cX6_sort 7 = .ok (.if_icmp .ge 98, 3) := by decide +kernel
theorem dX6_sort_10 : decode cX6_sort 10 = .ok (.iconst (-1), 1) := by decide +kernel
theorem dX6_sort_11 : decode cX6_sort 11 = .ok (.istore_n 2, 1) := by decide +kernel
theorem dX6_sort_12 : decode cX6_sort 12 = .ok (.iconst 0, 1) := by decide +kernel
theorem dX6_sort_13 : decode cX6_sort 13 = .ok (.istore_n 3, 1) := by decide +kernel
theorem dX6_sort_14 : decode cX6_sort 14 = .ok (.iload_n 3, 1) := by decide +kernel
theorem dX6_sort_15 : decode cX6_sort 15 = .ok (.aload_n 0, 1) := by decide +kernel
theorem dX6_sort_16 : decode cX6_sort 16 = .ok (.getfield 70, 3) := by decide +kernel
theorem dX6_sort_19 : decode cX6_sort 19 = .ok (.if_icmp .ge 40, 3) := by decide +kernel
theorem dX6_sort_22 : decode cX6_sort 22 = .ok (.aload_n 0, 1) := by decide +kernel
theorem dX6_sort_23 : decode cX6_sort 23 = .ok (.iload_n 3, 1) := by decide +kernel
theorem dX6_sort_24 : decode cX6_sort 24 = .ok (.iconst 0, 1) := by decide +kernel
theorem dX6_sort_25 : decode cX6_sort 25 = .ok (.invokevirtual 93, 3) := by decide +kernel
theorem dX6_sort_28 : decode cX6_sort 28 = .ok (.ifCond .eq 25, 3) := by decide +kernel
theorem dX6_sort_31 : decode cX6_sort 31 = .ok (.iload_n 2, 1) := by decide +kernel
theorem dX6_sort_32 : decode cX6_sort 32 = .ok (.iconst (-1), 1) := by decide +kernel
theorem dX6_sort_33 : decode cX6_sort 33 = .ok (.if_icmp .eq 18, 3) := by decide +kernel
theorem dX6_sort_36 : decode cX6_sort 36 = .ok (.aload_n 0, 1) := by decide +kernel
theorem dX6_sort_37 : decode cX6_sort 37 = .ok (.iload_n 3, 1) := by decide +kernel
theorem dX6_sort_38 : decode cX6_sort 38 = .ok (.iconst 1, 1) := by decide +kernel
theorem dX6_sort_39 : decode cX6_sort 39 = .ok (.invokevirtual 49, 3) := by decide +kernel
theorem dX6_sort_42 : decode cX6_sort 42 = .ok (.aload_n 0, 1) := by decide +kernel
theorem dX6_sort_43 : decode cX6_sort 43 = .ok (.iload_n 2, 1) := by decide +kernel
theorem dX6_sort_44 : decode cX6_sort 44 = .ok (.iconst 1, 1) := by decide +kernel
theorem dX6_sort_45 : decode cX6_sort 45 = .ok (.invokevirtual 49, 3) := by decide +kernel
theorem dX6_sort_48 : decode cX6_sort 48 = .ok (.if_icmp .le 5, 3) := by decide +kernel
theorem dX6_sort_51 : decode cX6_sort 51 = .ok (.iload_n 3, 1) := by decide +kernel
theorem dX6_sort_52 : decode cX6_sort 52 = .ok (.istore_n 2, 1) := by decide +kernel
theorem dX6_sort_53 : decode cX6_sort 53 = .ok (.iinc 3 1, 3) := by decide +kernel
theorem dX6_sort_56 : decode cX6_sort 56 = .ok (.goto (-42), 3) := by decide +kernel
theorem dX6_sort_59 : decode cX6_sort 59 = .ok (.iload_n 2, 1) := by decide +kernel
theorem dX6_sort_60 : decode cX6_sort 60 = .ok (.iconst (-1), 1) := by decide +kernel
theorem dX6_sort_61 : decode cX6_sort 61 = .ok (.if_icmp .ne 7, 3) := by decide +kernel
theorem dX6_sort_64 : decode cX6_sort 64 = .ok (.iconst (-1), 1) := by decide +kernel
theorem dX6_sort_65 : decode cX6_sort 65 = .ok (.goto 13, 3) := by decide +kernel
theorem dX6_sort_68 : decode cX6_sort 68 = .ok (.aload_n 0, 1) := by decide +kernel
theorem dX6_sort_69 : decode cX6_sort 69 = .ok (.aload_n 0, 1) := by decide +kernel
theorem dX6_sort_70 : decode cX6_sort 70 = .ok (.iload_n 2, 1) := by decide +kernel
theorem dX6_sort_71 : decode cX6_sort 71 = .ok (.iconst 0, 1) := by decide +kernel
theorem dX6_sort_72 : decode cX6_sort 72 = .ok (.invokevirtual 49, 3) := by decide +kernel
theorem dX6_sort_75 : decode cX6_sort 75 = .ok (.invokevirtual 123, 3) := by decide +kernel
theorem dX6_sort_78 : decode cX6_sort 78 = .ok (.istore_n 3, 1) := by decide +kernel
theorem dX6_sort_79 : decode cX6_sort 79 = .ok (.iload_n 3, 1) := by decide +kernel
theorem dX6_sort_80 : decode cX6_sort 80 = .ok (.iconst (-1), 1) := by decide +kernel
theorem dX6_sort_81 : decode cX6_sort 81 = .ok (.if_icmp .ne 4, 3) := by decide +kernel
theorem dX6_sort_84 : decode cX6_sort 84 = .ok (.return_, 1) := by decide +kernel
theorem dX6_sort_85 : decode cX6_sort 85 = .ok (.aload_n 0, 1) := by decide +kernel
theorem dX6_sort_86 : decode cX6_sort 86 = .ok (.iload_n 2, 1) := by decide +kernel
theorem dX6_sort_87 : decode cX6_sort 87 = .ok (.iconst 3, 1) := by decide +kernel
theorem dX6_sort_88 : decode cX6_sort 88 = .ok (.iconst 1, 1) := by decide +kernel
theorem dX6_sort_89 : decode cX6_sort 89 = .ok (.invokevirtual 86, 3) := by decide +kernel
theorem dX6_sort_92 : decode cX6_sort 92 = .ok (.aload_n 0, 1) := by decide +kernel
theorem dX6_sort_93 : decode cX6_sort 93 = .ok (.iload_n 2, 1) := by decide +kernel
theorem dX6_sort_94 : decode cX6_sort 94 = .ok (.iconst 5, 1) := by decide +kernel
theorem dX6_sort_95 : decode cX6_sort 95 = .ok (.iload_n 3, 1) := by decide +kernel
theorem dX6_sort_96 : decode cX6_sort 96 = .ok (.invokevirtual 86, 3) := by decide +kernel
theorem dX6_sort_99 : decode cX6_sort 99 = .ok (.iinc 1 1, 3) := by decide +kernel
theorem dX6_sort_102 : decode cX6_sort 102 = .ok (.goto (-100), 3) := by decide +kernel
theorem dX6_sort_105 : decode cX6_sort 105 = .ok (.return_, 1) := by decide +kernel
set_option maxRecDepth 20000 in
theorem ggX6_passOne_X6_tideOf : GoodIn wsX6_passOne wsX6_tideOf := goodIn_r _ [12, 13, 14, 81, 82, 83, 84, 85, 86, 87, 88, 89, 90, 91, 92, 93, 94, 95] (by decide +kernel) (by decide +kernel)
set_option maxRecDepth 20000 in
theorem gX6_passOne_X6_tideOf : GoodIn wsX6_passOne (wsV RX6 61 RX6 yX6_tideOf wsX6_tideOf) := goodIn_app (goodIn_of _ (by decide +kernel)) ggX6_passOne_X6_tideOf
set_option maxRecDepth 20000 in
theorem ggX6_passOne_X6_isIn_ : GoodIn wsX6_passOne wsX6_isIn_ := goodIn_r _ [18, 19, 20, 21, 11, 22, 23, 81, 82, 83, 84, 85, 86, 87, 88, 89, 90, 91, 92, 93, 94, 95] (by decide +kernel) (by decide +kernel)
set_option maxRecDepth 20000 in
theorem gX6_passOne_X6_isIn_ : GoodIn wsX6_passOne (wsV RX6 93 RX6 yX6_isIn_ wsX6_isIn_) := goodIn_app (goodIn_of _ (by decide +kernel)) ggX6_passOne_X6_isIn_
set_option maxRecDepth 20000 in
theorem ggX6_passOne_X6_water : GoodIn wsX6_passOne wsX6_water := goodIn_r _ [27, 19, 20, 21, 11, 22, 23, 28, 29, 30, 31, 32, 33, 34, 35, 36, 37, 38, 39, 40, 41, 42, 43, 44, 45, 81, 82, 83, 84, 85, 86, 87, 88, 89, 90, 91, 92, 93, 94, 95] (by decide +kernel) (by decide +kernel)
set_option maxRecDepth 20000 in
theorem gX6_passOne_X6_water : GoodIn wsX6_passOne (wsV RX6 126 RX6 yX6_water wsX6_water) := goodIn_app (goodIn_of _ (by decide +kernel)) ggX6_passOne_X6_water
set_option maxRecDepth 20000 in
theorem ggX6_passOne_X6_answer : GoodIn wsX6_passOne wsX6_answer := goodIn_r _ [49, 45, 2, 19, 20, 21, 11, 22, 23, 41, 42, 43, 44, 50, 51, 52, 53, 54, 55, 56, 57, 58, 81, 82, 83, 84, 85, 86, 87, 88, 89, 90, 91, 92, 93, 94, 95] (by decide +kernel) (by decide +kernel)
set_option maxRecDepth 20000 in
theorem gX6_passOne_X6_answer : GoodIn wsX6_passOne (wsV RX6 130 RX6 yX6_answer wsX6_answer) := goodIn_app (goodIn_of _ (by decide +kernel)) ggX6_passOne_X6_answer
set_option maxRecDepth 20000 in
theorem ggX6_passOne_X6_get : GoodIn wsX6_passOne wsX6_get := goodIn_r _ [22, 23, 81, 82, 83, 84, 85, 86, 87, 88, 89, 90, 91, 92, 93, 94, 95] (by decide +kernel) (by decide +kernel)
set_option maxRecDepth 20000 in
theorem gX6_passOne_X6_get : GoodIn wsX6_passOne (wsV RX6 49 RX6 yX6_get wsX6_get) := goodIn_app (goodIn_of _ (by decide +kernel)) ggX6_passOne_X6_get
set_option maxRecDepth 20000 in
theorem ggX6_passOne_X6_set : GoodIn wsX6_passOne wsX6_set := goodIn_r _ [36, 23, 81, 82, 83, 84, 85, 86, 87, 88, 89, 90, 91, 92, 93, 94, 95] (by decide +kernel) (by decide +kernel)
set_option maxRecDepth 20000 in
theorem gX6_passOne_X6_set : GoodIn wsX6_passOne (wsV RX6 86 RX6 yX6_set wsX6_set) := goodIn_app (goodIn_of _ (by decide +kernel)) ggX6_passOne_X6_set
set_option maxRecDepth 20000 in
theorem ggX6_passOne_X6_scrape : GoodIn wsX6_passOne wsX6_scrape := goodIn_r _ [62, 2, 3, 63, 4, 5, 6, 7, 15, 16, 17, 11, 18, 19, 20, 21, 22, 23, 28, 29, 30, 31, 32, 33, 34, 35, 36, 81, 82, 83, 84, 85, 86, 87, 88, 89, 90, 91, 92, 93, 94, 95] (by decide +kernel) (by decide +kernel)
set_option maxRecDepth 20000 in
theorem gX6_passOne_X6_scrape : GoodIn wsX6_passOne (wsV RX6 134 RX6 yX6_scrape wsX6_scrape) := goodIn_app (goodIn_of _ (by decide +kernel)) ggX6_passOne_X6_scrape
set_option maxRecDepth 20000 in
theorem ggX6_passOne_X6_sort : GoodIn wsX6_passOne wsX6_sort := goodIn_r _ [67, 68, 2, 15, 16, 17, 11, 18, 19, 20, 21, 22, 23, 69, 70, 71, 72, 73, 32, 74, 75, 6, 76, 77, 78, 79, 80, 41, 42, 43, 44, 45, 33, 34, 35, 36, 81, 82, 83, 84, 85, 86, 87, 88, 89, 90, 91, 92, 93, 94, 95] (by decide +kernel) (by decide +kernel)
set_option maxRecDepth 20000 in
theorem gX6_passOne_X6_sort : GoodIn wsX6_passOne (wsV RX6 137 RX6 yX6_sort wsX6_sort) := goodIn_app (goodIn_of _ (by decide +kernel)) ggX6_passOne_X6_sort
theorem dX6_passOne_0 : decode cX6_passOne 0 = .ok (.aload_n 0, 1) := by decide +kernel
theorem dX6_passOne_1 : decode cX6_passOne 1 = .ok (.aload_n 0, 1) := by decide +kernel
theorem dX6_passOne_2 : decode cX6_passOne 2 = .ok (.getfield 96, 3) := by decide +kernel
theorem dX6_passOne_5 : decode cX6_passOne 5 = .ok (.invokevirtual 61, 3) := by decide +kernel
theorem dX6_passOne_8 : decode cX6_passOne 8 = .ok (.istore_n 1, 1) := by decide +kernel
theorem dX6_passOne_9 : decode cX6_passOne 9 = .ok (.aload_n 0, 1) := by decide +kernel
theorem dX6_passOne_10 : decode cX6_passOne 10 = .ok (.getfield 70, 3) := by decide +kernel
theorem dX6_passOne_13 : decode cX6_passOne 13 = .ok (.istore_n 2, 1) := by decide +kernel
theorem dX6_passOne_14 : decode cX6_passOne 14 = .ok (.iconst 0, 1) := by decide +kernel
theorem dX6_passOne_15 : decode cX6_passOne 15 = .ok (.istore_n 3, 1) := by decide +kernel
theorem dX6_passOne_16 : decode cX6_passOne 16 = .ok (.iload_n 3, 1) := by decide +kernel
theorem dX6_passOne_17 : decode cX6_passOne 17 = .ok (.iload_n 2, 1) := by decide +kernel
theorem dX6_passOne_18 : decode cX6_passOne 18 = .ok (.if_icmp .ge 53, 3) := by decide +kernel
theorem dX6_passOne_21 : decode cX6_passOne 21 = .ok (.aload_n 0, 1) := by decide +kernel
theorem dX6_passOne_22 : decode cX6_passOne 22 = .ok (.iload_n 3, 1) := by decide +kernel
theorem dX6_passOne_23 : decode cX6_passOne 23 = .ok (.iconst 1, 1) := by decide +kernel
theorem dX6_passOne_24 : decode cX6_passOne 24 = .ok (.invokevirtual 93, 3) := by decide +kernel
theorem dX6_passOne_27 : decode cX6_passOne 27 = .ok (.istore 4, 2) := by decide +kernel
theorem dX6_passOne_29 : decode cX6_passOne 29 = .ok (.iload 4, 2) := by decide +kernel
theorem dX6_passOne_31 : decode cX6_passOne 31 = .ok (.ifCond .eq 9, 3) := by decide +kernel
theorem dX6_passOne_34 : decode cX6_passOne 34 = .ok (.aload_n 0, 1) := by decide +kernel
theorem dX6_passOne_35 : decode cX6_passOne 35 = .ok (.iload_n 3, 1) := by decide +kernel
theorem dX6_passOne_36 : decode cX6_passOne 36 = .ok (.iload_n 1, 1) := by decide +kernel
theorem dX6_passOne_37 : decode cX6_passOne 37 = .ok (.invokevirtual 126, 3) := by decide +kernel
theorem dX6_passOne_40 : decode cX6_passOne 40 = .ok (.aload_n 0, 1) := by decide +kernel
theorem dX6_passOne_41 : decode cX6_passOne 41 = .ok (.getfield 38, 3) := by decide +kernel
theorem dX6_passOne_44 : decode cX6_passOne 44 = .ok (.iload_n 3, 1) := by decide +kernel
theorem dX6_passOne_45 : decode cX6_passOne 45 = .ok (.iload 4, 2) := by decide +kernel
theorem dX6_passOne_47 : decode cX6_passOne 47 = .ok (.ifCond .eq 16, 3) := by decide +kernel
theorem dX6_passOne_50 : decode cX6_passOne 50 = .ok (.aload_n 0, 1) := by decide +kernel
theorem dX6_passOne_51 : decode cX6_passOne 51 = .ok (.iload_n 3, 1) := by decide +kernel
theorem dX6_passOne_52 : decode cX6_passOne 52 = .ok (.iconst 2, 1) := by decide +kernel
theorem dX6_passOne_53 : decode cX6_passOne 53 = .ok (.invokevirtual 93, 3) := by decide +kernel
theorem dX6_passOne_56 : decode cX6_passOne 56 = .ok (.ifCond .eq 7, 3) := by decide +kernel
theorem dX6_passOne_59 : decode cX6_passOne 59 = .ok (.iconst 1, 1) := by decide +kernel
theorem dX6_passOne_60 : decode cX6_passOne 60 = .ok (.goto 4, 3) := by decide +kernel
theorem dX6_passOne_63 : decode cX6_passOne 63 = .ok (.iconst 0, 1) := by decide +kernel
theorem dX6_passOne_64 : decode cX6_passOne 64 = .ok (.bastore, 1) := by decide +kernel
theorem dX6_passOne_65 : decode cX6_passOne 65 = .ok (.iinc 3 1, 3) := by decide +kernel
theorem dX6_passOne_68 : decode cX6_passOne 68 = .ok (.goto (-52), 3) := by decide +kernel
theorem dX6_passOne_71 : decode cX6_passOne 71 = .ok (.iconst 0, 1) := by decide +kernel
theorem dX6_passOne_72 : decode cX6_passOne 72 = .ok (.istore_n 3, 1) := by decide +kernel
theorem dX6_passOne_73 : decode cX6_passOne 73 = .ok (.iload_n 3, 1) := by decide +kernel
theorem dX6_passOne_74 : decode cX6_passOne 74 = .ok (.iload_n 2, 1) := by decide +kernel
theorem dX6_passOne_75 : decode cX6_passOne 75 = .ok (.if_icmp .ge 23, 3) := by decide +kernel
theorem dX6_passOne_78 : decode cX6_passOne 78 = .ok (.aload_n 0, 1) := by decide +kernel
theorem dX6_passOne_79 : decode cX6_passOne 79 = .ok (.getfield 38, 3) := by decide +kernel
theorem dX6_passOne_82 : decode cX6_passOne 82 = .ok (.iload_n 3, 1) := by decide +kernel
theorem dX6_passOne_83 : decode cX6_passOne 83 = .ok (.baload, 1) := by decide +kernel
theorem dX6_passOne_84 : decode cX6_passOne 84 = .ok (.ifCond .eq 8, 3) := by decide +kernel
theorem dX6_passOne_87 : decode cX6_passOne 87 = .ok (.aload_n 0, 1) := by decide +kernel
theorem dX6_passOne_88 : decode cX6_passOne 88 = .ok (.iload_n 3, 1) := by decide +kernel
theorem dX6_passOne_89 : decode cX6_passOne 89 = .ok (.invokevirtual 130, 3) := by decide +kernel
theorem dX6_passOne_92 : decode cX6_passOne 92 = .ok (.iinc 3 1, 3) := by decide +kernel
theorem dX6_passOne_95 : decode cX6_passOne 95 = .ok (.goto (-22), 3) := by decide +kernel
theorem dX6_passOne_98 : decode cX6_passOne 98 = .ok (.iconst 0, 1) := by decide +kernel
theorem dX6_passOne_99 : decode cX6_passOne 99 = .ok (.istore_n 3, 1) := by decide +kernel
theorem dX6_passOne_100 : decode cX6_passOne 100 = .ok (.iload_n 3, 1) := by decide +kernel
theorem dX6_passOne_101 : decode cX6_passOne 101 = .ok (.iload_n 2, 1) := by decide +kernel
theorem dX6_passOne_102 : decode cX6_passOne 102 = .ok (.if_icmp .ge 64, 3) := by decide +kernel
theorem dX6_passOne_105 : decode cX6_passOne 105 = .ok (.aload_n 0, 1) := by decide +kernel
theorem dX6_passOne_106 : decode cX6_passOne 106 = .ok (.iload_n 3, 1) := by decide +kernel
theorem dX6_passOne_107 : decode cX6_passOne 107 = .ok (.iconst 4, 1) := by decide +kernel
theorem dX6_passOne_108 : decode cX6_passOne 108 = .ok (.invokevirtual 93, 3) := by decide +kernel
theorem dX6_passOne_111 : decode cX6_passOne 111 = .ok (.ifCond .ne 6, 3) := by decide +kernel
theorem dX6_passOne_114 : decode cX6_passOne 114 = .ok (.goto 46, 3) := by decide +kernel
theorem dX6_passOne_117 : decode cX6_passOne 117 = .ok (.aload_n 0, 1) := by decide +kernel
theorem dX6_passOne_118 : decode cX6_passOne 118 = .ok (.iload_n 3, 1) := by decide +kernel
theorem dX6_passOne_119 : decode cX6_passOne 119 = .ok (.bipush 7, 2) := by decide +kernel
theorem dX6_passOne_121 : decode cX6_passOne 121 = .ok (.iconst 0, 1) := by decide +kernel
theorem dX6_passOne_122 : decode cX6_passOne 122 = .ok (.aload_n 0, 1) := by decide +kernel
theorem dX6_passOne_123 : decode cX6_passOne 123 = .ok (.iload_n 3, 1) := by decide +kernel
theorem dX6_passOne_124 : decode cX6_passOne 124 = .ok (.bipush 7, 2) := by decide +kernel
theorem dX6_passOne_126 : decode cX6_passOne 126 = .ok (.invokevirtual 49, 3) := by decide +kernel
theorem dX6_passOne_129 : decode cX6_passOne 129 = .ok (.iconst 1, 1) := by decide +kernel
theorem dX6_passOne_130 : decode cX6_passOne 130 = .ok (.isub, 1) := by decide +kernel
theorem dX6_passOne_131 : decode cX6_passOne 131 = .ok (.invokestatic 115, 3) := by decide +kernel
theorem dX6_passOne_134 : decode cX6_passOne 134 = .ok (.invokevirtual 86, 3) := by decide +kernel
theorem dX6_passOne_137 : decode cX6_passOne 137 = .ok (.aload_n 0, 1) := by decide +kernel
theorem dX6_passOne_138 : decode cX6_passOne 138 = .ok (.iload_n 3, 1) := by decide +kernel
theorem dX6_passOne_139 : decode cX6_passOne 139 = .ok (.bipush 7, 2) := by decide +kernel
theorem dX6_passOne_141 : decode cX6_passOne 141 = .ok (.invokevirtual 49, 3) := by decide +kernel
theorem dX6_passOne_144 : decode cX6_passOne 144 = .ok (.ifCond .ne 16, 3) := by decide +kernel
theorem dX6_passOne_147 : decode cX6_passOne 147 = .ok (.iload_n 1, 1) := by decide +kernel
theorem dX6_passOne_148 : decode cX6_passOne 148 = .ok (.bipush 30, 2) := by decide +kernel
theorem dX6_passOne_150 : decode cX6_passOne 150 = .ok (.if_icmp .gt 10, 3) := by decide +kernel
theorem dX6_passOne_153 : decode cX6_passOne 153 = .ok (.aload_n 0, 1) := by decide +kernel
theorem dX6_passOne_154 : decode cX6_passOne 154 = .ok (.iload_n 3, 1) := by decide +kernel
theorem dX6_passOne_155 : decode cX6_passOne 155 = .ok (.iconst 3, 1) := by decide +kernel
theorem dX6_passOne_156 : decode cX6_passOne 156 = .ok (.iconst 5, 1) := by decide +kernel
theorem dX6_passOne_157 : decode cX6_passOne 157 = .ok (.invokevirtual 86, 3) := by decide +kernel
theorem dX6_passOne_160 : decode cX6_passOne 160 = .ok (.iinc 3 1, 3) := by decide +kernel
theorem dX6_passOne_163 : decode cX6_passOne 163 = .ok (.goto (-63), 3) := by decide +kernel
theorem dX6_passOne_166 : decode cX6_passOne 166 = .ok (.aload_n 0, 1) := by decide +kernel
theorem dX6_passOne_167 : decode cX6_passOne 167 = .ok (.iload_n 1, 1) := by decide +kernel
theorem dX6_passOne_168 : decode cX6_passOne 168 = .ok (.invokevirtual 134, 3) := by decide +kernel
theorem dX6_passOne_171 : decode cX6_passOne 171 = .ok (.aload_n 0, 1) := by decide +kernel
theorem dX6_passOne_172 : decode cX6_passOne 172 = .ok (.invokevirtual 137, 3) := by decide +kernel
theorem dX6_passOne_175 : decode cX6_passOne 175 = .ok (.aload_n 0, 1) := by decide +kernel
theorem dX6_passOne_176 : decode cX6_passOne 176 = .ok (.dup, 1) := by decide +kernel
theorem dX6_passOne_177 : decode cX6_passOne 177 = .ok (.getfield 96, 3) := by decide +kernel
theorem dX6_passOne_180 : decode cX6_passOne 180 = .ok (.iconst 1, 1) := by decide +kernel
theorem dX6_passOne_181 : decode cX6_passOne 181 = .ok (.iadd, 1) := by decide +kernel
theorem dX6_passOne_182 : decode cX6_passOne 182 = .ok (.putfield 96, 3) := by decide +kernel
theorem dX6_passOne_185 : decode cX6_passOne 185 = .ok (.return_, 1) := by decide +kernel
set_option maxRecDepth 20000 in
theorem ggX6_many_X6_isIn_ : GoodIn wsX6_many wsX6_isIn_ := goodIn_r _ [6, 7, 8, 9, 5, 10, 11, 12, 13, 14, 15, 16, 17, 18, 19, 20, 21, 22, 23, 24, 25, 26] (by decide +kernel) (by decide +kernel)
set_option maxRecDepth 20000 in
theorem gX6_many_X6_isIn_ : GoodIn wsX6_many (wsV RX6 93 RX6 yX6_isIn_ wsX6_isIn_) := goodIn_app (goodIn_of _ (by decide +kernel)) ggX6_many_X6_isIn_
theorem dX6_many_0 : decode cX6_many 0 = .ok (.iconst 0, 1) := by decide +kernel
theorem dX6_many_1 : decode cX6_many 1 = .ok (.istore_n 2, 1) := by decide +kernel
theorem dX6_many_2 : decode cX6_many 2 = .ok (.iconst 0, 1) := by decide +kernel
theorem dX6_many_3 : decode cX6_many 3 = .ok (.istore_n 3, 1) := by decide +kernel
theorem dX6_many_4 : decode cX6_many 4 = .ok (.iload_n 3, 1) := by decide +kernel
theorem dX6_many_5 : decode cX6_many 5 = .ok (.aload_n 0, 1) := by decide +kernel
theorem dX6_many_6 : decode cX6_many 6 = .ok (.getfield 70, 3) := by decide +kernel
theorem dX6_many_9 : decode cX6_many 9 = .ok (.if_icmp .ge 26, 3) := by decide +kernel
theorem dX6_many_12 : decode cX6_many 12 = .ok (.iload_n 2, 1) := by decide +kernel
theorem dX6_many_13 : decode cX6_many 13 = .ok (.aload_n 0, 1) := by decide +kernel
theorem dX6_many_14 : decode cX6_many 14 = .ok (.iload_n 3, 1) := by decide +kernel
theorem dX6_many_15 : decode cX6_many 15 = .ok (.iload_n 1, 1) := by decide +kernel
theorem dX6_many_16 : decode cX6_many 16 = .ok (.invokevirtual 93, 3) := by decide +kernel
theorem dX6_many_19 : decode cX6_many 19 = .ok (.ifCond .eq 7, 3) := by decide +kernel
theorem dX6_many_22 : decode cX6_many 22 = .ok (.iconst 1, 1) := by decide +kernel
theorem dX6_many_23 : decode cX6_many 23 = .ok (.goto 4, 3) := by decide +kernel
theorem dX6_many_26 : decode cX6_many 26 = .ok (.iconst 0, 1) := by decide +kernel
theorem dX6_many_27 : decode cX6_many 27 = .ok (.iadd, 1) := by decide +kernel
theorem dX6_many_28 : decode cX6_many 28 = .ok (.istore_n 2, 1) := by decide +kernel
theorem dX6_many_29 : decode cX6_many 29 = .ok (.iinc 3 1, 3) := by decide +kernel
theorem dX6_many_32 : decode cX6_many 32 = .ok (.goto (-28), 3) := by decide +kernel
theorem dX6_many_35 : decode cX6_many 35 = .ok (.iload_n 2, 1) := by decide +kernel
theorem dX6_many_36 : decode cX6_many 36 = .ok (.ireturn, 1) := by decide +kernel
set_option maxRecDepth 20000 in
theorem ggX6_pass_X6_isIn : GoodIn wsX6_pass wsX6_isIn := goodIn_r _ [5] (by decide +kernel) (by decide +kernel)
set_option maxRecDepth 20000 in
theorem gX6_pass_X6_isIn : GoodIn wsX6_pass (va_wsS RX6 45 yX6_isIn wsX6_isIn) := goodIn_app (goodIn_of _ (by decide +kernel)) ggX6_pass_X6_isIn
set_option maxRecDepth 20000 in
theorem ggX6_pass_X6_fail : GoodIn wsX6_pass wsX6_fail := goodIn_r _ [9, 1, 97, 98, 99, 100, 101, 102, 103, 104, 105, 106, 107, 108, 109, 110, 111] (by decide +kernel) (by decide +kernel)
set_option maxRecDepth 20000 in
theorem gX6_pass_X6_fail : GoodIn wsX6_pass (wsV RX6 57 RX6 yX6_fail wsX6_fail) := goodIn_app (goodIn_of _ (by decide +kernel)) ggX6_pass_X6_fail
set_option maxRecDepth 20000 in
theorem ggX6_pass_X6_many : GoodIn wsX6_pass wsX6_many := goodIn_r _ [13, 14, 15, 16, 17, 4, 18, 19, 20, 21, 22, 23, 97, 98, 99, 100, 101, 102, 103, 104, 105, 106, 107, 108, 109, 110, 111] (by decide +kernel) (by decide +kernel)
set_option maxRecDepth 20000 in
theorem gX6_pass_X6_many : GoodIn wsX6_pass (wsV RX6 140 RX6 yX6_many wsX6_many) := goodIn_app (goodIn_of _ (by decide +kernel)) ggX6_pass_X6_many
set_option maxRecDepth 20000 in
theorem ggX6_pass_X6_passOne : GoodIn wsX6_pass wsX6_passOne := goodIn_r _ [27, 28, 14, 29, 30, 31, 32, 33, 34, 35, 36, 4, 37, 38, 39, 15, 16, 17, 18, 19, 20, 21, 22, 23, 40, 41, 42, 43, 44, 45, 46, 47, 48, 49, 50, 51, 52, 53, 54, 55, 56, 57, 58, 59, 60, 61, 62, 63, 64, 65, 66, 67, 68, 69, 70, 71, 72, 73, 74, 75, 76, 77, 78, 79, 80, 81, 82, 83, 84, 85, 86, 87, 88, 89, 90, 91, 92, 93, 94, 95, 96, 97, 98, 99, 100, 101, 102, 103, 104, 105, 106, 107, 108, 109, 110, 111] (by decide +kernel) (by decide +kernel)
set_option maxRecDepth 20000 in
theorem gX6_pass_X6_passOne : GoodIn wsX6_pass (wsV RX6 143 RX6 yX6_passOne wsX6_passOne) := goodIn_app (goodIn_of _ (by decide +kernel)) ggX6_pass_X6_passOne
theorem dX6_pass_0 : decode cX6_pass 0 = .ok (.aload_n 0, 1) := by decide +kernel
theorem dX6_pass_1 : decode cX6_pass 1 = .ok (.iconst 0, 1) := by decide +kernel
theorem dX6_pass_2 : decode cX6_pass 2 = .ok (.putfield 42, 3) := by decide +kernel
theorem dX6_pass_5 : decode cX6_pass 5 = .ok (.iload_n 1, 1) := by decide +kernel
theorem dX6_pass_6 : decode cX6_pass 6 = .ok (.iconst 1, 1) := by decide +kernel
theorem dX6_pass_7 : decode cX6_pass 7 = .ok (.sipush 200, 3) := by decide +kernel
theorem dX6_pass_10 : decode cX6_pass 10 = .ok (.invokestatic 45, 3) := by decide +kernel
theorem dX6_pass_13 : decode cX6_pass 13 = .ok (.ifCond .ne 9, 3) := by decide +kernel
theorem dX6_pass_16 : decode cX6_pass 16 = .ok (.aload_n 0, 1) := by decide +kernel
theorem dX6_pass_17 : decode cX6_pass 17 = .ok (.iconst 1, 1) := by decide +kernel
theorem dX6_pass_18 : decode cX6_pass 18 = .ok (.invokevirtual 57, 3) := by decide +kernel
theorem dX6_pass_21 : decode cX6_pass 21 = .ok (.ireturn, 1) := by decide +kernel
theorem dX6_pass_22 : decode cX6_pass 22 = .ok (.aload_n 0, 1) := by decide +kernel
theorem dX6_pass_23 : decode cX6_pass 23 = .ok (.iconst 2, 1) := by decide +kernel
theorem dX6_pass_24 : decode cX6_pass 24 = .ok (.invokevirtual 140, 3) := by decide +kernel
theorem dX6_pass_27 : decode cX6_pass 27 = .ok (.istore_n 2, 1) := by decide +kernel
theorem dX6_pass_28 : decode cX6_pass 28 = .ok (.iconst 0, 1) := by decide +kernel
theorem dX6_pass_29 : decode cX6_pass 29 = .ok (.istore_n 3, 1) := by decide +kernel
theorem dX6_pass_30 : decode cX6_pass 30 = .ok (.iload_n 3, 1) := by decide +kernel
theorem dX6_pass_31 : decode cX6_pass 31 = .ok (.iload_n 1, 1) := by decide +kernel
theorem dX6_pass_32 : decode cX6_pass 32 = .ok (.if_icmp .ge 13, 3) := by decide +kernel
theorem dX6_pass_35 : decode cX6_pass 35 = .ok (.aload_n 0, 1) := by decide +kernel
theorem dX6_pass_36 : decode cX6_pass 36 = .ok (.invokevirtual 143, 3) := by decide +kernel
theorem dX6_pass_39 : decode cX6_pass 39 = .ok (.iinc 3 1, 3) := by decide +kernel
theorem dX6_pass_42 : decode cX6_pass 42 = .ok (.goto (-12), 3) := by decide +kernel
theorem dX6_pass_45 : decode cX6_pass 45 = .ok (.aload_n 0, 1) := by decide +kernel
theorem dX6_pass_46 : decode cX6_pass 46 = .ok (.iconst 2, 1) := by decide +kernel
theorem dX6_pass_47 : decode cX6_pass 47 = .ok (.invokevirtual 140, 3) := by decide +kernel
theorem dX6_pass_50 : decode cX6_pass 50 = .ok (.iload_n 2, 1) := by decide +kernel
theorem dX6_pass_51 : decode cX6_pass 51 = .ok (.isub, 1) := by decide +kernel
theorem dX6_pass_52 : decode cX6_pass 52 = .ok (.ireturn, 1) := by decide +kernel
set_option maxRecDepth 20000 in
theorem ggX6_counted_X6_many : GoodIn wsX6_counted wsX6_many := goodIn_r _ [12, 4, 13, 14, 15, 11, 16, 17, 18, 19, 20, 21, 22, 23, 24, 25, 26, 27, 28, 29, 30, 31, 32, 33, 34, 35, 36] (by decide +kernel) (by decide +kernel)
set_option maxRecDepth 20000 in
theorem gX6_counted_X6_many : GoodIn wsX6_counted (wsV RX6 140 RX6 yX6_many wsX6_many) := goodIn_app (goodIn_of _ (by decide +kernel)) ggX6_counted_X6_many
theorem dX6_counted_0 : decode cX6_counted 0 = .ok (.iload_n 1, 1) := by decide +kernel
theorem dX6_counted_1 : decode cX6_counted 1 = .ok (.tableswitch 102 0 12 #[67, 72, 77, 82, 102, 102, 102, 102, 102, 102, 87, 92, 97], 67) := by decide +kernel
theorem dX6_counted_68 : decode cX6_counted 68 = .ok (.aload_n 0, 1) := by decide +kernel
theorem dX6_counted_69 : decode cX6_counted 69 = .ok (.getfield 96, 3) := by decide +kernel
theorem dX6_counted_72 : decode cX6_counted 72 = .ok (.ireturn, 1) := by decide +kernel
theorem dX6_counted_73 : decode cX6_counted 73 = .ok (.aload_n 0, 1) := by decide +kernel
theorem dX6_counted_74 : decode cX6_counted 74 = .ok (.getfield 64, 3) := by decide +kernel
theorem dX6_counted_77 : decode cX6_counted 77 = .ok (.ireturn, 1) := by decide +kernel
theorem dX6_counted_78 : decode cX6_counted 78 = .ok (.aload_n 0, 1) := by decide +kernel
theorem dX6_counted_79 : decode cX6_counted 79 = .ok (.getfield 67, 3) := by decide +kernel
theorem dX6_counted_82 : decode cX6_counted 82 = .ok (.ireturn, 1) := by decide +kernel
theorem dX6_counted_83 : decode cX6_counted 83 = .ok (.aload_n 0, 1) := by decide +kernel
theorem dX6_counted_84 : decode cX6_counted 84 = .ok (.getfield 70, 3) := by decide +kernel
theorem dX6_counted_87 : decode cX6_counted 87 = .ok (.ireturn, 1) := by decide +kernel
theorem dX6_counted_88 : decode cX6_counted 88 = .ok (.aload_n 0, 1) := by decide +kernel
theorem dX6_counted_89 : decode cX6_counted 89 = .ok (.getfield 7, 3) := by decide +kernel
theorem dX6_counted_92 : decode cX6_counted 92 = .ok (.ireturn, 1) := by decide +kernel
theorem dX6_counted_93 : decode cX6_counted 93 = .ok (.aload_n 0, 1) := by decide +kernel
theorem dX6_counted_94 : decode cX6_counted 94 = .ok (.getfield 26, 3) := by decide +kernel
theorem dX6_counted_97 : decode cX6_counted 97 = .ok (.ireturn, 1) := by decide +kernel
theorem dX6_counted_98 : decode cX6_counted 98 = .ok (.aload_n 0, 1) := by decide +kernel
theorem dX6_counted_99 : decode cX6_counted 99 = .ok (.getfield 29, 3) := by decide +kernel
theorem dX6_counted_102 : decode cX6_counted 102 = .ok (.ireturn, 1) := by decide +kernel
theorem dX6_counted_103 : decode cX6_counted 103 = .ok (.aload_n 0, 1) := by decide +kernel
theorem dX6_counted_104 : decode cX6_counted 104 = .ok (.iload_n 1, 1) := by decide +kernel
theorem dX6_counted_105 : decode cX6_counted 105 = .ok (.iconst 4, 1) := by decide +kernel
theorem dX6_counted_106 : decode cX6_counted 106 = .ok (.isub, 1) := by decide +kernel
theorem dX6_counted_107 : decode cX6_counted 107 = .ok (.invokevirtual 140, 3) := by decide +kernel
theorem dX6_counted_110 : decode cX6_counted 110 = .ok (.ireturn, 1) := by decide +kernel
set_option maxRecDepth 20000 in
theorem ggX6_count_X6_isIn : GoodIn wsX6_count wsX6_isIn := goodIn_r _ [5] (by decide +kernel) (by decide +kernel)
set_option maxRecDepth 20000 in
theorem gX6_count_X6_isIn : GoodIn wsX6_count (va_wsS RX6 45 yX6_isIn wsX6_isIn) := goodIn_app (goodIn_of _ (by decide +kernel)) ggX6_count_X6_isIn
set_option maxRecDepth 20000 in
theorem ggX6_count_X6_counted : GoodIn wsX6_count wsX6_counted := goodIn_r _ [9, 10, 11, 12, 13, 14, 15, 16, 17, 18, 19, 4, 20, 21, 22, 23, 24, 25, 26, 27, 28, 29, 34, 35, 36, 37, 38, 39, 40, 41, 42, 43, 44, 45, 46, 47, 48] (by decide +kernel) (by decide +kernel)
set_option maxRecDepth 20000 in
theorem gX6_count_X6_counted : GoodIn wsX6_count (wsV RX6 146 RX6 yX6_counted wsX6_counted) := goodIn_app (goodIn_of _ (by decide +kernel)) ggX6_count_X6_counted
set_option maxRecDepth 20000 in
theorem ggX6_count_X6_fail : GoodIn wsX6_count wsX6_fail := goodIn_r _ [33, 1, 34, 35, 36, 37, 38, 39, 40, 41, 42, 43, 44, 45, 46, 47, 48] (by decide +kernel) (by decide +kernel)
set_option maxRecDepth 20000 in
theorem gX6_count_X6_fail : GoodIn wsX6_count (wsV RX6 57 RX6 yX6_fail wsX6_fail) := goodIn_app (goodIn_of _ (by decide +kernel)) ggX6_count_X6_fail
theorem dX6_count_0 : decode cX6_count 0 = .ok (.aload_n 0, 1) := by decide +kernel
theorem dX6_count_1 : decode cX6_count 1 = .ok (.iconst 0, 1) := by decide +kernel
theorem dX6_count_2 : decode cX6_count 2 = .ok (.putfield 42, 3) := by decide +kernel
theorem dX6_count_5 : decode cX6_count 5 = .ok (.iload_n 1, 1) := by decide +kernel
theorem dX6_count_6 : decode cX6_count 6 = .ok (.iconst 0, 1) := by decide +kernel
theorem dX6_count_7 : decode cX6_count 7 = .ok (.bipush 12, 2) := by decide +kernel
theorem dX6_count_9 : decode cX6_count 9 = .ok (.invokestatic 45, 3) := by decide +kernel
theorem dX6_count_12 : decode cX6_count 12 = .ok (.ifCond .eq 11, 3) := by decide +kernel
theorem dX6_count_15 : decode cX6_count 15 = .ok (.aload_n 0, 1) := by decide +kernel
theorem dX6_count_16 : decode cX6_count 16 = .ok (.iload_n 1, 1) := by decide +kernel
theorem dX6_count_17 : decode cX6_count 17 = .ok (.invokevirtual 146, 3) := by decide +kernel
theorem dX6_count_20 : decode cX6_count 20 = .ok (.goto 8, 3) := by decide +kernel
theorem dX6_count_23 : decode cX6_count 23 = .ok (.aload_n 0, 1) := by decide +kernel
theorem dX6_count_24 : decode cX6_count 24 = .ok (.iconst 1, 1) := by decide +kernel
theorem dX6_count_25 : decode cX6_count 25 = .ok (.invokevirtual 57, 3) := by decide +kernel
theorem dX6_count_28 : decode cX6_count 28 = .ok (.ireturn, 1) := by decide +kernel
set_option maxRecDepth 20000 in
theorem ggX6_binFor_X6_isOne : GoodIn wsX6_binFor wsX6_isOne := goodIn_r _ [6, 7, 8, 9, 5, 10, 44, 45, 46, 47, 48, 49, 50, 51, 52, 53, 54, 55, 56, 57, 58] (by decide +kernel) (by decide +kernel)
set_option maxRecDepth 20000 in
theorem gX6_binFor_X6_isOne : GoodIn wsX6_binFor (wsV RX6 79 RX6 yX6_isOne wsX6_isOne) := goodIn_app (goodIn_of _ (by decide +kernel)) ggX6_binFor_X6_isOne
set_option maxRecDepth 20000 in
theorem ggX6_binFor_X6_binOf : GoodIn wsX6_binFor wsX6_binOf := goodIn_r _ [14, 15, 16, 17, 18, 19, 20, 21, 22, 23, 5, 24, 25, 26, 27, 28, 29, 30, 31, 32, 33, 34, 35, 36, 37, 38, 39, 44, 45, 46, 47, 48, 49, 50, 51, 52, 53, 54, 55, 56, 57, 58] (by decide +kernel) (by decide +kernel)
set_option maxRecDepth 20000 in
theorem gX6_binFor_X6_binOf : GoodIn wsX6_binFor (wsV RX6 123 RX6 yX6_binOf wsX6_binOf) := goodIn_app (goodIn_of _ (by decide +kernel)) ggX6_binFor_X6_binOf
set_option maxRecDepth 20000 in
theorem ggX6_binFor_X6_fail : GoodIn wsX6_binFor wsX6_fail := goodIn_r _ [43, 1, 44, 45, 46, 47, 48, 49, 50, 51, 52, 53, 54, 55, 56, 57, 58] (by decide +kernel) (by decide +kernel)
set_option maxRecDepth 20000 in
theorem gX6_binFor_X6_fail : GoodIn wsX6_binFor (wsV RX6 57 RX6 yX6_fail wsX6_fail) := goodIn_app (goodIn_of _ (by decide +kernel)) ggX6_binFor_X6_fail
theorem dX6_binFor_0 : decode cX6_binFor 0 = .ok (.aload_n 0, 1) := by decide +kernel
theorem dX6_binFor_1 : decode cX6_binFor 1 = .ok (.iconst 0, 1) := by decide +kernel
theorem dX6_binFor_2 : decode cX6_binFor 2 = .ok (.putfield 42, 3) := by decide +kernel
theorem dX6_binFor_5 : decode cX6_binFor 5 = .ok (.aload_n 0, 1) := by decide +kernel
theorem dX6_binFor_6 : decode cX6_binFor 6 = .ok (.iload_n 1, 1) := by decide +kernel
theorem dX6_binFor_7 : decode cX6_binFor 7 = .ok (.invokevirtual 79, 3) := by decide +kernel
theorem dX6_binFor_10 : decode cX6_binFor 10 = .ok (.ifCond .eq 11, 3) := by decide +kernel
theorem dX6_binFor_13 : decode cX6_binFor 13 = .ok (.aload_n 0, 1) := by decide +kernel
theorem dX6_binFor_14 : decode cX6_binFor 14 = .ok (.iload_n 1, 1) := by decide +kernel
theorem dX6_binFor_15 : decode cX6_binFor 15 = .ok (.invokevirtual 123, 3) := by decide +kernel
theorem dX6_binFor_18 : decode cX6_binFor 18 = .ok (.goto 8, 3) := by decide +kernel
theorem dX6_binFor_21 : decode cX6_binFor 21 = .ok (.aload_n 0, 1) := by decide +kernel
theorem dX6_binFor_22 : decode cX6_binFor 22 = .ok (.iconst 1, 1) := by decide +kernel
theorem dX6_binFor_23 : decode cX6_binFor 23 = .ok (.invokevirtual 57, 3) := by decide +kernel
theorem dX6_binFor_26 : decode cX6_binFor 26 = .ok (.ireturn, 1) := by decide +kernel
set_option maxRecDepth 20000 in
theorem ggX6_ahead_X6_passOne : GoodIn wsX6_ahead wsX6_passOne := goodIn_r _ [15, 1, 2, 16, 17, 18, 19, 20, 21, 22, 23, 14, 24, 25, 26, 27, 28, 29, 30, 31, 32, 33, 34, 9, 35, 36, 37, 38, 39, 40, 41, 42, 43, 44, 45, 46, 47, 48, 49, 50, 51, 52, 53, 54, 55, 3, 56, 57, 58, 59, 60, 61, 62, 63, 64, 5, 6, 7, 8, 65, 66, 67, 68, 69, 70, 71, 72, 73, 74, 75, 76, 77, 78, 79, 80, 81, 82, 83, 84, 85, 86, 91, 92, 93, 94, 95, 96, 97, 98, 99, 100, 101, 102, 103, 104, 105] (by decide +kernel) (by decide +kernel)
set_option maxRecDepth 20000 in
theorem gX6_ahead_X6_passOne : GoodIn wsX6_ahead (wsV RX6 143 RX6 yX6_passOne wsX6_passOne) := goodIn_app (goodIn_of _ (by decide +kernel)) ggX6_ahead_X6_passOne
set_option maxRecDepth 20000 in
theorem ggX6_ahead_X6_many : GoodIn wsX6_ahead wsX6_many := goodIn_r _ [90, 2, 27, 28, 29, 14, 30, 31, 32, 33, 34, 9, 91, 92, 93, 94, 95, 96, 97, 98, 99, 100, 101, 102, 103, 104, 105] (by decide +kernel) (by decide +kernel)
set_option maxRecDepth 20000 in
theorem gX6_ahead_X6_many : GoodIn wsX6_ahead (wsV RX6 140 RX6 yX6_many wsX6_many) := goodIn_app (goodIn_of _ (by decide +kernel)) ggX6_ahead_X6_many
set_option maxRecDepth 20000 in
theorem ggX6_ahead_X6_get : GoodIn wsX6_ahead wsX6_get := goodIn_r _ [34, 9, 91, 92, 93, 94, 95, 96, 97, 98, 99, 100, 101, 102, 103, 104, 105] (by decide +kernel) (by decide +kernel)
set_option maxRecDepth 20000 in
theorem gX6_ahead_X6_get : GoodIn wsX6_ahead (wsV RX6 49 RX6 yX6_get wsX6_get) := goodIn_app (goodIn_of _ (by decide +kernel)) ggX6_ahead_X6_get
theorem dX6_ahead_0 : decode cX6_ahead 0 = .ok (.aload_n 0, 1) := by decide +kernel
theorem dX6_ahead_1 : decode cX6_ahead 1 = .ok (.getfield 96, 3) := by decide +kernel
theorem dX6_ahead_4 : decode cX6_ahead 4 = .ok (.istore 4, 2) := by decide +kernel
theorem dX6_ahead_6 : decode cX6_ahead 6 = .ok (.aload_n 0, 1) := by decide +kernel
theorem dX6_ahead_7 : decode cX6_ahead 7 = .ok (.getfield 70, 3) := by decide +kernel
theorem dX6_ahead_10 : decode cX6_ahead 10 = .ok (.istore 5, 2) := by decide +kernel
theorem dX6_ahead_12 : decode cX6_ahead 12 = .ok (.aload_n 0, 1) := by decide +kernel
theorem dX6_ahead_13 : decode cX6_ahead 13 = .ok (.getfield 20, 3) := by decide +kernel
theorem dX6_ahead_16 : decode cX6_ahead 16 = .ok (.iconst 0, 1) := by decide +kernel
theorem dX6_ahead_17 : decode cX6_ahead 17 = .ok (.aload_n 0, 1) := by decide +kernel
theorem dX6_ahead_18 : decode cX6_ahead 18 = .ok (.getfield 32, 3) := by decide +kernel
theorem dX6_ahead_21 : decode cX6_ahead 21 = .ok (.iconst 0, 1) := by decide +kernel
theorem dX6_ahead_22 : decode cX6_ahead 22 = .ok (.aload_n 0, 1) := by decide +kernel
theorem dX6_ahead_23 : decode cX6_ahead 23 = .ok (.getfield 20, 3) := by decide +kernel
theorem dX6_ahead_26 : decode cX6_ahead 26 = .ok (.arraylength, 1) := by decide +kernel
theorem dX6_ahead_27 : decode cX6_ahead 27 = .ok (.invokestatic 73, 3) := by decide +kernel
theorem dX6_ahead_30 : decode cX6_ahead 30 = .ok (.aload_n 0, 1) := by decide +kernel
theorem dX6_ahead_31 : decode cX6_ahead 31 = .ok (.getfield 23, 3) := by decide +kernel
theorem dX6_ahead_34 : decode cX6_ahead 34 = .ok (.iconst 0, 1) := by decide +kernel
theorem dX6_ahead_35 : decode cX6_ahead 35 = .ok (.aload_n 0, 1) := by decide +kernel
theorem dX6_ahead_36 : decode cX6_ahead 36 = .ok (.getfield 35, 3) := by decide +kernel
theorem dX6_ahead_39 : decode cX6_ahead 39 = .ok (.iconst 0, 1) := by decide +kernel
theorem dX6_ahead_40 : decode cX6_ahead 40 = .ok (.aload_n 0, 1) := by decide +kernel
theorem dX6_ahead_41 : decode cX6_ahead 41 = .ok (.getfield 23, 3) := by decide +kernel
theorem dX6_ahead_44 : decode cX6_ahead 44 = .ok (.arraylength, 1) := by decide +kernel
theorem dX6_ahead_45 : decode cX6_ahead 45 = .ok (.invokestatic 73, 3) := by decide +kernel
theorem dX6_ahead_48 : decode cX6_ahead 48 = .ok (.iconst 0, 1) := by decide +kernel
theorem dX6_ahead_49 : decode cX6_ahead 49 = .ok (.istore 6, 2) := by decide +kernel
theorem dX6_ahead_51 : decode cX6_ahead 51 = .ok (.iload 6, 2) := by decide +kernel
theorem dX6_ahead_53 : decode cX6_ahead 53 = .ok (.iload_n 1, 1) := by decide +kernel
theorem dX6_ahead_54 : decode cX6_ahead 54 = .ok (.if_icmp .ge 13, 3) := by decide +kernel
theorem dX6_ahead_57 : decode cX6_ahead 57 = .ok (.aload_n 0, 1) := by decide +kernel
theorem dX6_ahead_58 : decode cX6_ahead 58 = .ok (.invokevirtual 143, 3) := by decide +kernel
theorem dX6_ahead_61 : decode cX6_ahead 61 = .ok (.iinc 6 1, 3) := by decide +kernel
theorem dX6_ahead_64 : decode cX6_ahead 64 = .ok (.goto (-13), 3) := by decide +kernel
theorem dX6_ahead_67 : decode cX6_ahead 67 = .ok (.iload_n 3, 1) := by decide +kernel
theorem dX6_ahead_68 : decode cX6_ahead 68 = .ok (.iconst (-1), 1) := by decide +kernel
theorem dX6_ahead_69 : decode cX6_ahead 69 = .ok (.if_icmp .ne 11, 3) := by decide +kernel
theorem dX6_ahead_72 : decode cX6_ahead 72 = .ok (.aload_n 0, 1) := by decide +kernel
theorem dX6_ahead_73 : decode cX6_ahead 73 = .ok (.iload_n 2, 1) := by decide +kernel
theorem dX6_ahead_74 : decode cX6_ahead 74 = .ok (.invokevirtual 140, 3) := by decide +kernel
theorem dX6_ahead_77 : decode cX6_ahead 77 = .ok (.goto 9, 3) := by decide +kernel
theorem dX6_ahead_80 : decode cX6_ahead 80 = .ok (.aload_n 0, 1) := by decide +kernel
theorem dX6_ahead_81 : decode cX6_ahead 81 = .ok (.iload_n 3, 1) := by decide +kernel
theorem dX6_ahead_82 : decode cX6_ahead 82 = .ok (.iconst 3, 1) := by decide +kernel
theorem dX6_ahead_83 : decode cX6_ahead 83 = .ok (.invokevirtual 49, 3) := by decide +kernel
theorem dX6_ahead_86 : decode cX6_ahead 86 = .ok (.istore 6, 2) := by decide +kernel
theorem dX6_ahead_88 : decode cX6_ahead 88 = .ok (.aload_n 0, 1) := by decide +kernel
theorem dX6_ahead_89 : decode cX6_ahead 89 = .ok (.getfield 32, 3) := by decide +kernel
theorem dX6_ahead_92 : decode cX6_ahead 92 = .ok (.iconst 0, 1) := by decide +kernel
theorem dX6_ahead_93 : decode cX6_ahead 93 = .ok (.aload_n 0, 1) := by decide +kernel
theorem dX6_ahead_94 : decode cX6_ahead 94 = .ok (.getfield 20, 3) := by decide +kernel
theorem dX6_ahead_97 : decode cX6_ahead 97 = .ok (.iconst 0, 1) := by decide +kernel
theorem dX6_ahead_98 : decode cX6_ahead 98 = .ok (.aload_n 0, 1) := by decide +kernel
theorem dX6_ahead_99 : decode cX6_ahead 99 = .ok (.getfield 20, 3) := by decide +kernel
theorem dX6_ahead_102 : decode cX6_ahead 102 = .ok (.arraylength, 1) := by decide +kernel
theorem dX6_ahead_103 : decode cX6_ahead 103 = .ok (.invokestatic 73, 3) := by decide +kernel
theorem dX6_ahead_106 : decode cX6_ahead 106 = .ok (.aload_n 0, 1) := by decide +kernel
theorem dX6_ahead_107 : decode cX6_ahead 107 = .ok (.getfield 35, 3) := by decide +kernel
theorem dX6_ahead_110 : decode cX6_ahead 110 = .ok (.iconst 0, 1) := by decide +kernel
theorem dX6_ahead_111 : decode cX6_ahead 111 = .ok (.aload_n 0, 1) := by decide +kernel
theorem dX6_ahead_112 : decode cX6_ahead 112 = .ok (.getfield 23, 3) := by decide +kernel
theorem dX6_ahead_115 : decode cX6_ahead 115 = .ok (.iconst 0, 1) := by decide +kernel
theorem dX6_ahead_116 : decode cX6_ahead 116 = .ok (.aload_n 0, 1) := by decide +kernel
theorem dX6_ahead_117 : decode cX6_ahead 117 = .ok (.getfield 23, 3) := by decide +kernel
theorem dX6_ahead_120 : decode cX6_ahead 120 = .ok (.arraylength, 1) := by decide +kernel
theorem dX6_ahead_121 : decode cX6_ahead 121 = .ok (.invokestatic 73, 3) := by decide +kernel
theorem dX6_ahead_124 : decode cX6_ahead 124 = .ok (.aload_n 0, 1) := by decide +kernel
theorem dX6_ahead_125 : decode cX6_ahead 125 = .ok (.iload 4, 2) := by decide +kernel
theorem dX6_ahead_127 : decode cX6_ahead 127 = .ok (.putfield 96, 3) := by decide +kernel
theorem dX6_ahead_130 : decode cX6_ahead 130 = .ok (.aload_n 0, 1) := by decide +kernel
theorem dX6_ahead_131 : decode cX6_ahead 131 = .ok (.iload 5, 2) := by decide +kernel
theorem dX6_ahead_133 : decode cX6_ahead 133 = .ok (.putfield 70, 3) := by decide +kernel
theorem dX6_ahead_136 : decode cX6_ahead 136 = .ok (.iload 6, 2) := by decide +kernel
theorem dX6_ahead_138 : decode cX6_ahead 138 = .ok (.ireturn, 1) := by decide +kernel
set_option maxRecDepth 20000 in
theorem ggX6_foresee_X6_isIn : GoodIn wsX6_foresee wsX6_isIn := goodIn_r _ [5] (by decide +kernel) (by decide +kernel)
set_option maxRecDepth 20000 in
theorem gX6_foresee_X6_isIn : GoodIn wsX6_foresee (va_wsS RX6 45 yX6_isIn wsX6_isIn) := goodIn_app (goodIn_of _ (by decide +kernel)) ggX6_foresee_X6_isIn
set_option maxRecDepth 20000 in
theorem ggX6_foresee_X6_fail : GoodIn wsX6_foresee wsX6_fail := goodIn_r _ [9, 1, 103, 104, 105, 106, 107, 108, 109, 110, 111, 112, 113, 114, 115, 116, 117] (by decide +kernel) (by decide +kernel)
set_option maxRecDepth 20000 in
theorem gX6_foresee_X6_fail : GoodIn wsX6_foresee (wsV RX6 57 RX6 yX6_fail wsX6_fail) := goodIn_app (goodIn_of _ (by decide +kernel)) ggX6_foresee_X6_fail
set_option maxRecDepth 20000 in
theorem ggX6_foresee_X6_ahead : GoodIn wsX6_foresee wsX6_ahead := goodIn_r _ [13, 14, 15, 16, 17, 18, 19, 20, 21, 22, 23, 24, 25, 26, 4, 27, 28, 29, 30, 31, 32, 33, 34, 35, 36, 37, 38, 39, 40, 41, 42, 43, 44, 45, 46, 47, 48, 49, 50, 51, 52, 53, 54, 55, 56, 57, 58, 59, 60, 61, 62, 63, 64, 65, 66, 67, 68, 69, 70, 71, 72, 73, 74, 75, 76, 77, 78, 79, 80, 81, 82, 83, 84, 85, 86, 87, 88, 89, 90, 91, 92, 93, 94, 95, 96, 97, 98, 99, 100, 101, 102, 103, 104, 105, 106, 107, 108, 109, 110, 111, 112, 113, 114, 115, 116, 117] (by decide +kernel) (by decide +kernel)
set_option maxRecDepth 20000 in
theorem gX6_foresee_X6_ahead : GoodIn wsX6_foresee (wsV RX6 149 RX6 yX6_ahead wsX6_ahead) := goodIn_app (goodIn_of _ (by decide +kernel)) ggX6_foresee_X6_ahead
set_option maxRecDepth 20000 in
theorem ggX6_foresee_X6_many : GoodIn wsX6_foresee wsX6_many := goodIn_r _ [102, 15, 39, 40, 41, 4, 42, 43, 44, 45, 46, 22, 103, 104, 105, 106, 107, 108, 109, 110, 111, 112, 113, 114, 115, 116, 117] (by decide +kernel) (by decide +kernel)
set_option maxRecDepth 20000 in
theorem gX6_foresee_X6_many : GoodIn wsX6_foresee (wsV RX6 140 RX6 yX6_many wsX6_many) := goodIn_app (goodIn_of _ (by decide +kernel)) ggX6_foresee_X6_many
theorem dX6_foresee_0 : decode cX6_foresee 0 = .ok (.aload_n 0, 1) := by decide +kernel
theorem dX6_foresee_1 : decode cX6_foresee 1 = .ok (.iconst 0, 1) := by decide +kernel
theorem dX6_foresee_2 : decode cX6_foresee 2 = .ok (.putfield 42, 3) := by decide +kernel
theorem dX6_foresee_5 : decode cX6_foresee 5 = .ok (.iload_n 1, 1) := by decide +kernel
theorem dX6_foresee_6 : decode cX6_foresee 6 = .ok (.iconst 1, 1) := by decide +kernel
theorem dX6_foresee_7 : decode cX6_foresee 7 = .ok (.bipush 100, 2) := by decide +kernel
theorem dX6_foresee_9 : decode cX6_foresee 9 = .ok (.invokestatic 45, 3) := by decide +kernel
theorem dX6_foresee_12 : decode cX6_foresee 12 = .ok (.ifCond .ne 9, 3) := by decide +kernel
theorem dX6_foresee_15 : decode cX6_foresee 15 = .ok (.aload_n 0, 1) := by decide +kernel
theorem dX6_foresee_16 : decode cX6_foresee 16 = .ok (.iconst 1, 1) := by decide +kernel
theorem dX6_foresee_17 : decode cX6_foresee 17 = .ok (.invokevirtual 57, 3) := by decide +kernel
theorem dX6_foresee_20 : decode cX6_foresee 20 = .ok (.ireturn, 1) := by decide +kernel
theorem dX6_foresee_21 : decode cX6_foresee 21 = .ok (.iload_n 2, 1) := by decide +kernel
theorem dX6_foresee_22 : decode cX6_foresee 22 = .ok (.iconst 0, 1) := by decide +kernel
theorem dX6_foresee_23 : decode cX6_foresee 23 = .ok (.iconst 2, 1) := by decide +kernel
theorem dX6_foresee_24 : decode cX6_foresee 24 = .ok (.invokestatic 45, 3) := by decide +kernel
theorem dX6_foresee_27 : decode cX6_foresee 27 = .ok (.ifCond .ne 9, 3) := by decide +kernel
theorem dX6_foresee_30 : decode cX6_foresee 30 = .ok (.aload_n 0, 1) := by decide +kernel
theorem dX6_foresee_31 : decode cX6_foresee 31 = .ok (.iconst 2, 1) := by decide +kernel
theorem dX6_foresee_32 : decode cX6_foresee 32 = .ok (.invokevirtual 57, 3) := by decide +kernel
theorem dX6_foresee_35 : decode cX6_foresee 35 = .ok (.ireturn, 1) := by decide +kernel
theorem dX6_foresee_36 : decode cX6_foresee 36 = .ok (.iload_n 2, 1) := by decide +kernel
theorem dX6_foresee_37 : decode cX6_foresee 37 = .ok (.ifCond .ne 7, 3) := by decide +kernel
theorem dX6_foresee_40 : decode cX6_foresee 40 = .ok (.iconst 2, 1) := by decide +kernel
theorem dX6_foresee_41 : decode cX6_foresee 41 = .ok (.goto 13, 3) := by decide +kernel
theorem dX6_foresee_44 : decode cX6_foresee 44 = .ok (.iload_n 2, 1) := by decide +kernel
theorem dX6_foresee_45 : decode cX6_foresee 45 = .ok (.iconst 1, 1) := by decide +kernel
theorem dX6_foresee_46 : decode cX6_foresee 46 = .ok (.if_icmp .ne 7, 3) := by decide +kernel
theorem dX6_foresee_49 : decode cX6_foresee 49 = .ok (.iconst 3, 1) := by decide +kernel
theorem dX6_foresee_50 : decode cX6_foresee 50 = .ok (.goto 4, 3) := by decide +kernel
theorem dX6_foresee_53 : decode cX6_foresee 53 = .ok (.iconst 5, 1) := by decide +kernel
theorem dX6_foresee_54 : decode cX6_foresee 54 = .ok (.istore_n 3, 1) := by decide +kernel
theorem dX6_foresee_55 : decode cX6_foresee 55 = .ok (.aload_n 0, 1) := by decide +kernel
theorem dX6_foresee_56 : decode cX6_foresee 56 = .ok (.iload_n 1, 1) := by decide +kernel
theorem dX6_foresee_57 : decode cX6_foresee 57 = .ok (.iload_n 3, 1) := by decide +kernel
theorem dX6_foresee_58 : decode cX6_foresee 58 = .ok (.iconst (-1), 1) := by decide +kernel
theorem dX6_foresee_59 : decode cX6_foresee 59 = .ok (.invokevirtual 149, 3) := by decide +kernel
theorem dX6_foresee_62 : decode cX6_foresee 62 = .ok (.aload_n 0, 1) := by decide +kernel
theorem dX6_foresee_63 : decode cX6_foresee 63 = .ok (.iload_n 3, 1) := by decide +kernel
theorem dX6_foresee_64 : decode cX6_foresee 64 = .ok (.invokevirtual 140, 3) := by decide +kernel
theorem dX6_foresee_67 : decode cX6_foresee 67 = .ok (.isub, 1) := by decide +kernel
theorem dX6_foresee_68 : decode cX6_foresee 68 = .ok (.ireturn, 1) := by decide +kernel
set_option maxRecDepth 20000 in
theorem ggX6_fate_X6_isLetter : GoodIn wsX6_fate wsX6_isLetter := goodIn_r _ [6, 7, 8, 9, 5, 10, 107, 108, 109, 110, 111, 112, 113, 114, 115, 116, 117, 118, 119, 120, 121] (by decide +kernel) (by decide +kernel)
set_option maxRecDepth 20000 in
theorem gX6_fate_X6_isLetter : GoodIn wsX6_fate (wsV RX6 90 RX6 yX6_isLetter wsX6_isLetter) := goodIn_app (goodIn_of _ (by decide +kernel)) ggX6_fate_X6_isLetter
set_option maxRecDepth 20000 in
theorem ggX6_fate_X6_fail : GoodIn wsX6_fate wsX6_fail := goodIn_r _ [14, 1, 107, 108, 109, 110, 111, 112, 113, 114, 115, 116, 117, 118, 119, 120, 121] (by decide +kernel) (by decide +kernel)
set_option maxRecDepth 20000 in
theorem gX6_fate_X6_fail : GoodIn wsX6_fate (wsV RX6 57 RX6 yX6_fail wsX6_fail) := goodIn_app (goodIn_of _ (by decide +kernel)) ggX6_fate_X6_fail
set_option maxRecDepth 20000 in
theorem ggX6_fate_X6_isIn : GoodIn wsX6_fate wsX6_isIn := goodIn_r _ [10] (by decide +kernel) (by decide +kernel)
set_option maxRecDepth 20000 in
theorem gX6_fate_X6_isIn : GoodIn wsX6_fate (va_wsS RX6 45 yX6_isIn wsX6_isIn) := goodIn_app (goodIn_of _ (by decide +kernel)) ggX6_fate_X6_isIn
set_option maxRecDepth 20000 in
theorem ggX6_fate_X6_ahead : GoodIn wsX6_fate wsX6_ahead := goodIn_r _ [18, 19, 7, 20, 21, 22, 23, 24, 25, 26, 27, 28, 29, 30, 5, 31, 32, 33, 34, 35, 36, 37, 38, 39, 40, 41, 42, 43, 44, 45, 46, 47, 48, 49, 50, 51, 52, 53, 54, 55, 56, 57, 58, 59, 60, 61, 62, 63, 64, 65, 66, 67, 68, 69, 70, 71, 72, 73, 74, 75, 76, 77, 78, 79, 80, 81, 82, 83, 84, 85, 86, 87, 88, 89, 90, 91, 92, 93, 94, 95, 96, 97, 98, 99, 100, 101, 102, 103, 104, 105, 106, 107, 108, 109, 110, 111, 112, 113, 114, 115, 116, 117, 118, 119, 120, 121] (by decide +kernel) (by decide +kernel)
set_option maxRecDepth 20000 in
theorem gX6_fate_X6_ahead : GoodIn wsX6_fate (wsV RX6 149 RX6 yX6_ahead wsX6_ahead) := goodIn_app (goodIn_of _ (by decide +kernel)) ggX6_fate_X6_ahead
theorem dX6_fate_0 : decode cX6_fate 0 = .ok (.aload_n 0, 1) := by decide +kernel
theorem dX6_fate_1 : decode cX6_fate 1 = .ok (.iconst 0, 1) := by decide +kernel
theorem dX6_fate_2 : decode cX6_fate 2 = .ok (.putfield 42, 3) := by decide +kernel
theorem dX6_fate_5 : decode cX6_fate 5 = .ok (.aload_n 0, 1) := by decide +kernel
theorem dX6_fate_6 : decode cX6_fate 6 = .ok (.iload_n 1, 1) := by decide +kernel
theorem dX6_fate_7 : decode cX6_fate 7 = .ok (.invokevirtual 90, 3) := by decide +kernel
theorem dX6_fate_10 : decode cX6_fate 10 = .ok (.ifCond .ne 9, 3) := by decide +kernel
theorem dX6_fate_13 : decode cX6_fate 13 = .ok (.aload_n 0, 1) := by decide +kernel
theorem dX6_fate_14 : decode cX6_fate 14 = .ok (.iconst 1, 1) := by decide +kernel
theorem dX6_fate_15 : decode cX6_fate 15 = .ok (.invokevirtual 57, 3) := by decide +kernel
theorem dX6_fate_18 : decode cX6_fate 18 = .ok (.ireturn, 1) := by decide +kernel
theorem dX6_fate_19 : decode cX6_fate 19 = .ok (.iload_n 2, 1) := by decide +kernel
theorem dX6_fate_20 : decode cX6_fate 20 = .ok (.iconst 1, 1) := by decide +kernel
theorem dX6_fate_21 : decode cX6_fate 21 = .ok (.bipush 100, 2) := by decide +kernel
theorem dX6_fate_23 : decode cX6_fate 23 = .ok (.invokestatic 45, 3) := by decide +kernel
theorem dX6_fate_26 : decode cX6_fate 26 = .ok (.ifCond .eq 13, 3) := by decide +kernel
theorem dX6_fate_29 : decode cX6_fate 29 = .ok (.aload_n 0, 1) := by decide +kernel
theorem dX6_fate_30 : decode cX6_fate 30 = .ok (.iload_n 2, 1) := by decide +kernel
theorem dX6_fate_31 : decode cX6_fate 31 = .ok (.iconst 0, 1) := by decide +kernel
theorem dX6_fate_32 : decode cX6_fate 32 = .ok (.iload_n 1, 1) := by decide +kernel
theorem dX6_fate_33 : decode cX6_fate 33 = .ok (.invokevirtual 149, 3) := by decide +kernel
theorem dX6_fate_36 : decode cX6_fate 36 = .ok (.goto 8, 3) := by decide +kernel
theorem dX6_fate_39 : decode cX6_fate 39 = .ok (.aload_n 0, 1) := by decide +kernel
theorem dX6_fate_40 : decode cX6_fate 40 = .ok (.iconst 2, 1) := by decide +kernel
theorem dX6_fate_41 : decode cX6_fate 41 = .ok (.invokevirtual 57, 3) := by decide +kernel
theorem dX6_fate_44 : decode cX6_fate 44 = .ok (.ireturn, 1) := by decide +kernel
set_option maxRecDepth 20000 in
theorem ggX6_reaches_X6_isOne : GoodIn wsX6_reaches wsX6_isOne := goodIn_r _ [8, 9, 10, 11, 7, 12, 33, 34, 35, 36, 37, 38, 39, 40, 41, 42, 43, 44, 45, 46, 47] (by decide +kernel) (by decide +kernel)
set_option maxRecDepth 20000 in
theorem gX6_reaches_X6_isOne : GoodIn wsX6_reaches (wsV RX6 79 RX6 yX6_isOne wsX6_isOne) := goodIn_app (goodIn_of _ (by decide +kernel)) ggX6_reaches_X6_isOne
set_option maxRecDepth 20000 in
theorem ggX6_reaches_X6_isIn : GoodIn wsX6_reaches wsX6_isIn := goodIn_r _ [12] (by decide +kernel) (by decide +kernel)
set_option maxRecDepth 20000 in
theorem gX6_reaches_X6_isIn : GoodIn wsX6_reaches (va_wsS RX6 45 yX6_isIn wsX6_isIn) := goodIn_app (goodIn_of _ (by decide +kernel)) ggX6_reaches_X6_isIn
set_option maxRecDepth 20000 in
theorem ggX6_reaches_X6_fail : GoodIn wsX6_reaches wsX6_fail := goodIn_r _ [16, 1, 33, 34, 35, 36, 37, 38, 39, 40, 41, 42, 43, 44, 45, 46, 47] (by decide +kernel) (by decide +kernel)
set_option maxRecDepth 20000 in
theorem gX6_reaches_X6_fail : GoodIn wsX6_reaches (wsV RX6 57 RX6 yX6_fail wsX6_fail) := goodIn_app (goodIn_of _ (by decide +kernel)) ggX6_reaches_X6_fail
set_option maxRecDepth 20000 in
theorem ggX6_reaches_X6_tideOf : GoodIn wsX6_reaches wsX6_tideOf := goodIn_r _ [20, 21, 22, 33, 34, 35, 36, 37, 38, 39, 40, 41, 42, 43, 44, 45, 46, 47] (by decide +kernel) (by decide +kernel)
set_option maxRecDepth 20000 in
theorem gX6_reaches_X6_tideOf : GoodIn wsX6_reaches (wsV RX6 61 RX6 yX6_tideOf wsX6_tideOf) := goodIn_app (goodIn_of _ (by decide +kernel)) ggX6_reaches_X6_tideOf
set_option maxRecDepth 20000 in
theorem ggX6_reaches_X6_isUnder : GoodIn wsX6_reaches wsX6_isUnder := goodIn_r _ [26, 27, 33, 34, 35, 36, 37, 38, 39, 40, 41, 42, 43, 44, 45, 46, 47] (by decide +kernel) (by decide +kernel)
set_option maxRecDepth 20000 in
theorem gX6_reaches_X6_isUnder : GoodIn wsX6_reaches (wsV RX6 99 RX6 yX6_isUnder wsX6_isUnder) := goodIn_app (goodIn_of _ (by decide +kernel)) ggX6_reaches_X6_isUnder
set_option maxRecDepth 20000 in
theorem ggX6_reaches_X6_one : GoodIn wsX6_reaches wsX6_one := goodIn_r _ [31, 32, 33, 34, 35, 36, 37, 38, 39, 40, 41, 42, 43, 44, 45, 46, 47] (by decide +kernel) (by decide +kernel)
set_option maxRecDepth 20000 in
theorem gX6_reaches_X6_one : GoodIn wsX6_reaches (wsV RX6 105 RX6 yX6_one wsX6_one) := goodIn_app (goodIn_of _ (by decide +kernel)) ggX6_reaches_X6_one
theorem dX6_reaches_0 : decode cX6_reaches 0 = .ok (.aload_n 0, 1) := by decide +kernel
theorem dX6_reaches_1 : decode cX6_reaches 1 = .ok (.iconst 0, 1) := by decide +kernel
theorem dX6_reaches_2 : decode cX6_reaches 2 = .ok (.putfield 42, 3) := by decide +kernel
theorem dX6_reaches_5 : decode cX6_reaches 5 = .ok (.aload_n 0, 1) := by decide +kernel
theorem dX6_reaches_6 : decode cX6_reaches 6 = .ok (.iload_n 1, 1) := by decide +kernel
theorem dX6_reaches_7 : decode cX6_reaches 7 = .ok (.invokevirtual 79, 3) := by decide +kernel
theorem dX6_reaches_10 : decode cX6_reaches 10 = .ok (.ifCond .eq 17, 3) := by decide +kernel
theorem dX6_reaches_13 : decode cX6_reaches 13 = .ok (.iload_n 2, 1) := by decide +kernel
theorem dX6_reaches_14 : decode cX6_reaches 14 = .ok (.iconst 0, 1) := by decide +kernel
theorem dX6_reaches_15 : decode cX6_reaches 15 = .ok (.aload_n 0, 1) := by decide +kernel
theorem dX6_reaches_16 : decode cX6_reaches 16 = .ok (.getfield 64, 3) := by decide +kernel
theorem dX6_reaches_19 : decode cX6_reaches 19 = .ok (.iconst 1, 1) := by decide +kernel
theorem dX6_reaches_20 : decode cX6_reaches 20 = .ok (.isub, 1) := by decide +kernel
theorem dX6_reaches_21 : decode cX6_reaches 21 = .ok (.invokestatic 45, 3) := by decide +kernel
theorem dX6_reaches_24 : decode cX6_reaches 24 = .ok (.ifCond .ne 9, 3) := by decide +kernel
theorem dX6_reaches_27 : decode cX6_reaches 27 = .ok (.aload_n 0, 1) := by decide +kernel
theorem dX6_reaches_28 : decode cX6_reaches 28 = .ok (.iconst 1, 1) := by decide +kernel
theorem dX6_reaches_29 : decode cX6_reaches 29 = .ok (.invokevirtual 57, 3) := by decide +kernel
theorem dX6_reaches_32 : decode cX6_reaches 32 = .ok (.ireturn, 1) := by decide +kernel
theorem dX6_reaches_33 : decode cX6_reaches 33 = .ok (.iconst 0, 1) := by decide +kernel
theorem dX6_reaches_34 : decode cX6_reaches 34 = .ok (.istore_n 3, 1) := by decide +kernel
theorem dX6_reaches_35 : decode cX6_reaches 35 = .ok (.aload_n 0, 1) := by decide +kernel
theorem dX6_reaches_36 : decode cX6_reaches 36 = .ok (.getfield 96, 3) := by decide +kernel
theorem dX6_reaches_39 : decode cX6_reaches 39 = .ok (.istore 4, 2) := by decide +kernel
theorem dX6_reaches_41 : decode cX6_reaches 41 = .ok (.iload 4, 2) := by decide +kernel
theorem dX6_reaches_43 : decode cX6_reaches 43 = .ok (.aload_n 0, 1) := by decide +kernel
theorem dX6_reaches_44 : decode cX6_reaches 44 = .ok (.getfield 96, 3) := by decide +kernel
theorem dX6_reaches_47 : decode cX6_reaches 47 = .ok (.sipush 200, 3) := by decide +kernel
theorem dX6_reaches_50 : decode cX6_reaches 50 = .ok (.iadd, 1) := by decide +kernel
theorem dX6_reaches_51 : decode cX6_reaches 51 = .ok (.if_icmp .ge 54, 3) := by decide +kernel
theorem dX6_reaches_54 : decode cX6_reaches 54 = .ok (.aload_n 0, 1) := by decide +kernel
theorem dX6_reaches_55 : decode cX6_reaches 55 = .ok (.iload_n 2, 1) := by decide +kernel
theorem dX6_reaches_56 : decode cX6_reaches 56 = .ok (.aload_n 0, 1) := by decide +kernel
theorem dX6_reaches_57 : decode cX6_reaches 57 = .ok (.iload 4, 2) := by decide +kernel
theorem dX6_reaches_59 : decode cX6_reaches 59 = .ok (.invokevirtual 61, 3) := by decide +kernel
theorem dX6_reaches_62 : decode cX6_reaches 62 = .ok (.invokevirtual 99, 3) := by decide +kernel
theorem dX6_reaches_65 : decode cX6_reaches 65 = .ok (.ifCond .eq 24, 3) := by decide +kernel
theorem dX6_reaches_68 : decode cX6_reaches 68 = .ok (.aload_n 0, 1) := by decide +kernel
theorem dX6_reaches_69 : decode cX6_reaches 69 = .ok (.iload 4, 2) := by decide +kernel
theorem dX6_reaches_71 : decode cX6_reaches 71 = .ok (.invokevirtual 61, 3) := by decide +kernel
theorem dX6_reaches_74 : decode cX6_reaches 74 = .ok (.aload_n 0, 1) := by decide +kernel
theorem dX6_reaches_75 : decode cX6_reaches 75 = .ok (.iload_n 1, 1) := by decide +kernel
theorem dX6_reaches_76 : decode cX6_reaches 76 = .ok (.iconst 0, 1) := by decide +kernel
theorem dX6_reaches_77 : decode cX6_reaches 77 = .ok (.invokevirtual 105, 3) := by decide +kernel
theorem dX6_reaches_80 : decode cX6_reaches 80 = .ok (.if_icmp .lt 9, 3) := by decide +kernel
theorem dX6_reaches_83 : decode cX6_reaches 83 = .ok (.iload_n 3, 1) := by decide +kernel
theorem dX6_reaches_84 : decode cX6_reaches 84 = .ok (.iconst 1, 1) := by decide +kernel
theorem dX6_reaches_85 : decode cX6_reaches 85 = .ok (.iadd, 1) := by decide +kernel
theorem dX6_reaches_86 : decode cX6_reaches 86 = .ok (.goto 4, 3) := by decide +kernel
theorem dX6_reaches_89 : decode cX6_reaches 89 = .ok (.iconst 0, 1) := by decide +kernel
theorem dX6_reaches_90 : decode cX6_reaches 90 = .ok (.istore_n 3, 1) := by decide +kernel
theorem dX6_reaches_91 : decode cX6_reaches 91 = .ok (.iload_n 3, 1) := by decide +kernel
theorem dX6_reaches_92 : decode cX6_reaches 92 = .ok (.iconst 3, 1) := by decide +kernel
theorem dX6_reaches_93 : decode cX6_reaches 93 = .ok (.if_icmp .ne 6, 3) := by decide +kernel
theorem dX6_reaches_96 : decode cX6_reaches 96 = .ok (.iload 4, 2) := by decide +kernel
theorem dX6_reaches_98 : decode cX6_reaches 98 = .ok (.ireturn, 1) := by decide +kernel
theorem dX6_reaches_99 : decode cX6_reaches 99 = .ok (.iinc 4 1, 3) := by decide +kernel
theorem dX6_reaches_102 : decode cX6_reaches 102 = .ok (.goto (-61), 3) := by decide +kernel
theorem dX6_reaches_105 : decode cX6_reaches 105 = .ok (.iconst (-1), 1) := by decide +kernel
theorem dX6_reaches_106 : decode cX6_reaches 106 = .ok (.ireturn, 1) := by decide +kernel
set_option maxRecDepth 20000 in
theorem ggX6_barnacles_X6_sumOf : GoodIn wsX6_barnacles wsX6_sumOf := goodIn_r _ [7, 8, 9, 10, 11, 6, 12, 13, 14, 15, 16, 17, 22, 23, 24, 25, 26, 27, 28, 29, 30, 31, 32, 33, 34, 35, 36] (by decide +kernel) (by decide +kernel)
set_option maxRecDepth 20000 in
theorem gX6_barnacles_X6_sumOf : GoodIn wsX6_barnacles (wsV RX6 108 RX6 yX6_sumOf wsX6_sumOf) := goodIn_app (goodIn_of _ (by decide +kernel)) ggX6_barnacles_X6_sumOf
set_option maxRecDepth 20000 in
theorem ggX6_barnacles_X6_many : GoodIn wsX6_barnacles wsX6_many := goodIn_r _ [21, 8, 9, 10, 11, 6, 12, 13, 14, 15, 16, 17, 22, 23, 24, 25, 26, 27, 28, 29, 30, 31, 32, 33, 34, 35, 36] (by decide +kernel) (by decide +kernel)
set_option maxRecDepth 20000 in
theorem gX6_barnacles_X6_many : GoodIn wsX6_barnacles (wsV RX6 140 RX6 yX6_many wsX6_many) := goodIn_app (goodIn_of _ (by decide +kernel)) ggX6_barnacles_X6_many
theorem dX6_barnacles_0 : decode cX6_barnacles 0 = .ok (.aload_n 0, 1) := by decide +kernel
theorem dX6_barnacles_1 : decode cX6_barnacles 1 = .ok (.iconst 0, 1) := by decide +kernel
theorem dX6_barnacles_2 : decode cX6_barnacles 2 = .ok (.putfield 42, 3) := by decide +kernel
theorem dX6_barnacles_5 : decode cX6_barnacles 5 = .ok (.iconst 0, 1) := by decide +kernel
theorem dX6_barnacles_6 : decode cX6_barnacles 6 = .ok (.istore_n 1, 1) := by decide +kernel
theorem dX6_barnacles_7 : decode cX6_barnacles 7 = .ok (.iconst 0, 1) := by decide +kernel
theorem dX6_barnacles_8 : decode cX6_barnacles 8 = .ok (.istore_n 2, 1) := by decide +kernel
theorem dX6_barnacles_9 : decode cX6_barnacles 9 = .ok (.iload_n 2, 1) := by decide +kernel
theorem dX6_barnacles_10 : decode cX6_barnacles 10 = .ok (.aload_n 0, 1) := by decide +kernel
theorem dX6_barnacles_11 : decode cX6_barnacles 11 = .ok (.getfield 64, 3) := by decide +kernel
theorem dX6_barnacles_14 : decode cX6_barnacles 14 = .ok (.if_icmp .ge 18, 3) := by decide +kernel
theorem dX6_barnacles_17 : decode cX6_barnacles 17 = .ok (.iload_n 1, 1) := by decide +kernel
theorem dX6_barnacles_18 : decode cX6_barnacles 18 = .ok (.aload_n 0, 1) := by decide +kernel
theorem dX6_barnacles_19 : decode cX6_barnacles 19 = .ok (.iload_n 2, 1) := by decide +kernel
theorem dX6_barnacles_20 : decode cX6_barnacles 20 = .ok (.iconst 0, 1) := by decide +kernel
theorem dX6_barnacles_21 : decode cX6_barnacles 21 = .ok (.invokevirtual 108, 3) := by decide +kernel
theorem dX6_barnacles_24 : decode cX6_barnacles 24 = .ok (.iadd, 1) := by decide +kernel
theorem dX6_barnacles_25 : decode cX6_barnacles 25 = .ok (.istore_n 1, 1) := by decide +kernel
theorem dX6_barnacles_26 : decode cX6_barnacles 26 = .ok (.iinc 2 1, 3) := by decide +kernel
theorem dX6_barnacles_29 : decode cX6_barnacles 29 = .ok (.goto (-20), 3) := by decide +kernel
theorem dX6_barnacles_32 : decode cX6_barnacles 32 = .ok (.aload_n 0, 1) := by decide +kernel
theorem dX6_barnacles_33 : decode cX6_barnacles 33 = .ok (.iconst 1, 1) := by decide +kernel
theorem dX6_barnacles_34 : decode cX6_barnacles 34 = .ok (.invokevirtual 140, 3) := by decide +kernel
theorem dX6_barnacles_37 : decode cX6_barnacles 37 = .ok (.istore_n 2, 1) := by decide +kernel
theorem dX6_barnacles_38 : decode cX6_barnacles 38 = .ok (.iload_n 2, 1) := by decide +kernel
theorem dX6_barnacles_39 : decode cX6_barnacles 39 = .ok (.ifCond .ne 7, 3) := by decide +kernel
theorem dX6_barnacles_42 : decode cX6_barnacles 42 = .ok (.dconst 0, 1) := by decide +kernel
theorem dX6_barnacles_43 : decode cX6_barnacles 43 = .ok (.goto 8, 3) := by decide +kernel
theorem dX6_barnacles_46 : decode cX6_barnacles 46 = .ok (.iload_n 1, 1) := by decide +kernel
theorem dX6_barnacles_47 : decode cX6_barnacles 47 = .ok (.i2d, 1) := by decide +kernel
theorem dX6_barnacles_48 : decode cX6_barnacles 48 = .ok (.iload_n 2, 1) := by decide +kernel
theorem dX6_barnacles_49 : decode cX6_barnacles 49 = .ok (.i2d, 1) := by decide +kernel
theorem dX6_barnacles_50 : decode cX6_barnacles 50 = .ok (.ddiv, 1) := by decide +kernel
theorem dX6_barnacles_51 : decode cX6_barnacles 51 = .ok (.dreturn, 1) := by decide +kernel
set_option maxRecDepth 20000 in
theorem ggX6_digest_X6_counted : GoodIn wsX6_digest wsX6_counted := goodIn_r _ [15, 16, 6, 7, 9, 4, 17, 18, 19, 20, 21, 14, 22, 23, 24, 25, 26, 27, 28, 29, 30, 10, 48, 49, 50, 51, 52, 53, 54, 55, 56, 57, 58, 59, 60, 61, 62] (by decide +kernel) (by decide +kernel)
set_option maxRecDepth 20000 in
theorem gX6_digest_X6_counted : GoodIn wsX6_digest (wsV RX6 146 RX6 yX6_counted wsX6_counted) := goodIn_app (goodIn_of _ (by decide +kernel)) ggX6_digest_X6_counted
set_option maxRecDepth 20000 in
theorem ggX6_digest_X6_binTold : GoodIn wsX6_digest wsX6_binTold := goodIn_r _ [34, 35, 16, 36, 37, 38, 14, 39, 9, 23, 24, 25, 26, 27, 28, 29, 30, 10, 40, 41, 42, 43, 5, 4, 44, 45, 46, 47, 48, 49, 50, 51, 52, 53, 54, 55, 56, 57, 58, 59, 60, 61, 62] (by decide +kernel) (by decide +kernel)
set_option maxRecDepth 20000 in
theorem gX6_digest_X6_binTold : GoodIn wsX6_digest (wsV RX6 112 RX6 yX6_binTold wsX6_binTold) := goodIn_app (goodIn_of _ (by decide +kernel)) ggX6_digest_X6_binTold
theorem dX6_digest_0 : decode cX6_digest 0 = .ok (.aload_n 0, 1) := by decide +kernel
theorem dX6_digest_1 : decode cX6_digest 1 = .ok (.iconst 0, 1) := by decide +kernel
theorem dX6_digest_2 : decode cX6_digest 2 = .ok (.putfield 42, 3) := by decide +kernel
theorem dX6_digest_5 : decode cX6_digest 5 = .ok (.ldc2_w 153, 3) := by decide +kernel
theorem dX6_digest_8 : decode cX6_digest 8 = .ok (.lstore_n 1, 1) := by decide +kernel
theorem dX6_digest_9 : decode cX6_digest 9 = .ok (.iconst 0, 1) := by decide +kernel
theorem dX6_digest_10 : decode cX6_digest 10 = .ok (.istore_n 3, 1) := by decide +kernel
theorem dX6_digest_11 : decode cX6_digest 11 = .ok (.iload_n 3, 1) := by decide +kernel
theorem dX6_digest_12 : decode cX6_digest 12 = .ok (.bipush 13, 2) := by decide +kernel
theorem dX6_digest_14 : decode cX6_digest 14 = .ok (.if_icmp .ge 22, 3) := by decide +kernel
theorem dX6_digest_17 : decode cX6_digest 17 = .ok (.lload_n 1, 1) := by decide +kernel
theorem dX6_digest_18 : decode cX6_digest 18 = .ok (.ldc2_w 155, 3) := by decide +kernel
theorem dX6_digest_21 : decode cX6_digest 21 = .ok (.lmul, 1) := by decide +kernel
theorem dX6_digest_22 : decode cX6_digest 22 = .ok (.aload_n 0, 1) := by decide +kernel
theorem dX6_digest_23 : decode cX6_digest 23 = .ok (.iload_n 3, 1) := by decide +kernel
theorem dX6_digest_24 : decode cX6_digest 24 = .ok (.invokevirtual 146, 3) := by decide +kernel
theorem dX6_digest_27 : decode cX6_digest 27 = .ok (.i2l, 1) := by decide +kernel
theorem dX6_digest_28 : decode cX6_digest 28 = .ok (.ladd, 1) := by decide +kernel
theorem dX6_digest_29 : decode cX6_digest 29 = .ok (.lstore_n 1, 1) := by decide +kernel
theorem dX6_digest_30 : decode cX6_digest 30 = .ok (.iinc 3 1, 3) := by decide +kernel
theorem dX6_digest_33 : decode cX6_digest 33 = .ok (.goto (-22), 3) := by decide +kernel
theorem dX6_digest_36 : decode cX6_digest 36 = .ok (.iconst 0, 1) := by decide +kernel
theorem dX6_digest_37 : decode cX6_digest 37 = .ok (.istore_n 3, 1) := by decide +kernel
theorem dX6_digest_38 : decode cX6_digest 38 = .ok (.iload_n 3, 1) := by decide +kernel
theorem dX6_digest_39 : decode cX6_digest 39 = .ok (.aload_n 0, 1) := by decide +kernel
theorem dX6_digest_40 : decode cX6_digest 40 = .ok (.getfield 7, 3) := by decide +kernel
theorem dX6_digest_43 : decode cX6_digest 43 = .ok (.if_icmp .ge 23, 3) := by decide +kernel
theorem dX6_digest_46 : decode cX6_digest 46 = .ok (.lload_n 1, 1) := by decide +kernel
theorem dX6_digest_47 : decode cX6_digest 47 = .ok (.ldc2_w 155, 3) := by decide +kernel
theorem dX6_digest_50 : decode cX6_digest 50 = .ok (.lmul, 1) := by decide +kernel
theorem dX6_digest_51 : decode cX6_digest 51 = .ok (.aload_n 0, 1) := by decide +kernel
theorem dX6_digest_52 : decode cX6_digest 52 = .ok (.getfield 13, 3) := by decide +kernel
theorem dX6_digest_55 : decode cX6_digest 55 = .ok (.iload_n 3, 1) := by decide +kernel
theorem dX6_digest_56 : decode cX6_digest 56 = .ok (.iaload, 1) := by decide +kernel
theorem dX6_digest_57 : decode cX6_digest 57 = .ok (.i2l, 1) := by decide +kernel
theorem dX6_digest_58 : decode cX6_digest 58 = .ok (.ladd, 1) := by decide +kernel
theorem dX6_digest_59 : decode cX6_digest 59 = .ok (.lstore_n 1, 1) := by decide +kernel
theorem dX6_digest_60 : decode cX6_digest 60 = .ok (.iinc 3 1, 3) := by decide +kernel
theorem dX6_digest_63 : decode cX6_digest 63 = .ok (.goto (-25), 3) := by decide +kernel
theorem dX6_digest_66 : decode cX6_digest 66 = .ok (.iconst 0, 1) := by decide +kernel
theorem dX6_digest_67 : decode cX6_digest 67 = .ok (.istore_n 3, 1) := by decide +kernel
theorem dX6_digest_68 : decode cX6_digest 68 = .ok (.iload_n 3, 1) := by decide +kernel
theorem dX6_digest_69 : decode cX6_digest 69 = .ok (.aload_n 0, 1) := by decide +kernel
theorem dX6_digest_70 : decode cX6_digest 70 = .ok (.getfield 64, 3) := by decide +kernel
theorem dX6_digest_73 : decode cX6_digest 73 = .ok (.if_icmp .ge 39, 3) := by decide +kernel
theorem dX6_digest_76 : decode cX6_digest 76 = .ok (.iconst 0, 1) := by decide +kernel
theorem dX6_digest_77 : decode cX6_digest 77 = .ok (.istore 4, 2) := by decide +kernel
theorem dX6_digest_79 : decode cX6_digest 79 = .ok (.iload 4, 2) := by decide +kernel
theorem dX6_digest_81 : decode cX6_digest 81 = .ok (.iconst 5, 1) := by decide +kernel
theorem dX6_digest_82 : decode cX6_digest 82 = .ok (.if_icmp .ge 24, 3) := by decide +kernel
theorem dX6_digest_85 : decode cX6_digest 85 = .ok (.lload_n 1, 1) := by decide +kernel
theorem dX6_digest_86 : decode cX6_digest 86 = .ok (.ldc2_w 155, 3) := by decide +kernel
theorem dX6_digest_89 : decode cX6_digest 89 = .ok (.lmul, 1) := by decide +kernel
theorem dX6_digest_90 : decode cX6_digest 90 = .ok (.aload_n 0, 1) := by decide +kernel
theorem dX6_digest_91 : decode cX6_digest 91 = .ok (.iload_n 3, 1) := by decide +kernel
theorem dX6_digest_92 : decode cX6_digest 92 = .ok (.iload 4, 2) := by decide +kernel
theorem dX6_digest_94 : decode cX6_digest 94 = .ok (.invokevirtual 112, 3) := by decide +kernel
theorem dX6_digest_97 : decode cX6_digest 97 = .ok (.i2l, 1) := by decide +kernel
theorem dX6_digest_98 : decode cX6_digest 98 = .ok (.ladd, 1) := by decide +kernel
theorem dX6_digest_99 : decode cX6_digest 99 = .ok (.lstore_n 1, 1) := by decide +kernel
theorem dX6_digest_100 : decode cX6_digest 100 = .ok (.iinc 4 1, 3) := by decide +kernel
theorem dX6_digest_103 : decode cX6_digest 103 = .ok (.goto (-24), 3) := by decide +kernel
theorem dX6_digest_106 : decode cX6_digest 106 = .ok (.iinc 3 1, 3) := by decide +kernel
theorem dX6_digest_109 : decode cX6_digest 109 = .ok (.goto (-41), 3) := by decide +kernel
theorem dX6_digest_112 : decode cX6_digest 112 = .ok (.iconst 0, 1) := by decide +kernel
theorem dX6_digest_113 : decode cX6_digest 113 = .ok (.istore_n 3, 1) := by decide +kernel
theorem dX6_digest_114 : decode cX6_digest 114 = .ok (.iload_n 3, 1) := by decide +kernel
theorem dX6_digest_115 : decode cX6_digest 115 = .ok (.iconst 5, 1) := by decide +kernel
theorem dX6_digest_116 : decode cX6_digest 116 = .ok (.aload_n 0, 1) := by decide +kernel
theorem dX6_digest_117 : decode cX6_digest 117 = .ok (.getfield 67, 3) := by decide +kernel
theorem dX6_digest_120 : decode cX6_digest 120 = .ok (.imul, 1) := by decide +kernel
theorem dX6_digest_121 : decode cX6_digest 121 = .ok (.if_icmp .ge 23, 3) := by decide +kernel
theorem dX6_digest_124 : decode cX6_digest 124 = .ok (.lload_n 1, 1) := by decide +kernel
theorem dX6_digest_125 : decode cX6_digest 125 = .ok (.ldc2_w 155, 3) := by decide +kernel
theorem dX6_digest_128 : decode cX6_digest 128 = .ok (.lmul, 1) := by decide +kernel
theorem dX6_digest_129 : decode cX6_digest 129 = .ok (.aload_n 0, 1) := by decide +kernel
theorem dX6_digest_130 : decode cX6_digest 130 = .ok (.getfield 20, 3) := by decide +kernel
theorem dX6_digest_133 : decode cX6_digest 133 = .ok (.iload_n 3, 1) := by decide +kernel
theorem dX6_digest_134 : decode cX6_digest 134 = .ok (.iaload, 1) := by decide +kernel
theorem dX6_digest_135 : decode cX6_digest 135 = .ok (.i2l, 1) := by decide +kernel
theorem dX6_digest_136 : decode cX6_digest 136 = .ok (.ladd, 1) := by decide +kernel
theorem dX6_digest_137 : decode cX6_digest 137 = .ok (.lstore_n 1, 1) := by decide +kernel
theorem dX6_digest_138 : decode cX6_digest 138 = .ok (.iinc 3 1, 3) := by decide +kernel
theorem dX6_digest_141 : decode cX6_digest 141 = .ok (.goto (-27), 3) := by decide +kernel
theorem dX6_digest_144 : decode cX6_digest 144 = .ok (.iconst 0, 1) := by decide +kernel
theorem dX6_digest_145 : decode cX6_digest 145 = .ok (.istore_n 3, 1) := by decide +kernel
theorem dX6_digest_146 : decode cX6_digest 146 = .ok (.iload_n 3, 1) := by decide +kernel
theorem dX6_digest_147 : decode cX6_digest 147 = .ok (.bipush 9, 2) := by decide +kernel
theorem dX6_digest_149 : decode cX6_digest 149 = .ok (.aload_n 0, 1) := by decide +kernel
theorem dX6_digest_150 : decode cX6_digest 150 = .ok (.getfield 70, 3) := by decide +kernel
theorem dX6_digest_153 : decode cX6_digest 153 = .ok (.imul, 1) := by decide +kernel
theorem dX6_digest_154 : decode cX6_digest 154 = .ok (.if_icmp .ge 23, 3) := by decide +kernel
theorem dX6_digest_157 : decode cX6_digest 157 = .ok (.lload_n 1, 1) := by decide +kernel
theorem dX6_digest_158 : decode cX6_digest 158 = .ok (.ldc2_w 155, 3) := by decide +kernel
theorem dX6_digest_161 : decode cX6_digest 161 = .ok (.lmul, 1) := by decide +kernel
theorem dX6_digest_162 : decode cX6_digest 162 = .ok (.aload_n 0, 1) := by decide +kernel
theorem dX6_digest_163 : decode cX6_digest 163 = .ok (.getfield 23, 3) := by decide +kernel
theorem dX6_digest_166 : decode cX6_digest 166 = .ok (.iload_n 3, 1) := by decide +kernel
theorem dX6_digest_167 : decode cX6_digest 167 = .ok (.iaload, 1) := by decide +kernel
theorem dX6_digest_168 : decode cX6_digest 168 = .ok (.i2l, 1) := by decide +kernel
theorem dX6_digest_169 : decode cX6_digest 169 = .ok (.ladd, 1) := by decide +kernel
theorem dX6_digest_170 : decode cX6_digest 170 = .ok (.lstore_n 1, 1) := by decide +kernel
theorem dX6_digest_171 : decode cX6_digest 171 = .ok (.iinc 3 1, 3) := by decide +kernel
theorem dX6_digest_174 : decode cX6_digest 174 = .ok (.goto (-28), 3) := by decide +kernel
theorem dX6_digest_177 : decode cX6_digest 177 = .ok (.lload_n 1, 1) := by decide +kernel
theorem dX6_digest_178 : decode cX6_digest 178 = .ok (.lreturn, 1) := by decide +kernel
