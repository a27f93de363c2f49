theorem dX11_made_164 : decode cX11_made 164 = .ok (.aload_n 0, 1) := by decide +kernel
theorem dX11_made_165 : decode cX11_made 165 = .ok (.getfield 151, 3) := by decide +kernel
theorem dX11_made_168 : decode cX11_made 168 = .ok (.if_icmp .ge 37, 3) := by decide +kernel
theorem dX11_made_171 : decode cX11_made 171 = .ok (.iload_n 1, 1) := by decide +kernel
theorem dX11_made_172 : decode cX11_made 172 = .ok (.aload_n 0, 1) := by decide +kernel
theorem dX11_made_173 : decode cX11_made 173 = .ok (.getfield 24, 3) := by decide +kernel
theorem dX11_made_176 : decode cX11_made 176 = .ok (.iload_n 2, 1) := by decide +kernel
theorem dX11_made_177 : decode cX11_made 177 = .ok (.iaload, 1) := by decide +kernel
theorem dX11_made_178 : decode cX11_made 178 = .ok (.if_icmp .le 21, 3) := by decide +kernel
theorem dX11_made_181 : decode cX11_made 181 = .ok (.aload_n 0, 1) := by decide +kernel
theorem dX11_made_182 : decode cX11_made 182 = .ok (.getfield 27, 3) := by decide +kernel
theorem dX11_made_185 : decode cX11_made 185 = .ok (.iload_n 1, 1) := by decide +kernel
theorem dX11_made_186 : decode cX11_made 186 = .ok (.aload_n 0, 1) := by decide +kernel
theorem dX11_made_187 : decode cX11_made 187 = .ok (.getfield 24, 3) := by decide +kernel
theorem dX11_made_190 : decode cX11_made 190 = .ok (.iload_n 2, 1) := by decide +kernel
theorem dX11_made_191 : decode cX11_made 191 = .ok (.iaload, 1) := by decide +kernel
theorem dX11_made_192 : decode cX11_made 192 = .ok (.isub, 1) := by decide +kernel
theorem dX11_made_193 : decode cX11_made 193 = .ok (.baload, 1) := by decide +kernel
theorem dX11_made_194 : decode cX11_made 194 = .ok (.ifCond .eq 5, 3) := by decide +kernel
theorem dX11_made_197 : decode cX11_made 197 = .ok (.iconst 3, 1) := by decide +kernel
theorem dX11_made_198 : decode cX11_made 198 = .ok (.ireturn, 1) := by decide +kernel
theorem dX11_made_199 : decode cX11_made 199 = .ok (.iinc 2 1, 3) := by decide +kernel
theorem dX11_made_202 : decode cX11_made 202 = .ok (.goto (-39), 3) := by decide +kernel
theorem dX11_made_205 : decode cX11_made 205 = .ok (.iconst 1, 1) := by decide +kernel
theorem dX11_made_206 : decode cX11_made 206 = .ok (.istore_n 2, 1) := by decide +kernel
theorem dX11_made_207 : decode cX11_made 207 = .ok (.iload_n 2, 1) := by decide +kernel
theorem dX11_made_208 : decode cX11_made 208 = .ok (.iload_n 1, 1) := by decide +kernel
theorem dX11_made_209 : decode cX11_made 209 = .ok (.if_icmp .ge 31, 3) := by decide +kernel
theorem dX11_made_212 : decode cX11_made 212 = .ok (.aload_n 0, 1) := by decide +kernel
theorem dX11_made_213 : decode cX11_made 213 = .ok (.getfield 27, 3) := by decide +kernel
theorem dX11_made_216 : decode cX11_made 216 = .ok (.iload_n 2, 1) := by decide +kernel
theorem dX11_made_217 : decode cX11_made 217 = .ok (.baload, 1) := by decide +kernel
theorem dX11_made_218 : decode cX11_made 218 = .ok (.ifCond .eq 16, 3) := by decide +kernel
theorem dX11_made_221 : decode cX11_made 221 = .ok (.aload_n 0, 1) := by decide +kernel
theorem dX11_made_222 : decode cX11_made 222 = .ok (.getfield 27, 3) := by decide +kernel
theorem dX11_made_225 : decode cX11_made 225 = .ok (.iload_n 1, 1) := by decide +kernel
theorem dX11_made_226 : decode cX11_made 226 = .ok (.iload_n 2, 1) := by decide +kernel
theorem dX11_made_227 : decode cX11_made 227 = .ok (.isub, 1) := by decide +kernel
theorem dX11_made_228 : decode cX11_made 228 = .ok (.baload, 1) := by decide +kernel
theorem dX11_made_229 : decode cX11_made 229 = .ok (.ifCond .eq 5, 3) := by decide +kernel
theorem dX11_made_232 : decode cX11_made 232 = .ok (.iconst 4, 1) := by decide +kernel
theorem dX11_made_233 : decode cX11_made 233 = .ok (.ireturn, 1) := by decide +kernel
theorem dX11_made_234 : decode cX11_made 234 = .ok (.iinc 2 1, 3) := by decide +kernel
theorem dX11_made_237 : decode cX11_made 237 = .ok (.goto (-30), 3) := by decide +kernel
theorem dX11_made_240 : decode cX11_made 240 = .ok (.bipush (-4), 2) := by decide +kernel
theorem dX11_made_242 : decode cX11_made 242 = .ok (.ireturn, 1) := by decide +kernel
set_option maxRecDepth 20000 in
theorem ggX11_moved_X11_in : GoodIn wsX11_moved wsX11_in := goodIn_r _ [10] (by decide +kernel) (by decide +kernel)
set_option maxRecDepth 20000 in
theorem gX11_moved_X11_in : GoodIn wsX11_moved (va_wsS RX11 57 yX11_in wsX11_in) := goodIn_app (goodIn_of _ (by decide +kernel)) ggX11_moved_X11_in
set_option maxRecDepth 20000 in
theorem ggX11_moved_X11_power : GoodIn wsX11_moved wsX11_power := goodIn_r _ [14, 5, 15, 16, 17, 18, 19, 20, 21, 22, 23, 24, 25, 26, 27, 28, 29, 30, 31, 32, 33, 34, 35, 36, 37, 38] (by decide +kernel) (by decide +kernel)
set_option maxRecDepth 20000 in
theorem gX11_moved_X11_power : GoodIn wsX11_moved (wsV RX11 132 RX11 yX11_power wsX11_power) := goodIn_app (goodIn_of _ (by decide +kernel)) ggX11_moved_X11_power
theorem dX11_moved_0 : decode cX11_moved 0 = .ok (.iload_n 1, 1) := by decide +kernel
theorem dX11_moved_1 : decode cX11_moved 1 = .ok (.i2l, 1) := by decide +kernel
theorem dX11_moved_2 : decode cX11_moved 2 = .ok (.ldc2_w 53, 3) := by decide +kernel
theorem dX11_moved_5 : decode cX11_moved 5 = .ok (.ldc2_w 154, 3) := by decide +kernel
theorem dX11_moved_8 : decode cX11_moved 8 = .ok (.invokestatic 57, 3) := by decide +kernel
theorem dX11_moved_11 : decode cX11_moved 11 = .ok (.ifCond .eq 33, 3) := by decide +kernel
theorem dX11_moved_14 : decode cX11_moved 14 = .ok (.iload_n 2, 1) := by decide +kernel
theorem dX11_moved_15 : decode cX11_moved 15 = .ok (.i2l, 1) := by decide +kernel
theorem dX11_moved_16 : decode cX11_moved 16 = .ok (.lconst 1, 1) := by decide +kernel
theorem dX11_moved_17 : decode cX11_moved 17 = .ok (.ldc2_w 61, 3) := by decide +kernel
theorem dX11_moved_20 : decode cX11_moved 20 = .ok (.invokestatic 57, 3) := by decide +kernel
theorem dX11_moved_23 : decode cX11_moved 23 = .ok (.ifCond .eq 21, 3) := by decide +kernel
theorem dX11_moved_26 : decode cX11_moved 26 = .ok (.iload_n 3, 1) := by decide +kernel
theorem dX11_moved_27 : decode cX11_moved 27 = .ok (.i2l, 1) := by decide +kernel
theorem dX11_moved_28 : decode cX11_moved 28 = .ok (.lconst 1, 1) := by decide +kernel
theorem dX11_moved_29 : decode cX11_moved 29 = .ok (.ldc2_w 61, 3) := by decide +kernel
theorem dX11_moved_32 : decode cX11_moved 32 = .ok (.invokestatic 57, 3) := by decide +kernel
theorem dX11_moved_35 : decode cX11_moved 35 = .ok (.ifCond .eq 9, 3) := by decide +kernel
theorem dX11_moved_38 : decode cX11_moved 38 = .ok (.iload 4, 2) := by decide +kernel
theorem dX11_moved_40 : decode cX11_moved 40 = .ok (.iconst (-1), 1) := by decide +kernel
theorem dX11_moved_41 : decode cX11_moved 41 = .ok (.if_icmp .ge 7, 3) := by decide +kernel
theorem dX11_moved_44 : decode cX11_moved 44 = .ok (.ldc2_w 95, 3) := by decide +kernel
theorem dX11_moved_47 : decode cX11_moved 47 = .ok (.lreturn, 1) := by decide +kernel
theorem dX11_moved_48 : decode cX11_moved 48 = .ok (.aload_n 0, 1) := by decide +kernel
theorem dX11_moved_49 : decode cX11_moved 49 = .ok (.iload_n 1, 1) := by decide +kernel
theorem dX11_moved_50 : decode cX11_moved 50 = .ok (.iconst 1, 1) := by decide +kernel
theorem dX11_moved_51 : decode cX11_moved 51 = .ok (.isub, 1) := by decide +kernel
theorem dX11_moved_52 : decode cX11_moved 52 = .ok (.invokevirtual 132, 3) := by decide +kernel
theorem dX11_moved_55 : decode cX11_moved 55 = .ok (.lstore 5, 2) := by decide +kernel
theorem dX11_moved_57 : decode cX11_moved 57 = .ok (.iload_n 2, 1) := by decide +kernel
theorem dX11_moved_58 : decode cX11_moved 58 = .ok (.i2l, 1) := by decide +kernel
theorem dX11_moved_59 : decode cX11_moved 59 = .ok (.aload_n 0, 1) := by decide +kernel
theorem dX11_moved_60 : decode cX11_moved 60 = .ok (.getfield 7, 3) := by decide +kernel
theorem dX11_moved_63 : decode cX11_moved 63 = .ok (.i2l, 1) := by decide +kernel
theorem dX11_moved_64 : decode cX11_moved 64 = .ok (.lmul, 1) := by decide +kernel
theorem dX11_moved_65 : decode cX11_moved 65 = .ok (.iload_n 3, 1) := by decide +kernel
theorem dX11_moved_66 : decode cX11_moved 66 = .ok (.i2l, 1) := by decide +kernel
theorem dX11_moved_67 : decode cX11_moved 67 = .ok (.lsub, 1) := by decide +kernel
theorem dX11_moved_68 : decode cX11_moved 68 = .ok (.lstore 7, 2) := by decide +kernel
theorem dX11_moved_70 : decode cX11_moved 70 = .ok (.iconst 0, 1) := by decide +kernel
theorem dX11_moved_71 : decode cX11_moved 71 = .ok (.istore 9, 2) := by decide +kernel
theorem dX11_moved_73 : decode cX11_moved 73 = .ok (.iconst 1, 1) := by decide +kernel
theorem dX11_moved_74 : decode cX11_moved 74 = .ok (.istore 10, 2) := by decide +kernel
theorem dX11_moved_76 : decode cX11_moved 76 = .ok (.iload 10, 2) := by decide +kernel
theorem dX11_moved_78 : decode cX11_moved 78 = .ok (.aload_n 0, 1) := by decide +kernel
theorem dX11_moved_79 : decode cX11_moved 79 = .ok (.getfield 7, 3) := by decide +kernel
theorem dX11_moved_82 : decode cX11_moved 82 = .ok (.if_icmp .ge 113, 3) := by decide +kernel
theorem dX11_moved_85 : decode cX11_moved 85 = .ok (.iload 10, 2) := by decide +kernel
theorem dX11_moved_87 : decode cX11_moved 87 = .ok (.i2l, 1) := by decide +kernel
theorem dX11_moved_88 : decode cX11_moved 88 = .ok (.iload_n 3, 1) := by decide +kernel
theorem dX11_moved_89 : decode cX11_moved 89 = .ok (.i2l, 1) := by decide +kernel
theorem dX11_moved_90 : decode cX11_moved 90 = .ok (.lload 5, 2) := by decide +kernel
theorem dX11_moved_92 : decode cX11_moved 92 = .ok (.lmul, 1) := by decide +kernel
theorem dX11_moved_93 : decode cX11_moved 93 = .ok (.iload_n 2, 1) := by decide +kernel
theorem dX11_moved_94 : decode cX11_moved 94 = .ok (.i2l, 1) := by decide +kernel
theorem dX11_moved_95 : decode cX11_moved 95 = .ok (.lsub, 1) := by decide +kernel
theorem dX11_moved_96 : decode cX11_moved 96 = .ok (.lmul, 1) := by decide +kernel
theorem dX11_moved_97 : decode cX11_moved 97 = .ok (.lstore 11, 2) := by decide +kernel
theorem dX11_moved_99 : decode cX11_moved 99 = .ok (.lload 7, 2) := by decide +kernel
theorem dX11_moved_101 : decode cX11_moved 101 = .ok (.lconst 0, 1) := by decide +kernel
theorem dX11_moved_102 : decode cX11_moved 102 = .ok (.lcmp, 1) := by decide +kernel
theorem dX11_moved_103 : decode cX11_moved 103 = .ok (.ifCond .eq 40, 3) := by decide +kernel
theorem dX11_moved_106 : decode cX11_moved 106 = .ok (.lload 11, 2) := by decide +kernel
theorem dX11_moved_108 : decode cX11_moved 108 = .ok (.lload 7, 2) := by decide +kernel
theorem dX11_moved_110 : decode cX11_moved 110 = .ok (.lrem, 1) := by decide +kernel
theorem dX11_moved_111 : decode cX11_moved 111 = .ok (.lconst 0, 1) := by decide +kernel
theorem dX11_moved_112 : decode cX11_moved 112 = .ok (.lcmp, 1) := by decide +kernel
theorem dX11_moved_113 : decode cX11_moved 113 = .ok (.ifCond .ne 30, 3) := by decide +kernel
theorem dX11_moved_116 : decode cX11_moved 116 = .ok (.lload 11, 2) := by decide +kernel
theorem dX11_moved_118 : decode cX11_moved 118 = .ok (.lload 7, 2) := by decide +kernel
theorem dX11_moved_120 : decode cX11_moved 120 = .ok (.ldiv, 1) := by decide +kernel
theorem dX11_moved_121 : decode cX11_moved 121 = .ok (.lload 5, 2) := by decide +kernel
theorem dX11_moved_123 : decode cX11_moved 123 = .ok (.aload_n 0, 1) := by decide +kernel
theorem dX11_moved_124 : decode cX11_moved 124 = .ok (.getfield 7, 3) := by decide +kernel
theorem dX11_moved_127 : decode cX11_moved 127 = .ok (.i2l, 1) := by decide +kernel
theorem dX11_moved_128 : decode cX11_moved 128 = .ok (.ldiv, 1) := by decide +kernel
theorem dX11_moved_129 : decode cX11_moved 129 = .ok (.lload 5, 2) := by decide +kernel
theorem dX11_moved_131 : decode cX11_moved 131 = .ok (.lconst 1, 1) := by decide +kernel
theorem dX11_moved_132 : decode cX11_moved 132 = .ok (.lsub, 1) := by decide +kernel
theorem dX11_moved_133 : decode cX11_moved 133 = .ok (.invokestatic 57, 3) := by decide +kernel
theorem dX11_moved_136 : decode cX11_moved 136 = .ok (.ifCond .eq 7, 3) := by decide +kernel
theorem dX11_moved_139 : decode cX11_moved 139 = .ok (.iconst 1, 1) := by decide +kernel
theorem dX11_moved_140 : decode cX11_moved 140 = .ok (.goto 4, 3) := by decide +kernel
theorem dX11_moved_143 : decode cX11_moved 143 = .ok (.iconst 0, 1) := by decide +kernel
theorem dX11_moved_144 : decode cX11_moved 144 = .ok (.istore 13, 2) := by decide +kernel
theorem dX11_moved_146 : decode cX11_moved 146 = .ok (.iload 13, 2) := by decide +kernel
theorem dX11_moved_148 : decode cX11_moved 148 = .ok (.ifCond .eq 26, 3) := by decide +kernel
theorem dX11_moved_151 : decode cX11_moved 151 = .ok (.iload 9, 2) := by decide +kernel
theorem dX11_moved_153 : decode cX11_moved 153 = .ok (.iload 4, 2) := by decide +kernel
theorem dX11_moved_155 : decode cX11_moved 155 = .ok (.if_icmp .ne 19, 3) := by decide +kernel
theorem dX11_moved_158 : decode cX11_moved 158 = .ok (.lload 11, 2) := by decide +kernel
theorem dX11_moved_160 : decode cX11_moved 160 = .ok (.lload 7, 2) := by decide +kernel
theorem dX11_moved_162 : decode cX11_moved 162 = .ok (.ldiv, 1) := by decide +kernel
theorem dX11_moved_163 : decode cX11_moved 163 = .ok (.aload_n 0, 1) := by decide +kernel
theorem dX11_moved_164 : decode cX11_moved 164 = .ok (.getfield 7, 3) := by decide +kernel
theorem dX11_moved_167 : decode cX11_moved 167 = .ok (.i2l, 1) := by decide +kernel
theorem dX11_moved_168 : decode cX11_moved 168 = .ok (.lmul, 1) := by decide +kernel
theorem dX11_moved_169 : decode cX11_moved 169 = .ok (.iload 10, 2) := by decide +kernel
theorem dX11_moved_171 : decode cX11_moved 171 = .ok (.i2l, 1) := by decide +kernel
theorem dX11_moved_172 : decode cX11_moved 172 = .ok (.ladd, 1) := by decide +kernel
theorem dX11_moved_173 : decode cX11_moved 173 = .ok (.lreturn, 1) := by decide +kernel
theorem dX11_moved_174 : decode cX11_moved 174 = .ok (.iload 9, 2) := by decide +kernel
theorem dX11_moved_176 : decode cX11_moved 176 = .ok (.iload 13, 2) := by decide +kernel
theorem dX11_moved_178 : decode cX11_moved 178 = .ok (.ifCond .eq 7, 3) := by decide +kernel
theorem dX11_moved_181 : decode cX11_moved 181 = .ok (.iconst 1, 1) := by decide +kernel
theorem dX11_moved_182 : decode cX11_moved 182 = .ok (.goto 4, 3) := by decide +kernel
theorem dX11_moved_185 : decode cX11_moved 185 = .ok (.iconst 0, 1) := by decide +kernel
theorem dX11_moved_186 : decode cX11_moved 186 = .ok (.iadd, 1) := by decide +kernel
theorem dX11_moved_187 : decode cX11_moved 187 = .ok (.istore 9, 2) := by decide +kernel
theorem dX11_moved_189 : decode cX11_moved 189 = .ok (.iinc 10 1, 3) := by decide +kernel
theorem dX11_moved_192 : decode cX11_moved 192 = .ok (.goto (-116), 3) := by decide +kernel
theorem dX11_moved_195 : decode cX11_moved 195 = .ok (.iload 4, 2) := by decide +kernel
theorem dX11_moved_197 : decode cX11_moved 197 = .ok (.iconst (-1), 1) := by decide +kernel
theorem dX11_moved_198 : decode cX11_moved 198 = .ok (.if_icmp .ne 9, 3) := by decide +kernel
theorem dX11_moved_201 : decode cX11_moved 201 = .ok (.iload 9, 2) := by decide +kernel
theorem dX11_moved_203 : decode cX11_moved 203 = .ok (.i2l, 1) := by decide +kernel
theorem dX11_moved_204 : decode cX11_moved 204 = .ok (.goto 6, 3) := by decide +kernel
theorem dX11_moved_207 : decode cX11_moved 207 = .ok (.ldc2_w 111, 3) := by decide +kernel
theorem dX11_moved_210 : decode cX11_moved 210 = .ok (.lreturn, 1) := by decide +kernel
theorem dX11_beside_0 : decode cX11_beside 0 = .ok (.aload_n 0, 1) := by decide +kernel
theorem dX11_beside_1 : decode cX11_beside 1 = .ok (.getfield 156, 3) := by decide +kernel
theorem dX11_beside_4 : decode cX11_beside 4 = .ok (.iload_n 2, 1) := by decide +kernel
theorem dX11_beside_5 : decode cX11_beside 5 = .ok (.ishr, 1) := by decide +kernel
theorem dX11_beside_6 : decode cX11_beside 6 = .ok (.iconst 1, 1) := by decide +kernel
theorem dX11_beside_7 : decode cX11_beside 7 = .ok (.iand, 1) := by decide +kernel
theorem dX11_beside_8 : decode cX11_beside 8 = .ok (.ifCond .ne 6, 3) := by decide +kernel
theorem dX11_beside_11 : decode cX11_beside 11 = .ok (.bipush (-4), 2) := by decide +kernel
theorem dX11_beside_13 : decode cX11_beside 13 = .ok (.ireturn, 1) := by decide +kernel
theorem dX11_beside_14 : decode cX11_beside 14 = .ok (.aload_n 0, 1) := by decide +kernel
theorem dX11_beside_15 : decode cX11_beside 15 = .ok (.getfield 159, 3) := by decide +kernel
theorem dX11_beside_18 : decode cX11_beside 18 = .ok (.ifCond .ne 7, 3) := by decide +kernel
theorem dX11_beside_21 : decode cX11_beside 21 = .ok (.iconst 0, 1) := by decide +kernel
theorem dX11_beside_22 : decode cX11_beside 22 = .ok (.goto 27, 3) := by decide +kernel
theorem dX11_beside_25 : decode cX11_beside 25 = .ok (.aload_n 0, 1) := by decide +kernel
theorem dX11_beside_26 : decode cX11_beside 26 = .ok (.getfield 159, 3) := by decide +kernel
theorem dX11_beside_29 : decode cX11_beside 29 = .ok (.iconst 1, 1) := by decide +kernel
theorem dX11_beside_30 : decode cX11_beside 30 = .ok (.if_icmp .ne 16, 3) := by decide +kernel
theorem dX11_beside_33 : decode cX11_beside 33 = .ok (.iload_n 1, 1) := by decide +kernel
theorem dX11_beside_34 : decode cX11_beside 34 = .ok (.iconst 1, 1) := by decide +kernel
theorem dX11_beside_35 : decode cX11_beside 35 = .ok (.aload_n 0, 1) := by decide +kernel
theorem dX11_beside_36 : decode cX11_beside 36 = .ok (.getfield 41, 3) := by decide +kernel
theorem dX11_beside_39 : decode cX11_beside 39 = .ok (.iload_n 2, 1) := by decide +kernel
theorem dX11_beside_40 : decode cX11_beside 40 = .ok (.iaload, 1) := by decide +kernel
theorem dX11_beside_41 : decode cX11_beside 41 = .ok (.ishl, 1) := by decide +kernel
theorem dX11_beside_42 : decode cX11_beside 42 = .ok (.ior, 1) := by decide +kernel
theorem dX11_beside_43 : decode cX11_beside 43 = .ok (.goto 6, 3) := by decide +kernel
theorem dX11_beside_46 : decode cX11_beside 46 = .ok (.iload_n 1, 1) := by decide +kernel
theorem dX11_beside_47 : decode cX11_beside 47 = .ok (.iload_n 2, 1) := by decide +kernel
theorem dX11_beside_48 : decode cX11_beside 48 = .ok (.iadd, 1) := by decide +kernel
theorem dX11_beside_49 : decode cX11_beside 49 = .ok (.istore_n 3, 1) := by decide +kernel
theorem dX11_beside_50 : decode cX11_beside 50 = .ok (.iload_n 3, 1) := by decide +kernel
theorem dX11_beside_51 : decode cX11_beside 51 = .ok (.aload_n 0, 1) := by decide +kernel
theorem dX11_beside_52 : decode cX11_beside 52 = .ok (.getfield 162, 3) := by decide +kernel
theorem dX11_beside_55 : decode cX11_beside 55 = .ok (.if_icmp .ge 7, 3) := by decide +kernel
theorem dX11_beside_58 : decode cX11_beside 58 = .ok (.iload_n 3, 1) := by decide +kernel
theorem dX11_beside_59 : decode cX11_beside 59 = .ok (.goto 5, 3) := by decide +kernel
theorem dX11_beside_62 : decode cX11_beside 62 = .ok (.bipush (-4), 2) := by decide +kernel
theorem dX11_beside_64 : decode cX11_beside 64 = .ok (.ireturn, 1) := by decide +kernel
theorem dX11_meet_0 : decode cX11_meet 0 = .ok (.aload_n 0, 1) := by decide +kernel
theorem dX11_meet_1 : decode cX11_meet 1 = .ok (.getfield 32, 3) := by decide +kernel
theorem dX11_meet_4 : decode cX11_meet 4 = .ok (.iload_n 1, 1) := by decide +kernel
theorem dX11_meet_5 : decode cX11_meet 5 = .ok (.iaload, 1) := by decide +kernel
theorem dX11_meet_6 : decode cX11_meet 6 = .ok (.bipush (-4), 2) := by decide +kernel
theorem dX11_meet_8 : decode cX11_meet 8 = .ok (.if_icmp .ne 37, 3) := by decide +kernel
theorem dX11_meet_11 : decode cX11_meet 11 = .ok (.aload_n 0, 1) := by decide +kernel
theorem dX11_meet_12 : decode cX11_meet 12 = .ok (.getfield 32, 3) := by decide +kernel
theorem dX11_meet_15 : decode cX11_meet 15 = .ok (.iload_n 1, 1) := by decide +kernel
theorem dX11_meet_16 : decode cX11_meet 16 = .ok (.iload_n 2, 1) := by decide +kernel
theorem dX11_meet_17 : decode cX11_meet 17 = .ok (.iastore, 1) := by decide +kernel
theorem dX11_meet_18 : decode cX11_meet 18 = .ok (.aload_n 0, 1) := by decide +kernel
theorem dX11_meet_19 : decode cX11_meet 19 = .ok (.getfield 35, 3) := by decide +kernel
theorem dX11_meet_22 : decode cX11_meet 22 = .ok (.iload_n 1, 1) := by decide +kernel
theorem dX11_meet_23 : decode cX11_meet 23 = .ok (.iload_n 3, 1) := by decide +kernel
theorem dX11_meet_24 : decode cX11_meet 24 = .ok (.iastore, 1) := by decide +kernel
theorem dX11_meet_25 : decode cX11_meet 25 = .ok (.aload_n 0, 1) := by decide +kernel
theorem dX11_meet_26 : decode cX11_meet 26 = .ok (.getfield 38, 3) := by decide +kernel
theorem dX11_meet_29 : decode cX11_meet 29 = .ok (.aload_n 0, 1) := by decide +kernel
theorem dX11_meet_30 : decode cX11_meet 30 = .ok (.getfield 165, 3) := by decide +kernel
theorem dX11_meet_33 : decode cX11_meet 33 = .ok (.iload_n 1, 1) := by decide +kernel
theorem dX11_meet_34 : decode cX11_meet 34 = .ok (.iastore, 1) := by decide +kernel
theorem dX11_meet_35 : decode cX11_meet 35 = .ok (.aload_n 0, 1) := by decide +kernel
theorem dX11_meet_36 : decode cX11_meet 36 = .ok (.dup, 1) := by decide +kernel
theorem dX11_meet_37 : decode cX11_meet 37 = .ok (.getfield 165, 3) := by decide +kernel
theorem dX11_meet_40 : decode cX11_meet 40 = .ok (.iconst 1, 1) := by decide +kernel
theorem dX11_meet_41 : decode cX11_meet 41 = .ok (.iadd, 1) := by decide +kernel
theorem dX11_meet_42 : decode cX11_meet 42 = .ok (.putfield 165, 3) := by decide +kernel
theorem dX11_meet_45 : decode cX11_meet 45 = .ok (.return_, 1) := by decide +kernel
set_option maxRecDepth 20000 in
theorem ggX11_search_X11_beside : GoodIn wsX11_search wsX11_beside := goodIn_r _ [11, 12, 13, 14, 1, 20, 21, 22, 23, 24, 25, 26, 27, 28, 29, 30, 31, 32, 33, 34, 35, 36, 37, 38, 39, 40, 41, 42, 43] (by decide +kernel) (by decide +kernel)
set_option maxRecDepth 20000 in
theorem gX11_search_X11_beside : GoodIn wsX11_search (wsV RX11 168 RX11 yX11_beside wsX11_beside) := goodIn_app (goodIn_of _ (by decide +kernel)) ggX11_search_X11_beside
set_option maxRecDepth 20000 in
theorem ggX11_search_X11_meet : GoodIn wsX11_search wsX11_meet := goodIn_r _ [18, 2, 19, 6, 3, 20, 21, 22, 23, 24, 25, 26, 27, 28, 29, 30, 31, 32, 33, 34, 35, 36, 37, 38, 39, 40, 41, 42, 43] (by decide +kernel) (by decide +kernel)
set_option maxRecDepth 20000 in
theorem gX11_search_X11_meet : GoodIn wsX11_search (wsV RX11 172 RX11 yX11_meet wsX11_meet) := goodIn_app (goodIn_of _ (by decide +kernel)) ggX11_search_X11_meet
theorem dX11_search_0 : decode cX11_search 0 = .ok (.iconst 0, 1) := by decide +kernel
theorem dX11_search_1 : decode cX11_search 1 = .ok (.istore_n 2, 1) := by decide +kernel
theorem dX11_search_2 : decode cX11_search 2 = .ok (.iload_n 2, 1) := by decide +kernel
theorem dX11_search_3 : decode cX11_search 3 = .ok (.iload_n 1, 1) := by decide +kernel
theorem dX11_search_4 : decode cX11_search 4 = .ok (.aload_n 0, 1) := by decide +kernel
theorem dX11_search_5 : decode cX11_search 5 = .ok (.getfield 162, 3) := by decide +kernel
theorem dX11_search_8 : decode cX11_search 8 = .ok (.imul, 1) := by decide +kernel
theorem dX11_search_9 : decode cX11_search 9 = .ok (.if_icmp .ge 17, 3) := by decide +kernel
theorem dX11_search_12 : decode cX11_search 12 = .ok (.aload_n 0, 1) := by decide +kernel
theorem dX11_search_13 : decode cX11_search 13 = .ok (.getfield 32, 3) := by decide +kernel
theorem dX11_search_16 : decode cX11_search 16 = .ok (.iload_n 2, 1) := by decide +kernel
theorem dX11_search_17 : decode cX11_search 17 = .ok (.bipush (-4), 2) := by decide +kernel
theorem dX11_search_19 : decode cX11_search 19 = .ok (.iastore, 1) := by decide +kernel
theorem dX11_search_20 : decode cX11_search 20 = .ok (.iinc 2 1, 3) := by decide +kernel
theorem dX11_search_23 : decode cX11_search 23 = .ok (.goto (-21), 3) := by decide +kernel
theorem dX11_search_26 : decode cX11_search 26 = .ok (.aload_n 0, 1) := by decide +kernel
theorem dX11_search_27 : decode cX11_search 27 = .ok (.iconst 0, 1) := by decide +kernel
theorem dX11_search_28 : decode cX11_search 28 = .ok (.putfield 165, 3) := by decide +kernel
theorem dX11_search_31 : decode cX11_search 31 = .ok (.iconst 1, 1) := by decide +kernel
theorem dX11_search_32 : decode cX11_search 32 = .ok (.istore_n 2, 1) := by decide +kernel
theorem dX11_search_33 : decode cX11_search 33 = .ok (.iload_n 2, 1) := by decide +kernel
theorem dX11_search_34 : decode cX11_search 34 = .ok (.aload_n 0, 1) := by decide +kernel
theorem dX11_search_35 : decode cX11_search 35 = .ok (.getfield 7, 3) := by decide +kernel
theorem dX11_search_38 : decode cX11_search 38 = .ok (.if_icmp .ge 39, 3) := by decide +kernel
theorem dX11_search_41 : decode cX11_search 41 = .ok (.aload_n 0, 1) := by decide +kernel
theorem dX11_search_42 : decode cX11_search 42 = .ok (.iconst 0, 1) := by decide +kernel
theorem dX11_search_43 : decode cX11_search 43 = .ok (.iload_n 2, 1) := by decide +kernel
theorem dX11_search_44 : decode cX11_search 44 = .ok (.invokevirtual 168, 3) := by decide +kernel
theorem dX11_search_47 : decode cX11_search 47 = .ok (.istore_n 3, 1) := by decide +kernel
theorem dX11_search_48 : decode cX11_search 48 = .ok (.iload_n 3, 1) := by decide +kernel
theorem dX11_search_49 : decode cX11_search 49 = .ok (.bipush (-4), 2) := by decide +kernel
theorem dX11_search_51 : decode cX11_search 51 = .ok (.if_icmp .eq 20, 3) := by decide +kernel
theorem dX11_search_54 : decode cX11_search 54 = .ok (.aload_n 0, 1) := by decide +kernel
theorem dX11_search_55 : decode cX11_search 55 = .ok (.iload_n 2, 1) := by decide +kernel
theorem dX11_search_56 : decode cX11_search 56 = .ok (.iload_n 1, 1) := by decide +kernel
theorem dX11_search_57 : decode cX11_search 57 = .ok (.irem, 1) := by decide +kernel
theorem dX11_search_58 : decode cX11_search 58 = .ok (.aload_n 0, 1) := by decide +kernel
theorem dX11_search_59 : decode cX11_search 59 = .ok (.getfield 162, 3) := by decide +kernel
theorem dX11_search_62 : decode cX11_search 62 = .ok (.imul, 1) := by decide +kernel
theorem dX11_search_63 : decode cX11_search 63 = .ok (.iload_n 3, 1) := by decide +kernel
theorem dX11_search_64 : decode cX11_search 64 = .ok (.iadd, 1) := by decide +kernel
theorem dX11_search_65 : decode cX11_search 65 = .ok (.bipush (-2), 2) := by decide +kernel
theorem dX11_search_67 : decode cX11_search 67 = .ok (.iload_n 2, 1) := by decide +kernel
theorem dX11_search_68 : decode cX11_search 68 = .ok (.invokevirtual 172, 3) := by decide +kernel
theorem dX11_search_71 : decode cX11_search 71 = .ok (.iinc 2 1, 3) := by decide +kernel
theorem dX11_search_74 : decode cX11_search 74 = .ok (.goto (-41), 3) := by decide +kernel
theorem dX11_search_77 : decode cX11_search 77 = .ok (.iconst 0, 1) := by decide +kernel
theorem dX11_search_78 : decode cX11_search 78 = .ok (.istore_n 2, 1) := by decide +kernel
theorem dX11_search_79 : decode cX11_search 79 = .ok (.iload_n 2, 1) := by decide +kernel
theorem dX11_search_80 : decode cX11_search 80 = .ok (.aload_n 0, 1) := by decide +kernel
theorem dX11_search_81 : decode cX11_search 81 = .ok (.getfield 165, 3) := by decide +kernel
theorem dX11_search_84 : decode cX11_search 84 = .ok (.if_icmp .ge 103, 3) := by decide +kernel
theorem dX11_search_87 : decode cX11_search 87 = .ok (.aload_n 0, 1) := by decide +kernel
theorem dX11_search_88 : decode cX11_search 88 = .ok (.getfield 32, 3) := by decide +kernel
theorem dX11_search_91 : decode cX11_search 91 = .ok (.aload_n 0, 1) := by decide +kernel
theorem dX11_search_92 : decode cX11_search 92 = .ok (.getfield 176, 3) := by decide +kernel
theorem dX11_search_95 : decode cX11_search 95 = .ok (.iaload, 1) := by decide +kernel
theorem dX11_search_96 : decode cX11_search 96 = .ok (.bipush (-4), 2) := by decide +kernel
theorem dX11_search_98 : decode cX11_search 98 = .ok (.if_icmp .ne 89, 3) := by decide +kernel
theorem dX11_search_101 : decode cX11_search 101 = .ok (.iconst 0, 1) := by decide +kernel
theorem dX11_search_102 : decode cX11_search 102 = .ok (.istore_n 3, 1) := by decide +kernel
theorem dX11_search_103 : decode cX11_search 103 = .ok (.iload_n 3, 1) := by decide +kernel
theorem dX11_search_104 : decode cX11_search 104 = .ok (.aload_n 0, 1) := by decide +kernel
theorem dX11_search_105 : decode cX11_search 105 = .ok (.getfield 7, 3) := by decide +kernel
theorem dX11_search_108 : decode cX11_search 108 = .ok (.if_icmp .ge 73, 3) := by decide +kernel
theorem dX11_search_111 : decode cX11_search 111 = .ok (.aload_n 0, 1) := by decide +kernel
theorem dX11_search_112 : decode cX11_search 112 = .ok (.aload_n 0, 1) := by decide +kernel
theorem dX11_search_113 : decode cX11_search 113 = .ok (.getfield 38, 3) := by decide +kernel
theorem dX11_search_116 : decode cX11_search 116 = .ok (.iload_n 2, 1) := by decide +kernel
theorem dX11_search_117 : decode cX11_search 117 = .ok (.iaload, 1) := by decide +kernel
theorem dX11_search_118 : decode cX11_search 118 = .ok (.aload_n 0, 1) := by decide +kernel
theorem dX11_search_119 : decode cX11_search 119 = .ok (.getfield 162, 3) := by decide +kernel
theorem dX11_search_122 : decode cX11_search 122 = .ok (.irem, 1) := by decide +kernel
theorem dX11_search_123 : decode cX11_search 123 = .ok (.iload_n 3, 1) := by decide +kernel
theorem dX11_search_124 : decode cX11_search 124 = .ok (.invokevirtual 168, 3) := by decide +kernel
theorem dX11_search_127 : decode cX11_search 127 = .ok (.istore 4, 2) := by decide +kernel
theorem dX11_search_129 : decode cX11_search 129 = .ok (.iload 4, 2) := by decide +kernel
theorem dX11_search_131 : decode cX11_search 131 = .ok (.bipush (-4), 2) := by decide +kernel
theorem dX11_search_133 : decode cX11_search 133 = .ok (.if_icmp .eq 42, 3) := by decide +kernel
theorem dX11_search_136 : decode cX11_search 136 = .ok (.aload_n 0, 1) := by decide +kernel
theorem dX11_search_137 : decode cX11_search 137 = .ok (.aload_n 0, 1) := by decide +kernel
theorem dX11_search_138 : decode cX11_search 138 = .ok (.getfield 38, 3) := by decide +kernel
theorem dX11_search_141 : decode cX11_search 141 = .ok (.iload_n 2, 1) := by decide +kernel
theorem dX11_search_142 : decode cX11_search 142 = .ok (.iaload, 1) := by decide +kernel
theorem dX11_search_143 : decode cX11_search 143 = .ok (.aload_n 0, 1) := by decide +kernel
theorem dX11_search_144 : decode cX11_search 144 = .ok (.getfield 162, 3) := by decide +kernel
theorem dX11_search_147 : decode cX11_search 147 = .ok (.idiv, 1) := by decide +kernel
theorem dX11_search_148 : decode cX11_search 148 = .ok (.aload_n 0, 1) := by decide +kernel
theorem dX11_search_149 : decode cX11_search 149 = .ok (.getfield 7, 3) := by decide +kernel
theorem dX11_search_152 : decode cX11_search 152 = .ok (.imul, 1) := by decide +kernel
theorem dX11_search_153 : decode cX11_search 153 = .ok (.iload_n 3, 1) := by decide +kernel
theorem dX11_search_154 : decode cX11_search 154 = .ok (.iadd, 1) := by decide +kernel
theorem dX11_search_155 : decode cX11_search 155 = .ok (.iload_n 1, 1) := by decide +kernel
theorem dX11_search_156 : decode cX11_search 156 = .ok (.irem, 1) := by decide +kernel
theorem dX11_search_157 : decode cX11_search 157 = .ok (.aload_n 0, 1) := by decide +kernel
theorem dX11_search_158 : decode cX11_search 158 = .ok (.getfield 162, 3) := by decide +kernel
theorem dX11_search_161 : decode cX11_search 161 = .ok (.imul, 1) := by decide +kernel
theorem dX11_search_162 : decode cX11_search 162 = .ok (.iload 4, 2) := by decide +kernel
theorem dX11_search_164 : decode cX11_search 164 = .ok (.iadd, 1) := by decide +kernel
theorem dX11_search_165 : decode cX11_search 165 = .ok (.aload_n 0, 1) := by decide +kernel
theorem dX11_search_166 : decode cX11_search 166 = .ok (.getfield 38, 3) := by decide +kernel
theorem dX11_search_169 : decode cX11_search 169 = .ok (.iload_n 2, 1) := by decide +kernel
theorem dX11_search_170 : decode cX11_search 170 = .ok (.iaload, 1) := by decide +kernel
theorem dX11_search_171 : decode cX11_search 171 = .ok (.iload_n 3, 1) := by decide +kernel
theorem dX11_search_172 : decode cX11_search 172 = .ok (.invokevirtual 172, 3) := by decide +kernel
theorem dX11_search_175 : decode cX11_search 175 = .ok (.iinc 3 1, 3) := by decide +kernel
theorem dX11_search_178 : decode cX11_search 178 = .ok (.goto (-75), 3) := by decide +kernel
theorem dX11_search_181 : decode cX11_search 181 = .ok (.iinc 2 1, 3) := by decide +kernel
theorem dX11_search_184 : decode cX11_search 184 = .ok (.goto (-105), 3) := by decide +kernel
theorem dX11_search_187 : decode cX11_search 187 = .ok (.aload_n 0, 1) := by decide +kernel
theorem dX11_search_188 : decode cX11_search 188 = .ok (.getfield 32, 3) := by decide +kernel
theorem dX11_search_191 : decode cX11_search 191 = .ok (.aload_n 0, 1) := by decide +kernel
theorem dX11_search_192 : decode cX11_search 192 = .ok (.getfield 176, 3) := by decide +kernel
theorem dX11_search_195 : decode cX11_search 195 = .ok (.iaload, 1) := by decide +kernel
theorem dX11_search_196 : decode cX11_search 196 = .ok (.bipush (-4), 2) := by decide +kernel
theorem dX11_search_198 : decode cX11_search 198 = .ok (.if_icmp .ne 8, 3) := by decide +kernel
theorem dX11_search_201 : decode cX11_search 201 = .ok (.bipush (-4), 2) := by decide +kernel
theorem dX11_search_203 : decode cX11_search 203 = .ok (.goto 7, 3) := by decide +kernel
theorem dX11_search_206 : decode cX11_search 206 = .ok (.aload_n 0, 1) := by decide +kernel
theorem dX11_search_207 : decode cX11_search 207 = .ok (.getfield 176, 3) := by decide +kernel
theorem dX11_search_210 : decode cX11_search 210 = .ok (.ireturn, 1) := by decide +kernel
set_option maxRecDepth 20000 in
theorem ggX11_figureOf_X11_search : GoodIn wsX11_figureOf wsX11_search := goodIn_r _ [7, 8, 1, 9, 10, 11, 12, 13, 14, 15, 6, 16, 17, 18, 19, 20, 21, 22, 23, 2, 24, 25, 26, 27, 28, 29, 30, 31, 32, 33, 34, 35, 36, 37, 38, 39, 40, 41, 42, 43, 44, 45, 46, 47] (by decide +kernel) (by decide +kernel)
set_option maxRecDepth 20000 in
theorem gX11_figureOf_X11_search : GoodIn wsX11_figureOf (wsV RX11 179 RX11 yX11_search wsX11_search) := goodIn_app (goodIn_of _ (by decide +kernel)) ggX11_figureOf_X11_search
theorem dX11_figureOf_0 : decode cX11_figureOf 0 = .ok (.aload_n 0, 1) := by decide +kernel
theorem dX11_figureOf_1 : decode cX11_figureOf 1 = .ok (.iload_n 1, 1) := by decide +kernel
theorem dX11_figureOf_2 : decode cX11_figureOf 2 = .ok (.invokevirtual 179, 3) := by decide +kernel
theorem dX11_figureOf_5 : decode cX11_figureOf 5 = .ok (.istore_n 3, 1) := by decide +kernel
theorem dX11_figureOf_6 : decode cX11_figureOf 6 = .ok (.iload_n 3, 1) := by decide +kernel
theorem dX11_figureOf_7 : decode cX11_figureOf 7 = .ok (.bipush (-4), 2) := by decide +kernel
theorem dX11_figureOf_9 : decode cX11_figureOf 9 = .ok (.if_icmp .ne 6, 3) := by decide +kernel
theorem dX11_figureOf_12 : decode cX11_figureOf 12 = .ok (.bipush (-4), 2) := by decide +kernel
theorem dX11_figureOf_14 : decode cX11_figureOf 14 = .ok (.ireturn, 1) := by decide +kernel
theorem dX11_figureOf_15 : decode cX11_figureOf 15 = .ok (.iconst 1, 1) := by decide +kernel
theorem dX11_figureOf_16 : decode cX11_figureOf 16 = .ok (.istore 4, 2) := by decide +kernel
theorem dX11_figureOf_18 : decode cX11_figureOf 18 = .ok (.iload_n 3, 1) := by decide +kernel
theorem dX11_figureOf_19 : decode cX11_figureOf 19 = .ok (.istore 5, 2) := by decide +kernel
theorem dX11_figureOf_21 : decode cX11_figureOf 21 = .ok (.aload_n 0, 1) := by decide +kernel
theorem dX11_figureOf_22 : decode cX11_figureOf 22 = .ok (.getfield 32, 3) := by decide +kernel
theorem dX11_figureOf_25 : decode cX11_figureOf 25 = .ok (.iload 5, 2) := by decide +kernel
theorem dX11_figureOf_27 : decode cX11_figureOf 27 = .ok (.iaload, 1) := by decide +kernel
theorem dX11_figureOf_28 : decode cX11_figureOf 28 = .ok (.bipush (-2), 2) := by decide +kernel
theorem dX11_figureOf_30 : decode cX11_figureOf 30 = .ok (.if_icmp .eq 18, 3) := by decide +kernel
theorem dX11_figureOf_33 : decode cX11_figureOf 33 = .ok (.iinc 4 1, 3) := by decide +kernel
theorem dX11_figureOf_36 : decode cX11_figureOf 36 = .ok (.aload_n 0, 1) := by decide +kernel
theorem dX11_figureOf_37 : decode cX11_figureOf 37 = .ok (.getfield 32, 3) := by decide +kernel
theorem dX11_figureOf_40 : decode cX11_figureOf 40 = .ok (.iload 5, 2) := by decide +kernel
theorem dX11_figureOf_42 : decode cX11_figureOf 42 = .ok (.iaload, 1) := by decide +kernel
theorem dX11_figureOf_43 : decode cX11_figureOf 43 = .ok (.istore 5, 2) := by decide +kernel
theorem dX11_figureOf_45 : decode cX11_figureOf 45 = .ok (.goto (-24), 3) := by decide +kernel
theorem dX11_figureOf_48 : decode cX11_figureOf 48 = .ok (.iload_n 2, 1) := by decide +kernel
theorem dX11_figureOf_49 : decode cX11_figureOf 49 = .ok (.iconst (-1), 1) := by decide +kernel
theorem dX11_figureOf_50 : decode cX11_figureOf 50 = .ok (.if_icmp .eq 9, 3) := by decide +kernel
theorem dX11_figureOf_53 : decode cX11_figureOf 53 = .ok (.iload_n 2, 1) := by decide +kernel
theorem dX11_figureOf_54 : decode cX11_figureOf 54 = .ok (.iload 4, 2) := by decide +kernel
theorem dX11_figureOf_56 : decode cX11_figureOf 56 = .ok (.if_icmp .lt 16, 3) := by decide +kernel
theorem dX11_figureOf_59 : decode cX11_figureOf 59 = .ok (.iload_n 2, 1) := by decide +kernel
theorem dX11_figureOf_60 : decode cX11_figureOf 60 = .ok (.iconst (-1), 1) := by decide +kernel
theorem dX11_figureOf_61 : decode cX11_figureOf 61 = .ok (.if_icmp .ne 8, 3) := by decide +kernel
theorem dX11_figureOf_64 : decode cX11_figureOf 64 = .ok (.iload 4, 2) := by decide +kernel
theorem dX11_figureOf_66 : decode cX11_figureOf 66 = .ok (.goto 5, 3) := by decide +kernel
theorem dX11_figureOf_69 : decode cX11_figureOf 69 = .ok (.bipush (-4), 2) := by decide +kernel
theorem dX11_figureOf_71 : decode cX11_figureOf 71 = .ok (.ireturn, 1) := by decide +kernel
theorem dX11_figureOf_72 : decode cX11_figureOf 72 = .ok (.iload_n 3, 1) := by decide +kernel
theorem dX11_figureOf_73 : decode cX11_figureOf 73 = .ok (.istore 5, 2) := by decide +kernel
theorem dX11_figureOf_75 : decode cX11_figureOf 75 = .ok (.iload 4, 2) := by decide +kernel
theorem dX11_figureOf_77 : decode cX11_figureOf 77 = .ok (.iconst 1, 1) := by decide +kernel
theorem dX11_figureOf_78 : decode cX11_figureOf 78 = .ok (.isub, 1) := by decide +kernel
theorem dX11_figureOf_79 : decode cX11_figureOf 79 = .ok (.istore 6, 2) := by decide +kernel
theorem dX11_figureOf_81 : decode cX11_figureOf 81 = .ok (.iload 6, 2) := by decide +kernel
theorem dX11_figureOf_83 : decode cX11_figureOf 83 = .ok (.iload_n 2, 1) := by decide +kernel
theorem dX11_figureOf_84 : decode cX11_figureOf 84 = .ok (.if_icmp .le 18, 3) := by decide +kernel
theorem dX11_figureOf_87 : decode cX11_figureOf 87 = .ok (.aload_n 0, 1) := by decide +kernel
theorem dX11_figureOf_88 : decode cX11_figureOf 88 = .ok (.getfield 32, 3) := by decide +kernel
theorem dX11_figureOf_91 : decode cX11_figureOf 91 = .ok (.iload 5, 2) := by decide +kernel
theorem dX11_figureOf_93 : decode cX11_figureOf 93 = .ok (.iaload, 1) := by decide +kernel
theorem dX11_figureOf_94 : decode cX11_figureOf 94 = .ok (.istore 5, 2) := by decide +kernel
theorem dX11_figureOf_96 : decode cX11_figureOf 96 = .ok (.iinc 6 (-1), 3) := by decide +kernel
theorem dX11_figureOf_99 : decode cX11_figureOf 99 = .ok (.goto (-18), 3) := by decide +kernel
theorem dX11_figureOf_102 : decode cX11_figureOf 102 = .ok (.aload_n 0, 1) := by decide +kernel
theorem dX11_figureOf_103 : decode cX11_figureOf 103 = .ok (.getfield 35, 3) := by decide +kernel
theorem dX11_figureOf_106 : decode cX11_figureOf 106 = .ok (.iload 5, 2) := by decide +kernel
theorem dX11_figureOf_108 : decode cX11_figureOf 108 = .ok (.iaload, 1) := by decide +kernel
theorem dX11_figureOf_109 : decode cX11_figureOf 109 = .ok (.ireturn, 1) := by decide +kernel
theorem dX11_layAllowed_0 : decode cX11_layAllowed 0 = .ok (.iconst 0, 1) := by decide +kernel
theorem dX11_layAllowed_1 : decode cX11_layAllowed 1 = .ok (.istore_n 2, 1) := by decide +kernel
theorem dX11_layAllowed_2 : decode cX11_layAllowed 2 = .ok (.aload_n 0, 1) := by decide +kernel
theorem dX11_layAllowed_3 : decode cX11_layAllowed 3 = .ok (.iload_n 1, 1) := by decide +kernel
theorem dX11_layAllowed_4 : decode cX11_layAllowed 4 = .ok (.iconst 1, 1) := by decide +kernel
theorem dX11_layAllowed_5 : decode cX11_layAllowed 5 = .ok (.aload_n 0, 1) := by decide +kernel
theorem dX11_layAllowed_6 : decode cX11_layAllowed 6 = .ok (.getfield 7, 3) := by decide +kernel
theorem dX11_layAllowed_9 : decode cX11_layAllowed 9 = .ok (.ishl, 1) := by decide +kernel
theorem dX11_layAllowed_10 : decode cX11_layAllowed 10 = .ok (.iconst 1, 1) := by decide +kernel
theorem dX11_layAllowed_11 : decode cX11_layAllowed 11 = .ok (.isub, 1) := by decide +kernel
theorem dX11_layAllowed_12 : decode cX11_layAllowed 12 = .ok (.iand, 1) := by decide +kernel
theorem dX11_layAllowed_13 : decode cX11_layAllowed 13 = .ok (.putfield 156, 3) := by decide +kernel
theorem dX11_layAllowed_16 : decode cX11_layAllowed 16 = .ok (.iconst 0, 1) := by decide +kernel
theorem dX11_layAllowed_17 : decode cX11_layAllowed 17 = .ok (.istore_n 3, 1) := by decide +kernel
theorem dX11_layAllowed_18 : decode cX11_layAllowed 18 = .ok (.iload_n 3, 1) := by decide +kernel
theorem dX11_layAllowed_19 : decode cX11_layAllowed 19 = .ok (.bipush 16, 2) := by decide +kernel
theorem dX11_layAllowed_21 : decode cX11_layAllowed 21 = .ok (.if_icmp .ge 27, 3) := by decide +kernel
theorem dX11_layAllowed_24 : decode cX11_layAllowed 24 = .ok (.aload_n 0, 1) := by decide +kernel
theorem dX11_layAllowed_25 : decode cX11_layAllowed 25 = .ok (.getfield 41, 3) := by decide +kernel
theorem dX11_layAllowed_28 : decode cX11_layAllowed 28 = .ok (.iload_n 3, 1) := by decide +kernel
theorem dX11_layAllowed_29 : decode cX11_layAllowed 29 = .ok (.iload_n 2, 1) := by decide +kernel
theorem dX11_layAllowed_30 : decode cX11_layAllowed 30 = .ok (.iastore, 1) := by decide +kernel
theorem dX11_layAllowed_31 : decode cX11_layAllowed 31 = .ok (.iload_n 2, 1) := by decide +kernel
theorem dX11_layAllowed_32 : decode cX11_layAllowed 32 = .ok (.aload_n 0, 1) := by decide +kernel
theorem dX11_layAllowed_33 : decode cX11_layAllowed 33 = .ok (.getfield 156, 3) := by decide +kernel
theorem dX11_layAllowed_36 : decode cX11_layAllowed 36 = .ok (.iload_n 3, 1) := by decide +kernel
theorem dX11_layAllowed_37 : decode cX11_layAllowed 37 = .ok (.ishr, 1) := by decide +kernel
theorem dX11_layAllowed_38 : decode cX11_layAllowed 38 = .ok (.iconst 1, 1) := by decide +kernel
theorem dX11_layAllowed_39 : decode cX11_layAllowed 39 = .ok (.iand, 1) := by decide +kernel
theorem dX11_layAllowed_40 : decode cX11_layAllowed 40 = .ok (.iadd, 1) := by decide +kernel
theorem dX11_layAllowed_41 : decode cX11_layAllowed 41 = .ok (.istore_n 2, 1) := by decide +kernel
theorem dX11_layAllowed_42 : decode cX11_layAllowed 42 = .ok (.iinc 3 1, 3) := by decide +kernel
theorem dX11_layAllowed_45 : decode cX11_layAllowed 45 = .ok (.goto (-27), 3) := by decide +kernel
theorem dX11_layAllowed_48 : decode cX11_layAllowed 48 = .ok (.iload_n 2, 1) := by decide +kernel
theorem dX11_layAllowed_49 : decode cX11_layAllowed 49 = .ok (.ireturn, 1) := by decide +kernel
set_option maxRecDepth 20000 in
theorem ggX11_few_X11_in : GoodIn wsX11_few wsX11_in := goodIn_r _ [8] (by decide +kernel) (by decide +kernel)
set_option maxRecDepth 20000 in
theorem gX11_few_X11_in : GoodIn wsX11_few (va_wsS RX11 57 yX11_in wsX11_in) := goodIn_app (goodIn_of _ (by decide +kernel)) ggX11_few_X11_in
set_option maxRecDepth 20000 in
theorem ggX11_few_X11_layAllowed : GoodIn wsX11_few wsX11_layAllowed := goodIn_r _ [12, 13, 14, 15, 36, 37, 38, 39, 40, 41, 42, 43, 44, 45, 46, 47, 48, 49, 50, 51, 52, 53, 54, 55, 56, 57, 58, 59] (by decide +kernel) (by decide +kernel)
set_option maxRecDepth 20000 in
theorem gX11_few_X11_layAllowed : GoodIn wsX11_few (wsV RX11 185 RX11 yX11_layAllowed wsX11_layAllowed) := goodIn_app (goodIn_of _ (by decide +kernel)) ggX11_few_X11_layAllowed
set_option maxRecDepth 20000 in
theorem ggX11_few_X11_figureOf : GoodIn wsX11_few wsX11_figureOf := goodIn_r _ [19, 20, 21, 22, 23, 24, 7, 25, 3, 26, 13, 4, 27, 28, 29, 30, 31, 14, 2, 15, 32, 33, 34, 35, 36, 37, 38, 39, 40, 41, 42, 43, 44, 45, 46, 47, 48, 49, 50, 51, 52, 53, 54, 55, 56, 57, 58, 59] (by decide +kernel) (by decide +kernel)
set_option maxRecDepth 20000 in
theorem gX11_few_X11_figureOf : GoodIn wsX11_few (wsV RX11 188 RX11 yX11_figureOf wsX11_figureOf) := goodIn_app (goodIn_of _ (by decide +kernel)) ggX11_few_X11_figureOf
theorem dX11_few_0 : decode cX11_few 0 = .ok (.iload_n 1, 1) := by decide +kernel
theorem dX11_few_1 : decode cX11_few 1 = .ok (.i2l, 1) := by decide +kernel
theorem dX11_few_2 : decode cX11_few 2 = .ok (.lconst 1, 1) := by decide +kernel
theorem dX11_few_3 : decode cX11_few 3 = .ok (.ldc2_w 183, 3) := by decide +kernel
theorem dX11_few_6 : decode cX11_few 6 = .ok (.invokestatic 57, 3) := by decide +kernel
theorem dX11_few_9 : decode cX11_few 9 = .ok (.ifCond .eq 16, 3) := by decide +kernel
theorem dX11_few_12 : decode cX11_few 12 = .ok (.aload_n 0, 1) := by decide +kernel
theorem dX11_few_13 : decode cX11_few 13 = .ok (.iload_n 2, 1) := by decide +kernel
theorem dX11_few_14 : decode cX11_few 14 = .ok (.invokevirtual 185, 3) := by decide +kernel
theorem dX11_few_17 : decode cX11_few 17 = .ok (.ifCond .eq 8, 3) := by decide +kernel
theorem dX11_few_20 : decode cX11_few 20 = .ok (.iload_n 3, 1) := by decide +kernel
theorem dX11_few_21 : decode cX11_few 21 = .ok (.iconst (-1), 1) := by decide +kernel
theorem dX11_few_22 : decode cX11_few 22 = .ok (.if_icmp .ge 5, 3) := by decide +kernel
theorem dX11_few_25 : decode cX11_few 25 = .ok (.iconst (-1), 1) := by decide +kernel
theorem dX11_few_26 : decode cX11_few 26 = .ok (.ireturn, 1) := by decide +kernel
theorem dX11_few_27 : decode cX11_few 27 = .ok (.aload_n 0, 1) := by decide +kernel
theorem dX11_few_28 : decode cX11_few 28 = .ok (.iconst 0, 1) := by decide +kernel
theorem dX11_few_29 : decode cX11_few 29 = .ok (.putfield 159, 3) := by decide +kernel
theorem dX11_few_32 : decode cX11_few 32 = .ok (.aload_n 0, 1) := by decide +kernel
theorem dX11_few_33 : decode cX11_few 33 = .ok (.iconst 1, 1) := by decide +kernel
theorem dX11_few_34 : decode cX11_few 34 = .ok (.putfield 162, 3) := by decide +kernel
theorem dX11_few_37 : decode cX11_few 37 = .ok (.aload_n 0, 1) := by decide +kernel
theorem dX11_few_38 : decode cX11_few 38 = .ok (.iconst 0, 1) := by decide +kernel
theorem dX11_few_39 : decode cX11_few 39 = .ok (.putfield 176, 3) := by decide +kernel
theorem dX11_few_42 : decode cX11_few 42 = .ok (.aload_n 0, 1) := by decide +kernel
theorem dX11_few_43 : decode cX11_few 43 = .ok (.iload_n 1, 1) := by decide +kernel
theorem dX11_few_44 : decode cX11_few 44 = .ok (.iload_n 3, 1) := by decide +kernel
theorem dX11_few_45 : decode cX11_few 45 = .ok (.invokevirtual 188, 3) := by decide +kernel
theorem dX11_few_48 : decode cX11_few 48 = .ok (.ireturn, 1) := by decide +kernel
set_option maxRecDepth 20000 in
theorem ggX11_withAll_X11_layAllowed : GoodIn wsX11_withAll wsX11_layAllowed := goodIn_r _ [10, 11, 12, 13, 37, 38, 39, 40, 41, 42, 43, 44, 45, 46, 47, 48, 49, 50, 51, 52, 53, 54, 55, 56, 57, 58, 59, 60] (by decide +kernel) (by decide +kernel)
set_option maxRecDepth 20000 in
theorem gX11_withAll_X11_layAllowed : GoodIn wsX11_withAll (wsV RX11 185 RX11 yX11_layAllowed wsX11_layAllowed) := goodIn_app (goodIn_of _ (by decide +kernel)) ggX11_withAll_X11_layAllowed
set_option maxRecDepth 20000 in
theorem ggX11_withAll_X11_in : GoodIn wsX11_withAll wsX11_in := goodIn_r _ [16] (by decide +kernel) (by decide +kernel)
set_option maxRecDepth 20000 in
theorem gX11_withAll_X11_in : GoodIn wsX11_withAll (va_wsS RX11 57 yX11_in wsX11_in) := goodIn_app (goodIn_of _ (by decide +kernel)) ggX11_withAll_X11_in
set_option maxRecDepth 20000 in
theorem ggX11_withAll_X11_figureOf : GoodIn wsX11_withAll wsX11_figureOf := goodIn_r _ [20, 21, 22, 23, 24, 25, 9, 26, 4, 27, 11, 5, 28, 29, 30, 31, 32, 12, 3, 13, 33, 34, 35, 36, 37, 38, 39, 40, 41, 42, 43, 44, 45, 46, 47, 48, 49, 50, 51, 52, 53, 54, 55, 56, 57, 58, 59, 60] (by decide +kernel) (by decide +kernel)
set_option maxRecDepth 20000 in
theorem gX11_withAll_X11_figureOf : GoodIn wsX11_withAll (wsV RX11 188 RX11 yX11_figureOf wsX11_figureOf) := goodIn_app (goodIn_of _ (by decide +kernel)) ggX11_withAll_X11_figureOf
theorem dX11_withAll_0 : decode cX11_withAll 0 = .ok (.aload_n 0, 1) := by decide +kernel
theorem dX11_withAll_1 : decode cX11_withAll 1 = .ok (.iload_n 2, 1) := by decide +kernel
theorem dX11_withAll_2 : decode cX11_withAll 2 = .ok (.invokevirtual 185, 3) := by decide +kernel
theorem dX11_withAll_5 : decode cX11_withAll 5 = .ok (.istore 4, 2) := by decide +kernel
theorem dX11_withAll_7 : decode cX11_withAll 7 = .ok (.iload_n 1, 1) := by decide +kernel
theorem dX11_withAll_8 : decode cX11_withAll 8 = .ok (.i2l, 1) := by decide +kernel
theorem dX11_withAll_9 : decode cX11_withAll 9 = .ok (.lconst 1, 1) := by decide +kernel
theorem dX11_withAll_10 : decode cX11_withAll 10 = .ok (.ldc2_w 191, 3) := by decide +kernel
theorem dX11_withAll_13 : decode cX11_withAll 13 = .ok (.invokestatic 57, 3) := by decide +kernel
theorem dX11_withAll_16 : decode cX11_withAll 16 = .ok (.ifCond .eq 21, 3) := by decide +kernel
theorem dX11_withAll_19 : decode cX11_withAll 19 = .ok (.iload 4, 2) := by decide +kernel
theorem dX11_withAll_21 : decode cX11_withAll 21 = .ok (.i2l, 1) := by decide +kernel
theorem dX11_withAll_22 : decode cX11_withAll 22 = .ok (.lconst 1, 1) := by decide +kernel
theorem dX11_withAll_23 : decode cX11_withAll 23 = .ok (.ldc2_w 193, 3) := by decide +kernel
theorem dX11_withAll_26 : decode cX11_withAll 26 = .ok (.invokestatic 57, 3) := by decide +kernel
theorem dX11_withAll_29 : decode cX11_withAll 29 = .ok (.ifCond .eq 8, 3) := by decide +kernel
theorem dX11_withAll_32 : decode cX11_withAll 32 = .ok (.iload_n 3, 1) := by decide +kernel
theorem dX11_withAll_33 : decode cX11_withAll 33 = .ok (.iconst (-1), 1) := by decide +kernel
theorem dX11_withAll_34 : decode cX11_withAll 34 = .ok (.if_icmp .ge 5, 3) := by decide +kernel
theorem dX11_withAll_37 : decode cX11_withAll 37 = .ok (.iconst (-1), 1) := by decide +kernel
theorem dX11_withAll_38 : decode cX11_withAll 38 = .ok (.ireturn, 1) := by decide +kernel
theorem dX11_withAll_39 : decode cX11_withAll 39 = .ok (.aload_n 0, 1) := by decide +kernel
theorem dX11_withAll_40 : decode cX11_withAll 40 = .ok (.iconst 1, 1) := by decide +kernel
theorem dX11_withAll_41 : decode cX11_withAll 41 = .ok (.putfield 159, 3) := by decide +kernel
theorem dX11_withAll_44 : decode cX11_withAll 44 = .ok (.aload_n 0, 1) := by decide +kernel
theorem dX11_withAll_45 : decode cX11_withAll 45 = .ok (.iconst 1, 1) := by decide +kernel
theorem dX11_withAll_46 : decode cX11_withAll 46 = .ok (.iload 4, 2) := by decide +kernel
theorem dX11_withAll_48 : decode cX11_withAll 48 = .ok (.ishl, 1) := by decide +kernel
theorem dX11_withAll_49 : decode cX11_withAll 49 = .ok (.putfield 162, 3) := by decide +kernel
theorem dX11_withAll_52 : decode cX11_withAll 52 = .ok (.aload_n 0, 1) := by decide +kernel
theorem dX11_withAll_53 : decode cX11_withAll 53 = .ok (.aload_n 0, 1) := by decide +kernel
theorem dX11_withAll_54 : decode cX11_withAll 54 = .ok (.getfield 162, 3) := by decide +kernel
theorem dX11_withAll_57 : decode cX11_withAll 57 = .ok (.iconst 1, 1) := by decide +kernel
theorem dX11_withAll_58 : decode cX11_withAll 58 = .ok (.isub, 1) := by decide +kernel
theorem dX11_withAll_59 : decode cX11_withAll 59 = .ok (.putfield 176, 3) := by decide +kernel
theorem dX11_withAll_62 : decode cX11_withAll 62 = .ok (.aload_n 0, 1) := by decide +kernel
theorem dX11_withAll_63 : decode cX11_withAll 63 = .ok (.iload_n 1, 1) := by decide +kernel
theorem dX11_withAll_64 : decode cX11_withAll 64 = .ok (.iload_n 3, 1) := by decide +kernel
theorem dX11_withAll_65 : decode cX11_withAll 65 = .ok (.invokevirtual 188, 3) := by decide +kernel
theorem dX11_withAll_68 : decode cX11_withAll 68 = .ok (.ireturn, 1) := by decide +kernel
set_option maxRecDepth 20000 in
theorem ggX11_summed_X11_in : GoodIn wsX11_summed wsX11_in := goodIn_r _ [10] (by decide +kernel) (by decide +kernel)
set_option maxRecDepth 20000 in
theorem gX11_summed_X11_in : GoodIn wsX11_summed (va_wsS RX11 57 yX11_in wsX11_in) := goodIn_app (goodIn_of _ (by decide +kernel)) ggX11_summed_X11_in
set_option maxRecDepth 20000 in
theorem ggX11_summed_X11_layAllowed : GoodIn wsX11_summed wsX11_layAllowed := goodIn_r _ [14, 15, 16, 17, 38, 39, 40, 41, 42, 43, 44, 45, 46, 47, 48, 49, 50, 51, 52, 53, 54, 55, 56, 57, 58, 59, 60, 61] (by decide +kernel) (by decide +kernel)
set_option maxRecDepth 20000 in
theorem gX11_summed_X11_layAllowed : GoodIn wsX11_summed (wsV RX11 185 RX11 yX11_layAllowed wsX11_layAllowed) := goodIn_app (goodIn_of _ (by decide +kernel)) ggX11_summed_X11_layAllowed
set_option maxRecDepth 20000 in
theorem ggX11_summed_X11_figureOf : GoodIn wsX11_summed wsX11_figureOf := goodIn_r _ [21, 22, 23, 24, 25, 26, 9, 27, 5, 28, 15, 6, 29, 30, 31, 32, 33, 16, 4, 17, 34, 35, 36, 37, 38, 39, 40, 41, 42, 43, 44, 45, 46, 47, 48, 49, 50, 51, 52, 53, 54, 55, 56, 57, 58, 59, 60, 61] (by decide +kernel) (by decide +kernel)
set_option maxRecDepth 20000 in
theorem gX11_summed_X11_figureOf : GoodIn wsX11_summed (wsV RX11 188 RX11 yX11_figureOf wsX11_figureOf) := goodIn_app (goodIn_of _ (by decide +kernel)) ggX11_summed_X11_figureOf
theorem dX11_summed_0 : decode cX11_summed 0 = .ok (.iload_n 1, 1) := by decide +kernel
theorem dX11_summed_1 : decode cX11_summed 1 = .ok (.i2l, 1) := by decide +kernel
theorem dX11_summed_2 : decode cX11_summed 2 = .ok (.lconst 1, 1) := by decide +kernel
theorem dX11_summed_3 : decode cX11_summed 3 = .ok (.ldc2_w 130, 3) := by decide +kernel
theorem dX11_summed_6 : decode cX11_summed 6 = .ok (.invokestatic 57, 3) := by decide +kernel
theorem dX11_summed_9 : decode cX11_summed 9 = .ok (.ifCond .eq 20, 3) := by decide +kernel
theorem dX11_summed_12 : decode cX11_summed 12 = .ok (.iload_n 2, 1) := by decide +kernel
theorem dX11_summed_13 : decode cX11_summed 13 = .ok (.i2l, 1) := by decide +kernel
theorem dX11_summed_14 : decode cX11_summed 14 = .ok (.lconst 1, 1) := by decide +kernel
theorem dX11_summed_15 : decode cX11_summed 15 = .ok (.ldc2_w 195, 3) := by decide +kernel
theorem dX11_summed_18 : decode cX11_summed 18 = .ok (.invokestatic 57, 3) := by decide +kernel
theorem dX11_summed_21 : decode cX11_summed 21 = .ok (.ifCond .eq 8, 3) := by decide +kernel
theorem dX11_summed_24 : decode cX11_summed 24 = .ok (.iload_n 3, 1) := by decide +kernel
theorem dX11_summed_25 : decode cX11_summed 25 = .ok (.iconst (-1), 1) := by decide +kernel
theorem dX11_summed_26 : decode cX11_summed 26 = .ok (.if_icmp .ge 5, 3) := by decide +kernel
theorem dX11_summed_29 : decode cX11_summed 29 = .ok (.iconst (-1), 1) := by decide +kernel
theorem dX11_summed_30 : decode cX11_summed 30 = .ok (.ireturn, 1) := by decide +kernel
theorem dX11_summed_31 : decode cX11_summed 31 = .ok (.aload_n 0, 1) := by decide +kernel
theorem dX11_summed_32 : decode cX11_summed 32 = .ok (.ldc 197, 2) := by decide +kernel
theorem dX11_summed_34 : decode cX11_summed 34 = .ok (.invokevirtual 185, 3) := by decide +kernel
theorem dX11_summed_37 : decode cX11_summed 37 = .ok (.istore 4, 2) := by decide +kernel
theorem dX11_summed_39 : decode cX11_summed 39 = .ok (.aload_n 0, 1) := by decide +kernel
theorem dX11_summed_40 : decode cX11_summed 40 = .ok (.iconst 2, 1) := by decide +kernel
theorem dX11_summed_41 : decode cX11_summed 41 = .ok (.putfield 159, 3) := by decide +kernel
theorem dX11_summed_44 : decode cX11_summed 44 = .ok (.aload_n 0, 1) := by decide +kernel
theorem dX11_summed_45 : decode cX11_summed 45 = .ok (.iload_n 2, 1) := by decide +kernel
