theorem dX11_layChain_4 : decode cX11_layChain 4 = .ok (.lstore 6, 2) := by decide +kernel
theorem dX11_layChain_6 : decode cX11_layChain 6 = .ok (.iconst 1, 1) := by decide +kernel
theorem dX11_layChain_7 : decode cX11_layChain 7 = .ok (.istore 8, 2) := by decide +kernel
theorem dX11_layChain_9 : decode cX11_layChain 9 = .ok (.iconst 0, 1) := by decide +kernel
theorem dX11_layChain_10 : decode cX11_layChain 10 = .ok (.istore 9, 2) := by decide +kernel
theorem dX11_layChain_12 : decode cX11_layChain 12 = .ok (.iconst 0, 1) := by decide +kernel
theorem dX11_layChain_13 : decode cX11_layChain 13 = .ok (.istore 10, 2) := by decide +kernel
theorem dX11_layChain_15 : decode cX11_layChain 15 = .ok (.iconst 0, 1) := by decide +kernel
theorem dX11_layChain_16 : decode cX11_layChain 16 = .ok (.istore 11, 2) := by decide +kernel
theorem dX11_layChain_18 : decode cX11_layChain 18 = .ok (.iload 11, 2) := by decide +kernel
theorem dX11_layChain_20 : decode cX11_layChain 20 = .ok (.ifCond .ne 73, 3) := by decide +kernel
theorem dX11_layChain_23 : decode cX11_layChain 23 = .ok (.iload 9, 2) := by decide +kernel
theorem dX11_layChain_25 : decode cX11_layChain 25 = .ok (.sipush 900, 3) := by decide +kernel
theorem dX11_layChain_28 : decode cX11_layChain 28 = .ok (.if_icmp .ge 65, 3) := by decide +kernel
theorem dX11_layChain_31 : decode cX11_layChain 31 = .ok (.lload 6, 2) := by decide +kernel
theorem dX11_layChain_33 : decode cX11_layChain 33 = .ok (.ldc2_w 68, 3) := by decide +kernel
theorem dX11_layChain_36 : decode cX11_layChain 36 = .ok (.lcmp, 1) := by decide +kernel
theorem dX11_layChain_37 : decode cX11_layChain 37 = .ok (.ifCond .gt 56, 3) := by decide +kernel
theorem dX11_layChain_40 : decode cX11_layChain 40 = .ok (.iload 10, 2) := by decide +kernel
theorem dX11_layChain_42 : decode cX11_layChain 42 = .ok (.iload 8, 2) := by decide +kernel
theorem dX11_layChain_44 : decode cX11_layChain 44 = .ok (.if_icmp .ne 16, 3) := by decide +kernel
theorem dX11_layChain_47 : decode cX11_layChain 47 = .ok (.lload 6, 2) := by decide +kernel
theorem dX11_layChain_49 : decode cX11_layChain 49 = .ok (.lstore 4, 2) := by decide +kernel
theorem dX11_layChain_51 : decode cX11_layChain 51 = .ok (.iload 8, 2) := by decide +kernel
theorem dX11_layChain_53 : decode cX11_layChain 53 = .ok (.iconst 2, 1) := by decide +kernel
theorem dX11_layChain_54 : decode cX11_layChain 54 = .ok (.imul, 1) := by decide +kernel
theorem dX11_layChain_55 : decode cX11_layChain 55 = .ok (.istore 8, 2) := by decide +kernel
theorem dX11_layChain_57 : decode cX11_layChain 57 = .ok (.iconst 0, 1) := by decide +kernel
theorem dX11_layChain_58 : decode cX11_layChain 58 = .ok (.istore 10, 2) := by decide +kernel
theorem dX11_layChain_60 : decode cX11_layChain 60 = .ok (.aload_n 0, 1) := by decide +kernel
theorem dX11_layChain_61 : decode cX11_layChain 61 = .ok (.iload_n 1, 1) := by decide +kernel
theorem dX11_layChain_62 : decode cX11_layChain 62 = .ok (.lload 6, 2) := by decide +kernel
theorem dX11_layChain_64 : decode cX11_layChain 64 = .ok (.invokevirtual 91, 3) := by decide +kernel
theorem dX11_layChain_67 : decode cX11_layChain 67 = .ok (.lstore 6, 2) := by decide +kernel
theorem dX11_layChain_69 : decode cX11_layChain 69 = .ok (.iinc 10 1, 3) := by decide +kernel
theorem dX11_layChain_72 : decode cX11_layChain 72 = .ok (.iinc 9 1, 3) := by decide +kernel
theorem dX11_layChain_75 : decode cX11_layChain 75 = .ok (.lload 6, 2) := by decide +kernel
theorem dX11_layChain_77 : decode cX11_layChain 77 = .ok (.lload 4, 2) := by decide +kernel
theorem dX11_layChain_79 : decode cX11_layChain 79 = .ok (.lcmp, 1) := by decide +kernel
theorem dX11_layChain_80 : decode cX11_layChain 80 = .ok (.ifCond .ne 7, 3) := by decide +kernel
theorem dX11_layChain_83 : decode cX11_layChain 83 = .ok (.iconst 1, 1) := by decide +kernel
theorem dX11_layChain_84 : decode cX11_layChain 84 = .ok (.goto 4, 3) := by decide +kernel
theorem dX11_layChain_87 : decode cX11_layChain 87 = .ok (.iconst 0, 1) := by decide +kernel
theorem dX11_layChain_88 : decode cX11_layChain 88 = .ok (.istore 11, 2) := by decide +kernel
theorem dX11_layChain_90 : decode cX11_layChain 90 = .ok (.goto (-72), 3) := by decide +kernel
theorem dX11_layChain_93 : decode cX11_layChain 93 = .ok (.aload_n 0, 1) := by decide +kernel
theorem dX11_layChain_94 : decode cX11_layChain 94 = .ok (.iload 11, 2) := by decide +kernel
theorem dX11_layChain_96 : decode cX11_layChain 96 = .ok (.ifCond .eq 8, 3) := by decide +kernel
theorem dX11_layChain_99 : decode cX11_layChain 99 = .ok (.iload 10, 2) := by decide +kernel
theorem dX11_layChain_101 : decode cX11_layChain 101 = .ok (.goto 4, 3) := by decide +kernel
theorem dX11_layChain_104 : decode cX11_layChain 104 = .ok (.iconst 0, 1) := by decide +kernel
theorem dX11_layChain_105 : decode cX11_layChain 105 = .ok (.putfield 97, 3) := by decide +kernel
theorem dX11_layChain_108 : decode cX11_layChain 108 = .ok (.aload_n 0, 1) := by decide +kernel
theorem dX11_layChain_109 : decode cX11_layChain 109 = .ok (.iconst 0, 1) := by decide +kernel
theorem dX11_layChain_110 : decode cX11_layChain 110 = .ok (.putfield 100, 3) := by decide +kernel
theorem dX11_layChain_113 : decode cX11_layChain 113 = .ok (.iload 11, 2) := by decide +kernel
theorem dX11_layChain_115 : decode cX11_layChain 115 = .ok (.ifCond .eq 60, 3) := by decide +kernel
theorem dX11_layChain_118 : decode cX11_layChain 118 = .ok (.lload_n 2, 1) := by decide +kernel
theorem dX11_layChain_119 : decode cX11_layChain 119 = .ok (.lstore 12, 2) := by decide +kernel
theorem dX11_layChain_121 : decode cX11_layChain 121 = .ok (.aload_n 0, 1) := by decide +kernel
theorem dX11_layChain_122 : decode cX11_layChain 122 = .ok (.iload_n 1, 1) := by decide +kernel
theorem dX11_layChain_123 : decode cX11_layChain 123 = .ok (.lload_n 2, 1) := by decide +kernel
theorem dX11_layChain_124 : decode cX11_layChain 124 = .ok (.aload_n 0, 1) := by decide +kernel
theorem dX11_layChain_125 : decode cX11_layChain 125 = .ok (.getfield 97, 3) := by decide +kernel
theorem dX11_layChain_128 : decode cX11_layChain 128 = .ok (.invokevirtual 103, 3) := by decide +kernel
theorem dX11_layChain_131 : decode cX11_layChain 131 = .ok (.lstore 14, 2) := by decide +kernel
theorem dX11_layChain_133 : decode cX11_layChain 133 = .ok (.lload 12, 2) := by decide +kernel
theorem dX11_layChain_135 : decode cX11_layChain 135 = .ok (.lload 14, 2) := by decide +kernel
theorem dX11_layChain_137 : decode cX11_layChain 137 = .ok (.lcmp, 1) := by decide +kernel
theorem dX11_layChain_138 : decode cX11_layChain 138 = .ok (.ifCond .eq 34, 3) := by decide +kernel
theorem dX11_layChain_141 : decode cX11_layChain 141 = .ok (.aload_n 0, 1) := by decide +kernel
theorem dX11_layChain_142 : decode cX11_layChain 142 = .ok (.iload_n 1, 1) := by decide +kernel
theorem dX11_layChain_143 : decode cX11_layChain 143 = .ok (.lload 12, 2) := by decide +kernel
theorem dX11_layChain_145 : decode cX11_layChain 145 = .ok (.invokevirtual 91, 3) := by decide +kernel
theorem dX11_layChain_148 : decode cX11_layChain 148 = .ok (.lstore 12, 2) := by decide +kernel
theorem dX11_layChain_150 : decode cX11_layChain 150 = .ok (.aload_n 0, 1) := by decide +kernel
theorem dX11_layChain_151 : decode cX11_layChain 151 = .ok (.iload_n 1, 1) := by decide +kernel
theorem dX11_layChain_152 : decode cX11_layChain 152 = .ok (.lload 14, 2) := by decide +kernel
theorem dX11_layChain_154 : decode cX11_layChain 154 = .ok (.invokevirtual 91, 3) := by decide +kernel
theorem dX11_layChain_157 : decode cX11_layChain 157 = .ok (.lstore 14, 2) := by decide +kernel
theorem dX11_layChain_159 : decode cX11_layChain 159 = .ok (.aload_n 0, 1) := by decide +kernel
theorem dX11_layChain_160 : decode cX11_layChain 160 = .ok (.dup, 1) := by decide +kernel
theorem dX11_layChain_161 : decode cX11_layChain 161 = .ok (.getfield 100, 3) := by decide +kernel
theorem dX11_layChain_164 : decode cX11_layChain 164 = .ok (.iconst 1, 1) := by decide +kernel
theorem dX11_layChain_165 : decode cX11_layChain 165 = .ok (.iadd, 1) := by decide +kernel
theorem dX11_layChain_166 : decode cX11_layChain 166 = .ok (.putfield 100, 3) := by decide +kernel
theorem dX11_layChain_169 : decode cX11_layChain 169 = .ok (.goto (-36), 3) := by decide +kernel
theorem dX11_layChain_172 : decode cX11_layChain 172 = .ok (.goto 28, 3) := by decide +kernel
theorem dX11_layChain_175 : decode cX11_layChain 175 = .ok (.lload 6, 2) := by decide +kernel
theorem dX11_layChain_177 : decode cX11_layChain 177 = .ok (.ldc2_w 68, 3) := by decide +kernel
theorem dX11_layChain_180 : decode cX11_layChain 180 = .ok (.lcmp, 1) := by decide +kernel
theorem dX11_layChain_181 : decode cX11_layChain 181 = .ok (.ifCond .le 12, 3) := by decide +kernel
theorem dX11_layChain_184 : decode cX11_layChain 184 = .ok (.aload_n 0, 1) := by decide +kernel
theorem dX11_layChain_185 : decode cX11_layChain 185 = .ok (.iload 9, 2) := by decide +kernel
theorem dX11_layChain_187 : decode cX11_layChain 187 = .ok (.putfield 100, 3) := by decide +kernel
theorem dX11_layChain_190 : decode cX11_layChain 190 = .ok (.goto 10, 3) := by decide +kernel
theorem dX11_layChain_193 : decode cX11_layChain 193 = .ok (.aload_n 0, 1) := by decide +kernel
theorem dX11_layChain_194 : decode cX11_layChain 194 = .ok (.sipush 301, 3) := by decide +kernel
theorem dX11_layChain_197 : decode cX11_layChain 197 = .ok (.putfield 100, 3) := by decide +kernel
theorem dX11_layChain_200 : decode cX11_layChain 200 = .ok (.aload_n 0, 1) := by decide +kernel
theorem dX11_layChain_201 : decode cX11_layChain 201 = .ok (.getfield 100, 3) := by decide +kernel
theorem dX11_layChain_204 : decode cX11_layChain 204 = .ok (.aload_n 0, 1) := by decide +kernel
theorem dX11_layChain_205 : decode cX11_layChain 205 = .ok (.getfield 97, 3) := by decide +kernel
theorem dX11_layChain_208 : decode cX11_layChain 208 = .ok (.iadd, 1) := by decide +kernel
theorem dX11_layChain_209 : decode cX11_layChain 209 = .ok (.sipush 300, 3) := by decide +kernel
theorem dX11_layChain_212 : decode cX11_layChain 212 = .ok (.if_icmp .le 10, 3) := by decide +kernel
theorem dX11_layChain_215 : decode cX11_layChain 215 = .ok (.aload_n 0, 1) := by decide +kernel
theorem dX11_layChain_216 : decode cX11_layChain 216 = .ok (.getfield 97, 3) := by decide +kernel
theorem dX11_layChain_219 : decode cX11_layChain 219 = .ok (.ifCond .gt 13, 3) := by decide +kernel
theorem dX11_layChain_222 : decode cX11_layChain 222 = .ok (.aload_n 0, 1) := by decide +kernel
theorem dX11_layChain_223 : decode cX11_layChain 223 = .ok (.getfield 100, 3) := by decide +kernel
theorem dX11_layChain_226 : decode cX11_layChain 226 = .ok (.sipush 301, 3) := by decide +kernel
theorem dX11_layChain_229 : decode cX11_layChain 229 = .ok (.if_icmp .le 15, 3) := by decide +kernel
theorem dX11_layChain_232 : decode cX11_layChain 232 = .ok (.aload_n 0, 1) := by decide +kernel
theorem dX11_layChain_233 : decode cX11_layChain 233 = .ok (.sipush 301, 3) := by decide +kernel
theorem dX11_layChain_236 : decode cX11_layChain 236 = .ok (.putfield 100, 3) := by decide +kernel
theorem dX11_layChain_239 : decode cX11_layChain 239 = .ok (.aload_n 0, 1) := by decide +kernel
theorem dX11_layChain_240 : decode cX11_layChain 240 = .ok (.iconst 0, 1) := by decide +kernel
theorem dX11_layChain_241 : decode cX11_layChain 241 = .ok (.putfield 97, 3) := by decide +kernel
theorem dX11_layChain_244 : decode cX11_layChain 244 = .ok (.return_, 1) := by decide +kernel
set_option maxRecDepth 20000 in
theorem ggX11_chain_X11_in : GoodIn wsX11_chain wsX11_in := goodIn_r _ [8] (by decide +kernel) (by decide +kernel)
set_option maxRecDepth 20000 in
theorem gX11_chain_X11_in : GoodIn wsX11_chain (va_wsS RX11 57 yX11_in wsX11_in) := goodIn_app (goodIn_of _ (by decide +kernel)) ggX11_chain_X11_in
set_option maxRecDepth 20000 in
theorem ggX11_chain_X11_layChain : GoodIn wsX11_chain wsX11_layChain := goodIn_r _ [12, 2, 4, 3, 13, 14, 15, 7, 16, 17, 18, 19, 20, 21, 22, 23, 24, 25, 26, 27, 28, 29, 30, 31, 32, 33, 34, 35, 36, 37, 38, 39, 40, 41, 42, 43, 44, 45, 46, 47, 48, 49, 50, 51, 52, 53, 54, 55, 56, 57, 58, 59, 60, 61, 62, 63, 64, 65, 66, 67, 68, 69] (by decide +kernel) (by decide +kernel)
set_option maxRecDepth 20000 in
theorem gX11_chain_X11_layChain : GoodIn wsX11_chain (wsV RX11 107 RX11 yX11_layChain wsX11_layChain) := goodIn_app (goodIn_of _ (by decide +kernel)) ggX11_chain_X11_layChain
theorem dX11_chain_0 : decode cX11_chain 0 = .ok (.iload_n 1, 1) := by decide +kernel
theorem dX11_chain_1 : decode cX11_chain 1 = .ok (.i2l, 1) := by decide +kernel
theorem dX11_chain_2 : decode cX11_chain 2 = .ok (.lconst 0, 1) := by decide +kernel
theorem dX11_chain_3 : decode cX11_chain 3 = .ok (.ldc2_w 89, 3) := by decide +kernel
theorem dX11_chain_6 : decode cX11_chain 6 = .ok (.invokestatic 57, 3) := by decide +kernel
theorem dX11_chain_9 : decode cX11_chain 9 = .ok (.ifCond .eq 25, 3) := by decide +kernel
theorem dX11_chain_12 : decode cX11_chain 12 = .ok (.lload_n 2, 1) := by decide +kernel
theorem dX11_chain_13 : decode cX11_chain 13 = .ok (.lconst 0, 1) := by decide +kernel
theorem dX11_chain_14 : decode cX11_chain 14 = .ok (.ldc2_w 68, 3) := by decide +kernel
theorem dX11_chain_17 : decode cX11_chain 17 = .ok (.invokestatic 57, 3) := by decide +kernel
theorem dX11_chain_20 : decode cX11_chain 20 = .ok (.ifCond .eq 14, 3) := by decide +kernel
theorem dX11_chain_23 : decode cX11_chain 23 = .ok (.iload 4, 2) := by decide +kernel
theorem dX11_chain_25 : decode cX11_chain 25 = .ok (.i2l, 1) := by decide +kernel
theorem dX11_chain_26 : decode cX11_chain 26 = .ok (.lconst 0, 1) := by decide +kernel
theorem dX11_chain_27 : decode cX11_chain 27 = .ok (.lconst 1, 1) := by decide +kernel
theorem dX11_chain_28 : decode cX11_chain 28 = .ok (.invokestatic 57, 3) := by decide +kernel
theorem dX11_chain_31 : decode cX11_chain 31 = .ok (.ifCond .ne 5, 3) := by decide +kernel
theorem dX11_chain_34 : decode cX11_chain 34 = .ok (.iconst (-1), 1) := by decide +kernel
theorem dX11_chain_35 : decode cX11_chain 35 = .ok (.ireturn, 1) := by decide +kernel
theorem dX11_chain_36 : decode cX11_chain 36 = .ok (.aload_n 0, 1) := by decide +kernel
theorem dX11_chain_37 : decode cX11_chain 37 = .ok (.iload_n 1, 1) := by decide +kernel
theorem dX11_chain_38 : decode cX11_chain 38 = .ok (.lload_n 2, 1) := by decide +kernel
theorem dX11_chain_39 : decode cX11_chain 39 = .ok (.invokevirtual 107, 3) := by decide +kernel
theorem dX11_chain_42 : decode cX11_chain 42 = .ok (.iload 4, 2) := by decide +kernel
theorem dX11_chain_44 : decode cX11_chain 44 = .ok (.ifCond .ne 10, 3) := by decide +kernel
theorem dX11_chain_47 : decode cX11_chain 47 = .ok (.aload_n 0, 1) := by decide +kernel
theorem dX11_chain_48 : decode cX11_chain 48 = .ok (.getfield 100, 3) := by decide +kernel
theorem dX11_chain_51 : decode cX11_chain 51 = .ok (.goto 7, 3) := by decide +kernel
theorem dX11_chain_54 : decode cX11_chain 54 = .ok (.aload_n 0, 1) := by decide +kernel
theorem dX11_chain_55 : decode cX11_chain 55 = .ok (.getfield 97, 3) := by decide +kernel
theorem dX11_chain_58 : decode cX11_chain 58 = .ok (.ireturn, 1) := by decide +kernel
set_option maxRecDepth 20000 in
theorem ggX11_chained_X11_in : GoodIn wsX11_chained wsX11_in := goodIn_r _ [10] (by decide +kernel) (by decide +kernel)
set_option maxRecDepth 20000 in
theorem gX11_chained_X11_in : GoodIn wsX11_chained (va_wsS RX11 57 yX11_in wsX11_in) := goodIn_app (goodIn_of _ (by decide +kernel)) ggX11_chained_X11_in
set_option maxRecDepth 20000 in
theorem ggX11_chained_X11_layChain : GoodIn wsX11_chained wsX11_layChain := goodIn_r _ [14, 2, 5, 4, 15, 16, 17, 9, 18, 19, 20, 21, 22, 23, 24, 25, 26, 27, 28, 29, 30, 31, 32, 33, 34, 35, 36, 37, 38, 39, 40, 41, 42, 43, 44, 45, 46, 47, 48, 49, 50, 51, 52, 53, 54, 55, 56, 57, 58, 59, 60, 61, 62, 63, 64, 65, 66, 67, 68, 69, 70, 71] (by decide +kernel) (by decide +kernel)
set_option maxRecDepth 20000 in
theorem gX11_chained_X11_layChain : GoodIn wsX11_chained (wsV RX11 107 RX11 yX11_layChain wsX11_layChain) := goodIn_app (goodIn_of _ (by decide +kernel)) ggX11_chained_X11_layChain
set_option maxRecDepth 20000 in
theorem ggX11_chained_X11_behind : GoodIn wsX11_chained wsX11_behind := goodIn_r _ [47, 2, 15, 16, 17, 9, 18, 19, 20, 21, 22, 23, 24, 25, 26, 27, 28, 29, 30, 31, 32, 33, 34, 35, 36, 37, 38, 39, 40, 41, 42, 43, 48, 49, 50, 51, 52, 53, 54, 55, 56, 57, 58, 59, 60, 61, 62, 63, 64, 65, 66, 67, 68, 69, 70, 71] (by decide +kernel) (by decide +kernel)
set_option maxRecDepth 20000 in
theorem gX11_chained_X11_behind : GoodIn wsX11_chained (wsV RX11 103 RX11 yX11_behind wsX11_behind) := goodIn_app (goodIn_of _ (by decide +kernel)) ggX11_chained_X11_behind
theorem dX11_chained_0 : decode cX11_chained 0 = .ok (.iload_n 1, 1) := by decide +kernel
theorem dX11_chained_1 : decode cX11_chained 1 = .ok (.i2l, 1) := by decide +kernel
theorem dX11_chained_2 : decode cX11_chained 2 = .ok (.lconst 0, 1) := by decide +kernel
theorem dX11_chained_3 : decode cX11_chained 3 = .ok (.ldc2_w 89, 3) := by decide +kernel
theorem dX11_chained_6 : decode cX11_chained 6 = .ok (.invokestatic 57, 3) := by decide +kernel
theorem dX11_chained_9 : decode cX11_chained 9 = .ok (.ifCond .eq 19, 3) := by decide +kernel
theorem dX11_chained_12 : decode cX11_chained 12 = .ok (.lload_n 2, 1) := by decide +kernel
theorem dX11_chained_13 : decode cX11_chained 13 = .ok (.lconst 0, 1) := by decide +kernel
theorem dX11_chained_14 : decode cX11_chained 14 = .ok (.ldc2_w 68, 3) := by decide +kernel
theorem dX11_chained_17 : decode cX11_chained 17 = .ok (.invokestatic 57, 3) := by decide +kernel
theorem dX11_chained_20 : decode cX11_chained 20 = .ok (.ifCond .eq 8, 3) := by decide +kernel
theorem dX11_chained_23 : decode cX11_chained 23 = .ok (.iload 4, 2) := by decide +kernel
theorem dX11_chained_25 : decode cX11_chained 25 = .ok (.ifCond .ge 7, 3) := by decide +kernel
theorem dX11_chained_28 : decode cX11_chained 28 = .ok (.ldc2_w 95, 3) := by decide +kernel
theorem dX11_chained_31 : decode cX11_chained 31 = .ok (.lreturn, 1) := by decide +kernel
theorem dX11_chained_32 : decode cX11_chained 32 = .ok (.aload_n 0, 1) := by decide +kernel
theorem dX11_chained_33 : decode cX11_chained 33 = .ok (.iload_n 1, 1) := by decide +kernel
theorem dX11_chained_34 : decode cX11_chained 34 = .ok (.lload_n 2, 1) := by decide +kernel
theorem dX11_chained_35 : decode cX11_chained 35 = .ok (.invokevirtual 107, 3) := by decide +kernel
theorem dX11_chained_38 : decode cX11_chained 38 = .ok (.iload 4, 2) := by decide +kernel
theorem dX11_chained_40 : decode cX11_chained 40 = .ok (.aload_n 0, 1) := by decide +kernel
theorem dX11_chained_41 : decode cX11_chained 41 = .ok (.getfield 100, 3) := by decide +kernel
theorem dX11_chained_44 : decode cX11_chained 44 = .ok (.if_icmp .lt 14, 3) := by decide +kernel
theorem dX11_chained_47 : decode cX11_chained 47 = .ok (.aload_n 0, 1) := by decide +kernel
theorem dX11_chained_48 : decode cX11_chained 48 = .ok (.getfield 97, 3) := by decide +kernel
theorem dX11_chained_51 : decode cX11_chained 51 = .ok (.ifCond .ne 7, 3) := by decide +kernel
theorem dX11_chained_54 : decode cX11_chained 54 = .ok (.ldc2_w 111, 3) := by decide +kernel
theorem dX11_chained_57 : decode cX11_chained 57 = .ok (.lreturn, 1) := by decide +kernel
theorem dX11_chained_58 : decode cX11_chained 58 = .ok (.aload_n 0, 1) := by decide +kernel
theorem dX11_chained_59 : decode cX11_chained 59 = .ok (.iload_n 1, 1) := by decide +kernel
theorem dX11_chained_60 : decode cX11_chained 60 = .ok (.lload_n 2, 1) := by decide +kernel
theorem dX11_chained_61 : decode cX11_chained 61 = .ok (.iload 4, 2) := by decide +kernel
theorem dX11_chained_63 : decode cX11_chained 63 = .ok (.aload_n 0, 1) := by decide +kernel
theorem dX11_chained_64 : decode cX11_chained 64 = .ok (.getfield 100, 3) := by decide +kernel
theorem dX11_chained_67 : decode cX11_chained 67 = .ok (.if_icmp .ge 8, 3) := by decide +kernel
theorem dX11_chained_70 : decode cX11_chained 70 = .ok (.iload 4, 2) := by decide +kernel
theorem dX11_chained_72 : decode cX11_chained 72 = .ok (.goto 20, 3) := by decide +kernel
theorem dX11_chained_75 : decode cX11_chained 75 = .ok (.aload_n 0, 1) := by decide +kernel
theorem dX11_chained_76 : decode cX11_chained 76 = .ok (.getfield 100, 3) := by decide +kernel
theorem dX11_chained_79 : decode cX11_chained 79 = .ok (.iload 4, 2) := by decide +kernel
theorem dX11_chained_81 : decode cX11_chained 81 = .ok (.aload_n 0, 1) := by decide +kernel
theorem dX11_chained_82 : decode cX11_chained 82 = .ok (.getfield 100, 3) := by decide +kernel
theorem dX11_chained_85 : decode cX11_chained 85 = .ok (.isub, 1) := by decide +kernel
theorem dX11_chained_86 : decode cX11_chained 86 = .ok (.aload_n 0, 1) := by decide +kernel
theorem dX11_chained_87 : decode cX11_chained 87 = .ok (.getfield 97, 3) := by decide +kernel
theorem dX11_chained_90 : decode cX11_chained 90 = .ok (.irem, 1) := by decide +kernel
theorem dX11_chained_91 : decode cX11_chained 91 = .ok (.iadd, 1) := by decide +kernel
theorem dX11_chained_92 : decode cX11_chained 92 = .ok (.invokevirtual 103, 3) := by decide +kernel
theorem dX11_chained_95 : decode cX11_chained 95 = .ok (.lreturn, 1) := by decide +kernel
set_option maxRecDepth 20000 in
theorem ggX11_leastOf_X11_behind : GoodIn wsX11_leastOf wsX11_behind := goodIn_r _ [7, 8, 9, 10, 11, 6, 12, 13, 14, 15, 16, 17, 18, 19, 20, 21, 22, 23, 24, 25, 26, 27, 28, 29, 30, 31, 32, 33, 34, 35, 36, 37, 38, 39, 40, 41, 42, 43, 44, 45, 46, 47, 48, 49, 50, 51, 52, 53, 54, 55, 56, 57, 58, 59, 60, 61] (by decide +kernel) (by decide +kernel)
set_option maxRecDepth 20000 in
theorem gX11_leastOf_X11_behind : GoodIn wsX11_leastOf (wsV RX11 103 RX11 yX11_behind wsX11_behind) := goodIn_app (goodIn_of _ (by decide +kernel)) ggX11_leastOf_X11_behind
set_option maxRecDepth 20000 in
theorem ggX11_leastOf_X11_stepOf : GoodIn wsX11_leastOf wsX11_stepOf := goodIn_r _ [12, 13, 14, 15, 6, 16, 17, 18, 19, 8, 20, 21, 22, 23, 24, 25, 26, 27, 28, 29, 30, 31, 32, 33, 34, 35, 36, 37, 38, 39, 40, 41, 42, 43, 44, 45, 46, 47, 48, 49, 50, 51, 52, 53, 54, 55, 56, 57, 58, 59, 60, 61] (by decide +kernel) (by decide +kernel)
set_option maxRecDepth 20000 in
theorem gX11_leastOf_X11_stepOf : GoodIn wsX11_leastOf (wsV RX11 91 RX11 yX11_stepOf wsX11_stepOf) := goodIn_app (goodIn_of _ (by decide +kernel)) ggX11_leastOf_X11_stepOf
theorem dX11_leastOf_0 : decode cX11_leastOf 0 = .ok (.aload_n 0, 1) := by decide +kernel
theorem dX11_leastOf_1 : decode cX11_leastOf 1 = .ok (.iload_n 1, 1) := by decide +kernel
theorem dX11_leastOf_2 : decode cX11_leastOf 2 = .ok (.lload_n 2, 1) := by decide +kernel
theorem dX11_leastOf_3 : decode cX11_leastOf 3 = .ok (.aload_n 0, 1) := by decide +kernel
theorem dX11_leastOf_4 : decode cX11_leastOf 4 = .ok (.getfield 100, 3) := by decide +kernel
theorem dX11_leastOf_7 : decode cX11_leastOf 7 = .ok (.invokevirtual 103, 3) := by decide +kernel
theorem dX11_leastOf_10 : decode cX11_leastOf 10 = .ok (.lstore 4, 2) := by decide +kernel
theorem dX11_leastOf_12 : decode cX11_leastOf 12 = .ok (.lload 4, 2) := by decide +kernel
theorem dX11_leastOf_14 : decode cX11_leastOf 14 = .ok (.lstore 6, 2) := by decide +kernel
theorem dX11_leastOf_16 : decode cX11_leastOf 16 = .ok (.iconst 1, 1) := by decide +kernel
theorem dX11_leastOf_17 : decode cX11_leastOf 17 = .ok (.istore 8, 2) := by decide +kernel
theorem dX11_leastOf_19 : decode cX11_leastOf 19 = .ok (.iload 8, 2) := by decide +kernel
theorem dX11_leastOf_21 : decode cX11_leastOf 21 = .ok (.aload_n 0, 1) := by decide +kernel
theorem dX11_leastOf_22 : decode cX11_leastOf 22 = .ok (.getfield 97, 3) := by decide +kernel
theorem dX11_leastOf_25 : decode cX11_leastOf 25 = .ok (.if_icmp .ge 35, 3) := by decide +kernel
theorem dX11_leastOf_28 : decode cX11_leastOf 28 = .ok (.aload_n 0, 1) := by decide +kernel
theorem dX11_leastOf_29 : decode cX11_leastOf 29 = .ok (.iload_n 1, 1) := by decide +kernel
theorem dX11_leastOf_30 : decode cX11_leastOf 30 = .ok (.lload 4, 2) := by decide +kernel
theorem dX11_leastOf_32 : decode cX11_leastOf 32 = .ok (.invokevirtual 91, 3) := by decide +kernel
theorem dX11_leastOf_35 : decode cX11_leastOf 35 = .ok (.lstore 4, 2) := by decide +kernel
theorem dX11_leastOf_37 : decode cX11_leastOf 37 = .ok (.lload 4, 2) := by decide +kernel
theorem dX11_leastOf_39 : decode cX11_leastOf 39 = .ok (.lload 6, 2) := by decide +kernel
theorem dX11_leastOf_41 : decode cX11_leastOf 41 = .ok (.lcmp, 1) := by decide +kernel
theorem dX11_leastOf_42 : decode cX11_leastOf 42 = .ok (.ifCond .ge 8, 3) := by decide +kernel
theorem dX11_leastOf_45 : decode cX11_leastOf 45 = .ok (.lload 4, 2) := by decide +kernel
theorem dX11_leastOf_47 : decode cX11_leastOf 47 = .ok (.goto 5, 3) := by decide +kernel
theorem dX11_leastOf_50 : decode cX11_leastOf 50 = .ok (.lload 6, 2) := by decide +kernel
theorem dX11_leastOf_52 : decode cX11_leastOf 52 = .ok (.lstore 6, 2) := by decide +kernel
theorem dX11_leastOf_54 : decode cX11_leastOf 54 = .ok (.iinc 8 1, 3) := by decide +kernel
theorem dX11_leastOf_57 : decode cX11_leastOf 57 = .ok (.goto (-38), 3) := by decide +kernel
theorem dX11_leastOf_60 : decode cX11_leastOf 60 = .ok (.lload 6, 2) := by decide +kernel
theorem dX11_leastOf_62 : decode cX11_leastOf 62 = .ok (.lreturn, 1) := by decide +kernel
theorem dX11_addRound_0 : decode cX11_addRound 0 = .ok (.iconst 0, 1) := by decide +kernel
theorem dX11_addRound_1 : decode cX11_addRound 1 = .ok (.istore_n 3, 1) := by decide +kernel
theorem dX11_addRound_2 : decode cX11_addRound 2 = .ok (.aload_n 0, 1) := by decide +kernel
theorem dX11_addRound_3 : decode cX11_addRound 3 = .ok (.getfield 113, 3) := by decide +kernel
theorem dX11_addRound_6 : decode cX11_addRound 6 = .ok (.istore 4, 2) := by decide +kernel
theorem dX11_addRound_8 : decode cX11_addRound 8 = .ok (.iload_n 3, 1) := by decide +kernel
theorem dX11_addRound_9 : decode cX11_addRound 9 = .ok (.iload 4, 2) := by decide +kernel
theorem dX11_addRound_11 : decode cX11_addRound 11 = .ok (.if_icmp .ge 38, 3) := by decide +kernel
theorem dX11_addRound_14 : decode cX11_addRound 14 = .ok (.iload_n 3, 1) := by decide +kernel
theorem dX11_addRound_15 : decode cX11_addRound 15 = .ok (.iload 4, 2) := by decide +kernel
theorem dX11_addRound_17 : decode cX11_addRound 17 = .ok (.iadd, 1) := by decide +kernel
theorem dX11_addRound_18 : decode cX11_addRound 18 = .ok (.iconst 2, 1) := by decide +kernel
theorem dX11_addRound_19 : decode cX11_addRound 19 = .ok (.idiv, 1) := by decide +kernel
theorem dX11_addRound_20 : decode cX11_addRound 20 = .ok (.istore 5, 2) := by decide +kernel
theorem dX11_addRound_22 : decode cX11_addRound 22 = .ok (.aload_n 0, 1) := by decide +kernel
theorem dX11_addRound_23 : decode cX11_addRound 23 = .ok (.getfield 20, 3) := by decide +kernel
theorem dX11_addRound_26 : decode cX11_addRound 26 = .ok (.iload 5, 2) := by decide +kernel
theorem dX11_addRound_28 : decode cX11_addRound 28 = .ok (.laload, 1) := by decide +kernel
theorem dX11_addRound_29 : decode cX11_addRound 29 = .ok (.lload_n 1, 1) := by decide +kernel
theorem dX11_addRound_30 : decode cX11_addRound 30 = .ok (.lcmp, 1) := by decide +kernel
theorem dX11_addRound_31 : decode cX11_addRound 31 = .ok (.ifCond .ge 11, 3) := by decide +kernel
theorem dX11_addRound_34 : decode cX11_addRound 34 = .ok (.iload 5, 2) := by decide +kernel
theorem dX11_addRound_36 : decode cX11_addRound 36 = .ok (.iconst 1, 1) := by decide +kernel
theorem dX11_addRound_37 : decode cX11_addRound 37 = .ok (.iadd, 1) := by decide +kernel
theorem dX11_addRound_38 : decode cX11_addRound 38 = .ok (.istore_n 3, 1) := by decide +kernel
theorem dX11_addRound_39 : decode cX11_addRound 39 = .ok (.goto 7, 3) := by decide +kernel
theorem dX11_addRound_42 : decode cX11_addRound 42 = .ok (.iload 5, 2) := by decide +kernel
theorem dX11_addRound_44 : decode cX11_addRound 44 = .ok (.istore 4, 2) := by decide +kernel
theorem dX11_addRound_46 : decode cX11_addRound 46 = .ok (.goto (-38), 3) := by decide +kernel
theorem dX11_addRound_49 : decode cX11_addRound 49 = .ok (.iload_n 3, 1) := by decide +kernel
theorem dX11_addRound_50 : decode cX11_addRound 50 = .ok (.aload_n 0, 1) := by decide +kernel
theorem dX11_addRound_51 : decode cX11_addRound 51 = .ok (.getfield 113, 3) := by decide +kernel
theorem dX11_addRound_54 : decode cX11_addRound 54 = .ok (.if_icmp .eq 14, 3) := by decide +kernel
theorem dX11_addRound_57 : decode cX11_addRound 57 = .ok (.aload_n 0, 1) := by decide +kernel
theorem dX11_addRound_58 : decode cX11_addRound 58 = .ok (.getfield 20, 3) := by decide +kernel
theorem dX11_addRound_61 : decode cX11_addRound 61 = .ok (.iload_n 3, 1) := by decide +kernel
theorem dX11_addRound_62 : decode cX11_addRound 62 = .ok (.laload, 1) := by decide +kernel
theorem dX11_addRound_63 : decode cX11_addRound 63 = .ok (.lload_n 1, 1) := by decide +kernel
theorem dX11_addRound_64 : decode cX11_addRound 64 = .ok (.lcmp, 1) := by decide +kernel
theorem dX11_addRound_65 : decode cX11_addRound 65 = .ok (.ifCond .eq 54, 3) := by decide +kernel
theorem dX11_addRound_68 : decode cX11_addRound 68 = .ok (.aload_n 0, 1) := by decide +kernel
theorem dX11_addRound_69 : decode cX11_addRound 69 = .ok (.getfield 113, 3) := by decide +kernel
theorem dX11_addRound_72 : decode cX11_addRound 72 = .ok (.istore 5, 2) := by decide +kernel
theorem dX11_addRound_74 : decode cX11_addRound 74 = .ok (.iload 5, 2) := by decide +kernel
theorem dX11_addRound_76 : decode cX11_addRound 76 = .ok (.iload_n 3, 1) := by decide +kernel
theorem dX11_addRound_77 : decode cX11_addRound 77 = .ok (.if_icmp .le 25, 3) := by decide +kernel
theorem dX11_addRound_80 : decode cX11_addRound 80 = .ok (.aload_n 0, 1) := by decide +kernel
theorem dX11_addRound_81 : decode cX11_addRound 81 = .ok (.getfield 20, 3) := by decide +kernel
theorem dX11_addRound_84 : decode cX11_addRound 84 = .ok (.iload 5, 2) := by decide +kernel
theorem dX11_addRound_86 : decode cX11_addRound 86 = .ok (.aload_n 0, 1) := by decide +kernel
theorem dX11_addRound_87 : decode cX11_addRound 87 = .ok (.getfield 20, 3) := by decide +kernel
theorem dX11_addRound_90 : decode cX11_addRound 90 = .ok (.iload 5, 2) := by decide +kernel
theorem dX11_addRound_92 : decode cX11_addRound 92 = .ok (.iconst 1, 1) := by decide +kernel
theorem dX11_addRound_93 : decode cX11_addRound 93 = .ok (.isub, 1) := by decide +kernel
theorem dX11_addRound_94 : decode cX11_addRound 94 = .ok (.laload, 1) := by decide +kernel
theorem dX11_addRound_95 : decode cX11_addRound 95 = .ok (.lastore, 1) := by decide +kernel
theorem dX11_addRound_96 : decode cX11_addRound 96 = .ok (.iinc 5 (-1), 3) := by decide +kernel
theorem dX11_addRound_99 : decode cX11_addRound 99 = .ok (.goto (-25), 3) := by decide +kernel
theorem dX11_addRound_102 : decode cX11_addRound 102 = .ok (.aload_n 0, 1) := by decide +kernel
theorem dX11_addRound_103 : decode cX11_addRound 103 = .ok (.getfield 20, 3) := by decide +kernel
theorem dX11_addRound_106 : decode cX11_addRound 106 = .ok (.iload_n 3, 1) := by decide +kernel
theorem dX11_addRound_107 : decode cX11_addRound 107 = .ok (.lload_n 1, 1) := by decide +kernel
theorem dX11_addRound_108 : decode cX11_addRound 108 = .ok (.lastore, 1) := by decide +kernel
theorem dX11_addRound_109 : decode cX11_addRound 109 = .ok (.aload_n 0, 1) := by decide +kernel
theorem dX11_addRound_110 : decode cX11_addRound 110 = .ok (.dup, 1) := by decide +kernel
theorem dX11_addRound_111 : decode cX11_addRound 111 = .ok (.getfield 113, 3) := by decide +kernel
theorem dX11_addRound_114 : decode cX11_addRound 114 = .ok (.iconst 1, 1) := by decide +kernel
theorem dX11_addRound_115 : decode cX11_addRound 115 = .ok (.iadd, 1) := by decide +kernel
theorem dX11_addRound_116 : decode cX11_addRound 116 = .ok (.putfield 113, 3) := by decide +kernel
theorem dX11_addRound_119 : decode cX11_addRound 119 = .ok (.return_, 1) := by decide +kernel
set_option maxRecDepth 20000 in
theorem ggX11_rounds_X11_in : GoodIn wsX11_rounds wsX11_in := goodIn_r _ [10] (by decide +kernel) (by decide +kernel)
set_option maxRecDepth 20000 in
theorem gX11_rounds_X11_in : GoodIn wsX11_rounds (va_wsS RX11 57 yX11_in wsX11_in) := goodIn_app (goodIn_of _ (by decide +kernel)) ggX11_rounds_X11_in
set_option maxRecDepth 20000 in
theorem ggX11_rounds_X11_layChain : GoodIn wsX11_rounds wsX11_layChain := goodIn_r _ [14, 15, 4, 16, 17, 18, 19, 9, 20, 21, 22, 23, 24, 25, 26, 27, 28, 29, 30, 31, 32, 33, 34, 35, 36, 37, 38, 39, 40, 41, 42, 43, 44, 45, 46, 47, 48, 49, 58, 59, 60, 61, 62, 63, 64, 65, 66, 67, 68, 69, 70, 71, 72, 73, 74, 75, 76, 77, 78, 79, 80, 81] (by decide +kernel) (by decide +kernel)
set_option maxRecDepth 20000 in
theorem gX11_rounds_X11_layChain : GoodIn wsX11_rounds (wsV RX11 107 RX11 yX11_layChain wsX11_layChain) := goodIn_app (goodIn_of _ (by decide +kernel)) ggX11_rounds_X11_layChain
set_option maxRecDepth 20000 in
theorem ggX11_rounds_X11_leastOf : GoodIn wsX11_rounds wsX11_leastOf := goodIn_r _ [53, 16, 4, 46, 47, 48, 9, 49, 15, 17, 18, 19, 20, 21, 22, 23, 24, 25, 26, 27, 28, 29, 30, 31, 32, 33, 34, 35, 36, 37, 38, 39, 40, 41, 42, 43, 44, 45, 58, 59, 60, 61, 62, 63, 64, 65, 66, 67, 68, 69, 70, 71, 72, 73, 74, 75, 76, 77, 78, 79, 80, 81] (by decide +kernel) (by decide +kernel)
set_option maxRecDepth 20000 in
theorem gX11_rounds_X11_leastOf : GoodIn wsX11_rounds (wsV RX11 118 RX11 yX11_leastOf wsX11_leastOf) := goodIn_app (goodIn_of _ (by decide +kernel)) ggX11_rounds_X11_leastOf
set_option maxRecDepth 20000 in
theorem ggX11_rounds_X11_addRound : GoodIn wsX11_rounds wsX11_addRound := goodIn_r _ [57, 3, 5, 58, 59, 60, 61, 62, 63, 64, 65, 66, 67, 68, 69, 70, 71, 72, 73, 74, 75, 76, 77, 78, 79, 80, 81] (by decide +kernel) (by decide +kernel)
set_option maxRecDepth 20000 in
theorem gX11_rounds_X11_addRound : GoodIn wsX11_rounds (wsV RX11 121 RX11 yX11_addRound wsX11_addRound) := goodIn_app (goodIn_of _ (by decide +kernel)) ggX11_rounds_X11_addRound
theorem dX11_rounds_0 : decode cX11_rounds 0 = .ok (.iload_n 1, 1) := by decide +kernel
theorem dX11_rounds_1 : decode cX11_rounds 1 = .ok (.ifCond .eq 8, 3) := by decide +kernel
theorem dX11_rounds_4 : decode cX11_rounds 4 = .ok (.iload_n 1, 1) := by decide +kernel
theorem dX11_rounds_5 : decode cX11_rounds 5 = .ok (.iconst 3, 1) := by decide +kernel
theorem dX11_rounds_6 : decode cX11_rounds 6 = .ok (.if_icmp .ne 20, 3) := by decide +kernel
theorem dX11_rounds_9 : decode cX11_rounds 9 = .ok (.iload_n 2, 1) := by decide +kernel
theorem dX11_rounds_10 : decode cX11_rounds 10 = .ok (.i2l, 1) := by decide +kernel
theorem dX11_rounds_11 : decode cX11_rounds 11 = .ok (.lconst 0, 1) := by decide +kernel
theorem dX11_rounds_12 : decode cX11_rounds 12 = .ok (.ldc2_w 116, 3) := by decide +kernel
theorem dX11_rounds_15 : decode cX11_rounds 15 = .ok (.invokestatic 57, 3) := by decide +kernel
theorem dX11_rounds_18 : decode cX11_rounds 18 = .ok (.ifCond .eq 8, 3) := by decide +kernel
theorem dX11_rounds_21 : decode cX11_rounds 21 = .ok (.iload_n 3, 1) := by decide +kernel
theorem dX11_rounds_22 : decode cX11_rounds 22 = .ok (.iconst (-1), 1) := by decide +kernel
theorem dX11_rounds_23 : decode cX11_rounds 23 = .ok (.if_icmp .ge 7, 3) := by decide +kernel
theorem dX11_rounds_26 : decode cX11_rounds 26 = .ok (.ldc2_w 95, 3) := by decide +kernel
theorem dX11_rounds_29 : decode cX11_rounds 29 = .ok (.lreturn, 1) := by decide +kernel
theorem dX11_rounds_30 : decode cX11_rounds 30 = .ok (.aload_n 0, 1) := by decide +kernel
theorem dX11_rounds_31 : decode cX11_rounds 31 = .ok (.iconst 0, 1) := by decide +kernel
theorem dX11_rounds_32 : decode cX11_rounds 32 = .ok (.putfield 113, 3) := by decide +kernel
theorem dX11_rounds_35 : decode cX11_rounds 35 = .ok (.iconst 0, 1) := by decide +kernel
theorem dX11_rounds_36 : decode cX11_rounds 36 = .ok (.istore 4, 2) := by decide +kernel
theorem dX11_rounds_38 : decode cX11_rounds 38 = .ok (.iload 4, 2) := by decide +kernel
theorem dX11_rounds_40 : decode cX11_rounds 40 = .ok (.iload_n 2, 1) := by decide +kernel
theorem dX11_rounds_41 : decode cX11_rounds 41 = .ok (.if_icmp .gt 36, 3) := by decide +kernel
theorem dX11_rounds_44 : decode cX11_rounds 44 = .ok (.aload_n 0, 1) := by decide +kernel
theorem dX11_rounds_45 : decode cX11_rounds 45 = .ok (.iload_n 1, 1) := by decide +kernel
theorem dX11_rounds_46 : decode cX11_rounds 46 = .ok (.iload 4, 2) := by decide +kernel
theorem dX11_rounds_48 : decode cX11_rounds 48 = .ok (.i2l, 1) := by decide +kernel
theorem dX11_rounds_49 : decode cX11_rounds 49 = .ok (.invokevirtual 107, 3) := by decide +kernel
theorem dX11_rounds_52 : decode cX11_rounds 52 = .ok (.aload_n 0, 1) := by decide +kernel
theorem dX11_rounds_53 : decode cX11_rounds 53 = .ok (.getfield 97, 3) := by decide +kernel
theorem dX11_rounds_56 : decode cX11_rounds 56 = .ok (.ifCond .le 15, 3) := by decide +kernel
theorem dX11_rounds_59 : decode cX11_rounds 59 = .ok (.aload_n 0, 1) := by decide +kernel
theorem dX11_rounds_60 : decode cX11_rounds 60 = .ok (.aload_n 0, 1) := by decide +kernel
theorem dX11_rounds_61 : decode cX11_rounds 61 = .ok (.iload_n 1, 1) := by decide +kernel
theorem dX11_rounds_62 : decode cX11_rounds 62 = .ok (.iload 4, 2) := by decide +kernel
theorem dX11_rounds_64 : decode cX11_rounds 64 = .ok (.i2l, 1) := by decide +kernel
theorem dX11_rounds_65 : decode cX11_rounds 65 = .ok (.invokevirtual 118, 3) := by decide +kernel
theorem dX11_rounds_68 : decode cX11_rounds 68 = .ok (.invokevirtual 121, 3) := by decide +kernel
theorem dX11_rounds_71 : decode cX11_rounds 71 = .ok (.iinc 4 1, 3) := by decide +kernel
theorem dX11_rounds_74 : decode cX11_rounds 74 = .ok (.goto (-36), 3) := by decide +kernel
theorem dX11_rounds_77 : decode cX11_rounds 77 = .ok (.iload_n 3, 1) := by decide +kernel
theorem dX11_rounds_78 : decode cX11_rounds 78 = .ok (.iconst (-1), 1) := by decide +kernel
theorem dX11_rounds_79 : decode cX11_rounds 79 = .ok (.if_icmp .ne 11, 3) := by decide +kernel
theorem dX11_rounds_82 : decode cX11_rounds 82 = .ok (.aload_n 0, 1) := by decide +kernel
theorem dX11_rounds_83 : decode cX11_rounds 83 = .ok (.getfield 113, 3) := by decide +kernel
theorem dX11_rounds_86 : decode cX11_rounds 86 = .ok (.i2l, 1) := by decide +kernel
theorem dX11_rounds_87 : decode cX11_rounds 87 = .ok (.goto 23, 3) := by decide +kernel
theorem dX11_rounds_90 : decode cX11_rounds 90 = .ok (.iload_n 3, 1) := by decide +kernel
theorem dX11_rounds_91 : decode cX11_rounds 91 = .ok (.aload_n 0, 1) := by decide +kernel
theorem dX11_rounds_92 : decode cX11_rounds 92 = .ok (.getfield 113, 3) := by decide +kernel
theorem dX11_rounds_95 : decode cX11_rounds 95 = .ok (.if_icmp .ge 12, 3) := by decide +kernel
theorem dX11_rounds_98 : decode cX11_rounds 98 = .ok (.aload_n 0, 1) := by decide +kernel
theorem dX11_rounds_99 : decode cX11_rounds 99 = .ok (.getfield 20, 3) := by decide +kernel
theorem dX11_rounds_102 : decode cX11_rounds 102 = .ok (.iload_n 3, 1) := by decide +kernel
theorem dX11_rounds_103 : decode cX11_rounds 103 = .ok (.laload, 1) := by decide +kernel
theorem dX11_rounds_104 : decode cX11_rounds 104 = .ok (.goto 6, 3) := by decide +kernel
theorem dX11_rounds_107 : decode cX11_rounds 107 = .ok (.ldc2_w 111, 3) := by decide +kernel
theorem dX11_rounds_110 : decode cX11_rounds 110 = .ok (.lreturn, 1) := by decide +kernel
set_option maxRecDepth 20000 in
theorem ggX11_isTo_X11_in : GoodIn wsX11_isTo wsX11_in := goodIn_r _ [6] (by decide +kernel) (by decide +kernel)
set_option maxRecDepth 20000 in
theorem gX11_isTo_X11_in : GoodIn wsX11_isTo (va_wsS RX11 57 yX11_in wsX11_in) := goodIn_app (goodIn_of _ (by decide +kernel)) ggX11_isTo_X11_in
theorem dX11_isTo_0 : decode cX11_isTo 0 = .ok (.iload_n 0, 1) := by decide +kernel
theorem dX11_isTo_1 : decode cX11_isTo 1 = .ok (.i2l, 1) := by decide +kernel
theorem dX11_isTo_2 : decode cX11_isTo 2 = .ok (.lconst 0, 1) := by decide +kernel
theorem dX11_isTo_3 : decode cX11_isTo 3 = .ok (.ldc2_w 89, 3) := by decide +kernel
theorem dX11_isTo_6 : decode cX11_isTo 6 = .ok (.invokestatic 57, 3) := by decide +kernel
theorem dX11_isTo_9 : decode cX11_isTo 9 = .ok (.ifCond .eq 19, 3) := by decide +kernel
theorem dX11_isTo_12 : decode cX11_isTo 12 = .ok (.iload_n 1, 1) := by decide +kernel
theorem dX11_isTo_13 : decode cX11_isTo 13 = .ok (.i2l, 1) := by decide +kernel
theorem dX11_isTo_14 : decode cX11_isTo 14 = .ok (.lconst 0, 1) := by decide +kernel
theorem dX11_isTo_15 : decode cX11_isTo 15 = .ok (.ldc2_w 124, 3) := by decide +kernel
theorem dX11_isTo_18 : decode cX11_isTo 18 = .ok (.invokestatic 57, 3) := by decide +kernel
theorem dX11_isTo_21 : decode cX11_isTo 21 = .ok (.ifCond .eq 7, 3) := by decide +kernel
theorem dX11_isTo_24 : decode cX11_isTo 24 = .ok (.iconst 1, 1) := by decide +kernel
theorem dX11_isTo_25 : decode cX11_isTo 25 = .ok (.goto 4, 3) := by decide +kernel
theorem dX11_isTo_28 : decode cX11_isTo 28 = .ok (.iconst 0, 1) := by decide +kernel
theorem dX11_isTo_29 : decode cX11_isTo 29 = .ok (.ireturn, 1) := by decide +kernel
set_option maxRecDepth 20000 in
theorem ggX11_first_X11_isTo : GoodIn wsX11_first wsX11_isTo := goodIn_r _ [7, 8, 9, 10, 11, 6, 12] (by decide +kernel) (by decide +kernel)
set_option maxRecDepth 20000 in
theorem gX11_first_X11_isTo : GoodIn wsX11_first (va_wsS RX11 126 yX11_isTo wsX11_isTo) := goodIn_app (goodIn_of _ (by decide +kernel)) ggX11_first_X11_isTo
set_option maxRecDepth 20000 in
theorem ggX11_first_X11_in : GoodIn wsX11_first wsX11_in := goodIn_r _ [12] (by decide +kernel) (by decide +kernel)
set_option maxRecDepth 20000 in
theorem gX11_first_X11_in : GoodIn wsX11_first (va_wsS RX11 57 yX11_in wsX11_in) := goodIn_app (goodIn_of _ (by decide +kernel)) ggX11_first_X11_in
set_option maxRecDepth 20000 in
theorem ggX11_first_X11_layChain : GoodIn wsX11_first wsX11_layChain := goodIn_r _ [16, 17, 2, 3, 18, 19, 20, 6, 21, 22, 23, 24, 25, 26, 27, 28, 29, 30, 31, 32, 33, 34, 35, 36, 37, 38, 39, 40, 41, 42, 43, 44, 45, 46, 47, 48, 49, 50, 51, 52, 53, 54, 55, 56, 57, 58, 59, 60, 61, 62, 63, 64, 65, 66, 67, 68, 69, 70, 71, 72, 73, 74] (by decide +kernel) (by decide +kernel)
set_option maxRecDepth 20000 in
theorem gX11_first_X11_layChain : GoodIn wsX11_first (wsV RX11 107 RX11 yX11_layChain wsX11_layChain) := goodIn_app (goodIn_of _ (by decide +kernel)) ggX11_first_X11_layChain
theorem dX11_first_0 : decode cX11_first 0 = .ok (.iload_n 1, 1) := by decide +kernel
theorem dX11_first_1 : decode cX11_first 1 = .ok (.iload_n 3, 1) := by decide +kernel
theorem dX11_first_2 : decode cX11_first 2 = .ok (.invokestatic 126, 3) := by decide +kernel
theorem dX11_first_5 : decode cX11_first 5 = .ok (.ifCond .eq 15, 3) := by decide +kernel
theorem dX11_first_8 : decode cX11_first 8 = .ok (.iload_n 2, 1) := by decide +kernel
theorem dX11_first_9 : decode cX11_first 9 = .ok (.i2l, 1) := by decide +kernel
theorem dX11_first_10 : decode cX11_first 10 = .ok (.lconst 0, 1) := by decide +kernel
theorem dX11_first_11 : decode cX11_first 11 = .ok (.ldc2_w 130, 3) := by decide +kernel
theorem dX11_first_14 : decode cX11_first 14 = .ok (.invokestatic 57, 3) := by decide +kernel
theorem dX11_first_17 : decode cX11_first 17 = .ok (.ifCond .ne 5, 3) := by decide +kernel
theorem dX11_first_20 : decode cX11_first 20 = .ok (.iconst (-1), 1) := by decide +kernel
theorem dX11_first_21 : decode cX11_first 21 = .ok (.ireturn, 1) := by decide +kernel
theorem dX11_first_22 : decode cX11_first 22 = .ok (.iconst 0, 1) := by decide +kernel
theorem dX11_first_23 : decode cX11_first 23 = .ok (.istore 4, 2) := by decide +kernel
theorem dX11_first_25 : decode cX11_first 25 = .ok (.iload 4, 2) := by decide +kernel
theorem dX11_first_27 : decode cX11_first 27 = .ok (.iload_n 3, 1) := by decide +kernel
theorem dX11_first_28 : decode cX11_first 28 = .ok (.if_icmp .gt 35, 3) := by decide +kernel
theorem dX11_first_31 : decode cX11_first 31 = .ok (.aload_n 0, 1) := by decide +kernel
theorem dX11_first_32 : decode cX11_first 32 = .ok (.iload_n 1, 1) := by decide +kernel
theorem dX11_first_33 : decode cX11_first 33 = .ok (.iload 4, 2) := by decide +kernel
theorem dX11_first_35 : decode cX11_first 35 = .ok (.i2l, 1) := by decide +kernel
theorem dX11_first_36 : decode cX11_first 36 = .ok (.invokevirtual 107, 3) := by decide +kernel
theorem dX11_first_39 : decode cX11_first 39 = .ok (.aload_n 0, 1) := by decide +kernel
theorem dX11_first_40 : decode cX11_first 40 = .ok (.getfield 97, 3) := by decide +kernel
theorem dX11_first_43 : decode cX11_first 43 = .ok (.ifCond .le 14, 3) := by decide +kernel
theorem dX11_first_46 : decode cX11_first 46 = .ok (.aload_n 0, 1) := by decide +kernel
theorem dX11_first_47 : decode cX11_first 47 = .ok (.getfield 100, 3) := by decide +kernel
theorem dX11_first_50 : decode cX11_first 50 = .ok (.iload_n 2, 1) := by decide +kernel
theorem dX11_first_51 : decode cX11_first 51 = .ok (.if_icmp .ne 6, 3) := by decide +kernel
theorem dX11_first_54 : decode cX11_first 54 = .ok (.iload 4, 2) := by decide +kernel
theorem dX11_first_56 : decode cX11_first 56 = .ok (.ireturn, 1) := by decide +kernel
theorem dX11_first_57 : decode cX11_first 57 = .ok (.iinc 4 1, 3) := by decide +kernel
theorem dX11_first_60 : decode cX11_first 60 = .ok (.goto (-35), 3) := by decide +kernel
theorem dX11_first_63 : decode cX11_first 63 = .ok (.bipush (-4), 2) := by decide +kernel
theorem dX11_first_65 : decode cX11_first 65 = .ok (.ireturn, 1) := by decide +kernel
set_option maxRecDepth 20000 in
theorem ggX11_tallest_X11_isTo : GoodIn wsX11_tallest wsX11_isTo := goodIn_r _ [6, 7, 8, 9, 10, 5, 11] (by decide +kernel) (by decide +kernel)
set_option maxRecDepth 20000 in
theorem gX11_tallest_X11_isTo : GoodIn wsX11_tallest (va_wsS RX11 126 yX11_isTo wsX11_isTo) := goodIn_app (goodIn_of _ (by decide +kernel)) ggX11_tallest_X11_isTo
set_option maxRecDepth 20000 in
theorem ggX11_tallest_X11_in : GoodIn wsX11_tallest wsX11_in := goodIn_r _ [11] (by decide +kernel) (by decide +kernel)
set_option maxRecDepth 20000 in
theorem gX11_tallest_X11_in : GoodIn wsX11_tallest (va_wsS RX11 57 yX11_in wsX11_in) := goodIn_app (goodIn_of _ (by decide +kernel)) ggX11_tallest_X11_in
set_option maxRecDepth 20000 in
theorem ggX11_tallest_X11_layChain : GoodIn wsX11_tallest wsX11_layChain := goodIn_r _ [15, 16, 1, 2, 17, 18, 19, 5, 20, 21, 22, 23, 24, 25, 26, 27, 28, 29, 30, 31, 32, 33, 34, 35, 36, 37, 38, 39, 40, 41, 42, 43, 44, 45, 46, 47, 48, 49, 50, 51, 52, 53, 54, 55, 56, 57, 58, 59, 60, 61, 62, 63, 64, 65, 66, 67, 68, 69, 70, 71, 72, 73] (by decide +kernel) (by decide +kernel)
set_option maxRecDepth 20000 in
theorem gX11_tallest_X11_layChain : GoodIn wsX11_tallest (wsV RX11 107 RX11 yX11_layChain wsX11_layChain) := goodIn_app (goodIn_of _ (by decide +kernel)) ggX11_tallest_X11_layChain
theorem dX11_tallest_0 : decode cX11_tallest 0 = .ok (.iload_n 1, 1) := by decide +kernel
theorem dX11_tallest_1 : decode cX11_tallest 1 = .ok (.iload_n 2, 1) := by decide +kernel
theorem dX11_tallest_2 : decode cX11_tallest 2 = .ok (.invokestatic 126, 3) := by decide +kernel
theorem dX11_tallest_5 : decode cX11_tallest 5 = .ok (.ifCond .eq 13, 3) := by decide +kernel
theorem dX11_tallest_8 : decode cX11_tallest 8 = .ok (.iload_n 3, 1) := by decide +kernel
theorem dX11_tallest_9 : decode cX11_tallest 9 = .ok (.i2l, 1) := by decide +kernel
theorem dX11_tallest_10 : decode cX11_tallest 10 = .ok (.lconst 0, 1) := by decide +kernel
theorem dX11_tallest_11 : decode cX11_tallest 11 = .ok (.lconst 1, 1) := by decide +kernel
theorem dX11_tallest_12 : decode cX11_tallest 12 = .ok (.invokestatic 57, 3) := by decide +kernel
theorem dX11_tallest_15 : decode cX11_tallest 15 = .ok (.ifCond .ne 5, 3) := by decide +kernel
theorem dX11_tallest_18 : decode cX11_tallest 18 = .ok (.iconst (-1), 1) := by decide +kernel
theorem dX11_tallest_19 : decode cX11_tallest 19 = .ok (.ireturn, 1) := by decide +kernel
theorem dX11_tallest_20 : decode cX11_tallest 20 = .ok (.bipush (-4), 2) := by decide +kernel
theorem dX11_tallest_22 : decode cX11_tallest 22 = .ok (.istore 4, 2) := by decide +kernel
theorem dX11_tallest_24 : decode cX11_tallest 24 = .ok (.bipush (-4), 2) := by decide +kernel
theorem dX11_tallest_26 : decode cX11_tallest 26 = .ok (.istore 5, 2) := by decide +kernel
theorem dX11_tallest_28 : decode cX11_tallest 28 = .ok (.iconst 0, 1) := by decide +kernel
theorem dX11_tallest_29 : decode cX11_tallest 29 = .ok (.istore 6, 2) := by decide +kernel
theorem dX11_tallest_31 : decode cX11_tallest 31 = .ok (.iload 6, 2) := by decide +kernel
theorem dX11_tallest_33 : decode cX11_tallest 33 = .ok (.iload_n 2, 1) := by decide +kernel
theorem dX11_tallest_34 : decode cX11_tallest 34 = .ok (.if_icmp .gt 43, 3) := by decide +kernel
theorem dX11_tallest_37 : decode cX11_tallest 37 = .ok (.aload_n 0, 1) := by decide +kernel
theorem dX11_tallest_38 : decode cX11_tallest 38 = .ok (.iload_n 1, 1) := by decide +kernel
theorem dX11_tallest_39 : decode cX11_tallest 39 = .ok (.iload 6, 2) := by decide +kernel
theorem dX11_tallest_41 : decode cX11_tallest 41 = .ok (.i2l, 1) := by decide +kernel
theorem dX11_tallest_42 : decode cX11_tallest 42 = .ok (.invokevirtual 107, 3) := by decide +kernel
theorem dX11_tallest_45 : decode cX11_tallest 45 = .ok (.aload_n 0, 1) := by decide +kernel
theorem dX11_tallest_46 : decode cX11_tallest 46 = .ok (.getfield 97, 3) := by decide +kernel
theorem dX11_tallest_49 : decode cX11_tallest 49 = .ok (.ifCond .le 22, 3) := by decide +kernel
theorem dX11_tallest_52 : decode cX11_tallest 52 = .ok (.aload_n 0, 1) := by decide +kernel
theorem dX11_tallest_53 : decode cX11_tallest 53 = .ok (.getfield 100, 3) := by decide +kernel
theorem dX11_tallest_56 : decode cX11_tallest 56 = .ok (.iload 5, 2) := by decide +kernel
theorem dX11_tallest_58 : decode cX11_tallest 58 = .ok (.if_icmp .le 13, 3) := by decide +kernel
theorem dX11_tallest_61 : decode cX11_tallest 61 = .ok (.iload 6, 2) := by decide +kernel
theorem dX11_tallest_63 : decode cX11_tallest 63 = .ok (.istore 4, 2) := by decide +kernel
theorem dX11_tallest_65 : decode cX11_tallest 65 = .ok (.aload_n 0, 1) := by decide +kernel
theorem dX11_tallest_66 : decode cX11_tallest 66 = .ok (.getfield 100, 3) := by decide +kernel
theorem dX11_tallest_69 : decode cX11_tallest 69 = .ok (.istore 5, 2) := by decide +kernel
theorem dX11_tallest_71 : decode cX11_tallest 71 = .ok (.iinc 6 1, 3) := by decide +kernel
theorem dX11_tallest_74 : decode cX11_tallest 74 = .ok (.goto (-43), 3) := by decide +kernel
theorem dX11_tallest_77 : decode cX11_tallest 77 = .ok (.iload_n 3, 1) := by decide +kernel
theorem dX11_tallest_78 : decode cX11_tallest 78 = .ok (.ifCond .ne 8, 3) := by decide +kernel
theorem dX11_tallest_81 : decode cX11_tallest 81 = .ok (.iload 4, 2) := by decide +kernel
theorem dX11_tallest_83 : decode cX11_tallest 83 = .ok (.goto 5, 3) := by decide +kernel
theorem dX11_tallest_86 : decode cX11_tallest 86 = .ok (.iload 5, 2) := by decide +kernel
theorem dX11_tallest_88 : decode cX11_tallest 88 = .ok (.ireturn, 1) := by decide +kernel
set_option maxRecDepth 20000 in
theorem ggX11_lost_X11_isTo : GoodIn wsX11_lost wsX11_isTo := goodIn_r _ [5, 6, 7, 8, 9, 4, 10] (by decide +kernel) (by decide +kernel)
set_option maxRecDepth 20000 in
theorem gX11_lost_X11_isTo : GoodIn wsX11_lost (va_wsS RX11 126 yX11_isTo wsX11_isTo) := goodIn_app (goodIn_of _ (by decide +kernel)) ggX11_lost_X11_isTo
set_option maxRecDepth 20000 in
theorem ggX11_lost_X11_layChain : GoodIn wsX11_lost wsX11_layChain := goodIn_r _ [14, 15, 1, 16, 17, 18, 19, 4, 20, 21, 22, 23, 24, 25, 26, 27, 28, 29, 30, 31, 32, 33, 34, 35, 36, 37, 38, 39, 40, 41, 42, 43, 44, 45, 46, 47, 48, 49, 50, 51, 52, 53, 54, 55, 56, 57, 58, 59, 60, 61, 62, 63, 64, 65, 66, 67, 68, 69, 70, 71, 72, 73] (by decide +kernel) (by decide +kernel)
set_option maxRecDepth 20000 in
theorem gX11_lost_X11_layChain : GoodIn wsX11_lost (wsV RX11 107 RX11 yX11_layChain wsX11_layChain) := goodIn_app (goodIn_of _ (by decide +kernel)) ggX11_lost_X11_layChain
theorem dX11_lost_0 : decode cX11_lost 0 = .ok (.iload_n 1, 1) := by decide +kernel
theorem dX11_lost_1 : decode cX11_lost 1 = .ok (.iload_n 2, 1) := by decide +kernel
theorem dX11_lost_2 : decode cX11_lost 2 = .ok (.invokestatic 126, 3) := by decide +kernel
theorem dX11_lost_5 : decode cX11_lost 5 = .ok (.ifCond .eq 8, 3) := by decide +kernel
theorem dX11_lost_8 : decode cX11_lost 8 = .ok (.iload_n 3, 1) := by decide +kernel
theorem dX11_lost_9 : decode cX11_lost 9 = .ok (.iconst (-1), 1) := by decide +kernel
theorem dX11_lost_10 : decode cX11_lost 10 = .ok (.if_icmp .ge 5, 3) := by decide +kernel
theorem dX11_lost_13 : decode cX11_lost 13 = .ok (.iconst (-1), 1) := by decide +kernel
theorem dX11_lost_14 : decode cX11_lost 14 = .ok (.ireturn, 1) := by decide +kernel
theorem dX11_lost_15 : decode cX11_lost 15 = .ok (.iconst 0, 1) := by decide +kernel
theorem dX11_lost_16 : decode cX11_lost 16 = .ok (.istore 4, 2) := by decide +kernel
theorem dX11_lost_18 : decode cX11_lost 18 = .ok (.iconst 0, 1) := by decide +kernel
theorem dX11_lost_19 : decode cX11_lost 19 = .ok (.istore 5, 2) := by decide +kernel
theorem dX11_lost_21 : decode cX11_lost 21 = .ok (.iload 5, 2) := by decide +kernel
theorem dX11_lost_23 : decode cX11_lost 23 = .ok (.iload_n 2, 1) := by decide +kernel
theorem dX11_lost_24 : decode cX11_lost 24 = .ok (.if_icmp .gt 50, 3) := by decide +kernel
theorem dX11_lost_27 : decode cX11_lost 27 = .ok (.aload_n 0, 1) := by decide +kernel
theorem dX11_lost_28 : decode cX11_lost 28 = .ok (.iload_n 1, 1) := by decide +kernel
theorem dX11_lost_29 : decode cX11_lost 29 = .ok (.iload 5, 2) := by decide +kernel
theorem dX11_lost_31 : decode cX11_lost 31 = .ok (.i2l, 1) := by decide +kernel
theorem dX11_lost_32 : decode cX11_lost 32 = .ok (.invokevirtual 107, 3) := by decide +kernel
theorem dX11_lost_35 : decode cX11_lost 35 = .ok (.aload_n 0, 1) := by decide +kernel
theorem dX11_lost_36 : decode cX11_lost 36 = .ok (.getfield 97, 3) := by decide +kernel
theorem dX11_lost_39 : decode cX11_lost 39 = .ok (.ifCond .ne 12, 3) := by decide +kernel
theorem dX11_lost_42 : decode cX11_lost 42 = .ok (.iload 4, 2) := by decide +kernel
theorem dX11_lost_44 : decode cX11_lost 44 = .ok (.iload_n 3, 1) := by decide +kernel
theorem dX11_lost_45 : decode cX11_lost 45 = .ok (.if_icmp .ne 6, 3) := by decide +kernel
theorem dX11_lost_48 : decode cX11_lost 48 = .ok (.iload 5, 2) := by decide +kernel
theorem dX11_lost_50 : decode cX11_lost 50 = .ok (.ireturn, 1) := by decide +kernel
theorem dX11_lost_51 : decode cX11_lost 51 = .ok (.iload 4, 2) := by decide +kernel
theorem dX11_lost_53 : decode cX11_lost 53 = .ok (.aload_n 0, 1) := by decide +kernel
theorem dX11_lost_54 : decode cX11_lost 54 = .ok (.getfield 97, 3) := by decide +kernel
theorem dX11_lost_57 : decode cX11_lost 57 = .ok (.ifCond .ne 7, 3) := by decide +kernel
theorem dX11_lost_60 : decode cX11_lost 60 = .ok (.iconst 1, 1) := by decide +kernel
theorem dX11_lost_61 : decode cX11_lost 61 = .ok (.goto 4, 3) := by decide +kernel
theorem dX11_lost_64 : decode cX11_lost 64 = .ok (.iconst 0, 1) := by decide +kernel
theorem dX11_lost_65 : decode cX11_lost 65 = .ok (.iadd, 1) := by decide +kernel
theorem dX11_lost_66 : decode cX11_lost 66 = .ok (.istore 4, 2) := by decide +kernel
theorem dX11_lost_68 : decode cX11_lost 68 = .ok (.iinc 5 1, 3) := by decide +kernel
theorem dX11_lost_71 : decode cX11_lost 71 = .ok (.goto (-50), 3) := by decide +kernel
theorem dX11_lost_74 : decode cX11_lost 74 = .ok (.iload_n 3, 1) := by decide +kernel
theorem dX11_lost_75 : decode cX11_lost 75 = .ok (.iconst (-1), 1) := by decide +kernel
theorem dX11_lost_76 : decode cX11_lost 76 = .ok (.if_icmp .ne 8, 3) := by decide +kernel
theorem dX11_lost_79 : decode cX11_lost 79 = .ok (.iload 4, 2) := by decide +kernel
theorem dX11_lost_81 : decode cX11_lost 81 = .ok (.goto 5, 3) := by decide +kernel
theorem dX11_lost_84 : decode cX11_lost 84 = .ok (.bipush (-4), 2) := by decide +kernel
theorem dX11_lost_86 : decode cX11_lost 86 = .ok (.ireturn, 1) := by decide +kernel
set_option maxRecDepth 20000 in
theorem ggX11_come_X11_in : GoodIn wsX11_come wsX11_in := goodIn_r _ [8] (by decide +kernel) (by decide +kernel)
set_option maxRecDepth 20000 in
theorem gX11_come_X11_in : GoodIn wsX11_come (va_wsS RX11 57 yX11_in wsX11_in) := goodIn_app (goodIn_of _ (by decide +kernel)) ggX11_come_X11_in
set_option maxRecDepth 20000 in
theorem ggX11_come_X11_layChain : GoodIn wsX11_come wsX11_layChain := goodIn_r _ [12, 2, 3, 4, 13, 14, 15, 7, 16, 17, 18, 19, 20, 21, 22, 23, 24, 25, 26, 27, 28, 29, 30, 31, 32, 33, 34, 35, 36, 37, 38, 39, 40, 41, 42, 43, 44, 45, 50, 51, 52, 53, 54, 55, 56, 57, 58, 59, 60, 61, 62, 63, 64, 65, 66, 67, 68, 69, 70, 71, 72, 73] (by decide +kernel) (by decide +kernel)
set_option maxRecDepth 20000 in
theorem gX11_come_X11_layChain : GoodIn wsX11_come (wsV RX11 107 RX11 yX11_layChain wsX11_layChain) := goodIn_app (goodIn_of _ (by decide +kernel)) ggX11_come_X11_layChain
set_option maxRecDepth 20000 in
theorem ggX11_come_X11_leastOf : GoodIn wsX11_come wsX11_leastOf := goodIn_r _ [49, 4, 3, 42, 43, 44, 7, 45, 2, 13, 14, 15, 16, 17, 18, 19, 20, 21, 22, 23, 24, 25, 26, 27, 28, 29, 30, 31, 32, 33, 34, 35, 36, 37, 38, 39, 40, 41, 50, 51, 52, 53, 54, 55, 56, 57, 58, 59, 60, 61, 62, 63, 64, 65, 66, 67, 68, 69, 70, 71, 72, 73] (by decide +kernel) (by decide +kernel)
set_option maxRecDepth 20000 in
theorem gX11_come_X11_leastOf : GoodIn wsX11_come (wsV RX11 118 RX11 yX11_leastOf wsX11_leastOf) := goodIn_app (goodIn_of _ (by decide +kernel)) ggX11_come_X11_leastOf
theorem dX11_come_0 : decode cX11_come 0 = .ok (.iload_n 1, 1) := by decide +kernel
theorem dX11_come_1 : decode cX11_come 1 = .ok (.ifCond .eq 8, 3) := by decide +kernel
theorem dX11_come_4 : decode cX11_come 4 = .ok (.iload_n 1, 1) := by decide +kernel
