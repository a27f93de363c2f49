theorem dX0_tailFrom_123 : decode cX0_tailFrom 123 = .ok (.iconst 0, 1) := by decide +kernel
theorem dX0_tailFrom_124 : decode cX0_tailFrom 124 = .ok (.goto 14, 3) := by decide +kernel
theorem dX0_tailFrom_127 : decode cX0_tailFrom 127 = .ok (.aload_n 0, 1) := by decide +kernel
theorem dX0_tailFrom_128 : decode cX0_tailFrom 128 = .ok (.getfield 42, 3) := by decide +kernel
theorem dX0_tailFrom_131 : decode cX0_tailFrom 131 = .ok (.getfield 68, 3) := by decide +kernel
theorem dX0_tailFrom_134 : decode cX0_tailFrom 134 = .ok (.iload_n 3, 1) := by decide +kernel
theorem dX0_tailFrom_135 : decode cX0_tailFrom 135 = .ok (.iaload, 1) := by decide +kernel
theorem dX0_tailFrom_136 : decode cX0_tailFrom 136 = .ok (.iload_n 2, 1) := by decide +kernel
theorem dX0_tailFrom_137 : decode cX0_tailFrom 137 = .ok (.iadd, 1) := by decide +kernel
theorem dX0_tailFrom_138 : decode cX0_tailFrom 138 = .ok (.istore 5, 2) := by decide +kernel
theorem dX0_tailFrom_140 : decode cX0_tailFrom 140 = .ok (.iload 4, 2) := by decide +kernel
theorem dX0_tailFrom_142 : decode cX0_tailFrom 142 = .ok (.ifCond .lt 28, 3) := by decide +kernel
theorem dX0_tailFrom_145 : decode cX0_tailFrom 145 = .ok (.iload 4, 2) := by decide +kernel
theorem dX0_tailFrom_147 : decode cX0_tailFrom 147 = .ok (.aload_n 0, 1) := by decide +kernel
theorem dX0_tailFrom_148 : decode cX0_tailFrom 148 = .ok (.getfield 19, 3) := by decide +kernel
theorem dX0_tailFrom_151 : decode cX0_tailFrom 151 = .ok (.if_icmp .ge 19, 3) := by decide +kernel
theorem dX0_tailFrom_154 : decode cX0_tailFrom 154 = .ok (.iload 5, 2) := by decide +kernel
theorem dX0_tailFrom_156 : decode cX0_tailFrom 156 = .ok (.aload_n 0, 1) := by decide +kernel
theorem dX0_tailFrom_157 : decode cX0_tailFrom 157 = .ok (.getfield 26, 3) := by decide +kernel
theorem dX0_tailFrom_160 : decode cX0_tailFrom 160 = .ok (.iload 4, 2) := by decide +kernel
theorem dX0_tailFrom_162 : decode cX0_tailFrom 162 = .ok (.iaload, 1) := by decide +kernel
theorem dX0_tailFrom_163 : decode cX0_tailFrom 163 = .ok (.iadd, 1) := by decide +kernel
theorem dX0_tailFrom_164 : decode cX0_tailFrom 164 = .ok (.sipush 300, 3) := by decide +kernel
theorem dX0_tailFrom_167 : decode cX0_tailFrom 167 = .ok (.if_icmp .le 12, 3) := by decide +kernel
theorem dX0_tailFrom_170 : decode cX0_tailFrom 170 = .ok (.iconst (-1), 1) := by decide +kernel
theorem dX0_tailFrom_171 : decode cX0_tailFrom 171 = .ok (.istore 4, 2) := by decide +kernel
theorem dX0_tailFrom_173 : decode cX0_tailFrom 173 = .ok (.iconst (-1), 1) := by decide +kernel
theorem dX0_tailFrom_174 : decode cX0_tailFrom 174 = .ok (.istore 5, 2) := by decide +kernel
theorem dX0_tailFrom_176 : decode cX0_tailFrom 176 = .ok (.goto 21, 3) := by decide +kernel
theorem dX0_tailFrom_179 : decode cX0_tailFrom 179 = .ok (.aload_n 0, 1) := by decide +kernel
theorem dX0_tailFrom_180 : decode cX0_tailFrom 180 = .ok (.getfield 29, 3) := by decide +kernel
theorem dX0_tailFrom_183 : decode cX0_tailFrom 183 = .ok (.iload 4, 2) := by decide +kernel
theorem dX0_tailFrom_185 : decode cX0_tailFrom 185 = .ok (.aload_n 0, 1) := by decide +kernel
theorem dX0_tailFrom_186 : decode cX0_tailFrom 186 = .ok (.getfield 29, 3) := by decide +kernel
theorem dX0_tailFrom_189 : decode cX0_tailFrom 189 = .ok (.iload 4, 2) := by decide +kernel
theorem dX0_tailFrom_191 : decode cX0_tailFrom 191 = .ok (.iaload, 1) := by decide +kernel
theorem dX0_tailFrom_192 : decode cX0_tailFrom 192 = .ok (.iload_n 1, 1) := by decide +kernel
theorem dX0_tailFrom_193 : decode cX0_tailFrom 193 = .ok (.invokestatic 71, 3) := by decide +kernel
theorem dX0_tailFrom_196 : decode cX0_tailFrom 196 = .ok (.iastore, 1) := by decide +kernel
theorem dX0_tailFrom_197 : decode cX0_tailFrom 197 = .ok (.iload_n 1, 1) := by decide +kernel
theorem dX0_tailFrom_198 : decode cX0_tailFrom 198 = .ok (.aload_n 0, 1) := by decide +kernel
theorem dX0_tailFrom_199 : decode cX0_tailFrom 199 = .ok (.getfield 15, 3) := by decide +kernel
theorem dX0_tailFrom_202 : decode cX0_tailFrom 202 = .ok (.arraylength, 1) := by decide +kernel
theorem dX0_tailFrom_203 : decode cX0_tailFrom 203 = .ok (.if_icmp .ge 11, 3) := by decide +kernel
theorem dX0_tailFrom_206 : decode cX0_tailFrom 206 = .ok (.aload_n 0, 1) := by decide +kernel
theorem dX0_tailFrom_207 : decode cX0_tailFrom 207 = .ok (.getfield 15, 3) := by decide +kernel
theorem dX0_tailFrom_210 : decode cX0_tailFrom 210 = .ok (.iload_n 1, 1) := by decide +kernel
theorem dX0_tailFrom_211 : decode cX0_tailFrom 211 = .ok (.iload 4, 2) := by decide +kernel
theorem dX0_tailFrom_213 : decode cX0_tailFrom 213 = .ok (.iastore, 1) := by decide +kernel
theorem dX0_tailFrom_214 : decode cX0_tailFrom 214 = .ok (.iload 5, 2) := by decide +kernel
theorem dX0_tailFrom_216 : decode cX0_tailFrom 216 = .ok (.ireturn, 1) := by decide +kernel
set_option maxRecDepth 20000 in
theorem ggX0_leastAt_X10_countOrNone : GoodIn wsX0_leastAt wsX10_countOrNone := goodIn_r _ [7] (by decide +kernel) (by decide +kernel)
set_option maxRecDepth 20000 in
theorem gX0_leastAt_X10_countOrNone_n77 : GoodIn wsX0_leastAt (wsX10_countOrNone) := ggX0_leastAt_X10_countOrNone
theorem dX0_leastAt_0 : decode cX0_leastAt 0 = .ok (.iconst 0, 1) := by decide +kernel
theorem dX0_leastAt_1 : decode cX0_leastAt 1 = .ok (.istore_n 3, 1) := by decide +kernel
theorem dX0_leastAt_2 : decode cX0_leastAt 2 = .ok (.iconst 0, 1) := by decide +kernel
theorem dX0_leastAt_3 : decode cX0_leastAt 3 = .ok (.istore 4, 2) := by decide +kernel
theorem dX0_leastAt_5 : decode cX0_leastAt 5 = .ok (.iload 4, 2) := by decide +kernel
theorem dX0_leastAt_7 : decode cX0_leastAt 7 = .ok (.aload_n 0, 1) := by decide +kernel
theorem dX0_leastAt_8 : decode cX0_leastAt 8 = .ok (.getfield 19, 3) := by decide +kernel
theorem dX0_leastAt_11 : decode cX0_leastAt 11 = .ok (.if_icmp .ge 45, 3) := by decide +kernel
theorem dX0_leastAt_14 : decode cX0_leastAt 14 = .ok (.aload_n 0, 1) := by decide +kernel
theorem dX0_leastAt_15 : decode cX0_leastAt 15 = .ok (.getfield 32, 3) := by decide +kernel
theorem dX0_leastAt_18 : decode cX0_leastAt 18 = .ok (.iload 4, 2) := by decide +kernel
theorem dX0_leastAt_20 : decode cX0_leastAt 20 = .ok (.iaload, 1) := by decide +kernel
theorem dX0_leastAt_21 : decode cX0_leastAt 21 = .ok (.istore 5, 2) := by decide +kernel
theorem dX0_leastAt_23 : decode cX0_leastAt 23 = .ok (.aload_n 0, 1) := by decide +kernel
theorem dX0_leastAt_24 : decode cX0_leastAt 24 = .ok (.getfield 29, 3) := by decide +kernel
theorem dX0_leastAt_27 : decode cX0_leastAt 27 = .ok (.iload 5, 2) := by decide +kernel
theorem dX0_leastAt_29 : decode cX0_leastAt 29 = .ok (.iaload, 1) := by decide +kernel
theorem dX0_leastAt_30 : decode cX0_leastAt 30 = .ok (.iload_n 1, 1) := by decide +kernel
theorem dX0_leastAt_31 : decode cX0_leastAt 31 = .ok (.if_icmp .gt 19, 3) := by decide +kernel
theorem dX0_leastAt_34 : decode cX0_leastAt 34 = .ok (.iload_n 3, 1) := by decide +kernel
theorem dX0_leastAt_35 : decode cX0_leastAt 35 = .ok (.iload_n 2, 1) := by decide +kernel
theorem dX0_leastAt_36 : decode cX0_leastAt 36 = .ok (.if_icmp .ne 11, 3) := by decide +kernel
theorem dX0_leastAt_39 : decode cX0_leastAt 39 = .ok (.aload_n 0, 1) := by decide +kernel
theorem dX0_leastAt_40 : decode cX0_leastAt 40 = .ok (.getfield 22, 3) := by decide +kernel
theorem dX0_leastAt_43 : decode cX0_leastAt 43 = .ok (.iload 5, 2) := by decide +kernel
theorem dX0_leastAt_45 : decode cX0_leastAt 45 = .ok (.laload, 1) := by decide +kernel
theorem dX0_leastAt_46 : decode cX0_leastAt 46 = .ok (.lreturn, 1) := by decide +kernel
theorem dX0_leastAt_47 : decode cX0_leastAt 47 = .ok (.iinc 3 1, 3) := by decide +kernel
theorem dX0_leastAt_50 : decode cX0_leastAt 50 = .ok (.iinc 4 1, 3) := by decide +kernel
theorem dX0_leastAt_53 : decode cX0_leastAt 53 = .ok (.goto (-48), 3) := by decide +kernel
theorem dX0_leastAt_56 : decode cX0_leastAt 56 = .ok (.iload_n 2, 1) := by decide +kernel
theorem dX0_leastAt_57 : decode cX0_leastAt 57 = .ok (.iload_n 3, 1) := by decide +kernel
theorem dX0_leastAt_58 : decode cX0_leastAt 58 = .ok (.invokestatic 77, 3) := by decide +kernel
theorem dX0_leastAt_61 : decode cX0_leastAt 61 = .ok (.i2l, 1) := by decide +kernel
theorem dX0_leastAt_62 : decode cX0_leastAt 62 = .ok (.lreturn, 1) := by decide +kernel
set_option maxRecDepth 20000 in
theorem ggX0_comersTo_X0_rankOf : GoodIn wsX0_comersTo wsX0_rankOf := goodIn_r _ [9, 1, 2, 3, 10, 11, 12, 13, 14, 15, 16, 17, 18, 19] (by decide +kernel) (by decide +kernel)
set_option maxRecDepth 20000 in
theorem gX0_comersTo_X0_rankOf : GoodIn wsX0_comersTo (wsV RX0 80 RX0 yX0_rankOf wsX0_rankOf) := goodIn_app (goodIn_of _ (by decide +kernel)) ggX0_comersTo_X0_rankOf
theorem dX0_comersTo_0 : decode cX0_comersTo 0 = .ok (.aload_n 0, 1) := by decide +kernel
theorem dX0_comersTo_1 : decode cX0_comersTo 1 = .ok (.lload_n 1, 1) := by decide +kernel
theorem dX0_comersTo_2 : decode cX0_comersTo 2 = .ok (.invokevirtual 80, 3) := by decide +kernel
theorem dX0_comersTo_5 : decode cX0_comersTo 5 = .ok (.istore 4, 2) := by decide +kernel
theorem dX0_comersTo_7 : decode cX0_comersTo 7 = .ok (.iload 4, 2) := by decide +kernel
theorem dX0_comersTo_9 : decode cX0_comersTo 9 = .ok (.aload_n 0, 1) := by decide +kernel
theorem dX0_comersTo_10 : decode cX0_comersTo 10 = .ok (.getfield 19, 3) := by decide +kernel
theorem dX0_comersTo_13 : decode cX0_comersTo 13 = .ok (.if_icmp .ge 20, 3) := by decide +kernel
theorem dX0_comersTo_16 : decode cX0_comersTo 16 = .ok (.aload_n 0, 1) := by decide +kernel
theorem dX0_comersTo_17 : decode cX0_comersTo 17 = .ok (.getfield 22, 3) := by decide +kernel
theorem dX0_comersTo_20 : decode cX0_comersTo 20 = .ok (.aload_n 0, 1) := by decide +kernel
theorem dX0_comersTo_21 : decode cX0_comersTo 21 = .ok (.getfield 32, 3) := by decide +kernel
theorem dX0_comersTo_24 : decode cX0_comersTo 24 = .ok (.iload 4, 2) := by decide +kernel
theorem dX0_comersTo_26 : decode cX0_comersTo 26 = .ok (.iaload, 1) := by decide +kernel
theorem dX0_comersTo_27 : decode cX0_comersTo 27 = .ok (.laload, 1) := by decide +kernel
theorem dX0_comersTo_28 : decode cX0_comersTo 28 = .ok (.lload_n 1, 1) := by decide +kernel
theorem dX0_comersTo_29 : decode cX0_comersTo 29 = .ok (.lcmp, 1) := by decide +kernel
theorem dX0_comersTo_30 : decode cX0_comersTo 30 = .ok (.ifCond .eq 5, 3) := by decide +kernel
theorem dX0_comersTo_33 : decode cX0_comersTo 33 = .ok (.iconst 0, 1) := by decide +kernel
theorem dX0_comersTo_34 : decode cX0_comersTo 34 = .ok (.ireturn, 1) := by decide +kernel
theorem dX0_comersTo_35 : decode cX0_comersTo 35 = .ok (.iconst 0, 1) := by decide +kernel
theorem dX0_comersTo_36 : decode cX0_comersTo 36 = .ok (.istore 5, 2) := by decide +kernel
theorem dX0_comersTo_38 : decode cX0_comersTo 38 = .ok (.iconst 0, 1) := by decide +kernel
theorem dX0_comersTo_39 : decode cX0_comersTo 39 = .ok (.istore 6, 2) := by decide +kernel
theorem dX0_comersTo_41 : decode cX0_comersTo 41 = .ok (.iload 6, 2) := by decide +kernel
theorem dX0_comersTo_43 : decode cX0_comersTo 43 = .ok (.iload_n 3, 1) := by decide +kernel
theorem dX0_comersTo_44 : decode cX0_comersTo 44 = .ok (.if_icmp .gt 39, 3) := by decide +kernel
theorem dX0_comersTo_47 : decode cX0_comersTo 47 = .ok (.iload 6, 2) := by decide +kernel
theorem dX0_comersTo_49 : decode cX0_comersTo 49 = .ok (.aload_n 0, 1) := by decide +kernel
theorem dX0_comersTo_50 : decode cX0_comersTo 50 = .ok (.getfield 15, 3) := by decide +kernel
theorem dX0_comersTo_53 : decode cX0_comersTo 53 = .ok (.arraylength, 1) := by decide +kernel
theorem dX0_comersTo_54 : decode cX0_comersTo 54 = .ok (.if_icmp .ge 29, 3) := by decide +kernel
theorem dX0_comersTo_57 : decode cX0_comersTo 57 = .ok (.aload_n 0, 1) := by decide +kernel
theorem dX0_comersTo_58 : decode cX0_comersTo 58 = .ok (.getfield 15, 3) := by decide +kernel
theorem dX0_comersTo_61 : decode cX0_comersTo 61 = .ok (.iload 6, 2) := by decide +kernel
theorem dX0_comersTo_63 : decode cX0_comersTo 63 = .ok (.iaload, 1) := by decide +kernel
theorem dX0_comersTo_64 : decode cX0_comersTo 64 = .ok (.aload_n 0, 1) := by decide +kernel
theorem dX0_comersTo_65 : decode cX0_comersTo 65 = .ok (.getfield 32, 3) := by decide +kernel
theorem dX0_comersTo_68 : decode cX0_comersTo 68 = .ok (.iload 4, 2) := by decide +kernel
theorem dX0_comersTo_70 : decode cX0_comersTo 70 = .ok (.iaload, 1) := by decide +kernel
theorem dX0_comersTo_71 : decode cX0_comersTo 71 = .ok (.if_icmp .ne 6, 3) := by decide +kernel
theorem dX0_comersTo_74 : decode cX0_comersTo 74 = .ok (.iinc 5 1, 3) := by decide +kernel
theorem dX0_comersTo_77 : decode cX0_comersTo 77 = .ok (.iinc 6 1, 3) := by decide +kernel
theorem dX0_comersTo_80 : decode cX0_comersTo 80 = .ok (.goto (-39), 3) := by decide +kernel
theorem dX0_comersTo_83 : decode cX0_comersTo 83 = .ok (.iload 5, 2) := by decide +kernel
theorem dX0_comersTo_85 : decode cX0_comersTo 85 = .ok (.ireturn, 1) := by decide +kernel
set_option maxRecDepth 20000 in
theorem ggX0_resolve_X8_put : GoodIn wsX0_resolve wsX8_put := goodIn_r _ [11, 12, 13, 14, 15, 16, 17, 10, 18, 19, 20, 21, 22, 23, 24, 25, 126, 127, 128, 129] (by decide +kernel) (by decide +kernel)
set_option maxRecDepth 20000 in
theorem gX0_resolve_X8_put : GoodIn wsX0_resolve (wsV RX0 84 RX8 yX8_put wsX8_put) := goodIn_app (goodIn_of _ (by decide +kernel)) ggX0_resolve_X8_put
set_option maxRecDepth 20000 in
theorem ggX0_resolve_X1_make : GoodIn wsX0_resolve wsX1_make := goodIn_r _ [30, 31, 32, 33, 29, 34, 35, 36, 37, 38, 39, 40, 41, 42, 43, 44, 45, 46, 47, 48, 49, 50, 51, 52, 53, 54, 55, 56, 130, 131, 132, 133, 134] (by decide +kernel) (by decide +kernel)
set_option maxRecDepth 20000 in
theorem gX0_resolve_X1_make : GoodIn wsX0_resolve (wsV RX0 57 RX1 yX1_make wsX1_make) := goodIn_app (goodIn_of _ (by decide +kernel)) ggX0_resolve_X1_make
set_option maxRecDepth 20000 in
theorem ggX0_resolve_X8_find : GoodIn wsX0_resolve wsX8_find := goodIn_r _ [60, 12, 15, 16, 17, 10, 18, 19, 20, 21, 22, 23, 24, 25, 126, 127, 128, 129] (by decide +kernel) (by decide +kernel)
set_option maxRecDepth 20000 in
theorem gX0_resolve_X8_find : GoodIn wsX0_resolve (wsV RX0 53 RX8 yX8_find wsX8_find) := goodIn_app (goodIn_of _ (by decide +kernel)) ggX0_resolve_X8_find
set_option maxRecDepth 20000 in
theorem ggX0_resolve_X0_roundThrough : GoodIn wsX0_resolve wsX0_roundThrough := goodIn_r _ [65, 3, 4, 66, 67, 68, 69, 70, 71, 72, 26, 27, 28, 29, 30, 31, 32, 33, 34, 35, 36, 37, 38, 39, 40, 41, 42, 43, 44, 45, 46, 47, 48, 49, 50, 51, 52, 53, 54, 55, 56, 73, 74, 75, 64, 76, 77, 78, 79, 80, 81, 82, 83, 84, 85, 86, 87, 88, 89, 90, 91, 92, 93, 94, 95, 96, 97, 98, 99, 100, 101, 102, 103, 104, 105, 106, 107, 108, 116, 117, 118, 119, 120, 121, 122, 123, 124, 125, 130, 131, 132, 133, 134] (by decide +kernel) (by decide +kernel)
set_option maxRecDepth 20000 in
theorem gX0_resolve_X0_roundThrough : GoodIn wsX0_resolve (wsV RX0 88 RX0 yX0_roundThrough wsX0_roundThrough) := goodIn_app (goodIn_of _ (by decide +kernel)) ggX0_resolve_X0_roundThrough
set_option maxRecDepth 20000 in
theorem ggX0_resolve_X0_settle : GoodIn wsX0_resolve wsX0_settle := goodIn_r _ [112, 2, 113, 114, 68, 115, 3, 4, 7, 8, 9, 10, 11, 12, 13, 14, 15, 16, 17, 18, 19, 20, 21, 22, 23, 24, 25, 26, 27, 28, 29, 30, 31, 32, 33, 34, 35, 36, 37, 38, 39, 40, 41, 42, 43, 44, 45, 46, 47, 48, 49, 50, 51, 52, 53, 54, 55, 56, 116, 117, 118, 119, 120, 121, 122, 123, 124, 125, 126, 127, 128, 129, 130, 131, 132, 133, 134] (by decide +kernel) (by decide +kernel)
set_option maxRecDepth 20000 in
theorem gX0_resolve_X0_settle : GoodIn wsX0_resolve (wsV RX0 92 RX0 yX0_settle wsX0_settle) := goodIn_app (goodIn_of _ (by decide +kernel)) ggX0_resolve_X0_settle
theorem dX0_resolve_0 : decode cX0_resolve 0 = .ok (.iconst 0, 1) := by decide +kernel
theorem dX0_resolve_1 : decode cX0_resolve 1 = .ok (.istore_n 3, 1) := by decide +kernel
theorem dX0_resolve_2 : decode cX0_resolve 2 = .ok (.lload_n 1, 1) := by decide +kernel
theorem dX0_resolve_3 : decode cX0_resolve 3 = .ok (.lstore 4, 2) := by decide +kernel
theorem dX0_resolve_5 : decode cX0_resolve 5 = .ok (.iconst (-1), 1) := by decide +kernel
theorem dX0_resolve_6 : decode cX0_resolve 6 = .ok (.istore 6, 2) := by decide +kernel
theorem dX0_resolve_8 : decode cX0_resolve 8 = .ok (.iload 6, 2) := by decide +kernel
theorem dX0_resolve_10 : decode cX0_resolve 10 = .ok (.ifCond .ge 56, 3) := by decide +kernel
theorem dX0_resolve_13 : decode cX0_resolve 13 = .ok (.iload_n 3, 1) := by decide +kernel
theorem dX0_resolve_14 : decode cX0_resolve 14 = .ok (.ldc 83, 2) := by decide +kernel
theorem dX0_resolve_16 : decode cX0_resolve 16 = .ok (.if_icmp .ge 50, 3) := by decide +kernel
theorem dX0_resolve_19 : decode cX0_resolve 19 = .ok (.aload_n 0, 1) := by decide +kernel
theorem dX0_resolve_20 : decode cX0_resolve 20 = .ok (.getfield 42, 3) := by decide +kernel
theorem dX0_resolve_23 : decode cX0_resolve 23 = .ok (.lload 4, 2) := by decide +kernel
theorem dX0_resolve_25 : decode cX0_resolve 25 = .ok (.iload_n 3, 1) := by decide +kernel
theorem dX0_resolve_26 : decode cX0_resolve 26 = .ok (.iconst (-1), 1) := by decide +kernel
theorem dX0_resolve_27 : decode cX0_resolve 27 = .ok (.invokevirtual 84, 3) := by decide +kernel
theorem dX0_resolve_30 : decode cX0_resolve 30 = .ok (.ifCond .ne 4, 3) := by decide +kernel
theorem dX0_resolve_33 : decode cX0_resolve 33 = .ok (.return_, 1) := by decide +kernel
theorem dX0_resolve_34 : decode cX0_resolve 34 = .ok (.iinc 3 1, 3) := by decide +kernel
theorem dX0_resolve_37 : decode cX0_resolve 37 = .ok (.aload_n 0, 1) := by decide +kernel
theorem dX0_resolve_38 : decode cX0_resolve 38 = .ok (.getfield 35, 3) := by decide +kernel
theorem dX0_resolve_41 : decode cX0_resolve 41 = .ok (.aload_n 0, 1) := by decide +kernel
theorem dX0_resolve_42 : decode cX0_resolve 42 = .ok (.getfield 39, 3) := by decide +kernel
theorem dX0_resolve_45 : decode cX0_resolve 45 = .ok (.lload 4, 2) := by decide +kernel
theorem dX0_resolve_47 : decode cX0_resolve 47 = .ok (.invokevirtual 57, 3) := by decide +kernel
theorem dX0_resolve_50 : decode cX0_resolve 50 = .ok (.lstore 4, 2) := by decide +kernel
theorem dX0_resolve_52 : decode cX0_resolve 52 = .ok (.aload_n 0, 1) := by decide +kernel
theorem dX0_resolve_53 : decode cX0_resolve 53 = .ok (.getfield 42, 3) := by decide +kernel
theorem dX0_resolve_56 : decode cX0_resolve 56 = .ok (.lload 4, 2) := by decide +kernel
theorem dX0_resolve_58 : decode cX0_resolve 58 = .ok (.invokevirtual 53, 3) := by decide +kernel
theorem dX0_resolve_61 : decode cX0_resolve 61 = .ok (.istore 6, 2) := by decide +kernel
theorem dX0_resolve_63 : decode cX0_resolve 63 = .ok (.goto (-55), 3) := by decide +kernel
theorem dX0_resolve_66 : decode cX0_resolve 66 = .ok (.iload 6, 2) := by decide +kernel
theorem dX0_resolve_68 : decode cX0_resolve 68 = .ok (.ifCond .ge 4, 3) := by decide +kernel
theorem dX0_resolve_71 : decode cX0_resolve 71 = .ok (.return_, 1) := by decide +kernel
theorem dX0_resolve_72 : decode cX0_resolve 72 = .ok (.aload_n 0, 1) := by decide +kernel
theorem dX0_resolve_73 : decode cX0_resolve 73 = .ok (.getfield 42, 3) := by decide +kernel
theorem dX0_resolve_76 : decode cX0_resolve 76 = .ok (.getfield 67, 3) := by decide +kernel
theorem dX0_resolve_79 : decode cX0_resolve 79 = .ok (.iload 6, 2) := by decide +kernel
theorem dX0_resolve_81 : decode cX0_resolve 81 = .ok (.iaload, 1) := by decide +kernel
theorem dX0_resolve_82 : decode cX0_resolve 82 = .ok (.iconst (-1), 1) := by decide +kernel
theorem dX0_resolve_83 : decode cX0_resolve 83 = .ok (.if_icmp .ne 37, 3) := by decide +kernel
theorem dX0_resolve_86 : decode cX0_resolve 86 = .ok (.aload_n 0, 1) := by decide +kernel
theorem dX0_resolve_87 : decode cX0_resolve 87 = .ok (.getfield 42, 3) := by decide +kernel
theorem dX0_resolve_90 : decode cX0_resolve 90 = .ok (.getfield 68, 3) := by decide +kernel
theorem dX0_resolve_93 : decode cX0_resolve 93 = .ok (.iload 6, 2) := by decide +kernel
theorem dX0_resolve_95 : decode cX0_resolve 95 = .ok (.iaload, 1) := by decide +kernel
theorem dX0_resolve_96 : decode cX0_resolve 96 = .ok (.istore 7, 2) := by decide +kernel
theorem dX0_resolve_98 : decode cX0_resolve 98 = .ok (.aload_n 0, 1) := by decide +kernel
theorem dX0_resolve_99 : decode cX0_resolve 99 = .ok (.lload_n 1, 1) := by decide +kernel
theorem dX0_resolve_100 : decode cX0_resolve 100 = .ok (.iload_n 3, 1) := by decide +kernel
theorem dX0_resolve_101 : decode cX0_resolve 101 = .ok (.iload 7, 2) := by decide +kernel
theorem dX0_resolve_103 : decode cX0_resolve 103 = .ok (.iconst 0, 1) := by decide +kernel
theorem dX0_resolve_104 : decode cX0_resolve 104 = .ok (.aload_n 0, 1) := by decide +kernel
theorem dX0_resolve_105 : decode cX0_resolve 105 = .ok (.lload 4, 2) := by decide +kernel
theorem dX0_resolve_107 : decode cX0_resolve 107 = .ok (.iload_n 3, 1) := by decide +kernel
theorem dX0_resolve_108 : decode cX0_resolve 108 = .ok (.iload 7, 2) := by decide +kernel
theorem dX0_resolve_110 : decode cX0_resolve 110 = .ok (.isub, 1) := by decide +kernel
theorem dX0_resolve_111 : decode cX0_resolve 111 = .ok (.invokevirtual 88, 3) := by decide +kernel
theorem dX0_resolve_114 : decode cX0_resolve 114 = .ok (.invokevirtual 92, 3) := by decide +kernel
theorem dX0_resolve_117 : decode cX0_resolve 117 = .ok (.goto 30, 3) := by decide +kernel
theorem dX0_resolve_120 : decode cX0_resolve 120 = .ok (.aload_n 0, 1) := by decide +kernel
theorem dX0_resolve_121 : decode cX0_resolve 121 = .ok (.lload_n 1, 1) := by decide +kernel
theorem dX0_resolve_122 : decode cX0_resolve 122 = .ok (.iload_n 3, 1) := by decide +kernel
theorem dX0_resolve_123 : decode cX0_resolve 123 = .ok (.iload_n 3, 1) := by decide +kernel
theorem dX0_resolve_124 : decode cX0_resolve 124 = .ok (.aload_n 0, 1) := by decide +kernel
theorem dX0_resolve_125 : decode cX0_resolve 125 = .ok (.getfield 42, 3) := by decide +kernel
theorem dX0_resolve_128 : decode cX0_resolve 128 = .ok (.getfield 68, 3) := by decide +kernel
theorem dX0_resolve_131 : decode cX0_resolve 131 = .ok (.iload 6, 2) := by decide +kernel
theorem dX0_resolve_133 : decode cX0_resolve 133 = .ok (.iaload, 1) := by decide +kernel
theorem dX0_resolve_134 : decode cX0_resolve 134 = .ok (.aload_n 0, 1) := by decide +kernel
theorem dX0_resolve_135 : decode cX0_resolve 135 = .ok (.getfield 42, 3) := by decide +kernel
theorem dX0_resolve_138 : decode cX0_resolve 138 = .ok (.getfield 67, 3) := by decide +kernel
theorem dX0_resolve_141 : decode cX0_resolve 141 = .ok (.iload 6, 2) := by decide +kernel
theorem dX0_resolve_143 : decode cX0_resolve 143 = .ok (.iaload, 1) := by decide +kernel
theorem dX0_resolve_144 : decode cX0_resolve 144 = .ok (.invokevirtual 92, 3) := by decide +kernel
theorem dX0_resolve_147 : decode cX0_resolve 147 = .ok (.return_, 1) := by decide +kernel
set_option maxRecDepth 20000 in
theorem ggX0_settle_X8_put : GoodIn wsX0_settle wsX8_put := goodIn_r _ [12, 13, 14, 15, 16, 17, 18, 11, 19, 20, 21, 22, 23, 24, 25, 26, 68, 69, 70, 71] (by decide +kernel) (by decide +kernel)
set_option maxRecDepth 20000 in
theorem gX0_settle_X8_put : GoodIn wsX0_settle (wsV RX0 84 RX8 yX8_put wsX8_put) := goodIn_app (goodIn_of _ (by decide +kernel)) ggX0_settle_X8_put
set_option maxRecDepth 20000 in
theorem ggX0_settle_X1_make : GoodIn wsX0_settle wsX1_make := goodIn_r _ [31, 32, 33, 34, 30, 35, 36, 37, 38, 39, 40, 41, 42, 43, 44, 45, 46, 47, 48, 49, 50, 51, 52, 53, 54, 55, 56, 57, 72, 73, 74, 75, 76] (by decide +kernel) (by decide +kernel)
set_option maxRecDepth 20000 in
theorem gX0_settle_X1_make : GoodIn wsX0_settle (wsV RX0 57 RX1 yX1_make wsX1_make) := goodIn_app (goodIn_of _ (by decide +kernel)) ggX0_settle_X1_make
theorem dX0_settle_0 : decode cX0_settle 0 = .ok (.lload_n 1, 1) := by decide +kernel
theorem dX0_settle_1 : decode cX0_settle 1 = .ok (.lstore 7, 2) := by decide +kernel
theorem dX0_settle_3 : decode cX0_settle 3 = .ok (.iconst 0, 1) := by decide +kernel
theorem dX0_settle_4 : decode cX0_settle 4 = .ok (.istore 9, 2) := by decide +kernel
theorem dX0_settle_6 : decode cX0_settle 6 = .ok (.iload 9, 2) := by decide +kernel
theorem dX0_settle_8 : decode cX0_settle 8 = .ok (.iload_n 3, 1) := by decide +kernel
theorem dX0_settle_9 : decode cX0_settle 9 = .ok (.if_icmp .ge 48, 3) := by decide +kernel
theorem dX0_settle_12 : decode cX0_settle 12 = .ok (.aload_n 0, 1) := by decide +kernel
theorem dX0_settle_13 : decode cX0_settle 13 = .ok (.getfield 42, 3) := by decide +kernel
theorem dX0_settle_16 : decode cX0_settle 16 = .ok (.lload 7, 2) := by decide +kernel
theorem dX0_settle_18 : decode cX0_settle 18 = .ok (.iload 4, 2) := by decide +kernel
theorem dX0_settle_20 : decode cX0_settle 20 = .ok (.iload 9, 2) := by decide +kernel
theorem dX0_settle_22 : decode cX0_settle 22 = .ok (.isub, 1) := by decide +kernel
theorem dX0_settle_23 : decode cX0_settle 23 = .ok (.iconst 0, 1) := by decide +kernel
theorem dX0_settle_24 : decode cX0_settle 24 = .ok (.invokestatic 96, 3) := by decide +kernel
theorem dX0_settle_27 : decode cX0_settle 27 = .ok (.iload 5, 2) := by decide +kernel
theorem dX0_settle_29 : decode cX0_settle 29 = .ok (.iadd, 1) := by decide +kernel
theorem dX0_settle_30 : decode cX0_settle 30 = .ok (.iload 6, 2) := by decide +kernel
theorem dX0_settle_32 : decode cX0_settle 32 = .ok (.invokevirtual 84, 3) := by decide +kernel
theorem dX0_settle_35 : decode cX0_settle 35 = .ok (.pop, 1) := by decide +kernel
theorem dX0_settle_36 : decode cX0_settle 36 = .ok (.aload_n 0, 1) := by decide +kernel
theorem dX0_settle_37 : decode cX0_settle 37 = .ok (.getfield 35, 3) := by decide +kernel
theorem dX0_settle_40 : decode cX0_settle 40 = .ok (.aload_n 0, 1) := by decide +kernel
theorem dX0_settle_41 : decode cX0_settle 41 = .ok (.getfield 39, 3) := by decide +kernel
theorem dX0_settle_44 : decode cX0_settle 44 = .ok (.lload 7, 2) := by decide +kernel
theorem dX0_settle_46 : decode cX0_settle 46 = .ok (.invokevirtual 57, 3) := by decide +kernel
theorem dX0_settle_49 : decode cX0_settle 49 = .ok (.lstore 7, 2) := by decide +kernel
theorem dX0_settle_51 : decode cX0_settle 51 = .ok (.iinc 9 1, 3) := by decide +kernel
theorem dX0_settle_54 : decode cX0_settle 54 = .ok (.goto (-48), 3) := by decide +kernel
theorem dX0_settle_57 : decode cX0_settle 57 = .ok (.return_, 1) := by decide +kernel
set_option maxRecDepth 20000 in
theorem ggX0_roundThrough_X1_make : GoodIn wsX0_roundThrough wsX1_make := goodIn_r _ [14, 15, 16, 17, 13, 18, 19, 20, 21, 22, 23, 24, 25, 26, 27, 28, 29, 30, 31, 32, 33, 34, 35, 36, 37, 38, 39, 40, 88, 89, 90, 91, 92] (by decide +kernel) (by decide +kernel)
set_option maxRecDepth 20000 in
theorem gX0_roundThrough_X1_make : GoodIn wsX0_roundThrough (wsV RX0 57 RX1 yX1_make wsX1_make) := goodIn_app (goodIn_of _ (by decide +kernel)) ggX0_roundThrough_X1_make
set_option maxRecDepth 20000 in
theorem ggX0_roundThrough_X0_rankOf : GoodIn wsX0_roundThrough wsX0_rankOf := goodIn_r _ [45, 7, 8, 9, 78, 79, 80, 81, 82, 83, 84, 85, 86, 87] (by decide +kernel) (by decide +kernel)
set_option maxRecDepth 20000 in
theorem gX0_roundThrough_X0_rankOf : GoodIn wsX0_roundThrough (wsV RX0 80 RX0 yX0_rankOf wsX0_rankOf) := goodIn_app (goodIn_of _ (by decide +kernel)) ggX0_roundThrough_X0_rankOf
set_option maxRecDepth 20000 in
theorem ggX0_roundThrough_X0_insert : GoodIn wsX0_roundThrough wsX0_insert := goodIn_r _ [49, 7, 9, 8, 50, 51, 52, 53, 54, 55, 56, 57, 58, 59, 60, 61, 62, 63, 64, 5, 65, 66, 67, 68, 69, 70, 71, 72, 73, 74, 75, 76, 77, 78, 79, 80, 81, 82, 83, 84, 85, 86, 87] (by decide +kernel) (by decide +kernel)
set_option maxRecDepth 20000 in
theorem gX0_roundThrough_X0_insert : GoodIn wsX0_roundThrough (wsV RX0 102 RX0 yX0_insert wsX0_insert) := goodIn_app (goodIn_of _ (by decide +kernel)) ggX0_roundThrough_X0_insert
theorem dX0_roundThrough_0 : decode cX0_roundThrough 0 = .ok (.lload_n 1, 1) := by decide +kernel
theorem dX0_roundThrough_1 : decode cX0_roundThrough 1 = .ok (.lstore 4, 2) := by decide +kernel
theorem dX0_roundThrough_3 : decode cX0_roundThrough 3 = .ok (.lload_n 1, 1) := by decide +kernel
theorem dX0_roundThrough_4 : decode cX0_roundThrough 4 = .ok (.lstore 6, 2) := by decide +kernel
theorem dX0_roundThrough_6 : decode cX0_roundThrough 6 = .ok (.iconst 1, 1) := by decide +kernel
theorem dX0_roundThrough_7 : decode cX0_roundThrough 7 = .ok (.istore 8, 2) := by decide +kernel
theorem dX0_roundThrough_9 : decode cX0_roundThrough 9 = .ok (.iload 8, 2) := by decide +kernel
theorem dX0_roundThrough_11 : decode cX0_roundThrough 11 = .ok (.iload_n 3, 1) := by decide +kernel
theorem dX0_roundThrough_12 : decode cX0_roundThrough 12 = .ok (.if_icmp .ge 33, 3) := by decide +kernel
theorem dX0_roundThrough_15 : decode cX0_roundThrough 15 = .ok (.aload_n 0, 1) := by decide +kernel
theorem dX0_roundThrough_16 : decode cX0_roundThrough 16 = .ok (.getfield 35, 3) := by decide +kernel
theorem dX0_roundThrough_19 : decode cX0_roundThrough 19 = .ok (.aload_n 0, 1) := by decide +kernel
theorem dX0_roundThrough_20 : decode cX0_roundThrough 20 = .ok (.getfield 39, 3) := by decide +kernel
theorem dX0_roundThrough_23 : decode cX0_roundThrough 23 = .ok (.lload 6, 2) := by decide +kernel
theorem dX0_roundThrough_25 : decode cX0_roundThrough 25 = .ok (.invokevirtual 57, 3) := by decide +kernel
theorem dX0_roundThrough_28 : decode cX0_roundThrough 28 = .ok (.lstore 6, 2) := by decide +kernel
theorem dX0_roundThrough_30 : decode cX0_roundThrough 30 = .ok (.lload 4, 2) := by decide +kernel
theorem dX0_roundThrough_32 : decode cX0_roundThrough 32 = .ok (.lload 6, 2) := by decide +kernel
theorem dX0_roundThrough_34 : decode cX0_roundThrough 34 = .ok (.invokestatic 99, 3) := by decide +kernel
theorem dX0_roundThrough_37 : decode cX0_roundThrough 37 = .ok (.lstore 4, 2) := by decide +kernel
theorem dX0_roundThrough_39 : decode cX0_roundThrough 39 = .ok (.iinc 8 1, 3) := by decide +kernel
theorem dX0_roundThrough_42 : decode cX0_roundThrough 42 = .ok (.goto (-33), 3) := by decide +kernel
theorem dX0_roundThrough_45 : decode cX0_roundThrough 45 = .ok (.aload_n 0, 1) := by decide +kernel
theorem dX0_roundThrough_46 : decode cX0_roundThrough 46 = .ok (.lload 4, 2) := by decide +kernel
theorem dX0_roundThrough_48 : decode cX0_roundThrough 48 = .ok (.invokevirtual 80, 3) := by decide +kernel
theorem dX0_roundThrough_51 : decode cX0_roundThrough 51 = .ok (.istore 8, 2) := by decide +kernel
theorem dX0_roundThrough_53 : decode cX0_roundThrough 53 = .ok (.iload 8, 2) := by decide +kernel
theorem dX0_roundThrough_55 : decode cX0_roundThrough 55 = .ok (.aload_n 0, 1) := by decide +kernel
theorem dX0_roundThrough_56 : decode cX0_roundThrough 56 = .ok (.getfield 19, 3) := by decide +kernel
theorem dX0_roundThrough_59 : decode cX0_roundThrough 59 = .ok (.if_icmp .ge 29, 3) := by decide +kernel
theorem dX0_roundThrough_62 : decode cX0_roundThrough 62 = .ok (.aload_n 0, 1) := by decide +kernel
theorem dX0_roundThrough_63 : decode cX0_roundThrough 63 = .ok (.getfield 22, 3) := by decide +kernel
theorem dX0_roundThrough_66 : decode cX0_roundThrough 66 = .ok (.aload_n 0, 1) := by decide +kernel
theorem dX0_roundThrough_67 : decode cX0_roundThrough 67 = .ok (.getfield 32, 3) := by decide +kernel
theorem dX0_roundThrough_70 : decode cX0_roundThrough 70 = .ok (.iload 8, 2) := by decide +kernel
theorem dX0_roundThrough_72 : decode cX0_roundThrough 72 = .ok (.iaload, 1) := by decide +kernel
theorem dX0_roundThrough_73 : decode cX0_roundThrough 73 = .ok (.laload, 1) := by decide +kernel
theorem dX0_roundThrough_74 : decode cX0_roundThrough 74 = .ok (.lload 4, 2) := by decide +kernel
theorem dX0_roundThrough_76 : decode cX0_roundThrough 76 = .ok (.lcmp, 1) := by decide +kernel
theorem dX0_roundThrough_77 : decode cX0_roundThrough 77 = .ok (.ifCond .ne 11, 3) := by decide +kernel
theorem dX0_roundThrough_80 : decode cX0_roundThrough 80 = .ok (.aload_n 0, 1) := by decide +kernel
theorem dX0_roundThrough_81 : decode cX0_roundThrough 81 = .ok (.getfield 32, 3) := by decide +kernel
theorem dX0_roundThrough_84 : decode cX0_roundThrough 84 = .ok (.iload 8, 2) := by decide +kernel
theorem dX0_roundThrough_86 : decode cX0_roundThrough 86 = .ok (.iaload, 1) := by decide +kernel
theorem dX0_roundThrough_87 : decode cX0_roundThrough 87 = .ok (.ireturn, 1) := by decide +kernel
theorem dX0_roundThrough_88 : decode cX0_roundThrough 88 = .ok (.aload_n 0, 1) := by decide +kernel
theorem dX0_roundThrough_89 : decode cX0_roundThrough 89 = .ok (.iload 8, 2) := by decide +kernel
theorem dX0_roundThrough_91 : decode cX0_roundThrough 91 = .ok (.lload 4, 2) := by decide +kernel
theorem dX0_roundThrough_93 : decode cX0_roundThrough 93 = .ok (.iload_n 3, 1) := by decide +kernel
theorem dX0_roundThrough_94 : decode cX0_roundThrough 94 = .ok (.invokevirtual 102, 3) := by decide +kernel
theorem dX0_roundThrough_97 : decode cX0_roundThrough 97 = .ok (.aload_n 0, 1) := by decide +kernel
theorem dX0_roundThrough_98 : decode cX0_roundThrough 98 = .ok (.getfield 19, 3) := by decide +kernel
theorem dX0_roundThrough_101 : decode cX0_roundThrough 101 = .ok (.iconst 1, 1) := by decide +kernel
theorem dX0_roundThrough_102 : decode cX0_roundThrough 102 = .ok (.isub, 1) := by decide +kernel
theorem dX0_roundThrough_103 : decode cX0_roundThrough 103 = .ok (.ireturn, 1) := by decide +kernel
theorem dX0_rankOf_0 : decode cX0_rankOf 0 = .ok (.iconst 0, 1) := by decide +kernel
theorem dX0_rankOf_1 : decode cX0_rankOf 1 = .ok (.istore_n 3, 1) := by decide +kernel
theorem dX0_rankOf_2 : decode cX0_rankOf 2 = .ok (.iload_n 3, 1) := by decide +kernel
theorem dX0_rankOf_3 : decode cX0_rankOf 3 = .ok (.aload_n 0, 1) := by decide +kernel
theorem dX0_rankOf_4 : decode cX0_rankOf 4 = .ok (.getfield 19, 3) := by decide +kernel
theorem dX0_rankOf_7 : decode cX0_rankOf 7 = .ok (.if_icmp .ge 25, 3) := by decide +kernel
theorem dX0_rankOf_10 : decode cX0_rankOf 10 = .ok (.aload_n 0, 1) := by decide +kernel
theorem dX0_rankOf_11 : decode cX0_rankOf 11 = .ok (.getfield 22, 3) := by decide +kernel
theorem dX0_rankOf_14 : decode cX0_rankOf 14 = .ok (.aload_n 0, 1) := by decide +kernel
theorem dX0_rankOf_15 : decode cX0_rankOf 15 = .ok (.getfield 32, 3) := by decide +kernel
theorem dX0_rankOf_18 : decode cX0_rankOf 18 = .ok (.iload_n 3, 1) := by decide +kernel
theorem dX0_rankOf_19 : decode cX0_rankOf 19 = .ok (.iaload, 1) := by decide +kernel
theorem dX0_rankOf_20 : decode cX0_rankOf 20 = .ok (.laload, 1) := by decide +kernel
theorem dX0_rankOf_21 : decode cX0_rankOf 21 = .ok (.lload_n 1, 1) := by decide +kernel
theorem dX0_rankOf_22 : decode cX0_rankOf 22 = .ok (.lcmp, 1) := by decide +kernel
theorem dX0_rankOf_23 : decode cX0_rankOf 23 = .ok (.ifCond .ge 9, 3) := by decide +kernel
theorem dX0_rankOf_26 : decode cX0_rankOf 26 = .ok (.iinc 3 1, 3) := by decide +kernel
theorem dX0_rankOf_29 : decode cX0_rankOf 29 = .ok (.goto (-27), 3) := by decide +kernel
theorem dX0_rankOf_32 : decode cX0_rankOf 32 = .ok (.iload_n 3, 1) := by decide +kernel
theorem dX0_rankOf_33 : decode cX0_rankOf 33 = .ok (.ireturn, 1) := by decide +kernel
set_option maxRecDepth 20000 in
theorem ggX0_insert_J7_copyOf_c38d5 : GoodIn wsX0_insert wsJ7_copyOf_c38d5 := goodIn_r _ [9, 10, 11, 12, 13, 14, 15, 16, 17, 18, 19, 20, 21, 22, 23, 24] (by decide +kernel) (by decide +kernel)
set_option maxRecDepth 20000 in
theorem gX0_insert_J7_copyOf_c38d5 : GoodIn wsX0_insert (va_wsS RX0 106 yJ7_copyOf_c38d5 wsJ7_copyOf_c38d5) := goodIn_app (goodIn_of _ (by decide +kernel)) ggX0_insert_J7_copyOf_c38d5
set_option maxRecDepth 20000 in
theorem ggX0_insert_J7_copyOf_59c91 : GoodIn wsX0_insert wsJ7_copyOf_59c91 := goodIn_r _ [27, 28, 29, 12, 13, 30, 31, 32, 17, 18, 19, 20, 21, 22, 23, 24] (by decide +kernel) (by decide +kernel)
set_option maxRecDepth 20000 in
theorem gX0_insert_J7_copyOf_59c91 : GoodIn wsX0_insert (va_wsS RX0 112 yJ7_copyOf_59c91 wsJ7_copyOf_59c91) := goodIn_app (goodIn_of _ (by decide +kernel)) ggX0_insert_J7_copyOf_59c91
theorem dX0_insert_0 : decode cX0_insert 0 = .ok (.aload_n 0, 1) := by decide +kernel
theorem dX0_insert_1 : decode cX0_insert 1 = .ok (.getfield 19, 3) := by decide +kernel
theorem dX0_insert_4 : decode cX0_insert 4 = .ok (.aload_n 0, 1) := by decide +kernel
theorem dX0_insert_5 : decode cX0_insert 5 = .ok (.getfield 32, 3) := by decide +kernel
theorem dX0_insert_8 : decode cX0_insert 8 = .ok (.arraylength, 1) := by decide +kernel
theorem dX0_insert_9 : decode cX0_insert 9 = .ok (.if_icmp .ne 71, 3) := by decide +kernel
theorem dX0_insert_12 : decode cX0_insert 12 = .ok (.aload_n 0, 1) := by decide +kernel
theorem dX0_insert_13 : decode cX0_insert 13 = .ok (.aload_n 0, 1) := by decide +kernel
theorem dX0_insert_14 : decode cX0_insert 14 = .ok (.getfield 22, 3) := by decide +kernel
theorem dX0_insert_17 : decode cX0_insert 17 = .ok (.iconst 2, 1) := by decide +kernel
theorem dX0_insert_18 : decode cX0_insert 18 = .ok (.aload_n 0, 1) := by decide +kernel
theorem dX0_insert_19 : decode cX0_insert 19 = .ok (.getfield 19, 3) := by decide +kernel
theorem dX0_insert_22 : decode cX0_insert 22 = .ok (.imul, 1) := by decide +kernel
theorem dX0_insert_23 : decode cX0_insert 23 = .ok (.invokestatic 106, 3) := by decide +kernel
theorem dX0_insert_26 : decode cX0_insert 26 = .ok (.putfield 22, 3) := by decide +kernel
theorem dX0_insert_29 : decode cX0_insert 29 = .ok (.aload_n 0, 1) := by decide +kernel
theorem dX0_insert_30 : decode cX0_insert 30 = .ok (.aload_n 0, 1) := by decide +kernel
theorem dX0_insert_31 : decode cX0_insert 31 = .ok (.getfield 26, 3) := by decide +kernel
theorem dX0_insert_34 : decode cX0_insert 34 = .ok (.iconst 2, 1) := by decide +kernel
theorem dX0_insert_35 : decode cX0_insert 35 = .ok (.aload_n 0, 1) := by decide +kernel
theorem dX0_insert_36 : decode cX0_insert 36 = .ok (.getfield 19, 3) := by decide +kernel
theorem dX0_insert_39 : decode cX0_insert 39 = .ok (.imul, 1) := by decide +kernel
theorem dX0_insert_40 : decode cX0_insert 40 = .ok (.invokestatic 112, 3) := by decide +kernel
theorem dX0_insert_43 : decode cX0_insert 43 = .ok (.putfield 26, 3) := by decide +kernel
theorem dX0_insert_46 : decode cX0_insert 46 = .ok (.aload_n 0, 1) := by decide +kernel
theorem dX0_insert_47 : decode cX0_insert 47 = .ok (.aload_n 0, 1) := by decide +kernel
theorem dX0_insert_48 : decode cX0_insert 48 = .ok (.getfield 29, 3) := by decide +kernel
theorem dX0_insert_51 : decode cX0_insert 51 = .ok (.iconst 2, 1) := by decide +kernel
theorem dX0_insert_52 : decode cX0_insert 52 = .ok (.aload_n 0, 1) := by decide +kernel
theorem dX0_insert_53 : decode cX0_insert 53 = .ok (.getfield 19, 3) := by decide +kernel
theorem dX0_insert_56 : decode cX0_insert 56 = .ok (.imul, 1) := by decide +kernel
theorem dX0_insert_57 : decode cX0_insert 57 = .ok (.invokestatic 112, 3) := by decide +kernel
theorem dX0_insert_60 : decode cX0_insert 60 = .ok (.putfield 29, 3) := by decide +kernel
theorem dX0_insert_63 : decode cX0_insert 63 = .ok (.aload_n 0, 1) := by decide +kernel
theorem dX0_insert_64 : decode cX0_insert 64 = .ok (.aload_n 0, 1) := by decide +kernel
theorem dX0_insert_65 : decode cX0_insert 65 = .ok (.getfield 32, 3) := by decide +kernel
theorem dX0_insert_68 : decode cX0_insert 68 = .ok (.iconst 2, 1) := by decide +kernel
theorem dX0_insert_69 : decode cX0_insert 69 = .ok (.aload_n 0, 1) := by decide +kernel
theorem dX0_insert_70 : decode cX0_insert 70 = .ok (.getfield 19, 3) := by decide +kernel
theorem dX0_insert_73 : decode cX0_insert 73 = .ok (.imul, 1) := by decide +kernel
theorem dX0_insert_74 : decode cX0_insert 74 = .ok (.invokestatic 112, 3) := by decide +kernel
theorem dX0_insert_77 : decode cX0_insert 77 = .ok (.putfield 32, 3) := by decide +kernel
theorem dX0_insert_80 : decode cX0_insert 80 = .ok (.aload_n 0, 1) := by decide +kernel
theorem dX0_insert_81 : decode cX0_insert 81 = .ok (.getfield 19, 3) := by decide +kernel
theorem dX0_insert_84 : decode cX0_insert 84 = .ok (.istore 5, 2) := by decide +kernel
theorem dX0_insert_86 : decode cX0_insert 86 = .ok (.iload 5, 2) := by decide +kernel
theorem dX0_insert_88 : decode cX0_insert 88 = .ok (.iload_n 1, 1) := by decide +kernel
theorem dX0_insert_89 : decode cX0_insert 89 = .ok (.if_icmp .le 25, 3) := by decide +kernel
theorem dX0_insert_92 : decode cX0_insert 92 = .ok (.aload_n 0, 1) := by decide +kernel
theorem dX0_insert_93 : decode cX0_insert 93 = .ok (.getfield 32, 3) := by decide +kernel
theorem dX0_insert_96 : decode cX0_insert 96 = .ok (.iload 5, 2) := by decide +kernel
theorem dX0_insert_98 : decode cX0_insert 98 = .ok (.aload_n 0, 1) := by decide +kernel
theorem dX0_insert_99 : decode cX0_insert 99 = .ok (.getfield 32, 3) := by decide +kernel
theorem dX0_insert_102 : decode cX0_insert 102 = .ok (.iload 5, 2) := by decide +kernel
theorem dX0_insert_104 : decode cX0_insert 104 = .ok (.iconst 1, 1) := by decide +kernel
theorem dX0_insert_105 : decode cX0_insert 105 = .ok (.isub, 1) := by decide +kernel
theorem dX0_insert_106 : decode cX0_insert 106 = .ok (.iaload, 1) := by decide +kernel
theorem dX0_insert_107 : decode cX0_insert 107 = .ok (.iastore, 1) := by decide +kernel
theorem dX0_insert_108 : decode cX0_insert 108 = .ok (.iinc 5 (-1), 3) := by decide +kernel
theorem dX0_insert_111 : decode cX0_insert 111 = .ok (.goto (-25), 3) := by decide +kernel
theorem dX0_insert_114 : decode cX0_insert 114 = .ok (.aload_n 0, 1) := by decide +kernel
theorem dX0_insert_115 : decode cX0_insert 115 = .ok (.getfield 32, 3) := by decide +kernel
theorem dX0_insert_118 : decode cX0_insert 118 = .ok (.iload_n 1, 1) := by decide +kernel
theorem dX0_insert_119 : decode cX0_insert 119 = .ok (.aload_n 0, 1) := by decide +kernel
theorem dX0_insert_120 : decode cX0_insert 120 = .ok (.getfield 19, 3) := by decide +kernel
theorem dX0_insert_123 : decode cX0_insert 123 = .ok (.iastore, 1) := by decide +kernel
theorem dX0_insert_124 : decode cX0_insert 124 = .ok (.aload_n 0, 1) := by decide +kernel
theorem dX0_insert_125 : decode cX0_insert 125 = .ok (.getfield 22, 3) := by decide +kernel
theorem dX0_insert_128 : decode cX0_insert 128 = .ok (.aload_n 0, 1) := by decide +kernel
theorem dX0_insert_129 : decode cX0_insert 129 = .ok (.getfield 19, 3) := by decide +kernel
theorem dX0_insert_132 : decode cX0_insert 132 = .ok (.lload_n 2, 1) := by decide +kernel
theorem dX0_insert_133 : decode cX0_insert 133 = .ok (.lastore, 1) := by decide +kernel
theorem dX0_insert_134 : decode cX0_insert 134 = .ok (.aload_n 0, 1) := by decide +kernel
theorem dX0_insert_135 : decode cX0_insert 135 = .ok (.getfield 26, 3) := by decide +kernel
theorem dX0_insert_138 : decode cX0_insert 138 = .ok (.aload_n 0, 1) := by decide +kernel
theorem dX0_insert_139 : decode cX0_insert 139 = .ok (.getfield 19, 3) := by decide +kernel
theorem dX0_insert_142 : decode cX0_insert 142 = .ok (.iload 4, 2) := by decide +kernel
theorem dX0_insert_144 : decode cX0_insert 144 = .ok (.iastore, 1) := by decide +kernel
theorem dX0_insert_145 : decode cX0_insert 145 = .ok (.aload_n 0, 1) := by decide +kernel
theorem dX0_insert_146 : decode cX0_insert 146 = .ok (.getfield 29, 3) := by decide +kernel
theorem dX0_insert_149 : decode cX0_insert 149 = .ok (.aload_n 0, 1) := by decide +kernel
theorem dX0_insert_150 : decode cX0_insert 150 = .ok (.getfield 19, 3) := by decide +kernel
theorem dX0_insert_153 : decode cX0_insert 153 = .ok (.sipush 20001, 3) := by decide +kernel
theorem dX0_insert_156 : decode cX0_insert 156 = .ok (.iastore, 1) := by decide +kernel
theorem dX0_insert_157 : decode cX0_insert 157 = .ok (.aload_n 0, 1) := by decide +kernel
theorem dX0_insert_158 : decode cX0_insert 158 = .ok (.dup, 1) := by decide +kernel
theorem dX0_insert_159 : decode cX0_insert 159 = .ok (.getfield 19, 3) := by decide +kernel
theorem dX0_insert_162 : decode cX0_insert 162 = .ok (.iconst 1, 1) := by decide +kernel
theorem dX0_insert_163 : decode cX0_insert 163 = .ok (.iadd, 1) := by decide +kernel
theorem dX0_insert_164 : decode cX0_insert 164 = .ok (.putfield 19, 3) := by decide +kernel
theorem dX0_insert_167 : decode cX0_insert 167 = .ok (.return_, 1) := by decide +kernel
theorem dX1_init_0 : decode cX1_init 0 = .ok (.aload_n 0, 1) := by decide +kernel
theorem dX1_init_1 : decode cX1_init 1 = .ok (.invokespecial 3, 3) := by decide +kernel
theorem dX1_init_4 : decode cX1_init 4 = .ok (.aload_n 0, 1) := by decide +kernel
theorem dX1_init_5 : decode cX1_init 5 = .ok (.bipush 10, 2) := by decide +kernel
theorem dX1_init_7 : decode cX1_init 7 = .ok (.putfield 9, 3) := by decide +kernel
theorem dX1_init_10 : decode cX1_init 10 = .ok (.aload_n 0, 1) := by decide +kernel
theorem dX1_init_11 : decode cX1_init 11 = .ok (.bipush 16, 2) := by decide +kernel
theorem dX1_init_13 : decode cX1_init 13 = .ok (.newarray .int, 2) := by decide +kernel
theorem dX1_init_15 : decode cX1_init 15 = .ok (.putfield 15, 3) := by decide +kernel
theorem dX1_init_18 : decode cX1_init 18 = .ok (.aload_n 0, 1) := by decide +kernel
theorem dX1_init_19 : decode cX1_init 19 = .ok (.bipush 64, 2) := by decide +kernel
theorem dX1_init_21 : decode cX1_init 21 = .ok (.newarray .int, 2) := by decide +kernel
theorem dX1_init_23 : decode cX1_init 23 = .ok (.putfield 19, 3) := by decide +kernel
theorem dX1_init_26 : decode cX1_init 26 = .ok (.aload_n 0, 1) := by decide +kernel
theorem dX1_init_27 : decode cX1_init 27 = .ok (.bipush 16, 2) := by decide +kernel
theorem dX1_init_29 : decode cX1_init 29 = .ok (.newarray .int, 2) := by decide +kernel
theorem dX1_init_31 : decode cX1_init 31 = .ok (.putfield 22, 3) := by decide +kernel
theorem dX1_init_34 : decode cX1_init 34 = .ok (.aload_n 0, 1) := by decide +kernel
theorem dX1_init_35 : decode cX1_init 35 = .ok (.iconst 0, 1) := by decide +kernel
theorem dX1_init_36 : decode cX1_init 36 = .ok (.putfield 25, 3) := by decide +kernel
theorem dX1_init_39 : decode cX1_init 39 = .ok (.iconst 0, 1) := by decide +kernel
theorem dX1_init_40 : decode cX1_init 40 = .ok (.istore_n 1, 1) := by decide +kernel
theorem dX1_init_41 : decode cX1_init 41 = .ok (.iload_n 1, 1) := by decide +kernel
theorem dX1_init_42 : decode cX1_init 42 = .ok (.aload_n 0, 1) := by decide +kernel
theorem dX1_init_43 : decode cX1_init 43 = .ok (.getfield 15, 3) := by decide +kernel
theorem dX1_init_46 : decode cX1_init 46 = .ok (.arraylength, 1) := by decide +kernel
theorem dX1_init_47 : decode cX1_init 47 = .ok (.if_icmp .ge 16, 3) := by decide +kernel
theorem dX1_init_50 : decode cX1_init 50 = .ok (.aload_n 0, 1) := by decide +kernel
theorem dX1_init_51 : decode cX1_init 51 = .ok (.getfield 15, 3) := by decide +kernel
theorem dX1_init_54 : decode cX1_init 54 = .ok (.iload_n 1, 1) := by decide +kernel
theorem dX1_init_55 : decode cX1_init 55 = .ok (.iload_n 1, 1) := by decide +kernel
theorem dX1_init_56 : decode cX1_init 56 = .ok (.iastore, 1) := by decide +kernel
theorem dX1_init_57 : decode cX1_init 57 = .ok (.iinc 1 1, 3) := by decide +kernel
theorem dX1_init_60 : decode cX1_init 60 = .ok (.goto (-19), 3) := by decide +kernel
theorem dX1_init_63 : decode cX1_init 63 = .ok (.return_, 1) := by decide +kernel
theorem dX1_setBase_0 : decode cX1_setBase 0 = .ok (.aload_n 0, 1) := by decide +kernel
theorem dX1_setBase_1 : decode cX1_setBase 1 = .ok (.getfield 9, 3) := by decide +kernel
theorem dX1_setBase_4 : decode cX1_setBase 4 = .ok (.iload_n 1, 1) := by decide +kernel
theorem dX1_setBase_5 : decode cX1_setBase 5 = .ok (.if_icmp .eq 18, 3) := by decide +kernel
theorem dX1_setBase_8 : decode cX1_setBase 8 = .ok (.aload_n 0, 1) := by decide +kernel
theorem dX1_setBase_9 : decode cX1_setBase 9 = .ok (.iload_n 1, 1) := by decide +kernel
theorem dX1_setBase_10 : decode cX1_setBase 10 = .ok (.putfield 9, 3) := by decide +kernel
theorem dX1_setBase_13 : decode cX1_setBase 13 = .ok (.aload_n 0, 1) := by decide +kernel
theorem dX1_setBase_14 : decode cX1_setBase 14 = .ok (.dup, 1) := by decide +kernel
theorem dX1_setBase_15 : decode cX1_setBase 15 = .ok (.getfield 25, 3) := by decide +kernel
theorem dX1_setBase_18 : decode cX1_setBase 18 = .ok (.iconst 1, 1) := by decide +kernel
theorem dX1_setBase_19 : decode cX1_setBase 19 = .ok (.iadd, 1) := by decide +kernel
theorem dX1_setBase_20 : decode cX1_setBase 20 = .ok (.putfield 25, 3) := by decide +kernel
theorem dX1_setBase_23 : decode cX1_setBase 23 = .ok (.return_, 1) := by decide +kernel
theorem dX1_setWorth_0 : decode cX1_setWorth 0 = .ok (.iload_n 1, 1) := by decide +kernel
theorem dX1_setWorth_1 : decode cX1_setWorth 1 = .ok (.ifCond .lt 39, 3) := by decide +kernel
theorem dX1_setWorth_4 : decode cX1_setWorth 4 = .ok (.iload_n 1, 1) := by decide +kernel
theorem dX1_setWorth_5 : decode cX1_setWorth 5 = .ok (.aload_n 0, 1) := by decide +kernel
theorem dX1_setWorth_6 : decode cX1_setWorth 6 = .ok (.getfield 15, 3) := by decide +kernel
theorem dX1_setWorth_9 : decode cX1_setWorth 9 = .ok (.arraylength, 1) := by decide +kernel
theorem dX1_setWorth_10 : decode cX1_setWorth 10 = .ok (.if_icmp .ge 30, 3) := by decide +kernel
theorem dX1_setWorth_13 : decode cX1_setWorth 13 = .ok (.aload_n 0, 1) := by decide +kernel
theorem dX1_setWorth_14 : decode cX1_setWorth 14 = .ok (.getfield 15, 3) := by decide +kernel
theorem dX1_setWorth_17 : decode cX1_setWorth 17 = .ok (.iload_n 1, 1) := by decide +kernel
theorem dX1_setWorth_18 : decode cX1_setWorth 18 = .ok (.iaload, 1) := by decide +kernel
theorem dX1_setWorth_19 : decode cX1_setWorth 19 = .ok (.iload_n 2, 1) := by decide +kernel
theorem dX1_setWorth_20 : decode cX1_setWorth 20 = .ok (.if_icmp .eq 20, 3) := by decide +kernel
theorem dX1_setWorth_23 : decode cX1_setWorth 23 = .ok (.aload_n 0, 1) := by decide +kernel
theorem dX1_setWorth_24 : decode cX1_setWorth 24 = .ok (.getfield 15, 3) := by decide +kernel
theorem dX1_setWorth_27 : decode cX1_setWorth 27 = .ok (.iload_n 1, 1) := by decide +kernel
theorem dX1_setWorth_28 : decode cX1_setWorth 28 = .ok (.iload_n 2, 1) := by decide +kernel
theorem dX1_setWorth_29 : decode cX1_setWorth 29 = .ok (.iastore, 1) := by decide +kernel
theorem dX1_setWorth_30 : decode cX1_setWorth 30 = .ok (.aload_n 0, 1) := by decide +kernel
theorem dX1_setWorth_31 : decode cX1_setWorth 31 = .ok (.dup, 1) := by decide +kernel
theorem dX1_setWorth_32 : decode cX1_setWorth 32 = .ok (.getfield 25, 3) := by decide +kernel
theorem dX1_setWorth_35 : decode cX1_setWorth 35 = .ok (.iconst 1, 1) := by decide +kernel
theorem dX1_setWorth_36 : decode cX1_setWorth 36 = .ok (.iadd, 1) := by decide +kernel
theorem dX1_setWorth_37 : decode cX1_setWorth 37 = .ok (.putfield 25, 3) := by decide +kernel
theorem dX1_setWorth_40 : decode cX1_setWorth 40 = .ok (.return_, 1) := by decide +kernel
theorem dX1_worthOfAll_0 : decode cX1_worthOfAll 0 = .ok (.iconst 0, 1) := by decide +kernel
theorem dX1_worthOfAll_1 : decode cX1_worthOfAll 1 = .ok (.istore_n 1, 1) := by decide +kernel
theorem dX1_worthOfAll_2 : decode cX1_worthOfAll 2 = .ok (.iconst 0, 1) := by decide +kernel
theorem dX1_worthOfAll_3 : decode cX1_worthOfAll 3 = .ok (.istore_n 2, 1) := by decide +kernel
theorem dX1_worthOfAll_4 : decode cX1_worthOfAll 4 = .ok (.iload_n 2, 1) := by decide +kernel
theorem dX1_worthOfAll_5 : decode cX1_worthOfAll 5 = .ok (.aload_n 0, 1) := by decide +kernel
theorem dX1_worthOfAll_6 : decode cX1_worthOfAll 6 = .ok (.getfield 15, 3) := by decide +kernel
theorem dX1_worthOfAll_9 : decode cX1_worthOfAll 9 = .ok (.arraylength, 1) := by decide +kernel
theorem dX1_worthOfAll_10 : decode cX1_worthOfAll 10 = .ok (.if_icmp .ge 18, 3) := by decide +kernel
theorem dX1_worthOfAll_13 : decode cX1_worthOfAll 13 = .ok (.iload_n 1, 1) := by decide +kernel
theorem dX1_worthOfAll_14 : decode cX1_worthOfAll 14 = .ok (.aload_n 0, 1) := by decide +kernel
theorem dX1_worthOfAll_15 : decode cX1_worthOfAll 15 = .ok (.getfield 15, 3) := by decide +kernel
theorem dX1_worthOfAll_18 : decode cX1_worthOfAll 18 = .ok (.iload_n 2, 1) := by decide +kernel
theorem dX1_worthOfAll_19 : decode cX1_worthOfAll 19 = .ok (.iaload, 1) := by decide +kernel
theorem dX1_worthOfAll_20 : decode cX1_worthOfAll 20 = .ok (.iadd, 1) := by decide +kernel
theorem dX1_worthOfAll_21 : decode cX1_worthOfAll 21 = .ok (.istore_n 1, 1) := by decide +kernel
theorem dX1_worthOfAll_22 : decode cX1_worthOfAll 22 = .ok (.iinc 2 1, 3) := by decide +kernel
theorem dX1_worthOfAll_25 : decode cX1_worthOfAll 25 = .ok (.goto (-21), 3) := by decide +kernel
theorem dX1_worthOfAll_28 : decode cX1_worthOfAll 28 = .ok (.iload_n 1, 1) := by decide +kernel
theorem dX1_worthOfAll_29 : decode cX1_worthOfAll 29 = .ok (.ireturn, 1) := by decide +kernel
theorem dX1_split_0 : decode cX1_split 0 = .ok (.iconst 0, 1) := by decide +kernel
theorem dX1_split_1 : decode cX1_split 1 = .ok (.istore_n 3, 1) := by decide +kernel
theorem dX1_split_2 : decode cX1_split 2 = .ok (.lload_n 1, 1) := by decide +kernel
theorem dX1_split_3 : decode cX1_split 3 = .ok (.lstore 4, 2) := by decide +kernel
theorem dX1_split_5 : decode cX1_split 5 = .ok (.aload_n 0, 1) := by decide +kernel
theorem dX1_split_6 : decode cX1_split 6 = .ok (.getfield 19, 3) := by decide +kernel
theorem dX1_split_9 : decode cX1_split 9 = .ok (.iload_n 3, 1) := by decide +kernel
theorem dX1_split_10 : decode cX1_split 10 = .ok (.lload 4, 2) := by decide +kernel
theorem dX1_split_12 : decode cX1_split 12 = .ok (.aload_n 0, 1) := by decide +kernel
theorem dX1_split_13 : decode cX1_split 13 = .ok (.getfield 9, 3) := by decide +kernel
theorem dX1_split_16 : decode cX1_split 16 = .ok (.i2l, 1) := by decide +kernel
theorem dX1_split_17 : decode cX1_split 17 = .ok (.lrem, 1) := by decide +kernel
theorem dX1_split_18 : decode cX1_split 18 = .ok (.l2i, 1) := by decide +kernel
theorem dX1_split_19 : decode cX1_split 19 = .ok (.iastore, 1) := by decide +kernel
theorem dX1_split_20 : decode cX1_split 20 = .ok (.lload 4, 2) := by decide +kernel
theorem dX1_split_22 : decode cX1_split 22 = .ok (.aload_n 0, 1) := by decide +kernel
theorem dX1_split_23 : decode cX1_split 23 = .ok (.getfield 9, 3) := by decide +kernel
theorem dX1_split_26 : decode cX1_split 26 = .ok (.i2l, 1) := by decide +kernel
theorem dX1_split_27 : decode cX1_split 27 = .ok (.ldiv, 1) := by decide +kernel
theorem dX1_split_28 : decode cX1_split 28 = .ok (.lstore 4, 2) := by decide +kernel
theorem dX1_split_30 : decode cX1_split 30 = .ok (.iinc 3 1, 3) := by decide +kernel
theorem dX1_split_33 : decode cX1_split 33 = .ok (.lload 4, 2) := by decide +kernel
theorem dX1_split_35 : decode cX1_split 35 = .ok (.lconst 0, 1) := by decide +kernel
theorem dX1_split_36 : decode cX1_split 36 = .ok (.lcmp, 1) := by decide +kernel
theorem dX1_split_37 : decode cX1_split 37 = .ok (.ifCond .le 12, 3) := by decide +kernel
theorem dX1_split_40 : decode cX1_split 40 = .ok (.iload_n 3, 1) := by decide +kernel
theorem dX1_split_41 : decode cX1_split 41 = .ok (.aload_n 0, 1) := by decide +kernel
theorem dX1_split_42 : decode cX1_split 42 = .ok (.getfield 19, 3) := by decide +kernel
theorem dX1_split_45 : decode cX1_split 45 = .ok (.arraylength, 1) := by decide +kernel
theorem dX1_split_46 : decode cX1_split 46 = .ok (.if_icmp .lt (-41), 3) := by decide +kernel
theorem dX1_split_49 : decode cX1_split 49 = .ok (.iload_n 3, 1) := by decide +kernel
theorem dX1_split_50 : decode cX1_split 50 = .ok (.ireturn, 1) := by decide +kernel
theorem dX1_power_0 : decode cX1_power 0 = .ok (.lconst 1, 1) := by decide +kernel
theorem dX1_power_1 : decode cX1_power 1 = .ok (.lstore_n 2, 1) := by decide +kernel
theorem dX1_power_2 : decode cX1_power 2 = .ok (.iconst 0, 1) := by decide +kernel
theorem dX1_power_3 : decode cX1_power 3 = .ok (.istore 4, 2) := by decide +kernel
theorem dX1_power_5 : decode cX1_power 5 = .ok (.iload 4, 2) := by decide +kernel
theorem dX1_power_7 : decode cX1_power 7 = .ok (.iload_n 1, 1) := by decide +kernel
theorem dX1_power_8 : decode cX1_power 8 = .ok (.if_icmp .ge 17, 3) := by decide +kernel
theorem dX1_power_11 : decode cX1_power 11 = .ok (.lload_n 2, 1) := by decide +kernel
theorem dX1_power_12 : decode cX1_power 12 = .ok (.aload_n 0, 1) := by decide +kernel
theorem dX1_power_13 : decode cX1_power 13 = .ok (.getfield 9, 3) := by decide +kernel
theorem dX1_power_16 : decode cX1_power 16 = .ok (.i2l, 1) := by decide +kernel
theorem dX1_power_17 : decode cX1_power 17 = .ok (.lmul, 1) := by decide +kernel
