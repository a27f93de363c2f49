theorem dX5_renew_11 : decode cX5_renew 11 = .ok (.getfield 47, 3) := by decide +kernel
theorem dX5_renew_14 : decode cX5_renew 14 = .ok (.if_icmp .ne 4, 3) := by decide +kernel
theorem dX5_renew_17 : decode cX5_renew 17 = .ok (.return_, 1) := by decide +kernel
theorem dX5_renew_18 : decode cX5_renew 18 = .ok (.aload_n 0, 1) := by decide +kernel
theorem dX5_renew_19 : decode cX5_renew 19 = .ok (.aload_n 0, 1) := by decide +kernel
theorem dX5_renew_20 : decode cX5_renew 20 = .ok (.getfield 26, 3) := by decide +kernel
theorem dX5_renew_23 : decode cX5_renew 23 = .ok (.getfield 43, 3) := by decide +kernel
theorem dX5_renew_26 : decode cX5_renew 26 = .ok (.getfield 47, 3) := by decide +kernel
theorem dX5_renew_29 : decode cX5_renew 29 = .ok (.putfield 9, 3) := by decide +kernel
theorem dX5_renew_32 : decode cX5_renew 32 = .ok (.aload_n 0, 1) := by decide +kernel
theorem dX5_renew_33 : decode cX5_renew 33 = .ok (.iconst 0, 1) := by decide +kernel
theorem dX5_renew_34 : decode cX5_renew 34 = .ok (.putfield 19, 3) := by decide +kernel
theorem dX5_renew_37 : decode cX5_renew 37 = .ok (.aload_n 0, 1) := by decide +kernel
theorem dX5_renew_38 : decode cX5_renew 38 = .ok (.getfield 19, 3) := by decide +kernel
theorem dX5_renew_41 : decode cX5_renew 41 = .ok (.aload_n 0, 1) := by decide +kernel
theorem dX5_renew_42 : decode cX5_renew 42 = .ok (.getfield 15, 3) := by decide +kernel
theorem dX5_renew_45 : decode cX5_renew 45 = .ok (.arraylength, 1) := by decide +kernel
theorem dX5_renew_46 : decode cX5_renew 46 = .ok (.if_icmp .ge 61, 3) := by decide +kernel
theorem dX5_renew_49 : decode cX5_renew 49 = .ok (.aload_n 0, 1) := by decide +kernel
theorem dX5_renew_50 : decode cX5_renew 50 = .ok (.getfield 26, 3) := by decide +kernel
theorem dX5_renew_53 : decode cX5_renew 53 = .ok (.aload_n 0, 1) := by decide +kernel
theorem dX5_renew_54 : decode cX5_renew 54 = .ok (.getfield 19, 3) := by decide +kernel
theorem dX5_renew_57 : decode cX5_renew 57 = .ok (.iconst 1, 1) := by decide +kernel
theorem dX5_renew_58 : decode cX5_renew 58 = .ok (.iadd, 1) := by decide +kernel
theorem dX5_renew_59 : decode cX5_renew 59 = .ok (.i2l, 1) := by decide +kernel
theorem dX5_renew_60 : decode cX5_renew 60 = .ok (.invokevirtual 50, 3) := by decide +kernel
theorem dX5_renew_63 : decode cX5_renew 63 = .ok (.ldc2_w 54, 3) := by decide +kernel
theorem dX5_renew_66 : decode cX5_renew 66 = .ok (.lcmp, 1) := by decide +kernel
theorem dX5_renew_67 : decode cX5_renew 67 = .ok (.ifCond .gt 40, 3) := by decide +kernel
theorem dX5_renew_70 : decode cX5_renew 70 = .ok (.aload_n 0, 1) := by decide +kernel
theorem dX5_renew_71 : decode cX5_renew 71 = .ok (.getfield 15, 3) := by decide +kernel
theorem dX5_renew_74 : decode cX5_renew 74 = .ok (.aload_n 0, 1) := by decide +kernel
theorem dX5_renew_75 : decode cX5_renew 75 = .ok (.getfield 19, 3) := by decide +kernel
theorem dX5_renew_78 : decode cX5_renew 78 = .ok (.aload_n 0, 1) := by decide +kernel
theorem dX5_renew_79 : decode cX5_renew 79 = .ok (.getfield 26, 3) := by decide +kernel
theorem dX5_renew_82 : decode cX5_renew 82 = .ok (.aload_n 0, 1) := by decide +kernel
theorem dX5_renew_83 : decode cX5_renew 83 = .ok (.getfield 19, 3) := by decide +kernel
theorem dX5_renew_86 : decode cX5_renew 86 = .ok (.iconst 1, 1) := by decide +kernel
theorem dX5_renew_87 : decode cX5_renew 87 = .ok (.iadd, 1) := by decide +kernel
theorem dX5_renew_88 : decode cX5_renew 88 = .ok (.i2l, 1) := by decide +kernel
theorem dX5_renew_89 : decode cX5_renew 89 = .ok (.invokevirtual 50, 3) := by decide +kernel
theorem dX5_renew_92 : decode cX5_renew 92 = .ok (.l2i, 1) := by decide +kernel
theorem dX5_renew_93 : decode cX5_renew 93 = .ok (.iastore, 1) := by decide +kernel
theorem dX5_renew_94 : decode cX5_renew 94 = .ok (.aload_n 0, 1) := by decide +kernel
theorem dX5_renew_95 : decode cX5_renew 95 = .ok (.dup, 1) := by decide +kernel
theorem dX5_renew_96 : decode cX5_renew 96 = .ok (.getfield 19, 3) := by decide +kernel
theorem dX5_renew_99 : decode cX5_renew 99 = .ok (.iconst 1, 1) := by decide +kernel
theorem dX5_renew_100 : decode cX5_renew 100 = .ok (.iadd, 1) := by decide +kernel
theorem dX5_renew_101 : decode cX5_renew 101 = .ok (.putfield 19, 3) := by decide +kernel
theorem dX5_renew_104 : decode cX5_renew 104 = .ok (.goto (-67), 3) := by decide +kernel
theorem dX5_renew_107 : decode cX5_renew 107 = .ok (.iconst 0, 1) := by decide +kernel
theorem dX5_renew_108 : decode cX5_renew 108 = .ok (.istore_n 1, 1) := by decide +kernel
theorem dX5_renew_109 : decode cX5_renew 109 = .ok (.iload_n 1, 1) := by decide +kernel
theorem dX5_renew_110 : decode cX5_renew 110 = .ok (.aload_n 0, 1) := by decide +kernel
theorem dX5_renew_111 : decode cX5_renew 111 = .ok (.getfield 22, 3) := by decide +kernel
theorem dX5_renew_114 : decode cX5_renew 114 = .ok (.arraylength, 1) := by decide +kernel
theorem dX5_renew_115 : decode cX5_renew 115 = .ok (.if_icmp .ge 16, 3) := by decide +kernel
theorem dX5_renew_118 : decode cX5_renew 118 = .ok (.aload_n 0, 1) := by decide +kernel
theorem dX5_renew_119 : decode cX5_renew 119 = .ok (.getfield 22, 3) := by decide +kernel
theorem dX5_renew_122 : decode cX5_renew 122 = .ok (.iload_n 1, 1) := by decide +kernel
theorem dX5_renew_123 : decode cX5_renew 123 = .ok (.iconst 0, 1) := by decide +kernel
theorem dX5_renew_124 : decode cX5_renew 124 = .ok (.bastore, 1) := by decide +kernel
theorem dX5_renew_125 : decode cX5_renew 125 = .ok (.iinc 1 1, 3) := by decide +kernel
theorem dX5_renew_128 : decode cX5_renew 128 = .ok (.goto (-19), 3) := by decide +kernel
theorem dX5_renew_131 : decode cX5_renew 131 = .ok (.iconst 0, 1) := by decide +kernel
theorem dX5_renew_132 : decode cX5_renew 132 = .ok (.istore_n 1, 1) := by decide +kernel
theorem dX5_renew_133 : decode cX5_renew 133 = .ok (.iload_n 1, 1) := by decide +kernel
theorem dX5_renew_134 : decode cX5_renew 134 = .ok (.aload_n 0, 1) := by decide +kernel
theorem dX5_renew_135 : decode cX5_renew 135 = .ok (.getfield 19, 3) := by decide +kernel
theorem dX5_renew_138 : decode cX5_renew 138 = .ok (.if_icmp .ge 65, 3) := by decide +kernel
theorem dX5_renew_141 : decode cX5_renew 141 = .ok (.iload_n 1, 1) := by decide +kernel
theorem dX5_renew_142 : decode cX5_renew 142 = .ok (.istore_n 2, 1) := by decide +kernel
theorem dX5_renew_143 : decode cX5_renew 143 = .ok (.iload_n 2, 1) := by decide +kernel
theorem dX5_renew_144 : decode cX5_renew 144 = .ok (.aload_n 0, 1) := by decide +kernel
theorem dX5_renew_145 : decode cX5_renew 145 = .ok (.getfield 19, 3) := by decide +kernel
theorem dX5_renew_148 : decode cX5_renew 148 = .ok (.if_icmp .ge 49, 3) := by decide +kernel
theorem dX5_renew_151 : decode cX5_renew 151 = .ok (.aload_n 0, 1) := by decide +kernel
theorem dX5_renew_152 : decode cX5_renew 152 = .ok (.getfield 15, 3) := by decide +kernel
theorem dX5_renew_155 : decode cX5_renew 155 = .ok (.iload_n 1, 1) := by decide +kernel
theorem dX5_renew_156 : decode cX5_renew 156 = .ok (.iaload, 1) := by decide +kernel
theorem dX5_renew_157 : decode cX5_renew 157 = .ok (.aload_n 0, 1) := by decide +kernel
theorem dX5_renew_158 : decode cX5_renew 158 = .ok (.getfield 15, 3) := by decide +kernel
theorem dX5_renew_161 : decode cX5_renew 161 = .ok (.iload_n 2, 1) := by decide +kernel
theorem dX5_renew_162 : decode cX5_renew 162 = .ok (.iaload, 1) := by decide +kernel
theorem dX5_renew_163 : decode cX5_renew 163 = .ok (.iadd, 1) := by decide +kernel
theorem dX5_renew_164 : decode cX5_renew 164 = .ok (.aload_n 0, 1) := by decide +kernel
theorem dX5_renew_165 : decode cX5_renew 165 = .ok (.getfield 22, 3) := by decide +kernel
theorem dX5_renew_168 : decode cX5_renew 168 = .ok (.arraylength, 1) := by decide +kernel
theorem dX5_renew_169 : decode cX5_renew 169 = .ok (.if_icmp .ge 28, 3) := by decide +kernel
theorem dX5_renew_172 : decode cX5_renew 172 = .ok (.aload_n 0, 1) := by decide +kernel
theorem dX5_renew_173 : decode cX5_renew 173 = .ok (.getfield 22, 3) := by decide +kernel
theorem dX5_renew_176 : decode cX5_renew 176 = .ok (.aload_n 0, 1) := by decide +kernel
theorem dX5_renew_177 : decode cX5_renew 177 = .ok (.getfield 15, 3) := by decide +kernel
theorem dX5_renew_180 : decode cX5_renew 180 = .ok (.iload_n 1, 1) := by decide +kernel
theorem dX5_renew_181 : decode cX5_renew 181 = .ok (.iaload, 1) := by decide +kernel
theorem dX5_renew_182 : decode cX5_renew 182 = .ok (.aload_n 0, 1) := by decide +kernel
theorem dX5_renew_183 : decode cX5_renew 183 = .ok (.getfield 15, 3) := by decide +kernel
theorem dX5_renew_186 : decode cX5_renew 186 = .ok (.iload_n 2, 1) := by decide +kernel
theorem dX5_renew_187 : decode cX5_renew 187 = .ok (.iaload, 1) := by decide +kernel
theorem dX5_renew_188 : decode cX5_renew 188 = .ok (.iadd, 1) := by decide +kernel
theorem dX5_renew_189 : decode cX5_renew 189 = .ok (.iconst 1, 1) := by decide +kernel
theorem dX5_renew_190 : decode cX5_renew 190 = .ok (.bastore, 1) := by decide +kernel
theorem dX5_renew_191 : decode cX5_renew 191 = .ok (.iinc 2 1, 3) := by decide +kernel
theorem dX5_renew_194 : decode cX5_renew 194 = .ok (.goto (-51), 3) := by decide +kernel
theorem dX5_renew_197 : decode cX5_renew 197 = .ok (.iinc 1 1, 3) := by decide +kernel
theorem dX5_renew_200 : decode cX5_renew 200 = .ok (.goto (-67), 3) := by decide +kernel
theorem dX5_renew_203 : decode cX5_renew 203 = .ok (.return_, 1) := by decide +kernel
theorem dX6_init_0 : decode cX6_init 0 = .ok (.aload_n 0, 1) := by decide +kernel
theorem dX6_init_1 : decode cX6_init 1 = .ok (.invokespecial 3, 3) := by decide +kernel
theorem dX6_init_4 : decode cX6_init 4 = .ok (.aload_n 0, 1) := by decide +kernel
theorem dX6_init_5 : decode cX6_init 5 = .ok (.sipush 301, 3) := by decide +kernel
theorem dX6_init_8 : decode cX6_init 8 = .ok (.newarray .long, 2) := by decide +kernel
theorem dX6_init_10 : decode cX6_init 10 = .ok (.putfield 9, 3) := by decide +kernel
theorem dX6_init_13 : decode cX6_init 13 = .ok (.aload_n 0, 1) := by decide +kernel
theorem dX6_init_14 : decode cX6_init 14 = .ok (.iconst 0, 1) := by decide +kernel
theorem dX6_init_15 : decode cX6_init 15 = .ok (.putfield 15, 3) := by decide +kernel
theorem dX6_init_18 : decode cX6_init 18 = .ok (.aload_n 0, 1) := by decide +kernel
theorem dX6_init_19 : decode cX6_init 19 = .ok (.iconst 0, 1) := by decide +kernel
theorem dX6_init_20 : decode cX6_init 20 = .ok (.putfield 19, 3) := by decide +kernel
theorem dX6_init_23 : decode cX6_init 23 = .ok (.aload_n 0, 1) := by decide +kernel
theorem dX6_init_24 : decode cX6_init 24 = .ok (.iconst 0, 1) := by decide +kernel
theorem dX6_init_25 : decode cX6_init 25 = .ok (.putfield 22, 3) := by decide +kernel
theorem dX6_init_28 : decode cX6_init 28 = .ok (.return_, 1) := by decide +kernel
set_option maxRecDepth 20000 in
theorem ggX6_follow_X6_placeOf : GoodIn wsX6_follow wsX6_placeOf := goodIn_r _ [15, 1, 3, 47, 48, 49, 50] (by decide +kernel) (by decide +kernel)
set_option maxRecDepth 20000 in
theorem gX6_follow_X6_placeOf : GoodIn wsX6_follow (wsV RX6 29 RX6 yX6_placeOf wsX6_placeOf) := goodIn_app (goodIn_of _ (by decide +kernel)) ggX6_follow_X6_placeOf
set_option maxRecDepth 20000 in
theorem ggX6_follow_X1_make : GoodIn wsX6_follow wsX1_make := goodIn_r _ [20, 21, 22, 23, 19, 24, 25, 26, 27, 28, 29, 30, 31, 32, 33, 34, 35, 36, 37, 38, 39, 40, 41, 42, 43, 44, 45, 46, 51, 52, 53, 54, 55] (by decide +kernel) (by decide +kernel)
set_option maxRecDepth 20000 in
theorem gX6_follow_X1_make : GoodIn wsX6_follow (wsV RX6 39 RX1 yX1_make wsX1_make) := goodIn_app (goodIn_of _ (by decide +kernel)) ggX6_follow_X1_make
theorem dX6_follow_0 : decode cX6_follow 0 = .ok (.aload_n 0, 1) := by decide +kernel
theorem dX6_follow_1 : decode cX6_follow 1 = .ok (.iconst 0, 1) := by decide +kernel
theorem dX6_follow_2 : decode cX6_follow 2 = .ok (.putfield 15, 3) := by decide +kernel
theorem dX6_follow_5 : decode cX6_follow 5 = .ok (.lload_n 3, 1) := by decide +kernel
theorem dX6_follow_6 : decode cX6_follow 6 = .ok (.lstore 5, 2) := by decide +kernel
theorem dX6_follow_8 : decode cX6_follow 8 = .ok (.ldc2_w 25, 3) := by decide +kernel
theorem dX6_follow_11 : decode cX6_follow 11 = .ok (.lstore 7, 2) := by decide +kernel
theorem dX6_follow_13 : decode cX6_follow 13 = .ok (.aload_n 0, 1) := by decide +kernel
theorem dX6_follow_14 : decode cX6_follow 14 = .ok (.getfield 15, 3) := by decide +kernel
theorem dX6_follow_17 : decode cX6_follow 17 = .ok (.aload_n 0, 1) := by decide +kernel
theorem dX6_follow_18 : decode cX6_follow 18 = .ok (.getfield 9, 3) := by decide +kernel
theorem dX6_follow_21 : decode cX6_follow 21 = .ok (.arraylength, 1) := by decide +kernel
theorem dX6_follow_22 : decode cX6_follow 22 = .ok (.if_icmp .ge 97, 3) := by decide +kernel
theorem dX6_follow_25 : decode cX6_follow 25 = .ok (.lload 5, 2) := by decide +kernel
theorem dX6_follow_27 : decode cX6_follow 27 = .ok (.ldc2_w 27, 3) := by decide +kernel
theorem dX6_follow_30 : decode cX6_follow 30 = .ok (.lcmp, 1) := by decide +kernel
theorem dX6_follow_31 : decode cX6_follow 31 = .ok (.ifCond .gt 88, 3) := by decide +kernel
theorem dX6_follow_34 : decode cX6_follow 34 = .ok (.lload 5, 2) := by decide +kernel
theorem dX6_follow_36 : decode cX6_follow 36 = .ok (.lload 7, 2) := by decide +kernel
theorem dX6_follow_38 : decode cX6_follow 38 = .ok (.lcmp, 1) := by decide +kernel
theorem dX6_follow_39 : decode cX6_follow 39 = .ok (.ifCond .le 7, 3) := by decide +kernel
theorem dX6_follow_42 : decode cX6_follow 42 = .ok (.iconst (-1), 1) := by decide +kernel
theorem dX6_follow_43 : decode cX6_follow 43 = .ok (.goto 9, 3) := by decide +kernel
theorem dX6_follow_46 : decode cX6_follow 46 = .ok (.aload_n 0, 1) := by decide +kernel
theorem dX6_follow_47 : decode cX6_follow 47 = .ok (.lload 5, 2) := by decide +kernel
theorem dX6_follow_49 : decode cX6_follow 49 = .ok (.invokevirtual 29, 3) := by decide +kernel
theorem dX6_follow_52 : decode cX6_follow 52 = .ok (.istore 9, 2) := by decide +kernel
theorem dX6_follow_54 : decode cX6_follow 54 = .ok (.iload 9, 2) := by decide +kernel
theorem dX6_follow_56 : decode cX6_follow 56 = .ok (.ifCond .lt 21, 3) := by decide +kernel
theorem dX6_follow_59 : decode cX6_follow 59 = .ok (.aload_n 0, 1) := by decide +kernel
theorem dX6_follow_60 : decode cX6_follow 60 = .ok (.iload 9, 2) := by decide +kernel
theorem dX6_follow_62 : decode cX6_follow 62 = .ok (.putfield 19, 3) := by decide +kernel
theorem dX6_follow_65 : decode cX6_follow 65 = .ok (.aload_n 0, 1) := by decide +kernel
theorem dX6_follow_66 : decode cX6_follow 66 = .ok (.aload_n 0, 1) := by decide +kernel
theorem dX6_follow_67 : decode cX6_follow 67 = .ok (.getfield 15, 3) := by decide +kernel
theorem dX6_follow_70 : decode cX6_follow 70 = .ok (.iload 9, 2) := by decide +kernel
theorem dX6_follow_72 : decode cX6_follow 72 = .ok (.isub, 1) := by decide +kernel
theorem dX6_follow_73 : decode cX6_follow 73 = .ok (.putfield 22, 3) := by decide +kernel
theorem dX6_follow_76 : decode cX6_follow 76 = .ok (.return_, 1) := by decide +kernel
theorem dX6_follow_77 : decode cX6_follow 77 = .ok (.lload 7, 2) := by decide +kernel
theorem dX6_follow_79 : decode cX6_follow 79 = .ok (.lload 5, 2) := by decide +kernel
theorem dX6_follow_81 : decode cX6_follow 81 = .ok (.invokestatic 33, 3) := by decide +kernel
theorem dX6_follow_84 : decode cX6_follow 84 = .ok (.lstore 7, 2) := by decide +kernel
theorem dX6_follow_86 : decode cX6_follow 86 = .ok (.aload_n 0, 1) := by decide +kernel
theorem dX6_follow_87 : decode cX6_follow 87 = .ok (.getfield 9, 3) := by decide +kernel
theorem dX6_follow_90 : decode cX6_follow 90 = .ok (.aload_n 0, 1) := by decide +kernel
theorem dX6_follow_91 : decode cX6_follow 91 = .ok (.getfield 15, 3) := by decide +kernel
theorem dX6_follow_94 : decode cX6_follow 94 = .ok (.lload 5, 2) := by decide +kernel
theorem dX6_follow_96 : decode cX6_follow 96 = .ok (.lastore, 1) := by decide +kernel
theorem dX6_follow_97 : decode cX6_follow 97 = .ok (.aload_n 0, 1) := by decide +kernel
theorem dX6_follow_98 : decode cX6_follow 98 = .ok (.dup, 1) := by decide +kernel
theorem dX6_follow_99 : decode cX6_follow 99 = .ok (.getfield 15, 3) := by decide +kernel
theorem dX6_follow_102 : decode cX6_follow 102 = .ok (.iconst 1, 1) := by decide +kernel
theorem dX6_follow_103 : decode cX6_follow 103 = .ok (.iadd, 1) := by decide +kernel
theorem dX6_follow_104 : decode cX6_follow 104 = .ok (.putfield 15, 3) := by decide +kernel
theorem dX6_follow_107 : decode cX6_follow 107 = .ok (.aload_n 1, 1) := by decide +kernel
theorem dX6_follow_108 : decode cX6_follow 108 = .ok (.iload_n 2, 1) := by decide +kernel
theorem dX6_follow_109 : decode cX6_follow 109 = .ok (.lload 5, 2) := by decide +kernel
theorem dX6_follow_111 : decode cX6_follow 111 = .ok (.invokevirtual 39, 3) := by decide +kernel
theorem dX6_follow_114 : decode cX6_follow 114 = .ok (.lstore 5, 2) := by decide +kernel
theorem dX6_follow_116 : decode cX6_follow 116 = .ok (.goto (-103), 3) := by decide +kernel
theorem dX6_follow_119 : decode cX6_follow 119 = .ok (.aload_n 0, 1) := by decide +kernel
theorem dX6_follow_120 : decode cX6_follow 120 = .ok (.aload_n 0, 1) := by decide +kernel
theorem dX6_follow_121 : decode cX6_follow 121 = .ok (.getfield 15, 3) := by decide +kernel
theorem dX6_follow_124 : decode cX6_follow 124 = .ok (.putfield 19, 3) := by decide +kernel
theorem dX6_follow_127 : decode cX6_follow 127 = .ok (.aload_n 0, 1) := by decide +kernel
theorem dX6_follow_128 : decode cX6_follow 128 = .ok (.iconst 0, 1) := by decide +kernel
theorem dX6_follow_129 : decode cX6_follow 129 = .ok (.putfield 22, 3) := by decide +kernel
theorem dX6_follow_132 : decode cX6_follow 132 = .ok (.return_, 1) := by decide +kernel
theorem dX6_numberAt_0 : decode cX6_numberAt 0 = .ok (.iload_n 1, 1) := by decide +kernel
theorem dX6_numberAt_1 : decode cX6_numberAt 1 = .ok (.ifCond .lt 18, 3) := by decide +kernel
theorem dX6_numberAt_4 : decode cX6_numberAt 4 = .ok (.iload_n 1, 1) := by decide +kernel
theorem dX6_numberAt_5 : decode cX6_numberAt 5 = .ok (.aload_n 0, 1) := by decide +kernel
theorem dX6_numberAt_6 : decode cX6_numberAt 6 = .ok (.getfield 15, 3) := by decide +kernel
theorem dX6_numberAt_9 : decode cX6_numberAt 9 = .ok (.if_icmp .ge 10, 3) := by decide +kernel
theorem dX6_numberAt_12 : decode cX6_numberAt 12 = .ok (.aload_n 0, 1) := by decide +kernel
theorem dX6_numberAt_13 : decode cX6_numberAt 13 = .ok (.getfield 9, 3) := by decide +kernel
theorem dX6_numberAt_16 : decode cX6_numberAt 16 = .ok (.iload_n 1, 1) := by decide +kernel
theorem dX6_numberAt_17 : decode cX6_numberAt 17 = .ok (.laload, 1) := by decide +kernel
theorem dX6_numberAt_18 : decode cX6_numberAt 18 = .ok (.lreturn, 1) := by decide +kernel
theorem dX6_numberAt_19 : decode cX6_numberAt 19 = .ok (.aload_n 0, 1) := by decide +kernel
theorem dX6_numberAt_20 : decode cX6_numberAt 20 = .ok (.getfield 22, 3) := by decide +kernel
theorem dX6_numberAt_23 : decode cX6_numberAt 23 = .ok (.ifCond .eq 11, 3) := by decide +kernel
theorem dX6_numberAt_26 : decode cX6_numberAt 26 = .ok (.iload_n 1, 1) := by decide +kernel
theorem dX6_numberAt_27 : decode cX6_numberAt 27 = .ok (.aload_n 0, 1) := by decide +kernel
theorem dX6_numberAt_28 : decode cX6_numberAt 28 = .ok (.getfield 19, 3) := by decide +kernel
theorem dX6_numberAt_31 : decode cX6_numberAt 31 = .ok (.if_icmp .ge 7, 3) := by decide +kernel
theorem dX6_numberAt_34 : decode cX6_numberAt 34 = .ok (.ldc2_w 45, 3) := by decide +kernel
theorem dX6_numberAt_37 : decode cX6_numberAt 37 = .ok (.lreturn, 1) := by decide +kernel
theorem dX6_numberAt_38 : decode cX6_numberAt 38 = .ok (.aload_n 0, 1) := by decide +kernel
theorem dX6_numberAt_39 : decode cX6_numberAt 39 = .ok (.getfield 9, 3) := by decide +kernel
theorem dX6_numberAt_42 : decode cX6_numberAt 42 = .ok (.aload_n 0, 1) := by decide +kernel
theorem dX6_numberAt_43 : decode cX6_numberAt 43 = .ok (.getfield 19, 3) := by decide +kernel
theorem dX6_numberAt_46 : decode cX6_numberAt 46 = .ok (.iload_n 1, 1) := by decide +kernel
theorem dX6_numberAt_47 : decode cX6_numberAt 47 = .ok (.aload_n 0, 1) := by decide +kernel
theorem dX6_numberAt_48 : decode cX6_numberAt 48 = .ok (.getfield 19, 3) := by decide +kernel
theorem dX6_numberAt_51 : decode cX6_numberAt 51 = .ok (.isub, 1) := by decide +kernel
theorem dX6_numberAt_52 : decode cX6_numberAt 52 = .ok (.aload_n 0, 1) := by decide +kernel
theorem dX6_numberAt_53 : decode cX6_numberAt 53 = .ok (.getfield 22, 3) := by decide +kernel
theorem dX6_numberAt_56 : decode cX6_numberAt 56 = .ok (.irem, 1) := by decide +kernel
theorem dX6_numberAt_57 : decode cX6_numberAt 57 = .ok (.iadd, 1) := by decide +kernel
theorem dX6_numberAt_58 : decode cX6_numberAt 58 = .ok (.laload, 1) := by decide +kernel
theorem dX6_numberAt_59 : decode cX6_numberAt 59 = .ok (.lreturn, 1) := by decide +kernel
theorem dX6_isRoundOfLeast_0 : decode cX6_isRoundOfLeast 0 = .ok (.aload_n 0, 1) := by decide +kernel
theorem dX6_isRoundOfLeast_1 : decode cX6_isRoundOfLeast 1 = .ok (.getfield 22, 3) := by decide +kernel
theorem dX6_isRoundOfLeast_4 : decode cX6_isRoundOfLeast 4 = .ok (.ifCond .eq 10, 3) := by decide +kernel
theorem dX6_isRoundOfLeast_7 : decode cX6_isRoundOfLeast 7 = .ok (.aload_n 0, 1) := by decide +kernel
theorem dX6_isRoundOfLeast_8 : decode cX6_isRoundOfLeast 8 = .ok (.getfield 19, 3) := by decide +kernel
theorem dX6_isRoundOfLeast_11 : decode cX6_isRoundOfLeast 11 = .ok (.ifCond .eq 5, 3) := by decide +kernel
theorem dX6_isRoundOfLeast_14 : decode cX6_isRoundOfLeast 14 = .ok (.iconst 0, 1) := by decide +kernel
theorem dX6_isRoundOfLeast_15 : decode cX6_isRoundOfLeast 15 = .ok (.ireturn, 1) := by decide +kernel
theorem dX6_isRoundOfLeast_16 : decode cX6_isRoundOfLeast 16 = .ok (.iconst 1, 1) := by decide +kernel
theorem dX6_isRoundOfLeast_17 : decode cX6_isRoundOfLeast 17 = .ok (.istore_n 1, 1) := by decide +kernel
theorem dX6_isRoundOfLeast_18 : decode cX6_isRoundOfLeast 18 = .ok (.iload_n 1, 1) := by decide +kernel
theorem dX6_isRoundOfLeast_19 : decode cX6_isRoundOfLeast 19 = .ok (.aload_n 0, 1) := by decide +kernel
theorem dX6_isRoundOfLeast_20 : decode cX6_isRoundOfLeast 20 = .ok (.getfield 15, 3) := by decide +kernel
theorem dX6_isRoundOfLeast_23 : decode cX6_isRoundOfLeast 23 = .ok (.if_icmp .ge 27, 3) := by decide +kernel
theorem dX6_isRoundOfLeast_26 : decode cX6_isRoundOfLeast 26 = .ok (.aload_n 0, 1) := by decide +kernel
theorem dX6_isRoundOfLeast_27 : decode cX6_isRoundOfLeast 27 = .ok (.getfield 9, 3) := by decide +kernel
theorem dX6_isRoundOfLeast_30 : decode cX6_isRoundOfLeast 30 = .ok (.iload_n 1, 1) := by decide +kernel
theorem dX6_isRoundOfLeast_31 : decode cX6_isRoundOfLeast 31 = .ok (.laload, 1) := by decide +kernel
theorem dX6_isRoundOfLeast_32 : decode cX6_isRoundOfLeast 32 = .ok (.aload_n 0, 1) := by decide +kernel
theorem dX6_isRoundOfLeast_33 : decode cX6_isRoundOfLeast 33 = .ok (.getfield 9, 3) := by decide +kernel
theorem dX6_isRoundOfLeast_36 : decode cX6_isRoundOfLeast 36 = .ok (.iconst 0, 1) := by decide +kernel
theorem dX6_isRoundOfLeast_37 : decode cX6_isRoundOfLeast 37 = .ok (.laload, 1) := by decide +kernel
theorem dX6_isRoundOfLeast_38 : decode cX6_isRoundOfLeast 38 = .ok (.lcmp, 1) := by decide +kernel
theorem dX6_isRoundOfLeast_39 : decode cX6_isRoundOfLeast 39 = .ok (.ifCond .ge 5, 3) := by decide +kernel
theorem dX6_isRoundOfLeast_42 : decode cX6_isRoundOfLeast 42 = .ok (.iconst 0, 1) := by decide +kernel
theorem dX6_isRoundOfLeast_43 : decode cX6_isRoundOfLeast 43 = .ok (.ireturn, 1) := by decide +kernel
theorem dX6_isRoundOfLeast_44 : decode cX6_isRoundOfLeast 44 = .ok (.iinc 1 1, 3) := by decide +kernel
theorem dX6_isRoundOfLeast_47 : decode cX6_isRoundOfLeast 47 = .ok (.goto (-29), 3) := by decide +kernel
theorem dX6_isRoundOfLeast_50 : decode cX6_isRoundOfLeast 50 = .ok (.iconst 1, 1) := by decide +kernel
theorem dX6_isRoundOfLeast_51 : decode cX6_isRoundOfLeast 51 = .ok (.ireturn, 1) := by decide +kernel
theorem dX6_placeOf_0 : decode cX6_placeOf 0 = .ok (.aload_n 0, 1) := by decide +kernel
theorem dX6_placeOf_1 : decode cX6_placeOf 1 = .ok (.getfield 15, 3) := by decide +kernel
theorem dX6_placeOf_4 : decode cX6_placeOf 4 = .ok (.iconst 1, 1) := by decide +kernel
theorem dX6_placeOf_5 : decode cX6_placeOf 5 = .ok (.isub, 1) := by decide +kernel
theorem dX6_placeOf_6 : decode cX6_placeOf 6 = .ok (.istore_n 3, 1) := by decide +kernel
theorem dX6_placeOf_7 : decode cX6_placeOf 7 = .ok (.iload_n 3, 1) := by decide +kernel
theorem dX6_placeOf_8 : decode cX6_placeOf 8 = .ok (.ifCond .lt 22, 3) := by decide +kernel
theorem dX6_placeOf_11 : decode cX6_placeOf 11 = .ok (.aload_n 0, 1) := by decide +kernel
theorem dX6_placeOf_12 : decode cX6_placeOf 12 = .ok (.getfield 9, 3) := by decide +kernel
theorem dX6_placeOf_15 : decode cX6_placeOf 15 = .ok (.iload_n 3, 1) := by decide +kernel
theorem dX6_placeOf_16 : decode cX6_placeOf 16 = .ok (.laload, 1) := by decide +kernel
theorem dX6_placeOf_17 : decode cX6_placeOf 17 = .ok (.lload_n 1, 1) := by decide +kernel
theorem dX6_placeOf_18 : decode cX6_placeOf 18 = .ok (.lcmp, 1) := by decide +kernel
theorem dX6_placeOf_19 : decode cX6_placeOf 19 = .ok (.ifCond .ne 5, 3) := by decide +kernel
theorem dX6_placeOf_22 : decode cX6_placeOf 22 = .ok (.iload_n 3, 1) := by decide +kernel
theorem dX6_placeOf_23 : decode cX6_placeOf 23 = .ok (.ireturn, 1) := by decide +kernel
theorem dX6_placeOf_24 : decode cX6_placeOf 24 = .ok (.iinc 3 (-1), 3) := by decide +kernel
theorem dX6_placeOf_27 : decode cX6_placeOf 27 = .ok (.goto (-20), 3) := by decide +kernel
theorem dX6_placeOf_30 : decode cX6_placeOf 30 = .ok (.iconst (-1), 1) := by decide +kernel
theorem dX6_placeOf_31 : decode cX6_placeOf 31 = .ok (.ireturn, 1) := by decide +kernel
theorem dX7_init_0 : decode cX7_init 0 = .ok (.aload_n 0, 1) := by decide +kernel
theorem dX7_init_1 : decode cX7_init 1 = .ok (.invokespecial 5, 3) := by decide +kernel
theorem dX7_init_4 : decode cX7_init 4 = .ok (.aload_n 0, 1) := by decide +kernel
theorem dX7_init_5 : decode cX7_init 5 = .ok (.ldc 11, 2) := by decide +kernel
theorem dX7_init_7 : decode cX7_init 7 = .ok (.newarray .int, 2) := by decide +kernel
theorem dX7_init_9 : decode cX7_init 9 = .ok (.putfield 12, 3) := by decide +kernel
theorem dX7_init_12 : decode cX7_init 12 = .ok (.aload_n 0, 1) := by decide +kernel
theorem dX7_init_13 : decode cX7_init 13 = .ok (.ldc 11, 2) := by decide +kernel
theorem dX7_init_15 : decode cX7_init 15 = .ok (.newarray .int, 2) := by decide +kernel
theorem dX7_init_17 : decode cX7_init 17 = .ok (.putfield 16, 3) := by decide +kernel
theorem dX7_init_20 : decode cX7_init 20 = .ok (.aload_n 0, 1) := by decide +kernel
theorem dX7_init_21 : decode cX7_init 21 = .ok (.bipush 16, 2) := by decide +kernel
theorem dX7_init_23 : decode cX7_init 23 = .ok (.newarray .int, 2) := by decide +kernel
theorem dX7_init_25 : decode cX7_init 25 = .ok (.putfield 19, 3) := by decide +kernel
theorem dX7_init_28 : decode cX7_init 28 = .ok (.aload_n 0, 1) := by decide +kernel
theorem dX7_init_29 : decode cX7_init 29 = .ok (.iconst 0, 1) := by decide +kernel
theorem dX7_init_30 : decode cX7_init 30 = .ok (.putfield 22, 3) := by decide +kernel
theorem dX7_init_33 : decode cX7_init 33 = .ok (.aload_n 0, 1) := by decide +kernel
theorem dX7_init_34 : decode cX7_init 34 = .ok (.iconst (-1), 1) := by decide +kernel
theorem dX7_init_35 : decode cX7_init 35 = .ok (.putfield 26, 3) := by decide +kernel
theorem dX7_init_38 : decode cX7_init 38 = .ok (.aload_n 0, 1) := by decide +kernel
theorem dX7_init_39 : decode cX7_init 39 = .ok (.iconst 0, 1) := by decide +kernel
theorem dX7_init_40 : decode cX7_init 40 = .ok (.putfield 29, 3) := by decide +kernel
theorem dX7_init_43 : decode cX7_init 43 = .ok (.aload_n 0, 1) := by decide +kernel
theorem dX7_init_44 : decode cX7_init 44 = .ok (.iconst 0, 1) := by decide +kernel
theorem dX7_init_45 : decode cX7_init 45 = .ok (.putfield 32, 3) := by decide +kernel
theorem dX7_init_48 : decode cX7_init 48 = .ok (.aload_n 0, 1) := by decide +kernel
theorem dX7_init_49 : decode cX7_init 49 = .ok (.iconst 0, 1) := by decide +kernel
theorem dX7_init_50 : decode cX7_init 50 = .ok (.putfield 35, 3) := by decide +kernel
theorem dX7_init_53 : decode cX7_init 53 = .ok (.aload_n 0, 1) := by decide +kernel
theorem dX7_init_54 : decode cX7_init 54 = .ok (.iconst 0, 1) := by decide +kernel
theorem dX7_init_55 : decode cX7_init 55 = .ok (.putfield 38, 3) := by decide +kernel
theorem dX7_init_58 : decode cX7_init 58 = .ok (.aload_n 0, 1) := by decide +kernel
theorem dX7_init_59 : decode cX7_init 59 = .ok (.iconst 0, 1) := by decide +kernel
theorem dX7_init_60 : decode cX7_init 60 = .ok (.putfield 41, 3) := by decide +kernel
theorem dX7_init_63 : decode cX7_init 63 = .ok (.aload_n 0, 1) := by decide +kernel
theorem dX7_init_64 : decode cX7_init 64 = .ok (.iconst 0, 1) := by decide +kernel
theorem dX7_init_65 : decode cX7_init 65 = .ok (.putfield 44, 3) := by decide +kernel
theorem dX7_init_68 : decode cX7_init 68 = .ok (.aload_n 0, 1) := by decide +kernel
theorem dX7_init_69 : decode cX7_init 69 = .ok (.iconst 0, 1) := by decide +kernel
theorem dX7_init_70 : decode cX7_init 70 = .ok (.putfield 47, 3) := by decide +kernel
theorem dX7_init_73 : decode cX7_init 73 = .ok (.return_, 1) := by decide +kernel
set_option maxRecDepth 20000 in
theorem ggX7_seek_X7_allow : GoodIn wsX7_seek wsX7_allow := goodIn_r _ [12, 5, 2, 13, 35, 36, 37, 38, 39, 40, 41, 42, 43, 44, 45, 46] (by decide +kernel) (by decide +kernel)
set_option maxRecDepth 20000 in
theorem gX7_seek_X7_allow : GoodIn wsX7_seek (wsV RX7 50 RX7 yX7_allow wsX7_allow) := goodIn_app (goodIn_of _ (by decide +kernel)) ggX7_seek_X7_allow
set_option maxRecDepth 20000 in
theorem ggX7_seek_X7_walk : GoodIn wsX7_seek wsX7_walk := goodIn_r _ [17, 6, 3, 18, 19, 20, 21, 7, 22, 23, 24, 11, 25, 5, 13, 2, 26, 27, 28, 29, 1, 35, 36, 37, 38, 39, 40, 41, 42, 43, 44, 45, 46] (by decide +kernel) (by decide +kernel)
set_option maxRecDepth 20000 in
theorem gX7_seek_X7_walk : GoodIn wsX7_seek (wsV RX7 54 RX7 yX7_walk wsX7_walk) := goodIn_app (goodIn_of _ (by decide +kernel)) ggX7_seek_X7_walk
set_option maxRecDepth 20000 in
theorem ggX7_seek_X7_measure : GoodIn wsX7_seek wsX7_measure := goodIn_r _ [33, 34, 19, 7, 18, 35, 36, 37, 38, 39, 40, 41, 42, 43, 44, 45, 46] (by decide +kernel) (by decide +kernel)
set_option maxRecDepth 20000 in
theorem gX7_seek_X7_measure : GoodIn wsX7_seek (wsV RX7 57 RX7 yX7_measure wsX7_measure) := goodIn_app (goodIn_of _ (by decide +kernel)) ggX7_seek_X7_measure
theorem dX7_seek_0 : decode cX7_seek 0 = .ok (.aload_n 0, 1) := by decide +kernel
theorem dX7_seek_1 : decode cX7_seek 1 = .ok (.getfield 26, 3) := by decide +kernel
theorem dX7_seek_4 : decode cX7_seek 4 = .ok (.iload_n 1, 1) := by decide +kernel
theorem dX7_seek_5 : decode cX7_seek 5 = .ok (.if_icmp .ne 29, 3) := by decide +kernel
theorem dX7_seek_8 : decode cX7_seek 8 = .ok (.aload_n 0, 1) := by decide +kernel
theorem dX7_seek_9 : decode cX7_seek 9 = .ok (.getfield 29, 3) := by decide +kernel
theorem dX7_seek_12 : decode cX7_seek 12 = .ok (.iload_n 2, 1) := by decide +kernel
theorem dX7_seek_13 : decode cX7_seek 13 = .ok (.if_icmp .ne 21, 3) := by decide +kernel
theorem dX7_seek_16 : decode cX7_seek 16 = .ok (.aload_n 0, 1) := by decide +kernel
theorem dX7_seek_17 : decode cX7_seek 17 = .ok (.getfield 32, 3) := by decide +kernel
theorem dX7_seek_20 : decode cX7_seek 20 = .ok (.iload_n 3, 1) := by decide +kernel
theorem dX7_seek_21 : decode cX7_seek 21 = .ok (.if_icmp .ne 13, 3) := by decide +kernel
theorem dX7_seek_24 : decode cX7_seek 24 = .ok (.aload_n 0, 1) := by decide +kernel
theorem dX7_seek_25 : decode cX7_seek 25 = .ok (.getfield 35, 3) := by decide +kernel
theorem dX7_seek_28 : decode cX7_seek 28 = .ok (.iload 4, 2) := by decide +kernel
theorem dX7_seek_30 : decode cX7_seek 30 = .ok (.if_icmp .ne 4, 3) := by decide +kernel
theorem dX7_seek_33 : decode cX7_seek 33 = .ok (.return_, 1) := by decide +kernel
theorem dX7_seek_34 : decode cX7_seek 34 = .ok (.aload_n 0, 1) := by decide +kernel
theorem dX7_seek_35 : decode cX7_seek 35 = .ok (.iload_n 1, 1) := by decide +kernel
theorem dX7_seek_36 : decode cX7_seek 36 = .ok (.putfield 26, 3) := by decide +kernel
theorem dX7_seek_39 : decode cX7_seek 39 = .ok (.aload_n 0, 1) := by decide +kernel
theorem dX7_seek_40 : decode cX7_seek 40 = .ok (.iload_n 2, 1) := by decide +kernel
theorem dX7_seek_41 : decode cX7_seek 41 = .ok (.putfield 29, 3) := by decide +kernel
theorem dX7_seek_44 : decode cX7_seek 44 = .ok (.aload_n 0, 1) := by decide +kernel
theorem dX7_seek_45 : decode cX7_seek 45 = .ok (.iload_n 3, 1) := by decide +kernel
theorem dX7_seek_46 : decode cX7_seek 46 = .ok (.putfield 32, 3) := by decide +kernel
theorem dX7_seek_49 : decode cX7_seek 49 = .ok (.aload_n 0, 1) := by decide +kernel
theorem dX7_seek_50 : decode cX7_seek 50 = .ok (.iload 4, 2) := by decide +kernel
theorem dX7_seek_52 : decode cX7_seek 52 = .ok (.putfield 35, 3) := by decide +kernel
theorem dX7_seek_55 : decode cX7_seek 55 = .ok (.aload_n 0, 1) := by decide +kernel
theorem dX7_seek_56 : decode cX7_seek 56 = .ok (.iload_n 1, 1) := by decide +kernel
theorem dX7_seek_57 : decode cX7_seek 57 = .ok (.iconst 2, 1) := by decide +kernel
theorem dX7_seek_58 : decode cX7_seek 58 = .ok (.if_icmp .ne 7, 3) := by decide +kernel
theorem dX7_seek_61 : decode cX7_seek 61 = .ok (.iconst (-1), 1) := by decide +kernel
theorem dX7_seek_62 : decode cX7_seek 62 = .ok (.goto 5, 3) := by decide +kernel
theorem dX7_seek_65 : decode cX7_seek 65 = .ok (.iload 4, 2) := by decide +kernel
theorem dX7_seek_67 : decode cX7_seek 67 = .ok (.invokevirtual 50, 3) := by decide +kernel
theorem dX7_seek_70 : decode cX7_seek 70 = .ok (.aload_n 0, 1) := by decide +kernel
theorem dX7_seek_71 : decode cX7_seek 71 = .ok (.iload_n 1, 1) := by decide +kernel
theorem dX7_seek_72 : decode cX7_seek 72 = .ok (.iconst 1, 1) := by decide +kernel
theorem dX7_seek_73 : decode cX7_seek 73 = .ok (.if_icmp .ne 12, 3) := by decide +kernel
theorem dX7_seek_76 : decode cX7_seek 76 = .ok (.iconst 1, 1) := by decide +kernel
theorem dX7_seek_77 : decode cX7_seek 77 = .ok (.aload_n 0, 1) := by decide +kernel
theorem dX7_seek_78 : decode cX7_seek 78 = .ok (.getfield 22, 3) := by decide +kernel
theorem dX7_seek_81 : decode cX7_seek 81 = .ok (.ishl, 1) := by decide +kernel
theorem dX7_seek_82 : decode cX7_seek 82 = .ok (.goto 16, 3) := by decide +kernel
theorem dX7_seek_85 : decode cX7_seek 85 = .ok (.iload_n 1, 1) := by decide +kernel
theorem dX7_seek_86 : decode cX7_seek 86 = .ok (.iconst 2, 1) := by decide +kernel
theorem dX7_seek_87 : decode cX7_seek 87 = .ok (.if_icmp .ne 10, 3) := by decide +kernel
theorem dX7_seek_90 : decode cX7_seek 90 = .ok (.iload 4, 2) := by decide +kernel
theorem dX7_seek_92 : decode cX7_seek 92 = .ok (.iconst 1, 1) := by decide +kernel
theorem dX7_seek_93 : decode cX7_seek 93 = .ok (.iadd, 1) := by decide +kernel
theorem dX7_seek_94 : decode cX7_seek 94 = .ok (.goto 4, 3) := by decide +kernel
theorem dX7_seek_97 : decode cX7_seek 97 = .ok (.iconst 1, 1) := by decide +kernel
theorem dX7_seek_98 : decode cX7_seek 98 = .ok (.putfield 38, 3) := by decide +kernel
theorem dX7_seek_101 : decode cX7_seek 101 = .ok (.aload_n 0, 1) := by decide +kernel
theorem dX7_seek_102 : decode cX7_seek 102 = .ok (.aload_n 0, 1) := by decide +kernel
theorem dX7_seek_103 : decode cX7_seek 103 = .ok (.getfield 38, 3) := by decide +kernel
theorem dX7_seek_106 : decode cX7_seek 106 = .ok (.iconst 1, 1) := by decide +kernel
theorem dX7_seek_107 : decode cX7_seek 107 = .ok (.isub, 1) := by decide +kernel
theorem dX7_seek_108 : decode cX7_seek 108 = .ok (.iload_n 3, 1) := by decide +kernel
theorem dX7_seek_109 : decode cX7_seek 109 = .ok (.imul, 1) := by decide +kernel
theorem dX7_seek_110 : decode cX7_seek 110 = .ok (.putfield 44, 3) := by decide +kernel
theorem dX7_seek_113 : decode cX7_seek 113 = .ok (.aload_n 0, 1) := by decide +kernel
theorem dX7_seek_114 : decode cX7_seek 114 = .ok (.invokevirtual 54, 3) := by decide +kernel
theorem dX7_seek_117 : decode cX7_seek 117 = .ok (.aload_n 0, 1) := by decide +kernel
theorem dX7_seek_118 : decode cX7_seek 118 = .ok (.invokevirtual 57, 3) := by decide +kernel
theorem dX7_seek_121 : decode cX7_seek 121 = .ok (.return_, 1) := by decide +kernel
theorem dX7_figureAt_0 : decode cX7_figureAt 0 = .ok (.aload_n 0, 1) := by decide +kernel
theorem dX7_figureAt_1 : decode cX7_figureAt 1 = .ok (.getfield 47, 3) := by decide +kernel
theorem dX7_figureAt_4 : decode cX7_figureAt 4 = .ok (.ifCond .ne 6, 3) := by decide +kernel
theorem dX7_figureAt_7 : decode cX7_figureAt 7 = .ok (.bipush (-4), 2) := by decide +kernel
theorem dX7_figureAt_9 : decode cX7_figureAt 9 = .ok (.ireturn, 1) := by decide +kernel
theorem dX7_figureAt_10 : decode cX7_figureAt 10 = .ok (.iload_n 1, 1) := by decide +kernel
theorem dX7_figureAt_11 : decode cX7_figureAt 11 = .ok (.iconst (-1), 1) := by decide +kernel
theorem dX7_figureAt_12 : decode cX7_figureAt 12 = .ok (.if_icmp .ne 8, 3) := by decide +kernel
theorem dX7_figureAt_15 : decode cX7_figureAt 15 = .ok (.aload_n 0, 1) := by decide +kernel
theorem dX7_figureAt_16 : decode cX7_figureAt 16 = .ok (.getfield 47, 3) := by decide +kernel
theorem dX7_figureAt_19 : decode cX7_figureAt 19 = .ok (.ireturn, 1) := by decide +kernel
theorem dX7_figureAt_20 : decode cX7_figureAt 20 = .ok (.iload_n 1, 1) := by decide +kernel
theorem dX7_figureAt_21 : decode cX7_figureAt 21 = .ok (.ifCond .lt 11, 3) := by decide +kernel
theorem dX7_figureAt_24 : decode cX7_figureAt 24 = .ok (.iload_n 1, 1) := by decide +kernel
theorem dX7_figureAt_25 : decode cX7_figureAt 25 = .ok (.aload_n 0, 1) := by decide +kernel
theorem dX7_figureAt_26 : decode cX7_figureAt 26 = .ok (.getfield 47, 3) := by decide +kernel
theorem dX7_figureAt_29 : decode cX7_figureAt 29 = .ok (.if_icmp .lt 6, 3) := by decide +kernel
theorem dX7_figureAt_32 : decode cX7_figureAt 32 = .ok (.bipush (-4), 2) := by decide +kernel
theorem dX7_figureAt_34 : decode cX7_figureAt 34 = .ok (.ireturn, 1) := by decide +kernel
theorem dX7_figureAt_35 : decode cX7_figureAt 35 = .ok (.aload_n 0, 1) := by decide +kernel
theorem dX7_figureAt_36 : decode cX7_figureAt 36 = .ok (.getfield 44, 3) := by decide +kernel
theorem dX7_figureAt_39 : decode cX7_figureAt 39 = .ok (.istore_n 2, 1) := by decide +kernel
theorem dX7_figureAt_40 : decode cX7_figureAt 40 = .ok (.aload_n 0, 1) := by decide +kernel
theorem dX7_figureAt_41 : decode cX7_figureAt 41 = .ok (.getfield 47, 3) := by decide +kernel
theorem dX7_figureAt_44 : decode cX7_figureAt 44 = .ok (.iconst 1, 1) := by decide +kernel
theorem dX7_figureAt_45 : decode cX7_figureAt 45 = .ok (.isub, 1) := by decide +kernel
theorem dX7_figureAt_46 : decode cX7_figureAt 46 = .ok (.istore_n 3, 1) := by decide +kernel
theorem dX7_figureAt_47 : decode cX7_figureAt 47 = .ok (.iload_n 3, 1) := by decide +kernel
theorem dX7_figureAt_48 : decode cX7_figureAt 48 = .ok (.iload_n 1, 1) := by decide +kernel
theorem dX7_figureAt_49 : decode cX7_figureAt 49 = .ok (.if_icmp .le 19, 3) := by decide +kernel
theorem dX7_figureAt_52 : decode cX7_figureAt 52 = .ok (.aload_n 0, 1) := by decide +kernel
theorem dX7_figureAt_53 : decode cX7_figureAt 53 = .ok (.getfield 16, 3) := by decide +kernel
theorem dX7_figureAt_56 : decode cX7_figureAt 56 = .ok (.iload_n 2, 1) := by decide +kernel
theorem dX7_figureAt_57 : decode cX7_figureAt 57 = .ok (.iaload, 1) := by decide +kernel
theorem dX7_figureAt_58 : decode cX7_figureAt 58 = .ok (.bipush 16, 2) := by decide +kernel
theorem dX7_figureAt_60 : decode cX7_figureAt 60 = .ok (.idiv, 1) := by decide +kernel
theorem dX7_figureAt_61 : decode cX7_figureAt 61 = .ok (.istore_n 2, 1) := by decide +kernel
theorem dX7_figureAt_62 : decode cX7_figureAt 62 = .ok (.iinc 3 (-1), 3) := by decide +kernel
theorem dX7_figureAt_65 : decode cX7_figureAt 65 = .ok (.goto (-18), 3) := by decide +kernel
theorem dX7_figureAt_68 : decode cX7_figureAt 68 = .ok (.aload_n 0, 1) := by decide +kernel
theorem dX7_figureAt_69 : decode cX7_figureAt 69 = .ok (.getfield 16, 3) := by decide +kernel
theorem dX7_figureAt_72 : decode cX7_figureAt 72 = .ok (.iload_n 2, 1) := by decide +kernel
theorem dX7_figureAt_73 : decode cX7_figureAt 73 = .ok (.iaload, 1) := by decide +kernel
theorem dX7_figureAt_74 : decode cX7_figureAt 74 = .ok (.bipush 16, 2) := by decide +kernel
theorem dX7_figureAt_76 : decode cX7_figureAt 76 = .ok (.irem, 1) := by decide +kernel
theorem dX7_figureAt_77 : decode cX7_figureAt 77 = .ok (.ireturn, 1) := by decide +kernel
theorem dX7_allow_0 : decode cX7_allow 0 = .ok (.aload_n 0, 1) := by decide +kernel
theorem dX7_allow_1 : decode cX7_allow 1 = .ok (.iconst 0, 1) := by decide +kernel
theorem dX7_allow_2 : decode cX7_allow 2 = .ok (.putfield 22, 3) := by decide +kernel
theorem dX7_allow_5 : decode cX7_allow 5 = .ok (.iconst 0, 1) := by decide +kernel
theorem dX7_allow_6 : decode cX7_allow 6 = .ok (.istore_n 2, 1) := by decide +kernel
theorem dX7_allow_7 : decode cX7_allow 7 = .ok (.iload_n 2, 1) := by decide +kernel
theorem dX7_allow_8 : decode cX7_allow 8 = .ok (.aload_n 0, 1) := by decide +kernel
theorem dX7_allow_9 : decode cX7_allow 9 = .ok (.getfield 29, 3) := by decide +kernel
theorem dX7_allow_12 : decode cX7_allow 12 = .ok (.if_icmp .ge 47, 3) := by decide +kernel
theorem dX7_allow_15 : decode cX7_allow 15 = .ok (.iload_n 2, 1) := by decide +kernel
theorem dX7_allow_16 : decode cX7_allow 16 = .ok (.aload_n 0, 1) := by decide +kernel
theorem dX7_allow_17 : decode cX7_allow 17 = .ok (.getfield 19, 3) := by decide +kernel
theorem dX7_allow_20 : decode cX7_allow 20 = .ok (.arraylength, 1) := by decide +kernel
theorem dX7_allow_21 : decode cX7_allow 21 = .ok (.if_icmp .ge 38, 3) := by decide +kernel
theorem dX7_allow_24 : decode cX7_allow 24 = .ok (.iload_n 1, 1) := by decide +kernel
theorem dX7_allow_25 : decode cX7_allow 25 = .ok (.iload_n 2, 1) := by decide +kernel
theorem dX7_allow_26 : decode cX7_allow 26 = .ok (.ishr, 1) := by decide +kernel
theorem dX7_allow_27 : decode cX7_allow 27 = .ok (.iconst 1, 1) := by decide +kernel
theorem dX7_allow_28 : decode cX7_allow 28 = .ok (.iand, 1) := by decide +kernel
theorem dX7_allow_29 : decode cX7_allow 29 = .ok (.iconst 1, 1) := by decide +kernel
theorem dX7_allow_30 : decode cX7_allow 30 = .ok (.if_icmp .ne 23, 3) := by decide +kernel
theorem dX7_allow_33 : decode cX7_allow 33 = .ok (.aload_n 0, 1) := by decide +kernel
theorem dX7_allow_34 : decode cX7_allow 34 = .ok (.getfield 19, 3) := by decide +kernel
theorem dX7_allow_37 : decode cX7_allow 37 = .ok (.aload_n 0, 1) := by decide +kernel
theorem dX7_allow_38 : decode cX7_allow 38 = .ok (.getfield 22, 3) := by decide +kernel
theorem dX7_allow_41 : decode cX7_allow 41 = .ok (.iload_n 2, 1) := by decide +kernel
theorem dX7_allow_42 : decode cX7_allow 42 = .ok (.iastore, 1) := by decide +kernel
theorem dX7_allow_43 : decode cX7_allow 43 = .ok (.aload_n 0, 1) := by decide +kernel
theorem dX7_allow_44 : decode cX7_allow 44 = .ok (.dup, 1) := by decide +kernel
theorem dX7_allow_45 : decode cX7_allow 45 = .ok (.getfield 22, 3) := by decide +kernel
theorem dX7_allow_48 : decode cX7_allow 48 = .ok (.iconst 1, 1) := by decide +kernel
theorem dX7_allow_49 : decode cX7_allow 49 = .ok (.iadd, 1) := by decide +kernel
theorem dX7_allow_50 : decode cX7_allow 50 = .ok (.putfield 22, 3) := by decide +kernel
theorem dX7_allow_53 : decode cX7_allow 53 = .ok (.iinc 2 1, 3) := by decide +kernel
theorem dX7_allow_56 : decode cX7_allow 56 = .ok (.goto (-49), 3) := by decide +kernel
theorem dX7_allow_59 : decode cX7_allow 59 = .ok (.return_, 1) := by decide +kernel
set_option maxRecDepth 20000 in
theorem ggX7_walk_X7_spread : GoodIn wsX7_walk wsX7_spread := goodIn_r _ [12, 3, 2, 13, 14, 1, 15, 4, 5, 6, 16, 17, 18, 11, 19, 20, 21, 22, 23, 24, 25, 26, 27, 28, 29, 30, 31, 32] (by decide +kernel) (by decide +kernel)
set_option maxRecDepth 20000 in
theorem gX7_walk_X7_spread : GoodIn wsX7_walk (wsV RX7 60 RX7 yX7_spread wsX7_spread) := goodIn_app (goodIn_of _ (by decide +kernel)) ggX7_walk_X7_spread
theorem dX7_walk_0 : decode cX7_walk 0 = .ok (.iconst 0, 1) := by decide +kernel
theorem dX7_walk_1 : decode cX7_walk 1 = .ok (.istore_n 1, 1) := by decide +kernel
theorem dX7_walk_2 : decode cX7_walk 2 = .ok (.iload_n 1, 1) := by decide +kernel
theorem dX7_walk_3 : decode cX7_walk 3 = .ok (.aload_n 0, 1) := by decide +kernel
theorem dX7_walk_4 : decode cX7_walk 4 = .ok (.getfield 38, 3) := by decide +kernel
theorem dX7_walk_7 : decode cX7_walk 7 = .ok (.aload_n 0, 1) := by decide +kernel
theorem dX7_walk_8 : decode cX7_walk 8 = .ok (.getfield 32, 3) := by decide +kernel
theorem dX7_walk_11 : decode cX7_walk 11 = .ok (.imul, 1) := by decide +kernel
theorem dX7_walk_12 : decode cX7_walk 12 = .ok (.if_icmp .ge 22, 3) := by decide +kernel
theorem dX7_walk_15 : decode cX7_walk 15 = .ok (.iload_n 1, 1) := by decide +kernel
theorem dX7_walk_16 : decode cX7_walk 16 = .ok (.ldc 11, 2) := by decide +kernel
theorem dX7_walk_18 : decode cX7_walk 18 = .ok (.if_icmp .ge 16, 3) := by decide +kernel
theorem dX7_walk_21 : decode cX7_walk 21 = .ok (.aload_n 0, 1) := by decide +kernel
theorem dX7_walk_22 : decode cX7_walk 22 = .ok (.getfield 16, 3) := by decide +kernel
theorem dX7_walk_25 : decode cX7_walk 25 = .ok (.iload_n 1, 1) := by decide +kernel
theorem dX7_walk_26 : decode cX7_walk 26 = .ok (.iconst (-1), 1) := by decide +kernel
theorem dX7_walk_27 : decode cX7_walk 27 = .ok (.iastore, 1) := by decide +kernel
theorem dX7_walk_28 : decode cX7_walk 28 = .ok (.iinc 1 1, 3) := by decide +kernel
theorem dX7_walk_31 : decode cX7_walk 31 = .ok (.goto (-29), 3) := by decide +kernel
theorem dX7_walk_34 : decode cX7_walk 34 = .ok (.aload_n 0, 1) := by decide +kernel
theorem dX7_walk_35 : decode cX7_walk 35 = .ok (.iconst 0, 1) := by decide +kernel
theorem dX7_walk_36 : decode cX7_walk 36 = .ok (.putfield 41, 3) := by decide +kernel
theorem dX7_walk_39 : decode cX7_walk 39 = .ok (.aload_n 0, 1) := by decide +kernel
theorem dX7_walk_40 : decode cX7_walk 40 = .ok (.ldc 11, 2) := by decide +kernel
theorem dX7_walk_42 : decode cX7_walk 42 = .ok (.invokevirtual 60, 3) := by decide +kernel
theorem dX7_walk_45 : decode cX7_walk 45 = .ok (.iconst 0, 1) := by decide +kernel
theorem dX7_walk_46 : decode cX7_walk 46 = .ok (.istore_n 1, 1) := by decide +kernel
theorem dX7_walk_47 : decode cX7_walk 47 = .ok (.iload_n 1, 1) := by decide +kernel
theorem dX7_walk_48 : decode cX7_walk 48 = .ok (.aload_n 0, 1) := by decide +kernel
theorem dX7_walk_49 : decode cX7_walk 49 = .ok (.getfield 12, 3) := by decide +kernel
theorem dX7_walk_52 : decode cX7_walk 52 = .ok (.arraylength, 1) := by decide +kernel
theorem dX7_walk_53 : decode cX7_walk 53 = .ok (.if_icmp .ge 40, 3) := by decide +kernel
theorem dX7_walk_56 : decode cX7_walk 56 = .ok (.iload_n 1, 1) := by decide +kernel
theorem dX7_walk_57 : decode cX7_walk 57 = .ok (.aload_n 0, 1) := by decide +kernel
theorem dX7_walk_58 : decode cX7_walk 58 = .ok (.getfield 41, 3) := by decide +kernel
theorem dX7_walk_61 : decode cX7_walk 61 = .ok (.if_icmp .ge 32, 3) := by decide +kernel
theorem dX7_walk_64 : decode cX7_walk 64 = .ok (.aload_n 0, 1) := by decide +kernel
theorem dX7_walk_65 : decode cX7_walk 65 = .ok (.getfield 16, 3) := by decide +kernel
theorem dX7_walk_68 : decode cX7_walk 68 = .ok (.aload_n 0, 1) := by decide +kernel
theorem dX7_walk_69 : decode cX7_walk 69 = .ok (.getfield 44, 3) := by decide +kernel
theorem dX7_walk_72 : decode cX7_walk 72 = .ok (.iaload, 1) := by decide +kernel
theorem dX7_walk_73 : decode cX7_walk 73 = .ok (.iconst (-1), 1) := by decide +kernel
theorem dX7_walk_74 : decode cX7_walk 74 = .ok (.if_icmp .ne 19, 3) := by decide +kernel
theorem dX7_walk_77 : decode cX7_walk 77 = .ok (.aload_n 0, 1) := by decide +kernel
theorem dX7_walk_78 : decode cX7_walk 78 = .ok (.aload_n 0, 1) := by decide +kernel
theorem dX7_walk_79 : decode cX7_walk 79 = .ok (.getfield 12, 3) := by decide +kernel
theorem dX7_walk_82 : decode cX7_walk 82 = .ok (.iload_n 1, 1) := by decide +kernel
theorem dX7_walk_83 : decode cX7_walk 83 = .ok (.iaload, 1) := by decide +kernel
theorem dX7_walk_84 : decode cX7_walk 84 = .ok (.invokevirtual 60, 3) := by decide +kernel
theorem dX7_walk_87 : decode cX7_walk 87 = .ok (.iinc 1 1, 3) := by decide +kernel
theorem dX7_walk_90 : decode cX7_walk 90 = .ok (.goto (-43), 3) := by decide +kernel
theorem dX7_walk_93 : decode cX7_walk 93 = .ok (.return_, 1) := by decide +kernel
set_option maxRecDepth 20000 in
theorem ggX7_spread_X7_ruleAfter : GoodIn wsX7_spread wsX7_ruleAfter := goodIn_r _ [14, 15, 16, 17, 18, 19, 20, 21, 22, 23, 24, 25, 26, 27] (by decide +kernel) (by decide +kernel)
set_option maxRecDepth 20000 in
theorem gX7_spread_X7_ruleAfter : GoodIn wsX7_spread (wsV RX7 63 RX7 yX7_ruleAfter wsX7_ruleAfter) := goodIn_app (goodIn_of _ (by decide +kernel)) ggX7_spread_X7_ruleAfter
theorem dX7_spread_0 : decode cX7_spread 0 = .ok (.iload_n 1, 1) := by decide +kernel
theorem dX7_spread_1 : decode cX7_spread 1 = .ok (.ldc 11, 2) := by decide +kernel
theorem dX7_spread_3 : decode cX7_spread 3 = .ok (.if_icmp .ne 7, 3) := by decide +kernel
theorem dX7_spread_6 : decode cX7_spread 6 = .ok (.iconst 0, 1) := by decide +kernel
theorem dX7_spread_7 : decode cX7_spread 7 = .ok (.goto 9, 3) := by decide +kernel
theorem dX7_spread_10 : decode cX7_spread 10 = .ok (.iload_n 1, 1) := by decide +kernel
theorem dX7_spread_11 : decode cX7_spread 11 = .ok (.aload_n 0, 1) := by decide +kernel
theorem dX7_spread_12 : decode cX7_spread 12 = .ok (.getfield 32, 3) := by decide +kernel
theorem dX7_spread_15 : decode cX7_spread 15 = .ok (.irem, 1) := by decide +kernel
theorem dX7_spread_16 : decode cX7_spread 16 = .ok (.istore_n 2, 1) := by decide +kernel
theorem dX7_spread_17 : decode cX7_spread 17 = .ok (.iload_n 1, 1) := by decide +kernel
theorem dX7_spread_18 : decode cX7_spread 18 = .ok (.ldc 11, 2) := by decide +kernel
theorem dX7_spread_20 : decode cX7_spread 20 = .ok (.if_icmp .ne 7, 3) := by decide +kernel
theorem dX7_spread_23 : decode cX7_spread 23 = .ok (.iconst 0, 1) := by decide +kernel
theorem dX7_spread_24 : decode cX7_spread 24 = .ok (.goto 9, 3) := by decide +kernel
theorem dX7_spread_27 : decode cX7_spread 27 = .ok (.iload_n 1, 1) := by decide +kernel
theorem dX7_spread_28 : decode cX7_spread 28 = .ok (.aload_n 0, 1) := by decide +kernel
theorem dX7_spread_29 : decode cX7_spread 29 = .ok (.getfield 32, 3) := by decide +kernel
theorem dX7_spread_32 : decode cX7_spread 32 = .ok (.idiv, 1) := by decide +kernel
theorem dX7_spread_33 : decode cX7_spread 33 = .ok (.istore_n 3, 1) := by decide +kernel
theorem dX7_spread_34 : decode cX7_spread 34 = .ok (.iconst 0, 1) := by decide +kernel
theorem dX7_spread_35 : decode cX7_spread 35 = .ok (.istore 4, 2) := by decide +kernel
theorem dX7_spread_37 : decode cX7_spread 37 = .ok (.iload 4, 2) := by decide +kernel
theorem dX7_spread_39 : decode cX7_spread 39 = .ok (.aload_n 0, 1) := by decide +kernel
theorem dX7_spread_40 : decode cX7_spread 40 = .ok (.getfield 22, 3) := by decide +kernel
theorem dX7_spread_43 : decode cX7_spread 43 = .ok (.if_icmp .ge 134, 3) := by decide +kernel
theorem dX7_spread_46 : decode cX7_spread 46 = .ok (.aload_n 0, 1) := by decide +kernel
theorem dX7_spread_47 : decode cX7_spread 47 = .ok (.getfield 19, 3) := by decide +kernel
theorem dX7_spread_50 : decode cX7_spread 50 = .ok (.iload 4, 2) := by decide +kernel
theorem dX7_spread_52 : decode cX7_spread 52 = .ok (.iaload, 1) := by decide +kernel
theorem dX7_spread_53 : decode cX7_spread 53 = .ok (.istore 5, 2) := by decide +kernel
theorem dX7_spread_55 : decode cX7_spread 55 = .ok (.aload_n 0, 1) := by decide +kernel
theorem dX7_spread_56 : decode cX7_spread 56 = .ok (.iload_n 3, 1) := by decide +kernel
theorem dX7_spread_57 : decode cX7_spread 57 = .ok (.iload 4, 2) := by decide +kernel
theorem dX7_spread_59 : decode cX7_spread 59 = .ok (.iload 5, 2) := by decide +kernel
theorem dX7_spread_61 : decode cX7_spread 61 = .ok (.invokevirtual 63, 3) := by decide +kernel
theorem dX7_spread_64 : decode cX7_spread 64 = .ok (.istore 6, 2) := by decide +kernel
theorem dX7_spread_66 : decode cX7_spread 66 = .ok (.iload 6, 2) := by decide +kernel
theorem dX7_spread_68 : decode cX7_spread 68 = .ok (.aload_n 0, 1) := by decide +kernel
theorem dX7_spread_69 : decode cX7_spread 69 = .ok (.getfield 38, 3) := by decide +kernel
theorem dX7_spread_72 : decode cX7_spread 72 = .ok (.if_icmp .ge 99, 3) := by decide +kernel
theorem dX7_spread_75 : decode cX7_spread 75 = .ok (.iload_n 1, 1) := by decide +kernel
theorem dX7_spread_76 : decode cX7_spread 76 = .ok (.ldc 11, 2) := by decide +kernel
theorem dX7_spread_78 : decode cX7_spread 78 = .ok (.if_icmp .ne 11, 3) := by decide +kernel
theorem dX7_spread_81 : decode cX7_spread 81 = .ok (.iload 5, 2) := by decide +kernel
theorem dX7_spread_83 : decode cX7_spread 83 = .ok (.ifCond .ne 6, 3) := by decide +kernel
theorem dX7_spread_86 : decode cX7_spread 86 = .ok (.goto 85, 3) := by decide +kernel
theorem dX7_spread_89 : decode cX7_spread 89 = .ok (.iload 6, 2) := by decide +kernel
theorem dX7_spread_91 : decode cX7_spread 91 = .ok (.aload_n 0, 1) := by decide +kernel
theorem dX7_spread_92 : decode cX7_spread 92 = .ok (.getfield 32, 3) := by decide +kernel
theorem dX7_spread_95 : decode cX7_spread 95 = .ok (.imul, 1) := by decide +kernel
theorem dX7_spread_96 : decode cX7_spread 96 = .ok (.iload_n 2, 1) := by decide +kernel
