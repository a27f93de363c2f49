theorem dX7_spread_97 : decode cX7_spread 97 = .ok (.aload_n 0, 1) := by decide +kernel
theorem dX7_spread_98 : decode cX7_spread 98 = .ok (.getfield 29, 3) := by decide +kernel
theorem dX7_spread_101 : decode cX7_spread 101 = .ok (.imul, 1) := by decide +kernel
theorem dX7_spread_102 : decode cX7_spread 102 = .ok (.iload 5, 2) := by decide +kernel
theorem dX7_spread_104 : decode cX7_spread 104 = .ok (.iadd, 1) := by decide +kernel
theorem dX7_spread_105 : decode cX7_spread 105 = .ok (.aload_n 0, 1) := by decide +kernel
theorem dX7_spread_106 : decode cX7_spread 106 = .ok (.getfield 32, 3) := by decide +kernel
theorem dX7_spread_109 : decode cX7_spread 109 = .ok (.irem, 1) := by decide +kernel
theorem dX7_spread_110 : decode cX7_spread 110 = .ok (.iadd, 1) := by decide +kernel
theorem dX7_spread_111 : decode cX7_spread 111 = .ok (.istore 7, 2) := by decide +kernel
theorem dX7_spread_113 : decode cX7_spread 113 = .ok (.aload_n 0, 1) := by decide +kernel
theorem dX7_spread_114 : decode cX7_spread 114 = .ok (.getfield 16, 3) := by decide +kernel
theorem dX7_spread_117 : decode cX7_spread 117 = .ok (.iload 7, 2) := by decide +kernel
theorem dX7_spread_119 : decode cX7_spread 119 = .ok (.iaload, 1) := by decide +kernel
theorem dX7_spread_120 : decode cX7_spread 120 = .ok (.iconst (-1), 1) := by decide +kernel
theorem dX7_spread_121 : decode cX7_spread 121 = .ok (.if_icmp .ne 50, 3) := by decide +kernel
theorem dX7_spread_124 : decode cX7_spread 124 = .ok (.aload_n 0, 1) := by decide +kernel
theorem dX7_spread_125 : decode cX7_spread 125 = .ok (.getfield 41, 3) := by decide +kernel
theorem dX7_spread_128 : decode cX7_spread 128 = .ok (.aload_n 0, 1) := by decide +kernel
theorem dX7_spread_129 : decode cX7_spread 129 = .ok (.getfield 12, 3) := by decide +kernel
theorem dX7_spread_132 : decode cX7_spread 132 = .ok (.arraylength, 1) := by decide +kernel
theorem dX7_spread_133 : decode cX7_spread 133 = .ok (.if_icmp .ge 38, 3) := by decide +kernel
theorem dX7_spread_136 : decode cX7_spread 136 = .ok (.aload_n 0, 1) := by decide +kernel
theorem dX7_spread_137 : decode cX7_spread 137 = .ok (.getfield 16, 3) := by decide +kernel
theorem dX7_spread_140 : decode cX7_spread 140 = .ok (.iload 7, 2) := by decide +kernel
theorem dX7_spread_142 : decode cX7_spread 142 = .ok (.bipush 16, 2) := by decide +kernel
theorem dX7_spread_144 : decode cX7_spread 144 = .ok (.iload_n 1, 1) := by decide +kernel
theorem dX7_spread_145 : decode cX7_spread 145 = .ok (.imul, 1) := by decide +kernel
theorem dX7_spread_146 : decode cX7_spread 146 = .ok (.iload 5, 2) := by decide +kernel
theorem dX7_spread_148 : decode cX7_spread 148 = .ok (.iadd, 1) := by decide +kernel
theorem dX7_spread_149 : decode cX7_spread 149 = .ok (.iastore, 1) := by decide +kernel
theorem dX7_spread_150 : decode cX7_spread 150 = .ok (.aload_n 0, 1) := by decide +kernel
theorem dX7_spread_151 : decode cX7_spread 151 = .ok (.getfield 12, 3) := by decide +kernel
theorem dX7_spread_154 : decode cX7_spread 154 = .ok (.aload_n 0, 1) := by decide +kernel
theorem dX7_spread_155 : decode cX7_spread 155 = .ok (.getfield 41, 3) := by decide +kernel
theorem dX7_spread_158 : decode cX7_spread 158 = .ok (.iload 7, 2) := by decide +kernel
theorem dX7_spread_160 : decode cX7_spread 160 = .ok (.iastore, 1) := by decide +kernel
theorem dX7_spread_161 : decode cX7_spread 161 = .ok (.aload_n 0, 1) := by decide +kernel
theorem dX7_spread_162 : decode cX7_spread 162 = .ok (.dup, 1) := by decide +kernel
theorem dX7_spread_163 : decode cX7_spread 163 = .ok (.getfield 41, 3) := by decide +kernel
theorem dX7_spread_166 : decode cX7_spread 166 = .ok (.iconst 1, 1) := by decide +kernel
theorem dX7_spread_167 : decode cX7_spread 167 = .ok (.iadd, 1) := by decide +kernel
theorem dX7_spread_168 : decode cX7_spread 168 = .ok (.putfield 41, 3) := by decide +kernel
theorem dX7_spread_171 : decode cX7_spread 171 = .ok (.iinc 4 1, 3) := by decide +kernel
theorem dX7_spread_174 : decode cX7_spread 174 = .ok (.goto (-137), 3) := by decide +kernel
theorem dX7_spread_177 : decode cX7_spread 177 = .ok (.return_, 1) := by decide +kernel
theorem dX7_ruleAfter_0 : decode cX7_ruleAfter 0 = .ok (.aload_n 0, 1) := by decide +kernel
theorem dX7_ruleAfter_1 : decode cX7_ruleAfter 1 = .ok (.getfield 26, 3) := by decide +kernel
theorem dX7_ruleAfter_4 : decode cX7_ruleAfter 4 = .ok (.iconst 1, 1) := by decide +kernel
theorem dX7_ruleAfter_5 : decode cX7_ruleAfter 5 = .ok (.if_icmp .ne 11, 3) := by decide +kernel
theorem dX7_ruleAfter_8 : decode cX7_ruleAfter 8 = .ok (.iload_n 1, 1) := by decide +kernel
theorem dX7_ruleAfter_9 : decode cX7_ruleAfter 9 = .ok (.iconst 1, 1) := by decide +kernel
theorem dX7_ruleAfter_10 : decode cX7_ruleAfter 10 = .ok (.iload_n 2, 1) := by decide +kernel
theorem dX7_ruleAfter_11 : decode cX7_ruleAfter 11 = .ok (.ishl, 1) := by decide +kernel
theorem dX7_ruleAfter_12 : decode cX7_ruleAfter 12 = .ok (.ior, 1) := by decide +kernel
theorem dX7_ruleAfter_13 : decode cX7_ruleAfter 13 = .ok (.goto 18, 3) := by decide +kernel
theorem dX7_ruleAfter_16 : decode cX7_ruleAfter 16 = .ok (.aload_n 0, 1) := by decide +kernel
theorem dX7_ruleAfter_17 : decode cX7_ruleAfter 17 = .ok (.getfield 26, 3) := by decide +kernel
theorem dX7_ruleAfter_20 : decode cX7_ruleAfter 20 = .ok (.iconst 2, 1) := by decide +kernel
theorem dX7_ruleAfter_21 : decode cX7_ruleAfter 21 = .ok (.if_icmp .ne 9, 3) := by decide +kernel
theorem dX7_ruleAfter_24 : decode cX7_ruleAfter 24 = .ok (.iload_n 1, 1) := by decide +kernel
theorem dX7_ruleAfter_25 : decode cX7_ruleAfter 25 = .ok (.iload_n 3, 1) := by decide +kernel
theorem dX7_ruleAfter_26 : decode cX7_ruleAfter 26 = .ok (.iadd, 1) := by decide +kernel
theorem dX7_ruleAfter_27 : decode cX7_ruleAfter 27 = .ok (.goto 4, 3) := by decide +kernel
theorem dX7_ruleAfter_30 : decode cX7_ruleAfter 30 = .ok (.iconst 0, 1) := by decide +kernel
theorem dX7_ruleAfter_31 : decode cX7_ruleAfter 31 = .ok (.ireturn, 1) := by decide +kernel
theorem dX7_measure_0 : decode cX7_measure 0 = .ok (.aload_n 0, 1) := by decide +kernel
theorem dX7_measure_1 : decode cX7_measure 1 = .ok (.iconst 0, 1) := by decide +kernel
theorem dX7_measure_2 : decode cX7_measure 2 = .ok (.putfield 47, 3) := by decide +kernel
theorem dX7_measure_5 : decode cX7_measure 5 = .ok (.aload_n 0, 1) := by decide +kernel
theorem dX7_measure_6 : decode cX7_measure 6 = .ok (.getfield 16, 3) := by decide +kernel
theorem dX7_measure_9 : decode cX7_measure 9 = .ok (.aload_n 0, 1) := by decide +kernel
theorem dX7_measure_10 : decode cX7_measure 10 = .ok (.getfield 44, 3) := by decide +kernel
theorem dX7_measure_13 : decode cX7_measure 13 = .ok (.iaload, 1) := by decide +kernel
theorem dX7_measure_14 : decode cX7_measure 14 = .ok (.iconst (-1), 1) := by decide +kernel
theorem dX7_measure_15 : decode cX7_measure 15 = .ok (.if_icmp .ne 4, 3) := by decide +kernel
theorem dX7_measure_18 : decode cX7_measure 18 = .ok (.return_, 1) := by decide +kernel
theorem dX7_measure_19 : decode cX7_measure 19 = .ok (.aload_n 0, 1) := by decide +kernel
theorem dX7_measure_20 : decode cX7_measure 20 = .ok (.getfield 44, 3) := by decide +kernel
theorem dX7_measure_23 : decode cX7_measure 23 = .ok (.istore_n 1, 1) := by decide +kernel
theorem dX7_measure_24 : decode cX7_measure 24 = .ok (.iload_n 1, 1) := by decide +kernel
theorem dX7_measure_25 : decode cX7_measure 25 = .ok (.ldc 11, 2) := by decide +kernel
theorem dX7_measure_27 : decode cX7_measure 27 = .ok (.if_icmp .eq 35, 3) := by decide +kernel
theorem dX7_measure_30 : decode cX7_measure 30 = .ok (.aload_n 0, 1) := by decide +kernel
theorem dX7_measure_31 : decode cX7_measure 31 = .ok (.getfield 47, 3) := by decide +kernel
theorem dX7_measure_34 : decode cX7_measure 34 = .ok (.ldc 11, 2) := by decide +kernel
theorem dX7_measure_36 : decode cX7_measure 36 = .ok (.if_icmp .ge 26, 3) := by decide +kernel
theorem dX7_measure_39 : decode cX7_measure 39 = .ok (.aload_n 0, 1) := by decide +kernel
theorem dX7_measure_40 : decode cX7_measure 40 = .ok (.dup, 1) := by decide +kernel
theorem dX7_measure_41 : decode cX7_measure 41 = .ok (.getfield 47, 3) := by decide +kernel
theorem dX7_measure_44 : decode cX7_measure 44 = .ok (.iconst 1, 1) := by decide +kernel
theorem dX7_measure_45 : decode cX7_measure 45 = .ok (.iadd, 1) := by decide +kernel
theorem dX7_measure_46 : decode cX7_measure 46 = .ok (.putfield 47, 3) := by decide +kernel
theorem dX7_measure_49 : decode cX7_measure 49 = .ok (.aload_n 0, 1) := by decide +kernel
theorem dX7_measure_50 : decode cX7_measure 50 = .ok (.getfield 16, 3) := by decide +kernel
theorem dX7_measure_53 : decode cX7_measure 53 = .ok (.iload_n 1, 1) := by decide +kernel
theorem dX7_measure_54 : decode cX7_measure 54 = .ok (.iaload, 1) := by decide +kernel
theorem dX7_measure_55 : decode cX7_measure 55 = .ok (.bipush 16, 2) := by decide +kernel
theorem dX7_measure_57 : decode cX7_measure 57 = .ok (.idiv, 1) := by decide +kernel
theorem dX7_measure_58 : decode cX7_measure 58 = .ok (.istore_n 1, 1) := by decide +kernel
theorem dX7_measure_59 : decode cX7_measure 59 = .ok (.goto (-35), 3) := by decide +kernel
theorem dX7_measure_62 : decode cX7_measure 62 = .ok (.return_, 1) := by decide +kernel
theorem dX8_init_0 : decode cX8_init 0 = .ok (.aload_n 0, 1) := by decide +kernel
theorem dX8_init_1 : decode cX8_init 1 = .ok (.invokespecial 1, 3) := by decide +kernel
theorem dX8_init_4 : decode cX8_init 4 = .ok (.aload_n 0, 1) := by decide +kernel
theorem dX8_init_5 : decode cX8_init 5 = .ok (.ldc 9, 2) := by decide +kernel
theorem dX8_init_7 : decode cX8_init 7 = .ok (.newarray .long, 2) := by decide +kernel
theorem dX8_init_9 : decode cX8_init 9 = .ok (.putfield 10, 3) := by decide +kernel
theorem dX8_init_12 : decode cX8_init 12 = .ok (.aload_n 0, 1) := by decide +kernel
theorem dX8_init_13 : decode cX8_init 13 = .ok (.ldc 9, 2) := by decide +kernel
theorem dX8_init_15 : decode cX8_init 15 = .ok (.newarray .int, 2) := by decide +kernel
theorem dX8_init_17 : decode cX8_init 17 = .ok (.putfield 14, 3) := by decide +kernel
theorem dX8_init_20 : decode cX8_init 20 = .ok (.aload_n 0, 1) := by decide +kernel
theorem dX8_init_21 : decode cX8_init 21 = .ok (.ldc 9, 2) := by decide +kernel
theorem dX8_init_23 : decode cX8_init 23 = .ok (.newarray .int, 2) := by decide +kernel
theorem dX8_init_25 : decode cX8_init 25 = .ok (.putfield 18, 3) := by decide +kernel
theorem dX8_init_28 : decode cX8_init 28 = .ok (.aload_n 0, 1) := by decide +kernel
theorem dX8_init_29 : decode cX8_init 29 = .ok (.iconst 0, 1) := by decide +kernel
theorem dX8_init_30 : decode cX8_init 30 = .ok (.putfield 21, 3) := by decide +kernel
theorem dX8_init_33 : decode cX8_init 33 = .ok (.return_, 1) := by decide +kernel
theorem dX8_renew_0 : decode cX8_renew 0 = .ok (.aload_n 0, 1) := by decide +kernel
theorem dX8_renew_1 : decode cX8_renew 1 = .ok (.dup, 1) := by decide +kernel
theorem dX8_renew_2 : decode cX8_renew 2 = .ok (.getfield 21, 3) := by decide +kernel
theorem dX8_renew_5 : decode cX8_renew 5 = .ok (.iconst 1, 1) := by decide +kernel
theorem dX8_renew_6 : decode cX8_renew 6 = .ok (.iadd, 1) := by decide +kernel
theorem dX8_renew_7 : decode cX8_renew 7 = .ok (.putfield 21, 3) := by decide +kernel
theorem dX8_renew_10 : decode cX8_renew 10 = .ok (.aload_n 0, 1) := by decide +kernel
theorem dX8_renew_11 : decode cX8_renew 11 = .ok (.getfield 21, 3) := by decide +kernel
theorem dX8_renew_14 : decode cX8_renew 14 = .ok (.ireturn, 1) := by decide +kernel
set_option maxRecDepth 20000 in
theorem ggX8_find_X8_keyOf : GoodIn wsX8_find wsX8_keyOf := goodIn_r _ [6, 7, 14, 15, 16, 17] (by decide +kernel) (by decide +kernel)
set_option maxRecDepth 20000 in
theorem gX8_find_X8_keyOf : GoodIn wsX8_find (wsV RX8 25 RX8 yX8_keyOf wsX8_keyOf) := goodIn_app (goodIn_of _ (by decide +kernel)) ggX8_find_X8_keyOf
set_option maxRecDepth 20000 in
theorem ggX8_find_X8_slotFor : GoodIn wsX8_find wsX8_slotFor := goodIn_r _ [11, 12, 13, 1, 7, 14, 15, 16, 17] (by decide +kernel) (by decide +kernel)
set_option maxRecDepth 20000 in
theorem gX8_find_X8_slotFor : GoodIn wsX8_find (wsV RX8 29 RX8 yX8_slotFor wsX8_slotFor) := goodIn_app (goodIn_of _ (by decide +kernel)) ggX8_find_X8_slotFor
theorem dX8_find_0 : decode cX8_find 0 = .ok (.aload_n 0, 1) := by decide +kernel
theorem dX8_find_1 : decode cX8_find 1 = .ok (.lload_n 1, 1) := by decide +kernel
theorem dX8_find_2 : decode cX8_find 2 = .ok (.invokevirtual 25, 3) := by decide +kernel
theorem dX8_find_5 : decode cX8_find 5 = .ok (.lstore_n 3, 1) := by decide +kernel
theorem dX8_find_6 : decode cX8_find 6 = .ok (.aload_n 0, 1) := by decide +kernel
theorem dX8_find_7 : decode cX8_find 7 = .ok (.lload_n 3, 1) := by decide +kernel
theorem dX8_find_8 : decode cX8_find 8 = .ok (.invokevirtual 29, 3) := by decide +kernel
theorem dX8_find_11 : decode cX8_find 11 = .ok (.istore 5, 2) := by decide +kernel
theorem dX8_find_13 : decode cX8_find 13 = .ok (.iload 5, 2) := by decide +kernel
theorem dX8_find_15 : decode cX8_find 15 = .ok (.ifCond .lt 20, 3) := by decide +kernel
theorem dX8_find_18 : decode cX8_find 18 = .ok (.aload_n 0, 1) := by decide +kernel
theorem dX8_find_19 : decode cX8_find 19 = .ok (.getfield 10, 3) := by decide +kernel
theorem dX8_find_22 : decode cX8_find 22 = .ok (.iload 5, 2) := by decide +kernel
theorem dX8_find_24 : decode cX8_find 24 = .ok (.laload, 1) := by decide +kernel
theorem dX8_find_25 : decode cX8_find 25 = .ok (.lload_n 3, 1) := by decide +kernel
theorem dX8_find_26 : decode cX8_find 26 = .ok (.lcmp, 1) := by decide +kernel
theorem dX8_find_27 : decode cX8_find 27 = .ok (.ifCond .ne 8, 3) := by decide +kernel
theorem dX8_find_30 : decode cX8_find 30 = .ok (.iload 5, 2) := by decide +kernel
theorem dX8_find_32 : decode cX8_find 32 = .ok (.goto 4, 3) := by decide +kernel
theorem dX8_find_35 : decode cX8_find 35 = .ok (.iconst (-1), 1) := by decide +kernel
theorem dX8_find_36 : decode cX8_find 36 = .ok (.ireturn, 1) := by decide +kernel
set_option maxRecDepth 20000 in
theorem ggX8_put_X8_keyOf : GoodIn wsX8_put wsX8_keyOf := goodIn_r _ [8, 9, 16, 17, 18, 19] (by decide +kernel) (by decide +kernel)
set_option maxRecDepth 20000 in
theorem gX8_put_X8_keyOf : GoodIn wsX8_put (wsV RX8 25 RX8 yX8_keyOf wsX8_keyOf) := goodIn_app (goodIn_of _ (by decide +kernel)) ggX8_put_X8_keyOf
set_option maxRecDepth 20000 in
theorem ggX8_put_X8_slotFor : GoodIn wsX8_put wsX8_slotFor := goodIn_r _ [13, 14, 15, 1, 9, 16, 17, 18, 19] (by decide +kernel) (by decide +kernel)
set_option maxRecDepth 20000 in
theorem gX8_put_X8_slotFor : GoodIn wsX8_put (wsV RX8 29 RX8 yX8_slotFor wsX8_slotFor) := goodIn_app (goodIn_of _ (by decide +kernel)) ggX8_put_X8_slotFor
theorem dX8_put_0 : decode cX8_put 0 = .ok (.aload_n 0, 1) := by decide +kernel
theorem dX8_put_1 : decode cX8_put 1 = .ok (.lload_n 1, 1) := by decide +kernel
theorem dX8_put_2 : decode cX8_put 2 = .ok (.invokevirtual 25, 3) := by decide +kernel
theorem dX8_put_5 : decode cX8_put 5 = .ok (.lstore 5, 2) := by decide +kernel
theorem dX8_put_7 : decode cX8_put 7 = .ok (.aload_n 0, 1) := by decide +kernel
theorem dX8_put_8 : decode cX8_put 8 = .ok (.lload 5, 2) := by decide +kernel
theorem dX8_put_10 : decode cX8_put 10 = .ok (.invokevirtual 29, 3) := by decide +kernel
theorem dX8_put_13 : decode cX8_put 13 = .ok (.istore 7, 2) := by decide +kernel
theorem dX8_put_15 : decode cX8_put 15 = .ok (.iload 7, 2) := by decide +kernel
theorem dX8_put_17 : decode cX8_put 17 = .ok (.ifCond .ge 5, 3) := by decide +kernel
theorem dX8_put_20 : decode cX8_put 20 = .ok (.iconst 0, 1) := by decide +kernel
theorem dX8_put_21 : decode cX8_put 21 = .ok (.ireturn, 1) := by decide +kernel
theorem dX8_put_22 : decode cX8_put 22 = .ok (.aload_n 0, 1) := by decide +kernel
theorem dX8_put_23 : decode cX8_put 23 = .ok (.getfield 10, 3) := by decide +kernel
theorem dX8_put_26 : decode cX8_put 26 = .ok (.iload 7, 2) := by decide +kernel
theorem dX8_put_28 : decode cX8_put 28 = .ok (.lload 5, 2) := by decide +kernel
theorem dX8_put_30 : decode cX8_put 30 = .ok (.lastore, 1) := by decide +kernel
theorem dX8_put_31 : decode cX8_put 31 = .ok (.aload_n 0, 1) := by decide +kernel
theorem dX8_put_32 : decode cX8_put 32 = .ok (.getfield 14, 3) := by decide +kernel
theorem dX8_put_35 : decode cX8_put 35 = .ok (.iload 7, 2) := by decide +kernel
theorem dX8_put_37 : decode cX8_put 37 = .ok (.iload_n 3, 1) := by decide +kernel
theorem dX8_put_38 : decode cX8_put 38 = .ok (.iastore, 1) := by decide +kernel
theorem dX8_put_39 : decode cX8_put 39 = .ok (.aload_n 0, 1) := by decide +kernel
theorem dX8_put_40 : decode cX8_put 40 = .ok (.getfield 18, 3) := by decide +kernel
theorem dX8_put_43 : decode cX8_put 43 = .ok (.iload 7, 2) := by decide +kernel
theorem dX8_put_45 : decode cX8_put 45 = .ok (.iload 4, 2) := by decide +kernel
theorem dX8_put_47 : decode cX8_put 47 = .ok (.iastore, 1) := by decide +kernel
theorem dX8_put_48 : decode cX8_put 48 = .ok (.iconst 1, 1) := by decide +kernel
theorem dX8_put_49 : decode cX8_put 49 = .ok (.ireturn, 1) := by decide +kernel
theorem dX8_keyOf_0 : decode cX8_keyOf 0 = .ok (.aload_n 0, 1) := by decide +kernel
theorem dX8_keyOf_1 : decode cX8_keyOf 1 = .ok (.getfield 21, 3) := by decide +kernel
theorem dX8_keyOf_4 : decode cX8_keyOf 4 = .ok (.i2l, 1) := by decide +kernel
theorem dX8_keyOf_5 : decode cX8_keyOf 5 = .ok (.bipush 32, 2) := by decide +kernel
theorem dX8_keyOf_7 : decode cX8_keyOf 7 = .ok (.lshl, 1) := by decide +kernel
theorem dX8_keyOf_8 : decode cX8_keyOf 8 = .ok (.lload_n 1, 1) := by decide +kernel
theorem dX8_keyOf_9 : decode cX8_keyOf 9 = .ok (.lor, 1) := by decide +kernel
theorem dX8_keyOf_10 : decode cX8_keyOf 10 = .ok (.lreturn, 1) := by decide +kernel
theorem dX8_slotFor_0 : decode cX8_slotFor 0 = .ok (.lload_n 1, 1) := by decide +kernel
theorem dX8_slotFor_1 : decode cX8_slotFor 1 = .ok (.ldc2_w 33, 3) := by decide +kernel
theorem dX8_slotFor_4 : decode cX8_slotFor 4 = .ok (.lmul, 1) := by decide +kernel
theorem dX8_slotFor_5 : decode cX8_slotFor 5 = .ok (.iconst 4, 1) := by decide +kernel
theorem dX8_slotFor_6 : decode cX8_slotFor 6 = .ok (.lshr, 1) := by decide +kernel
theorem dX8_slotFor_7 : decode cX8_slotFor 7 = .ok (.l2i, 1) := by decide +kernel
theorem dX8_slotFor_8 : decode cX8_slotFor 8 = .ok (.sipush 32767, 3) := by decide +kernel
theorem dX8_slotFor_11 : decode cX8_slotFor 11 = .ok (.iand, 1) := by decide +kernel
theorem dX8_slotFor_12 : decode cX8_slotFor 12 = .ok (.istore_n 3, 1) := by decide +kernel
theorem dX8_slotFor_13 : decode cX8_slotFor 13 = .ok (.iconst 0, 1) := by decide +kernel
theorem dX8_slotFor_14 : decode cX8_slotFor 14 = .ok (.istore 4, 2) := by decide +kernel
theorem dX8_slotFor_16 : decode cX8_slotFor 16 = .ok (.iload 4, 2) := by decide +kernel
theorem dX8_slotFor_18 : decode cX8_slotFor 18 = .ok (.ldc 9, 2) := by decide +kernel
theorem dX8_slotFor_20 : decode cX8_slotFor 20 = .ok (.if_icmp .ge 48, 3) := by decide +kernel
theorem dX8_slotFor_23 : decode cX8_slotFor 23 = .ok (.aload_n 0, 1) := by decide +kernel
theorem dX8_slotFor_24 : decode cX8_slotFor 24 = .ok (.getfield 10, 3) := by decide +kernel
theorem dX8_slotFor_27 : decode cX8_slotFor 27 = .ok (.iload_n 3, 1) := by decide +kernel
theorem dX8_slotFor_28 : decode cX8_slotFor 28 = .ok (.laload, 1) := by decide +kernel
theorem dX8_slotFor_29 : decode cX8_slotFor 29 = .ok (.lload_n 1, 1) := by decide +kernel
theorem dX8_slotFor_30 : decode cX8_slotFor 30 = .ok (.lcmp, 1) := by decide +kernel
theorem dX8_slotFor_31 : decode cX8_slotFor 31 = .ok (.ifCond .eq 21, 3) := by decide +kernel
theorem dX8_slotFor_34 : decode cX8_slotFor 34 = .ok (.aload_n 0, 1) := by decide +kernel
theorem dX8_slotFor_35 : decode cX8_slotFor 35 = .ok (.getfield 10, 3) := by decide +kernel
theorem dX8_slotFor_38 : decode cX8_slotFor 38 = .ok (.iload_n 3, 1) := by decide +kernel
theorem dX8_slotFor_39 : decode cX8_slotFor 39 = .ok (.laload, 1) := by decide +kernel
theorem dX8_slotFor_40 : decode cX8_slotFor 40 = .ok (.bipush 32, 2) := by decide +kernel
theorem dX8_slotFor_42 : decode cX8_slotFor 42 = .ok (.lshr, 1) := by decide +kernel
theorem dX8_slotFor_43 : decode cX8_slotFor 43 = .ok (.aload_n 0, 1) := by decide +kernel
theorem dX8_slotFor_44 : decode cX8_slotFor 44 = .ok (.getfield 21, 3) := by decide +kernel
theorem dX8_slotFor_47 : decode cX8_slotFor 47 = .ok (.i2l, 1) := by decide +kernel
theorem dX8_slotFor_48 : decode cX8_slotFor 48 = .ok (.lcmp, 1) := by decide +kernel
theorem dX8_slotFor_49 : decode cX8_slotFor 49 = .ok (.ifCond .eq 5, 3) := by decide +kernel
theorem dX8_slotFor_52 : decode cX8_slotFor 52 = .ok (.iload_n 3, 1) := by decide +kernel
theorem dX8_slotFor_53 : decode cX8_slotFor 53 = .ok (.ireturn, 1) := by decide +kernel
theorem dX8_slotFor_54 : decode cX8_slotFor 54 = .ok (.iload_n 3, 1) := by decide +kernel
theorem dX8_slotFor_55 : decode cX8_slotFor 55 = .ok (.iconst 1, 1) := by decide +kernel
theorem dX8_slotFor_56 : decode cX8_slotFor 56 = .ok (.iadd, 1) := by decide +kernel
theorem dX8_slotFor_57 : decode cX8_slotFor 57 = .ok (.sipush 32767, 3) := by decide +kernel
theorem dX8_slotFor_60 : decode cX8_slotFor 60 = .ok (.iand, 1) := by decide +kernel
theorem dX8_slotFor_61 : decode cX8_slotFor 61 = .ok (.istore_n 3, 1) := by decide +kernel
theorem dX8_slotFor_62 : decode cX8_slotFor 62 = .ok (.iinc 4 1, 3) := by decide +kernel
theorem dX8_slotFor_65 : decode cX8_slotFor 65 = .ok (.goto (-49), 3) := by decide +kernel
theorem dX8_slotFor_68 : decode cX8_slotFor 68 = .ok (.iconst (-1), 1) := by decide +kernel
theorem dX8_slotFor_69 : decode cX8_slotFor 69 = .ok (.ireturn, 1) := by decide +kernel
theorem dX9_init_0 : decode cX9_init 0 = .ok (.aload_n 0, 1) := by decide +kernel
theorem dX9_init_1 : decode cX9_init 1 = .ok (.invokespecial 3, 3) := by decide +kernel
theorem dX9_init_4 : decode cX9_init 4 = .ok (.aload_n 0, 1) := by decide +kernel
theorem dX9_init_5 : decode cX9_init 5 = .ok (.sipush 3001, 3) := by decide +kernel
theorem dX9_init_8 : decode cX9_init 8 = .ok (.newarray .int, 2) := by decide +kernel
theorem dX9_init_10 : decode cX9_init 10 = .ok (.putfield 9, 3) := by decide +kernel
theorem dX9_init_13 : decode cX9_init 13 = .ok (.aload_n 0, 1) := by decide +kernel
theorem dX9_init_14 : decode cX9_init 14 = .ok (.iconst 0, 1) := by decide +kernel
theorem dX9_init_15 : decode cX9_init 15 = .ok (.putfield 15, 3) := by decide +kernel
theorem dX9_init_18 : decode cX9_init 18 = .ok (.aload_n 0, 1) := by decide +kernel
theorem dX9_init_19 : decode cX9_init 19 = .ok (.iconst (-1), 1) := by decide +kernel
theorem dX9_init_20 : decode cX9_init 20 = .ok (.putfield 19, 3) := by decide +kernel
theorem dX9_init_23 : decode cX9_init 23 = .ok (.aload_n 0, 1) := by decide +kernel
theorem dX9_init_24 : decode cX9_init 24 = .ok (.aload_n 1, 1) := by decide +kernel
theorem dX9_init_25 : decode cX9_init 25 = .ok (.putfield 22, 3) := by decide +kernel
theorem dX9_init_28 : decode cX9_init 28 = .ok (.aload_n 0, 1) := by decide +kernel
theorem dX9_init_29 : decode cX9_init 29 = .ok (.aload_n 2, 1) := by decide +kernel
theorem dX9_init_30 : decode cX9_init 30 = .ok (.putfield 26, 3) := by decide +kernel
theorem dX9_init_33 : decode cX9_init 33 = .ok (.aload_n 0, 1) := by decide +kernel
theorem dX9_init_34 : decode cX9_init 34 = .ok (.iload_n 3, 1) := by decide +kernel
theorem dX9_init_35 : decode cX9_init 35 = .ok (.putfield 30, 3) := by decide +kernel
theorem dX9_init_38 : decode cX9_init 38 = .ok (.aload_n 0, 1) := by decide +kernel
theorem dX9_init_39 : decode cX9_init 39 = .ok (.aload 4, 2) := by decide +kernel
theorem dX9_init_41 : decode cX9_init 41 = .ok (.putfield 33, 3) := by decide +kernel
theorem dX9_init_44 : decode cX9_init 44 = .ok (.return_, 1) := by decide +kernel
set_option maxRecDepth 20000 in
theorem ggX9_reach_X0_forget : GoodIn wsX9_reach wsX0_forget := goodIn_r _ [16, 17, 18, 195, 196, 197, 198, 199, 200, 201, 202, 203, 204] (by decide +kernel) (by decide +kernel)
set_option maxRecDepth 20000 in
theorem gX9_reach_X0_forget : GoodIn wsX9_reach (wsV RX9 40 RX0 yX0_forget wsX0_forget) := goodIn_app (goodIn_of _ (by decide +kernel)) ggX9_reach_X0_forget
set_option maxRecDepth 20000 in
theorem ggX9_reach_X0_tailFrom : GoodIn wsX9_reach wsX0_tailFrom := goodIn_r _ [22, 18, 23, 24, 25, 26, 27, 28, 17, 29, 30, 31, 32, 10, 33, 34, 35, 36, 37, 38, 39, 40, 41, 42, 43, 44, 45, 46, 47, 48, 49, 50, 51, 52, 53, 54, 55, 56, 57, 58, 59, 60, 61, 62, 63, 64, 65, 66, 67, 68, 69, 70, 71, 72, 73, 74, 75, 76, 77, 78, 79, 80, 81, 82, 83, 84, 85, 86, 87, 88, 89, 15, 90, 91, 92, 93, 94, 95, 96, 97, 98, 99, 100, 101, 102, 103, 104, 105, 106, 107, 108, 109, 110, 111, 112, 113, 114, 115, 116, 117, 118, 119, 120, 121, 122, 123, 124, 125, 126, 127, 128, 129, 130, 131, 132, 133, 134, 135, 136, 137, 138, 139, 140, 141, 142, 143, 9, 11, 195, 196, 197, 198, 199, 200, 201, 202, 203, 204, 205, 206, 207, 208, 190, 191, 192, 193, 194] (by decide +kernel) (by decide +kernel)
set_option maxRecDepth 20000 in
theorem gX9_reach_X0_tailFrom : GoodIn wsX9_reach (wsV RX9 45 RX0 yX0_tailFrom wsX0_tailFrom) := goodIn_app (goodIn_of _ (by decide +kernel)) ggX9_reach_X0_tailFrom
set_option maxRecDepth 20000 in
theorem ggX9_reach_X9_tailFrom : GoodIn wsX9_reach wsX9_tailFrom := goodIn_r _ [148, 2, 6, 7, 149, 150, 151, 152, 153, 154, 59, 155, 156, 157, 158, 159, 66, 71, 160, 57, 58, 60, 61, 62, 63, 64, 65, 67, 68, 69, 70, 72, 73, 74, 75, 76, 77, 78, 79, 80, 81, 82, 83, 84, 85, 86, 161, 162, 147, 163, 164, 165, 166, 167, 168, 169, 170, 171, 172, 173, 174, 175, 176, 10, 177, 178, 179, 180, 181, 182, 183, 184, 185, 186, 187, 188, 189, 209, 210, 211, 212, 190, 191, 192, 193, 194] (by decide +kernel) (by decide +kernel)
set_option maxRecDepth 20000 in
theorem gX9_reach_X9_tailFrom : GoodIn wsX9_reach (wsV RX9 49 RX9 yX9_tailFrom wsX9_tailFrom) := goodIn_app (goodIn_of _ (by decide +kernel)) ggX9_reach_X9_tailFrom
theorem dX9_reach_0 : decode cX9_reach 0 = .ok (.aload_n 0, 1) := by decide +kernel
theorem dX9_reach_1 : decode cX9_reach 1 = .ok (.getfield 19, 3) := by decide +kernel
theorem dX9_reach_4 : decode cX9_reach 4 = .ok (.aload_n 0, 1) := by decide +kernel
theorem dX9_reach_5 : decode cX9_reach 5 = .ok (.getfield 22, 3) := by decide +kernel
theorem dX9_reach_8 : decode cX9_reach 8 = .ok (.getfield 37, 3) := by decide +kernel
theorem dX9_reach_11 : decode cX9_reach 11 = .ok (.if_icmp .eq 33, 3) := by decide +kernel
theorem dX9_reach_14 : decode cX9_reach 14 = .ok (.aload_n 0, 1) := by decide +kernel
theorem dX9_reach_15 : decode cX9_reach 15 = .ok (.aload_n 0, 1) := by decide +kernel
theorem dX9_reach_16 : decode cX9_reach 16 = .ok (.getfield 22, 3) := by decide +kernel
theorem dX9_reach_19 : decode cX9_reach 19 = .ok (.getfield 37, 3) := by decide +kernel
theorem dX9_reach_22 : decode cX9_reach 22 = .ok (.putfield 19, 3) := by decide +kernel
theorem dX9_reach_25 : decode cX9_reach 25 = .ok (.aload_n 0, 1) := by decide +kernel
theorem dX9_reach_26 : decode cX9_reach 26 = .ok (.iconst 0, 1) := by decide +kernel
theorem dX9_reach_27 : decode cX9_reach 27 = .ok (.putfield 15, 3) := by decide +kernel
theorem dX9_reach_30 : decode cX9_reach 30 = .ok (.aload_n 0, 1) := by decide +kernel
theorem dX9_reach_31 : decode cX9_reach 31 = .ok (.getfield 33, 3) := by decide +kernel
theorem dX9_reach_34 : decode cX9_reach 34 = .ok (.ifnull 10, 3) := by decide +kernel
theorem dX9_reach_37 : decode cX9_reach 37 = .ok (.aload_n 0, 1) := by decide +kernel
theorem dX9_reach_38 : decode cX9_reach 38 = .ok (.getfield 33, 3) := by decide +kernel
theorem dX9_reach_41 : decode cX9_reach 41 = .ok (.invokevirtual 40, 3) := by decide +kernel
theorem dX9_reach_44 : decode cX9_reach 44 = .ok (.aload_n 0, 1) := by decide +kernel
theorem dX9_reach_45 : decode cX9_reach 45 = .ok (.getfield 15, 3) := by decide +kernel
theorem dX9_reach_48 : decode cX9_reach 48 = .ok (.istore_n 2, 1) := by decide +kernel
theorem dX9_reach_49 : decode cX9_reach 49 = .ok (.iload_n 2, 1) := by decide +kernel
theorem dX9_reach_50 : decode cX9_reach 50 = .ok (.iload_n 1, 1) := by decide +kernel
theorem dX9_reach_51 : decode cX9_reach 51 = .ok (.if_icmp .gt 73, 3) := by decide +kernel
theorem dX9_reach_54 : decode cX9_reach 54 = .ok (.aload_n 0, 1) := by decide +kernel
theorem dX9_reach_55 : decode cX9_reach 55 = .ok (.getfield 30, 3) := by decide +kernel
theorem dX9_reach_58 : decode cX9_reach 58 = .ok (.iconst 4, 1) := by decide +kernel
theorem dX9_reach_59 : decode cX9_reach 59 = .ok (.if_icmp .ne 14, 3) := by decide +kernel
theorem dX9_reach_62 : decode cX9_reach 62 = .ok (.iload_n 1, 1) := by decide +kernel
theorem dX9_reach_63 : decode cX9_reach 63 = .ok (.iload_n 2, 1) := by decide +kernel
theorem dX9_reach_64 : decode cX9_reach 64 = .ok (.aload_n 0, 1) := by decide +kernel
theorem dX9_reach_65 : decode cX9_reach 65 = .ok (.getfield 15, 3) := by decide +kernel
theorem dX9_reach_68 : decode cX9_reach 68 = .ok (.isub, 1) := by decide +kernel
theorem dX9_reach_69 : decode cX9_reach 69 = .ok (.isub, 1) := by decide +kernel
theorem dX9_reach_70 : decode cX9_reach 70 = .ok (.goto 4, 3) := by decide +kernel
theorem dX9_reach_73 : decode cX9_reach 73 = .ok (.iload_n 2, 1) := by decide +kernel
theorem dX9_reach_74 : decode cX9_reach 74 = .ok (.istore_n 3, 1) := by decide +kernel
theorem dX9_reach_75 : decode cX9_reach 75 = .ok (.aload_n 0, 1) := by decide +kernel
theorem dX9_reach_76 : decode cX9_reach 76 = .ok (.getfield 33, 3) := by decide +kernel
theorem dX9_reach_79 : decode cX9_reach 79 = .ok (.ifnull 14, 3) := by decide +kernel
theorem dX9_reach_82 : decode cX9_reach 82 = .ok (.aload_n 0, 1) := by decide +kernel
theorem dX9_reach_83 : decode cX9_reach 83 = .ok (.getfield 33, 3) := by decide +kernel
theorem dX9_reach_86 : decode cX9_reach 86 = .ok (.iload_n 3, 1) := by decide +kernel
theorem dX9_reach_87 : decode cX9_reach 87 = .ok (.invokevirtual 45, 3) := by decide +kernel
theorem dX9_reach_90 : decode cX9_reach 90 = .ok (.goto 9, 3) := by decide +kernel
theorem dX9_reach_93 : decode cX9_reach 93 = .ok (.aload_n 0, 1) := by decide +kernel
theorem dX9_reach_94 : decode cX9_reach 94 = .ok (.iload_n 3, 1) := by decide +kernel
theorem dX9_reach_95 : decode cX9_reach 95 = .ok (.iload_n 1, 1) := by decide +kernel
theorem dX9_reach_96 : decode cX9_reach 96 = .ok (.invokevirtual 49, 3) := by decide +kernel
theorem dX9_reach_99 : decode cX9_reach 99 = .ok (.istore 4, 2) := by decide +kernel
theorem dX9_reach_101 : decode cX9_reach 101 = .ok (.iload_n 3, 1) := by decide +kernel
theorem dX9_reach_102 : decode cX9_reach 102 = .ok (.aload_n 0, 1) := by decide +kernel
theorem dX9_reach_103 : decode cX9_reach 103 = .ok (.getfield 9, 3) := by decide +kernel
theorem dX9_reach_106 : decode cX9_reach 106 = .ok (.arraylength, 1) := by decide +kernel
theorem dX9_reach_107 : decode cX9_reach 107 = .ok (.if_icmp .ge 11, 3) := by decide +kernel
theorem dX9_reach_110 : decode cX9_reach 110 = .ok (.aload_n 0, 1) := by decide +kernel
theorem dX9_reach_111 : decode cX9_reach 111 = .ok (.getfield 9, 3) := by decide +kernel
theorem dX9_reach_114 : decode cX9_reach 114 = .ok (.iload_n 3, 1) := by decide +kernel
theorem dX9_reach_115 : decode cX9_reach 115 = .ok (.iload 4, 2) := by decide +kernel
theorem dX9_reach_117 : decode cX9_reach 117 = .ok (.iastore, 1) := by decide +kernel
theorem dX9_reach_118 : decode cX9_reach 118 = .ok (.iinc 2 1, 3) := by decide +kernel
theorem dX9_reach_121 : decode cX9_reach 121 = .ok (.goto (-72), 3) := by decide +kernel
theorem dX9_reach_124 : decode cX9_reach 124 = .ok (.aload_n 0, 1) := by decide +kernel
theorem dX9_reach_125 : decode cX9_reach 125 = .ok (.aload_n 0, 1) := by decide +kernel
theorem dX9_reach_126 : decode cX9_reach 126 = .ok (.getfield 15, 3) := by decide +kernel
theorem dX9_reach_129 : decode cX9_reach 129 = .ok (.iload_n 1, 1) := by decide +kernel
theorem dX9_reach_130 : decode cX9_reach 130 = .ok (.iconst 1, 1) := by decide +kernel
theorem dX9_reach_131 : decode cX9_reach 131 = .ok (.iadd, 1) := by decide +kernel
theorem dX9_reach_132 : decode cX9_reach 132 = .ok (.invokestatic 52, 3) := by decide +kernel
theorem dX9_reach_135 : decode cX9_reach 135 = .ok (.putfield 15, 3) := by decide +kernel
theorem dX9_reach_138 : decode cX9_reach 138 = .ok (.return_, 1) := by decide +kernel
theorem dX9_leastWithTail_0 : decode cX9_leastWithTail 0 = .ok (.iconst 0, 1) := by decide +kernel
theorem dX9_leastWithTail_1 : decode cX9_leastWithTail 1 = .ok (.istore_n 3, 1) := by decide +kernel
theorem dX9_leastWithTail_2 : decode cX9_leastWithTail 2 = .ok (.iload_n 3, 1) := by decide +kernel
theorem dX9_leastWithTail_3 : decode cX9_leastWithTail 3 = .ok (.iload_n 2, 1) := by decide +kernel
theorem dX9_leastWithTail_4 : decode cX9_leastWithTail 4 = .ok (.if_icmp .gt 30, 3) := by decide +kernel
theorem dX9_leastWithTail_7 : decode cX9_leastWithTail 7 = .ok (.iload_n 3, 1) := by decide +kernel
theorem dX9_leastWithTail_8 : decode cX9_leastWithTail 8 = .ok (.aload_n 0, 1) := by decide +kernel
theorem dX9_leastWithTail_9 : decode cX9_leastWithTail 9 = .ok (.getfield 9, 3) := by decide +kernel
theorem dX9_leastWithTail_12 : decode cX9_leastWithTail 12 = .ok (.arraylength, 1) := by decide +kernel
theorem dX9_leastWithTail_13 : decode cX9_leastWithTail 13 = .ok (.if_icmp .ge 21, 3) := by decide +kernel
theorem dX9_leastWithTail_16 : decode cX9_leastWithTail 16 = .ok (.aload_n 0, 1) := by decide +kernel
theorem dX9_leastWithTail_17 : decode cX9_leastWithTail 17 = .ok (.getfield 9, 3) := by decide +kernel
theorem dX9_leastWithTail_20 : decode cX9_leastWithTail 20 = .ok (.iload_n 3, 1) := by decide +kernel
theorem dX9_leastWithTail_21 : decode cX9_leastWithTail 21 = .ok (.iaload, 1) := by decide +kernel
theorem dX9_leastWithTail_22 : decode cX9_leastWithTail 22 = .ok (.iload_n 1, 1) := by decide +kernel
theorem dX9_leastWithTail_23 : decode cX9_leastWithTail 23 = .ok (.if_icmp .ne 5, 3) := by decide +kernel
theorem dX9_leastWithTail_26 : decode cX9_leastWithTail 26 = .ok (.iload_n 3, 1) := by decide +kernel
theorem dX9_leastWithTail_27 : decode cX9_leastWithTail 27 = .ok (.ireturn, 1) := by decide +kernel
theorem dX9_leastWithTail_28 : decode cX9_leastWithTail 28 = .ok (.iinc 3 1, 3) := by decide +kernel
theorem dX9_leastWithTail_31 : decode cX9_leastWithTail 31 = .ok (.goto (-29), 3) := by decide +kernel
theorem dX9_leastWithTail_34 : decode cX9_leastWithTail 34 = .ok (.bipush (-4), 2) := by decide +kernel
theorem dX9_leastWithTail_36 : decode cX9_leastWithTail 36 = .ok (.ireturn, 1) := by decide +kernel
theorem dX9_withLongestTail_0 : decode cX9_withLongestTail 0 = .ok (.iconst (-1), 1) := by decide +kernel
theorem dX9_withLongestTail_1 : decode cX9_withLongestTail 1 = .ok (.istore_n 2, 1) := by decide +kernel
theorem dX9_withLongestTail_2 : decode cX9_withLongestTail 2 = .ok (.iconst (-1), 1) := by decide +kernel
theorem dX9_withLongestTail_3 : decode cX9_withLongestTail 3 = .ok (.istore_n 3, 1) := by decide +kernel
theorem dX9_withLongestTail_4 : decode cX9_withLongestTail 4 = .ok (.iconst 0, 1) := by decide +kernel
theorem dX9_withLongestTail_5 : decode cX9_withLongestTail 5 = .ok (.istore 4, 2) := by decide +kernel
theorem dX9_withLongestTail_7 : decode cX9_withLongestTail 7 = .ok (.iload 4, 2) := by decide +kernel
theorem dX9_withLongestTail_9 : decode cX9_withLongestTail 9 = .ok (.iload_n 1, 1) := by decide +kernel
theorem dX9_withLongestTail_10 : decode cX9_withLongestTail 10 = .ok (.if_icmp .gt 41, 3) := by decide +kernel
theorem dX9_withLongestTail_13 : decode cX9_withLongestTail 13 = .ok (.iload 4, 2) := by decide +kernel
theorem dX9_withLongestTail_15 : decode cX9_withLongestTail 15 = .ok (.aload_n 0, 1) := by decide +kernel
theorem dX9_withLongestTail_16 : decode cX9_withLongestTail 16 = .ok (.getfield 9, 3) := by decide +kernel
theorem dX9_withLongestTail_19 : decode cX9_withLongestTail 19 = .ok (.arraylength, 1) := by decide +kernel
theorem dX9_withLongestTail_20 : decode cX9_withLongestTail 20 = .ok (.if_icmp .ge 31, 3) := by decide +kernel
theorem dX9_withLongestTail_23 : decode cX9_withLongestTail 23 = .ok (.aload_n 0, 1) := by decide +kernel
theorem dX9_withLongestTail_24 : decode cX9_withLongestTail 24 = .ok (.getfield 9, 3) := by decide +kernel
theorem dX9_withLongestTail_27 : decode cX9_withLongestTail 27 = .ok (.iload 4, 2) := by decide +kernel
theorem dX9_withLongestTail_29 : decode cX9_withLongestTail 29 = .ok (.iaload, 1) := by decide +kernel
theorem dX9_withLongestTail_30 : decode cX9_withLongestTail 30 = .ok (.iload_n 3, 1) := by decide +kernel
theorem dX9_withLongestTail_31 : decode cX9_withLongestTail 31 = .ok (.if_icmp .le 14, 3) := by decide +kernel
theorem dX9_withLongestTail_34 : decode cX9_withLongestTail 34 = .ok (.aload_n 0, 1) := by decide +kernel
theorem dX9_withLongestTail_35 : decode cX9_withLongestTail 35 = .ok (.getfield 9, 3) := by decide +kernel
theorem dX9_withLongestTail_38 : decode cX9_withLongestTail 38 = .ok (.iload 4, 2) := by decide +kernel
theorem dX9_withLongestTail_40 : decode cX9_withLongestTail 40 = .ok (.iaload, 1) := by decide +kernel
theorem dX9_withLongestTail_41 : decode cX9_withLongestTail 41 = .ok (.istore_n 3, 1) := by decide +kernel
theorem dX9_withLongestTail_42 : decode cX9_withLongestTail 42 = .ok (.iload 4, 2) := by decide +kernel
theorem dX9_withLongestTail_44 : decode cX9_withLongestTail 44 = .ok (.istore_n 2, 1) := by decide +kernel
theorem dX9_withLongestTail_45 : decode cX9_withLongestTail 45 = .ok (.iinc 4 1, 3) := by decide +kernel
theorem dX9_withLongestTail_48 : decode cX9_withLongestTail 48 = .ok (.goto (-41), 3) := by decide +kernel
theorem dX9_withLongestTail_51 : decode cX9_withLongestTail 51 = .ok (.iload_n 2, 1) := by decide +kernel
theorem dX9_withLongestTail_52 : decode cX9_withLongestTail 52 = .ok (.ireturn, 1) := by decide +kernel
set_option maxRecDepth 20000 in
theorem ggX9_lostAt_X10_countOrNone : GoodIn wsX9_lostAt wsX10_countOrNone := goodIn_r _ [4] (by decide +kernel) (by decide +kernel)
set_option maxRecDepth 20000 in
theorem gX9_lostAt_X10_countOrNone_n57 : GoodIn wsX9_lostAt (wsX10_countOrNone) := ggX9_lostAt_X10_countOrNone
theorem dX9_lostAt_0 : decode cX9_lostAt 0 = .ok (.iconst 0, 1) := by decide +kernel
theorem dX9_lostAt_1 : decode cX9_lostAt 1 = .ok (.istore_n 3, 1) := by decide +kernel
theorem dX9_lostAt_2 : decode cX9_lostAt 2 = .ok (.iconst 0, 1) := by decide +kernel
theorem dX9_lostAt_3 : decode cX9_lostAt 3 = .ok (.istore 4, 2) := by decide +kernel
theorem dX9_lostAt_5 : decode cX9_lostAt 5 = .ok (.iload 4, 2) := by decide +kernel
theorem dX9_lostAt_7 : decode cX9_lostAt 7 = .ok (.iload_n 1, 1) := by decide +kernel
theorem dX9_lostAt_8 : decode cX9_lostAt 8 = .ok (.if_icmp .gt 41, 3) := by decide +kernel
theorem dX9_lostAt_11 : decode cX9_lostAt 11 = .ok (.iload 4, 2) := by decide +kernel
theorem dX9_lostAt_13 : decode cX9_lostAt 13 = .ok (.aload_n 0, 1) := by decide +kernel
theorem dX9_lostAt_14 : decode cX9_lostAt 14 = .ok (.getfield 9, 3) := by decide +kernel
theorem dX9_lostAt_17 : decode cX9_lostAt 17 = .ok (.arraylength, 1) := by decide +kernel
theorem dX9_lostAt_18 : decode cX9_lostAt 18 = .ok (.if_icmp .ge 31, 3) := by decide +kernel
theorem dX9_lostAt_21 : decode cX9_lostAt 21 = .ok (.aload_n 0, 1) := by decide +kernel
theorem dX9_lostAt_22 : decode cX9_lostAt 22 = .ok (.getfield 9, 3) := by decide +kernel
theorem dX9_lostAt_25 : decode cX9_lostAt 25 = .ok (.iload 4, 2) := by decide +kernel
theorem dX9_lostAt_27 : decode cX9_lostAt 27 = .ok (.iaload, 1) := by decide +kernel
theorem dX9_lostAt_28 : decode cX9_lostAt 28 = .ok (.iconst (-1), 1) := by decide +kernel
theorem dX9_lostAt_29 : decode cX9_lostAt 29 = .ok (.if_icmp .ne 14, 3) := by decide +kernel
theorem dX9_lostAt_32 : decode cX9_lostAt 32 = .ok (.iload_n 3, 1) := by decide +kernel
theorem dX9_lostAt_33 : decode cX9_lostAt 33 = .ok (.iload_n 2, 1) := by decide +kernel
theorem dX9_lostAt_34 : decode cX9_lostAt 34 = .ok (.if_icmp .ne 6, 3) := by decide +kernel
theorem dX9_lostAt_37 : decode cX9_lostAt 37 = .ok (.iload 4, 2) := by decide +kernel
theorem dX9_lostAt_39 : decode cX9_lostAt 39 = .ok (.ireturn, 1) := by decide +kernel
theorem dX9_lostAt_40 : decode cX9_lostAt 40 = .ok (.iinc 3 1, 3) := by decide +kernel
theorem dX9_lostAt_43 : decode cX9_lostAt 43 = .ok (.iinc 4 1, 3) := by decide +kernel
theorem dX9_lostAt_46 : decode cX9_lostAt 46 = .ok (.goto (-41), 3) := by decide +kernel
theorem dX9_lostAt_49 : decode cX9_lostAt 49 = .ok (.iload_n 2, 1) := by decide +kernel
theorem dX9_lostAt_50 : decode cX9_lostAt 50 = .ok (.iload_n 3, 1) := by decide +kernel
theorem dX9_lostAt_51 : decode cX9_lostAt 51 = .ok (.invokestatic 57, 3) := by decide +kernel
theorem dX9_lostAt_54 : decode cX9_lostAt 54 = .ok (.ireturn, 1) := by decide +kernel
set_option maxRecDepth 20000 in
theorem ggX9_tailFrom_X1_growsForEver : GoodIn wsX9_tailFrom wsX1_growsForEver := goodIn_r _ [11, 12, 13, 14, 10, 15, 16, 17, 81, 82, 83, 84, 85] (by decide +kernel) (by decide +kernel)
set_option maxRecDepth 20000 in
theorem gX9_tailFrom_X1_growsForEver : GoodIn wsX9_tailFrom (wsV RX9 60 RX1 yX1_growsForEver wsX1_growsForEver) := goodIn_app (goodIn_of _ (by decide +kernel)) ggX9_tailFrom_X1_growsForEver
set_option maxRecDepth 20000 in
theorem ggX9_tailFrom_X1_make : GoodIn wsX9_tailFrom wsX1_make := goodIn_r _ [21, 22, 23, 24, 10, 25, 26, 16, 27, 28, 29, 30, 17, 31, 32, 33, 34, 35, 36, 37, 38, 39, 40, 41, 42, 43, 44, 45, 81, 82, 83, 84, 85] (by decide +kernel) (by decide +kernel)
set_option maxRecDepth 20000 in
theorem gX9_tailFrom_X1_make : GoodIn wsX9_tailFrom (wsV RX9 64 RX1 yX1_make wsX1_make) := goodIn_app (goodIn_of _ (by decide +kernel)) ggX9_tailFrom_X1_make
set_option maxRecDepth 20000 in
theorem ggX9_tailFrom_X9_tailAheadOf : GoodIn wsX9_tailFrom wsX9_tailAheadOf := goodIn_r _ [49] (by decide +kernel) (by decide +kernel)
set_option maxRecDepth 20000 in
theorem gX9_tailFrom_X9_tailAheadOf : GoodIn wsX9_tailFrom (va_wsS RX9 68 yX9_tailAheadOf wsX9_tailAheadOf) := goodIn_app (goodIn_of _ (by decide +kernel)) ggX9_tailFrom_X9_tailAheadOf
set_option maxRecDepth 20000 in
theorem ggX9_tailFrom_X6_follow : GoodIn wsX9_tailFrom wsX6_follow := goodIn_r _ [54, 55, 56, 57, 58, 59, 60, 61, 62, 63, 64, 65, 66, 67, 53, 68, 69, 19, 20, 10, 21, 22, 23, 24, 25, 26, 16, 27, 28, 29, 30, 17, 31, 32, 33, 34, 35, 36, 37, 38, 39, 40, 41, 42, 43, 44, 45, 77, 78, 79, 80, 81, 82, 83, 84, 85] (by decide +kernel) (by decide +kernel)
set_option maxRecDepth 20000 in
theorem gX9_tailFrom_X6_follow : GoodIn wsX9_tailFrom (wsV RX9 71 RX6 yX6_follow wsX6_follow) := goodIn_app (goodIn_of _ (by decide +kernel)) ggX9_tailFrom_X6_follow
theorem dX9_tailFrom_0 : decode cX9_tailFrom 0 = .ok (.aload_n 0, 1) := by decide +kernel
theorem dX9_tailFrom_1 : decode cX9_tailFrom 1 = .ok (.getfield 22, 3) := by decide +kernel
theorem dX9_tailFrom_4 : decode cX9_tailFrom 4 = .ok (.aload_n 0, 1) := by decide +kernel
theorem dX9_tailFrom_5 : decode cX9_tailFrom 5 = .ok (.getfield 30, 3) := by decide +kernel
theorem dX9_tailFrom_8 : decode cX9_tailFrom 8 = .ok (.iload_n 1, 1) := by decide +kernel
theorem dX9_tailFrom_9 : decode cX9_tailFrom 9 = .ok (.i2l, 1) := by decide +kernel
theorem dX9_tailFrom_10 : decode cX9_tailFrom 10 = .ok (.invokevirtual 60, 3) := by decide +kernel
theorem dX9_tailFrom_13 : decode cX9_tailFrom 13 = .ok (.ifCond .eq 5, 3) := by decide +kernel
theorem dX9_tailFrom_16 : decode cX9_tailFrom 16 = .ok (.iconst (-1), 1) := by decide +kernel
theorem dX9_tailFrom_17 : decode cX9_tailFrom 17 = .ok (.ireturn, 1) := by decide +kernel
theorem dX9_tailFrom_18 : decode cX9_tailFrom 18 = .ok (.aload_n 0, 1) := by decide +kernel
theorem dX9_tailFrom_19 : decode cX9_tailFrom 19 = .ok (.getfield 30, 3) := by decide +kernel
theorem dX9_tailFrom_22 : decode cX9_tailFrom 22 = .ok (.iconst 4, 1) := by decide +kernel
theorem dX9_tailFrom_23 : decode cX9_tailFrom 23 = .ok (.if_icmp .ne 50, 3) := by decide +kernel
theorem dX9_tailFrom_26 : decode cX9_tailFrom 26 = .ok (.aload_n 0, 1) := by decide +kernel
theorem dX9_tailFrom_27 : decode cX9_tailFrom 27 = .ok (.getfield 22, 3) := by decide +kernel
theorem dX9_tailFrom_30 : decode cX9_tailFrom 30 = .ok (.iconst 4, 1) := by decide +kernel
theorem dX9_tailFrom_31 : decode cX9_tailFrom 31 = .ok (.iload_n 1, 1) := by decide +kernel
theorem dX9_tailFrom_32 : decode cX9_tailFrom 32 = .ok (.i2l, 1) := by decide +kernel
theorem dX9_tailFrom_33 : decode cX9_tailFrom 33 = .ok (.invokevirtual 64, 3) := by decide +kernel
theorem dX9_tailFrom_36 : decode cX9_tailFrom 36 = .ok (.lstore_n 3, 1) := by decide +kernel
theorem dX9_tailFrom_37 : decode cX9_tailFrom 37 = .ok (.lload_n 3, 1) := by decide +kernel
theorem dX9_tailFrom_38 : decode cX9_tailFrom 38 = .ok (.iload_n 1, 1) := by decide +kernel
theorem dX9_tailFrom_39 : decode cX9_tailFrom 39 = .ok (.i2l, 1) := by decide +kernel
theorem dX9_tailFrom_40 : decode cX9_tailFrom 40 = .ok (.lcmp, 1) := by decide +kernel
theorem dX9_tailFrom_41 : decode cX9_tailFrom 41 = .ok (.ifCond .le 32, 3) := by decide +kernel
theorem dX9_tailFrom_44 : decode cX9_tailFrom 44 = .ok (.lload_n 3, 1) := by decide +kernel
theorem dX9_tailFrom_45 : decode cX9_tailFrom 45 = .ok (.iload_n 2, 1) := by decide +kernel
theorem dX9_tailFrom_46 : decode cX9_tailFrom 46 = .ok (.i2l, 1) := by decide +kernel
theorem dX9_tailFrom_47 : decode cX9_tailFrom 47 = .ok (.lcmp, 1) := by decide +kernel
theorem dX9_tailFrom_48 : decode cX9_tailFrom 48 = .ok (.ifCond .gt 25, 3) := by decide +kernel
theorem dX9_tailFrom_51 : decode cX9_tailFrom 51 = .ok (.lload_n 3, 1) := by decide +kernel
theorem dX9_tailFrom_52 : decode cX9_tailFrom 52 = .ok (.aload_n 0, 1) := by decide +kernel
theorem dX9_tailFrom_53 : decode cX9_tailFrom 53 = .ok (.getfield 9, 3) := by decide +kernel
theorem dX9_tailFrom_56 : decode cX9_tailFrom 56 = .ok (.arraylength, 1) := by decide +kernel
theorem dX9_tailFrom_57 : decode cX9_tailFrom 57 = .ok (.i2l, 1) := by decide +kernel
theorem dX9_tailFrom_58 : decode cX9_tailFrom 58 = .ok (.lcmp, 1) := by decide +kernel
theorem dX9_tailFrom_59 : decode cX9_tailFrom 59 = .ok (.ifCond .ge 14, 3) := by decide +kernel
theorem dX9_tailFrom_62 : decode cX9_tailFrom 62 = .ok (.aload_n 0, 1) := by decide +kernel
theorem dX9_tailFrom_63 : decode cX9_tailFrom 63 = .ok (.getfield 9, 3) := by decide +kernel
theorem dX9_tailFrom_66 : decode cX9_tailFrom 66 = .ok (.lload_n 3, 1) := by decide +kernel
theorem dX9_tailFrom_67 : decode cX9_tailFrom 67 = .ok (.l2i, 1) := by decide +kernel
theorem dX9_tailFrom_68 : decode cX9_tailFrom 68 = .ok (.iaload, 1) := by decide +kernel
theorem dX9_tailFrom_69 : decode cX9_tailFrom 69 = .ok (.invokestatic 68, 3) := by decide +kernel
theorem dX9_tailFrom_72 : decode cX9_tailFrom 72 = .ok (.ireturn, 1) := by decide +kernel
theorem dX9_tailFrom_73 : decode cX9_tailFrom 73 = .ok (.aload_n 0, 1) := by decide +kernel
theorem dX9_tailFrom_74 : decode cX9_tailFrom 74 = .ok (.getfield 26, 3) := by decide +kernel
theorem dX9_tailFrom_77 : decode cX9_tailFrom 77 = .ok (.aload_n 0, 1) := by decide +kernel
theorem dX9_tailFrom_78 : decode cX9_tailFrom 78 = .ok (.getfield 22, 3) := by decide +kernel
theorem dX9_tailFrom_81 : decode cX9_tailFrom 81 = .ok (.aload_n 0, 1) := by decide +kernel
theorem dX9_tailFrom_82 : decode cX9_tailFrom 82 = .ok (.getfield 30, 3) := by decide +kernel
theorem dX9_tailFrom_85 : decode cX9_tailFrom 85 = .ok (.iload_n 1, 1) := by decide +kernel
theorem dX9_tailFrom_86 : decode cX9_tailFrom 86 = .ok (.i2l, 1) := by decide +kernel
theorem dX9_tailFrom_87 : decode cX9_tailFrom 87 = .ok (.invokevirtual 71, 3) := by decide +kernel
theorem dX9_tailFrom_90 : decode cX9_tailFrom 90 = .ok (.aload_n 0, 1) := by decide +kernel
theorem dX9_tailFrom_91 : decode cX9_tailFrom 91 = .ok (.getfield 26, 3) := by decide +kernel
theorem dX9_tailFrom_94 : decode cX9_tailFrom 94 = .ok (.getfield 77, 3) := by decide +kernel
theorem dX9_tailFrom_97 : decode cX9_tailFrom 97 = .ok (.ifCond .ne 7, 3) := by decide +kernel
theorem dX9_tailFrom_100 : decode cX9_tailFrom 100 = .ok (.iconst (-1), 1) := by decide +kernel
theorem dX9_tailFrom_101 : decode cX9_tailFrom 101 = .ok (.goto 10, 3) := by decide +kernel
theorem dX9_tailFrom_104 : decode cX9_tailFrom 104 = .ok (.aload_n 0, 1) := by decide +kernel
theorem dX9_tailFrom_105 : decode cX9_tailFrom 105 = .ok (.getfield 26, 3) := by decide +kernel
theorem dX9_tailFrom_108 : decode cX9_tailFrom 108 = .ok (.getfield 80, 3) := by decide +kernel
theorem dX9_tailFrom_111 : decode cX9_tailFrom 111 = .ok (.ireturn, 1) := by decide +kernel
theorem dX9_tailAheadOf_0 : decode cX9_tailAheadOf 0 = .ok (.iload_n 0, 1) := by decide +kernel
theorem dX9_tailAheadOf_1 : decode cX9_tailAheadOf 1 = .ok (.iconst (-1), 1) := by decide +kernel
theorem dX9_tailAheadOf_2 : decode cX9_tailAheadOf 2 = .ok (.if_icmp .eq 12, 3) := by decide +kernel
theorem dX9_tailAheadOf_5 : decode cX9_tailAheadOf 5 = .ok (.iload_n 0, 1) := by decide +kernel
theorem dX9_tailAheadOf_6 : decode cX9_tailAheadOf 6 = .ok (.iconst 2, 1) := by decide +kernel
theorem dX9_tailAheadOf_7 : decode cX9_tailAheadOf 7 = .ok (.iadd, 1) := by decide +kernel
theorem dX9_tailAheadOf_8 : decode cX9_tailAheadOf 8 = .ok (.sipush 300, 3) := by decide +kernel
theorem dX9_tailAheadOf_11 : decode cX9_tailAheadOf 11 = .ok (.if_icmp .le 7, 3) := by decide +kernel
theorem dX9_tailAheadOf_14 : decode cX9_tailAheadOf 14 = .ok (.iconst (-1), 1) := by decide +kernel
theorem dX9_tailAheadOf_15 : decode cX9_tailAheadOf 15 = .ok (.goto 6, 3) := by decide +kernel
theorem dX9_tailAheadOf_18 : decode cX9_tailAheadOf 18 = .ok (.iload_n 0, 1) := by decide +kernel
theorem dX9_tailAheadOf_19 : decode cX9_tailAheadOf 19 = .ok (.iconst 1, 1) := by decide +kernel
theorem dX9_tailAheadOf_20 : decode cX9_tailAheadOf 20 = .ok (.iadd, 1) := by decide +kernel
theorem dX9_tailAheadOf_21 : decode cX9_tailAheadOf 21 = .ok (.ireturn, 1) := by decide +kernel
set_option maxRecDepth 20000 in
theorem ggX10_init_X1_init : GoodIn wsX10_init wsX1_init := goodIn_r _ [20, 21, 2, 3, 22, 23, 24, 25, 26, 27, 41, 42, 43, 44, 45] (by decide +kernel) (by decide +kernel)
set_option maxRecDepth 20000 in
theorem gX10_init_X1_init : GoodIn wsX10_init (wsX1_init) := ggX10_init_X1_init
set_option maxRecDepth 20000 in
theorem ggX10_init_X6_init : GoodIn wsX10_init wsX6_init := goodIn_r _ [29, 30, 2, 3, 31, 32, 33, 34, 35, 55, 56, 57, 58] (by decide +kernel) (by decide +kernel)
set_option maxRecDepth 20000 in
theorem gX10_init_X6_init_n18 : GoodIn wsX10_init (wsX6_init) := ggX10_init_X6_init
set_option maxRecDepth 20000 in
theorem ggX10_init_X3_init : GoodIn wsX10_init wsX3_init := goodIn_r _ [38, 39, 2, 3, 40, 59] (by decide +kernel) (by decide +kernel)
set_option maxRecDepth 20000 in
theorem gX10_init_X3_init : GoodIn wsX10_init (wsX3_init) := ggX10_init_X3_init
theorem dX10_init_0 : decode cX10_init 0 = .ok (.aload_n 0, 1) := by decide +kernel
theorem dX10_init_1 : decode cX10_init 1 = .ok (.invokespecial 1, 3) := by decide +kernel
theorem dX10_init_4 : decode cX10_init 4 = .ok (.aload_n 0, 1) := by decide +kernel
theorem dX10_init_5 : decode cX10_init 5 = .ok (.new 7, 3) := by decide +kernel
theorem dX10_init_8 : decode cX10_init 8 = .ok (.dup, 1) := by decide +kernel
theorem dX10_init_9 : decode cX10_init 9 = .ok (.invokespecial 9, 3) := by decide +kernel
theorem dX10_init_12 : decode cX10_init 12 = .ok (.putfield 10, 3) := by decide +kernel
theorem dX10_init_15 : decode cX10_init 15 = .ok (.aload_n 0, 1) := by decide +kernel
theorem dX10_init_16 : decode cX10_init 16 = .ok (.new 16, 3) := by decide +kernel
theorem dX10_init_19 : decode cX10_init 19 = .ok (.dup, 1) := by decide +kernel
theorem dX10_init_20 : decode cX10_init 20 = .ok (.invokespecial 18, 3) := by decide +kernel
theorem dX10_init_23 : decode cX10_init 23 = .ok (.putfield 19, 3) := by decide +kernel
theorem dX10_init_26 : decode cX10_init 26 = .ok (.aload_n 0, 1) := by decide +kernel
theorem dX10_init_27 : decode cX10_init 27 = .ok (.new 23, 3) := by decide +kernel
theorem dX10_init_30 : decode cX10_init 30 = .ok (.dup, 1) := by decide +kernel
theorem dX10_init_31 : decode cX10_init 31 = .ok (.aload_n 0, 1) := by decide +kernel
theorem dX10_init_32 : decode cX10_init 32 = .ok (.getfield 10, 3) := by decide +kernel
theorem dX10_init_35 : decode cX10_init 35 = .ok (.invokespecial 25, 3) := by decide +kernel
theorem dX10_init_38 : decode cX10_init 38 = .ok (.putfield 28, 3) := by decide +kernel
theorem dX10_init_41 : decode cX10_init 41 = .ok (.aload_n 0, 1) := by decide +kernel
theorem dX10_init_42 : decode cX10_init 42 = .ok (.bipush 6, 2) := by decide +kernel
theorem dX10_init_44 : decode cX10_init 44 = .ok (.anewarray 32, 3) := by decide +kernel
theorem dX10_init_47 : decode cX10_init 47 = .ok (.putfield 34, 3) := by decide +kernel
theorem dX10_init_50 : decode cX10_init 50 = .ok (.return_, 1) := by decide +kernel
set_option maxRecDepth 20000 in
theorem ggX10_base_X10_within : GoodIn wsX10_base wsX10_within := goodIn_r _ [6] (by decide +kernel) (by decide +kernel)
set_option maxRecDepth 20000 in
theorem gX10_base_X10_within : GoodIn wsX10_base (va_wsS RX10 38 yX10_within wsX10_within) := goodIn_app (goodIn_of _ (by decide +kernel)) ggX10_base_X10_within
set_option maxRecDepth 20000 in
theorem ggX10_base_X1_setBase : GoodIn wsX10_base wsX1_setBase := goodIn_r _ [11, 12, 13, 23, 24, 25, 26, 27] (by decide +kernel) (by decide +kernel)
set_option maxRecDepth 20000 in
theorem gX10_base_X1_setBase : GoodIn wsX10_base (wsV RX10 46 RX1 yX1_setBase wsX1_setBase) := goodIn_app (goodIn_of _ (by decide +kernel)) ggX10_base_X1_setBase
theorem dX10_base_0 : decode cX10_base 0 = .ok (.iload_n 1, 1) := by decide +kernel
theorem dX10_base_1 : decode cX10_base 1 = .ok (.iconst 2, 1) := by decide +kernel
theorem dX10_base_2 : decode cX10_base 2 = .ok (.bipush 16, 2) := by decide +kernel
theorem dX10_base_4 : decode cX10_base 4 = .ok (.invokestatic 38, 3) := by decide +kernel
theorem dX10_base_7 : decode cX10_base 7 = .ok (.ifCond .ne 5, 3) := by decide +kernel
theorem dX10_base_10 : decode cX10_base 10 = .ok (.iconst (-1), 1) := by decide +kernel
theorem dX10_base_11 : decode cX10_base 11 = .ok (.ireturn, 1) := by decide +kernel
theorem dX10_base_12 : decode cX10_base 12 = .ok (.aload_n 0, 1) := by decide +kernel
theorem dX10_base_13 : decode cX10_base 13 = .ok (.getfield 10, 3) := by decide +kernel
theorem dX10_base_16 : decode cX10_base 16 = .ok (.getfield 42, 3) := by decide +kernel
theorem dX10_base_19 : decode cX10_base 19 = .ok (.istore_n 2, 1) := by decide +kernel
theorem dX10_base_20 : decode cX10_base 20 = .ok (.aload_n 0, 1) := by decide +kernel
theorem dX10_base_21 : decode cX10_base 21 = .ok (.getfield 10, 3) := by decide +kernel
theorem dX10_base_24 : decode cX10_base 24 = .ok (.iload_n 1, 1) := by decide +kernel
theorem dX10_base_25 : decode cX10_base 25 = .ok (.invokevirtual 46, 3) := by decide +kernel
theorem dX10_base_28 : decode cX10_base 28 = .ok (.iload_n 2, 1) := by decide +kernel
theorem dX10_base_29 : decode cX10_base 29 = .ok (.ireturn, 1) := by decide +kernel
set_option maxRecDepth 20000 in
theorem ggX10_table_X10_within : GoodIn wsX10_table wsX10_within := goodIn_r _ [7] (by decide +kernel) (by decide +kernel)
