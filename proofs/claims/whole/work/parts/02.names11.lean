theorem dX11_come_5 : decode cX11_come 5 = .ok (.iconst 3, 1) := by decide +kernel
theorem dX11_come_6 : decode cX11_come 6 = .ok (.if_icmp .ne 37, 3) := by decide +kernel
theorem dX11_come_9 : decode cX11_come 9 = .ok (.iload_n 2, 1) := by decide +kernel
theorem dX11_come_10 : decode cX11_come 10 = .ok (.i2l, 1) := by decide +kernel
theorem dX11_come_11 : decode cX11_come 11 = .ok (.lconst 0, 1) := by decide +kernel
theorem dX11_come_12 : decode cX11_come 12 = .ok (.ldc2_w 124, 3) := by decide +kernel
theorem dX11_come_15 : decode cX11_come 15 = .ok (.invokestatic 57, 3) := by decide +kernel
theorem dX11_come_18 : decode cX11_come 18 = .ok (.ifCond .eq 25, 3) := by decide +kernel
theorem dX11_come_21 : decode cX11_come 21 = .ok (.lload_n 3, 1) := by decide +kernel
theorem dX11_come_22 : decode cX11_come 22 = .ok (.lconst 0, 1) := by decide +kernel
theorem dX11_come_23 : decode cX11_come 23 = .ok (.ldc2_w 68, 3) := by decide +kernel
theorem dX11_come_26 : decode cX11_come 26 = .ok (.invokestatic 57, 3) := by decide +kernel
theorem dX11_come_29 : decode cX11_come 29 = .ok (.ifCond .eq 14, 3) := by decide +kernel
theorem dX11_come_32 : decode cX11_come 32 = .ok (.iload 5, 2) := by decide +kernel
theorem dX11_come_34 : decode cX11_come 34 = .ok (.i2l, 1) := by decide +kernel
theorem dX11_come_35 : decode cX11_come 35 = .ok (.lconst 0, 1) := by decide +kernel
theorem dX11_come_36 : decode cX11_come 36 = .ok (.lconst 1, 1) := by decide +kernel
theorem dX11_come_37 : decode cX11_come 37 = .ok (.invokestatic 57, 3) := by decide +kernel
theorem dX11_come_40 : decode cX11_come 40 = .ok (.ifCond .ne 5, 3) := by decide +kernel
theorem dX11_come_43 : decode cX11_come 43 = .ok (.iconst (-1), 1) := by decide +kernel
theorem dX11_come_44 : decode cX11_come 44 = .ok (.ireturn, 1) := by decide +kernel
theorem dX11_come_45 : decode cX11_come 45 = .ok (.aload_n 0, 1) := by decide +kernel
theorem dX11_come_46 : decode cX11_come 46 = .ok (.iload_n 1, 1) := by decide +kernel
theorem dX11_come_47 : decode cX11_come 47 = .ok (.lload_n 3, 1) := by decide +kernel
theorem dX11_come_48 : decode cX11_come 48 = .ok (.invokevirtual 107, 3) := by decide +kernel
theorem dX11_come_51 : decode cX11_come 51 = .ok (.aload_n 0, 1) := by decide +kernel
theorem dX11_come_52 : decode cX11_come 52 = .ok (.getfield 97, 3) := by decide +kernel
theorem dX11_come_55 : decode cX11_come 55 = .ok (.istore 6, 2) := by decide +kernel
theorem dX11_come_57 : decode cX11_come 57 = .ok (.aload_n 0, 1) := by decide +kernel
theorem dX11_come_58 : decode cX11_come 58 = .ok (.getfield 97, 3) := by decide +kernel
theorem dX11_come_61 : decode cX11_come 61 = .ok (.ifCond .eq 21, 3) := by decide +kernel
theorem dX11_come_64 : decode cX11_come 64 = .ok (.aload_n 0, 1) := by decide +kernel
theorem dX11_come_65 : decode cX11_come 65 = .ok (.getfield 100, 3) := by decide +kernel
theorem dX11_come_68 : decode cX11_come 68 = .ok (.ifCond .gt 14, 3) := by decide +kernel
theorem dX11_come_71 : decode cX11_come 71 = .ok (.aload_n 0, 1) := by decide +kernel
theorem dX11_come_72 : decode cX11_come 72 = .ok (.iload_n 1, 1) := by decide +kernel
theorem dX11_come_73 : decode cX11_come 73 = .ok (.lload_n 3, 1) := by decide +kernel
theorem dX11_come_74 : decode cX11_come 74 = .ok (.invokevirtual 118, 3) := by decide +kernel
theorem dX11_come_77 : decode cX11_come 77 = .ok (.lload_n 3, 1) := by decide +kernel
theorem dX11_come_78 : decode cX11_come 78 = .ok (.lcmp, 1) := by decide +kernel
theorem dX11_come_79 : decode cX11_come 79 = .ok (.ifCond .eq 6, 3) := by decide +kernel
theorem dX11_come_82 : decode cX11_come 82 = .ok (.bipush (-4), 2) := by decide +kernel
theorem dX11_come_84 : decode cX11_come 84 = .ok (.ireturn, 1) := by decide +kernel
theorem dX11_come_85 : decode cX11_come 85 = .ok (.iconst 0, 1) := by decide +kernel
theorem dX11_come_86 : decode cX11_come 86 = .ok (.istore 7, 2) := by decide +kernel
theorem dX11_come_88 : decode cX11_come 88 = .ok (.iconst 0, 1) := by decide +kernel
theorem dX11_come_89 : decode cX11_come 89 = .ok (.istore 8, 2) := by decide +kernel
theorem dX11_come_91 : decode cX11_come 91 = .ok (.iload 8, 2) := by decide +kernel
theorem dX11_come_93 : decode cX11_come 93 = .ok (.iload_n 2, 1) := by decide +kernel
theorem dX11_come_94 : decode cX11_come 94 = .ok (.if_icmp .gt 54, 3) := by decide +kernel
theorem dX11_come_97 : decode cX11_come 97 = .ok (.iload 5, 2) := by decide +kernel
theorem dX11_come_99 : decode cX11_come 99 = .ok (.ifCond .ne 49, 3) := by decide +kernel
theorem dX11_come_102 : decode cX11_come 102 = .ok (.aload_n 0, 1) := by decide +kernel
theorem dX11_come_103 : decode cX11_come 103 = .ok (.iload_n 1, 1) := by decide +kernel
theorem dX11_come_104 : decode cX11_come 104 = .ok (.iload 8, 2) := by decide +kernel
theorem dX11_come_106 : decode cX11_come 106 = .ok (.i2l, 1) := by decide +kernel
theorem dX11_come_107 : decode cX11_come 107 = .ok (.invokevirtual 107, 3) := by decide +kernel
theorem dX11_come_110 : decode cX11_come 110 = .ok (.iload 7, 2) := by decide +kernel
theorem dX11_come_112 : decode cX11_come 112 = .ok (.aload_n 0, 1) := by decide +kernel
theorem dX11_come_113 : decode cX11_come 113 = .ok (.getfield 97, 3) := by decide +kernel
theorem dX11_come_116 : decode cX11_come 116 = .ok (.iload 6, 2) := by decide +kernel
theorem dX11_come_118 : decode cX11_come 118 = .ok (.if_icmp .ne 20, 3) := by decide +kernel
theorem dX11_come_121 : decode cX11_come 121 = .ok (.aload_n 0, 1) := by decide +kernel
theorem dX11_come_122 : decode cX11_come 122 = .ok (.iload_n 1, 1) := by decide +kernel
theorem dX11_come_123 : decode cX11_come 123 = .ok (.iload 8, 2) := by decide +kernel
theorem dX11_come_125 : decode cX11_come 125 = .ok (.i2l, 1) := by decide +kernel
theorem dX11_come_126 : decode cX11_come 126 = .ok (.invokevirtual 118, 3) := by decide +kernel
theorem dX11_come_129 : decode cX11_come 129 = .ok (.lload_n 3, 1) := by decide +kernel
theorem dX11_come_130 : decode cX11_come 130 = .ok (.lcmp, 1) := by decide +kernel
theorem dX11_come_131 : decode cX11_come 131 = .ok (.ifCond .ne 7, 3) := by decide +kernel
theorem dX11_come_134 : decode cX11_come 134 = .ok (.iconst 1, 1) := by decide +kernel
theorem dX11_come_135 : decode cX11_come 135 = .ok (.goto 4, 3) := by decide +kernel
theorem dX11_come_138 : decode cX11_come 138 = .ok (.iconst 0, 1) := by decide +kernel
theorem dX11_come_139 : decode cX11_come 139 = .ok (.iadd, 1) := by decide +kernel
theorem dX11_come_140 : decode cX11_come 140 = .ok (.istore 7, 2) := by decide +kernel
theorem dX11_come_142 : decode cX11_come 142 = .ok (.iinc 8 1, 3) := by decide +kernel
theorem dX11_come_145 : decode cX11_come 145 = .ok (.goto (-54), 3) := by decide +kernel
theorem dX11_come_148 : decode cX11_come 148 = .ok (.iload 5, 2) := by decide +kernel
theorem dX11_come_150 : decode cX11_come 150 = .ok (.ifCond .ne 8, 3) := by decide +kernel
theorem dX11_come_153 : decode cX11_come 153 = .ok (.iload 7, 2) := by decide +kernel
theorem dX11_come_155 : decode cX11_come 155 = .ok (.goto 5, 3) := by decide +kernel
theorem dX11_come_158 : decode cX11_come 158 = .ok (.iload 6, 2) := by decide +kernel
theorem dX11_come_160 : decode cX11_come 160 = .ok (.ireturn, 1) := by decide +kernel
set_option maxRecDepth 20000 in
theorem ggX11_makes_X11_in : GoodIn wsX11_makes wsX11_in := goodIn_r _ [7] (by decide +kernel) (by decide +kernel)
set_option maxRecDepth 20000 in
theorem gX11_makes_X11_in : GoodIn wsX11_makes (va_wsS RX11 57 yX11_in wsX11_in) := goodIn_app (goodIn_of _ (by decide +kernel)) ggX11_makes_X11_in
set_option maxRecDepth 20000 in
theorem ggX11_makes_X11_stepOf : GoodIn wsX11_makes wsX11_stepOf := goodIn_r _ [11, 12, 13, 14, 6, 15, 16, 17, 18, 2, 19, 20, 21, 22, 23, 24, 25, 26, 27, 28, 29, 30, 31, 32, 33, 34, 35, 36, 37, 38, 39, 40, 41, 42, 43, 44, 45, 46, 47, 48, 49, 50, 51, 52, 53, 54, 55, 56, 57, 58, 59, 60] (by decide +kernel) (by decide +kernel)
set_option maxRecDepth 20000 in
theorem gX11_makes_X11_stepOf : GoodIn wsX11_makes (wsV RX11 91 RX11 yX11_stepOf wsX11_stepOf) := goodIn_app (goodIn_of _ (by decide +kernel)) ggX11_makes_X11_stepOf
theorem dX11_makes_0 : decode cX11_makes 0 = .ok (.iload_n 1, 1) := by decide +kernel
theorem dX11_makes_1 : decode cX11_makes 1 = .ok (.i2l, 1) := by decide +kernel
theorem dX11_makes_2 : decode cX11_makes 2 = .ok (.lconst 0, 1) := by decide +kernel
theorem dX11_makes_3 : decode cX11_makes 3 = .ok (.ldc2_w 89, 3) := by decide +kernel
theorem dX11_makes_6 : decode cX11_makes 6 = .ok (.invokestatic 57, 3) := by decide +kernel
theorem dX11_makes_9 : decode cX11_makes 9 = .ok (.ifCond .eq 33, 3) := by decide +kernel
theorem dX11_makes_12 : decode cX11_makes 12 = .ok (.lload_n 2, 1) := by decide +kernel
theorem dX11_makes_13 : decode cX11_makes 13 = .ok (.lconst 0, 1) := by decide +kernel
theorem dX11_makes_14 : decode cX11_makes 14 = .ok (.ldc2_w 68, 3) := by decide +kernel
theorem dX11_makes_17 : decode cX11_makes 17 = .ok (.invokestatic 57, 3) := by decide +kernel
theorem dX11_makes_20 : decode cX11_makes 20 = .ok (.ifCond .eq 22, 3) := by decide +kernel
theorem dX11_makes_23 : decode cX11_makes 23 = .ok (.iload 4, 2) := by decide +kernel
theorem dX11_makes_25 : decode cX11_makes 25 = .ok (.i2l, 1) := by decide +kernel
theorem dX11_makes_26 : decode cX11_makes 26 = .ok (.lconst 0, 1) := by decide +kernel
theorem dX11_makes_27 : decode cX11_makes 27 = .ok (.ldc2_w 116, 3) := by decide +kernel
theorem dX11_makes_30 : decode cX11_makes 30 = .ok (.invokestatic 57, 3) := by decide +kernel
theorem dX11_makes_33 : decode cX11_makes 33 = .ok (.ifCond .eq 9, 3) := by decide +kernel
theorem dX11_makes_36 : decode cX11_makes 36 = .ok (.iload 5, 2) := by decide +kernel
theorem dX11_makes_38 : decode cX11_makes 38 = .ok (.iconst (-1), 1) := by decide +kernel
theorem dX11_makes_39 : decode cX11_makes 39 = .ok (.if_icmp .ge 5, 3) := by decide +kernel
theorem dX11_makes_42 : decode cX11_makes 42 = .ok (.iconst (-1), 1) := by decide +kernel
theorem dX11_makes_43 : decode cX11_makes 43 = .ok (.ireturn, 1) := by decide +kernel
theorem dX11_makes_44 : decode cX11_makes 44 = .ok (.iconst 0, 1) := by decide +kernel
theorem dX11_makes_45 : decode cX11_makes 45 = .ok (.istore 6, 2) := by decide +kernel
theorem dX11_makes_47 : decode cX11_makes 47 = .ok (.iconst 0, 1) := by decide +kernel
theorem dX11_makes_48 : decode cX11_makes 48 = .ok (.istore 7, 2) := by decide +kernel
theorem dX11_makes_50 : decode cX11_makes 50 = .ok (.iload 7, 2) := by decide +kernel
theorem dX11_makes_52 : decode cX11_makes 52 = .ok (.iload 4, 2) := by decide +kernel
theorem dX11_makes_54 : decode cX11_makes 54 = .ok (.if_icmp .gt 59, 3) := by decide +kernel
theorem dX11_makes_57 : decode cX11_makes 57 = .ok (.aload_n 0, 1) := by decide +kernel
theorem dX11_makes_58 : decode cX11_makes 58 = .ok (.iload_n 1, 1) := by decide +kernel
theorem dX11_makes_59 : decode cX11_makes 59 = .ok (.iload 7, 2) := by decide +kernel
theorem dX11_makes_61 : decode cX11_makes 61 = .ok (.i2l, 1) := by decide +kernel
theorem dX11_makes_62 : decode cX11_makes 62 = .ok (.invokevirtual 91, 3) := by decide +kernel
theorem dX11_makes_65 : decode cX11_makes 65 = .ok (.lload_n 2, 1) := by decide +kernel
theorem dX11_makes_66 : decode cX11_makes 66 = .ok (.lcmp, 1) := by decide +kernel
theorem dX11_makes_67 : decode cX11_makes 67 = .ok (.ifCond .ne 7, 3) := by decide +kernel
theorem dX11_makes_70 : decode cX11_makes 70 = .ok (.iconst 1, 1) := by decide +kernel
theorem dX11_makes_71 : decode cX11_makes 71 = .ok (.goto 4, 3) := by decide +kernel
theorem dX11_makes_74 : decode cX11_makes 74 = .ok (.iconst 0, 1) := by decide +kernel
theorem dX11_makes_75 : decode cX11_makes 75 = .ok (.istore 8, 2) := by decide +kernel
theorem dX11_makes_77 : decode cX11_makes 77 = .ok (.iload 8, 2) := by decide +kernel
theorem dX11_makes_79 : decode cX11_makes 79 = .ok (.ifCond .eq 13, 3) := by decide +kernel
theorem dX11_makes_82 : decode cX11_makes 82 = .ok (.iload 6, 2) := by decide +kernel
theorem dX11_makes_84 : decode cX11_makes 84 = .ok (.iload 5, 2) := by decide +kernel
theorem dX11_makes_86 : decode cX11_makes 86 = .ok (.if_icmp .ne 6, 3) := by decide +kernel
theorem dX11_makes_89 : decode cX11_makes 89 = .ok (.iload 7, 2) := by decide +kernel
theorem dX11_makes_91 : decode cX11_makes 91 = .ok (.ireturn, 1) := by decide +kernel
theorem dX11_makes_92 : decode cX11_makes 92 = .ok (.iload 6, 2) := by decide +kernel
theorem dX11_makes_94 : decode cX11_makes 94 = .ok (.iload 8, 2) := by decide +kernel
theorem dX11_makes_96 : decode cX11_makes 96 = .ok (.ifCond .eq 7, 3) := by decide +kernel
theorem dX11_makes_99 : decode cX11_makes 99 = .ok (.iconst 1, 1) := by decide +kernel
theorem dX11_makes_100 : decode cX11_makes 100 = .ok (.goto 4, 3) := by decide +kernel
theorem dX11_makes_103 : decode cX11_makes 103 = .ok (.iconst 0, 1) := by decide +kernel
theorem dX11_makes_104 : decode cX11_makes 104 = .ok (.iadd, 1) := by decide +kernel
theorem dX11_makes_105 : decode cX11_makes 105 = .ok (.istore 6, 2) := by decide +kernel
theorem dX11_makes_107 : decode cX11_makes 107 = .ok (.iinc 7 1, 3) := by decide +kernel
theorem dX11_makes_110 : decode cX11_makes 110 = .ok (.goto (-60), 3) := by decide +kernel
theorem dX11_makes_113 : decode cX11_makes 113 = .ok (.iload 5, 2) := by decide +kernel
theorem dX11_makes_115 : decode cX11_makes 115 = .ok (.iconst (-1), 1) := by decide +kernel
theorem dX11_makes_116 : decode cX11_makes 116 = .ok (.if_icmp .ne 8, 3) := by decide +kernel
theorem dX11_makes_119 : decode cX11_makes 119 = .ok (.iload 6, 2) := by decide +kernel
theorem dX11_makes_121 : decode cX11_makes 121 = .ok (.goto 5, 3) := by decide +kernel
theorem dX11_makes_124 : decode cX11_makes 124 = .ok (.bipush (-4), 2) := by decide +kernel
theorem dX11_makes_126 : decode cX11_makes 126 = .ok (.ireturn, 1) := by decide +kernel
theorem dX11_power_0 : decode cX11_power 0 = .ok (.lconst 1, 1) := by decide +kernel
theorem dX11_power_1 : decode cX11_power 1 = .ok (.lstore_n 2, 1) := by decide +kernel
theorem dX11_power_2 : decode cX11_power 2 = .ok (.iconst 0, 1) := by decide +kernel
theorem dX11_power_3 : decode cX11_power 3 = .ok (.istore 4, 2) := by decide +kernel
theorem dX11_power_5 : decode cX11_power 5 = .ok (.iload 4, 2) := by decide +kernel
theorem dX11_power_7 : decode cX11_power 7 = .ok (.iload_n 1, 1) := by decide +kernel
theorem dX11_power_8 : decode cX11_power 8 = .ok (.if_icmp .ge 17, 3) := by decide +kernel
theorem dX11_power_11 : decode cX11_power 11 = .ok (.lload_n 2, 1) := by decide +kernel
theorem dX11_power_12 : decode cX11_power 12 = .ok (.aload_n 0, 1) := by decide +kernel
theorem dX11_power_13 : decode cX11_power 13 = .ok (.getfield 7, 3) := by decide +kernel
theorem dX11_power_16 : decode cX11_power 16 = .ok (.i2l, 1) := by decide +kernel
theorem dX11_power_17 : decode cX11_power 17 = .ok (.lmul, 1) := by decide +kernel
theorem dX11_power_18 : decode cX11_power 18 = .ok (.lstore_n 2, 1) := by decide +kernel
theorem dX11_power_19 : decode cX11_power 19 = .ok (.iinc 4 1, 3) := by decide +kernel
theorem dX11_power_22 : decode cX11_power 22 = .ok (.goto (-17), 3) := by decide +kernel
theorem dX11_power_25 : decode cX11_power 25 = .ok (.lload_n 2, 1) := by decide +kernel
theorem dX11_power_26 : decode cX11_power 26 = .ok (.lreturn, 1) := by decide +kernel
theorem dX11_whole_0 : decode cX11_whole 0 = .ok (.lload_n 1, 1) := by decide +kernel
theorem dX11_whole_1 : decode cX11_whole 1 = .ok (.lstore 4, 2) := by decide +kernel
theorem dX11_whole_3 : decode cX11_whole 3 = .ok (.iload_n 3, 1) := by decide +kernel
theorem dX11_whole_4 : decode cX11_whole 4 = .ok (.iconst 2, 1) := by decide +kernel
theorem dX11_whole_5 : decode cX11_whole 5 = .ok (.irem, 1) := by decide +kernel
theorem dX11_whole_6 : decode cX11_whole 6 = .ok (.iconst 1, 1) := by decide +kernel
theorem dX11_whole_7 : decode cX11_whole 7 = .ok (.if_icmp .ne 13, 3) := by decide +kernel
theorem dX11_whole_10 : decode cX11_whole 10 = .ok (.lload_n 1, 1) := by decide +kernel
theorem dX11_whole_11 : decode cX11_whole 11 = .ok (.aload_n 0, 1) := by decide +kernel
theorem dX11_whole_12 : decode cX11_whole 12 = .ok (.getfield 7, 3) := by decide +kernel
theorem dX11_whole_15 : decode cX11_whole 15 = .ok (.i2l, 1) := by decide +kernel
theorem dX11_whole_16 : decode cX11_whole 16 = .ok (.ldiv, 1) := by decide +kernel
theorem dX11_whole_17 : decode cX11_whole 17 = .ok (.goto 4, 3) := by decide +kernel
theorem dX11_whole_20 : decode cX11_whole 20 = .ok (.lload_n 1, 1) := by decide +kernel
theorem dX11_whole_21 : decode cX11_whole 21 = .ok (.lstore 6, 2) := by decide +kernel
theorem dX11_whole_23 : decode cX11_whole 23 = .ok (.iconst 0, 1) := by decide +kernel
theorem dX11_whole_24 : decode cX11_whole 24 = .ok (.istore 8, 2) := by decide +kernel
theorem dX11_whole_26 : decode cX11_whole 26 = .ok (.iload 8, 2) := by decide +kernel
theorem dX11_whole_28 : decode cX11_whole 28 = .ok (.iload_n 3, 1) := by decide +kernel
theorem dX11_whole_29 : decode cX11_whole 29 = .ok (.iconst 2, 1) := by decide +kernel
theorem dX11_whole_30 : decode cX11_whole 30 = .ok (.idiv, 1) := by decide +kernel
theorem dX11_whole_31 : decode cX11_whole 31 = .ok (.if_icmp .ge 38, 3) := by decide +kernel
theorem dX11_whole_34 : decode cX11_whole 34 = .ok (.lload 4, 2) := by decide +kernel
theorem dX11_whole_36 : decode cX11_whole 36 = .ok (.aload_n 0, 1) := by decide +kernel
theorem dX11_whole_37 : decode cX11_whole 37 = .ok (.getfield 7, 3) := by decide +kernel
theorem dX11_whole_40 : decode cX11_whole 40 = .ok (.i2l, 1) := by decide +kernel
theorem dX11_whole_41 : decode cX11_whole 41 = .ok (.lmul, 1) := by decide +kernel
theorem dX11_whole_42 : decode cX11_whole 42 = .ok (.lload 6, 2) := by decide +kernel
theorem dX11_whole_44 : decode cX11_whole 44 = .ok (.aload_n 0, 1) := by decide +kernel
theorem dX11_whole_45 : decode cX11_whole 45 = .ok (.getfield 7, 3) := by decide +kernel
theorem dX11_whole_48 : decode cX11_whole 48 = .ok (.i2l, 1) := by decide +kernel
theorem dX11_whole_49 : decode cX11_whole 49 = .ok (.lrem, 1) := by decide +kernel
theorem dX11_whole_50 : decode cX11_whole 50 = .ok (.ladd, 1) := by decide +kernel
theorem dX11_whole_51 : decode cX11_whole 51 = .ok (.lstore 4, 2) := by decide +kernel
theorem dX11_whole_53 : decode cX11_whole 53 = .ok (.lload 6, 2) := by decide +kernel
theorem dX11_whole_55 : decode cX11_whole 55 = .ok (.aload_n 0, 1) := by decide +kernel
theorem dX11_whole_56 : decode cX11_whole 56 = .ok (.getfield 7, 3) := by decide +kernel
theorem dX11_whole_59 : decode cX11_whole 59 = .ok (.i2l, 1) := by decide +kernel
theorem dX11_whole_60 : decode cX11_whole 60 = .ok (.ldiv, 1) := by decide +kernel
theorem dX11_whole_61 : decode cX11_whole 61 = .ok (.lstore 6, 2) := by decide +kernel
theorem dX11_whole_63 : decode cX11_whole 63 = .ok (.iinc 8 1, 3) := by decide +kernel
theorem dX11_whole_66 : decode cX11_whole 66 = .ok (.goto (-40), 3) := by decide +kernel
theorem dX11_whole_69 : decode cX11_whole 69 = .ok (.lload 4, 2) := by decide +kernel
theorem dX11_whole_71 : decode cX11_whole 71 = .ok (.lreturn, 1) := by decide +kernel
set_option maxRecDepth 20000 in
theorem ggX11_alikesOf_X11_power : GoodIn wsX11_alikesOf wsX11_power := goodIn_r _ [6, 1, 7, 8, 9, 10, 11, 12, 13, 14, 15, 16, 17, 18, 19, 20, 21, 22, 23, 24, 25, 26, 27, 28, 29, 30] (by decide +kernel) (by decide +kernel)
set_option maxRecDepth 20000 in
theorem gX11_alikesOf_X11_power : GoodIn wsX11_alikesOf (wsV RX11 132 RX11 yX11_power wsX11_power) := goodIn_app (goodIn_of _ (by decide +kernel)) ggX11_alikesOf_X11_power
theorem dX11_alikesOf_0 : decode cX11_alikesOf 0 = .ok (.iload_n 1, 1) := by decide +kernel
theorem dX11_alikesOf_1 : decode cX11_alikesOf 1 = .ok (.iconst 1, 1) := by decide +kernel
theorem dX11_alikesOf_2 : decode cX11_alikesOf 2 = .ok (.if_icmp .ne 11, 3) := by decide +kernel
theorem dX11_alikesOf_5 : decode cX11_alikesOf 5 = .ok (.aload_n 0, 1) := by decide +kernel
theorem dX11_alikesOf_6 : decode cX11_alikesOf 6 = .ok (.getfield 7, 3) := by decide +kernel
theorem dX11_alikesOf_9 : decode cX11_alikesOf 9 = .ok (.i2l, 1) := by decide +kernel
theorem dX11_alikesOf_10 : decode cX11_alikesOf 10 = .ok (.goto 24, 3) := by decide +kernel
theorem dX11_alikesOf_13 : decode cX11_alikesOf 13 = .ok (.aload_n 0, 1) := by decide +kernel
theorem dX11_alikesOf_14 : decode cX11_alikesOf 14 = .ok (.iload_n 1, 1) := by decide +kernel
theorem dX11_alikesOf_15 : decode cX11_alikesOf 15 = .ok (.iconst 1, 1) := by decide +kernel
theorem dX11_alikesOf_16 : decode cX11_alikesOf 16 = .ok (.iadd, 1) := by decide +kernel
theorem dX11_alikesOf_17 : decode cX11_alikesOf 17 = .ok (.iconst 2, 1) := by decide +kernel
theorem dX11_alikesOf_18 : decode cX11_alikesOf 18 = .ok (.idiv, 1) := by decide +kernel
theorem dX11_alikesOf_19 : decode cX11_alikesOf 19 = .ok (.invokevirtual 132, 3) := by decide +kernel
theorem dX11_alikesOf_22 : decode cX11_alikesOf 22 = .ok (.aload_n 0, 1) := by decide +kernel
theorem dX11_alikesOf_23 : decode cX11_alikesOf 23 = .ok (.iload_n 1, 1) := by decide +kernel
theorem dX11_alikesOf_24 : decode cX11_alikesOf 24 = .ok (.iconst 1, 1) := by decide +kernel
theorem dX11_alikesOf_25 : decode cX11_alikesOf 25 = .ok (.iadd, 1) := by decide +kernel
theorem dX11_alikesOf_26 : decode cX11_alikesOf 26 = .ok (.iconst 2, 1) := by decide +kernel
theorem dX11_alikesOf_27 : decode cX11_alikesOf 27 = .ok (.idiv, 1) := by decide +kernel
theorem dX11_alikesOf_28 : decode cX11_alikesOf 28 = .ok (.iconst 1, 1) := by decide +kernel
theorem dX11_alikesOf_29 : decode cX11_alikesOf 29 = .ok (.isub, 1) := by decide +kernel
theorem dX11_alikesOf_30 : decode cX11_alikesOf 30 = .ok (.invokevirtual 132, 3) := by decide +kernel
theorem dX11_alikesOf_33 : decode cX11_alikesOf 33 = .ok (.lsub, 1) := by decide +kernel
theorem dX11_alikesOf_34 : decode cX11_alikesOf 34 = .ok (.lreturn, 1) := by decide +kernel
set_option maxRecDepth 20000 in
theorem ggX11_alikesTo_X11_lay : GoodIn wsX11_alikesTo wsX11_lay := goodIn_r _ [6, 1, 7, 8, 21, 22, 23, 24, 25, 26, 27, 28, 29, 30, 31, 32, 33, 34, 35, 36, 37, 38, 39, 40, 41, 42, 43, 44] (by decide +kernel) (by decide +kernel)
set_option maxRecDepth 20000 in
theorem gX11_alikesTo_X11_lay : GoodIn wsX11_alikesTo (wsV RX11 70 RX11 yX11_lay wsX11_lay) := goodIn_app (goodIn_of _ (by decide +kernel)) ggX11_alikesTo_X11_lay
set_option maxRecDepth 20000 in
theorem ggX11_alikesTo_X11_alikesOf : GoodIn wsX11_alikesTo wsX11_alikesOf := goodIn_r _ [12, 8, 13, 14, 15, 5, 16, 21, 22, 23, 24, 25, 26, 27, 28, 29, 30, 31, 32, 33, 34, 35, 36, 37, 38, 39, 40, 41, 42, 43, 44] (by decide +kernel) (by decide +kernel)
set_option maxRecDepth 20000 in
theorem gX11_alikesTo_X11_alikesOf : GoodIn wsX11_alikesTo (wsV RX11 136 RX11 yX11_alikesOf wsX11_alikesOf) := goodIn_app (goodIn_of _ (by decide +kernel)) ggX11_alikesTo_X11_alikesOf
set_option maxRecDepth 20000 in
theorem ggX11_alikesTo_X11_power : GoodIn wsX11_alikesTo wsX11_power := goodIn_r _ [16, 8, 21, 22, 23, 24, 25, 26, 27, 28, 29, 30, 31, 32, 33, 34, 35, 36, 37, 38, 39, 40, 41, 42, 43, 44] (by decide +kernel) (by decide +kernel)
set_option maxRecDepth 20000 in
theorem gX11_alikesTo_X11_power : GoodIn wsX11_alikesTo (wsV RX11 132 RX11 yX11_power wsX11_power) := goodIn_app (goodIn_of _ (by decide +kernel)) ggX11_alikesTo_X11_power
set_option maxRecDepth 20000 in
theorem ggX11_alikesTo_X11_whole : GoodIn wsX11_alikesTo wsX11_whole := goodIn_r _ [20, 8, 21, 22, 23, 24, 25, 26, 27, 28, 29, 30, 31, 32, 33, 34, 35, 36, 37, 38, 39, 40, 41, 42, 43, 44] (by decide +kernel) (by decide +kernel)
set_option maxRecDepth 20000 in
theorem gX11_alikesTo_X11_whole : GoodIn wsX11_alikesTo (wsV RX11 139 RX11 yX11_whole wsX11_whole) := goodIn_app (goodIn_of _ (by decide +kernel)) ggX11_alikesTo_X11_whole
theorem dX11_alikesTo_0 : decode cX11_alikesTo 0 = .ok (.lload_n 1, 1) := by decide +kernel
theorem dX11_alikesTo_1 : decode cX11_alikesTo 1 = .ok (.lconst 0, 1) := by decide +kernel
theorem dX11_alikesTo_2 : decode cX11_alikesTo 2 = .ok (.lcmp, 1) := by decide +kernel
theorem dX11_alikesTo_3 : decode cX11_alikesTo 3 = .ok (.ifCond .ge 5, 3) := by decide +kernel
theorem dX11_alikesTo_6 : decode cX11_alikesTo 6 = .ok (.lconst 0, 1) := by decide +kernel
theorem dX11_alikesTo_7 : decode cX11_alikesTo 7 = .ok (.lreturn, 1) := by decide +kernel
theorem dX11_alikesTo_8 : decode cX11_alikesTo 8 = .ok (.aload_n 0, 1) := by decide +kernel
theorem dX11_alikesTo_9 : decode cX11_alikesTo 9 = .ok (.lload_n 1, 1) := by decide +kernel
theorem dX11_alikesTo_10 : decode cX11_alikesTo 10 = .ok (.invokevirtual 70, 3) := by decide +kernel
theorem dX11_alikesTo_13 : decode cX11_alikesTo 13 = .ok (.aload_n 0, 1) := by decide +kernel
theorem dX11_alikesTo_14 : decode cX11_alikesTo 14 = .ok (.getfield 65, 3) := by decide +kernel
theorem dX11_alikesTo_17 : decode cX11_alikesTo 17 = .ok (.istore_n 3, 1) := by decide +kernel
theorem dX11_alikesTo_18 : decode cX11_alikesTo 18 = .ok (.iload_n 3, 1) := by decide +kernel
theorem dX11_alikesTo_19 : decode cX11_alikesTo 19 = .ok (.iconst 1, 1) := by decide +kernel
theorem dX11_alikesTo_20 : decode cX11_alikesTo 20 = .ok (.if_icmp .ne 7, 3) := by decide +kernel
theorem dX11_alikesTo_23 : decode cX11_alikesTo 23 = .ok (.lload_n 1, 1) := by decide +kernel
theorem dX11_alikesTo_24 : decode cX11_alikesTo 24 = .ok (.lconst 1, 1) := by decide +kernel
theorem dX11_alikesTo_25 : decode cX11_alikesTo 25 = .ok (.ladd, 1) := by decide +kernel
theorem dX11_alikesTo_26 : decode cX11_alikesTo 26 = .ok (.lreturn, 1) := by decide +kernel
theorem dX11_alikesTo_27 : decode cX11_alikesTo 27 = .ok (.lconst 0, 1) := by decide +kernel
theorem dX11_alikesTo_28 : decode cX11_alikesTo 28 = .ok (.lstore 4, 2) := by decide +kernel
theorem dX11_alikesTo_30 : decode cX11_alikesTo 30 = .ok (.iconst 1, 1) := by decide +kernel
theorem dX11_alikesTo_31 : decode cX11_alikesTo 31 = .ok (.istore 6, 2) := by decide +kernel
theorem dX11_alikesTo_33 : decode cX11_alikesTo 33 = .ok (.iload 6, 2) := by decide +kernel
theorem dX11_alikesTo_35 : decode cX11_alikesTo 35 = .ok (.iload_n 3, 1) := by decide +kernel
theorem dX11_alikesTo_36 : decode cX11_alikesTo 36 = .ok (.if_icmp .ge 20, 3) := by decide +kernel
theorem dX11_alikesTo_39 : decode cX11_alikesTo 39 = .ok (.lload 4, 2) := by decide +kernel
theorem dX11_alikesTo_41 : decode cX11_alikesTo 41 = .ok (.aload_n 0, 1) := by decide +kernel
theorem dX11_alikesTo_42 : decode cX11_alikesTo 42 = .ok (.iload 6, 2) := by decide +kernel
theorem dX11_alikesTo_44 : decode cX11_alikesTo 44 = .ok (.invokevirtual 136, 3) := by decide +kernel
theorem dX11_alikesTo_47 : decode cX11_alikesTo 47 = .ok (.ladd, 1) := by decide +kernel
theorem dX11_alikesTo_48 : decode cX11_alikesTo 48 = .ok (.lstore 4, 2) := by decide +kernel
theorem dX11_alikesTo_50 : decode cX11_alikesTo 50 = .ok (.iinc 6 1, 3) := by decide +kernel
theorem dX11_alikesTo_53 : decode cX11_alikesTo 53 = .ok (.goto (-20), 3) := by decide +kernel
theorem dX11_alikesTo_56 : decode cX11_alikesTo 56 = .ok (.lload_n 1, 1) := by decide +kernel
theorem dX11_alikesTo_57 : decode cX11_alikesTo 57 = .ok (.aload_n 0, 1) := by decide +kernel
theorem dX11_alikesTo_58 : decode cX11_alikesTo 58 = .ok (.iload_n 3, 1) := by decide +kernel
theorem dX11_alikesTo_59 : decode cX11_alikesTo 59 = .ok (.iconst 2, 1) := by decide +kernel
theorem dX11_alikesTo_60 : decode cX11_alikesTo 60 = .ok (.idiv, 1) := by decide +kernel
theorem dX11_alikesTo_61 : decode cX11_alikesTo 61 = .ok (.invokevirtual 132, 3) := by decide +kernel
theorem dX11_alikesTo_64 : decode cX11_alikesTo 64 = .ok (.ldiv, 1) := by decide +kernel
theorem dX11_alikesTo_65 : decode cX11_alikesTo 65 = .ok (.lstore 6, 2) := by decide +kernel
theorem dX11_alikesTo_67 : decode cX11_alikesTo 67 = .ok (.lload 4, 2) := by decide +kernel
theorem dX11_alikesTo_69 : decode cX11_alikesTo 69 = .ok (.lload 6, 2) := by decide +kernel
theorem dX11_alikesTo_71 : decode cX11_alikesTo 71 = .ok (.ladd, 1) := by decide +kernel
theorem dX11_alikesTo_72 : decode cX11_alikesTo 72 = .ok (.aload_n 0, 1) := by decide +kernel
theorem dX11_alikesTo_73 : decode cX11_alikesTo 73 = .ok (.iload_n 3, 1) := by decide +kernel
theorem dX11_alikesTo_74 : decode cX11_alikesTo 74 = .ok (.iconst 1, 1) := by decide +kernel
theorem dX11_alikesTo_75 : decode cX11_alikesTo 75 = .ok (.iadd, 1) := by decide +kernel
theorem dX11_alikesTo_76 : decode cX11_alikesTo 76 = .ok (.iconst 2, 1) := by decide +kernel
theorem dX11_alikesTo_77 : decode cX11_alikesTo 77 = .ok (.idiv, 1) := by decide +kernel
theorem dX11_alikesTo_78 : decode cX11_alikesTo 78 = .ok (.iconst 1, 1) := by decide +kernel
theorem dX11_alikesTo_79 : decode cX11_alikesTo 79 = .ok (.isub, 1) := by decide +kernel
theorem dX11_alikesTo_80 : decode cX11_alikesTo 80 = .ok (.invokevirtual 132, 3) := by decide +kernel
theorem dX11_alikesTo_83 : decode cX11_alikesTo 83 = .ok (.lsub, 1) := by decide +kernel
theorem dX11_alikesTo_84 : decode cX11_alikesTo 84 = .ok (.aload_n 0, 1) := by decide +kernel
theorem dX11_alikesTo_85 : decode cX11_alikesTo 85 = .ok (.lload 6, 2) := by decide +kernel
theorem dX11_alikesTo_87 : decode cX11_alikesTo 87 = .ok (.iload_n 3, 1) := by decide +kernel
theorem dX11_alikesTo_88 : decode cX11_alikesTo 88 = .ok (.invokevirtual 139, 3) := by decide +kernel
theorem dX11_alikesTo_91 : decode cX11_alikesTo 91 = .ok (.lload_n 1, 1) := by decide +kernel
theorem dX11_alikesTo_92 : decode cX11_alikesTo 92 = .ok (.lcmp, 1) := by decide +kernel
theorem dX11_alikesTo_93 : decode cX11_alikesTo 93 = .ok (.ifCond .gt 7, 3) := by decide +kernel
theorem dX11_alikesTo_96 : decode cX11_alikesTo 96 = .ok (.lconst 1, 1) := by decide +kernel
theorem dX11_alikesTo_97 : decode cX11_alikesTo 97 = .ok (.goto 4, 3) := by decide +kernel
theorem dX11_alikesTo_100 : decode cX11_alikesTo 100 = .ok (.lconst 0, 1) := by decide +kernel
theorem dX11_alikesTo_101 : decode cX11_alikesTo 101 = .ok (.ladd, 1) := by decide +kernel
theorem dX11_alikesTo_102 : decode cX11_alikesTo 102 = .ok (.lreturn, 1) := by decide +kernel
set_option maxRecDepth 20000 in
theorem ggX11_alikeOf_X11_lay : GoodIn wsX11_alikeOf wsX11_lay := goodIn_r _ [8, 2, 9, 10, 23, 24, 25, 26, 27, 28, 29, 30, 31, 32, 33, 34, 35, 36, 37, 38, 39, 40, 41, 42, 43, 44, 45, 46] (by decide +kernel) (by decide +kernel)
set_option maxRecDepth 20000 in
theorem gX11_alikeOf_X11_lay : GoodIn wsX11_alikeOf (wsV RX11 70 RX11 yX11_lay wsX11_lay) := goodIn_app (goodIn_of _ (by decide +kernel)) ggX11_alikeOf_X11_lay
set_option maxRecDepth 20000 in
theorem ggX11_alikeOf_X11_alikesOf : GoodIn wsX11_alikeOf wsX11_alikesOf := goodIn_r _ [14, 10, 15, 16, 17, 7, 18, 23, 24, 25, 26, 27, 28, 29, 30, 31, 32, 33, 34, 35, 36, 37, 38, 39, 40, 41, 42, 43, 44, 45, 46] (by decide +kernel) (by decide +kernel)
set_option maxRecDepth 20000 in
theorem gX11_alikeOf_X11_alikesOf : GoodIn wsX11_alikeOf (wsV RX11 136 RX11 yX11_alikesOf wsX11_alikesOf) := goodIn_app (goodIn_of _ (by decide +kernel)) ggX11_alikeOf_X11_alikesOf
set_option maxRecDepth 20000 in
theorem ggX11_alikeOf_X11_power : GoodIn wsX11_alikeOf wsX11_power := goodIn_r _ [18, 10, 23, 24, 25, 26, 27, 28, 29, 30, 31, 32, 33, 34, 35, 36, 37, 38, 39, 40, 41, 42, 43, 44, 45, 46] (by decide +kernel) (by decide +kernel)
set_option maxRecDepth 20000 in
theorem gX11_alikeOf_X11_power : GoodIn wsX11_alikeOf (wsV RX11 132 RX11 yX11_power wsX11_power) := goodIn_app (goodIn_of _ (by decide +kernel)) ggX11_alikeOf_X11_power
set_option maxRecDepth 20000 in
theorem ggX11_alikeOf_X11_whole : GoodIn wsX11_alikeOf wsX11_whole := goodIn_r _ [22, 10, 23, 24, 25, 26, 27, 28, 29, 30, 31, 32, 33, 34, 35, 36, 37, 38, 39, 40, 41, 42, 43, 44, 45, 46] (by decide +kernel) (by decide +kernel)
set_option maxRecDepth 20000 in
theorem gX11_alikeOf_X11_whole : GoodIn wsX11_alikeOf (wsV RX11 139 RX11 yX11_whole wsX11_whole) := goodIn_app (goodIn_of _ (by decide +kernel)) ggX11_alikeOf_X11_whole
theorem dX11_alikeOf_0 : decode cX11_alikeOf 0 = .ok (.lload_n 1, 1) := by decide +kernel
theorem dX11_alikeOf_1 : decode cX11_alikeOf 1 = .ok (.lstore_n 3, 1) := by decide +kernel
theorem dX11_alikeOf_2 : decode cX11_alikeOf 2 = .ok (.iconst 1, 1) := by decide +kernel
theorem dX11_alikeOf_3 : decode cX11_alikeOf 3 = .ok (.istore 5, 2) := by decide +kernel
theorem dX11_alikeOf_5 : decode cX11_alikeOf 5 = .ok (.aload_n 0, 1) := by decide +kernel
theorem dX11_alikeOf_6 : decode cX11_alikeOf 6 = .ok (.ldc2_w 68, 3) := by decide +kernel
theorem dX11_alikeOf_9 : decode cX11_alikeOf 9 = .ok (.invokevirtual 70, 3) := by decide +kernel
theorem dX11_alikeOf_12 : decode cX11_alikeOf 12 = .ok (.aload_n 0, 1) := by decide +kernel
theorem dX11_alikeOf_13 : decode cX11_alikeOf 13 = .ok (.getfield 65, 3) := by decide +kernel
theorem dX11_alikeOf_16 : decode cX11_alikeOf 16 = .ok (.istore 6, 2) := by decide +kernel
theorem dX11_alikeOf_18 : decode cX11_alikeOf 18 = .ok (.iload 5, 2) := by decide +kernel
theorem dX11_alikeOf_20 : decode cX11_alikeOf 20 = .ok (.iload 6, 2) := by decide +kernel
theorem dX11_alikeOf_22 : decode cX11_alikeOf 22 = .ok (.if_icmp .gt 29, 3) := by decide +kernel
theorem dX11_alikeOf_25 : decode cX11_alikeOf 25 = .ok (.lload_n 3, 1) := by decide +kernel
theorem dX11_alikeOf_26 : decode cX11_alikeOf 26 = .ok (.aload_n 0, 1) := by decide +kernel
theorem dX11_alikeOf_27 : decode cX11_alikeOf 27 = .ok (.iload 5, 2) := by decide +kernel
theorem dX11_alikeOf_29 : decode cX11_alikeOf 29 = .ok (.invokevirtual 136, 3) := by decide +kernel
theorem dX11_alikeOf_32 : decode cX11_alikeOf 32 = .ok (.lcmp, 1) := by decide +kernel
theorem dX11_alikeOf_33 : decode cX11_alikeOf 33 = .ok (.ifCond .lt 18, 3) := by decide +kernel
theorem dX11_alikeOf_36 : decode cX11_alikeOf 36 = .ok (.lload_n 3, 1) := by decide +kernel
theorem dX11_alikeOf_37 : decode cX11_alikeOf 37 = .ok (.aload_n 0, 1) := by decide +kernel
theorem dX11_alikeOf_38 : decode cX11_alikeOf 38 = .ok (.iload 5, 2) := by decide +kernel
theorem dX11_alikeOf_40 : decode cX11_alikeOf 40 = .ok (.invokevirtual 136, 3) := by decide +kernel
theorem dX11_alikeOf_43 : decode cX11_alikeOf 43 = .ok (.lsub, 1) := by decide +kernel
theorem dX11_alikeOf_44 : decode cX11_alikeOf 44 = .ok (.lstore_n 3, 1) := by decide +kernel
theorem dX11_alikeOf_45 : decode cX11_alikeOf 45 = .ok (.iinc 5 1, 3) := by decide +kernel
theorem dX11_alikeOf_48 : decode cX11_alikeOf 48 = .ok (.goto (-30), 3) := by decide +kernel
theorem dX11_alikeOf_51 : decode cX11_alikeOf 51 = .ok (.iload 5, 2) := by decide +kernel
theorem dX11_alikeOf_53 : decode cX11_alikeOf 53 = .ok (.iload 6, 2) := by decide +kernel
theorem dX11_alikeOf_55 : decode cX11_alikeOf 55 = .ok (.if_icmp .le 7, 3) := by decide +kernel
theorem dX11_alikeOf_58 : decode cX11_alikeOf 58 = .ok (.ldc2_w 111, 3) := by decide +kernel
theorem dX11_alikeOf_61 : decode cX11_alikeOf 61 = .ok (.lreturn, 1) := by decide +kernel
theorem dX11_alikeOf_62 : decode cX11_alikeOf 62 = .ok (.iload 5, 2) := by decide +kernel
theorem dX11_alikeOf_64 : decode cX11_alikeOf 64 = .ok (.iconst 1, 1) := by decide +kernel
theorem dX11_alikeOf_65 : decode cX11_alikeOf 65 = .ok (.if_icmp .ne 7, 3) := by decide +kernel
theorem dX11_alikeOf_68 : decode cX11_alikeOf 68 = .ok (.lload_n 3, 1) := by decide +kernel
theorem dX11_alikeOf_69 : decode cX11_alikeOf 69 = .ok (.goto 23, 3) := by decide +kernel
theorem dX11_alikeOf_72 : decode cX11_alikeOf 72 = .ok (.aload_n 0, 1) := by decide +kernel
theorem dX11_alikeOf_73 : decode cX11_alikeOf 73 = .ok (.lload_n 3, 1) := by decide +kernel
theorem dX11_alikeOf_74 : decode cX11_alikeOf 74 = .ok (.aload_n 0, 1) := by decide +kernel
theorem dX11_alikeOf_75 : decode cX11_alikeOf 75 = .ok (.iload 5, 2) := by decide +kernel
theorem dX11_alikeOf_77 : decode cX11_alikeOf 77 = .ok (.iconst 1, 1) := by decide +kernel
theorem dX11_alikeOf_78 : decode cX11_alikeOf 78 = .ok (.iadd, 1) := by decide +kernel
theorem dX11_alikeOf_79 : decode cX11_alikeOf 79 = .ok (.iconst 2, 1) := by decide +kernel
theorem dX11_alikeOf_80 : decode cX11_alikeOf 80 = .ok (.idiv, 1) := by decide +kernel
theorem dX11_alikeOf_81 : decode cX11_alikeOf 81 = .ok (.iconst 1, 1) := by decide +kernel
theorem dX11_alikeOf_82 : decode cX11_alikeOf 82 = .ok (.isub, 1) := by decide +kernel
theorem dX11_alikeOf_83 : decode cX11_alikeOf 83 = .ok (.invokevirtual 132, 3) := by decide +kernel
theorem dX11_alikeOf_86 : decode cX11_alikeOf 86 = .ok (.ladd, 1) := by decide +kernel
theorem dX11_alikeOf_87 : decode cX11_alikeOf 87 = .ok (.iload 5, 2) := by decide +kernel
theorem dX11_alikeOf_89 : decode cX11_alikeOf 89 = .ok (.invokevirtual 139, 3) := by decide +kernel
theorem dX11_alikeOf_92 : decode cX11_alikeOf 92 = .ok (.lstore 7, 2) := by decide +kernel
theorem dX11_alikeOf_94 : decode cX11_alikeOf 94 = .ok (.lload 7, 2) := by decide +kernel
theorem dX11_alikeOf_96 : decode cX11_alikeOf 96 = .ok (.ldc2_w 68, 3) := by decide +kernel
theorem dX11_alikeOf_99 : decode cX11_alikeOf 99 = .ok (.lcmp, 1) := by decide +kernel
theorem dX11_alikeOf_100 : decode cX11_alikeOf 100 = .ok (.ifCond .le 9, 3) := by decide +kernel
theorem dX11_alikeOf_103 : decode cX11_alikeOf 103 = .ok (.ldc2_w 111, 3) := by decide +kernel
theorem dX11_alikeOf_106 : decode cX11_alikeOf 106 = .ok (.goto 5, 3) := by decide +kernel
theorem dX11_alikeOf_109 : decode cX11_alikeOf 109 = .ok (.lload 7, 2) := by decide +kernel
theorem dX11_alikeOf_111 : decode cX11_alikeOf 111 = .ok (.lreturn, 1) := by decide +kernel
set_option maxRecDepth 20000 in
theorem ggX11_alike_X11_in : GoodIn wsX11_alike wsX11_in := goodIn_r _ [5] (by decide +kernel) (by decide +kernel)
set_option maxRecDepth 20000 in
theorem gX11_alike_X11_in : GoodIn wsX11_alike (va_wsS RX11 57 yX11_in wsX11_in) := goodIn_app (goodIn_of _ (by decide +kernel)) ggX11_alike_X11_in
set_option maxRecDepth 20000 in
theorem ggX11_alike_X11_turned : GoodIn wsX11_alike wsX11_turned := goodIn_r _ [9, 10, 11, 12, 13, 14, 15, 4, 16, 17, 18, 19, 20, 21, 22, 23, 24, 25, 26, 27, 28, 29, 30, 31, 32, 33, 34, 35, 36, 37, 38, 39, 40] (by decide +kernel) (by decide +kernel)
set_option maxRecDepth 20000 in
theorem gX11_alike_X11_turned : GoodIn wsX11_alike (wsV RX11 83 RX11 yX11_turned wsX11_turned) := goodIn_app (goodIn_of _ (by decide +kernel)) ggX11_alike_X11_turned
theorem dX11_alike_0 : decode cX11_alike 0 = .ok (.lload_n 1, 1) := by decide +kernel
theorem dX11_alike_1 : decode cX11_alike 1 = .ok (.lconst 0, 1) := by decide +kernel
theorem dX11_alike_2 : decode cX11_alike 2 = .ok (.ldc2_w 68, 3) := by decide +kernel
theorem dX11_alike_5 : decode cX11_alike 5 = .ok (.invokestatic 57, 3) := by decide +kernel
theorem dX11_alike_8 : decode cX11_alike 8 = .ok (.ifCond .ne 7, 3) := by decide +kernel
theorem dX11_alike_11 : decode cX11_alike 11 = .ok (.iconst (-1), 1) := by decide +kernel
theorem dX11_alike_12 : decode cX11_alike 12 = .ok (.goto 18, 3) := by decide +kernel
theorem dX11_alike_15 : decode cX11_alike 15 = .ok (.aload_n 0, 1) := by decide +kernel
theorem dX11_alike_16 : decode cX11_alike 16 = .ok (.lload_n 1, 1) := by decide +kernel
theorem dX11_alike_17 : decode cX11_alike 17 = .ok (.invokevirtual 83, 3) := by decide +kernel
theorem dX11_alike_20 : decode cX11_alike 20 = .ok (.lload_n 1, 1) := by decide +kernel
theorem dX11_alike_21 : decode cX11_alike 21 = .ok (.lcmp, 1) := by decide +kernel
theorem dX11_alike_22 : decode cX11_alike 22 = .ok (.ifCond .ne 7, 3) := by decide +kernel
theorem dX11_alike_25 : decode cX11_alike 25 = .ok (.iconst 1, 1) := by decide +kernel
theorem dX11_alike_26 : decode cX11_alike 26 = .ok (.goto 4, 3) := by decide +kernel
theorem dX11_alike_29 : decode cX11_alike 29 = .ok (.iconst 0, 1) := by decide +kernel
theorem dX11_alike_30 : decode cX11_alike 30 = .ok (.ireturn, 1) := by decide +kernel
set_option maxRecDepth 20000 in
theorem ggX11_alikes_X11_in : GoodIn wsX11_alikes wsX11_in := goodIn_r _ [6] (by decide +kernel) (by decide +kernel)
set_option maxRecDepth 20000 in
theorem gX11_alikes_X11_in : GoodIn wsX11_alikes (va_wsS RX11 57 yX11_in wsX11_in) := goodIn_app (goodIn_of _ (by decide +kernel)) ggX11_alikes_X11_in
set_option maxRecDepth 20000 in
theorem ggX11_alikes_X11_alikesTo : GoodIn wsX11_alikes wsX11_alikesTo := goodIn_r _ [10, 11, 12, 13, 14, 5, 15, 16, 17, 18, 19, 20, 21, 22, 23, 24, 25, 26, 27, 28, 29, 30, 31, 32, 33, 34, 35, 36, 37, 38, 39, 40, 41, 42, 43, 44, 45, 46, 47, 48, 49, 50, 51, 52, 53] (by decide +kernel) (by decide +kernel)
set_option maxRecDepth 20000 in
theorem gX11_alikes_X11_alikesTo : GoodIn wsX11_alikes (wsV RX11 143 RX11 yX11_alikesTo wsX11_alikesTo) := goodIn_app (goodIn_of _ (by decide +kernel)) ggX11_alikes_X11_alikesTo
theorem dX11_alikes_0 : decode cX11_alikes 0 = .ok (.lload_n 1, 1) := by decide +kernel
theorem dX11_alikes_1 : decode cX11_alikes 1 = .ok (.lconst 0, 1) := by decide +kernel
theorem dX11_alikes_2 : decode cX11_alikes 2 = .ok (.ldc2_w 68, 3) := by decide +kernel
theorem dX11_alikes_5 : decode cX11_alikes 5 = .ok (.invokestatic 57, 3) := by decide +kernel
theorem dX11_alikes_8 : decode cX11_alikes 8 = .ok (.ifCond .eq 11, 3) := by decide +kernel
theorem dX11_alikes_11 : decode cX11_alikes 11 = .ok (.aload_n 0, 1) := by decide +kernel
theorem dX11_alikes_12 : decode cX11_alikes 12 = .ok (.lload_n 1, 1) := by decide +kernel
theorem dX11_alikes_13 : decode cX11_alikes 13 = .ok (.invokevirtual 143, 3) := by decide +kernel
theorem dX11_alikes_16 : decode cX11_alikes 16 = .ok (.goto 6, 3) := by decide +kernel
theorem dX11_alikes_19 : decode cX11_alikes 19 = .ok (.ldc2_w 95, 3) := by decide +kernel
theorem dX11_alikes_22 : decode cX11_alikes 22 = .ok (.lreturn, 1) := by decide +kernel
set_option maxRecDepth 20000 in
theorem ggX11_alikeAt_X11_alikeOf : GoodIn wsX11_alikeAt wsX11_alikeOf := goodIn_r _ [6, 7, 8, 9, 10, 11, 12, 5, 13, 14, 15, 16, 17, 18, 19, 20, 21, 22, 23, 24, 25, 26, 27, 28, 29, 30, 31, 32, 33, 34, 35, 36, 37, 38, 39, 40, 41, 42, 43, 44, 45, 46, 47, 48, 49, 50, 51] (by decide +kernel) (by decide +kernel)
set_option maxRecDepth 20000 in
theorem gX11_alikeAt_X11_alikeOf : GoodIn wsX11_alikeAt (wsV RX11 146 RX11 yX11_alikeOf wsX11_alikeOf) := goodIn_app (goodIn_of _ (by decide +kernel)) ggX11_alikeAt_X11_alikeOf
theorem dX11_alikeAt_0 : decode cX11_alikeAt 0 = .ok (.lload_n 1, 1) := by decide +kernel
theorem dX11_alikeAt_1 : decode cX11_alikeAt 1 = .ok (.lconst 0, 1) := by decide +kernel
theorem dX11_alikeAt_2 : decode cX11_alikeAt 2 = .ok (.lcmp, 1) := by decide +kernel
theorem dX11_alikeAt_3 : decode cX11_alikeAt 3 = .ok (.ifCond .ge 9, 3) := by decide +kernel
theorem dX11_alikeAt_6 : decode cX11_alikeAt 6 = .ok (.ldc2_w 95, 3) := by decide +kernel
theorem dX11_alikeAt_9 : decode cX11_alikeAt 9 = .ok (.goto 8, 3) := by decide +kernel
theorem dX11_alikeAt_12 : decode cX11_alikeAt 12 = .ok (.aload_n 0, 1) := by decide +kernel
theorem dX11_alikeAt_13 : decode cX11_alikeAt 13 = .ok (.lload_n 1, 1) := by decide +kernel
theorem dX11_alikeAt_14 : decode cX11_alikeAt 14 = .ok (.invokevirtual 146, 3) := by decide +kernel
theorem dX11_alikeAt_17 : decode cX11_alikeAt 17 = .ok (.lreturn, 1) := by decide +kernel
set_option maxRecDepth 20000 in
theorem ggX11_next_X11_in : GoodIn wsX11_next wsX11_in := goodIn_r _ [6] (by decide +kernel) (by decide +kernel)
set_option maxRecDepth 20000 in
theorem gX11_next_X11_in : GoodIn wsX11_next (va_wsS RX11 57 yX11_in wsX11_in) := goodIn_app (goodIn_of _ (by decide +kernel)) ggX11_next_X11_in
set_option maxRecDepth 20000 in
theorem ggX11_next_X11_alikesTo : GoodIn wsX11_next wsX11_alikesTo := goodIn_r _ [10, 11, 12, 13, 14, 5, 15, 16, 17, 18, 19, 20, 21, 22, 23, 24, 25, 26, 27, 28, 29, 35, 36, 37, 38, 39, 40, 41, 42, 43, 44, 45, 46, 47, 48, 49, 50, 51, 52, 53, 54, 55, 56, 57, 58] (by decide +kernel) (by decide +kernel)
set_option maxRecDepth 20000 in
theorem gX11_next_X11_alikesTo : GoodIn wsX11_next (wsV RX11 143 RX11 yX11_alikesTo wsX11_alikesTo) := goodIn_app (goodIn_of _ (by decide +kernel)) ggX11_next_X11_alikesTo
set_option maxRecDepth 20000 in
theorem ggX11_next_X11_alikeOf : GoodIn wsX11_next wsX11_alikeOf := goodIn_r _ [33, 1, 11, 34, 12, 13, 14, 5, 15, 16, 17, 18, 19, 20, 21, 22, 23, 24, 25, 26, 27, 28, 29, 35, 36, 37, 38, 39, 40, 41, 42, 43, 44, 45, 46, 47, 48, 49, 50, 51, 52, 53, 54, 55, 56, 57, 58] (by decide +kernel) (by decide +kernel)
set_option maxRecDepth 20000 in
theorem gX11_next_X11_alikeOf : GoodIn wsX11_next (wsV RX11 146 RX11 yX11_alikeOf wsX11_alikeOf) := goodIn_app (goodIn_of _ (by decide +kernel)) ggX11_next_X11_alikeOf
theorem dX11_next_0 : decode cX11_next 0 = .ok (.lload_n 1, 1) := by decide +kernel
theorem dX11_next_1 : decode cX11_next 1 = .ok (.lconst 0, 1) := by decide +kernel
theorem dX11_next_2 : decode cX11_next 2 = .ok (.ldc2_w 68, 3) := by decide +kernel
theorem dX11_next_5 : decode cX11_next 5 = .ok (.invokestatic 57, 3) := by decide +kernel
theorem dX11_next_8 : decode cX11_next 8 = .ok (.ifCond .eq 17, 3) := by decide +kernel
theorem dX11_next_11 : decode cX11_next 11 = .ok (.aload_n 0, 1) := by decide +kernel
theorem dX11_next_12 : decode cX11_next 12 = .ok (.aload_n 0, 1) := by decide +kernel
theorem dX11_next_13 : decode cX11_next 13 = .ok (.lload_n 1, 1) := by decide +kernel
theorem dX11_next_14 : decode cX11_next 14 = .ok (.lconst 1, 1) := by decide +kernel
theorem dX11_next_15 : decode cX11_next 15 = .ok (.lsub, 1) := by decide +kernel
theorem dX11_next_16 : decode cX11_next 16 = .ok (.invokevirtual 143, 3) := by decide +kernel
theorem dX11_next_19 : decode cX11_next 19 = .ok (.invokevirtual 146, 3) := by decide +kernel
theorem dX11_next_22 : decode cX11_next 22 = .ok (.goto 6, 3) := by decide +kernel
theorem dX11_next_25 : decode cX11_next 25 = .ok (.ldc2_w 95, 3) := by decide +kernel
theorem dX11_next_28 : decode cX11_next 28 = .ok (.lreturn, 1) := by decide +kernel
set_option maxRecDepth 20000 in
theorem ggX11_made_X11_in : GoodIn wsX11_made wsX11_in := goodIn_r _ [8] (by decide +kernel) (by decide +kernel)
set_option maxRecDepth 20000 in
theorem gX11_made_X11_in : GoodIn wsX11_made (va_wsS RX11 57 yX11_in wsX11_in) := goodIn_app (goodIn_of _ (by decide +kernel)) ggX11_made_X11_in
set_option maxRecDepth 20000 in
theorem ggX11_made_X11_turned : GoodIn wsX11_made wsX11_turned := goodIn_r _ [12, 13, 14, 15, 16, 17, 18, 7, 19, 20, 21, 22, 23, 24, 25, 26, 27, 28, 29, 30, 31, 32, 33, 34, 35, 36, 37, 38, 39, 40, 41, 42, 43] (by decide +kernel) (by decide +kernel)
set_option maxRecDepth 20000 in
theorem gX11_made_X11_turned : GoodIn wsX11_made (wsV RX11 83 RX11 yX11_turned wsX11_turned) := goodIn_app (goodIn_of _ (by decide +kernel)) ggX11_made_X11_turned
theorem dX11_made_0 : decode cX11_made 0 = .ok (.iload_n 1, 1) := by decide +kernel
theorem dX11_made_1 : decode cX11_made 1 = .ok (.i2l, 1) := by decide +kernel
theorem dX11_made_2 : decode cX11_made 2 = .ok (.lconst 1, 1) := by decide +kernel
theorem dX11_made_3 : decode cX11_made 3 = .ok (.ldc2_w 149, 3) := by decide +kernel
theorem dX11_made_6 : decode cX11_made 6 = .ok (.invokestatic 57, 3) := by decide +kernel
theorem dX11_made_9 : decode cX11_made 9 = .ok (.ifCond .ne 5, 3) := by decide +kernel
theorem dX11_made_12 : decode cX11_made 12 = .ok (.iconst (-1), 1) := by decide +kernel
theorem dX11_made_13 : decode cX11_made 13 = .ok (.ireturn, 1) := by decide +kernel
theorem dX11_made_14 : decode cX11_made 14 = .ok (.aload_n 0, 1) := by decide +kernel
theorem dX11_made_15 : decode cX11_made 15 = .ok (.iload_n 1, 1) := by decide +kernel
theorem dX11_made_16 : decode cX11_made 16 = .ok (.i2l, 1) := by decide +kernel
theorem dX11_made_17 : decode cX11_made 17 = .ok (.invokevirtual 83, 3) := by decide +kernel
theorem dX11_made_20 : decode cX11_made 20 = .ok (.iload_n 1, 1) := by decide +kernel
theorem dX11_made_21 : decode cX11_made 21 = .ok (.i2l, 1) := by decide +kernel
theorem dX11_made_22 : decode cX11_made 22 = .ok (.lcmp, 1) := by decide +kernel
theorem dX11_made_23 : decode cX11_made 23 = .ok (.ifCond .ne 5, 3) := by decide +kernel
theorem dX11_made_26 : decode cX11_made 26 = .ok (.iconst 1, 1) := by decide +kernel
theorem dX11_made_27 : decode cX11_made 27 = .ok (.ireturn, 1) := by decide +kernel
theorem dX11_made_28 : decode cX11_made 28 = .ok (.aload_n 0, 1) := by decide +kernel
theorem dX11_made_29 : decode cX11_made 29 = .ok (.iconst 0, 1) := by decide +kernel
theorem dX11_made_30 : decode cX11_made 30 = .ok (.putfield 151, 3) := by decide +kernel
theorem dX11_made_33 : decode cX11_made 33 = .ok (.iconst 1, 1) := by decide +kernel
theorem dX11_made_34 : decode cX11_made 34 = .ok (.istore_n 2, 1) := by decide +kernel
theorem dX11_made_35 : decode cX11_made 35 = .ok (.iload_n 2, 1) := by decide +kernel
theorem dX11_made_36 : decode cX11_made 36 = .ok (.iload_n 1, 1) := by decide +kernel
theorem dX11_made_37 : decode cX11_made 37 = .ok (.if_icmp .gt 48, 3) := by decide +kernel
theorem dX11_made_40 : decode cX11_made 40 = .ok (.aload_n 0, 1) := by decide +kernel
theorem dX11_made_41 : decode cX11_made 41 = .ok (.getfield 27, 3) := by decide +kernel
theorem dX11_made_44 : decode cX11_made 44 = .ok (.iload_n 2, 1) := by decide +kernel
theorem dX11_made_45 : decode cX11_made 45 = .ok (.iconst 0, 1) := by decide +kernel
theorem dX11_made_46 : decode cX11_made 46 = .ok (.bastore, 1) := by decide +kernel
theorem dX11_made_47 : decode cX11_made 47 = .ok (.aload_n 0, 1) := by decide +kernel
theorem dX11_made_48 : decode cX11_made 48 = .ok (.iload_n 2, 1) := by decide +kernel
theorem dX11_made_49 : decode cX11_made 49 = .ok (.i2l, 1) := by decide +kernel
theorem dX11_made_50 : decode cX11_made 50 = .ok (.invokevirtual 83, 3) := by decide +kernel
theorem dX11_made_53 : decode cX11_made 53 = .ok (.iload_n 2, 1) := by decide +kernel
theorem dX11_made_54 : decode cX11_made 54 = .ok (.i2l, 1) := by decide +kernel
theorem dX11_made_55 : decode cX11_made 55 = .ok (.lcmp, 1) := by decide +kernel
theorem dX11_made_56 : decode cX11_made 56 = .ok (.ifCond .ne 23, 3) := by decide +kernel
theorem dX11_made_59 : decode cX11_made 59 = .ok (.aload_n 0, 1) := by decide +kernel
theorem dX11_made_60 : decode cX11_made 60 = .ok (.getfield 24, 3) := by decide +kernel
theorem dX11_made_63 : decode cX11_made 63 = .ok (.aload_n 0, 1) := by decide +kernel
theorem dX11_made_64 : decode cX11_made 64 = .ok (.getfield 151, 3) := by decide +kernel
theorem dX11_made_67 : decode cX11_made 67 = .ok (.iload_n 2, 1) := by decide +kernel
theorem dX11_made_68 : decode cX11_made 68 = .ok (.iastore, 1) := by decide +kernel
theorem dX11_made_69 : decode cX11_made 69 = .ok (.aload_n 0, 1) := by decide +kernel
theorem dX11_made_70 : decode cX11_made 70 = .ok (.dup, 1) := by decide +kernel
theorem dX11_made_71 : decode cX11_made 71 = .ok (.getfield 151, 3) := by decide +kernel
theorem dX11_made_74 : decode cX11_made 74 = .ok (.iconst 1, 1) := by decide +kernel
theorem dX11_made_75 : decode cX11_made 75 = .ok (.iadd, 1) := by decide +kernel
theorem dX11_made_76 : decode cX11_made 76 = .ok (.putfield 151, 3) := by decide +kernel
theorem dX11_made_79 : decode cX11_made 79 = .ok (.iinc 2 1, 3) := by decide +kernel
theorem dX11_made_82 : decode cX11_made 82 = .ok (.goto (-47), 3) := by decide +kernel
theorem dX11_made_85 : decode cX11_made 85 = .ok (.iconst 0, 1) := by decide +kernel
theorem dX11_made_86 : decode cX11_made 86 = .ok (.istore_n 2, 1) := by decide +kernel
theorem dX11_made_87 : decode cX11_made 87 = .ok (.iload_n 2, 1) := by decide +kernel
theorem dX11_made_88 : decode cX11_made 88 = .ok (.aload_n 0, 1) := by decide +kernel
theorem dX11_made_89 : decode cX11_made 89 = .ok (.getfield 151, 3) := by decide +kernel
theorem dX11_made_92 : decode cX11_made 92 = .ok (.if_icmp .ge 58, 3) := by decide +kernel
theorem dX11_made_95 : decode cX11_made 95 = .ok (.iconst 0, 1) := by decide +kernel
theorem dX11_made_96 : decode cX11_made 96 = .ok (.istore_n 3, 1) := by decide +kernel
theorem dX11_made_97 : decode cX11_made 97 = .ok (.iload_n 3, 1) := by decide +kernel
theorem dX11_made_98 : decode cX11_made 98 = .ok (.iload_n 2, 1) := by decide +kernel
theorem dX11_made_99 : decode cX11_made 99 = .ok (.if_icmp .gt 45, 3) := by decide +kernel
theorem dX11_made_102 : decode cX11_made 102 = .ok (.aload_n 0, 1) := by decide +kernel
theorem dX11_made_103 : decode cX11_made 103 = .ok (.getfield 24, 3) := by decide +kernel
theorem dX11_made_106 : decode cX11_made 106 = .ok (.iload_n 2, 1) := by decide +kernel
theorem dX11_made_107 : decode cX11_made 107 = .ok (.iaload, 1) := by decide +kernel
theorem dX11_made_108 : decode cX11_made 108 = .ok (.aload_n 0, 1) := by decide +kernel
theorem dX11_made_109 : decode cX11_made 109 = .ok (.getfield 24, 3) := by decide +kernel
theorem dX11_made_112 : decode cX11_made 112 = .ok (.iload_n 3, 1) := by decide +kernel
theorem dX11_made_113 : decode cX11_made 113 = .ok (.iaload, 1) := by decide +kernel
theorem dX11_made_114 : decode cX11_made 114 = .ok (.iadd, 1) := by decide +kernel
theorem dX11_made_115 : decode cX11_made 115 = .ok (.iload_n 1, 1) := by decide +kernel
theorem dX11_made_116 : decode cX11_made 116 = .ok (.if_icmp .gt 28, 3) := by decide +kernel
theorem dX11_made_119 : decode cX11_made 119 = .ok (.aload_n 0, 1) := by decide +kernel
theorem dX11_made_120 : decode cX11_made 120 = .ok (.getfield 27, 3) := by decide +kernel
theorem dX11_made_123 : decode cX11_made 123 = .ok (.aload_n 0, 1) := by decide +kernel
theorem dX11_made_124 : decode cX11_made 124 = .ok (.getfield 24, 3) := by decide +kernel
theorem dX11_made_127 : decode cX11_made 127 = .ok (.iload_n 2, 1) := by decide +kernel
theorem dX11_made_128 : decode cX11_made 128 = .ok (.iaload, 1) := by decide +kernel
theorem dX11_made_129 : decode cX11_made 129 = .ok (.aload_n 0, 1) := by decide +kernel
theorem dX11_made_130 : decode cX11_made 130 = .ok (.getfield 24, 3) := by decide +kernel
theorem dX11_made_133 : decode cX11_made 133 = .ok (.iload_n 3, 1) := by decide +kernel
theorem dX11_made_134 : decode cX11_made 134 = .ok (.iaload, 1) := by decide +kernel
theorem dX11_made_135 : decode cX11_made 135 = .ok (.iadd, 1) := by decide +kernel
theorem dX11_made_136 : decode cX11_made 136 = .ok (.iconst 1, 1) := by decide +kernel
theorem dX11_made_137 : decode cX11_made 137 = .ok (.bastore, 1) := by decide +kernel
theorem dX11_made_138 : decode cX11_made 138 = .ok (.iinc 3 1, 3) := by decide +kernel
theorem dX11_made_141 : decode cX11_made 141 = .ok (.goto (-44), 3) := by decide +kernel
theorem dX11_made_144 : decode cX11_made 144 = .ok (.iinc 2 1, 3) := by decide +kernel
theorem dX11_made_147 : decode cX11_made 147 = .ok (.goto (-60), 3) := by decide +kernel
theorem dX11_made_150 : decode cX11_made 150 = .ok (.aload_n 0, 1) := by decide +kernel
theorem dX11_made_151 : decode cX11_made 151 = .ok (.getfield 27, 3) := by decide +kernel
theorem dX11_made_154 : decode cX11_made 154 = .ok (.iload_n 1, 1) := by decide +kernel
theorem dX11_made_155 : decode cX11_made 155 = .ok (.baload, 1) := by decide +kernel
theorem dX11_made_156 : decode cX11_made 156 = .ok (.ifCond .eq 5, 3) := by decide +kernel
theorem dX11_made_159 : decode cX11_made 159 = .ok (.iconst 2, 1) := by decide +kernel
theorem dX11_made_160 : decode cX11_made 160 = .ok (.ireturn, 1) := by decide +kernel
theorem dX11_made_161 : decode cX11_made 161 = .ok (.iconst 0, 1) := by decide +kernel
theorem dX11_made_162 : decode cX11_made 162 = .ok (.istore_n 2, 1) := by decide +kernel
theorem dX11_made_163 : decode cX11_made 163 = .ok (.iload_n 2, 1) := by decide +kernel
