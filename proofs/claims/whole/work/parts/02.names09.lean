theorem dX10_searched_12 : decode cX10_searched 12 = .ok (.invokespecial 251, 3) := by decide +kernel
theorem dX10_searched_15 : decode cX10_searched 15 = .ok (.putfield 247, 3) := by decide +kernel
theorem dX10_searched_18 : decode cX10_searched 18 = .ok (.aload_n 0, 1) := by decide +kernel
theorem dX10_searched_19 : decode cX10_searched 19 = .ok (.getfield 247, 3) := by decide +kernel
theorem dX10_searched_22 : decode cX10_searched 22 = .ok (.iload_n 1, 1) := by decide +kernel
theorem dX10_searched_23 : decode cX10_searched 23 = .ok (.aload_n 0, 1) := by decide +kernel
theorem dX10_searched_24 : decode cX10_searched 24 = .ok (.getfield 10, 3) := by decide +kernel
theorem dX10_searched_27 : decode cX10_searched 27 = .ok (.getfield 42, 3) := by decide +kernel
theorem dX10_searched_30 : decode cX10_searched 30 = .ok (.iload_n 2, 1) := by decide +kernel
theorem dX10_searched_31 : decode cX10_searched 31 = .ok (.iload_n 3, 1) := by decide +kernel
theorem dX10_searched_32 : decode cX10_searched 32 = .ok (.invokevirtual 252, 3) := by decide +kernel
theorem dX10_searched_35 : decode cX10_searched 35 = .ok (.aload_n 0, 1) := by decide +kernel
theorem dX10_searched_36 : decode cX10_searched 36 = .ok (.getfield 247, 3) := by decide +kernel
theorem dX10_searched_39 : decode cX10_searched 39 = .ok (.iload 4, 2) := by decide +kernel
theorem dX10_searched_41 : decode cX10_searched 41 = .ok (.invokevirtual 255, 3) := by decide +kernel
theorem dX10_searched_44 : decode cX10_searched 44 = .ok (.ireturn, 1) := by decide +kernel
set_option maxRecDepth 20000 in
theorem ggX10_frontOfMoved_X1_power : GoodIn wsX10_frontOfMoved wsX1_power := goodIn_r _ [7, 8, 18, 19, 20, 21, 22] (by decide +kernel) (by decide +kernel)
set_option maxRecDepth 20000 in
theorem gX10_frontOfMoved_X1_power : GoodIn wsX10_frontOfMoved (wsV RX10 184 RX1 yX1_power wsX1_power) := goodIn_app (goodIn_of _ (by decide +kernel)) ggX10_frontOfMoved_X1_power
theorem dX10_frontOfMoved_0 : decode cX10_frontOfMoved 0 = .ok (.iload_n 2, 1) := by decide +kernel
theorem dX10_frontOfMoved_1 : decode cX10_frontOfMoved 1 = .ok (.i2l, 1) := by decide +kernel
theorem dX10_frontOfMoved_2 : decode cX10_frontOfMoved 2 = .ok (.aload_n 0, 1) := by decide +kernel
theorem dX10_frontOfMoved_3 : decode cX10_frontOfMoved 3 = .ok (.getfield 10, 3) := by decide +kernel
theorem dX10_frontOfMoved_6 : decode cX10_frontOfMoved 6 = .ok (.getfield 42, 3) := by decide +kernel
theorem dX10_frontOfMoved_9 : decode cX10_frontOfMoved 9 = .ok (.i2l, 1) := by decide +kernel
theorem dX10_frontOfMoved_10 : decode cX10_frontOfMoved 10 = .ok (.lmul, 1) := by decide +kernel
theorem dX10_frontOfMoved_11 : decode cX10_frontOfMoved 11 = .ok (.iload_n 3, 1) := by decide +kernel
theorem dX10_frontOfMoved_12 : decode cX10_frontOfMoved 12 = .ok (.i2l, 1) := by decide +kernel
theorem dX10_frontOfMoved_13 : decode cX10_frontOfMoved 13 = .ok (.lsub, 1) := by decide +kernel
theorem dX10_frontOfMoved_14 : decode cX10_frontOfMoved 14 = .ok (.lstore 5, 2) := by decide +kernel
theorem dX10_frontOfMoved_16 : decode cX10_frontOfMoved 16 = .ok (.lload 5, 2) := by decide +kernel
theorem dX10_frontOfMoved_18 : decode cX10_frontOfMoved 18 = .ok (.lconst 0, 1) := by decide +kernel
theorem dX10_frontOfMoved_19 : decode cX10_frontOfMoved 19 = .ok (.lcmp, 1) := by decide +kernel
theorem dX10_frontOfMoved_20 : decode cX10_frontOfMoved 20 = .ok (.ifCond .gt 5, 3) := by decide +kernel
theorem dX10_frontOfMoved_23 : decode cX10_frontOfMoved 23 = .ok (.lconst 0, 1) := by decide +kernel
theorem dX10_frontOfMoved_24 : decode cX10_frontOfMoved 24 = .ok (.lreturn, 1) := by decide +kernel
theorem dX10_frontOfMoved_25 : decode cX10_frontOfMoved 25 = .ok (.iload 4, 2) := by decide +kernel
theorem dX10_frontOfMoved_27 : decode cX10_frontOfMoved 27 = .ok (.i2l, 1) := by decide +kernel
theorem dX10_frontOfMoved_28 : decode cX10_frontOfMoved 28 = .ok (.iload_n 3, 1) := by decide +kernel
theorem dX10_frontOfMoved_29 : decode cX10_frontOfMoved 29 = .ok (.i2l, 1) := by decide +kernel
theorem dX10_frontOfMoved_30 : decode cX10_frontOfMoved 30 = .ok (.aload_n 0, 1) := by decide +kernel
theorem dX10_frontOfMoved_31 : decode cX10_frontOfMoved 31 = .ok (.getfield 10, 3) := by decide +kernel
theorem dX10_frontOfMoved_34 : decode cX10_frontOfMoved 34 = .ok (.iload_n 1, 1) := by decide +kernel
theorem dX10_frontOfMoved_35 : decode cX10_frontOfMoved 35 = .ok (.iconst 1, 1) := by decide +kernel
theorem dX10_frontOfMoved_36 : decode cX10_frontOfMoved 36 = .ok (.isub, 1) := by decide +kernel
theorem dX10_frontOfMoved_37 : decode cX10_frontOfMoved 37 = .ok (.invokevirtual 184, 3) := by decide +kernel
theorem dX10_frontOfMoved_40 : decode cX10_frontOfMoved 40 = .ok (.lmul, 1) := by decide +kernel
theorem dX10_frontOfMoved_41 : decode cX10_frontOfMoved 41 = .ok (.iload_n 2, 1) := by decide +kernel
theorem dX10_frontOfMoved_42 : decode cX10_frontOfMoved 42 = .ok (.i2l, 1) := by decide +kernel
theorem dX10_frontOfMoved_43 : decode cX10_frontOfMoved 43 = .ok (.lsub, 1) := by decide +kernel
theorem dX10_frontOfMoved_44 : decode cX10_frontOfMoved 44 = .ok (.lmul, 1) := by decide +kernel
theorem dX10_frontOfMoved_45 : decode cX10_frontOfMoved 45 = .ok (.lstore 7, 2) := by decide +kernel
theorem dX10_frontOfMoved_47 : decode cX10_frontOfMoved 47 = .ok (.lload 7, 2) := by decide +kernel
theorem dX10_frontOfMoved_49 : decode cX10_frontOfMoved 49 = .ok (.lconst 0, 1) := by decide +kernel
theorem dX10_frontOfMoved_50 : decode cX10_frontOfMoved 50 = .ok (.lcmp, 1) := by decide +kernel
theorem dX10_frontOfMoved_51 : decode cX10_frontOfMoved 51 = .ok (.ifCond .le 13, 3) := by decide +kernel
theorem dX10_frontOfMoved_54 : decode cX10_frontOfMoved 54 = .ok (.lload 7, 2) := by decide +kernel
theorem dX10_frontOfMoved_56 : decode cX10_frontOfMoved 56 = .ok (.lload 5, 2) := by decide +kernel
theorem dX10_frontOfMoved_58 : decode cX10_frontOfMoved 58 = .ok (.lrem, 1) := by decide +kernel
theorem dX10_frontOfMoved_59 : decode cX10_frontOfMoved 59 = .ok (.lconst 0, 1) := by decide +kernel
theorem dX10_frontOfMoved_60 : decode cX10_frontOfMoved 60 = .ok (.lcmp, 1) := by decide +kernel
theorem dX10_frontOfMoved_61 : decode cX10_frontOfMoved 61 = .ok (.ifCond .eq 5, 3) := by decide +kernel
theorem dX10_frontOfMoved_64 : decode cX10_frontOfMoved 64 = .ok (.lconst 0, 1) := by decide +kernel
theorem dX10_frontOfMoved_65 : decode cX10_frontOfMoved 65 = .ok (.lreturn, 1) := by decide +kernel
theorem dX10_frontOfMoved_66 : decode cX10_frontOfMoved 66 = .ok (.lload 7, 2) := by decide +kernel
theorem dX10_frontOfMoved_68 : decode cX10_frontOfMoved 68 = .ok (.lload 5, 2) := by decide +kernel
theorem dX10_frontOfMoved_70 : decode cX10_frontOfMoved 70 = .ok (.ldiv, 1) := by decide +kernel
theorem dX10_frontOfMoved_71 : decode cX10_frontOfMoved 71 = .ok (.lstore 9, 2) := by decide +kernel
theorem dX10_frontOfMoved_73 : decode cX10_frontOfMoved 73 = .ok (.lload 9, 2) := by decide +kernel
theorem dX10_frontOfMoved_75 : decode cX10_frontOfMoved 75 = .ok (.aload_n 0, 1) := by decide +kernel
theorem dX10_frontOfMoved_76 : decode cX10_frontOfMoved 76 = .ok (.getfield 10, 3) := by decide +kernel
theorem dX10_frontOfMoved_79 : decode cX10_frontOfMoved 79 = .ok (.iload_n 1, 1) := by decide +kernel
theorem dX10_frontOfMoved_80 : decode cX10_frontOfMoved 80 = .ok (.iconst 2, 1) := by decide +kernel
theorem dX10_frontOfMoved_81 : decode cX10_frontOfMoved 81 = .ok (.isub, 1) := by decide +kernel
theorem dX10_frontOfMoved_82 : decode cX10_frontOfMoved 82 = .ok (.invokevirtual 184, 3) := by decide +kernel
theorem dX10_frontOfMoved_85 : decode cX10_frontOfMoved 85 = .ok (.lcmp, 1) := by decide +kernel
theorem dX10_frontOfMoved_86 : decode cX10_frontOfMoved 86 = .ok (.ifCond .lt 24, 3) := by decide +kernel
theorem dX10_frontOfMoved_89 : decode cX10_frontOfMoved 89 = .ok (.lload 9, 2) := by decide +kernel
theorem dX10_frontOfMoved_91 : decode cX10_frontOfMoved 91 = .ok (.aload_n 0, 1) := by decide +kernel
theorem dX10_frontOfMoved_92 : decode cX10_frontOfMoved 92 = .ok (.getfield 10, 3) := by decide +kernel
theorem dX10_frontOfMoved_95 : decode cX10_frontOfMoved 95 = .ok (.iload_n 1, 1) := by decide +kernel
theorem dX10_frontOfMoved_96 : decode cX10_frontOfMoved 96 = .ok (.iconst 1, 1) := by decide +kernel
theorem dX10_frontOfMoved_97 : decode cX10_frontOfMoved 97 = .ok (.isub, 1) := by decide +kernel
theorem dX10_frontOfMoved_98 : decode cX10_frontOfMoved 98 = .ok (.invokevirtual 184, 3) := by decide +kernel
theorem dX10_frontOfMoved_101 : decode cX10_frontOfMoved 101 = .ok (.lcmp, 1) := by decide +kernel
theorem dX10_frontOfMoved_102 : decode cX10_frontOfMoved 102 = .ok (.ifCond .ge 8, 3) := by decide +kernel
theorem dX10_frontOfMoved_105 : decode cX10_frontOfMoved 105 = .ok (.lload 9, 2) := by decide +kernel
theorem dX10_frontOfMoved_107 : decode cX10_frontOfMoved 107 = .ok (.goto 4, 3) := by decide +kernel
theorem dX10_frontOfMoved_110 : decode cX10_frontOfMoved 110 = .ok (.lconst 0, 1) := by decide +kernel
theorem dX10_frontOfMoved_111 : decode cX10_frontOfMoved 111 = .ok (.lreturn, 1) := by decide +kernel
theorem dX11_init_0 : decode cX11_init 0 = .ok (.aload_n 0, 1) := by decide +kernel
theorem dX11_init_1 : decode cX11_init 1 = .ok (.invokespecial 1, 3) := by decide +kernel
theorem dX11_init_4 : decode cX11_init 4 = .ok (.aload_n 0, 1) := by decide +kernel
theorem dX11_init_5 : decode cX11_init 5 = .ok (.bipush 10, 2) := by decide +kernel
theorem dX11_init_7 : decode cX11_init 7 = .ok (.putfield 7, 3) := by decide +kernel
theorem dX11_init_10 : decode cX11_init 10 = .ok (.aload_n 0, 1) := by decide +kernel
theorem dX11_init_11 : decode cX11_init 11 = .ok (.bipush 16, 2) := by decide +kernel
theorem dX11_init_13 : decode cX11_init 13 = .ok (.newarray .int, 2) := by decide +kernel
theorem dX11_init_15 : decode cX11_init 15 = .ok (.putfield 13, 3) := by decide +kernel
theorem dX11_init_18 : decode cX11_init 18 = .ok (.aload_n 0, 1) := by decide +kernel
theorem dX11_init_19 : decode cX11_init 19 = .ok (.bipush 64, 2) := by decide +kernel
theorem dX11_init_21 : decode cX11_init 21 = .ok (.newarray .int, 2) := by decide +kernel
theorem dX11_init_23 : decode cX11_init 23 = .ok (.putfield 17, 3) := by decide +kernel
theorem dX11_init_26 : decode cX11_init 26 = .ok (.aload_n 0, 1) := by decide +kernel
theorem dX11_init_27 : decode cX11_init 27 = .ok (.sipush 20001, 3) := by decide +kernel
theorem dX11_init_30 : decode cX11_init 30 = .ok (.newarray .long, 2) := by decide +kernel
theorem dX11_init_32 : decode cX11_init 32 = .ok (.putfield 20, 3) := by decide +kernel
theorem dX11_init_35 : decode cX11_init 35 = .ok (.aload_n 0, 1) := by decide +kernel
theorem dX11_init_36 : decode cX11_init 36 = .ok (.sipush 10001, 3) := by decide +kernel
theorem dX11_init_39 : decode cX11_init 39 = .ok (.newarray .int, 2) := by decide +kernel
theorem dX11_init_41 : decode cX11_init 41 = .ok (.putfield 24, 3) := by decide +kernel
theorem dX11_init_44 : decode cX11_init 44 = .ok (.aload_n 0, 1) := by decide +kernel
theorem dX11_init_45 : decode cX11_init 45 = .ok (.sipush 10001, 3) := by decide +kernel
theorem dX11_init_48 : decode cX11_init 48 = .ok (.newarray .boolean, 2) := by decide +kernel
theorem dX11_init_50 : decode cX11_init 50 = .ok (.putfield 27, 3) := by decide +kernel
theorem dX11_init_53 : decode cX11_init 53 = .ok (.aload_n 0, 1) := by decide +kernel
theorem dX11_init_54 : decode cX11_init 54 = .ok (.ldc 31, 2) := by decide +kernel
theorem dX11_init_56 : decode cX11_init 56 = .ok (.newarray .int, 2) := by decide +kernel
theorem dX11_init_58 : decode cX11_init 58 = .ok (.putfield 32, 3) := by decide +kernel
theorem dX11_init_61 : decode cX11_init 61 = .ok (.aload_n 0, 1) := by decide +kernel
theorem dX11_init_62 : decode cX11_init 62 = .ok (.ldc 31, 2) := by decide +kernel
theorem dX11_init_64 : decode cX11_init 64 = .ok (.newarray .int, 2) := by decide +kernel
theorem dX11_init_66 : decode cX11_init 66 = .ok (.putfield 35, 3) := by decide +kernel
theorem dX11_init_69 : decode cX11_init 69 = .ok (.aload_n 0, 1) := by decide +kernel
theorem dX11_init_70 : decode cX11_init 70 = .ok (.ldc 31, 2) := by decide +kernel
theorem dX11_init_72 : decode cX11_init 72 = .ok (.newarray .int, 2) := by decide +kernel
theorem dX11_init_74 : decode cX11_init 74 = .ok (.putfield 38, 3) := by decide +kernel
theorem dX11_init_77 : decode cX11_init 77 = .ok (.aload_n 0, 1) := by decide +kernel
theorem dX11_init_78 : decode cX11_init 78 = .ok (.bipush 16, 2) := by decide +kernel
theorem dX11_init_80 : decode cX11_init 80 = .ok (.newarray .int, 2) := by decide +kernel
theorem dX11_init_82 : decode cX11_init 82 = .ok (.putfield 41, 3) := by decide +kernel
theorem dX11_init_85 : decode cX11_init 85 = .ok (.aload_n 0, 1) := by decide +kernel
theorem dX11_init_86 : decode cX11_init 86 = .ok (.bipush 6, 2) := by decide +kernel
theorem dX11_init_88 : decode cX11_init 88 = .ok (.newarray .int, 2) := by decide +kernel
theorem dX11_init_90 : decode cX11_init 90 = .ok (.putfield 44, 3) := by decide +kernel
theorem dX11_init_93 : decode cX11_init 93 = .ok (.aload_n 0, 1) := by decide +kernel
theorem dX11_init_94 : decode cX11_init 94 = .ok (.sipush 200, 3) := by decide +kernel
theorem dX11_init_97 : decode cX11_init 97 = .ok (.newarray .long, 2) := by decide +kernel
theorem dX11_init_99 : decode cX11_init 99 = .ok (.putfield 47, 3) := by decide +kernel
theorem dX11_init_102 : decode cX11_init 102 = .ok (.aload_n 0, 1) := by decide +kernel
theorem dX11_init_103 : decode cX11_init 103 = .ok (.sipush 20001, 3) := by decide +kernel
theorem dX11_init_106 : decode cX11_init 106 = .ok (.newarray .boolean, 2) := by decide +kernel
theorem dX11_init_108 : decode cX11_init 108 = .ok (.putfield 50, 3) := by decide +kernel
theorem dX11_init_111 : decode cX11_init 111 = .ok (.iconst 0, 1) := by decide +kernel
theorem dX11_init_112 : decode cX11_init 112 = .ok (.istore_n 1, 1) := by decide +kernel
theorem dX11_init_113 : decode cX11_init 113 = .ok (.iload_n 1, 1) := by decide +kernel
theorem dX11_init_114 : decode cX11_init 114 = .ok (.bipush 16, 2) := by decide +kernel
theorem dX11_init_116 : decode cX11_init 116 = .ok (.if_icmp .ge 16, 3) := by decide +kernel
theorem dX11_init_119 : decode cX11_init 119 = .ok (.aload_n 0, 1) := by decide +kernel
theorem dX11_init_120 : decode cX11_init 120 = .ok (.getfield 13, 3) := by decide +kernel
theorem dX11_init_123 : decode cX11_init 123 = .ok (.iload_n 1, 1) := by decide +kernel
theorem dX11_init_124 : decode cX11_init 124 = .ok (.iload_n 1, 1) := by decide +kernel
theorem dX11_init_125 : decode cX11_init 125 = .ok (.iastore, 1) := by decide +kernel
theorem dX11_init_126 : decode cX11_init 126 = .ok (.iinc 1 1, 3) := by decide +kernel
theorem dX11_init_129 : decode cX11_init 129 = .ok (.goto (-16), 3) := by decide +kernel
theorem dX11_init_132 : decode cX11_init 132 = .ok (.return_, 1) := by decide +kernel
theorem dX11_in_0 : decode cX11_in 0 = .ok (.lload_n 0, 1) := by decide +kernel
theorem dX11_in_1 : decode cX11_in 1 = .ok (.lload_n 2, 1) := by decide +kernel
theorem dX11_in_2 : decode cX11_in 2 = .ok (.lcmp, 1) := by decide +kernel
theorem dX11_in_3 : decode cX11_in 3 = .ok (.ifCond .lt 14, 3) := by decide +kernel
theorem dX11_in_6 : decode cX11_in 6 = .ok (.lload_n 0, 1) := by decide +kernel
theorem dX11_in_7 : decode cX11_in 7 = .ok (.lload 4, 2) := by decide +kernel
theorem dX11_in_9 : decode cX11_in 9 = .ok (.lcmp, 1) := by decide +kernel
theorem dX11_in_10 : decode cX11_in 10 = .ok (.ifCond .gt 7, 3) := by decide +kernel
theorem dX11_in_13 : decode cX11_in 13 = .ok (.iconst 1, 1) := by decide +kernel
theorem dX11_in_14 : decode cX11_in 14 = .ok (.goto 4, 3) := by decide +kernel
theorem dX11_in_17 : decode cX11_in 17 = .ok (.iconst 0, 1) := by decide +kernel
theorem dX11_in_18 : decode cX11_in 18 = .ok (.ireturn, 1) := by decide +kernel
set_option maxRecDepth 20000 in
theorem ggX11_base_X11_in : GoodIn wsX11_base wsX11_in := goodIn_r _ [7] (by decide +kernel) (by decide +kernel)
set_option maxRecDepth 20000 in
theorem gX11_base_X11_in : GoodIn wsX11_base (va_wsS RX11 57 yX11_in wsX11_in) := goodIn_app (goodIn_of _ (by decide +kernel)) ggX11_base_X11_in
theorem dX11_base_0 : decode cX11_base 0 = .ok (.iload_n 1, 1) := by decide +kernel
theorem dX11_base_1 : decode cX11_base 1 = .ok (.i2l, 1) := by decide +kernel
theorem dX11_base_2 : decode cX11_base 2 = .ok (.ldc2_w 53, 3) := by decide +kernel
theorem dX11_base_5 : decode cX11_base 5 = .ok (.ldc2_w 55, 3) := by decide +kernel
theorem dX11_base_8 : decode cX11_base 8 = .ok (.invokestatic 57, 3) := by decide +kernel
theorem dX11_base_11 : decode cX11_base 11 = .ok (.ifCond .ne 5, 3) := by decide +kernel
theorem dX11_base_14 : decode cX11_base 14 = .ok (.iconst (-1), 1) := by decide +kernel
theorem dX11_base_15 : decode cX11_base 15 = .ok (.ireturn, 1) := by decide +kernel
theorem dX11_base_16 : decode cX11_base 16 = .ok (.aload_n 0, 1) := by decide +kernel
theorem dX11_base_17 : decode cX11_base 17 = .ok (.getfield 7, 3) := by decide +kernel
theorem dX11_base_20 : decode cX11_base 20 = .ok (.istore_n 2, 1) := by decide +kernel
theorem dX11_base_21 : decode cX11_base 21 = .ok (.aload_n 0, 1) := by decide +kernel
theorem dX11_base_22 : decode cX11_base 22 = .ok (.iload_n 1, 1) := by decide +kernel
theorem dX11_base_23 : decode cX11_base 23 = .ok (.putfield 7, 3) := by decide +kernel
theorem dX11_base_26 : decode cX11_base 26 = .ok (.iload_n 2, 1) := by decide +kernel
theorem dX11_base_27 : decode cX11_base 27 = .ok (.ireturn, 1) := by decide +kernel
set_option maxRecDepth 20000 in
theorem ggX11_table_X11_in : GoodIn wsX11_table wsX11_in := goodIn_r _ [7] (by decide +kernel) (by decide +kernel)
set_option maxRecDepth 20000 in
theorem gX11_table_X11_in : GoodIn wsX11_table (va_wsS RX11 57 yX11_in wsX11_in) := goodIn_app (goodIn_of _ (by decide +kernel)) ggX11_table_X11_in
theorem dX11_table_0 : decode cX11_table 0 = .ok (.iload_n 1, 1) := by decide +kernel
theorem dX11_table_1 : decode cX11_table 1 = .ok (.i2l, 1) := by decide +kernel
theorem dX11_table_2 : decode cX11_table 2 = .ok (.lconst 0, 1) := by decide +kernel
theorem dX11_table_3 : decode cX11_table 3 = .ok (.ldc2_w 61, 3) := by decide +kernel
theorem dX11_table_6 : decode cX11_table 6 = .ok (.invokestatic 57, 3) := by decide +kernel
theorem dX11_table_9 : decode cX11_table 9 = .ok (.ifCond .eq 15, 3) := by decide +kernel
theorem dX11_table_12 : decode cX11_table 12 = .ok (.iload_n 2, 1) := by decide +kernel
theorem dX11_table_13 : decode cX11_table 13 = .ok (.i2l, 1) := by decide +kernel
theorem dX11_table_14 : decode cX11_table 14 = .ok (.lconst 0, 1) := by decide +kernel
theorem dX11_table_15 : decode cX11_table 15 = .ok (.ldc2_w 63, 3) := by decide +kernel
theorem dX11_table_18 : decode cX11_table 18 = .ok (.invokestatic 57, 3) := by decide +kernel
theorem dX11_table_21 : decode cX11_table 21 = .ok (.ifCond .ne 5, 3) := by decide +kernel
theorem dX11_table_24 : decode cX11_table 24 = .ok (.iconst (-1), 1) := by decide +kernel
theorem dX11_table_25 : decode cX11_table 25 = .ok (.ireturn, 1) := by decide +kernel
theorem dX11_table_26 : decode cX11_table 26 = .ok (.aload_n 0, 1) := by decide +kernel
theorem dX11_table_27 : decode cX11_table 27 = .ok (.getfield 13, 3) := by decide +kernel
theorem dX11_table_30 : decode cX11_table 30 = .ok (.iload_n 1, 1) := by decide +kernel
theorem dX11_table_31 : decode cX11_table 31 = .ok (.iaload, 1) := by decide +kernel
theorem dX11_table_32 : decode cX11_table 32 = .ok (.istore_n 3, 1) := by decide +kernel
theorem dX11_table_33 : decode cX11_table 33 = .ok (.aload_n 0, 1) := by decide +kernel
theorem dX11_table_34 : decode cX11_table 34 = .ok (.getfield 13, 3) := by decide +kernel
theorem dX11_table_37 : decode cX11_table 37 = .ok (.iload_n 1, 1) := by decide +kernel
theorem dX11_table_38 : decode cX11_table 38 = .ok (.iload_n 2, 1) := by decide +kernel
theorem dX11_table_39 : decode cX11_table 39 = .ok (.iastore, 1) := by decide +kernel
theorem dX11_table_40 : decode cX11_table 40 = .ok (.iload_n 3, 1) := by decide +kernel
theorem dX11_table_41 : decode cX11_table 41 = .ok (.ireturn, 1) := by decide +kernel
theorem dX11_lay_0 : decode cX11_lay 0 = .ok (.aload_n 0, 1) := by decide +kernel
theorem dX11_lay_1 : decode cX11_lay 1 = .ok (.iconst 0, 1) := by decide +kernel
theorem dX11_lay_2 : decode cX11_lay 2 = .ok (.putfield 65, 3) := by decide +kernel
theorem dX11_lay_5 : decode cX11_lay 5 = .ok (.lload_n 1, 1) := by decide +kernel
theorem dX11_lay_6 : decode cX11_lay 6 = .ok (.lstore_n 3, 1) := by decide +kernel
theorem dX11_lay_7 : decode cX11_lay 7 = .ok (.lload_n 3, 1) := by decide +kernel
theorem dX11_lay_8 : decode cX11_lay 8 = .ok (.lconst 0, 1) := by decide +kernel
theorem dX11_lay_9 : decode cX11_lay 9 = .ok (.lcmp, 1) := by decide +kernel
theorem dX11_lay_10 : decode cX11_lay 10 = .ok (.ifCond .gt 10, 3) := by decide +kernel
theorem dX11_lay_13 : decode cX11_lay 13 = .ok (.aload_n 0, 1) := by decide +kernel
theorem dX11_lay_14 : decode cX11_lay 14 = .ok (.getfield 65, 3) := by decide +kernel
theorem dX11_lay_17 : decode cX11_lay 17 = .ok (.ifCond .ne 41, 3) := by decide +kernel
theorem dX11_lay_20 : decode cX11_lay 20 = .ok (.aload_n 0, 1) := by decide +kernel
theorem dX11_lay_21 : decode cX11_lay 21 = .ok (.getfield 17, 3) := by decide +kernel
theorem dX11_lay_24 : decode cX11_lay 24 = .ok (.aload_n 0, 1) := by decide +kernel
theorem dX11_lay_25 : decode cX11_lay 25 = .ok (.getfield 65, 3) := by decide +kernel
theorem dX11_lay_28 : decode cX11_lay 28 = .ok (.lload_n 3, 1) := by decide +kernel
theorem dX11_lay_29 : decode cX11_lay 29 = .ok (.aload_n 0, 1) := by decide +kernel
theorem dX11_lay_30 : decode cX11_lay 30 = .ok (.getfield 7, 3) := by decide +kernel
theorem dX11_lay_33 : decode cX11_lay 33 = .ok (.i2l, 1) := by decide +kernel
theorem dX11_lay_34 : decode cX11_lay 34 = .ok (.lrem, 1) := by decide +kernel
theorem dX11_lay_35 : decode cX11_lay 35 = .ok (.l2i, 1) := by decide +kernel
theorem dX11_lay_36 : decode cX11_lay 36 = .ok (.iastore, 1) := by decide +kernel
theorem dX11_lay_37 : decode cX11_lay 37 = .ok (.lload_n 3, 1) := by decide +kernel
theorem dX11_lay_38 : decode cX11_lay 38 = .ok (.aload_n 0, 1) := by decide +kernel
theorem dX11_lay_39 : decode cX11_lay 39 = .ok (.getfield 7, 3) := by decide +kernel
theorem dX11_lay_42 : decode cX11_lay 42 = .ok (.i2l, 1) := by decide +kernel
theorem dX11_lay_43 : decode cX11_lay 43 = .ok (.ldiv, 1) := by decide +kernel
theorem dX11_lay_44 : decode cX11_lay 44 = .ok (.lstore_n 3, 1) := by decide +kernel
theorem dX11_lay_45 : decode cX11_lay 45 = .ok (.aload_n 0, 1) := by decide +kernel
theorem dX11_lay_46 : decode cX11_lay 46 = .ok (.dup, 1) := by decide +kernel
theorem dX11_lay_47 : decode cX11_lay 47 = .ok (.getfield 65, 3) := by decide +kernel
theorem dX11_lay_50 : decode cX11_lay 50 = .ok (.iconst 1, 1) := by decide +kernel
theorem dX11_lay_51 : decode cX11_lay 51 = .ok (.iadd, 1) := by decide +kernel
theorem dX11_lay_52 : decode cX11_lay 52 = .ok (.putfield 65, 3) := by decide +kernel
theorem dX11_lay_55 : decode cX11_lay 55 = .ok (.goto (-48), 3) := by decide +kernel
theorem dX11_lay_58 : decode cX11_lay 58 = .ok (.return_, 1) := by decide +kernel
set_option maxRecDepth 20000 in
theorem ggX11_figure_X11_in : GoodIn wsX11_figure wsX11_in := goodIn_r _ [7] (by decide +kernel) (by decide +kernel)
set_option maxRecDepth 20000 in
theorem gX11_figure_X11_in : GoodIn wsX11_figure (va_wsS RX11 57 yX11_in wsX11_in) := goodIn_app (goodIn_of _ (by decide +kernel)) ggX11_figure_X11_in
set_option maxRecDepth 20000 in
theorem ggX11_figure_X11_lay : GoodIn wsX11_figure wsX11_lay := goodIn_r _ [11, 2, 3, 12, 13, 14, 15, 16, 17, 18, 19, 20, 21, 22, 23, 24, 25, 26, 27, 28, 29, 30, 31, 32, 33, 34, 35, 36] (by decide +kernel) (by decide +kernel)
set_option maxRecDepth 20000 in
theorem gX11_figure_X11_lay : GoodIn wsX11_figure (wsV RX11 70 RX11 yX11_lay wsX11_lay) := goodIn_app (goodIn_of _ (by decide +kernel)) ggX11_figure_X11_lay
theorem dX11_figure_0 : decode cX11_figure 0 = .ok (.lload_n 1, 1) := by decide +kernel
theorem dX11_figure_1 : decode cX11_figure 1 = .ok (.lconst 0, 1) := by decide +kernel
theorem dX11_figure_2 : decode cX11_figure 2 = .ok (.ldc2_w 68, 3) := by decide +kernel
theorem dX11_figure_5 : decode cX11_figure 5 = .ok (.invokestatic 57, 3) := by decide +kernel
theorem dX11_figure_8 : decode cX11_figure 8 = .ok (.ifCond .eq 8, 3) := by decide +kernel
theorem dX11_figure_11 : decode cX11_figure 11 = .ok (.iload_n 3, 1) := by decide +kernel
theorem dX11_figure_12 : decode cX11_figure 12 = .ok (.iconst (-1), 1) := by decide +kernel
theorem dX11_figure_13 : decode cX11_figure 13 = .ok (.if_icmp .ge 5, 3) := by decide +kernel
theorem dX11_figure_16 : decode cX11_figure 16 = .ok (.iconst (-1), 1) := by decide +kernel
theorem dX11_figure_17 : decode cX11_figure 17 = .ok (.ireturn, 1) := by decide +kernel
theorem dX11_figure_18 : decode cX11_figure 18 = .ok (.aload_n 0, 1) := by decide +kernel
theorem dX11_figure_19 : decode cX11_figure 19 = .ok (.lload_n 1, 1) := by decide +kernel
theorem dX11_figure_20 : decode cX11_figure 20 = .ok (.invokevirtual 70, 3) := by decide +kernel
theorem dX11_figure_23 : decode cX11_figure 23 = .ok (.iload_n 3, 1) := by decide +kernel
theorem dX11_figure_24 : decode cX11_figure 24 = .ok (.iconst (-1), 1) := by decide +kernel
theorem dX11_figure_25 : decode cX11_figure 25 = .ok (.if_icmp .ne 10, 3) := by decide +kernel
theorem dX11_figure_28 : decode cX11_figure 28 = .ok (.aload_n 0, 1) := by decide +kernel
theorem dX11_figure_29 : decode cX11_figure 29 = .ok (.getfield 65, 3) := by decide +kernel
theorem dX11_figure_32 : decode cX11_figure 32 = .ok (.goto 29, 3) := by decide +kernel
theorem dX11_figure_35 : decode cX11_figure 35 = .ok (.iload_n 3, 1) := by decide +kernel
theorem dX11_figure_36 : decode cX11_figure 36 = .ok (.aload_n 0, 1) := by decide +kernel
theorem dX11_figure_37 : decode cX11_figure 37 = .ok (.getfield 65, 3) := by decide +kernel
theorem dX11_figure_40 : decode cX11_figure 40 = .ok (.if_icmp .ge 19, 3) := by decide +kernel
theorem dX11_figure_43 : decode cX11_figure 43 = .ok (.aload_n 0, 1) := by decide +kernel
theorem dX11_figure_44 : decode cX11_figure 44 = .ok (.getfield 17, 3) := by decide +kernel
theorem dX11_figure_47 : decode cX11_figure 47 = .ok (.aload_n 0, 1) := by decide +kernel
theorem dX11_figure_48 : decode cX11_figure 48 = .ok (.getfield 65, 3) := by decide +kernel
theorem dX11_figure_51 : decode cX11_figure 51 = .ok (.iconst 1, 1) := by decide +kernel
theorem dX11_figure_52 : decode cX11_figure 52 = .ok (.isub, 1) := by decide +kernel
theorem dX11_figure_53 : decode cX11_figure 53 = .ok (.iload_n 3, 1) := by decide +kernel
theorem dX11_figure_54 : decode cX11_figure 54 = .ok (.isub, 1) := by decide +kernel
theorem dX11_figure_55 : decode cX11_figure 55 = .ok (.iaload, 1) := by decide +kernel
theorem dX11_figure_56 : decode cX11_figure 56 = .ok (.goto 5, 3) := by decide +kernel
theorem dX11_figure_59 : decode cX11_figure 59 = .ok (.bipush (-4), 2) := by decide +kernel
theorem dX11_figure_61 : decode cX11_figure 61 = .ok (.ireturn, 1) := by decide +kernel
set_option maxRecDepth 20000 in
theorem ggX11_sum_X11_lay : GoodIn wsX11_sum wsX11_lay := goodIn_r _ [8, 1, 3, 9, 10, 11, 12, 13, 14, 15, 16, 17, 18, 19, 20, 21, 22, 23, 24, 25, 26, 27, 28, 29, 30, 31, 32, 33] (by decide +kernel) (by decide +kernel)
set_option maxRecDepth 20000 in
theorem gX11_sum_X11_lay : GoodIn wsX11_sum (wsV RX11 70 RX11 yX11_lay wsX11_lay) := goodIn_app (goodIn_of _ (by decide +kernel)) ggX11_sum_X11_lay
theorem dX11_sum_0 : decode cX11_sum 0 = .ok (.aload_n 0, 1) := by decide +kernel
theorem dX11_sum_1 : decode cX11_sum 1 = .ok (.lload_n 1, 1) := by decide +kernel
theorem dX11_sum_2 : decode cX11_sum 2 = .ok (.invokevirtual 70, 3) := by decide +kernel
theorem dX11_sum_5 : decode cX11_sum 5 = .ok (.lconst 0, 1) := by decide +kernel
theorem dX11_sum_6 : decode cX11_sum 6 = .ok (.lstore_n 3, 1) := by decide +kernel
theorem dX11_sum_7 : decode cX11_sum 7 = .ok (.iconst 0, 1) := by decide +kernel
theorem dX11_sum_8 : decode cX11_sum 8 = .ok (.istore 5, 2) := by decide +kernel
theorem dX11_sum_10 : decode cX11_sum 10 = .ok (.iload 5, 2) := by decide +kernel
theorem dX11_sum_12 : decode cX11_sum 12 = .ok (.aload_n 0, 1) := by decide +kernel
theorem dX11_sum_13 : decode cX11_sum 13 = .ok (.getfield 65, 3) := by decide +kernel
theorem dX11_sum_16 : decode cX11_sum 16 = .ok (.if_icmp .ge 25, 3) := by decide +kernel
theorem dX11_sum_19 : decode cX11_sum 19 = .ok (.lload_n 3, 1) := by decide +kernel
theorem dX11_sum_20 : decode cX11_sum 20 = .ok (.aload_n 0, 1) := by decide +kernel
theorem dX11_sum_21 : decode cX11_sum 21 = .ok (.getfield 13, 3) := by decide +kernel
theorem dX11_sum_24 : decode cX11_sum 24 = .ok (.aload_n 0, 1) := by decide +kernel
theorem dX11_sum_25 : decode cX11_sum 25 = .ok (.getfield 17, 3) := by decide +kernel
theorem dX11_sum_28 : decode cX11_sum 28 = .ok (.iload 5, 2) := by decide +kernel
theorem dX11_sum_30 : decode cX11_sum 30 = .ok (.iaload, 1) := by decide +kernel
theorem dX11_sum_31 : decode cX11_sum 31 = .ok (.iaload, 1) := by decide +kernel
theorem dX11_sum_32 : decode cX11_sum 32 = .ok (.i2l, 1) := by decide +kernel
theorem dX11_sum_33 : decode cX11_sum 33 = .ok (.ladd, 1) := by decide +kernel
theorem dX11_sum_34 : decode cX11_sum 34 = .ok (.lstore_n 3, 1) := by decide +kernel
theorem dX11_sum_35 : decode cX11_sum 35 = .ok (.iinc 5 1, 3) := by decide +kernel
theorem dX11_sum_38 : decode cX11_sum 38 = .ok (.goto (-28), 3) := by decide +kernel
theorem dX11_sum_41 : decode cX11_sum 41 = .ok (.lload_n 3, 1) := by decide +kernel
theorem dX11_sum_42 : decode cX11_sum 42 = .ok (.lreturn, 1) := by decide +kernel
set_option maxRecDepth 20000 in
theorem ggX11_turned_X11_lay : GoodIn wsX11_turned wsX11_lay := goodIn_r _ [8, 1, 3, 2, 9, 10, 11, 12, 13, 14, 15, 16, 17, 18, 19, 20, 21, 22, 23, 24, 25, 26, 27, 28, 29, 30, 31, 32] (by decide +kernel) (by decide +kernel)
set_option maxRecDepth 20000 in
theorem gX11_turned_X11_lay : GoodIn wsX11_turned (wsV RX11 70 RX11 yX11_lay wsX11_lay) := goodIn_app (goodIn_of _ (by decide +kernel)) ggX11_turned_X11_lay
theorem dX11_turned_0 : decode cX11_turned 0 = .ok (.aload_n 0, 1) := by decide +kernel
theorem dX11_turned_1 : decode cX11_turned 1 = .ok (.lload_n 1, 1) := by decide +kernel
theorem dX11_turned_2 : decode cX11_turned 2 = .ok (.invokevirtual 70, 3) := by decide +kernel
theorem dX11_turned_5 : decode cX11_turned 5 = .ok (.lconst 0, 1) := by decide +kernel
theorem dX11_turned_6 : decode cX11_turned 6 = .ok (.lstore_n 3, 1) := by decide +kernel
theorem dX11_turned_7 : decode cX11_turned 7 = .ok (.iconst 0, 1) := by decide +kernel
theorem dX11_turned_8 : decode cX11_turned 8 = .ok (.istore 5, 2) := by decide +kernel
theorem dX11_turned_10 : decode cX11_turned 10 = .ok (.iload 5, 2) := by decide +kernel
theorem dX11_turned_12 : decode cX11_turned 12 = .ok (.aload_n 0, 1) := by decide +kernel
theorem dX11_turned_13 : decode cX11_turned 13 = .ok (.getfield 65, 3) := by decide +kernel
theorem dX11_turned_16 : decode cX11_turned 16 = .ok (.if_icmp .ge 26, 3) := by decide +kernel
theorem dX11_turned_19 : decode cX11_turned 19 = .ok (.lload_n 3, 1) := by decide +kernel
theorem dX11_turned_20 : decode cX11_turned 20 = .ok (.aload_n 0, 1) := by decide +kernel
theorem dX11_turned_21 : decode cX11_turned 21 = .ok (.getfield 7, 3) := by decide +kernel
theorem dX11_turned_24 : decode cX11_turned 24 = .ok (.i2l, 1) := by decide +kernel
theorem dX11_turned_25 : decode cX11_turned 25 = .ok (.lmul, 1) := by decide +kernel
theorem dX11_turned_26 : decode cX11_turned 26 = .ok (.aload_n 0, 1) := by decide +kernel
theorem dX11_turned_27 : decode cX11_turned 27 = .ok (.getfield 17, 3) := by decide +kernel
theorem dX11_turned_30 : decode cX11_turned 30 = .ok (.iload 5, 2) := by decide +kernel
theorem dX11_turned_32 : decode cX11_turned 32 = .ok (.iaload, 1) := by decide +kernel
theorem dX11_turned_33 : decode cX11_turned 33 = .ok (.i2l, 1) := by decide +kernel
theorem dX11_turned_34 : decode cX11_turned 34 = .ok (.ladd, 1) := by decide +kernel
theorem dX11_turned_35 : decode cX11_turned 35 = .ok (.lstore_n 3, 1) := by decide +kernel
theorem dX11_turned_36 : decode cX11_turned 36 = .ok (.iinc 5 1, 3) := by decide +kernel
theorem dX11_turned_39 : decode cX11_turned 39 = .ok (.goto (-29), 3) := by decide +kernel
theorem dX11_turned_42 : decode cX11_turned 42 = .ok (.lload_n 3, 1) := by decide +kernel
theorem dX11_turned_43 : decode cX11_turned 43 = .ok (.lreturn, 1) := by decide +kernel
set_option maxRecDepth 20000 in
theorem ggX11_sorted_X11_lay : GoodIn wsX11_sorted wsX11_lay := goodIn_r _ [8, 2, 3, 1, 9, 10, 11, 12, 13, 14, 15, 16, 17, 18, 19, 20, 21, 22, 23, 24, 25, 26, 27, 28, 29, 30, 31, 32] (by decide +kernel) (by decide +kernel)
set_option maxRecDepth 20000 in
theorem gX11_sorted_X11_lay : GoodIn wsX11_sorted (wsV RX11 70 RX11 yX11_lay wsX11_lay) := goodIn_app (goodIn_of _ (by decide +kernel)) ggX11_sorted_X11_lay
theorem dX11_sorted_0 : decode cX11_sorted 0 = .ok (.aload_n 0, 1) := by decide +kernel
theorem dX11_sorted_1 : decode cX11_sorted 1 = .ok (.lload_n 1, 1) := by decide +kernel
theorem dX11_sorted_2 : decode cX11_sorted 2 = .ok (.invokevirtual 70, 3) := by decide +kernel
theorem dX11_sorted_5 : decode cX11_sorted 5 = .ok (.lconst 0, 1) := by decide +kernel
theorem dX11_sorted_6 : decode cX11_sorted 6 = .ok (.lstore_n 3, 1) := by decide +kernel
theorem dX11_sorted_7 : decode cX11_sorted 7 = .ok (.lconst 0, 1) := by decide +kernel
theorem dX11_sorted_8 : decode cX11_sorted 8 = .ok (.lstore 5, 2) := by decide +kernel
theorem dX11_sorted_10 : decode cX11_sorted 10 = .ok (.iconst 0, 1) := by decide +kernel
theorem dX11_sorted_11 : decode cX11_sorted 11 = .ok (.istore 7, 2) := by decide +kernel
theorem dX11_sorted_13 : decode cX11_sorted 13 = .ok (.iload 7, 2) := by decide +kernel
theorem dX11_sorted_15 : decode cX11_sorted 15 = .ok (.aload_n 0, 1) := by decide +kernel
theorem dX11_sorted_16 : decode cX11_sorted 16 = .ok (.getfield 7, 3) := by decide +kernel
theorem dX11_sorted_19 : decode cX11_sorted 19 = .ok (.if_icmp .ge 101, 3) := by decide +kernel
theorem dX11_sorted_22 : decode cX11_sorted 22 = .ok (.iconst 0, 1) := by decide +kernel
theorem dX11_sorted_23 : decode cX11_sorted 23 = .ok (.istore 8, 2) := by decide +kernel
theorem dX11_sorted_25 : decode cX11_sorted 25 = .ok (.iload 8, 2) := by decide +kernel
theorem dX11_sorted_27 : decode cX11_sorted 27 = .ok (.aload_n 0, 1) := by decide +kernel
theorem dX11_sorted_28 : decode cX11_sorted 28 = .ok (.getfield 65, 3) := by decide +kernel
theorem dX11_sorted_31 : decode cX11_sorted 31 = .ok (.if_icmp .ge 83, 3) := by decide +kernel
theorem dX11_sorted_34 : decode cX11_sorted 34 = .ok (.aload_n 0, 1) := by decide +kernel
theorem dX11_sorted_35 : decode cX11_sorted 35 = .ok (.getfield 17, 3) := by decide +kernel
theorem dX11_sorted_38 : decode cX11_sorted 38 = .ok (.iload 8, 2) := by decide +kernel
theorem dX11_sorted_40 : decode cX11_sorted 40 = .ok (.iaload, 1) := by decide +kernel
theorem dX11_sorted_41 : decode cX11_sorted 41 = .ok (.iload 7, 2) := by decide +kernel
theorem dX11_sorted_43 : decode cX11_sorted 43 = .ok (.if_icmp .ne 17, 3) := by decide +kernel
theorem dX11_sorted_46 : decode cX11_sorted 46 = .ok (.lload_n 3, 1) := by decide +kernel
theorem dX11_sorted_47 : decode cX11_sorted 47 = .ok (.aload_n 0, 1) := by decide +kernel
theorem dX11_sorted_48 : decode cX11_sorted 48 = .ok (.getfield 7, 3) := by decide +kernel
theorem dX11_sorted_51 : decode cX11_sorted 51 = .ok (.i2l, 1) := by decide +kernel
theorem dX11_sorted_52 : decode cX11_sorted 52 = .ok (.lmul, 1) := by decide +kernel
theorem dX11_sorted_53 : decode cX11_sorted 53 = .ok (.iload 7, 2) := by decide +kernel
theorem dX11_sorted_55 : decode cX11_sorted 55 = .ok (.i2l, 1) := by decide +kernel
theorem dX11_sorted_56 : decode cX11_sorted 56 = .ok (.ladd, 1) := by decide +kernel
theorem dX11_sorted_57 : decode cX11_sorted 57 = .ok (.goto 4, 3) := by decide +kernel
theorem dX11_sorted_60 : decode cX11_sorted 60 = .ok (.lload_n 3, 1) := by decide +kernel
theorem dX11_sorted_61 : decode cX11_sorted 61 = .ok (.lstore_n 3, 1) := by decide +kernel
theorem dX11_sorted_62 : decode cX11_sorted 62 = .ok (.aload_n 0, 1) := by decide +kernel
theorem dX11_sorted_63 : decode cX11_sorted 63 = .ok (.getfield 17, 3) := by decide +kernel
theorem dX11_sorted_66 : decode cX11_sorted 66 = .ok (.iload 8, 2) := by decide +kernel
theorem dX11_sorted_68 : decode cX11_sorted 68 = .ok (.iaload, 1) := by decide +kernel
theorem dX11_sorted_69 : decode cX11_sorted 69 = .ok (.aload_n 0, 1) := by decide +kernel
theorem dX11_sorted_70 : decode cX11_sorted 70 = .ok (.getfield 7, 3) := by decide +kernel
theorem dX11_sorted_73 : decode cX11_sorted 73 = .ok (.iconst 1, 1) := by decide +kernel
theorem dX11_sorted_74 : decode cX11_sorted 74 = .ok (.isub, 1) := by decide +kernel
theorem dX11_sorted_75 : decode cX11_sorted 75 = .ok (.iload 7, 2) := by decide +kernel
theorem dX11_sorted_77 : decode cX11_sorted 77 = .ok (.isub, 1) := by decide +kernel
theorem dX11_sorted_78 : decode cX11_sorted 78 = .ok (.if_icmp .ne 26, 3) := by decide +kernel
theorem dX11_sorted_81 : decode cX11_sorted 81 = .ok (.lload 5, 2) := by decide +kernel
theorem dX11_sorted_83 : decode cX11_sorted 83 = .ok (.aload_n 0, 1) := by decide +kernel
theorem dX11_sorted_84 : decode cX11_sorted 84 = .ok (.getfield 7, 3) := by decide +kernel
theorem dX11_sorted_87 : decode cX11_sorted 87 = .ok (.i2l, 1) := by decide +kernel
theorem dX11_sorted_88 : decode cX11_sorted 88 = .ok (.lmul, 1) := by decide +kernel
theorem dX11_sorted_89 : decode cX11_sorted 89 = .ok (.aload_n 0, 1) := by decide +kernel
theorem dX11_sorted_90 : decode cX11_sorted 90 = .ok (.getfield 7, 3) := by decide +kernel
theorem dX11_sorted_93 : decode cX11_sorted 93 = .ok (.i2l, 1) := by decide +kernel
theorem dX11_sorted_94 : decode cX11_sorted 94 = .ok (.ladd, 1) := by decide +kernel
theorem dX11_sorted_95 : decode cX11_sorted 95 = .ok (.lconst 1, 1) := by decide +kernel
theorem dX11_sorted_96 : decode cX11_sorted 96 = .ok (.lsub, 1) := by decide +kernel
theorem dX11_sorted_97 : decode cX11_sorted 97 = .ok (.iload 7, 2) := by decide +kernel
theorem dX11_sorted_99 : decode cX11_sorted 99 = .ok (.i2l, 1) := by decide +kernel
theorem dX11_sorted_100 : decode cX11_sorted 100 = .ok (.lsub, 1) := by decide +kernel
theorem dX11_sorted_101 : decode cX11_sorted 101 = .ok (.goto 5, 3) := by decide +kernel
theorem dX11_sorted_104 : decode cX11_sorted 104 = .ok (.lload 5, 2) := by decide +kernel
theorem dX11_sorted_106 : decode cX11_sorted 106 = .ok (.lstore 5, 2) := by decide +kernel
theorem dX11_sorted_108 : decode cX11_sorted 108 = .ok (.iinc 8 1, 3) := by decide +kernel
theorem dX11_sorted_111 : decode cX11_sorted 111 = .ok (.goto (-86), 3) := by decide +kernel
theorem dX11_sorted_114 : decode cX11_sorted 114 = .ok (.iinc 7 1, 3) := by decide +kernel
theorem dX11_sorted_117 : decode cX11_sorted 117 = .ok (.goto (-104), 3) := by decide +kernel
theorem dX11_sorted_120 : decode cX11_sorted 120 = .ok (.lload 5, 2) := by decide +kernel
theorem dX11_sorted_122 : decode cX11_sorted 122 = .ok (.lload_n 3, 1) := by decide +kernel
theorem dX11_sorted_123 : decode cX11_sorted 123 = .ok (.lsub, 1) := by decide +kernel
theorem dX11_sorted_124 : decode cX11_sorted 124 = .ok (.lreturn, 1) := by decide +kernel
set_option maxRecDepth 20000 in
theorem ggX11_product_X11_lay : GoodIn wsX11_product wsX11_lay := goodIn_r _ [10, 1, 3, 11, 12, 13, 14, 15, 16, 17, 18, 19, 20, 21, 22, 23, 24, 25, 26, 27, 28, 29, 30, 31, 32, 33, 34, 35] (by decide +kernel) (by decide +kernel)
set_option maxRecDepth 20000 in
theorem gX11_product_X11_lay : GoodIn wsX11_product (wsV RX11 70 RX11 yX11_lay wsX11_lay) := goodIn_app (goodIn_of _ (by decide +kernel)) ggX11_product_X11_lay
theorem dX11_product_0 : decode cX11_product 0 = .ok (.aload_n 0, 1) := by decide +kernel
theorem dX11_product_1 : decode cX11_product 1 = .ok (.lload_n 1, 1) := by decide +kernel
theorem dX11_product_2 : decode cX11_product 2 = .ok (.invokevirtual 70, 3) := by decide +kernel
theorem dX11_product_5 : decode cX11_product 5 = .ok (.lconst 1, 1) := by decide +kernel
theorem dX11_product_6 : decode cX11_product 6 = .ok (.lstore_n 3, 1) := by decide +kernel
theorem dX11_product_7 : decode cX11_product 7 = .ok (.iconst 0, 1) := by decide +kernel
theorem dX11_product_8 : decode cX11_product 8 = .ok (.istore 5, 2) := by decide +kernel
theorem dX11_product_10 : decode cX11_product 10 = .ok (.iconst 0, 1) := by decide +kernel
theorem dX11_product_11 : decode cX11_product 11 = .ok (.istore 6, 2) := by decide +kernel
theorem dX11_product_13 : decode cX11_product 13 = .ok (.iload 6, 2) := by decide +kernel
theorem dX11_product_15 : decode cX11_product 15 = .ok (.aload_n 0, 1) := by decide +kernel
theorem dX11_product_16 : decode cX11_product 16 = .ok (.getfield 65, 3) := by decide +kernel
theorem dX11_product_19 : decode cX11_product 19 = .ok (.if_icmp .ge 69, 3) := by decide +kernel
theorem dX11_product_22 : decode cX11_product 22 = .ok (.aload_n 0, 1) := by decide +kernel
theorem dX11_product_23 : decode cX11_product 23 = .ok (.getfield 13, 3) := by decide +kernel
theorem dX11_product_26 : decode cX11_product 26 = .ok (.aload_n 0, 1) := by decide +kernel
theorem dX11_product_27 : decode cX11_product 27 = .ok (.getfield 17, 3) := by decide +kernel
theorem dX11_product_30 : decode cX11_product 30 = .ok (.iload 6, 2) := by decide +kernel
theorem dX11_product_32 : decode cX11_product 32 = .ok (.iaload, 1) := by decide +kernel
theorem dX11_product_33 : decode cX11_product 33 = .ok (.iaload, 1) := by decide +kernel
theorem dX11_product_34 : decode cX11_product 34 = .ok (.istore 7, 2) := by decide +kernel
theorem dX11_product_36 : decode cX11_product 36 = .ok (.iload 5, 2) := by decide +kernel
theorem dX11_product_38 : decode cX11_product 38 = .ok (.ifCond .ne 8, 3) := by decide +kernel
theorem dX11_product_41 : decode cX11_product 41 = .ok (.iload 7, 2) := by decide +kernel
theorem dX11_product_43 : decode cX11_product 43 = .ok (.ifCond .ne 7, 3) := by decide +kernel
theorem dX11_product_46 : decode cX11_product 46 = .ok (.iconst 1, 1) := by decide +kernel
theorem dX11_product_47 : decode cX11_product 47 = .ok (.goto 4, 3) := by decide +kernel
theorem dX11_product_50 : decode cX11_product 50 = .ok (.iconst 0, 1) := by decide +kernel
theorem dX11_product_51 : decode cX11_product 51 = .ok (.istore 5, 2) := by decide +kernel
theorem dX11_product_53 : decode cX11_product 53 = .ok (.iload 7, 2) := by decide +kernel
theorem dX11_product_55 : decode cX11_product 55 = .ok (.ifCond .le 21, 3) := by decide +kernel
theorem dX11_product_58 : decode cX11_product 58 = .ok (.lload_n 3, 1) := by decide +kernel
theorem dX11_product_59 : decode cX11_product 59 = .ok (.ldc2_w 68, 3) := by decide +kernel
theorem dX11_product_62 : decode cX11_product 62 = .ok (.iload 7, 2) := by decide +kernel
theorem dX11_product_64 : decode cX11_product 64 = .ok (.i2l, 1) := by decide +kernel
theorem dX11_product_65 : decode cX11_product 65 = .ok (.ldiv, 1) := by decide +kernel
theorem dX11_product_66 : decode cX11_product 66 = .ok (.lcmp, 1) := by decide +kernel
theorem dX11_product_67 : decode cX11_product 67 = .ok (.ifCond .le 9, 3) := by decide +kernel
theorem dX11_product_70 : decode cX11_product 70 = .ok (.ldc2_w 74, 3) := by decide +kernel
theorem dX11_product_73 : decode cX11_product 73 = .ok (.goto 8, 3) := by decide +kernel
theorem dX11_product_76 : decode cX11_product 76 = .ok (.lload_n 3, 1) := by decide +kernel
theorem dX11_product_77 : decode cX11_product 77 = .ok (.iload 7, 2) := by decide +kernel
theorem dX11_product_79 : decode cX11_product 79 = .ok (.i2l, 1) := by decide +kernel
theorem dX11_product_80 : decode cX11_product 80 = .ok (.lmul, 1) := by decide +kernel
theorem dX11_product_81 : decode cX11_product 81 = .ok (.lstore_n 3, 1) := by decide +kernel
theorem dX11_product_82 : decode cX11_product 82 = .ok (.iinc 6 1, 3) := by decide +kernel
theorem dX11_product_85 : decode cX11_product 85 = .ok (.goto (-72), 3) := by decide +kernel
theorem dX11_product_88 : decode cX11_product 88 = .ok (.iload 5, 2) := by decide +kernel
theorem dX11_product_90 : decode cX11_product 90 = .ok (.ifCond .eq 7, 3) := by decide +kernel
theorem dX11_product_93 : decode cX11_product 93 = .ok (.lconst 0, 1) := by decide +kernel
theorem dX11_product_94 : decode cX11_product 94 = .ok (.goto 4, 3) := by decide +kernel
theorem dX11_product_97 : decode cX11_product 97 = .ok (.lload_n 3, 1) := by decide +kernel
theorem dX11_product_98 : decode cX11_product 98 = .ok (.lreturn, 1) := by decide +kernel
set_option maxRecDepth 20000 in
theorem ggX11_stepOf_X11_product : GoodIn wsX11_stepOf wsX11_product := goodIn_r _ [5, 6, 7, 8, 9, 10, 11, 12, 13, 4, 14, 15, 28, 29, 30, 31, 32, 33, 34, 35, 36, 37, 38, 39, 40, 41, 42, 43, 44, 45, 46, 47, 48, 49, 50, 51] (by decide +kernel) (by decide +kernel)
set_option maxRecDepth 20000 in
theorem gX11_stepOf_X11_product : GoodIn wsX11_stepOf (wsV RX11 76 RX11 yX11_product wsX11_product) := goodIn_app (goodIn_of _ (by decide +kernel)) ggX11_stepOf_X11_product
set_option maxRecDepth 20000 in
theorem ggX11_stepOf_X11_sum : GoodIn wsX11_stepOf wsX11_sum := goodIn_r _ [19, 6, 7, 8, 11, 12, 13, 4, 14, 15, 28, 29, 30, 31, 32, 33, 34, 35, 36, 37, 38, 39, 40, 41, 42, 43, 44, 45, 46, 47, 48, 49, 50, 51] (by decide +kernel) (by decide +kernel)
set_option maxRecDepth 20000 in
theorem gX11_stepOf_X11_sum : GoodIn wsX11_stepOf (wsV RX11 80 RX11 yX11_sum wsX11_sum) := goodIn_app (goodIn_of _ (by decide +kernel)) ggX11_stepOf_X11_sum
set_option maxRecDepth 20000 in
theorem ggX11_stepOf_X11_turned : GoodIn wsX11_stepOf wsX11_turned := goodIn_r _ [23, 6, 15, 8, 11, 12, 13, 4, 14, 28, 29, 30, 31, 32, 33, 34, 35, 36, 37, 38, 39, 40, 41, 42, 43, 44, 45, 46, 47, 48, 49, 50, 51] (by decide +kernel) (by decide +kernel)
set_option maxRecDepth 20000 in
theorem gX11_stepOf_X11_turned : GoodIn wsX11_stepOf (wsV RX11 83 RX11 yX11_turned wsX11_turned) := goodIn_app (goodIn_of _ (by decide +kernel)) ggX11_stepOf_X11_turned
set_option maxRecDepth 20000 in
theorem ggX11_stepOf_X11_sorted : GoodIn wsX11_stepOf wsX11_sorted := goodIn_r _ [27, 15, 6, 8, 11, 12, 13, 4, 14, 28, 29, 30, 31, 32, 33, 34, 35, 36, 37, 38, 39, 40, 41, 42, 43, 44, 45, 46, 47, 48, 49, 50, 51] (by decide +kernel) (by decide +kernel)
set_option maxRecDepth 20000 in
theorem gX11_stepOf_X11_sorted : GoodIn wsX11_stepOf (wsV RX11 86 RX11 yX11_sorted wsX11_sorted) := goodIn_app (goodIn_of _ (by decide +kernel)) ggX11_stepOf_X11_sorted
theorem dX11_stepOf_0 : decode cX11_stepOf 0 = .ok (.iload_n 1, 1) := by decide +kernel
theorem dX11_stepOf_1 : decode cX11_stepOf 1 = .ok (.tableswitch 71 0 5 #[45, 51, 57, 65, 71, 39], 39) := by decide +kernel
theorem dX11_stepOf_40 : decode cX11_stepOf 40 = .ok (.aload_n 0, 1) := by decide +kernel
theorem dX11_stepOf_41 : decode cX11_stepOf 41 = .ok (.lload_n 2, 1) := by decide +kernel
theorem dX11_stepOf_42 : decode cX11_stepOf 42 = .ok (.invokevirtual 76, 3) := by decide +kernel
theorem dX11_stepOf_45 : decode cX11_stepOf 45 = .ok (.lreturn, 1) := by decide +kernel
theorem dX11_stepOf_46 : decode cX11_stepOf 46 = .ok (.aload_n 0, 1) := by decide +kernel
theorem dX11_stepOf_47 : decode cX11_stepOf 47 = .ok (.lload_n 2, 1) := by decide +kernel
theorem dX11_stepOf_48 : decode cX11_stepOf 48 = .ok (.invokevirtual 80, 3) := by decide +kernel
theorem dX11_stepOf_51 : decode cX11_stepOf 51 = .ok (.lreturn, 1) := by decide +kernel
theorem dX11_stepOf_52 : decode cX11_stepOf 52 = .ok (.aload_n 0, 1) := by decide +kernel
theorem dX11_stepOf_53 : decode cX11_stepOf 53 = .ok (.lload_n 2, 1) := by decide +kernel
theorem dX11_stepOf_54 : decode cX11_stepOf 54 = .ok (.invokevirtual 83, 3) := by decide +kernel
theorem dX11_stepOf_57 : decode cX11_stepOf 57 = .ok (.lreturn, 1) := by decide +kernel
theorem dX11_stepOf_58 : decode cX11_stepOf 58 = .ok (.lload_n 2, 1) := by decide +kernel
theorem dX11_stepOf_59 : decode cX11_stepOf 59 = .ok (.aload_n 0, 1) := by decide +kernel
theorem dX11_stepOf_60 : decode cX11_stepOf 60 = .ok (.lload_n 2, 1) := by decide +kernel
theorem dX11_stepOf_61 : decode cX11_stepOf 61 = .ok (.invokevirtual 83, 3) := by decide +kernel
theorem dX11_stepOf_64 : decode cX11_stepOf 64 = .ok (.ladd, 1) := by decide +kernel
theorem dX11_stepOf_65 : decode cX11_stepOf 65 = .ok (.lreturn, 1) := by decide +kernel
theorem dX11_stepOf_66 : decode cX11_stepOf 66 = .ok (.aload_n 0, 1) := by decide +kernel
theorem dX11_stepOf_67 : decode cX11_stepOf 67 = .ok (.lload_n 2, 1) := by decide +kernel
theorem dX11_stepOf_68 : decode cX11_stepOf 68 = .ok (.invokevirtual 86, 3) := by decide +kernel
theorem dX11_stepOf_71 : decode cX11_stepOf 71 = .ok (.lreturn, 1) := by decide +kernel
theorem dX11_stepOf_72 : decode cX11_stepOf 72 = .ok (.lload_n 2, 1) := by decide +kernel
theorem dX11_stepOf_73 : decode cX11_stepOf 73 = .ok (.aload_n 0, 1) := by decide +kernel
theorem dX11_stepOf_74 : decode cX11_stepOf 74 = .ok (.lload_n 2, 1) := by decide +kernel
theorem dX11_stepOf_75 : decode cX11_stepOf 75 = .ok (.invokevirtual 80, 3) := by decide +kernel
theorem dX11_stepOf_78 : decode cX11_stepOf 78 = .ok (.ladd, 1) := by decide +kernel
theorem dX11_stepOf_79 : decode cX11_stepOf 79 = .ok (.lreturn, 1) := by decide +kernel
set_option maxRecDepth 20000 in
theorem ggX11_step_X11_in : GoodIn wsX11_step wsX11_in := goodIn_r _ [7] (by decide +kernel) (by decide +kernel)
set_option maxRecDepth 20000 in
theorem gX11_step_X11_in : GoodIn wsX11_step (va_wsS RX11 57 yX11_in wsX11_in) := goodIn_app (goodIn_of _ (by decide +kernel)) ggX11_step_X11_in
set_option maxRecDepth 20000 in
theorem ggX11_step_X11_stepOf : GoodIn wsX11_step wsX11_stepOf := goodIn_r _ [11, 12, 13, 14, 6, 15, 16, 17, 18, 2, 19, 20, 21, 22, 23, 24, 25, 26, 27, 28, 29, 30, 31, 32, 33, 34, 35, 36, 37, 38, 39, 40, 41, 42, 43, 44, 45, 46, 47, 48, 49, 50, 51, 52, 53, 54, 55, 56, 57, 58, 59, 60] (by decide +kernel) (by decide +kernel)
set_option maxRecDepth 20000 in
theorem gX11_step_X11_stepOf : GoodIn wsX11_step (wsV RX11 91 RX11 yX11_stepOf wsX11_stepOf) := goodIn_app (goodIn_of _ (by decide +kernel)) ggX11_step_X11_stepOf
theorem dX11_step_0 : decode cX11_step 0 = .ok (.iload_n 1, 1) := by decide +kernel
theorem dX11_step_1 : decode cX11_step 1 = .ok (.i2l, 1) := by decide +kernel
theorem dX11_step_2 : decode cX11_step 2 = .ok (.lconst 0, 1) := by decide +kernel
theorem dX11_step_3 : decode cX11_step 3 = .ok (.ldc2_w 89, 3) := by decide +kernel
theorem dX11_step_6 : decode cX11_step 6 = .ok (.invokestatic 57, 3) := by decide +kernel
theorem dX11_step_9 : decode cX11_step 9 = .ok (.ifCond .eq 23, 3) := by decide +kernel
theorem dX11_step_12 : decode cX11_step 12 = .ok (.lload_n 2, 1) := by decide +kernel
theorem dX11_step_13 : decode cX11_step 13 = .ok (.lconst 0, 1) := by decide +kernel
theorem dX11_step_14 : decode cX11_step 14 = .ok (.ldc2_w 68, 3) := by decide +kernel
theorem dX11_step_17 : decode cX11_step 17 = .ok (.invokestatic 57, 3) := by decide +kernel
theorem dX11_step_20 : decode cX11_step 20 = .ok (.ifCond .eq 12, 3) := by decide +kernel
theorem dX11_step_23 : decode cX11_step 23 = .ok (.aload_n 0, 1) := by decide +kernel
theorem dX11_step_24 : decode cX11_step 24 = .ok (.iload_n 1, 1) := by decide +kernel
theorem dX11_step_25 : decode cX11_step 25 = .ok (.lload_n 2, 1) := by decide +kernel
theorem dX11_step_26 : decode cX11_step 26 = .ok (.invokevirtual 91, 3) := by decide +kernel
theorem dX11_step_29 : decode cX11_step 29 = .ok (.goto 6, 3) := by decide +kernel
theorem dX11_step_32 : decode cX11_step 32 = .ok (.ldc2_w 95, 3) := by decide +kernel
theorem dX11_step_35 : decode cX11_step 35 = .ok (.lreturn, 1) := by decide +kernel
set_option maxRecDepth 20000 in
theorem ggX11_behind_X11_stepOf : GoodIn wsX11_behind wsX11_stepOf := goodIn_r _ [6, 7, 8, 9, 5, 10, 11, 12, 13, 1, 14, 15, 16, 17, 18, 19, 20, 21, 22, 23, 24, 25, 26, 27, 28, 29, 30, 31, 32, 33, 34, 35, 36, 37, 38, 39, 40, 41, 42, 43, 44, 45, 46, 47, 48, 49, 50, 51, 52, 53, 54, 55] (by decide +kernel) (by decide +kernel)
set_option maxRecDepth 20000 in
theorem gX11_behind_X11_stepOf : GoodIn wsX11_behind (wsV RX11 91 RX11 yX11_stepOf wsX11_stepOf) := goodIn_app (goodIn_of _ (by decide +kernel)) ggX11_behind_X11_stepOf
theorem dX11_behind_0 : decode cX11_behind 0 = .ok (.lload_n 2, 1) := by decide +kernel
theorem dX11_behind_1 : decode cX11_behind 1 = .ok (.lstore 5, 2) := by decide +kernel
theorem dX11_behind_3 : decode cX11_behind 3 = .ok (.iconst 0, 1) := by decide +kernel
theorem dX11_behind_4 : decode cX11_behind 4 = .ok (.istore 7, 2) := by decide +kernel
theorem dX11_behind_6 : decode cX11_behind 6 = .ok (.iload 7, 2) := by decide +kernel
theorem dX11_behind_8 : decode cX11_behind 8 = .ok (.iload 4, 2) := by decide +kernel
theorem dX11_behind_10 : decode cX11_behind 10 = .ok (.if_icmp .ge 27, 3) := by decide +kernel
theorem dX11_behind_13 : decode cX11_behind 13 = .ok (.lload 5, 2) := by decide +kernel
theorem dX11_behind_15 : decode cX11_behind 15 = .ok (.ldc2_w 68, 3) := by decide +kernel
theorem dX11_behind_18 : decode cX11_behind 18 = .ok (.lcmp, 1) := by decide +kernel
theorem dX11_behind_19 : decode cX11_behind 19 = .ok (.ifCond .gt 18, 3) := by decide +kernel
theorem dX11_behind_22 : decode cX11_behind 22 = .ok (.aload_n 0, 1) := by decide +kernel
theorem dX11_behind_23 : decode cX11_behind 23 = .ok (.iload_n 1, 1) := by decide +kernel
theorem dX11_behind_24 : decode cX11_behind 24 = .ok (.lload 5, 2) := by decide +kernel
theorem dX11_behind_26 : decode cX11_behind 26 = .ok (.invokevirtual 91, 3) := by decide +kernel
theorem dX11_behind_29 : decode cX11_behind 29 = .ok (.lstore 5, 2) := by decide +kernel
theorem dX11_behind_31 : decode cX11_behind 31 = .ok (.iinc 7 1, 3) := by decide +kernel
theorem dX11_behind_34 : decode cX11_behind 34 = .ok (.goto (-28), 3) := by decide +kernel
theorem dX11_behind_37 : decode cX11_behind 37 = .ok (.lload 5, 2) := by decide +kernel
theorem dX11_behind_39 : decode cX11_behind 39 = .ok (.lreturn, 1) := by decide +kernel
set_option maxRecDepth 20000 in
theorem ggX11_layChain_X11_stepOf : GoodIn wsX11_layChain wsX11_stepOf := goodIn_r _ [8, 9, 10, 11, 7, 12, 13, 14, 15, 1, 16, 17, 18, 19, 20, 21, 22, 23, 24, 25, 26, 27, 28, 29, 30, 31, 32, 33, 38, 39, 40, 41, 42, 43, 44, 45, 46, 47, 48, 49, 50, 51, 52, 53, 54, 55, 56, 57, 58, 59, 60, 61] (by decide +kernel) (by decide +kernel)
set_option maxRecDepth 20000 in
theorem gX11_layChain_X11_stepOf : GoodIn wsX11_layChain (wsV RX11 91 RX11 yX11_stepOf wsX11_stepOf) := goodIn_app (goodIn_of _ (by decide +kernel)) ggX11_layChain_X11_stepOf
set_option maxRecDepth 20000 in
theorem ggX11_layChain_X11_behind : GoodIn wsX11_layChain wsX11_behind := goodIn_r _ [37, 1, 4, 5, 6, 7, 8, 9, 10, 11, 12, 13, 14, 15, 16, 17, 18, 19, 20, 21, 22, 23, 24, 25, 26, 27, 28, 29, 30, 31, 32, 33, 38, 39, 40, 41, 42, 43, 44, 45, 46, 47, 48, 49, 50, 51, 52, 53, 54, 55, 56, 57, 58, 59, 60, 61] (by decide +kernel) (by decide +kernel)
set_option maxRecDepth 20000 in
theorem gX11_layChain_X11_behind : GoodIn wsX11_layChain (wsV RX11 103 RX11 yX11_behind wsX11_behind) := goodIn_app (goodIn_of _ (by decide +kernel)) ggX11_layChain_X11_behind
theorem dX11_layChain_0 : decode cX11_layChain 0 = .ok (.lload_n 2, 1) := by decide +kernel
theorem dX11_layChain_1 : decode cX11_layChain 1 = .ok (.lstore 4, 2) := by decide +kernel
theorem dX11_layChain_3 : decode cX11_layChain 3 = .ok (.lload_n 2, 1) := by decide +kernel
