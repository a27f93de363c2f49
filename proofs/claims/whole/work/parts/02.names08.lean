theorem dX10_next_1 : decode cX10_next 1 = .ok (.invokestatic 59, 3) := by decide +kernel
theorem dX10_next_4 : decode cX10_next 4 = .ok (.ifCond .eq 14, 3) := by decide +kernel
theorem dX10_next_7 : decode cX10_next 7 = .ok (.aload_n 0, 1) := by decide +kernel
theorem dX10_next_8 : decode cX10_next 8 = .ok (.getfield 28, 3) := by decide +kernel
theorem dX10_next_11 : decode cX10_next 11 = .ok (.lload_n 1, 1) := by decide +kernel
theorem dX10_next_12 : decode cX10_next 12 = .ok (.invokevirtual 151, 3) := by decide +kernel
theorem dX10_next_15 : decode cX10_next 15 = .ok (.goto 6, 3) := by decide +kernel
theorem dX10_next_18 : decode cX10_next 18 = .ok (.ldc2_w 74, 3) := by decide +kernel
theorem dX10_next_21 : decode cX10_next 21 = .ok (.lreturn, 1) := by decide +kernel
set_option maxRecDepth 20000 in
theorem ggX10_made_X10_within : GoodIn wsX10_made wsX10_within := goodIn_r _ [9] (by decide +kernel) (by decide +kernel)
set_option maxRecDepth 20000 in
theorem gX10_made_X10_within : GoodIn wsX10_made (va_wsS RX10 38 yX10_within wsX10_within) := goodIn_app (goodIn_of _ (by decide +kernel)) ggX10_made_X10_within
set_option maxRecDepth 20000 in
theorem ggX10_made_X5_init : GoodIn wsX10_made wsX5_init := goodIn_r _ [12, 13, 14, 15, 16, 17, 18, 19, 20, 21, 22, 87, 88, 89, 90, 91] (by decide +kernel) (by decide +kernel)
set_option maxRecDepth 20000 in
theorem gX10_made_X5_init : GoodIn wsX10_made (wsX5_init) := ggX10_made_X5_init
set_option maxRecDepth 20000 in
theorem ggX10_made_X5_fewestFor : GoodIn wsX10_made wsX5_fewestFor := goodIn_r _ [26, 22, 19, 18, 27, 28, 29, 4, 30, 16, 31, 32, 33, 21, 34, 35, 36, 37, 38, 39, 40, 41, 42, 43, 44, 45, 46, 47, 48, 49, 50, 51, 52, 53, 54, 55, 56, 57, 58, 59, 60, 61, 62, 63, 64, 65, 66, 67, 68, 69, 70, 71, 72, 73, 74, 75, 76, 77, 87, 88, 89, 90, 91, 92, 93, 94, 95, 96, 97] (by decide +kernel) (by decide +kernel)
set_option maxRecDepth 20000 in
theorem gX10_made_X5_fewestFor : GoodIn wsX10_made (wsV RX10 163 RX5 yX5_fewestFor wsX5_fewestFor) := goodIn_app (goodIn_of _ (by decide +kernel)) ggX10_made_X5_fewestFor
theorem dX10_made_0 : decode cX10_made 0 = .ok (.iload_n 1, 1) := by decide +kernel
theorem dX10_made_1 : decode cX10_made 1 = .ok (.iconst 1, 1) := by decide +kernel
theorem dX10_made_2 : decode cX10_made 2 = .ok (.sipush 10000, 3) := by decide +kernel
theorem dX10_made_5 : decode cX10_made 5 = .ok (.invokestatic 38, 3) := by decide +kernel
theorem dX10_made_8 : decode cX10_made 8 = .ok (.ifCond .ne 5, 3) := by decide +kernel
theorem dX10_made_11 : decode cX10_made 11 = .ok (.iconst (-1), 1) := by decide +kernel
theorem dX10_made_12 : decode cX10_made 12 = .ok (.ireturn, 1) := by decide +kernel
theorem dX10_made_13 : decode cX10_made 13 = .ok (.aload_n 0, 1) := by decide +kernel
theorem dX10_made_14 : decode cX10_made 14 = .ok (.getfield 154, 3) := by decide +kernel
theorem dX10_made_17 : decode cX10_made 17 = .ok (.ifnonnull 18, 3) := by decide +kernel
theorem dX10_made_20 : decode cX10_made 20 = .ok (.aload_n 0, 1) := by decide +kernel
theorem dX10_made_21 : decode cX10_made 21 = .ok (.new 158, 3) := by decide +kernel
theorem dX10_made_24 : decode cX10_made 24 = .ok (.dup, 1) := by decide +kernel
theorem dX10_made_25 : decode cX10_made 25 = .ok (.aload_n 0, 1) := by decide +kernel
theorem dX10_made_26 : decode cX10_made 26 = .ok (.getfield 28, 3) := by decide +kernel
theorem dX10_made_29 : decode cX10_made 29 = .ok (.invokespecial 160, 3) := by decide +kernel
theorem dX10_made_32 : decode cX10_made 32 = .ok (.putfield 154, 3) := by decide +kernel
theorem dX10_made_35 : decode cX10_made 35 = .ok (.aload_n 0, 1) := by decide +kernel
theorem dX10_made_36 : decode cX10_made 36 = .ok (.getfield 154, 3) := by decide +kernel
theorem dX10_made_39 : decode cX10_made 39 = .ok (.iload_n 1, 1) := by decide +kernel
theorem dX10_made_40 : decode cX10_made 40 = .ok (.invokevirtual 163, 3) := by decide +kernel
theorem dX10_made_43 : decode cX10_made 43 = .ok (.ireturn, 1) := by decide +kernel
set_option maxRecDepth 20000 in
theorem ggX10_moved_X10_within : GoodIn wsX10_moved wsX10_within := goodIn_r _ [7] (by decide +kernel) (by decide +kernel)
set_option maxRecDepth 20000 in
theorem gX10_moved_X10_within : GoodIn wsX10_moved (va_wsS RX10 38 yX10_within wsX10_within) := goodIn_app (goodIn_of _ (by decide +kernel)) ggX10_moved_X10_within
set_option maxRecDepth 20000 in
theorem ggX10_moved_X10_frontOfMoved : GoodIn wsX10_moved wsX10_frontOfMoved := goodIn_r _ [11, 2, 3, 12, 13, 14, 15, 16, 17, 21, 22, 23, 24, 25, 26, 27, 28, 29, 30, 31, 32, 33, 34] (by decide +kernel) (by decide +kernel)
set_option maxRecDepth 20000 in
theorem gX10_moved_X10_frontOfMoved : GoodIn wsX10_moved (wsV RX10 166 RX10 yX10_frontOfMoved wsX10_frontOfMoved) := goodIn_app (goodIn_of _ (by decide +kernel)) ggX10_moved_X10_frontOfMoved
set_option maxRecDepth 20000 in
theorem ggX10_moved_X10_countOrNone : GoodIn wsX10_moved wsX10_countOrNone := goodIn_r _ [20] (by decide +kernel) (by decide +kernel)
set_option maxRecDepth 20000 in
theorem gX10_moved_X10_countOrNone : GoodIn wsX10_moved (va_wsS RX10 138 yX10_countOrNone wsX10_countOrNone) := goodIn_app (goodIn_of _ (by decide +kernel)) ggX10_moved_X10_countOrNone
theorem dX10_moved_0 : decode cX10_moved 0 = .ok (.iload_n 1, 1) := by decide +kernel
theorem dX10_moved_1 : decode cX10_moved 1 = .ok (.iconst 2, 1) := by decide +kernel
theorem dX10_moved_2 : decode cX10_moved 2 = .ok (.bipush 12, 2) := by decide +kernel
theorem dX10_moved_4 : decode cX10_moved 4 = .ok (.invokestatic 38, 3) := by decide +kernel
theorem dX10_moved_7 : decode cX10_moved 7 = .ok (.ifCond .eq 29, 3) := by decide +kernel
theorem dX10_moved_10 : decode cX10_moved 10 = .ok (.iload_n 2, 1) := by decide +kernel
theorem dX10_moved_11 : decode cX10_moved 11 = .ok (.iconst 1, 1) := by decide +kernel
theorem dX10_moved_12 : decode cX10_moved 12 = .ok (.bipush 15, 2) := by decide +kernel
theorem dX10_moved_14 : decode cX10_moved 14 = .ok (.invokestatic 38, 3) := by decide +kernel
theorem dX10_moved_17 : decode cX10_moved 17 = .ok (.ifCond .eq 19, 3) := by decide +kernel
theorem dX10_moved_20 : decode cX10_moved 20 = .ok (.iload_n 3, 1) := by decide +kernel
theorem dX10_moved_21 : decode cX10_moved 21 = .ok (.iconst 1, 1) := by decide +kernel
theorem dX10_moved_22 : decode cX10_moved 22 = .ok (.bipush 15, 2) := by decide +kernel
theorem dX10_moved_24 : decode cX10_moved 24 = .ok (.invokestatic 38, 3) := by decide +kernel
theorem dX10_moved_27 : decode cX10_moved 27 = .ok (.ifCond .eq 9, 3) := by decide +kernel
theorem dX10_moved_30 : decode cX10_moved 30 = .ok (.iload 4, 2) := by decide +kernel
theorem dX10_moved_32 : decode cX10_moved 32 = .ok (.iconst (-1), 1) := by decide +kernel
theorem dX10_moved_33 : decode cX10_moved 33 = .ok (.if_icmp .ge 7, 3) := by decide +kernel
theorem dX10_moved_36 : decode cX10_moved 36 = .ok (.ldc2_w 74, 3) := by decide +kernel
theorem dX10_moved_39 : decode cX10_moved 39 = .ok (.lreturn, 1) := by decide +kernel
theorem dX10_moved_40 : decode cX10_moved 40 = .ok (.iconst 0, 1) := by decide +kernel
theorem dX10_moved_41 : decode cX10_moved 41 = .ok (.istore 5, 2) := by decide +kernel
theorem dX10_moved_43 : decode cX10_moved 43 = .ok (.iconst 1, 1) := by decide +kernel
theorem dX10_moved_44 : decode cX10_moved 44 = .ok (.istore 6, 2) := by decide +kernel
theorem dX10_moved_46 : decode cX10_moved 46 = .ok (.iload 6, 2) := by decide +kernel
theorem dX10_moved_48 : decode cX10_moved 48 = .ok (.aload_n 0, 1) := by decide +kernel
theorem dX10_moved_49 : decode cX10_moved 49 = .ok (.getfield 10, 3) := by decide +kernel
theorem dX10_moved_52 : decode cX10_moved 52 = .ok (.getfield 42, 3) := by decide +kernel
theorem dX10_moved_55 : decode cX10_moved 55 = .ok (.if_icmp .ge 53, 3) := by decide +kernel
theorem dX10_moved_58 : decode cX10_moved 58 = .ok (.aload_n 0, 1) := by decide +kernel
theorem dX10_moved_59 : decode cX10_moved 59 = .ok (.iload_n 1, 1) := by decide +kernel
theorem dX10_moved_60 : decode cX10_moved 60 = .ok (.iload_n 2, 1) := by decide +kernel
theorem dX10_moved_61 : decode cX10_moved 61 = .ok (.iload_n 3, 1) := by decide +kernel
theorem dX10_moved_62 : decode cX10_moved 62 = .ok (.iload 6, 2) := by decide +kernel
theorem dX10_moved_64 : decode cX10_moved 64 = .ok (.invokevirtual 166, 3) := by decide +kernel
theorem dX10_moved_67 : decode cX10_moved 67 = .ok (.lstore 7, 2) := by decide +kernel
theorem dX10_moved_69 : decode cX10_moved 69 = .ok (.lload 7, 2) := by decide +kernel
theorem dX10_moved_71 : decode cX10_moved 71 = .ok (.lconst 0, 1) := by decide +kernel
theorem dX10_moved_72 : decode cX10_moved 72 = .ok (.lcmp, 1) := by decide +kernel
theorem dX10_moved_73 : decode cX10_moved 73 = .ok (.ifCond .le 29, 3) := by decide +kernel
theorem dX10_moved_76 : decode cX10_moved 76 = .ok (.iload 5, 2) := by decide +kernel
theorem dX10_moved_78 : decode cX10_moved 78 = .ok (.iload 4, 2) := by decide +kernel
theorem dX10_moved_80 : decode cX10_moved 80 = .ok (.if_icmp .ne 19, 3) := by decide +kernel
theorem dX10_moved_83 : decode cX10_moved 83 = .ok (.lload 7, 2) := by decide +kernel
theorem dX10_moved_85 : decode cX10_moved 85 = .ok (.aload_n 0, 1) := by decide +kernel
theorem dX10_moved_86 : decode cX10_moved 86 = .ok (.getfield 10, 3) := by decide +kernel
theorem dX10_moved_89 : decode cX10_moved 89 = .ok (.getfield 42, 3) := by decide +kernel
theorem dX10_moved_92 : decode cX10_moved 92 = .ok (.i2l, 1) := by decide +kernel
theorem dX10_moved_93 : decode cX10_moved 93 = .ok (.lmul, 1) := by decide +kernel
theorem dX10_moved_94 : decode cX10_moved 94 = .ok (.iload 6, 2) := by decide +kernel
theorem dX10_moved_96 : decode cX10_moved 96 = .ok (.i2l, 1) := by decide +kernel
theorem dX10_moved_97 : decode cX10_moved 97 = .ok (.ladd, 1) := by decide +kernel
theorem dX10_moved_98 : decode cX10_moved 98 = .ok (.lreturn, 1) := by decide +kernel
theorem dX10_moved_99 : decode cX10_moved 99 = .ok (.iinc 5 1, 3) := by decide +kernel
theorem dX10_moved_102 : decode cX10_moved 102 = .ok (.iinc 6 1, 3) := by decide +kernel
theorem dX10_moved_105 : decode cX10_moved 105 = .ok (.goto (-59), 3) := by decide +kernel
theorem dX10_moved_108 : decode cX10_moved 108 = .ok (.iload 4, 2) := by decide +kernel
theorem dX10_moved_110 : decode cX10_moved 110 = .ok (.iload 5, 2) := by decide +kernel
theorem dX10_moved_112 : decode cX10_moved 112 = .ok (.invokestatic 138, 3) := by decide +kernel
theorem dX10_moved_115 : decode cX10_moved 115 = .ok (.i2l, 1) := by decide +kernel
theorem dX10_moved_116 : decode cX10_moved 116 = .ok (.lreturn, 1) := by decide +kernel
set_option maxRecDepth 20000 in
theorem ggX10_few_X10_figuresOfBase : GoodIn wsX10_few wsX10_figuresOfBase := goodIn_r _ [5, 6, 7, 66, 67, 68, 69, 70, 71, 72, 73, 74, 75, 76, 77, 78, 79] (by decide +kernel) (by decide +kernel)
set_option maxRecDepth 20000 in
theorem gX10_few_X10_figuresOfBase : GoodIn wsX10_few (wsV RX10 170 RX10 yX10_figuresOfBase wsX10_figuresOfBase) := goodIn_app (goodIn_of _ (by decide +kernel)) ggX10_few_X10_figuresOfBase
set_option maxRecDepth 20000 in
theorem ggX10_few_X10_within : GoodIn wsX10_few wsX10_within := goodIn_r _ [10] (by decide +kernel) (by decide +kernel)
set_option maxRecDepth 20000 in
theorem gX10_few_X10_within : GoodIn wsX10_few (va_wsS RX10 38 yX10_within wsX10_within) := goodIn_app (goodIn_of _ (by decide +kernel)) ggX10_few_X10_within
set_option maxRecDepth 20000 in
theorem ggX10_few_X10_searched : GoodIn wsX10_few wsX10_searched := goodIn_r _ [14, 15, 16, 17, 18, 6, 7, 19, 20, 21, 22, 23, 24, 25, 26, 27, 28, 29, 30, 31, 32, 33, 34, 35, 36, 37, 38, 39, 40, 41, 42, 43, 44, 45, 46, 47, 48, 49, 50, 51, 52, 53, 54, 55, 56, 57, 58, 59, 60, 61, 62, 63, 64, 65, 66, 67, 68, 69, 70, 71, 72, 73, 74, 80, 81, 82, 83, 84, 85, 86, 87, 88, 89, 90, 91, 75, 76, 77, 78, 79] (by decide +kernel) (by decide +kernel)
set_option maxRecDepth 20000 in
theorem gX10_few_X10_searched : GoodIn wsX10_few (wsV RX10 175 RX10 yX10_searched wsX10_searched) := goodIn_app (goodIn_of _ (by decide +kernel)) ggX10_few_X10_searched
theorem dX10_few_0 : decode cX10_few 0 = .ok (.aload_n 0, 1) := by decide +kernel
theorem dX10_few_1 : decode cX10_few 1 = .ok (.iload_n 2, 1) := by decide +kernel
theorem dX10_few_2 : decode cX10_few 2 = .ok (.invokevirtual 170, 3) := by decide +kernel
theorem dX10_few_5 : decode cX10_few 5 = .ok (.istore 4, 2) := by decide +kernel
theorem dX10_few_7 : decode cX10_few 7 = .ok (.iload_n 1, 1) := by decide +kernel
theorem dX10_few_8 : decode cX10_few 8 = .ok (.iconst 1, 1) := by decide +kernel
theorem dX10_few_9 : decode cX10_few 9 = .ok (.sipush 2000, 3) := by decide +kernel
theorem dX10_few_12 : decode cX10_few 12 = .ok (.invokestatic 38, 3) := by decide +kernel
theorem dX10_few_15 : decode cX10_few 15 = .ok (.ifCond .eq 13, 3) := by decide +kernel
theorem dX10_few_18 : decode cX10_few 18 = .ok (.iload 4, 2) := by decide +kernel
theorem dX10_few_20 : decode cX10_few 20 = .ok (.ifCond .eq 8, 3) := by decide +kernel
theorem dX10_few_23 : decode cX10_few 23 = .ok (.iload_n 3, 1) := by decide +kernel
theorem dX10_few_24 : decode cX10_few 24 = .ok (.iconst (-1), 1) := by decide +kernel
theorem dX10_few_25 : decode cX10_few 25 = .ok (.if_icmp .ge 5, 3) := by decide +kernel
theorem dX10_few_28 : decode cX10_few 28 = .ok (.iconst (-1), 1) := by decide +kernel
theorem dX10_few_29 : decode cX10_few 29 = .ok (.ireturn, 1) := by decide +kernel
theorem dX10_few_30 : decode cX10_few 30 = .ok (.aload_n 0, 1) := by decide +kernel
theorem dX10_few_31 : decode cX10_few 31 = .ok (.iconst 0, 1) := by decide +kernel
theorem dX10_few_32 : decode cX10_few 32 = .ok (.iload_n 1, 1) := by decide +kernel
theorem dX10_few_33 : decode cX10_few 33 = .ok (.iload 4, 2) := by decide +kernel
theorem dX10_few_35 : decode cX10_few 35 = .ok (.iload_n 3, 1) := by decide +kernel
theorem dX10_few_36 : decode cX10_few 36 = .ok (.invokevirtual 175, 3) := by decide +kernel
theorem dX10_few_39 : decode cX10_few 39 = .ok (.ireturn, 1) := by decide +kernel
set_option maxRecDepth 20000 in
theorem ggX10_withAll_X10_figuresOfBase : GoodIn wsX10_withAll wsX10_figuresOfBase := goodIn_r _ [5, 6, 7, 73, 74, 75, 76, 77, 78, 79, 80, 81, 82, 83, 84, 85, 86] (by decide +kernel) (by decide +kernel)
set_option maxRecDepth 20000 in
theorem gX10_withAll_X10_figuresOfBase : GoodIn wsX10_withAll (wsV RX10 170 RX10 yX10_figuresOfBase wsX10_figuresOfBase) := goodIn_app (goodIn_of _ (by decide +kernel)) ggX10_withAll_X10_figuresOfBase
set_option maxRecDepth 20000 in
theorem ggX10_withAll_X10_within : GoodIn wsX10_withAll wsX10_within := goodIn_r _ [10] (by decide +kernel) (by decide +kernel)
set_option maxRecDepth 20000 in
theorem gX10_withAll_X10_within : GoodIn wsX10_withAll (va_wsS RX10 38 yX10_within wsX10_within) := goodIn_app (goodIn_of _ (by decide +kernel)) ggX10_withAll_X10_within
set_option maxRecDepth 20000 in
theorem ggX10_withAll_J6_bitCount_0f7a4 : GoodIn wsX10_withAll wsJ6_bitCount_0f7a4 := goodIn_r _ [14, 15, 16, 17] (by decide +kernel) (by decide +kernel)
set_option maxRecDepth 20000 in
theorem gX10_withAll_J6_bitCount_0f7a4 : GoodIn wsX10_withAll (va_wsS RX10 179 yJ6_bitCount_0f7a4 wsJ6_bitCount_0f7a4) := goodIn_app (goodIn_of _ (by decide +kernel)) ggX10_withAll_J6_bitCount_0f7a4
set_option maxRecDepth 20000 in
theorem ggX10_withAll_X10_searched : GoodIn wsX10_withAll wsX10_searched := goodIn_r _ [21, 22, 23, 24, 25, 6, 7, 26, 27, 28, 29, 30, 31, 32, 33, 34, 35, 36, 37, 38, 39, 40, 41, 42, 43, 44, 45, 46, 47, 48, 49, 50, 51, 52, 53, 54, 55, 56, 57, 58, 59, 60, 61, 62, 63, 64, 65, 66, 67, 68, 69, 70, 71, 72, 73, 74, 75, 76, 77, 78, 79, 80, 81, 87, 88, 89, 90, 91, 92, 93, 94, 95, 96, 97, 98, 82, 83, 84, 85, 86] (by decide +kernel) (by decide +kernel)
set_option maxRecDepth 20000 in
theorem gX10_withAll_X10_searched : GoodIn wsX10_withAll (wsV RX10 175 RX10 yX10_searched wsX10_searched) := goodIn_app (goodIn_of _ (by decide +kernel)) ggX10_withAll_X10_searched
theorem dX10_withAll_0 : decode cX10_withAll 0 = .ok (.aload_n 0, 1) := by decide +kernel
theorem dX10_withAll_1 : decode cX10_withAll 1 = .ok (.iload_n 2, 1) := by decide +kernel
theorem dX10_withAll_2 : decode cX10_withAll 2 = .ok (.invokevirtual 170, 3) := by decide +kernel
theorem dX10_withAll_5 : decode cX10_withAll 5 = .ok (.istore 4, 2) := by decide +kernel
theorem dX10_withAll_7 : decode cX10_withAll 7 = .ok (.iload_n 1, 1) := by decide +kernel
theorem dX10_withAll_8 : decode cX10_withAll 8 = .ok (.iconst 1, 1) := by decide +kernel
theorem dX10_withAll_9 : decode cX10_withAll 9 = .ok (.sipush 200, 3) := by decide +kernel
theorem dX10_withAll_12 : decode cX10_withAll 12 = .ok (.invokestatic 38, 3) := by decide +kernel
theorem dX10_withAll_15 : decode cX10_withAll 15 = .ok (.ifCond .eq 22, 3) := by decide +kernel
theorem dX10_withAll_18 : decode cX10_withAll 18 = .ok (.iload 4, 2) := by decide +kernel
theorem dX10_withAll_20 : decode cX10_withAll 20 = .ok (.invokestatic 179, 3) := by decide +kernel
theorem dX10_withAll_23 : decode cX10_withAll 23 = .ok (.iconst 1, 1) := by decide +kernel
theorem dX10_withAll_24 : decode cX10_withAll 24 = .ok (.bipush 8, 2) := by decide +kernel
theorem dX10_withAll_26 : decode cX10_withAll 26 = .ok (.invokestatic 38, 3) := by decide +kernel
theorem dX10_withAll_29 : decode cX10_withAll 29 = .ok (.ifCond .eq 8, 3) := by decide +kernel
theorem dX10_withAll_32 : decode cX10_withAll 32 = .ok (.iload_n 3, 1) := by decide +kernel
theorem dX10_withAll_33 : decode cX10_withAll 33 = .ok (.iconst (-1), 1) := by decide +kernel
theorem dX10_withAll_34 : decode cX10_withAll 34 = .ok (.if_icmp .ge 5, 3) := by decide +kernel
theorem dX10_withAll_37 : decode cX10_withAll 37 = .ok (.iconst (-1), 1) := by decide +kernel
theorem dX10_withAll_38 : decode cX10_withAll 38 = .ok (.ireturn, 1) := by decide +kernel
theorem dX10_withAll_39 : decode cX10_withAll 39 = .ok (.aload_n 0, 1) := by decide +kernel
theorem dX10_withAll_40 : decode cX10_withAll 40 = .ok (.iconst 1, 1) := by decide +kernel
theorem dX10_withAll_41 : decode cX10_withAll 41 = .ok (.iload_n 1, 1) := by decide +kernel
theorem dX10_withAll_42 : decode cX10_withAll 42 = .ok (.iload 4, 2) := by decide +kernel
theorem dX10_withAll_44 : decode cX10_withAll 44 = .ok (.iload_n 3, 1) := by decide +kernel
theorem dX10_withAll_45 : decode cX10_withAll 45 = .ok (.invokevirtual 175, 3) := by decide +kernel
theorem dX10_withAll_48 : decode cX10_withAll 48 = .ok (.ireturn, 1) := by decide +kernel
set_option maxRecDepth 20000 in
theorem ggX10_summed_X10_within : GoodIn wsX10_summed wsX10_within := goodIn_r _ [4] (by decide +kernel) (by decide +kernel)
set_option maxRecDepth 20000 in
theorem gX10_summed_X10_within : GoodIn wsX10_summed (va_wsS RX10 38 yX10_within wsX10_within) := goodIn_app (goodIn_of _ (by decide +kernel)) ggX10_summed_X10_within
set_option maxRecDepth 20000 in
theorem ggX10_summed_X10_searched : GoodIn wsX10_summed wsX10_searched := goodIn_r _ [8, 9, 10, 11, 12, 13, 14, 15, 16, 17, 18, 19, 20, 21, 22, 23, 24, 25, 26, 27, 28, 29, 30, 31, 32, 33, 34, 35, 36, 37, 38, 39, 40, 41, 42, 43, 44, 45, 46, 47, 48, 49, 50, 51, 52, 53, 54, 55, 56, 57, 58, 59, 60, 61, 62, 63, 64, 65, 66, 67, 68, 69, 70, 71, 72, 73, 74, 75, 76, 77, 78, 79, 80, 81, 82, 83, 84, 85, 86, 87] (by decide +kernel) (by decide +kernel)
set_option maxRecDepth 20000 in
theorem gX10_summed_X10_searched : GoodIn wsX10_summed (wsV RX10 175 RX10 yX10_searched wsX10_searched) := goodIn_app (goodIn_of _ (by decide +kernel)) ggX10_summed_X10_searched
theorem dX10_summed_0 : decode cX10_summed 0 = .ok (.iload_n 1, 1) := by decide +kernel
theorem dX10_summed_1 : decode cX10_summed 1 = .ok (.iconst 1, 1) := by decide +kernel
theorem dX10_summed_2 : decode cX10_summed 2 = .ok (.sipush 300, 3) := by decide +kernel
theorem dX10_summed_5 : decode cX10_summed 5 = .ok (.invokestatic 38, 3) := by decide +kernel
theorem dX10_summed_8 : decode cX10_summed 8 = .ok (.ifCond .eq 18, 3) := by decide +kernel
theorem dX10_summed_11 : decode cX10_summed 11 = .ok (.iload_n 2, 1) := by decide +kernel
theorem dX10_summed_12 : decode cX10_summed 12 = .ok (.iconst 1, 1) := by decide +kernel
theorem dX10_summed_13 : decode cX10_summed 13 = .ok (.bipush 60, 2) := by decide +kernel
theorem dX10_summed_15 : decode cX10_summed 15 = .ok (.invokestatic 38, 3) := by decide +kernel
theorem dX10_summed_18 : decode cX10_summed 18 = .ok (.ifCond .eq 8, 3) := by decide +kernel
theorem dX10_summed_21 : decode cX10_summed 21 = .ok (.iload_n 3, 1) := by decide +kernel
theorem dX10_summed_22 : decode cX10_summed 22 = .ok (.iconst (-1), 1) := by decide +kernel
theorem dX10_summed_23 : decode cX10_summed 23 = .ok (.if_icmp .ge 5, 3) := by decide +kernel
theorem dX10_summed_26 : decode cX10_summed 26 = .ok (.iconst (-1), 1) := by decide +kernel
theorem dX10_summed_27 : decode cX10_summed 27 = .ok (.ireturn, 1) := by decide +kernel
theorem dX10_summed_28 : decode cX10_summed 28 = .ok (.aload_n 0, 1) := by decide +kernel
theorem dX10_summed_29 : decode cX10_summed 29 = .ok (.iconst 2, 1) := by decide +kernel
theorem dX10_summed_30 : decode cX10_summed 30 = .ok (.iload_n 1, 1) := by decide +kernel
theorem dX10_summed_31 : decode cX10_summed 31 = .ok (.iload_n 2, 1) := by decide +kernel
theorem dX10_summed_32 : decode cX10_summed 32 = .ok (.iload_n 3, 1) := by decide +kernel
theorem dX10_summed_33 : decode cX10_summed 33 = .ok (.invokevirtual 175, 3) := by decide +kernel
theorem dX10_summed_36 : decode cX10_summed 36 = .ok (.ireturn, 1) := by decide +kernel
set_option maxRecDepth 20000 in
theorem ggX10_again_X10_within : GoodIn wsX10_again wsX10_within := goodIn_r _ [6] (by decide +kernel) (by decide +kernel)
set_option maxRecDepth 20000 in
theorem gX10_again_X10_within : GoodIn wsX10_again (va_wsS RX10 38 yX10_within wsX10_within) := goodIn_app (goodIn_of _ (by decide +kernel)) ggX10_again_X10_within
set_option maxRecDepth 20000 in
theorem ggX10_again_X1_split : GoodIn wsX10_again wsX1_split := goodIn_r _ [11, 12, 13, 27, 28, 29, 30, 31] (by decide +kernel) (by decide +kernel)
set_option maxRecDepth 20000 in
theorem gX10_again_X1_split : GoodIn wsX10_again (wsV RX10 63 RX1 yX1_split wsX1_split) := goodIn_app (goodIn_of _ (by decide +kernel)) ggX10_again_X1_split
set_option maxRecDepth 20000 in
theorem ggX10_again_X1_power : GoodIn wsX10_again wsX1_power := goodIn_r _ [17, 13, 27, 28, 29, 30, 31] (by decide +kernel) (by decide +kernel)
set_option maxRecDepth 20000 in
theorem gX10_again_X1_power : GoodIn wsX10_again (wsV RX10 184 RX1 yX1_power wsX1_power) := goodIn_app (goodIn_of _ (by decide +kernel)) ggX10_again_X1_power
theorem dX10_again_0 : decode cX10_again 0 = .ok (.iload_n 1, 1) := by decide +kernel
theorem dX10_again_1 : decode cX10_again 1 = .ok (.iconst 1, 1) := by decide +kernel
theorem dX10_again_2 : decode cX10_again 2 = .ok (.ldc 50, 2) := by decide +kernel
theorem dX10_again_4 : decode cX10_again 4 = .ok (.invokestatic 38, 3) := by decide +kernel
theorem dX10_again_7 : decode cX10_again 7 = .ok (.ifCond .eq 14, 3) := by decide +kernel
theorem dX10_again_10 : decode cX10_again 10 = .ok (.iload_n 2, 1) := by decide +kernel
theorem dX10_again_11 : decode cX10_again 11 = .ok (.iconst 1, 1) := by decide +kernel
theorem dX10_again_12 : decode cX10_again 12 = .ok (.sipush 20000, 3) := by decide +kernel
theorem dX10_again_15 : decode cX10_again 15 = .ok (.invokestatic 38, 3) := by decide +kernel
theorem dX10_again_18 : decode cX10_again 18 = .ok (.ifCond .ne 5, 3) := by decide +kernel
theorem dX10_again_21 : decode cX10_again 21 = .ok (.iconst (-1), 1) := by decide +kernel
theorem dX10_again_22 : decode cX10_again 22 = .ok (.ireturn, 1) := by decide +kernel
theorem dX10_again_23 : decode cX10_again 23 = .ok (.aload_n 0, 1) := by decide +kernel
theorem dX10_again_24 : decode cX10_again 24 = .ok (.getfield 10, 3) := by decide +kernel
theorem dX10_again_27 : decode cX10_again 27 = .ok (.aload_n 0, 1) := by decide +kernel
theorem dX10_again_28 : decode cX10_again 28 = .ok (.getfield 10, 3) := by decide +kernel
theorem dX10_again_31 : decode cX10_again 31 = .ok (.iload_n 1, 1) := by decide +kernel
theorem dX10_again_32 : decode cX10_again 32 = .ok (.i2l, 1) := by decide +kernel
theorem dX10_again_33 : decode cX10_again 33 = .ok (.invokevirtual 63, 3) := by decide +kernel
theorem dX10_again_36 : decode cX10_again 36 = .ok (.invokevirtual 184, 3) := by decide +kernel
theorem dX10_again_39 : decode cX10_again 39 = .ok (.iload_n 2, 1) := by decide +kernel
theorem dX10_again_40 : decode cX10_again 40 = .ok (.i2l, 1) := by decide +kernel
theorem dX10_again_41 : decode cX10_again 41 = .ok (.lrem, 1) := by decide +kernel
theorem dX10_again_42 : decode cX10_again 42 = .ok (.lstore_n 3, 1) := by decide +kernel
theorem dX10_again_43 : decode cX10_again 43 = .ok (.iload_n 1, 1) := by decide +kernel
theorem dX10_again_44 : decode cX10_again 44 = .ok (.iload_n 2, 1) := by decide +kernel
theorem dX10_again_45 : decode cX10_again 45 = .ok (.irem, 1) := by decide +kernel
theorem dX10_again_46 : decode cX10_again 46 = .ok (.i2l, 1) := by decide +kernel
theorem dX10_again_47 : decode cX10_again 47 = .ok (.lstore 5, 2) := by decide +kernel
theorem dX10_again_49 : decode cX10_again 49 = .ok (.lconst 0, 1) := by decide +kernel
theorem dX10_again_50 : decode cX10_again 50 = .ok (.lstore 7, 2) := by decide +kernel
theorem dX10_again_52 : decode cX10_again 52 = .ok (.iconst 1, 1) := by decide +kernel
theorem dX10_again_53 : decode cX10_again 53 = .ok (.istore 9, 2) := by decide +kernel
theorem dX10_again_55 : decode cX10_again 55 = .ok (.iload 9, 2) := by decide +kernel
theorem dX10_again_57 : decode cX10_again 57 = .ok (.iload_n 2, 1) := by decide +kernel
theorem dX10_again_58 : decode cX10_again 58 = .ok (.if_icmp .gt 31, 3) := by decide +kernel
theorem dX10_again_61 : decode cX10_again 61 = .ok (.lload 7, 2) := by decide +kernel
theorem dX10_again_63 : decode cX10_again 63 = .ok (.lload_n 3, 1) := by decide +kernel
theorem dX10_again_64 : decode cX10_again 64 = .ok (.lmul, 1) := by decide +kernel
theorem dX10_again_65 : decode cX10_again 65 = .ok (.lload 5, 2) := by decide +kernel
theorem dX10_again_67 : decode cX10_again 67 = .ok (.ladd, 1) := by decide +kernel
theorem dX10_again_68 : decode cX10_again 68 = .ok (.iload_n 2, 1) := by decide +kernel
theorem dX10_again_69 : decode cX10_again 69 = .ok (.i2l, 1) := by decide +kernel
theorem dX10_again_70 : decode cX10_again 70 = .ok (.lrem, 1) := by decide +kernel
theorem dX10_again_71 : decode cX10_again 71 = .ok (.lstore 7, 2) := by decide +kernel
theorem dX10_again_73 : decode cX10_again 73 = .ok (.lload 7, 2) := by decide +kernel
theorem dX10_again_75 : decode cX10_again 75 = .ok (.lconst 0, 1) := by decide +kernel
theorem dX10_again_76 : decode cX10_again 76 = .ok (.lcmp, 1) := by decide +kernel
theorem dX10_again_77 : decode cX10_again 77 = .ok (.ifCond .ne 6, 3) := by decide +kernel
theorem dX10_again_80 : decode cX10_again 80 = .ok (.iload 9, 2) := by decide +kernel
theorem dX10_again_82 : decode cX10_again 82 = .ok (.ireturn, 1) := by decide +kernel
theorem dX10_again_83 : decode cX10_again 83 = .ok (.iinc 9 1, 3) := by decide +kernel
theorem dX10_again_86 : decode cX10_again 86 = .ok (.goto (-31), 3) := by decide +kernel
theorem dX10_again_89 : decode cX10_again 89 = .ok (.bipush (-4), 2) := by decide +kernel
theorem dX10_again_91 : decode cX10_again 91 = .ok (.ireturn, 1) := by decide +kernel
set_option maxRecDepth 20000 in
theorem ggX10_narrow_X10_within : GoodIn wsX10_narrow wsX10_within := goodIn_r _ [13] (by decide +kernel) (by decide +kernel)
set_option maxRecDepth 20000 in
theorem gX10_narrow_X10_within : GoodIn wsX10_narrow (va_wsS RX10 38 yX10_within wsX10_within) := goodIn_app (goodIn_of _ (by decide +kernel)) ggX10_narrow_X10_within
set_option maxRecDepth 20000 in
theorem ggX10_narrow_X4_init : GoodIn wsX10_narrow wsX4_init := goodIn_r _ [15, 16, 17, 18, 19, 20, 21, 22, 23, 24, 25, 26, 27, 28, 29, 79, 80, 81, 82, 83, 84, 85, 86, 87, 88] (by decide +kernel) (by decide +kernel)
set_option maxRecDepth 20000 in
theorem gX10_narrow_X4_init_n193 : GoodIn wsX10_narrow (wsX4_init) := ggX10_narrow_X4_init
set_option maxRecDepth 20000 in
theorem ggX10_narrow_X4_seek : GoodIn wsX10_narrow wsX4_seek := goodIn_r _ [33, 25, 26, 27, 20, 21, 28, 29, 24, 34, 35, 5, 36, 37, 38, 39, 40, 41, 42, 43, 44, 45, 46, 47, 22, 48, 49, 50, 51, 23, 52, 53, 54, 55, 56, 57, 58, 59, 60, 61, 19, 62, 63, 64, 65, 66, 79, 80, 81, 82, 83, 84, 85, 86, 87, 88] (by decide +kernel) (by decide +kernel)
set_option maxRecDepth 20000 in
theorem gX10_narrow_X4_seek : GoodIn wsX10_narrow (wsV RX10 194 RX4 yX4_seek wsX4_seek) := goodIn_app (goodIn_of _ (by decide +kernel)) ggX10_narrow_X4_seek
set_option maxRecDepth 20000 in
theorem ggX10_narrow_X10_countOrNone : GoodIn wsX10_narrow wsX10_countOrNone := goodIn_r _ [69] (by decide +kernel) (by decide +kernel)
set_option maxRecDepth 20000 in
theorem gX10_narrow_X10_countOrNone : GoodIn wsX10_narrow (va_wsS RX10 138 yX10_countOrNone wsX10_countOrNone) := goodIn_app (goodIn_of _ (by decide +kernel)) ggX10_narrow_X10_countOrNone
theorem dX10_narrow_0 : decode cX10_narrow 0 = .ok (.iload_n 1, 1) := by decide +kernel
theorem dX10_narrow_1 : decode cX10_narrow 1 = .ok (.iconst 1, 1) := by decide +kernel
theorem dX10_narrow_2 : decode cX10_narrow 2 = .ok (.bipush 6, 2) := by decide +kernel
theorem dX10_narrow_4 : decode cX10_narrow 4 = .ok (.invokestatic 38, 3) := by decide +kernel
theorem dX10_narrow_7 : decode cX10_narrow 7 = .ok (.ifCond .eq 18, 3) := by decide +kernel
theorem dX10_narrow_10 : decode cX10_narrow 10 = .ok (.iload_n 2, 1) := by decide +kernel
theorem dX10_narrow_11 : decode cX10_narrow 11 = .ok (.iconst 1, 1) := by decide +kernel
theorem dX10_narrow_12 : decode cX10_narrow 12 = .ok (.bipush 6, 2) := by decide +kernel
theorem dX10_narrow_14 : decode cX10_narrow 14 = .ok (.invokestatic 38, 3) := by decide +kernel
theorem dX10_narrow_17 : decode cX10_narrow 17 = .ok (.ifCond .eq 8, 3) := by decide +kernel
theorem dX10_narrow_20 : decode cX10_narrow 20 = .ok (.iload_n 3, 1) := by decide +kernel
theorem dX10_narrow_21 : decode cX10_narrow 21 = .ok (.iconst (-1), 1) := by decide +kernel
theorem dX10_narrow_22 : decode cX10_narrow 22 = .ok (.if_icmp .ge 7, 3) := by decide +kernel
theorem dX10_narrow_25 : decode cX10_narrow 25 = .ok (.ldc2_w 74, 3) := by decide +kernel
theorem dX10_narrow_28 : decode cX10_narrow 28 = .ok (.lreturn, 1) := by decide +kernel
theorem dX10_narrow_29 : decode cX10_narrow 29 = .ok (.aload_n 0, 1) := by decide +kernel
theorem dX10_narrow_30 : decode cX10_narrow 30 = .ok (.getfield 187, 3) := by decide +kernel
theorem dX10_narrow_33 : decode cX10_narrow 33 = .ok (.ifnonnull 14, 3) := by decide +kernel
theorem dX10_narrow_36 : decode cX10_narrow 36 = .ok (.aload_n 0, 1) := by decide +kernel
theorem dX10_narrow_37 : decode cX10_narrow 37 = .ok (.new 191, 3) := by decide +kernel
theorem dX10_narrow_40 : decode cX10_narrow 40 = .ok (.dup, 1) := by decide +kernel
theorem dX10_narrow_41 : decode cX10_narrow 41 = .ok (.invokespecial 193, 3) := by decide +kernel
theorem dX10_narrow_44 : decode cX10_narrow 44 = .ok (.putfield 187, 3) := by decide +kernel
theorem dX10_narrow_47 : decode cX10_narrow 47 = .ok (.aload_n 0, 1) := by decide +kernel
theorem dX10_narrow_48 : decode cX10_narrow 48 = .ok (.getfield 187, 3) := by decide +kernel
theorem dX10_narrow_51 : decode cX10_narrow 51 = .ok (.aload_n 0, 1) := by decide +kernel
theorem dX10_narrow_52 : decode cX10_narrow 52 = .ok (.getfield 10, 3) := by decide +kernel
theorem dX10_narrow_55 : decode cX10_narrow 55 = .ok (.getfield 42, 3) := by decide +kernel
theorem dX10_narrow_58 : decode cX10_narrow 58 = .ok (.iload_n 1, 1) := by decide +kernel
theorem dX10_narrow_59 : decode cX10_narrow 59 = .ok (.iload_n 2, 1) := by decide +kernel
theorem dX10_narrow_60 : decode cX10_narrow 60 = .ok (.invokevirtual 194, 3) := by decide +kernel
theorem dX10_narrow_63 : decode cX10_narrow 63 = .ok (.iload_n 3, 1) := by decide +kernel
theorem dX10_narrow_64 : decode cX10_narrow 64 = .ok (.ifCond .lt 27, 3) := by decide +kernel
theorem dX10_narrow_67 : decode cX10_narrow 67 = .ok (.iload_n 3, 1) := by decide +kernel
theorem dX10_narrow_68 : decode cX10_narrow 68 = .ok (.aload_n 0, 1) := by decide +kernel
theorem dX10_narrow_69 : decode cX10_narrow 69 = .ok (.getfield 187, 3) := by decide +kernel
theorem dX10_narrow_72 : decode cX10_narrow 72 = .ok (.getfield 198, 3) := by decide +kernel
theorem dX10_narrow_75 : decode cX10_narrow 75 = .ok (.if_icmp .ge 16, 3) := by decide +kernel
theorem dX10_narrow_78 : decode cX10_narrow 78 = .ok (.aload_n 0, 1) := by decide +kernel
theorem dX10_narrow_79 : decode cX10_narrow 79 = .ok (.getfield 187, 3) := by decide +kernel
theorem dX10_narrow_82 : decode cX10_narrow 82 = .ok (.getfield 201, 3) := by decide +kernel
theorem dX10_narrow_85 : decode cX10_narrow 85 = .ok (.iload_n 3, 1) := by decide +kernel
theorem dX10_narrow_86 : decode cX10_narrow 86 = .ok (.iaload, 1) := by decide +kernel
theorem dX10_narrow_87 : decode cX10_narrow 87 = .ok (.i2l, 1) := by decide +kernel
theorem dX10_narrow_88 : decode cX10_narrow 88 = .ok (.goto 15, 3) := by decide +kernel
theorem dX10_narrow_91 : decode cX10_narrow 91 = .ok (.iload_n 3, 1) := by decide +kernel
theorem dX10_narrow_92 : decode cX10_narrow 92 = .ok (.aload_n 0, 1) := by decide +kernel
theorem dX10_narrow_93 : decode cX10_narrow 93 = .ok (.getfield 187, 3) := by decide +kernel
theorem dX10_narrow_96 : decode cX10_narrow 96 = .ok (.getfield 198, 3) := by decide +kernel
theorem dX10_narrow_99 : decode cX10_narrow 99 = .ok (.invokestatic 138, 3) := by decide +kernel
theorem dX10_narrow_102 : decode cX10_narrow 102 = .ok (.i2l, 1) := by decide +kernel
theorem dX10_narrow_103 : decode cX10_narrow 103 = .ok (.lreturn, 1) := by decide +kernel
set_option maxRecDepth 20000 in
theorem ggX10_bare_X10_within : GoodIn wsX10_bare wsX10_within := goodIn_r _ [4] (by decide +kernel) (by decide +kernel)
set_option maxRecDepth 20000 in
theorem gX10_bare_X10_within : GoodIn wsX10_bare (va_wsS RX10 38 yX10_within wsX10_within) := goodIn_app (goodIn_of _ (by decide +kernel)) ggX10_bare_X10_within
set_option maxRecDepth 20000 in
theorem ggX10_bare_X10_liftsNow : GoodIn wsX10_bare wsX10_liftsNow := goodIn_r _ [8, 9, 10, 11, 12, 13, 14, 15, 16, 17, 18, 19, 20, 21, 22, 23, 24, 25, 26, 27, 28, 29, 30, 31, 32, 39, 40, 41, 42, 43, 44, 45, 46, 47, 48, 49, 50, 51, 52, 53, 54, 55, 56] (by decide +kernel) (by decide +kernel)
set_option maxRecDepth 20000 in
theorem gX10_bare_X10_liftsNow : GoodIn wsX10_bare (wsV RX10 204 RX10 yX10_liftsNow wsX10_liftsNow) := goodIn_app (goodIn_of _ (by decide +kernel)) ggX10_bare_X10_liftsNow
set_option maxRecDepth 20000 in
theorem ggX10_bare_X2_unreachedAt : GoodIn wsX10_bare wsX2_unreachedAt := goodIn_r _ [36, 24, 37, 3, 38, 48, 49, 50, 51] (by decide +kernel) (by decide +kernel)
set_option maxRecDepth 20000 in
theorem gX10_bare_X2_unreachedAt : GoodIn wsX10_bare (wsV RX10 208 RX2 yX2_unreachedAt wsX2_unreachedAt) := goodIn_app (goodIn_of _ (by decide +kernel)) ggX10_bare_X2_unreachedAt
theorem dX10_bare_0 : decode cX10_bare 0 = .ok (.iload_n 1, 1) := by decide +kernel
theorem dX10_bare_1 : decode cX10_bare 1 = .ok (.iconst 0, 1) := by decide +kernel
theorem dX10_bare_2 : decode cX10_bare 2 = .ok (.sipush 20000, 3) := by decide +kernel
theorem dX10_bare_5 : decode cX10_bare 5 = .ok (.invokestatic 38, 3) := by decide +kernel
theorem dX10_bare_8 : decode cX10_bare 8 = .ok (.ifCond .eq 8, 3) := by decide +kernel
theorem dX10_bare_11 : decode cX10_bare 11 = .ok (.iload_n 2, 1) := by decide +kernel
theorem dX10_bare_12 : decode cX10_bare 12 = .ok (.iconst (-1), 1) := by decide +kernel
theorem dX10_bare_13 : decode cX10_bare 13 = .ok (.if_icmp .ge 5, 3) := by decide +kernel
theorem dX10_bare_16 : decode cX10_bare 16 = .ok (.iconst (-1), 1) := by decide +kernel
theorem dX10_bare_17 : decode cX10_bare 17 = .ok (.ireturn, 1) := by decide +kernel
theorem dX10_bare_18 : decode cX10_bare 18 = .ok (.aload_n 0, 1) := by decide +kernel
theorem dX10_bare_19 : decode cX10_bare 19 = .ok (.invokevirtual 204, 3) := by decide +kernel
theorem dX10_bare_22 : decode cX10_bare 22 = .ok (.iload_n 1, 1) := by decide +kernel
theorem dX10_bare_23 : decode cX10_bare 23 = .ok (.iload_n 2, 1) := by decide +kernel
theorem dX10_bare_24 : decode cX10_bare 24 = .ok (.invokevirtual 208, 3) := by decide +kernel
theorem dX10_bare_27 : decode cX10_bare 27 = .ok (.ireturn, 1) := by decide +kernel
set_option maxRecDepth 20000 in
theorem ggX10_raised_X10_within : GoodIn wsX10_raised wsX10_within := goodIn_r _ [4] (by decide +kernel) (by decide +kernel)
set_option maxRecDepth 20000 in
theorem gX10_raised_X10_within : GoodIn wsX10_raised (va_wsS RX10 38 yX10_within wsX10_within) := goodIn_app (goodIn_of _ (by decide +kernel)) ggX10_raised_X10_within
set_option maxRecDepth 20000 in
theorem ggX10_raised_X10_liftsNow : GoodIn wsX10_raised wsX10_liftsNow := goodIn_r _ [8, 9, 10, 11, 12, 13, 14, 15, 16, 17, 18, 19, 20, 21, 22, 23, 24, 25, 26, 27, 28, 29, 30, 31, 32, 39, 40, 41, 42, 43, 44, 45, 46, 47, 48, 49, 50, 51, 52, 53, 54, 55, 56] (by decide +kernel) (by decide +kernel)
set_option maxRecDepth 20000 in
theorem gX10_raised_X10_liftsNow : GoodIn wsX10_raised (wsV RX10 204 RX10 yX10_liftsNow wsX10_liftsNow) := goodIn_app (goodIn_of _ (by decide +kernel)) ggX10_raised_X10_liftsNow
set_option maxRecDepth 20000 in
theorem ggX10_raised_X2_liftedTo : GoodIn wsX10_raised wsX2_liftedTo := goodIn_r _ [36, 22, 37, 3, 38, 48, 49, 50, 51] (by decide +kernel) (by decide +kernel)
set_option maxRecDepth 20000 in
theorem gX10_raised_X2_liftedTo : GoodIn wsX10_raised (wsV RX10 213 RX2 yX2_liftedTo wsX2_liftedTo) := goodIn_app (goodIn_of _ (by decide +kernel)) ggX10_raised_X2_liftedTo
theorem dX10_raised_0 : decode cX10_raised 0 = .ok (.iload_n 1, 1) := by decide +kernel
theorem dX10_raised_1 : decode cX10_raised 1 = .ok (.iconst 0, 1) := by decide +kernel
theorem dX10_raised_2 : decode cX10_raised 2 = .ok (.sipush 20000, 3) := by decide +kernel
theorem dX10_raised_5 : decode cX10_raised 5 = .ok (.invokestatic 38, 3) := by decide +kernel
theorem dX10_raised_8 : decode cX10_raised 8 = .ok (.ifCond .eq 8, 3) := by decide +kernel
theorem dX10_raised_11 : decode cX10_raised 11 = .ok (.iload_n 2, 1) := by decide +kernel
theorem dX10_raised_12 : decode cX10_raised 12 = .ok (.iconst (-1), 1) := by decide +kernel
theorem dX10_raised_13 : decode cX10_raised 13 = .ok (.if_icmp .ge 5, 3) := by decide +kernel
theorem dX10_raised_16 : decode cX10_raised 16 = .ok (.iconst (-1), 1) := by decide +kernel
theorem dX10_raised_17 : decode cX10_raised 17 = .ok (.ireturn, 1) := by decide +kernel
theorem dX10_raised_18 : decode cX10_raised 18 = .ok (.aload_n 0, 1) := by decide +kernel
theorem dX10_raised_19 : decode cX10_raised 19 = .ok (.invokevirtual 204, 3) := by decide +kernel
theorem dX10_raised_22 : decode cX10_raised 22 = .ok (.iload_n 1, 1) := by decide +kernel
theorem dX10_raised_23 : decode cX10_raised 23 = .ok (.iload_n 2, 1) := by decide +kernel
theorem dX10_raised_24 : decode cX10_raised 24 = .ok (.invokevirtual 213, 3) := by decide +kernel
theorem dX10_raised_27 : decode cX10_raised 27 = .ok (.ireturn, 1) := by decide +kernel
set_option maxRecDepth 20000 in
theorem ggX10_count_X1_worthOfAll : GoodIn wsX10_count wsX1_worthOfAll := goodIn_r _ [7, 8, 18, 19, 20, 21, 22] (by decide +kernel) (by decide +kernel)
set_option maxRecDepth 20000 in
theorem gX10_count_X1_worthOfAll : GoodIn wsX10_count (wsV RX10 216 RX1 yX1_worthOfAll wsX1_worthOfAll) := goodIn_app (goodIn_of _ (by decide +kernel)) ggX10_count_X1_worthOfAll
theorem dX10_count_0 : decode cX10_count 0 = .ok (.iload_n 1, 1) := by decide +kernel
theorem dX10_count_1 : decode cX10_count 1 = .ok (.ifCond .ne 11, 3) := by decide +kernel
theorem dX10_count_4 : decode cX10_count 4 = .ok (.aload_n 0, 1) := by decide +kernel
theorem dX10_count_5 : decode cX10_count 5 = .ok (.getfield 10, 3) := by decide +kernel
theorem dX10_count_8 : decode cX10_count 8 = .ok (.getfield 42, 3) := by decide +kernel
theorem dX10_count_11 : decode cX10_count 11 = .ok (.ireturn, 1) := by decide +kernel
theorem dX10_count_12 : decode cX10_count 12 = .ok (.iload_n 1, 1) := by decide +kernel
theorem dX10_count_13 : decode cX10_count 13 = .ok (.iconst 1, 1) := by decide +kernel
theorem dX10_count_14 : decode cX10_count 14 = .ok (.if_icmp .ne 13, 3) := by decide +kernel
theorem dX10_count_17 : decode cX10_count 17 = .ok (.aload_n 0, 1) := by decide +kernel
theorem dX10_count_18 : decode cX10_count 18 = .ok (.getfield 10, 3) := by decide +kernel
theorem dX10_count_21 : decode cX10_count 21 = .ok (.invokevirtual 216, 3) := by decide +kernel
theorem dX10_count_24 : decode cX10_count 24 = .ok (.goto 4, 3) := by decide +kernel
theorem dX10_count_27 : decode cX10_count 27 = .ok (.iconst (-1), 1) := by decide +kernel
theorem dX10_count_28 : decode cX10_count 28 = .ok (.ireturn, 1) := by decide +kernel
theorem dX10_within_0 : decode cX10_within 0 = .ok (.iload_n 0, 1) := by decide +kernel
theorem dX10_within_1 : decode cX10_within 1 = .ok (.iload_n 1, 1) := by decide +kernel
theorem dX10_within_2 : decode cX10_within 2 = .ok (.if_icmp .lt 12, 3) := by decide +kernel
theorem dX10_within_5 : decode cX10_within 5 = .ok (.iload_n 0, 1) := by decide +kernel
theorem dX10_within_6 : decode cX10_within 6 = .ok (.iload_n 2, 1) := by decide +kernel
theorem dX10_within_7 : decode cX10_within 7 = .ok (.if_icmp .gt 7, 3) := by decide +kernel
theorem dX10_within_10 : decode cX10_within 10 = .ok (.iconst 1, 1) := by decide +kernel
theorem dX10_within_11 : decode cX10_within 11 = .ok (.goto 4, 3) := by decide +kernel
theorem dX10_within_14 : decode cX10_within 14 = .ok (.iconst 0, 1) := by decide +kernel
theorem dX10_within_15 : decode cX10_within 15 = .ok (.ireturn, 1) := by decide +kernel
theorem dX10_isNumber_0 : decode cX10_isNumber 0 = .ok (.lload_n 0, 1) := by decide +kernel
theorem dX10_isNumber_1 : decode cX10_isNumber 1 = .ok (.lconst 0, 1) := by decide +kernel
theorem dX10_isNumber_2 : decode cX10_isNumber 2 = .ok (.lcmp, 1) := by decide +kernel
theorem dX10_isNumber_3 : decode cX10_isNumber 3 = .ok (.ifCond .lt 15, 3) := by decide +kernel
theorem dX10_isNumber_6 : decode cX10_isNumber 6 = .ok (.lload_n 0, 1) := by decide +kernel
theorem dX10_isNumber_7 : decode cX10_isNumber 7 = .ok (.ldc2_w 220, 3) := by decide +kernel
theorem dX10_isNumber_10 : decode cX10_isNumber 10 = .ok (.lcmp, 1) := by decide +kernel
theorem dX10_isNumber_11 : decode cX10_isNumber 11 = .ok (.ifCond .gt 7, 3) := by decide +kernel
theorem dX10_isNumber_14 : decode cX10_isNumber 14 = .ok (.iconst 1, 1) := by decide +kernel
theorem dX10_isNumber_15 : decode cX10_isNumber 15 = .ok (.goto 4, 3) := by decide +kernel
theorem dX10_isNumber_18 : decode cX10_isNumber 18 = .ok (.iconst 0, 1) := by decide +kernel
theorem dX10_isNumber_19 : decode cX10_isNumber 19 = .ok (.ireturn, 1) := by decide +kernel
theorem dX10_isStep_0 : decode cX10_isStep 0 = .ok (.iload_n 0, 1) := by decide +kernel
theorem dX10_isStep_1 : decode cX10_isStep 1 = .ok (.ifCond .lt 13, 3) := by decide +kernel
theorem dX10_isStep_4 : decode cX10_isStep 4 = .ok (.iload_n 0, 1) := by decide +kernel
theorem dX10_isStep_5 : decode cX10_isStep 5 = .ok (.bipush 6, 2) := by decide +kernel
theorem dX10_isStep_7 : decode cX10_isStep 7 = .ok (.if_icmp .ge 7, 3) := by decide +kernel
theorem dX10_isStep_10 : decode cX10_isStep 10 = .ok (.iconst 1, 1) := by decide +kernel
theorem dX10_isStep_11 : decode cX10_isStep 11 = .ok (.goto 4, 3) := by decide +kernel
theorem dX10_isStep_14 : decode cX10_isStep 14 = .ok (.iconst 0, 1) := by decide +kernel
theorem dX10_isStep_15 : decode cX10_isStep 15 = .ok (.ireturn, 1) := by decide +kernel
theorem dX10_isRoundStep_0 : decode cX10_isRoundStep 0 = .ok (.iload_n 0, 1) := by decide +kernel
theorem dX10_isRoundStep_1 : decode cX10_isRoundStep 1 = .ok (.ifCond .eq 8, 3) := by decide +kernel
theorem dX10_isRoundStep_4 : decode cX10_isRoundStep 4 = .ok (.iload_n 0, 1) := by decide +kernel
theorem dX10_isRoundStep_5 : decode cX10_isRoundStep 5 = .ok (.iconst 3, 1) := by decide +kernel
theorem dX10_isRoundStep_6 : decode cX10_isRoundStep 6 = .ok (.if_icmp .ne 7, 3) := by decide +kernel
theorem dX10_isRoundStep_9 : decode cX10_isRoundStep 9 = .ok (.iconst 1, 1) := by decide +kernel
theorem dX10_isRoundStep_10 : decode cX10_isRoundStep 10 = .ok (.goto 4, 3) := by decide +kernel
theorem dX10_isRoundStep_13 : decode cX10_isRoundStep 13 = .ok (.iconst 0, 1) := by decide +kernel
theorem dX10_isRoundStep_14 : decode cX10_isRoundStep 14 = .ok (.ireturn, 1) := by decide +kernel
theorem dX10_countOrNone_0 : decode cX10_countOrNone 0 = .ok (.iload_n 0, 1) := by decide +kernel
theorem dX10_countOrNone_1 : decode cX10_countOrNone 1 = .ok (.iconst (-1), 1) := by decide +kernel
theorem dX10_countOrNone_2 : decode cX10_countOrNone 2 = .ok (.if_icmp .ne 7, 3) := by decide +kernel
theorem dX10_countOrNone_5 : decode cX10_countOrNone 5 = .ok (.iload_n 1, 1) := by decide +kernel
theorem dX10_countOrNone_6 : decode cX10_countOrNone 6 = .ok (.goto 5, 3) := by decide +kernel
theorem dX10_countOrNone_9 : decode cX10_countOrNone 9 = .ok (.bipush (-4), 2) := by decide +kernel
theorem dX10_countOrNone_11 : decode cX10_countOrNone 11 = .ok (.ireturn, 1) := by decide +kernel
theorem dX10_figuresOfBase_0 : decode cX10_figuresOfBase 0 = .ok (.iload_n 1, 1) := by decide +kernel
theorem dX10_figuresOfBase_1 : decode cX10_figuresOfBase 1 = .ok (.iconst 1, 1) := by decide +kernel
theorem dX10_figuresOfBase_2 : decode cX10_figuresOfBase 2 = .ok (.aload_n 0, 1) := by decide +kernel
theorem dX10_figuresOfBase_3 : decode cX10_figuresOfBase 3 = .ok (.getfield 10, 3) := by decide +kernel
theorem dX10_figuresOfBase_6 : decode cX10_figuresOfBase 6 = .ok (.getfield 42, 3) := by decide +kernel
theorem dX10_figuresOfBase_9 : decode cX10_figuresOfBase 9 = .ok (.ishl, 1) := by decide +kernel
theorem dX10_figuresOfBase_10 : decode cX10_figuresOfBase 10 = .ok (.iconst 1, 1) := by decide +kernel
theorem dX10_figuresOfBase_11 : decode cX10_figuresOfBase 11 = .ok (.isub, 1) := by decide +kernel
theorem dX10_figuresOfBase_12 : decode cX10_figuresOfBase 12 = .ok (.iand, 1) := by decide +kernel
theorem dX10_figuresOfBase_13 : decode cX10_figuresOfBase 13 = .ok (.ireturn, 1) := by decide +kernel
set_option maxRecDepth 20000 in
theorem ggX10_waysBy_X10_isRoundStep : GoodIn wsX10_waysBy wsX10_isRoundStep := goodIn_r _ [13] (by decide +kernel) (by decide +kernel)
set_option maxRecDepth 20000 in
theorem gX10_waysBy_X10_isRoundStep : GoodIn wsX10_waysBy (va_wsS RX10 94 yX10_isRoundStep wsX10_isRoundStep) := goodIn_app (goodIn_of _ (by decide +kernel)) ggX10_waysBy_X10_isRoundStep
set_option maxRecDepth 20000 in
theorem ggX10_waysBy_X10_slotsOnce : GoodIn wsX10_waysBy wsX10_slotsOnce := goodIn_r _ [17, 18, 19, 20, 21, 22, 23, 24, 25, 26, 27, 28, 29, 30, 31, 32, 33, 59, 60, 61, 62, 63, 64, 65, 66, 67, 85, 86, 87, 88] (by decide +kernel) (by decide +kernel)
set_option maxRecDepth 20000 in
theorem gX10_waysBy_X10_slotsOnce : GoodIn wsX10_waysBy (wsV RX10 222 RX10 yX10_slotsOnce wsX10_slotsOnce) := goodIn_app (goodIn_of _ (by decide +kernel)) ggX10_waysBy_X10_slotsOnce
set_option maxRecDepth 20000 in
theorem ggX10_waysBy_X0_init : GoodIn wsX10_waysBy wsX0_init := goodIn_r _ [36, 37, 25, 26, 38, 30, 39, 40, 28, 41, 42, 43, 44, 45, 46, 47, 75, 76, 77, 78, 79, 80, 81, 82, 83, 84] (by decide +kernel) (by decide +kernel)
set_option maxRecDepth 20000 in
theorem gX10_waysBy_X0_init : GoodIn wsX10_waysBy (wsX0_init) := ggX10_waysBy_X0_init
set_option maxRecDepth 20000 in
theorem ggX10_waysBy_X9_init : GoodIn wsX10_waysBy wsX9_init := goodIn_r _ [50, 51, 25, 26, 30, 52, 53, 54, 55, 56, 57, 58, 68, 69, 70, 71, 72, 73, 74] (by decide +kernel) (by decide +kernel)
set_option maxRecDepth 20000 in
theorem gX10_waysBy_X9_init : GoodIn wsX10_waysBy (wsX9_init) := ggX10_waysBy_X9_init
theorem dX10_waysBy_0 : decode cX10_waysBy 0 = .ok (.aload_n 0, 1) := by decide +kernel
theorem dX10_waysBy_1 : decode cX10_waysBy 1 = .ok (.getfield 34, 3) := by decide +kernel
theorem dX10_waysBy_4 : decode cX10_waysBy 4 = .ok (.iload_n 1, 1) := by decide +kernel
theorem dX10_waysBy_5 : decode cX10_waysBy 5 = .ok (.aaload, 1) := by decide +kernel
theorem dX10_waysBy_6 : decode cX10_waysBy 6 = .ok (.astore_n 2, 1) := by decide +kernel
theorem dX10_waysBy_7 : decode cX10_waysBy 7 = .ok (.aload_n 2, 1) := by decide +kernel
theorem dX10_waysBy_8 : decode cX10_waysBy 8 = .ok (.ifnonnull 54, 3) := by decide +kernel
theorem dX10_waysBy_11 : decode cX10_waysBy 11 = .ok (.new 32, 3) := by decide +kernel
theorem dX10_waysBy_14 : decode cX10_waysBy 14 = .ok (.dup, 1) := by decide +kernel
theorem dX10_waysBy_15 : decode cX10_waysBy 15 = .ok (.aload_n 0, 1) := by decide +kernel
theorem dX10_waysBy_16 : decode cX10_waysBy 16 = .ok (.getfield 10, 3) := by decide +kernel
theorem dX10_waysBy_19 : decode cX10_waysBy 19 = .ok (.aload_n 0, 1) := by decide +kernel
theorem dX10_waysBy_20 : decode cX10_waysBy 20 = .ok (.getfield 19, 3) := by decide +kernel
theorem dX10_waysBy_23 : decode cX10_waysBy 23 = .ok (.iload_n 1, 1) := by decide +kernel
theorem dX10_waysBy_24 : decode cX10_waysBy 24 = .ok (.iload_n 1, 1) := by decide +kernel
theorem dX10_waysBy_25 : decode cX10_waysBy 25 = .ok (.invokestatic 94, 3) := by decide +kernel
theorem dX10_waysBy_28 : decode cX10_waysBy 28 = .ok (.ifCond .eq 22, 3) := by decide +kernel
theorem dX10_waysBy_31 : decode cX10_waysBy 31 = .ok (.new 111, 3) := by decide +kernel
theorem dX10_waysBy_34 : decode cX10_waysBy 34 = .ok (.dup, 1) := by decide +kernel
theorem dX10_waysBy_35 : decode cX10_waysBy 35 = .ok (.aload_n 0, 1) := by decide +kernel
theorem dX10_waysBy_36 : decode cX10_waysBy 36 = .ok (.getfield 10, 3) := by decide +kernel
theorem dX10_waysBy_39 : decode cX10_waysBy 39 = .ok (.iload_n 1, 1) := by decide +kernel
theorem dX10_waysBy_40 : decode cX10_waysBy 40 = .ok (.aload_n 0, 1) := by decide +kernel
theorem dX10_waysBy_41 : decode cX10_waysBy 41 = .ok (.invokevirtual 222, 3) := by decide +kernel
theorem dX10_waysBy_44 : decode cX10_waysBy 44 = .ok (.invokespecial 226, 3) := by decide +kernel
theorem dX10_waysBy_47 : decode cX10_waysBy 47 = .ok (.goto 4, 3) := by decide +kernel
theorem dX10_waysBy_50 : decode cX10_waysBy 50 = .ok (.aconst_null, 1) := by decide +kernel
theorem dX10_waysBy_51 : decode cX10_waysBy 51 = .ok (.invokespecial 229, 3) := by decide +kernel
theorem dX10_waysBy_54 : decode cX10_waysBy 54 = .ok (.astore_n 2, 1) := by decide +kernel
theorem dX10_waysBy_55 : decode cX10_waysBy 55 = .ok (.aload_n 0, 1) := by decide +kernel
theorem dX10_waysBy_56 : decode cX10_waysBy 56 = .ok (.getfield 34, 3) := by decide +kernel
theorem dX10_waysBy_59 : decode cX10_waysBy 59 = .ok (.iload_n 1, 1) := by decide +kernel
theorem dX10_waysBy_60 : decode cX10_waysBy 60 = .ok (.aload_n 2, 1) := by decide +kernel
theorem dX10_waysBy_61 : decode cX10_waysBy 61 = .ok (.aastore, 1) := by decide +kernel
theorem dX10_waysBy_62 : decode cX10_waysBy 62 = .ok (.aload_n 2, 1) := by decide +kernel
theorem dX10_waysBy_63 : decode cX10_waysBy 63 = .ok (.areturn, 1) := by decide +kernel
set_option maxRecDepth 20000 in
theorem ggX10_slotsOnce_X8_init : GoodIn wsX10_slotsOnce wsX8_init := goodIn_r _ [6, 7, 8, 9, 10, 11, 12, 13, 14, 15, 16, 26, 27, 28, 29] (by decide +kernel) (by decide +kernel)
set_option maxRecDepth 20000 in
theorem gX10_slotsOnce_X8_init_n238 : GoodIn wsX10_slotsOnce (wsX8_init) := ggX10_slotsOnce_X8_init
theorem dX10_slotsOnce_0 : decode cX10_slotsOnce 0 = .ok (.aload_n 0, 1) := by decide +kernel
theorem dX10_slotsOnce_1 : decode cX10_slotsOnce 1 = .ok (.getfield 232, 3) := by decide +kernel
theorem dX10_slotsOnce_4 : decode cX10_slotsOnce 4 = .ok (.ifnonnull 14, 3) := by decide +kernel
theorem dX10_slotsOnce_7 : decode cX10_slotsOnce 7 = .ok (.aload_n 0, 1) := by decide +kernel
theorem dX10_slotsOnce_8 : decode cX10_slotsOnce 8 = .ok (.new 236, 3) := by decide +kernel
theorem dX10_slotsOnce_11 : decode cX10_slotsOnce 11 = .ok (.dup, 1) := by decide +kernel
theorem dX10_slotsOnce_12 : decode cX10_slotsOnce 12 = .ok (.invokespecial 238, 3) := by decide +kernel
theorem dX10_slotsOnce_15 : decode cX10_slotsOnce 15 = .ok (.putfield 232, 3) := by decide +kernel
theorem dX10_slotsOnce_18 : decode cX10_slotsOnce 18 = .ok (.aload_n 0, 1) := by decide +kernel
theorem dX10_slotsOnce_19 : decode cX10_slotsOnce 19 = .ok (.getfield 232, 3) := by decide +kernel
theorem dX10_slotsOnce_22 : decode cX10_slotsOnce 22 = .ok (.areturn, 1) := by decide +kernel
set_option maxRecDepth 20000 in
theorem ggX10_liftsNow_X2_init : GoodIn wsX10_liftsNow wsX2_init := goodIn_r _ [8, 9, 10, 11, 12, 13, 14, 15, 16, 17, 34, 35, 36, 37] (by decide +kernel) (by decide +kernel)
set_option maxRecDepth 20000 in
theorem gX10_liftsNow_X2_init : GoodIn wsX10_liftsNow (wsX2_init) := ggX10_liftsNow_X2_init
set_option maxRecDepth 20000 in
theorem ggX10_liftsNow_X2_renew : GoodIn wsX10_liftsNow wsX2_renew := goodIn_r _ [21, 12, 17, 22, 16, 14, 23, 24, 34, 35, 36, 37, 38, 39, 40, 41, 42] (by decide +kernel) (by decide +kernel)
set_option maxRecDepth 20000 in
theorem gX10_liftsNow_X2_renew : GoodIn wsX10_liftsNow (wsV RX10 244 RX2 yX2_renew wsX2_renew) := goodIn_app (goodIn_of _ (by decide +kernel)) ggX10_liftsNow_X2_renew
theorem dX10_liftsNow_0 : decode cX10_liftsNow 0 = .ok (.aload_n 0, 1) := by decide +kernel
theorem dX10_liftsNow_1 : decode cX10_liftsNow 1 = .ok (.getfield 239, 3) := by decide +kernel
theorem dX10_liftsNow_4 : decode cX10_liftsNow 4 = .ok (.ifnonnull 18, 3) := by decide +kernel
theorem dX10_liftsNow_7 : decode cX10_liftsNow 7 = .ok (.aload_n 0, 1) := by decide +kernel
theorem dX10_liftsNow_8 : decode cX10_liftsNow 8 = .ok (.new 209, 3) := by decide +kernel
theorem dX10_liftsNow_11 : decode cX10_liftsNow 11 = .ok (.dup, 1) := by decide +kernel
theorem dX10_liftsNow_12 : decode cX10_liftsNow 12 = .ok (.aload_n 0, 1) := by decide +kernel
theorem dX10_liftsNow_13 : decode cX10_liftsNow 13 = .ok (.getfield 10, 3) := by decide +kernel
theorem dX10_liftsNow_16 : decode cX10_liftsNow 16 = .ok (.invokespecial 243, 3) := by decide +kernel
theorem dX10_liftsNow_19 : decode cX10_liftsNow 19 = .ok (.putfield 239, 3) := by decide +kernel
theorem dX10_liftsNow_22 : decode cX10_liftsNow 22 = .ok (.aload_n 0, 1) := by decide +kernel
theorem dX10_liftsNow_23 : decode cX10_liftsNow 23 = .ok (.getfield 239, 3) := by decide +kernel
theorem dX10_liftsNow_26 : decode cX10_liftsNow 26 = .ok (.invokevirtual 244, 3) := by decide +kernel
theorem dX10_liftsNow_29 : decode cX10_liftsNow 29 = .ok (.aload_n 0, 1) := by decide +kernel
theorem dX10_liftsNow_30 : decode cX10_liftsNow 30 = .ok (.getfield 239, 3) := by decide +kernel
theorem dX10_liftsNow_33 : decode cX10_liftsNow 33 = .ok (.areturn, 1) := by decide +kernel
set_option maxRecDepth 20000 in
theorem ggX10_searched_X7_init : GoodIn wsX10_searched wsX7_init := goodIn_r _ [8, 9, 10, 11, 12, 13, 14, 15, 16, 17, 18, 19, 20, 21, 22, 23, 24, 25, 63, 64, 65, 66, 67, 68, 69, 70, 71, 72, 73, 74] (by decide +kernel) (by decide +kernel)
set_option maxRecDepth 20000 in
theorem gX10_searched_X7_init_n251 : GoodIn wsX10_searched (wsX7_init) := ggX10_searched_X7_init
set_option maxRecDepth 20000 in
theorem ggX10_searched_X7_seek : GoodIn wsX10_searched wsX7_seek := goodIn_r _ [29, 18, 19, 20, 21, 17, 22, 24, 30, 31, 32, 4, 33, 16, 34, 35, 36, 37, 12, 15, 23, 14, 38, 39, 40, 41, 42, 43, 44, 45, 46, 47, 48, 49, 25, 63, 64, 65, 66, 67, 68, 69, 70, 71, 72, 73, 74] (by decide +kernel) (by decide +kernel)
set_option maxRecDepth 20000 in
theorem gX10_searched_X7_seek : GoodIn wsX10_searched (wsV RX10 252 RX7 yX7_seek wsX7_seek) := goodIn_app (goodIn_of _ (by decide +kernel)) ggX10_searched_X7_seek
set_option maxRecDepth 20000 in
theorem ggX10_searched_X7_figureAt : GoodIn wsX10_searched wsX7_figureAt := goodIn_r _ [53, 25, 24, 15, 63, 64, 65, 66, 67, 68, 69, 70, 71, 72, 73, 74] (by decide +kernel) (by decide +kernel)
set_option maxRecDepth 20000 in
theorem gX10_searched_X7_figureAt : GoodIn wsX10_searched (wsV RX10 255 RX7 yX7_figureAt wsX7_figureAt) := goodIn_app (goodIn_of _ (by decide +kernel)) ggX10_searched_X7_figureAt
theorem dX10_searched_0 : decode cX10_searched 0 = .ok (.aload_n 0, 1) := by decide +kernel
theorem dX10_searched_1 : decode cX10_searched 1 = .ok (.getfield 247, 3) := by decide +kernel
theorem dX10_searched_4 : decode cX10_searched 4 = .ok (.ifnonnull 14, 3) := by decide +kernel
theorem dX10_searched_7 : decode cX10_searched 7 = .ok (.aload_n 0, 1) := by decide +kernel
theorem dX10_searched_8 : decode cX10_searched 8 = .ok (.new 173, 3) := by decide +kernel
theorem dX10_searched_11 : decode cX10_searched 11 = .ok (.dup, 1) := by decide +kernel
