theorem dX3_at_46 : decode cX3_at 46 = .ok (.ifCond .ge 22, 3) := by decide +kernel
theorem dX3_at_49 : decode cX3_at 49 = .ok (.aload_n 0, 1) := by decide +kernel
theorem dX3_at_50 : decode cX3_at 50 = .ok (.aload_n 0, 1) := by decide +kernel
theorem dX3_at_51 : decode cX3_at 51 = .ok (.iload 6, 2) := by decide +kernel
theorem dX3_at_53 : decode cX3_at 53 = .ok (.invokevirtual 33, 3) := by decide +kernel
theorem dX3_at_56 : decode cX3_at 56 = .ok (.lload 4, 2) := by decide +kernel
theorem dX3_at_58 : decode cX3_at 58 = .ok (.ladd, 1) := by decide +kernel
theorem dX3_at_59 : decode cX3_at 59 = .ok (.iload 6, 2) := by decide +kernel
theorem dX3_at_61 : decode cX3_at 61 = .ok (.invokevirtual 36, 3) := by decide +kernel
theorem dX3_at_64 : decode cX3_at 64 = .ok (.invokestatic 41, 3) := by decide +kernel
theorem dX3_at_67 : decode cX3_at 67 = .ok (.lreturn, 1) := by decide +kernel
theorem dX3_at_68 : decode cX3_at 68 = .ok (.lload 4, 2) := by decide +kernel
theorem dX3_at_70 : decode cX3_at 70 = .ok (.lload 7, 2) := by decide +kernel
theorem dX3_at_72 : decode cX3_at 72 = .ok (.lsub, 1) := by decide +kernel
theorem dX3_at_73 : decode cX3_at 73 = .ok (.lstore 4, 2) := by decide +kernel
theorem dX3_at_75 : decode cX3_at 75 = .ok (.iinc 6 1, 3) := by decide +kernel
theorem dX3_at_78 : decode cX3_at 78 = .ok (.goto (-51), 3) := by decide +kernel
theorem dX3_at_81 : decode cX3_at 81 = .ok (.ldc2_w 45, 3) := by decide +kernel
theorem dX3_at_84 : decode cX3_at 84 = .ok (.lreturn, 1) := by decide +kernel
set_option maxRecDepth 20000 in
theorem ggX3_leastFrom_X1_split : GoodIn wsX3_leastFrom wsX1_split := goodIn_r _ [6, 7, 8, 25, 26, 27, 28, 29] (by decide +kernel) (by decide +kernel)
set_option maxRecDepth 20000 in
theorem gX3_leastFrom_X1_split : GoodIn wsX3_leastFrom (wsV RX3 15 RX1 yX1_split wsX1_split) := goodIn_app (goodIn_of _ (by decide +kernel)) ggX3_leastFrom_X1_split
set_option maxRecDepth 20000 in
theorem ggX3_leastFrom_X3_halfOf : GoodIn wsX3_leastFrom wsX3_halfOf := goodIn_r _ [13, 1, 14, 24, 25, 26, 27, 28, 29] (by decide +kernel) (by decide +kernel)
set_option maxRecDepth 20000 in
theorem gX3_leastFrom_X3_halfOf : GoodIn wsX3_leastFrom (wsV RX3 25 RX3 yX3_halfOf wsX3_halfOf) := goodIn_app (goodIn_of _ (by decide +kernel)) ggX3_leastFrom_X3_halfOf
set_option maxRecDepth 20000 in
theorem ggX3_leastFrom_X3_mirrored : GoodIn wsX3_leastFrom wsX3_mirrored := goodIn_r _ [18, 1, 14, 24, 25, 26, 27, 28, 29] (by decide +kernel) (by decide +kernel)
set_option maxRecDepth 20000 in
theorem gX3_leastFrom_X3_mirrored : GoodIn wsX3_leastFrom (wsV RX3 36 RX3 yX3_mirrored wsX3_mirrored) := goodIn_app (goodIn_of _ (by decide +kernel)) ggX3_leastFrom_X3_mirrored
set_option maxRecDepth 20000 in
theorem ggX3_leastFrom_X3_numberOrNone : GoodIn wsX3_leastFrom wsX3_numberOrNone := goodIn_r _ [21, 22, 23] (by decide +kernel) (by decide +kernel)
set_option maxRecDepth 20000 in
theorem gX3_leastFrom_X3_numberOrNone : GoodIn wsX3_leastFrom (va_wsS RX3 41 yX3_numberOrNone wsX3_numberOrNone) := goodIn_app (goodIn_of _ (by decide +kernel)) ggX3_leastFrom_X3_numberOrNone
theorem dX3_leastFrom_0 : decode cX3_leastFrom 0 = .ok (.aload_n 0, 1) := by decide +kernel
theorem dX3_leastFrom_1 : decode cX3_leastFrom 1 = .ok (.getfield 9, 3) := by decide +kernel
theorem dX3_leastFrom_4 : decode cX3_leastFrom 4 = .ok (.lload_n 1, 1) := by decide +kernel
theorem dX3_leastFrom_5 : decode cX3_leastFrom 5 = .ok (.invokevirtual 15, 3) := by decide +kernel
theorem dX3_leastFrom_8 : decode cX3_leastFrom 8 = .ok (.istore_n 3, 1) := by decide +kernel
theorem dX3_leastFrom_9 : decode cX3_leastFrom 9 = .ok (.aload_n 0, 1) := by decide +kernel
theorem dX3_leastFrom_10 : decode cX3_leastFrom 10 = .ok (.lload_n 1, 1) := by decide +kernel
theorem dX3_leastFrom_11 : decode cX3_leastFrom 11 = .ok (.iload_n 3, 1) := by decide +kernel
theorem dX3_leastFrom_12 : decode cX3_leastFrom 12 = .ok (.invokevirtual 25, 3) := by decide +kernel
theorem dX3_leastFrom_15 : decode cX3_leastFrom 15 = .ok (.lstore 4, 2) := by decide +kernel
theorem dX3_leastFrom_17 : decode cX3_leastFrom 17 = .ok (.aload_n 0, 1) := by decide +kernel
theorem dX3_leastFrom_18 : decode cX3_leastFrom 18 = .ok (.lload 4, 2) := by decide +kernel
theorem dX3_leastFrom_20 : decode cX3_leastFrom 20 = .ok (.iload_n 3, 1) := by decide +kernel
theorem dX3_leastFrom_21 : decode cX3_leastFrom 21 = .ok (.invokevirtual 36, 3) := by decide +kernel
theorem dX3_leastFrom_24 : decode cX3_leastFrom 24 = .ok (.lstore 6, 2) := by decide +kernel
theorem dX3_leastFrom_26 : decode cX3_leastFrom 26 = .ok (.lload 6, 2) := by decide +kernel
theorem dX3_leastFrom_28 : decode cX3_leastFrom 28 = .ok (.lload_n 1, 1) := by decide +kernel
theorem dX3_leastFrom_29 : decode cX3_leastFrom 29 = .ok (.lcmp, 1) := by decide +kernel
theorem dX3_leastFrom_30 : decode cX3_leastFrom 30 = .ok (.ifCond .lt 8, 3) := by decide +kernel
theorem dX3_leastFrom_33 : decode cX3_leastFrom 33 = .ok (.lload 6, 2) := by decide +kernel
theorem dX3_leastFrom_35 : decode cX3_leastFrom 35 = .ok (.goto 12, 3) := by decide +kernel
theorem dX3_leastFrom_38 : decode cX3_leastFrom 38 = .ok (.aload_n 0, 1) := by decide +kernel
theorem dX3_leastFrom_39 : decode cX3_leastFrom 39 = .ok (.lload 4, 2) := by decide +kernel
theorem dX3_leastFrom_41 : decode cX3_leastFrom 41 = .ok (.lconst 1, 1) := by decide +kernel
theorem dX3_leastFrom_42 : decode cX3_leastFrom 42 = .ok (.ladd, 1) := by decide +kernel
theorem dX3_leastFrom_43 : decode cX3_leastFrom 43 = .ok (.iload_n 3, 1) := by decide +kernel
theorem dX3_leastFrom_44 : decode cX3_leastFrom 44 = .ok (.invokevirtual 36, 3) := by decide +kernel
theorem dX3_leastFrom_47 : decode cX3_leastFrom 47 = .ok (.invokestatic 41, 3) := by decide +kernel
theorem dX3_leastFrom_50 : decode cX3_leastFrom 50 = .ok (.lreturn, 1) := by decide +kernel
theorem dX3_numberOrNone_0 : decode cX3_numberOrNone 0 = .ok (.lload_n 0, 1) := by decide +kernel
theorem dX3_numberOrNone_1 : decode cX3_numberOrNone 1 = .ok (.ldc2_w 39, 3) := by decide +kernel
theorem dX3_numberOrNone_4 : decode cX3_numberOrNone 4 = .ok (.lcmp, 1) := by decide +kernel
theorem dX3_numberOrNone_5 : decode cX3_numberOrNone 5 = .ok (.ifCond .gt 7, 3) := by decide +kernel
theorem dX3_numberOrNone_8 : decode cX3_numberOrNone 8 = .ok (.lload_n 0, 1) := by decide +kernel
theorem dX3_numberOrNone_9 : decode cX3_numberOrNone 9 = .ok (.goto 6, 3) := by decide +kernel
theorem dX3_numberOrNone_12 : decode cX3_numberOrNone 12 = .ok (.ldc2_w 45, 3) := by decide +kernel
theorem dX3_numberOrNone_15 : decode cX3_numberOrNone 15 = .ok (.lreturn, 1) := by decide +kernel
theorem dX3_halfOf_0 : decode cX3_halfOf 0 = .ok (.lload_n 1, 1) := by decide +kernel
theorem dX3_halfOf_1 : decode cX3_halfOf 1 = .ok (.lstore 4, 2) := by decide +kernel
theorem dX3_halfOf_3 : decode cX3_halfOf 3 = .ok (.iconst 0, 1) := by decide +kernel
theorem dX3_halfOf_4 : decode cX3_halfOf 4 = .ok (.istore 6, 2) := by decide +kernel
theorem dX3_halfOf_6 : decode cX3_halfOf 6 = .ok (.iload 6, 2) := by decide +kernel
theorem dX3_halfOf_8 : decode cX3_halfOf 8 = .ok (.iload_n 3, 1) := by decide +kernel
theorem dX3_halfOf_9 : decode cX3_halfOf 9 = .ok (.iconst 2, 1) := by decide +kernel
theorem dX3_halfOf_10 : decode cX3_halfOf 10 = .ok (.idiv, 1) := by decide +kernel
theorem dX3_halfOf_11 : decode cX3_halfOf 11 = .ok (.if_icmp .ge 22, 3) := by decide +kernel
theorem dX3_halfOf_14 : decode cX3_halfOf 14 = .ok (.lload 4, 2) := by decide +kernel
theorem dX3_halfOf_16 : decode cX3_halfOf 16 = .ok (.aload_n 0, 1) := by decide +kernel
theorem dX3_halfOf_17 : decode cX3_halfOf 17 = .ok (.getfield 9, 3) := by decide +kernel
theorem dX3_halfOf_20 : decode cX3_halfOf 20 = .ok (.getfield 47, 3) := by decide +kernel
theorem dX3_halfOf_23 : decode cX3_halfOf 23 = .ok (.i2l, 1) := by decide +kernel
theorem dX3_halfOf_24 : decode cX3_halfOf 24 = .ok (.ldiv, 1) := by decide +kernel
theorem dX3_halfOf_25 : decode cX3_halfOf 25 = .ok (.lstore 4, 2) := by decide +kernel
theorem dX3_halfOf_27 : decode cX3_halfOf 27 = .ok (.iinc 6 1, 3) := by decide +kernel
theorem dX3_halfOf_30 : decode cX3_halfOf 30 = .ok (.goto (-24), 3) := by decide +kernel
theorem dX3_halfOf_33 : decode cX3_halfOf 33 = .ok (.lload 4, 2) := by decide +kernel
theorem dX3_halfOf_35 : decode cX3_halfOf 35 = .ok (.lreturn, 1) := by decide +kernel
set_option maxRecDepth 20000 in
theorem ggX3_leastHalf_X1_power : GoodIn wsX3_leastHalf wsX1_power := goodIn_r _ [6, 7, 9, 10, 11, 12, 13] (by decide +kernel) (by decide +kernel)
set_option maxRecDepth 20000 in
theorem gX3_leastHalf_X1_power : GoodIn wsX3_leastHalf (wsV RX3 51 RX1 yX1_power wsX1_power) := goodIn_app (goodIn_of _ (by decide +kernel)) ggX3_leastHalf_X1_power
theorem dX3_leastHalf_0 : decode cX3_leastHalf 0 = .ok (.aload_n 0, 1) := by decide +kernel
theorem dX3_leastHalf_1 : decode cX3_leastHalf 1 = .ok (.getfield 9, 3) := by decide +kernel
theorem dX3_leastHalf_4 : decode cX3_leastHalf 4 = .ok (.iload_n 1, 1) := by decide +kernel
theorem dX3_leastHalf_5 : decode cX3_leastHalf 5 = .ok (.iconst 1, 1) := by decide +kernel
theorem dX3_leastHalf_6 : decode cX3_leastHalf 6 = .ok (.iadd, 1) := by decide +kernel
theorem dX3_leastHalf_7 : decode cX3_leastHalf 7 = .ok (.iconst 2, 1) := by decide +kernel
theorem dX3_leastHalf_8 : decode cX3_leastHalf 8 = .ok (.idiv, 1) := by decide +kernel
theorem dX3_leastHalf_9 : decode cX3_leastHalf 9 = .ok (.iconst 1, 1) := by decide +kernel
theorem dX3_leastHalf_10 : decode cX3_leastHalf 10 = .ok (.isub, 1) := by decide +kernel
theorem dX3_leastHalf_11 : decode cX3_leastHalf 11 = .ok (.invokevirtual 51, 3) := by decide +kernel
theorem dX3_leastHalf_14 : decode cX3_leastHalf 14 = .ok (.lreturn, 1) := by decide +kernel
set_option maxRecDepth 20000 in
theorem ggX3_manyOfSize_X3_leastHalf : GoodIn wsX3_manyOfSize wsX3_leastHalf := goodIn_r _ [7, 1, 8, 9, 10, 11, 12, 13, 14, 15, 16, 17, 18, 19] (by decide +kernel) (by decide +kernel)
set_option maxRecDepth 20000 in
theorem gX3_manyOfSize_X3_leastHalf : GoodIn wsX3_manyOfSize (wsV RX3 33 RX3 yX3_leastHalf wsX3_leastHalf) := goodIn_app (goodIn_of _ (by decide +kernel)) ggX3_manyOfSize_X3_leastHalf
theorem dX3_manyOfSize_0 : decode cX3_manyOfSize 0 = .ok (.aload_n 0, 1) := by decide +kernel
theorem dX3_manyOfSize_1 : decode cX3_manyOfSize 1 = .ok (.getfield 9, 3) := by decide +kernel
theorem dX3_manyOfSize_4 : decode cX3_manyOfSize 4 = .ok (.getfield 47, 3) := by decide +kernel
theorem dX3_manyOfSize_7 : decode cX3_manyOfSize 7 = .ok (.iconst 1, 1) := by decide +kernel
theorem dX3_manyOfSize_8 : decode cX3_manyOfSize 8 = .ok (.isub, 1) := by decide +kernel
theorem dX3_manyOfSize_9 : decode cX3_manyOfSize 9 = .ok (.i2l, 1) := by decide +kernel
theorem dX3_manyOfSize_10 : decode cX3_manyOfSize 10 = .ok (.aload_n 0, 1) := by decide +kernel
theorem dX3_manyOfSize_11 : decode cX3_manyOfSize 11 = .ok (.iload_n 1, 1) := by decide +kernel
theorem dX3_manyOfSize_12 : decode cX3_manyOfSize 12 = .ok (.invokevirtual 33, 3) := by decide +kernel
theorem dX3_manyOfSize_15 : decode cX3_manyOfSize 15 = .ok (.lmul, 1) := by decide +kernel
theorem dX3_manyOfSize_16 : decode cX3_manyOfSize 16 = .ok (.lreturn, 1) := by decide +kernel
theorem dX3_mirrored_0 : decode cX3_mirrored 0 = .ok (.lload_n 1, 1) := by decide +kernel
theorem dX3_mirrored_1 : decode cX3_mirrored 1 = .ok (.lstore 4, 2) := by decide +kernel
theorem dX3_mirrored_3 : decode cX3_mirrored 3 = .ok (.iload_n 3, 1) := by decide +kernel
theorem dX3_mirrored_4 : decode cX3_mirrored 4 = .ok (.iconst 2, 1) := by decide +kernel
theorem dX3_mirrored_5 : decode cX3_mirrored 5 = .ok (.irem, 1) := by decide +kernel
theorem dX3_mirrored_6 : decode cX3_mirrored 6 = .ok (.ifCond .ne 7, 3) := by decide +kernel
theorem dX3_mirrored_9 : decode cX3_mirrored 9 = .ok (.lload_n 1, 1) := by decide +kernel
theorem dX3_mirrored_10 : decode cX3_mirrored 10 = .ok (.goto 13, 3) := by decide +kernel
theorem dX3_mirrored_13 : decode cX3_mirrored 13 = .ok (.lload_n 1, 1) := by decide +kernel
theorem dX3_mirrored_14 : decode cX3_mirrored 14 = .ok (.aload_n 0, 1) := by decide +kernel
theorem dX3_mirrored_15 : decode cX3_mirrored 15 = .ok (.getfield 9, 3) := by decide +kernel
theorem dX3_mirrored_18 : decode cX3_mirrored 18 = .ok (.getfield 47, 3) := by decide +kernel
theorem dX3_mirrored_21 : decode cX3_mirrored 21 = .ok (.i2l, 1) := by decide +kernel
theorem dX3_mirrored_22 : decode cX3_mirrored 22 = .ok (.ldiv, 1) := by decide +kernel
theorem dX3_mirrored_23 : decode cX3_mirrored 23 = .ok (.lstore 6, 2) := by decide +kernel
theorem dX3_mirrored_25 : decode cX3_mirrored 25 = .ok (.iconst 0, 1) := by decide +kernel
theorem dX3_mirrored_26 : decode cX3_mirrored 26 = .ok (.istore 8, 2) := by decide +kernel
theorem dX3_mirrored_28 : decode cX3_mirrored 28 = .ok (.iload 8, 2) := by decide +kernel
theorem dX3_mirrored_30 : decode cX3_mirrored 30 = .ok (.iload_n 3, 1) := by decide +kernel
theorem dX3_mirrored_31 : decode cX3_mirrored 31 = .ok (.iconst 2, 1) := by decide +kernel
theorem dX3_mirrored_32 : decode cX3_mirrored 32 = .ok (.idiv, 1) := by decide +kernel
theorem dX3_mirrored_33 : decode cX3_mirrored 33 = .ok (.if_icmp .ge 47, 3) := by decide +kernel
theorem dX3_mirrored_36 : decode cX3_mirrored 36 = .ok (.lload 4, 2) := by decide +kernel
theorem dX3_mirrored_38 : decode cX3_mirrored 38 = .ok (.aload_n 0, 1) := by decide +kernel
theorem dX3_mirrored_39 : decode cX3_mirrored 39 = .ok (.getfield 9, 3) := by decide +kernel
theorem dX3_mirrored_42 : decode cX3_mirrored 42 = .ok (.getfield 47, 3) := by decide +kernel
theorem dX3_mirrored_45 : decode cX3_mirrored 45 = .ok (.i2l, 1) := by decide +kernel
theorem dX3_mirrored_46 : decode cX3_mirrored 46 = .ok (.lmul, 1) := by decide +kernel
theorem dX3_mirrored_47 : decode cX3_mirrored 47 = .ok (.lload 6, 2) := by decide +kernel
theorem dX3_mirrored_49 : decode cX3_mirrored 49 = .ok (.aload_n 0, 1) := by decide +kernel
theorem dX3_mirrored_50 : decode cX3_mirrored 50 = .ok (.getfield 9, 3) := by decide +kernel
theorem dX3_mirrored_53 : decode cX3_mirrored 53 = .ok (.getfield 47, 3) := by decide +kernel
theorem dX3_mirrored_56 : decode cX3_mirrored 56 = .ok (.i2l, 1) := by decide +kernel
theorem dX3_mirrored_57 : decode cX3_mirrored 57 = .ok (.lrem, 1) := by decide +kernel
theorem dX3_mirrored_58 : decode cX3_mirrored 58 = .ok (.ladd, 1) := by decide +kernel
theorem dX3_mirrored_59 : decode cX3_mirrored 59 = .ok (.lstore 4, 2) := by decide +kernel
theorem dX3_mirrored_61 : decode cX3_mirrored 61 = .ok (.lload 6, 2) := by decide +kernel
theorem dX3_mirrored_63 : decode cX3_mirrored 63 = .ok (.aload_n 0, 1) := by decide +kernel
theorem dX3_mirrored_64 : decode cX3_mirrored 64 = .ok (.getfield 9, 3) := by decide +kernel
theorem dX3_mirrored_67 : decode cX3_mirrored 67 = .ok (.getfield 47, 3) := by decide +kernel
theorem dX3_mirrored_70 : decode cX3_mirrored 70 = .ok (.i2l, 1) := by decide +kernel
theorem dX3_mirrored_71 : decode cX3_mirrored 71 = .ok (.ldiv, 1) := by decide +kernel
theorem dX3_mirrored_72 : decode cX3_mirrored 72 = .ok (.lstore 6, 2) := by decide +kernel
theorem dX3_mirrored_74 : decode cX3_mirrored 74 = .ok (.iinc 8 1, 3) := by decide +kernel
theorem dX3_mirrored_77 : decode cX3_mirrored 77 = .ok (.goto (-49), 3) := by decide +kernel
theorem dX3_mirrored_80 : decode cX3_mirrored 80 = .ok (.lload 4, 2) := by decide +kernel
theorem dX3_mirrored_82 : decode cX3_mirrored 82 = .ok (.lreturn, 1) := by decide +kernel
theorem dX4_init_0 : decode cX4_init 0 = .ok (.aload_n 0, 1) := by decide +kernel
theorem dX4_init_1 : decode cX4_init 1 = .ok (.invokespecial 3, 3) := by decide +kernel
theorem dX4_init_4 : decode cX4_init 4 = .ok (.aload_n 0, 1) := by decide +kernel
theorem dX4_init_5 : decode cX4_init 5 = .ok (.bipush 16, 2) := by decide +kernel
theorem dX4_init_7 : decode cX4_init 7 = .ok (.newarray .int, 2) := by decide +kernel
theorem dX4_init_9 : decode cX4_init 9 = .ok (.putfield 9, 3) := by decide +kernel
theorem dX4_init_12 : decode cX4_init 12 = .ok (.aload_n 0, 1) := by decide +kernel
theorem dX4_init_13 : decode cX4_init 13 = .ok (.bipush 16, 2) := by decide +kernel
theorem dX4_init_15 : decode cX4_init 15 = .ok (.newarray .int, 2) := by decide +kernel
theorem dX4_init_17 : decode cX4_init 17 = .ok (.putfield 15, 3) := by decide +kernel
theorem dX4_init_20 : decode cX4_init 20 = .ok (.aload_n 0, 1) := by decide +kernel
theorem dX4_init_21 : decode cX4_init 21 = .ok (.bipush 16, 2) := by decide +kernel
theorem dX4_init_23 : decode cX4_init 23 = .ok (.newarray .int, 2) := by decide +kernel
theorem dX4_init_25 : decode cX4_init 25 = .ok (.putfield 18, 3) := by decide +kernel
theorem dX4_init_28 : decode cX4_init 28 = .ok (.aload_n 0, 1) := by decide +kernel
theorem dX4_init_29 : decode cX4_init 29 = .ok (.bipush 32, 2) := by decide +kernel
theorem dX4_init_31 : decode cX4_init 31 = .ok (.newarray .int, 2) := by decide +kernel
theorem dX4_init_33 : decode cX4_init 33 = .ok (.putfield 21, 3) := by decide +kernel
theorem dX4_init_36 : decode cX4_init 36 = .ok (.aload_n 0, 1) := by decide +kernel
theorem dX4_init_37 : decode cX4_init 37 = .ok (.iconst 0, 1) := by decide +kernel
theorem dX4_init_38 : decode cX4_init 38 = .ok (.putfield 24, 3) := by decide +kernel
theorem dX4_init_41 : decode cX4_init 41 = .ok (.aload_n 0, 1) := by decide +kernel
theorem dX4_init_42 : decode cX4_init 42 = .ok (.iconst 0, 1) := by decide +kernel
theorem dX4_init_43 : decode cX4_init 43 = .ok (.putfield 28, 3) := by decide +kernel
theorem dX4_init_46 : decode cX4_init 46 = .ok (.aload_n 0, 1) := by decide +kernel
theorem dX4_init_47 : decode cX4_init 47 = .ok (.iconst 0, 1) := by decide +kernel
theorem dX4_init_48 : decode cX4_init 48 = .ok (.putfield 31, 3) := by decide +kernel
theorem dX4_init_51 : decode cX4_init 51 = .ok (.aload_n 0, 1) := by decide +kernel
theorem dX4_init_52 : decode cX4_init 52 = .ok (.iconst 0, 1) := by decide +kernel
theorem dX4_init_53 : decode cX4_init 53 = .ok (.putfield 34, 3) := by decide +kernel
theorem dX4_init_56 : decode cX4_init 56 = .ok (.aload_n 0, 1) := by decide +kernel
theorem dX4_init_57 : decode cX4_init 57 = .ok (.iconst 0, 1) := by decide +kernel
theorem dX4_init_58 : decode cX4_init 58 = .ok (.putfield 37, 3) := by decide +kernel
theorem dX4_init_61 : decode cX4_init 61 = .ok (.aload_n 0, 1) := by decide +kernel
theorem dX4_init_62 : decode cX4_init 62 = .ok (.iconst 0, 1) := by decide +kernel
theorem dX4_init_63 : decode cX4_init 63 = .ok (.putfield 40, 3) := by decide +kernel
theorem dX4_init_66 : decode cX4_init 66 = .ok (.return_, 1) := by decide +kernel
set_option maxRecDepth 20000 in
theorem ggX4_seek_X4_powerOf : GoodIn wsX4_seek wsX4_powerOf := goodIn_r _ [12] (by decide +kernel) (by decide +kernel)
set_option maxRecDepth 20000 in
theorem gX4_seek_X4_powerOf : GoodIn wsX4_seek (va_wsS RX4 43 yX4_powerOf wsX4_powerOf) := goodIn_app (goodIn_of _ (by decide +kernel)) ggX4_seek_X4_powerOf
set_option maxRecDepth 20000 in
theorem ggX4_seek_X4_take : GoodIn wsX4_seek wsX4_take := goodIn_r _ [15, 16, 17, 18, 19, 4, 6, 7, 5, 20, 21, 22, 11, 23, 24, 2, 1, 25, 26, 27, 28, 8, 29, 30, 31, 32, 33, 34, 35, 36, 37, 38, 39, 40, 41, 42, 43, 44, 45, 13, 14, 46, 47, 48, 49, 50, 51, 52, 53, 54, 55] (by decide +kernel) (by decide +kernel)
set_option maxRecDepth 20000 in
theorem gX4_seek_X4_take : GoodIn wsX4_seek (va_wsS RX4 47 yX4_take wsX4_take) := goodIn_app (goodIn_of _ (by decide +kernel)) ggX4_seek_X4_take
theorem dX4_seek_0 : decode cX4_seek 0 = .ok (.aload_n 0, 1) := by decide +kernel
theorem dX4_seek_1 : decode cX4_seek 1 = .ok (.getfield 28, 3) := by decide +kernel
theorem dX4_seek_4 : decode cX4_seek 4 = .ok (.iload_n 1, 1) := by decide +kernel
theorem dX4_seek_5 : decode cX4_seek 5 = .ok (.if_icmp .ne 20, 3) := by decide +kernel
theorem dX4_seek_8 : decode cX4_seek 8 = .ok (.aload_n 0, 1) := by decide +kernel
theorem dX4_seek_9 : decode cX4_seek 9 = .ok (.getfield 31, 3) := by decide +kernel
theorem dX4_seek_12 : decode cX4_seek 12 = .ok (.iload_n 2, 1) := by decide +kernel
theorem dX4_seek_13 : decode cX4_seek 13 = .ok (.if_icmp .ne 12, 3) := by decide +kernel
theorem dX4_seek_16 : decode cX4_seek 16 = .ok (.aload_n 0, 1) := by decide +kernel
theorem dX4_seek_17 : decode cX4_seek 17 = .ok (.getfield 34, 3) := by decide +kernel
theorem dX4_seek_20 : decode cX4_seek 20 = .ok (.iload_n 3, 1) := by decide +kernel
theorem dX4_seek_21 : decode cX4_seek 21 = .ok (.if_icmp .ne 4, 3) := by decide +kernel
theorem dX4_seek_24 : decode cX4_seek 24 = .ok (.return_, 1) := by decide +kernel
theorem dX4_seek_25 : decode cX4_seek 25 = .ok (.aload_n 0, 1) := by decide +kernel
theorem dX4_seek_26 : decode cX4_seek 26 = .ok (.iload_n 1, 1) := by decide +kernel
theorem dX4_seek_27 : decode cX4_seek 27 = .ok (.putfield 28, 3) := by decide +kernel
theorem dX4_seek_30 : decode cX4_seek 30 = .ok (.aload_n 0, 1) := by decide +kernel
theorem dX4_seek_31 : decode cX4_seek 31 = .ok (.iload_n 2, 1) := by decide +kernel
theorem dX4_seek_32 : decode cX4_seek 32 = .ok (.putfield 31, 3) := by decide +kernel
theorem dX4_seek_35 : decode cX4_seek 35 = .ok (.aload_n 0, 1) := by decide +kernel
theorem dX4_seek_36 : decode cX4_seek 36 = .ok (.iload_n 3, 1) := by decide +kernel
theorem dX4_seek_37 : decode cX4_seek 37 = .ok (.putfield 34, 3) := by decide +kernel
theorem dX4_seek_40 : decode cX4_seek 40 = .ok (.iconst 0, 1) := by decide +kernel
theorem dX4_seek_41 : decode cX4_seek 41 = .ok (.istore 4, 2) := by decide +kernel
theorem dX4_seek_43 : decode cX4_seek 43 = .ok (.iload 4, 2) := by decide +kernel
theorem dX4_seek_45 : decode cX4_seek 45 = .ok (.aload_n 0, 1) := by decide +kernel
theorem dX4_seek_46 : decode cX4_seek 46 = .ok (.getfield 9, 3) := by decide +kernel
theorem dX4_seek_49 : decode cX4_seek 49 = .ok (.arraylength, 1) := by decide +kernel
theorem dX4_seek_50 : decode cX4_seek 50 = .ok (.if_icmp .ge 30, 3) := by decide +kernel
theorem dX4_seek_53 : decode cX4_seek 53 = .ok (.aload_n 0, 1) := by decide +kernel
theorem dX4_seek_54 : decode cX4_seek 54 = .ok (.getfield 9, 3) := by decide +kernel
theorem dX4_seek_57 : decode cX4_seek 57 = .ok (.iload 4, 2) := by decide +kernel
theorem dX4_seek_59 : decode cX4_seek 59 = .ok (.iload 4, 2) := by decide +kernel
theorem dX4_seek_61 : decode cX4_seek 61 = .ok (.iload_n 3, 1) := by decide +kernel
theorem dX4_seek_62 : decode cX4_seek 62 = .ok (.invokestatic 43, 3) := by decide +kernel
theorem dX4_seek_65 : decode cX4_seek 65 = .ok (.iastore, 1) := by decide +kernel
theorem dX4_seek_66 : decode cX4_seek 66 = .ok (.aload_n 0, 1) := by decide +kernel
theorem dX4_seek_67 : decode cX4_seek 67 = .ok (.getfield 15, 3) := by decide +kernel
theorem dX4_seek_70 : decode cX4_seek 70 = .ok (.iload 4, 2) := by decide +kernel
theorem dX4_seek_72 : decode cX4_seek 72 = .ok (.iconst 0, 1) := by decide +kernel
theorem dX4_seek_73 : decode cX4_seek 73 = .ok (.iastore, 1) := by decide +kernel
theorem dX4_seek_74 : decode cX4_seek 74 = .ok (.iinc 4 1, 3) := by decide +kernel
theorem dX4_seek_77 : decode cX4_seek 77 = .ok (.goto (-34), 3) := by decide +kernel
theorem dX4_seek_80 : decode cX4_seek 80 = .ok (.aload_n 0, 1) := by decide +kernel
theorem dX4_seek_81 : decode cX4_seek 81 = .ok (.iload_n 2, 1) := by decide +kernel
theorem dX4_seek_82 : decode cX4_seek 82 = .ok (.iconst 1, 1) := by decide +kernel
theorem dX4_seek_83 : decode cX4_seek 83 = .ok (.if_icmp .ne 7, 3) := by decide +kernel
theorem dX4_seek_86 : decode cX4_seek 86 = .ok (.iconst 0, 1) := by decide +kernel
theorem dX4_seek_87 : decode cX4_seek 87 = .ok (.goto 10, 3) := by decide +kernel
theorem dX4_seek_90 : decode cX4_seek 90 = .ok (.iload_n 1, 1) := by decide +kernel
theorem dX4_seek_91 : decode cX4_seek 91 = .ok (.iload_n 2, 1) := by decide +kernel
theorem dX4_seek_92 : decode cX4_seek 92 = .ok (.iconst 1, 1) := by decide +kernel
theorem dX4_seek_93 : decode cX4_seek 93 = .ok (.isub, 1) := by decide +kernel
theorem dX4_seek_94 : decode cX4_seek 94 = .ok (.invokestatic 43, 3) := by decide +kernel
theorem dX4_seek_97 : decode cX4_seek 97 = .ok (.putfield 37, 3) := by decide +kernel
theorem dX4_seek_100 : decode cX4_seek 100 = .ok (.aload_n 0, 1) := by decide +kernel
theorem dX4_seek_101 : decode cX4_seek 101 = .ok (.iload_n 1, 1) := by decide +kernel
theorem dX4_seek_102 : decode cX4_seek 102 = .ok (.iload_n 2, 1) := by decide +kernel
theorem dX4_seek_103 : decode cX4_seek 103 = .ok (.invokestatic 43, 3) := by decide +kernel
theorem dX4_seek_106 : decode cX4_seek 106 = .ok (.iconst 1, 1) := by decide +kernel
theorem dX4_seek_107 : decode cX4_seek 107 = .ok (.isub, 1) := by decide +kernel
theorem dX4_seek_108 : decode cX4_seek 108 = .ok (.putfield 40, 3) := by decide +kernel
theorem dX4_seek_111 : decode cX4_seek 111 = .ok (.aload_n 0, 1) := by decide +kernel
theorem dX4_seek_112 : decode cX4_seek 112 = .ok (.iconst 0, 1) := by decide +kernel
theorem dX4_seek_113 : decode cX4_seek 113 = .ok (.putfield 24, 3) := by decide +kernel
theorem dX4_seek_116 : decode cX4_seek 116 = .ok (.aload_n 0, 1) := by decide +kernel
theorem dX4_seek_117 : decode cX4_seek 117 = .ok (.iload_n 2, 1) := by decide +kernel
theorem dX4_seek_118 : decode cX4_seek 118 = .ok (.iload_n 1, 1) := by decide +kernel
theorem dX4_seek_119 : decode cX4_seek 119 = .ok (.iconst 1, 1) := by decide +kernel
theorem dX4_seek_120 : decode cX4_seek 120 = .ok (.isub, 1) := by decide +kernel
theorem dX4_seek_121 : decode cX4_seek 121 = .ok (.iconst 0, 1) := by decide +kernel
theorem dX4_seek_122 : decode cX4_seek 122 = .ok (.invokestatic 47, 3) := by decide +kernel
theorem dX4_seek_125 : decode cX4_seek 125 = .ok (.return_, 1) := by decide +kernel
theorem dX4_powerOf_0 : decode cX4_powerOf 0 = .ok (.iconst 1, 1) := by decide +kernel
theorem dX4_powerOf_1 : decode cX4_powerOf 1 = .ok (.istore_n 2, 1) := by decide +kernel
theorem dX4_powerOf_2 : decode cX4_powerOf 2 = .ok (.iconst 0, 1) := by decide +kernel
theorem dX4_powerOf_3 : decode cX4_powerOf 3 = .ok (.istore_n 3, 1) := by decide +kernel
theorem dX4_powerOf_4 : decode cX4_powerOf 4 = .ok (.iload_n 3, 1) := by decide +kernel
theorem dX4_powerOf_5 : decode cX4_powerOf 5 = .ok (.iload_n 1, 1) := by decide +kernel
theorem dX4_powerOf_6 : decode cX4_powerOf 6 = .ok (.if_icmp .ge 13, 3) := by decide +kernel
theorem dX4_powerOf_9 : decode cX4_powerOf 9 = .ok (.iload_n 2, 1) := by decide +kernel
theorem dX4_powerOf_10 : decode cX4_powerOf 10 = .ok (.iload_n 0, 1) := by decide +kernel
theorem dX4_powerOf_11 : decode cX4_powerOf 11 = .ok (.imul, 1) := by decide +kernel
theorem dX4_powerOf_12 : decode cX4_powerOf 12 = .ok (.istore_n 2, 1) := by decide +kernel
theorem dX4_powerOf_13 : decode cX4_powerOf 13 = .ok (.iinc 3 1, 3) := by decide +kernel
theorem dX4_powerOf_16 : decode cX4_powerOf 16 = .ok (.goto (-12), 3) := by decide +kernel
theorem dX4_powerOf_19 : decode cX4_powerOf 19 = .ok (.iload_n 2, 1) := by decide +kernel
theorem dX4_powerOf_20 : decode cX4_powerOf 20 = .ok (.ireturn, 1) := by decide +kernel
set_option maxRecDepth 20000 in
theorem ggX4_take_X4_look : GoodIn wsX4_take wsX4_look := goodIn_r _ [13, 14, 8, 15, 16, 17, 18, 19, 12, 20, 21, 22, 23, 24, 25, 26, 27, 28, 29, 30, 31, 32, 33, 34, 2, 3, 4, 35, 36, 37, 38, 41, 42, 43, 44, 45, 46, 47, 48, 49, 50] (by decide +kernel) (by decide +kernel)
set_option maxRecDepth 20000 in
theorem gX4_take_X4_look : GoodIn wsX4_take (wsV RX4 51 RX4 yX4_look wsX4_look) := goodIn_app (goodIn_of _ (by decide +kernel)) ggX4_take_X4_look
set_option maxRecDepth 20000 in
theorem ggX4_take_X4_take : GoodIn wsX4_take wsX4_take := goodIn_r _ [0, 1, 2, 3, 4, 5, 6, 7, 8, 9, 10, 11, 12, 13, 14, 15, 16, 17, 18, 19, 20, 21, 22, 23, 24, 25, 26, 27, 28, 29, 30, 31, 32, 33, 34, 35, 36, 37, 38, 39, 40, 41, 42, 43, 44, 45, 46, 47, 48, 49, 50] (by decide +kernel) (by decide +kernel)
set_option maxRecDepth 20000 in
theorem gX4_take_X4_take : GoodIn wsX4_take (va_wsS RX4 47 yX4_take wsX4_take) := goodIn_app (goodIn_of _ (by decide +kernel)) ggX4_take_X4_take
theorem dX4_take_0 : decode cX4_take 0 = .ok (.iload_n 1, 1) := by decide +kernel
theorem dX4_take_1 : decode cX4_take 1 = .ok (.ifCond .gt 9, 3) := by decide +kernel
theorem dX4_take_4 : decode cX4_take 4 = .ok (.aload_n 0, 1) := by decide +kernel
theorem dX4_take_5 : decode cX4_take 5 = .ok (.iload_n 3, 1) := by decide +kernel
theorem dX4_take_6 : decode cX4_take 6 = .ok (.invokevirtual 51, 3) := by decide +kernel
theorem dX4_take_9 : decode cX4_take 9 = .ok (.return_, 1) := by decide +kernel
theorem dX4_take_10 : decode cX4_take 10 = .ok (.iload_n 2, 1) := by decide +kernel
theorem dX4_take_11 : decode cX4_take 11 = .ok (.bipush 15, 2) := by decide +kernel
theorem dX4_take_13 : decode cX4_take 13 = .ok (.invokestatic 55, 3) := by decide +kernel
theorem dX4_take_16 : decode cX4_take 16 = .ok (.istore 4, 2) := by decide +kernel
theorem dX4_take_18 : decode cX4_take 18 = .ok (.iload 4, 2) := by decide +kernel
theorem dX4_take_20 : decode cX4_take 20 = .ok (.ifCond .lt 78, 3) := by decide +kernel
theorem dX4_take_23 : decode cX4_take 23 = .ok (.aload_n 0, 1) := by decide +kernel
theorem dX4_take_24 : decode cX4_take 24 = .ok (.getfield 9, 3) := by decide +kernel
theorem dX4_take_27 : decode cX4_take 27 = .ok (.iload 4, 2) := by decide +kernel
theorem dX4_take_29 : decode cX4_take 29 = .ok (.iaload, 1) := by decide +kernel
theorem dX4_take_30 : decode cX4_take 30 = .ok (.istore 5, 2) := by decide +kernel
theorem dX4_take_32 : decode cX4_take 32 = .ok (.iload_n 3, 1) := by decide +kernel
theorem dX4_take_33 : decode cX4_take 33 = .ok (.iload_n 1, 1) := by decide +kernel
theorem dX4_take_34 : decode cX4_take 34 = .ok (.iload 5, 2) := by decide +kernel
theorem dX4_take_36 : decode cX4_take 36 = .ok (.imul, 1) := by decide +kernel
theorem dX4_take_37 : decode cX4_take 37 = .ok (.iadd, 1) := by decide +kernel
theorem dX4_take_38 : decode cX4_take 38 = .ok (.aload_n 0, 1) := by decide +kernel
theorem dX4_take_39 : decode cX4_take 39 = .ok (.getfield 37, 3) := by decide +kernel
theorem dX4_take_42 : decode cX4_take 42 = .ok (.if_icmp .ge 4, 3) := by decide +kernel
theorem dX4_take_45 : decode cX4_take 45 = .ok (.return_, 1) := by decide +kernel
theorem dX4_take_46 : decode cX4_take 46 = .ok (.iload_n 3, 1) := by decide +kernel
theorem dX4_take_47 : decode cX4_take 47 = .ok (.iload 5, 2) := by decide +kernel
theorem dX4_take_49 : decode cX4_take 49 = .ok (.iadd, 1) := by decide +kernel
theorem dX4_take_50 : decode cX4_take 50 = .ok (.aload_n 0, 1) := by decide +kernel
theorem dX4_take_51 : decode cX4_take 51 = .ok (.getfield 40, 3) := by decide +kernel
theorem dX4_take_54 : decode cX4_take 54 = .ok (.if_icmp .gt 38, 3) := by decide +kernel
theorem dX4_take_57 : decode cX4_take 57 = .ok (.aload_n 0, 1) := by decide +kernel
theorem dX4_take_58 : decode cX4_take 58 = .ok (.getfield 15, 3) := by decide +kernel
theorem dX4_take_61 : decode cX4_take 61 = .ok (.iload 4, 2) := by decide +kernel
theorem dX4_take_63 : decode cX4_take 63 = .ok (.dup2, 1) := by decide +kernel
theorem dX4_take_64 : decode cX4_take 64 = .ok (.iaload, 1) := by decide +kernel
theorem dX4_take_65 : decode cX4_take 65 = .ok (.iconst 1, 1) := by decide +kernel
theorem dX4_take_66 : decode cX4_take 66 = .ok (.iadd, 1) := by decide +kernel
theorem dX4_take_67 : decode cX4_take 67 = .ok (.iastore, 1) := by decide +kernel
theorem dX4_take_68 : decode cX4_take 68 = .ok (.aload_n 0, 1) := by decide +kernel
theorem dX4_take_69 : decode cX4_take 69 = .ok (.iload_n 1, 1) := by decide +kernel
theorem dX4_take_70 : decode cX4_take 70 = .ok (.iconst 1, 1) := by decide +kernel
theorem dX4_take_71 : decode cX4_take 71 = .ok (.isub, 1) := by decide +kernel
theorem dX4_take_72 : decode cX4_take 72 = .ok (.iload 4, 2) := by decide +kernel
theorem dX4_take_74 : decode cX4_take 74 = .ok (.iload_n 3, 1) := by decide +kernel
theorem dX4_take_75 : decode cX4_take 75 = .ok (.iload 5, 2) := by decide +kernel
theorem dX4_take_77 : decode cX4_take 77 = .ok (.iadd, 1) := by decide +kernel
theorem dX4_take_78 : decode cX4_take 78 = .ok (.invokestatic 47, 3) := by decide +kernel
theorem dX4_take_81 : decode cX4_take 81 = .ok (.aload_n 0, 1) := by decide +kernel
theorem dX4_take_82 : decode cX4_take 82 = .ok (.getfield 15, 3) := by decide +kernel
theorem dX4_take_85 : decode cX4_take 85 = .ok (.iload 4, 2) := by decide +kernel
theorem dX4_take_87 : decode cX4_take 87 = .ok (.dup2, 1) := by decide +kernel
theorem dX4_take_88 : decode cX4_take 88 = .ok (.iaload, 1) := by decide +kernel
theorem dX4_take_89 : decode cX4_take 89 = .ok (.iconst 1, 1) := by decide +kernel
theorem dX4_take_90 : decode cX4_take 90 = .ok (.isub, 1) := by decide +kernel
theorem dX4_take_91 : decode cX4_take 91 = .ok (.iastore, 1) := by decide +kernel
theorem dX4_take_92 : decode cX4_take 92 = .ok (.iinc 4 (-1), 3) := by decide +kernel
theorem dX4_take_95 : decode cX4_take 95 = .ok (.goto (-77), 3) := by decide +kernel
theorem dX4_take_98 : decode cX4_take 98 = .ok (.return_, 1) := by decide +kernel
set_option maxRecDepth 20000 in
theorem ggX4_look_X4_insert : GoodIn wsX4_look wsX4_insert := goodIn_r _ [9, 10, 11, 12, 13, 14, 15, 16, 17, 18, 19, 20, 21, 22, 23, 24, 25, 26, 27, 28, 29, 30, 31, 32, 33, 34, 35, 36, 37, 38, 39, 40] (by decide +kernel) (by decide +kernel)
set_option maxRecDepth 20000 in
theorem gX4_look_X4_insert : GoodIn wsX4_look (wsV RX4 60 RX4 yX4_insert wsX4_insert) := goodIn_app (goodIn_of _ (by decide +kernel)) ggX4_look_X4_insert
theorem dX4_look_0 : decode cX4_look 0 = .ok (.iconst 0, 1) := by decide +kernel
theorem dX4_look_1 : decode cX4_look 1 = .ok (.istore_n 2, 1) := by decide +kernel
theorem dX4_look_2 : decode cX4_look 2 = .ok (.iload_n 2, 1) := by decide +kernel
theorem dX4_look_3 : decode cX4_look 3 = .ok (.aload_n 0, 1) := by decide +kernel
theorem dX4_look_4 : decode cX4_look 4 = .ok (.getfield 18, 3) := by decide +kernel
theorem dX4_look_7 : decode cX4_look 7 = .ok (.arraylength, 1) := by decide +kernel
theorem dX4_look_8 : decode cX4_look 8 = .ok (.if_icmp .ge 21, 3) := by decide +kernel
theorem dX4_look_11 : decode cX4_look 11 = .ok (.aload_n 0, 1) := by decide +kernel
theorem dX4_look_12 : decode cX4_look 12 = .ok (.getfield 18, 3) := by decide +kernel
theorem dX4_look_15 : decode cX4_look 15 = .ok (.iload_n 2, 1) := by decide +kernel
theorem dX4_look_16 : decode cX4_look 16 = .ok (.aload_n 0, 1) := by decide +kernel
theorem dX4_look_17 : decode cX4_look 17 = .ok (.getfield 15, 3) := by decide +kernel
theorem dX4_look_20 : decode cX4_look 20 = .ok (.iload_n 2, 1) := by decide +kernel
theorem dX4_look_21 : decode cX4_look 21 = .ok (.iaload, 1) := by decide +kernel
theorem dX4_look_22 : decode cX4_look 22 = .ok (.iastore, 1) := by decide +kernel
theorem dX4_look_23 : decode cX4_look 23 = .ok (.iinc 2 1, 3) := by decide +kernel
theorem dX4_look_26 : decode cX4_look 26 = .ok (.goto (-24), 3) := by decide +kernel
theorem dX4_look_29 : decode cX4_look 29 = .ok (.iload_n 1, 1) := by decide +kernel
theorem dX4_look_30 : decode cX4_look 30 = .ok (.istore_n 2, 1) := by decide +kernel
theorem dX4_look_31 : decode cX4_look 31 = .ok (.iconst 0, 1) := by decide +kernel
theorem dX4_look_32 : decode cX4_look 32 = .ok (.istore_n 3, 1) := by decide +kernel
theorem dX4_look_33 : decode cX4_look 33 = .ok (.iload_n 3, 1) := by decide +kernel
theorem dX4_look_34 : decode cX4_look 34 = .ok (.aload_n 0, 1) := by decide +kernel
theorem dX4_look_35 : decode cX4_look 35 = .ok (.getfield 31, 3) := by decide +kernel
theorem dX4_look_38 : decode cX4_look 38 = .ok (.if_icmp .ge 46, 3) := by decide +kernel
theorem dX4_look_41 : decode cX4_look 41 = .ok (.iload_n 2, 1) := by decide +kernel
theorem dX4_look_42 : decode cX4_look 42 = .ok (.aload_n 0, 1) := by decide +kernel
theorem dX4_look_43 : decode cX4_look 43 = .ok (.getfield 28, 3) := by decide +kernel
theorem dX4_look_46 : decode cX4_look 46 = .ok (.irem, 1) := by decide +kernel
theorem dX4_look_47 : decode cX4_look 47 = .ok (.istore 4, 2) := by decide +kernel
theorem dX4_look_49 : decode cX4_look 49 = .ok (.aload_n 0, 1) := by decide +kernel
theorem dX4_look_50 : decode cX4_look 50 = .ok (.getfield 18, 3) := by decide +kernel
theorem dX4_look_53 : decode cX4_look 53 = .ok (.iload 4, 2) := by decide +kernel
theorem dX4_look_55 : decode cX4_look 55 = .ok (.iaload, 1) := by decide +kernel
theorem dX4_look_56 : decode cX4_look 56 = .ok (.ifCond .ne 4, 3) := by decide +kernel
theorem dX4_look_59 : decode cX4_look 59 = .ok (.return_, 1) := by decide +kernel
theorem dX4_look_60 : decode cX4_look 60 = .ok (.aload_n 0, 1) := by decide +kernel
theorem dX4_look_61 : decode cX4_look 61 = .ok (.getfield 18, 3) := by decide +kernel
theorem dX4_look_64 : decode cX4_look 64 = .ok (.iload 4, 2) := by decide +kernel
theorem dX4_look_66 : decode cX4_look 66 = .ok (.dup2, 1) := by decide +kernel
theorem dX4_look_67 : decode cX4_look 67 = .ok (.iaload, 1) := by decide +kernel
theorem dX4_look_68 : decode cX4_look 68 = .ok (.iconst 1, 1) := by decide +kernel
theorem dX4_look_69 : decode cX4_look 69 = .ok (.isub, 1) := by decide +kernel
theorem dX4_look_70 : decode cX4_look 70 = .ok (.iastore, 1) := by decide +kernel
theorem dX4_look_71 : decode cX4_look 71 = .ok (.iload_n 2, 1) := by decide +kernel
theorem dX4_look_72 : decode cX4_look 72 = .ok (.aload_n 0, 1) := by decide +kernel
theorem dX4_look_73 : decode cX4_look 73 = .ok (.getfield 28, 3) := by decide +kernel
theorem dX4_look_76 : decode cX4_look 76 = .ok (.idiv, 1) := by decide +kernel
theorem dX4_look_77 : decode cX4_look 77 = .ok (.istore_n 2, 1) := by decide +kernel
theorem dX4_look_78 : decode cX4_look 78 = .ok (.iinc 3 1, 3) := by decide +kernel
theorem dX4_look_81 : decode cX4_look 81 = .ok (.goto (-48), 3) := by decide +kernel
theorem dX4_look_84 : decode cX4_look 84 = .ok (.aload_n 0, 1) := by decide +kernel
theorem dX4_look_85 : decode cX4_look 85 = .ok (.iload_n 1, 1) := by decide +kernel
theorem dX4_look_86 : decode cX4_look 86 = .ok (.invokevirtual 60, 3) := by decide +kernel
theorem dX4_look_89 : decode cX4_look 89 = .ok (.return_, 1) := by decide +kernel
set_option maxRecDepth 20000 in
theorem ggX4_insert_J7_copyOf_59c91 : GoodIn wsX4_insert wsJ7_copyOf_59c91 := goodIn_r _ [6, 7, 8, 9, 10, 11, 12, 13, 14, 15, 16, 17, 18, 19, 20, 21] (by decide +kernel) (by decide +kernel)
set_option maxRecDepth 20000 in
theorem gX4_insert_J7_copyOf_59c91 : GoodIn wsX4_insert (va_wsS RX4 63 yJ7_copyOf_59c91 wsJ7_copyOf_59c91) := goodIn_app (goodIn_of _ (by decide +kernel)) ggX4_insert_J7_copyOf_59c91
theorem dX4_insert_0 : decode cX4_insert 0 = .ok (.aload_n 0, 1) := by decide +kernel
theorem dX4_insert_1 : decode cX4_insert 1 = .ok (.getfield 24, 3) := by decide +kernel
theorem dX4_insert_4 : decode cX4_insert 4 = .ok (.aload_n 0, 1) := by decide +kernel
theorem dX4_insert_5 : decode cX4_insert 5 = .ok (.getfield 21, 3) := by decide +kernel
theorem dX4_insert_8 : decode cX4_insert 8 = .ok (.arraylength, 1) := by decide +kernel
theorem dX4_insert_9 : decode cX4_insert 9 = .ok (.if_icmp .ne 20, 3) := by decide +kernel
theorem dX4_insert_12 : decode cX4_insert 12 = .ok (.aload_n 0, 1) := by decide +kernel
theorem dX4_insert_13 : decode cX4_insert 13 = .ok (.aload_n 0, 1) := by decide +kernel
theorem dX4_insert_14 : decode cX4_insert 14 = .ok (.getfield 21, 3) := by decide +kernel
theorem dX4_insert_17 : decode cX4_insert 17 = .ok (.iconst 2, 1) := by decide +kernel
theorem dX4_insert_18 : decode cX4_insert 18 = .ok (.aload_n 0, 1) := by decide +kernel
theorem dX4_insert_19 : decode cX4_insert 19 = .ok (.getfield 24, 3) := by decide +kernel
theorem dX4_insert_22 : decode cX4_insert 22 = .ok (.imul, 1) := by decide +kernel
theorem dX4_insert_23 : decode cX4_insert 23 = .ok (.invokestatic 63, 3) := by decide +kernel
theorem dX4_insert_26 : decode cX4_insert 26 = .ok (.putfield 21, 3) := by decide +kernel
theorem dX4_insert_29 : decode cX4_insert 29 = .ok (.aload_n 0, 1) := by decide +kernel
theorem dX4_insert_30 : decode cX4_insert 30 = .ok (.getfield 24, 3) := by decide +kernel
theorem dX4_insert_33 : decode cX4_insert 33 = .ok (.istore_n 2, 1) := by decide +kernel
theorem dX4_insert_34 : decode cX4_insert 34 = .ok (.iload_n 2, 1) := by decide +kernel
theorem dX4_insert_35 : decode cX4_insert 35 = .ok (.ifCond .le 35, 3) := by decide +kernel
theorem dX4_insert_38 : decode cX4_insert 38 = .ok (.aload_n 0, 1) := by decide +kernel
theorem dX4_insert_39 : decode cX4_insert 39 = .ok (.getfield 21, 3) := by decide +kernel
theorem dX4_insert_42 : decode cX4_insert 42 = .ok (.iload_n 2, 1) := by decide +kernel
theorem dX4_insert_43 : decode cX4_insert 43 = .ok (.iconst 1, 1) := by decide +kernel
theorem dX4_insert_44 : decode cX4_insert 44 = .ok (.isub, 1) := by decide +kernel
theorem dX4_insert_45 : decode cX4_insert 45 = .ok (.iaload, 1) := by decide +kernel
theorem dX4_insert_46 : decode cX4_insert 46 = .ok (.iload_n 1, 1) := by decide +kernel
theorem dX4_insert_47 : decode cX4_insert 47 = .ok (.if_icmp .le 23, 3) := by decide +kernel
theorem dX4_insert_50 : decode cX4_insert 50 = .ok (.aload_n 0, 1) := by decide +kernel
theorem dX4_insert_51 : decode cX4_insert 51 = .ok (.getfield 21, 3) := by decide +kernel
theorem dX4_insert_54 : decode cX4_insert 54 = .ok (.iload_n 2, 1) := by decide +kernel
theorem dX4_insert_55 : decode cX4_insert 55 = .ok (.aload_n 0, 1) := by decide +kernel
theorem dX4_insert_56 : decode cX4_insert 56 = .ok (.getfield 21, 3) := by decide +kernel
theorem dX4_insert_59 : decode cX4_insert 59 = .ok (.iload_n 2, 1) := by decide +kernel
theorem dX4_insert_60 : decode cX4_insert 60 = .ok (.iconst 1, 1) := by decide +kernel
theorem dX4_insert_61 : decode cX4_insert 61 = .ok (.isub, 1) := by decide +kernel
theorem dX4_insert_62 : decode cX4_insert 62 = .ok (.iaload, 1) := by decide +kernel
theorem dX4_insert_63 : decode cX4_insert 63 = .ok (.iastore, 1) := by decide +kernel
theorem dX4_insert_64 : decode cX4_insert 64 = .ok (.iinc 2 (-1), 3) := by decide +kernel
theorem dX4_insert_67 : decode cX4_insert 67 = .ok (.goto (-33), 3) := by decide +kernel
theorem dX4_insert_70 : decode cX4_insert 70 = .ok (.aload_n 0, 1) := by decide +kernel
theorem dX4_insert_71 : decode cX4_insert 71 = .ok (.getfield 21, 3) := by decide +kernel
theorem dX4_insert_74 : decode cX4_insert 74 = .ok (.iload_n 2, 1) := by decide +kernel
theorem dX4_insert_75 : decode cX4_insert 75 = .ok (.iload_n 1, 1) := by decide +kernel
theorem dX4_insert_76 : decode cX4_insert 76 = .ok (.iastore, 1) := by decide +kernel
theorem dX4_insert_77 : decode cX4_insert 77 = .ok (.aload_n 0, 1) := by decide +kernel
theorem dX4_insert_78 : decode cX4_insert 78 = .ok (.dup, 1) := by decide +kernel
theorem dX4_insert_79 : decode cX4_insert 79 = .ok (.getfield 24, 3) := by decide +kernel
theorem dX4_insert_82 : decode cX4_insert 82 = .ok (.iconst 1, 1) := by decide +kernel
theorem dX4_insert_83 : decode cX4_insert 83 = .ok (.iadd, 1) := by decide +kernel
theorem dX4_insert_84 : decode cX4_insert 84 = .ok (.putfield 24, 3) := by decide +kernel
theorem dX4_insert_87 : decode cX4_insert 87 = .ok (.return_, 1) := by decide +kernel
theorem dX5_init_0 : decode cX5_init 0 = .ok (.aload_n 0, 1) := by decide +kernel
theorem dX5_init_1 : decode cX5_init 1 = .ok (.invokespecial 3, 3) := by decide +kernel
theorem dX5_init_4 : decode cX5_init 4 = .ok (.aload_n 0, 1) := by decide +kernel
theorem dX5_init_5 : decode cX5_init 5 = .ok (.iconst 0, 1) := by decide +kernel
theorem dX5_init_6 : decode cX5_init 6 = .ok (.putfield 9, 3) := by decide +kernel
theorem dX5_init_9 : decode cX5_init 9 = .ok (.aload_n 0, 1) := by decide +kernel
theorem dX5_init_10 : decode cX5_init 10 = .ok (.sipush 512, 3) := by decide +kernel
theorem dX5_init_13 : decode cX5_init 13 = .ok (.newarray .int, 2) := by decide +kernel
theorem dX5_init_15 : decode cX5_init 15 = .ok (.putfield 15, 3) := by decide +kernel
theorem dX5_init_18 : decode cX5_init 18 = .ok (.aload_n 0, 1) := by decide +kernel
theorem dX5_init_19 : decode cX5_init 19 = .ok (.iconst 0, 1) := by decide +kernel
theorem dX5_init_20 : decode cX5_init 20 = .ok (.putfield 19, 3) := by decide +kernel
theorem dX5_init_23 : decode cX5_init 23 = .ok (.aload_n 0, 1) := by decide +kernel
theorem dX5_init_24 : decode cX5_init 24 = .ok (.sipush 10001, 3) := by decide +kernel
theorem dX5_init_27 : decode cX5_init 27 = .ok (.newarray .boolean, 2) := by decide +kernel
theorem dX5_init_29 : decode cX5_init 29 = .ok (.putfield 22, 3) := by decide +kernel
theorem dX5_init_32 : decode cX5_init 32 = .ok (.aload_n 0, 1) := by decide +kernel
theorem dX5_init_33 : decode cX5_init 33 = .ok (.aload_n 1, 1) := by decide +kernel
theorem dX5_init_34 : decode cX5_init 34 = .ok (.putfield 26, 3) := by decide +kernel
theorem dX5_init_37 : decode cX5_init 37 = .ok (.return_, 1) := by decide +kernel
set_option maxRecDepth 20000 in
theorem ggX5_fewestFor_X5_renew : GoodIn wsX5_fewestFor wsX5_renew := goodIn_r _ [8, 9, 1, 10, 11, 2, 3, 12, 13, 14, 15, 16, 17, 18, 19, 20, 21, 22, 23, 24, 25, 26, 27, 28, 29, 30, 31, 32, 33, 34, 35, 36, 37, 38, 39, 40, 41, 42, 43, 44, 45, 46, 47, 48, 58, 59, 60, 61, 62, 63, 64, 65, 66, 67, 68] (by decide +kernel) (by decide +kernel)
set_option maxRecDepth 20000 in
theorem gX5_fewestFor_X5_renew : GoodIn wsX5_fewestFor (wsV RX5 30 RX5 yX5_renew wsX5_renew) := goodIn_app (goodIn_of _ (by decide +kernel)) ggX5_fewestFor_X5_renew
set_option maxRecDepth 20000 in
theorem ggX5_fewestFor_X3_isMirror : GoodIn wsX5_fewestFor wsX3_isMirror := goodIn_r _ [52, 19, 53, 22, 23, 24, 25, 26, 27, 28, 63, 64, 65, 66, 67, 68] (by decide +kernel) (by decide +kernel)
set_option maxRecDepth 20000 in
theorem gX5_fewestFor_X3_isMirror : GoodIn wsX5_fewestFor (wsV RX5 33 RX3 yX3_isMirror wsX3_isMirror) := goodIn_app (goodIn_of _ (by decide +kernel)) ggX5_fewestFor_X3_isMirror
set_option maxRecDepth 20000 in
theorem ggX5_fewestFor_X5_isByTwo : GoodIn wsX5_fewestFor wsX5_isByTwo := goodIn_r _ [57, 13, 58, 59, 60, 61, 62] (by decide +kernel) (by decide +kernel)
set_option maxRecDepth 20000 in
theorem gX5_fewestFor_X5_isByTwo : GoodIn wsX5_fewestFor (wsV RX5 39 RX5 yX5_isByTwo wsX5_isByTwo) := goodIn_app (goodIn_of _ (by decide +kernel)) ggX5_fewestFor_X5_isByTwo
theorem dX5_fewestFor_0 : decode cX5_fewestFor 0 = .ok (.aload_n 0, 1) := by decide +kernel
theorem dX5_fewestFor_1 : decode cX5_fewestFor 1 = .ok (.invokevirtual 30, 3) := by decide +kernel
theorem dX5_fewestFor_4 : decode cX5_fewestFor 4 = .ok (.aload_n 0, 1) := by decide +kernel
theorem dX5_fewestFor_5 : decode cX5_fewestFor 5 = .ok (.getfield 26, 3) := by decide +kernel
theorem dX5_fewestFor_8 : decode cX5_fewestFor 8 = .ok (.iload_n 1, 1) := by decide +kernel
theorem dX5_fewestFor_9 : decode cX5_fewestFor 9 = .ok (.i2l, 1) := by decide +kernel
theorem dX5_fewestFor_10 : decode cX5_fewestFor 10 = .ok (.invokevirtual 33, 3) := by decide +kernel
theorem dX5_fewestFor_13 : decode cX5_fewestFor 13 = .ok (.ifCond .eq 5, 3) := by decide +kernel
theorem dX5_fewestFor_16 : decode cX5_fewestFor 16 = .ok (.iconst 1, 1) := by decide +kernel
theorem dX5_fewestFor_17 : decode cX5_fewestFor 17 = .ok (.ireturn, 1) := by decide +kernel
theorem dX5_fewestFor_18 : decode cX5_fewestFor 18 = .ok (.aload_n 0, 1) := by decide +kernel
theorem dX5_fewestFor_19 : decode cX5_fewestFor 19 = .ok (.iload_n 1, 1) := by decide +kernel
theorem dX5_fewestFor_20 : decode cX5_fewestFor 20 = .ok (.invokevirtual 39, 3) := by decide +kernel
theorem dX5_fewestFor_23 : decode cX5_fewestFor 23 = .ok (.ifCond .eq 5, 3) := by decide +kernel
theorem dX5_fewestFor_26 : decode cX5_fewestFor 26 = .ok (.iconst 2, 1) := by decide +kernel
theorem dX5_fewestFor_27 : decode cX5_fewestFor 27 = .ok (.ireturn, 1) := by decide +kernel
theorem dX5_fewestFor_28 : decode cX5_fewestFor 28 = .ok (.iconst 0, 1) := by decide +kernel
theorem dX5_fewestFor_29 : decode cX5_fewestFor 29 = .ok (.istore_n 2, 1) := by decide +kernel
theorem dX5_fewestFor_30 : decode cX5_fewestFor 30 = .ok (.iload_n 2, 1) := by decide +kernel
theorem dX5_fewestFor_31 : decode cX5_fewestFor 31 = .ok (.aload_n 0, 1) := by decide +kernel
theorem dX5_fewestFor_32 : decode cX5_fewestFor 32 = .ok (.getfield 19, 3) := by decide +kernel
theorem dX5_fewestFor_35 : decode cX5_fewestFor 35 = .ok (.if_icmp .ge 26, 3) := by decide +kernel
theorem dX5_fewestFor_38 : decode cX5_fewestFor 38 = .ok (.aload_n 0, 1) := by decide +kernel
theorem dX5_fewestFor_39 : decode cX5_fewestFor 39 = .ok (.iload_n 1, 1) := by decide +kernel
theorem dX5_fewestFor_40 : decode cX5_fewestFor 40 = .ok (.aload_n 0, 1) := by decide +kernel
theorem dX5_fewestFor_41 : decode cX5_fewestFor 41 = .ok (.getfield 15, 3) := by decide +kernel
theorem dX5_fewestFor_44 : decode cX5_fewestFor 44 = .ok (.iload_n 2, 1) := by decide +kernel
theorem dX5_fewestFor_45 : decode cX5_fewestFor 45 = .ok (.iaload, 1) := by decide +kernel
theorem dX5_fewestFor_46 : decode cX5_fewestFor 46 = .ok (.isub, 1) := by decide +kernel
theorem dX5_fewestFor_47 : decode cX5_fewestFor 47 = .ok (.invokevirtual 39, 3) := by decide +kernel
theorem dX5_fewestFor_50 : decode cX5_fewestFor 50 = .ok (.ifCond .eq 5, 3) := by decide +kernel
theorem dX5_fewestFor_53 : decode cX5_fewestFor 53 = .ok (.iconst 3, 1) := by decide +kernel
theorem dX5_fewestFor_54 : decode cX5_fewestFor 54 = .ok (.ireturn, 1) := by decide +kernel
theorem dX5_fewestFor_55 : decode cX5_fewestFor 55 = .ok (.iinc 2 1, 3) := by decide +kernel
theorem dX5_fewestFor_58 : decode cX5_fewestFor 58 = .ok (.goto (-28), 3) := by decide +kernel
theorem dX5_fewestFor_61 : decode cX5_fewestFor 61 = .ok (.iconst 1, 1) := by decide +kernel
theorem dX5_fewestFor_62 : decode cX5_fewestFor 62 = .ok (.istore_n 2, 1) := by decide +kernel
theorem dX5_fewestFor_63 : decode cX5_fewestFor 63 = .ok (.iload_n 2, 1) := by decide +kernel
theorem dX5_fewestFor_64 : decode cX5_fewestFor 64 = .ok (.iload_n 1, 1) := by decide +kernel
theorem dX5_fewestFor_65 : decode cX5_fewestFor 65 = .ok (.iconst 2, 1) := by decide +kernel
theorem dX5_fewestFor_66 : decode cX5_fewestFor 66 = .ok (.idiv, 1) := by decide +kernel
theorem dX5_fewestFor_67 : decode cX5_fewestFor 67 = .ok (.if_icmp .gt 29, 3) := by decide +kernel
theorem dX5_fewestFor_70 : decode cX5_fewestFor 70 = .ok (.aload_n 0, 1) := by decide +kernel
theorem dX5_fewestFor_71 : decode cX5_fewestFor 71 = .ok (.iload_n 2, 1) := by decide +kernel
theorem dX5_fewestFor_72 : decode cX5_fewestFor 72 = .ok (.invokevirtual 39, 3) := by decide +kernel
theorem dX5_fewestFor_75 : decode cX5_fewestFor 75 = .ok (.ifCond .eq 15, 3) := by decide +kernel
theorem dX5_fewestFor_78 : decode cX5_fewestFor 78 = .ok (.aload_n 0, 1) := by decide +kernel
theorem dX5_fewestFor_79 : decode cX5_fewestFor 79 = .ok (.iload_n 1, 1) := by decide +kernel
theorem dX5_fewestFor_80 : decode cX5_fewestFor 80 = .ok (.iload_n 2, 1) := by decide +kernel
theorem dX5_fewestFor_81 : decode cX5_fewestFor 81 = .ok (.isub, 1) := by decide +kernel
theorem dX5_fewestFor_82 : decode cX5_fewestFor 82 = .ok (.invokevirtual 39, 3) := by decide +kernel
theorem dX5_fewestFor_85 : decode cX5_fewestFor 85 = .ok (.ifCond .eq 5, 3) := by decide +kernel
theorem dX5_fewestFor_88 : decode cX5_fewestFor 88 = .ok (.iconst 4, 1) := by decide +kernel
theorem dX5_fewestFor_89 : decode cX5_fewestFor 89 = .ok (.ireturn, 1) := by decide +kernel
theorem dX5_fewestFor_90 : decode cX5_fewestFor 90 = .ok (.iinc 2 1, 3) := by decide +kernel
theorem dX5_fewestFor_93 : decode cX5_fewestFor 93 = .ok (.goto (-30), 3) := by decide +kernel
theorem dX5_fewestFor_96 : decode cX5_fewestFor 96 = .ok (.bipush (-4), 2) := by decide +kernel
theorem dX5_fewestFor_98 : decode cX5_fewestFor 98 = .ok (.ireturn, 1) := by decide +kernel
theorem dX5_isByTwo_0 : decode cX5_isByTwo 0 = .ok (.iload_n 1, 1) := by decide +kernel
theorem dX5_isByTwo_1 : decode cX5_isByTwo 1 = .ok (.ifCond .lt 25, 3) := by decide +kernel
theorem dX5_isByTwo_4 : decode cX5_isByTwo 4 = .ok (.iload_n 1, 1) := by decide +kernel
theorem dX5_isByTwo_5 : decode cX5_isByTwo 5 = .ok (.aload_n 0, 1) := by decide +kernel
theorem dX5_isByTwo_6 : decode cX5_isByTwo 6 = .ok (.getfield 22, 3) := by decide +kernel
theorem dX5_isByTwo_9 : decode cX5_isByTwo 9 = .ok (.arraylength, 1) := by decide +kernel
theorem dX5_isByTwo_10 : decode cX5_isByTwo 10 = .ok (.if_icmp .ge 16, 3) := by decide +kernel
theorem dX5_isByTwo_13 : decode cX5_isByTwo 13 = .ok (.aload_n 0, 1) := by decide +kernel
theorem dX5_isByTwo_14 : decode cX5_isByTwo 14 = .ok (.getfield 22, 3) := by decide +kernel
theorem dX5_isByTwo_17 : decode cX5_isByTwo 17 = .ok (.iload_n 1, 1) := by decide +kernel
theorem dX5_isByTwo_18 : decode cX5_isByTwo 18 = .ok (.baload, 1) := by decide +kernel
theorem dX5_isByTwo_19 : decode cX5_isByTwo 19 = .ok (.ifCond .eq 7, 3) := by decide +kernel
theorem dX5_isByTwo_22 : decode cX5_isByTwo 22 = .ok (.iconst 1, 1) := by decide +kernel
theorem dX5_isByTwo_23 : decode cX5_isByTwo 23 = .ok (.goto 4, 3) := by decide +kernel
theorem dX5_isByTwo_26 : decode cX5_isByTwo 26 = .ok (.iconst 0, 1) := by decide +kernel
theorem dX5_isByTwo_27 : decode cX5_isByTwo 27 = .ok (.ireturn, 1) := by decide +kernel
set_option maxRecDepth 20000 in
theorem ggX5_renew_X3_at : GoodIn wsX5_renew wsX3_at := goodIn_r _ [13, 14, 15, 16, 17, 18, 19, 20, 21, 22, 23, 24, 25, 26, 12, 27, 28, 29, 30, 31, 32, 33, 34, 35, 36, 37, 38, 39, 40, 41, 42, 43, 49, 50, 51, 52, 53, 54] (by decide +kernel) (by decide +kernel)
set_option maxRecDepth 20000 in
theorem gX5_renew_X3_at : GoodIn wsX5_renew (wsV RX5 50 RX3 yX3_at wsX3_at) := goodIn_app (goodIn_of _ (by decide +kernel)) ggX5_renew_X3_at
theorem dX5_renew_0 : decode cX5_renew 0 = .ok (.aload_n 0, 1) := by decide +kernel
theorem dX5_renew_1 : decode cX5_renew 1 = .ok (.getfield 9, 3) := by decide +kernel
theorem dX5_renew_4 : decode cX5_renew 4 = .ok (.aload_n 0, 1) := by decide +kernel
theorem dX5_renew_5 : decode cX5_renew 5 = .ok (.getfield 26, 3) := by decide +kernel
theorem dX5_renew_8 : decode cX5_renew 8 = .ok (.getfield 43, 3) := by decide +kernel
