theorem dX1_power_18 : decode cX1_power 18 = .ok (.lstore_n 2, 1) := by decide +kernel
theorem dX1_power_19 : decode cX1_power 19 = .ok (.iinc 4 1, 3) := by decide +kernel
theorem dX1_power_22 : decode cX1_power 22 = .ok (.goto (-17), 3) := by decide +kernel
theorem dX1_power_25 : decode cX1_power 25 = .ok (.lload_n 2, 1) := by decide +kernel
theorem dX1_power_26 : decode cX1_power 26 = .ok (.lreturn, 1) := by decide +kernel
set_option maxRecDepth 20000 in
theorem ggX1_make_X1_split : GoodIn wsX1_make wsX1_split := goodIn_r _ [5, 6, 7, 28, 29, 30, 31, 32] (by decide +kernel) (by decide +kernel)
set_option maxRecDepth 20000 in
theorem gX1_make_X1_split : GoodIn wsX1_make (wsV RX1 28 RX1 yX1_split wsX1_split) := goodIn_app (goodIn_of _ (by decide +kernel)) ggX1_make_X1_split
set_option maxRecDepth 20000 in
theorem ggX1_make_X1_sumOf : GoodIn wsX1_make wsX1_sumOf := goodIn_r _ [11, 12, 6, 28, 29, 30, 31, 32] (by decide +kernel) (by decide +kernel)
set_option maxRecDepth 20000 in
theorem gX1_make_X1_sumOf : GoodIn wsX1_make (wsV RX1 32 RX1 yX1_sumOf wsX1_sumOf) := goodIn_app (goodIn_of _ (by decide +kernel)) ggX1_make_X1_sumOf
set_option maxRecDepth 20000 in
theorem ggX1_make_X1_turnedOf : GoodIn wsX1_make wsX1_turnedOf := goodIn_r _ [16, 7, 6, 28, 29, 30, 31, 32] (by decide +kernel) (by decide +kernel)
set_option maxRecDepth 20000 in
theorem gX1_make_X1_turnedOf : GoodIn wsX1_make (wsV RX1 36 RX1 yX1_turnedOf wsX1_turnedOf) := goodIn_app (goodIn_of _ (by decide +kernel)) ggX1_make_X1_turnedOf
set_option maxRecDepth 20000 in
theorem ggX1_make_X1_sortedOf : GoodIn wsX1_make wsX1_sortedOf := goodIn_r _ [20, 7, 21, 6, 28, 29, 30, 31, 32] (by decide +kernel) (by decide +kernel)
set_option maxRecDepth 20000 in
theorem gX1_make_X1_sortedOf : GoodIn wsX1_make (wsV RX1 39 RX1 yX1_sortedOf wsX1_sortedOf) := goodIn_app (goodIn_of _ (by decide +kernel)) ggX1_make_X1_sortedOf
set_option maxRecDepth 20000 in
theorem ggX1_make_X1_productOf : GoodIn wsX1_make wsX1_productOf := goodIn_r _ [25, 12, 6, 26, 27, 28, 29, 30, 31, 32] (by decide +kernel) (by decide +kernel)
set_option maxRecDepth 20000 in
theorem gX1_make_X1_productOf : GoodIn wsX1_make (wsV RX1 42 RX1 yX1_productOf wsX1_productOf) := goodIn_app (goodIn_of _ (by decide +kernel)) ggX1_make_X1_productOf
theorem dX1_make_0 : decode cX1_make 0 = .ok (.aload_n 0, 1) := by decide +kernel
theorem dX1_make_1 : decode cX1_make 1 = .ok (.lload_n 2, 1) := by decide +kernel
theorem dX1_make_2 : decode cX1_make 2 = .ok (.invokevirtual 28, 3) := by decide +kernel
theorem dX1_make_5 : decode cX1_make 5 = .ok (.istore 4, 2) := by decide +kernel
theorem dX1_make_7 : decode cX1_make 7 = .ok (.iload_n 1, 1) := by decide +kernel
theorem dX1_make_8 : decode cX1_make 8 = .ok (.tableswitch 75 0 4 #[36, 43, 50, 59, 66], 36) := by decide +kernel
theorem dX1_make_44 : decode cX1_make 44 = .ok (.aload_n 0, 1) := by decide +kernel
theorem dX1_make_45 : decode cX1_make 45 = .ok (.iload 4, 2) := by decide +kernel
theorem dX1_make_47 : decode cX1_make 47 = .ok (.invokevirtual 32, 3) := by decide +kernel
theorem dX1_make_50 : decode cX1_make 50 = .ok (.lreturn, 1) := by decide +kernel
theorem dX1_make_51 : decode cX1_make 51 = .ok (.aload_n 0, 1) := by decide +kernel
theorem dX1_make_52 : decode cX1_make 52 = .ok (.iload 4, 2) := by decide +kernel
theorem dX1_make_54 : decode cX1_make 54 = .ok (.invokevirtual 36, 3) := by decide +kernel
theorem dX1_make_57 : decode cX1_make 57 = .ok (.lreturn, 1) := by decide +kernel
theorem dX1_make_58 : decode cX1_make 58 = .ok (.lload_n 2, 1) := by decide +kernel
theorem dX1_make_59 : decode cX1_make 59 = .ok (.aload_n 0, 1) := by decide +kernel
theorem dX1_make_60 : decode cX1_make 60 = .ok (.iload 4, 2) := by decide +kernel
theorem dX1_make_62 : decode cX1_make 62 = .ok (.invokevirtual 36, 3) := by decide +kernel
theorem dX1_make_65 : decode cX1_make 65 = .ok (.ladd, 1) := by decide +kernel
theorem dX1_make_66 : decode cX1_make 66 = .ok (.lreturn, 1) := by decide +kernel
theorem dX1_make_67 : decode cX1_make 67 = .ok (.aload_n 0, 1) := by decide +kernel
theorem dX1_make_68 : decode cX1_make 68 = .ok (.iload 4, 2) := by decide +kernel
theorem dX1_make_70 : decode cX1_make 70 = .ok (.invokevirtual 39, 3) := by decide +kernel
theorem dX1_make_73 : decode cX1_make 73 = .ok (.lreturn, 1) := by decide +kernel
theorem dX1_make_74 : decode cX1_make 74 = .ok (.lload_n 2, 1) := by decide +kernel
theorem dX1_make_75 : decode cX1_make 75 = .ok (.aload_n 0, 1) := by decide +kernel
theorem dX1_make_76 : decode cX1_make 76 = .ok (.iload 4, 2) := by decide +kernel
theorem dX1_make_78 : decode cX1_make 78 = .ok (.invokevirtual 32, 3) := by decide +kernel
theorem dX1_make_81 : decode cX1_make 81 = .ok (.ladd, 1) := by decide +kernel
theorem dX1_make_82 : decode cX1_make 82 = .ok (.lreturn, 1) := by decide +kernel
theorem dX1_make_83 : decode cX1_make 83 = .ok (.aload_n 0, 1) := by decide +kernel
theorem dX1_make_84 : decode cX1_make 84 = .ok (.iload 4, 2) := by decide +kernel
theorem dX1_make_86 : decode cX1_make 86 = .ok (.invokevirtual 42, 3) := by decide +kernel
theorem dX1_make_89 : decode cX1_make 89 = .ok (.lreturn, 1) := by decide +kernel
set_option maxRecDepth 20000 in
theorem ggX1_growsForEver_X1_hasIdleFigure : GoodIn wsX1_growsForEver wsX1_hasIdleFigure := goodIn_r _ [5, 6, 7, 8, 9, 10, 11, 12] (by decide +kernel) (by decide +kernel)
set_option maxRecDepth 20000 in
theorem gX1_growsForEver_X1_hasIdleFigure : GoodIn wsX1_growsForEver (wsV RX1 45 RX1 yX1_hasIdleFigure wsX1_hasIdleFigure) := goodIn_app (goodIn_of _ (by decide +kernel)) ggX1_growsForEver_X1_hasIdleFigure
theorem dX1_growsForEver_0 : decode cX1_growsForEver 0 = .ok (.lload_n 2, 1) := by decide +kernel
theorem dX1_growsForEver_1 : decode cX1_growsForEver 1 = .ok (.lconst 0, 1) := by decide +kernel
theorem dX1_growsForEver_2 : decode cX1_growsForEver 2 = .ok (.lcmp, 1) := by decide +kernel
theorem dX1_growsForEver_3 : decode cX1_growsForEver 3 = .ok (.ifCond .le 24, 3) := by decide +kernel
theorem dX1_growsForEver_6 : decode cX1_growsForEver 6 = .ok (.iload_n 1, 1) := by decide +kernel
theorem dX1_growsForEver_7 : decode cX1_growsForEver 7 = .ok (.iconst 2, 1) := by decide +kernel
theorem dX1_growsForEver_8 : decode cX1_growsForEver 8 = .ok (.if_icmp .eq 15, 3) := by decide +kernel
theorem dX1_growsForEver_11 : decode cX1_growsForEver 11 = .ok (.iload_n 1, 1) := by decide +kernel
theorem dX1_growsForEver_12 : decode cX1_growsForEver 12 = .ok (.iconst 4, 1) := by decide +kernel
theorem dX1_growsForEver_13 : decode cX1_growsForEver 13 = .ok (.if_icmp .ne 14, 3) := by decide +kernel
theorem dX1_growsForEver_16 : decode cX1_growsForEver 16 = .ok (.aload_n 0, 1) := by decide +kernel
theorem dX1_growsForEver_17 : decode cX1_growsForEver 17 = .ok (.invokevirtual 45, 3) := by decide +kernel
theorem dX1_growsForEver_20 : decode cX1_growsForEver 20 = .ok (.ifCond .ne 7, 3) := by decide +kernel
theorem dX1_growsForEver_23 : decode cX1_growsForEver 23 = .ok (.iconst 1, 1) := by decide +kernel
theorem dX1_growsForEver_24 : decode cX1_growsForEver 24 = .ok (.goto 4, 3) := by decide +kernel
theorem dX1_growsForEver_27 : decode cX1_growsForEver 27 = .ok (.iconst 0, 1) := by decide +kernel
theorem dX1_growsForEver_28 : decode cX1_growsForEver 28 = .ok (.ireturn, 1) := by decide +kernel
theorem dX1_hasIdleFigure_0 : decode cX1_hasIdleFigure 0 = .ok (.iconst 1, 1) := by decide +kernel
theorem dX1_hasIdleFigure_1 : decode cX1_hasIdleFigure 1 = .ok (.istore_n 1, 1) := by decide +kernel
theorem dX1_hasIdleFigure_2 : decode cX1_hasIdleFigure 2 = .ok (.iload_n 1, 1) := by decide +kernel
theorem dX1_hasIdleFigure_3 : decode cX1_hasIdleFigure 3 = .ok (.aload_n 0, 1) := by decide +kernel
theorem dX1_hasIdleFigure_4 : decode cX1_hasIdleFigure 4 = .ok (.getfield 9, 3) := by decide +kernel
theorem dX1_hasIdleFigure_7 : decode cX1_hasIdleFigure 7 = .ok (.if_icmp .ge 20, 3) := by decide +kernel
theorem dX1_hasIdleFigure_10 : decode cX1_hasIdleFigure 10 = .ok (.aload_n 0, 1) := by decide +kernel
theorem dX1_hasIdleFigure_11 : decode cX1_hasIdleFigure 11 = .ok (.getfield 15, 3) := by decide +kernel
theorem dX1_hasIdleFigure_14 : decode cX1_hasIdleFigure 14 = .ok (.iload_n 1, 1) := by decide +kernel
theorem dX1_hasIdleFigure_15 : decode cX1_hasIdleFigure 15 = .ok (.iaload, 1) := by decide +kernel
theorem dX1_hasIdleFigure_16 : decode cX1_hasIdleFigure 16 = .ok (.ifCond .ne 5, 3) := by decide +kernel
theorem dX1_hasIdleFigure_19 : decode cX1_hasIdleFigure 19 = .ok (.iconst 1, 1) := by decide +kernel
theorem dX1_hasIdleFigure_20 : decode cX1_hasIdleFigure 20 = .ok (.ireturn, 1) := by decide +kernel
theorem dX1_hasIdleFigure_21 : decode cX1_hasIdleFigure 21 = .ok (.iinc 1 1, 3) := by decide +kernel
theorem dX1_hasIdleFigure_24 : decode cX1_hasIdleFigure 24 = .ok (.goto (-22), 3) := by decide +kernel
theorem dX1_hasIdleFigure_27 : decode cX1_hasIdleFigure 27 = .ok (.iconst 0, 1) := by decide +kernel
theorem dX1_hasIdleFigure_28 : decode cX1_hasIdleFigure 28 = .ok (.ireturn, 1) := by decide +kernel
theorem dX1_sumOf_0 : decode cX1_sumOf 0 = .ok (.lconst 0, 1) := by decide +kernel
theorem dX1_sumOf_1 : decode cX1_sumOf 1 = .ok (.lstore_n 2, 1) := by decide +kernel
theorem dX1_sumOf_2 : decode cX1_sumOf 2 = .ok (.iconst 0, 1) := by decide +kernel
theorem dX1_sumOf_3 : decode cX1_sumOf 3 = .ok (.istore 4, 2) := by decide +kernel
theorem dX1_sumOf_5 : decode cX1_sumOf 5 = .ok (.iload 4, 2) := by decide +kernel
theorem dX1_sumOf_7 : decode cX1_sumOf 7 = .ok (.iload_n 1, 1) := by decide +kernel
theorem dX1_sumOf_8 : decode cX1_sumOf 8 = .ok (.if_icmp .ge 25, 3) := by decide +kernel
theorem dX1_sumOf_11 : decode cX1_sumOf 11 = .ok (.lload_n 2, 1) := by decide +kernel
theorem dX1_sumOf_12 : decode cX1_sumOf 12 = .ok (.aload_n 0, 1) := by decide +kernel
theorem dX1_sumOf_13 : decode cX1_sumOf 13 = .ok (.getfield 15, 3) := by decide +kernel
theorem dX1_sumOf_16 : decode cX1_sumOf 16 = .ok (.aload_n 0, 1) := by decide +kernel
theorem dX1_sumOf_17 : decode cX1_sumOf 17 = .ok (.getfield 19, 3) := by decide +kernel
theorem dX1_sumOf_20 : decode cX1_sumOf 20 = .ok (.iload 4, 2) := by decide +kernel
theorem dX1_sumOf_22 : decode cX1_sumOf 22 = .ok (.iaload, 1) := by decide +kernel
theorem dX1_sumOf_23 : decode cX1_sumOf 23 = .ok (.iaload, 1) := by decide +kernel
theorem dX1_sumOf_24 : decode cX1_sumOf 24 = .ok (.i2l, 1) := by decide +kernel
theorem dX1_sumOf_25 : decode cX1_sumOf 25 = .ok (.ladd, 1) := by decide +kernel
theorem dX1_sumOf_26 : decode cX1_sumOf 26 = .ok (.lstore_n 2, 1) := by decide +kernel
theorem dX1_sumOf_27 : decode cX1_sumOf 27 = .ok (.iinc 4 1, 3) := by decide +kernel
theorem dX1_sumOf_30 : decode cX1_sumOf 30 = .ok (.goto (-25), 3) := by decide +kernel
theorem dX1_sumOf_33 : decode cX1_sumOf 33 = .ok (.lload_n 2, 1) := by decide +kernel
theorem dX1_sumOf_34 : decode cX1_sumOf 34 = .ok (.lreturn, 1) := by decide +kernel
theorem dX1_turnedOf_0 : decode cX1_turnedOf 0 = .ok (.lconst 0, 1) := by decide +kernel
theorem dX1_turnedOf_1 : decode cX1_turnedOf 1 = .ok (.lstore_n 2, 1) := by decide +kernel
theorem dX1_turnedOf_2 : decode cX1_turnedOf 2 = .ok (.iconst 0, 1) := by decide +kernel
theorem dX1_turnedOf_3 : decode cX1_turnedOf 3 = .ok (.istore 4, 2) := by decide +kernel
theorem dX1_turnedOf_5 : decode cX1_turnedOf 5 = .ok (.iload 4, 2) := by decide +kernel
theorem dX1_turnedOf_7 : decode cX1_turnedOf 7 = .ok (.iload_n 1, 1) := by decide +kernel
theorem dX1_turnedOf_8 : decode cX1_turnedOf 8 = .ok (.if_icmp .ge 26, 3) := by decide +kernel
theorem dX1_turnedOf_11 : decode cX1_turnedOf 11 = .ok (.lload_n 2, 1) := by decide +kernel
theorem dX1_turnedOf_12 : decode cX1_turnedOf 12 = .ok (.aload_n 0, 1) := by decide +kernel
theorem dX1_turnedOf_13 : decode cX1_turnedOf 13 = .ok (.getfield 9, 3) := by decide +kernel
theorem dX1_turnedOf_16 : decode cX1_turnedOf 16 = .ok (.i2l, 1) := by decide +kernel
theorem dX1_turnedOf_17 : decode cX1_turnedOf 17 = .ok (.lmul, 1) := by decide +kernel
theorem dX1_turnedOf_18 : decode cX1_turnedOf 18 = .ok (.aload_n 0, 1) := by decide +kernel
theorem dX1_turnedOf_19 : decode cX1_turnedOf 19 = .ok (.getfield 19, 3) := by decide +kernel
theorem dX1_turnedOf_22 : decode cX1_turnedOf 22 = .ok (.iload 4, 2) := by decide +kernel
theorem dX1_turnedOf_24 : decode cX1_turnedOf 24 = .ok (.iaload, 1) := by decide +kernel
theorem dX1_turnedOf_25 : decode cX1_turnedOf 25 = .ok (.i2l, 1) := by decide +kernel
theorem dX1_turnedOf_26 : decode cX1_turnedOf 26 = .ok (.ladd, 1) := by decide +kernel
theorem dX1_turnedOf_27 : decode cX1_turnedOf 27 = .ok (.lstore_n 2, 1) := by decide +kernel
theorem dX1_turnedOf_28 : decode cX1_turnedOf 28 = .ok (.iinc 4 1, 3) := by decide +kernel
theorem dX1_turnedOf_31 : decode cX1_turnedOf 31 = .ok (.goto (-26), 3) := by decide +kernel
theorem dX1_turnedOf_34 : decode cX1_turnedOf 34 = .ok (.lload_n 2, 1) := by decide +kernel
theorem dX1_turnedOf_35 : decode cX1_turnedOf 35 = .ok (.lreturn, 1) := by decide +kernel
theorem dX1_sortedOf_0 : decode cX1_sortedOf 0 = .ok (.iconst 0, 1) := by decide +kernel
theorem dX1_sortedOf_1 : decode cX1_sortedOf 1 = .ok (.istore_n 2, 1) := by decide +kernel
theorem dX1_sortedOf_2 : decode cX1_sortedOf 2 = .ok (.iload_n 2, 1) := by decide +kernel
theorem dX1_sortedOf_3 : decode cX1_sortedOf 3 = .ok (.aload_n 0, 1) := by decide +kernel
theorem dX1_sortedOf_4 : decode cX1_sortedOf 4 = .ok (.getfield 9, 3) := by decide +kernel
theorem dX1_sortedOf_7 : decode cX1_sortedOf 7 = .ok (.if_icmp .ge 16, 3) := by decide +kernel
theorem dX1_sortedOf_10 : decode cX1_sortedOf 10 = .ok (.aload_n 0, 1) := by decide +kernel
theorem dX1_sortedOf_11 : decode cX1_sortedOf 11 = .ok (.getfield 22, 3) := by decide +kernel
theorem dX1_sortedOf_14 : decode cX1_sortedOf 14 = .ok (.iload_n 2, 1) := by decide +kernel
theorem dX1_sortedOf_15 : decode cX1_sortedOf 15 = .ok (.iconst 0, 1) := by decide +kernel
theorem dX1_sortedOf_16 : decode cX1_sortedOf 16 = .ok (.iastore, 1) := by decide +kernel
theorem dX1_sortedOf_17 : decode cX1_sortedOf 17 = .ok (.iinc 2 1, 3) := by decide +kernel
theorem dX1_sortedOf_20 : decode cX1_sortedOf 20 = .ok (.goto (-18), 3) := by decide +kernel
theorem dX1_sortedOf_23 : decode cX1_sortedOf 23 = .ok (.iconst 0, 1) := by decide +kernel
theorem dX1_sortedOf_24 : decode cX1_sortedOf 24 = .ok (.istore_n 2, 1) := by decide +kernel
theorem dX1_sortedOf_25 : decode cX1_sortedOf 25 = .ok (.iload_n 2, 1) := by decide +kernel
theorem dX1_sortedOf_26 : decode cX1_sortedOf 26 = .ok (.iload_n 1, 1) := by decide +kernel
theorem dX1_sortedOf_27 : decode cX1_sortedOf 27 = .ok (.if_icmp .ge 24, 3) := by decide +kernel
theorem dX1_sortedOf_30 : decode cX1_sortedOf 30 = .ok (.aload_n 0, 1) := by decide +kernel
theorem dX1_sortedOf_31 : decode cX1_sortedOf 31 = .ok (.getfield 22, 3) := by decide +kernel
theorem dX1_sortedOf_34 : decode cX1_sortedOf 34 = .ok (.aload_n 0, 1) := by decide +kernel
theorem dX1_sortedOf_35 : decode cX1_sortedOf 35 = .ok (.getfield 19, 3) := by decide +kernel
theorem dX1_sortedOf_38 : decode cX1_sortedOf 38 = .ok (.iload_n 2, 1) := by decide +kernel
theorem dX1_sortedOf_39 : decode cX1_sortedOf 39 = .ok (.iaload, 1) := by decide +kernel
theorem dX1_sortedOf_40 : decode cX1_sortedOf 40 = .ok (.dup2, 1) := by decide +kernel
theorem dX1_sortedOf_41 : decode cX1_sortedOf 41 = .ok (.iaload, 1) := by decide +kernel
theorem dX1_sortedOf_42 : decode cX1_sortedOf 42 = .ok (.iconst 1, 1) := by decide +kernel
theorem dX1_sortedOf_43 : decode cX1_sortedOf 43 = .ok (.iadd, 1) := by decide +kernel
theorem dX1_sortedOf_44 : decode cX1_sortedOf 44 = .ok (.iastore, 1) := by decide +kernel
theorem dX1_sortedOf_45 : decode cX1_sortedOf 45 = .ok (.iinc 2 1, 3) := by decide +kernel
theorem dX1_sortedOf_48 : decode cX1_sortedOf 48 = .ok (.goto (-23), 3) := by decide +kernel
theorem dX1_sortedOf_51 : decode cX1_sortedOf 51 = .ok (.lconst 0, 1) := by decide +kernel
theorem dX1_sortedOf_52 : decode cX1_sortedOf 52 = .ok (.lstore_n 2, 1) := by decide +kernel
theorem dX1_sortedOf_53 : decode cX1_sortedOf 53 = .ok (.lconst 0, 1) := by decide +kernel
theorem dX1_sortedOf_54 : decode cX1_sortedOf 54 = .ok (.lstore 4, 2) := by decide +kernel
theorem dX1_sortedOf_56 : decode cX1_sortedOf 56 = .ok (.iconst 0, 1) := by decide +kernel
theorem dX1_sortedOf_57 : decode cX1_sortedOf 57 = .ok (.istore 6, 2) := by decide +kernel
theorem dX1_sortedOf_59 : decode cX1_sortedOf 59 = .ok (.iload 6, 2) := by decide +kernel
theorem dX1_sortedOf_61 : decode cX1_sortedOf 61 = .ok (.aload_n 0, 1) := by decide +kernel
theorem dX1_sortedOf_62 : decode cX1_sortedOf 62 = .ok (.getfield 9, 3) := by decide +kernel
theorem dX1_sortedOf_65 : decode cX1_sortedOf 65 = .ok (.if_icmp .ge 88, 3) := by decide +kernel
theorem dX1_sortedOf_68 : decode cX1_sortedOf 68 = .ok (.aload_n 0, 1) := by decide +kernel
theorem dX1_sortedOf_69 : decode cX1_sortedOf 69 = .ok (.getfield 9, 3) := by decide +kernel
theorem dX1_sortedOf_72 : decode cX1_sortedOf 72 = .ok (.iconst 1, 1) := by decide +kernel
theorem dX1_sortedOf_73 : decode cX1_sortedOf 73 = .ok (.isub, 1) := by decide +kernel
theorem dX1_sortedOf_74 : decode cX1_sortedOf 74 = .ok (.iload 6, 2) := by decide +kernel
theorem dX1_sortedOf_76 : decode cX1_sortedOf 76 = .ok (.isub, 1) := by decide +kernel
theorem dX1_sortedOf_77 : decode cX1_sortedOf 77 = .ok (.istore 7, 2) := by decide +kernel
theorem dX1_sortedOf_79 : decode cX1_sortedOf 79 = .ok (.iconst 0, 1) := by decide +kernel
theorem dX1_sortedOf_80 : decode cX1_sortedOf 80 = .ok (.istore 8, 2) := by decide +kernel
theorem dX1_sortedOf_82 : decode cX1_sortedOf 82 = .ok (.iload 8, 2) := by decide +kernel
theorem dX1_sortedOf_84 : decode cX1_sortedOf 84 = .ok (.aload_n 0, 1) := by decide +kernel
theorem dX1_sortedOf_85 : decode cX1_sortedOf 85 = .ok (.getfield 22, 3) := by decide +kernel
theorem dX1_sortedOf_88 : decode cX1_sortedOf 88 = .ok (.iload 6, 2) := by decide +kernel
theorem dX1_sortedOf_90 : decode cX1_sortedOf 90 = .ok (.iaload, 1) := by decide +kernel
theorem dX1_sortedOf_91 : decode cX1_sortedOf 91 = .ok (.if_icmp .ge 23, 3) := by decide +kernel
theorem dX1_sortedOf_94 : decode cX1_sortedOf 94 = .ok (.lload 4, 2) := by decide +kernel
theorem dX1_sortedOf_96 : decode cX1_sortedOf 96 = .ok (.aload_n 0, 1) := by decide +kernel
theorem dX1_sortedOf_97 : decode cX1_sortedOf 97 = .ok (.getfield 9, 3) := by decide +kernel
theorem dX1_sortedOf_100 : decode cX1_sortedOf 100 = .ok (.i2l, 1) := by decide +kernel
theorem dX1_sortedOf_101 : decode cX1_sortedOf 101 = .ok (.lmul, 1) := by decide +kernel
theorem dX1_sortedOf_102 : decode cX1_sortedOf 102 = .ok (.iload 6, 2) := by decide +kernel
theorem dX1_sortedOf_104 : decode cX1_sortedOf 104 = .ok (.i2l, 1) := by decide +kernel
theorem dX1_sortedOf_105 : decode cX1_sortedOf 105 = .ok (.ladd, 1) := by decide +kernel
theorem dX1_sortedOf_106 : decode cX1_sortedOf 106 = .ok (.lstore 4, 2) := by decide +kernel
theorem dX1_sortedOf_108 : decode cX1_sortedOf 108 = .ok (.iinc 8 1, 3) := by decide +kernel
theorem dX1_sortedOf_111 : decode cX1_sortedOf 111 = .ok (.goto (-29), 3) := by decide +kernel
theorem dX1_sortedOf_114 : decode cX1_sortedOf 114 = .ok (.iconst 0, 1) := by decide +kernel
theorem dX1_sortedOf_115 : decode cX1_sortedOf 115 = .ok (.istore 8, 2) := by decide +kernel
theorem dX1_sortedOf_117 : decode cX1_sortedOf 117 = .ok (.iload 8, 2) := by decide +kernel
theorem dX1_sortedOf_119 : decode cX1_sortedOf 119 = .ok (.aload_n 0, 1) := by decide +kernel
theorem dX1_sortedOf_120 : decode cX1_sortedOf 120 = .ok (.getfield 22, 3) := by decide +kernel
theorem dX1_sortedOf_123 : decode cX1_sortedOf 123 = .ok (.iload 7, 2) := by decide +kernel
theorem dX1_sortedOf_125 : decode cX1_sortedOf 125 = .ok (.iaload, 1) := by decide +kernel
theorem dX1_sortedOf_126 : decode cX1_sortedOf 126 = .ok (.if_icmp .ge 21, 3) := by decide +kernel
theorem dX1_sortedOf_129 : decode cX1_sortedOf 129 = .ok (.lload_n 2, 1) := by decide +kernel
theorem dX1_sortedOf_130 : decode cX1_sortedOf 130 = .ok (.aload_n 0, 1) := by decide +kernel
theorem dX1_sortedOf_131 : decode cX1_sortedOf 131 = .ok (.getfield 9, 3) := by decide +kernel
theorem dX1_sortedOf_134 : decode cX1_sortedOf 134 = .ok (.i2l, 1) := by decide +kernel
theorem dX1_sortedOf_135 : decode cX1_sortedOf 135 = .ok (.lmul, 1) := by decide +kernel
theorem dX1_sortedOf_136 : decode cX1_sortedOf 136 = .ok (.iload 7, 2) := by decide +kernel
theorem dX1_sortedOf_138 : decode cX1_sortedOf 138 = .ok (.i2l, 1) := by decide +kernel
theorem dX1_sortedOf_139 : decode cX1_sortedOf 139 = .ok (.ladd, 1) := by decide +kernel
theorem dX1_sortedOf_140 : decode cX1_sortedOf 140 = .ok (.lstore_n 2, 1) := by decide +kernel
theorem dX1_sortedOf_141 : decode cX1_sortedOf 141 = .ok (.iinc 8 1, 3) := by decide +kernel
theorem dX1_sortedOf_144 : decode cX1_sortedOf 144 = .ok (.goto (-27), 3) := by decide +kernel
theorem dX1_sortedOf_147 : decode cX1_sortedOf 147 = .ok (.iinc 6 1, 3) := by decide +kernel
theorem dX1_sortedOf_150 : decode cX1_sortedOf 150 = .ok (.goto (-91), 3) := by decide +kernel
theorem dX1_sortedOf_153 : decode cX1_sortedOf 153 = .ok (.lload_n 2, 1) := by decide +kernel
theorem dX1_sortedOf_154 : decode cX1_sortedOf 154 = .ok (.lload 4, 2) := by decide +kernel
theorem dX1_sortedOf_156 : decode cX1_sortedOf 156 = .ok (.lsub, 1) := by decide +kernel
theorem dX1_sortedOf_157 : decode cX1_sortedOf 157 = .ok (.lreturn, 1) := by decide +kernel
theorem dX1_productOf_0 : decode cX1_productOf 0 = .ok (.lconst 1, 1) := by decide +kernel
theorem dX1_productOf_1 : decode cX1_productOf 1 = .ok (.lstore_n 2, 1) := by decide +kernel
theorem dX1_productOf_2 : decode cX1_productOf 2 = .ok (.iconst 0, 1) := by decide +kernel
theorem dX1_productOf_3 : decode cX1_productOf 3 = .ok (.istore 4, 2) := by decide +kernel
theorem dX1_productOf_5 : decode cX1_productOf 5 = .ok (.iload 4, 2) := by decide +kernel
theorem dX1_productOf_7 : decode cX1_productOf 7 = .ok (.iload_n 1, 1) := by decide +kernel
theorem dX1_productOf_8 : decode cX1_productOf 8 = .ok (.if_icmp .ge 54, 3) := by decide +kernel
theorem dX1_productOf_11 : decode cX1_productOf 11 = .ok (.aload_n 0, 1) := by decide +kernel
theorem dX1_productOf_12 : decode cX1_productOf 12 = .ok (.getfield 15, 3) := by decide +kernel
theorem dX1_productOf_15 : decode cX1_productOf 15 = .ok (.aload_n 0, 1) := by decide +kernel
theorem dX1_productOf_16 : decode cX1_productOf 16 = .ok (.getfield 19, 3) := by decide +kernel
theorem dX1_productOf_19 : decode cX1_productOf 19 = .ok (.iload 4, 2) := by decide +kernel
theorem dX1_productOf_21 : decode cX1_productOf 21 = .ok (.iaload, 1) := by decide +kernel
theorem dX1_productOf_22 : decode cX1_productOf 22 = .ok (.iaload, 1) := by decide +kernel
theorem dX1_productOf_23 : decode cX1_productOf 23 = .ok (.istore 5, 2) := by decide +kernel
theorem dX1_productOf_25 : decode cX1_productOf 25 = .ok (.iload 5, 2) := by decide +kernel
theorem dX1_productOf_27 : decode cX1_productOf 27 = .ok (.ifCond .ne 5, 3) := by decide +kernel
theorem dX1_productOf_30 : decode cX1_productOf 30 = .ok (.lconst 0, 1) := by decide +kernel
theorem dX1_productOf_31 : decode cX1_productOf 31 = .ok (.lreturn, 1) := by decide +kernel
theorem dX1_productOf_32 : decode cX1_productOf 32 = .ok (.lload_n 2, 1) := by decide +kernel
theorem dX1_productOf_33 : decode cX1_productOf 33 = .ok (.ldc2_w 49, 3) := by decide +kernel
theorem dX1_productOf_36 : decode cX1_productOf 36 = .ok (.iload 5, 2) := by decide +kernel
theorem dX1_productOf_38 : decode cX1_productOf 38 = .ok (.i2l, 1) := by decide +kernel
theorem dX1_productOf_39 : decode cX1_productOf 39 = .ok (.ldiv, 1) := by decide +kernel
theorem dX1_productOf_40 : decode cX1_productOf 40 = .ok (.lcmp, 1) := by decide +kernel
theorem dX1_productOf_41 : decode cX1_productOf 41 = .ok (.ifCond .le 9, 3) := by decide +kernel
theorem dX1_productOf_44 : decode cX1_productOf 44 = .ok (.ldc2_w 51, 3) := by decide +kernel
theorem dX1_productOf_47 : decode cX1_productOf 47 = .ok (.goto 8, 3) := by decide +kernel
theorem dX1_productOf_50 : decode cX1_productOf 50 = .ok (.lload_n 2, 1) := by decide +kernel
theorem dX1_productOf_51 : decode cX1_productOf 51 = .ok (.iload 5, 2) := by decide +kernel
theorem dX1_productOf_53 : decode cX1_productOf 53 = .ok (.i2l, 1) := by decide +kernel
theorem dX1_productOf_54 : decode cX1_productOf 54 = .ok (.lmul, 1) := by decide +kernel
theorem dX1_productOf_55 : decode cX1_productOf 55 = .ok (.lstore_n 2, 1) := by decide +kernel
theorem dX1_productOf_56 : decode cX1_productOf 56 = .ok (.iinc 4 1, 3) := by decide +kernel
theorem dX1_productOf_59 : decode cX1_productOf 59 = .ok (.goto (-54), 3) := by decide +kernel
theorem dX1_productOf_62 : decode cX1_productOf 62 = .ok (.lload_n 2, 1) := by decide +kernel
theorem dX1_productOf_63 : decode cX1_productOf 63 = .ok (.lreturn, 1) := by decide +kernel
theorem dX2_init_0 : decode cX2_init 0 = .ok (.aload_n 0, 1) := by decide +kernel
theorem dX2_init_1 : decode cX2_init 1 = .ok (.invokespecial 3, 3) := by decide +kernel
theorem dX2_init_4 : decode cX2_init 4 = .ok (.aload_n 0, 1) := by decide +kernel
theorem dX2_init_5 : decode cX2_init 5 = .ok (.iconst (-1), 1) := by decide +kernel
theorem dX2_init_6 : decode cX2_init 6 = .ok (.putfield 9, 3) := by decide +kernel
theorem dX2_init_9 : decode cX2_init 9 = .ok (.aload_n 0, 1) := by decide +kernel
theorem dX2_init_10 : decode cX2_init 10 = .ok (.sipush 20001, 3) := by decide +kernel
theorem dX2_init_13 : decode cX2_init 13 = .ok (.newarray .int, 2) := by decide +kernel
theorem dX2_init_15 : decode cX2_init 15 = .ok (.putfield 15, 3) := by decide +kernel
theorem dX2_init_18 : decode cX2_init 18 = .ok (.aload_n 0, 1) := by decide +kernel
theorem dX2_init_19 : decode cX2_init 19 = .ok (.sipush 20001, 3) := by decide +kernel
theorem dX2_init_22 : decode cX2_init 22 = .ok (.newarray .boolean, 2) := by decide +kernel
theorem dX2_init_24 : decode cX2_init 24 = .ok (.putfield 19, 3) := by decide +kernel
theorem dX2_init_27 : decode cX2_init 27 = .ok (.aload_n 0, 1) := by decide +kernel
theorem dX2_init_28 : decode cX2_init 28 = .ok (.aload_n 1, 1) := by decide +kernel
theorem dX2_init_29 : decode cX2_init 29 = .ok (.putfield 23, 3) := by decide +kernel
theorem dX2_init_32 : decode cX2_init 32 = .ok (.return_, 1) := by decide +kernel
theorem dX2_renew_0 : decode cX2_renew 0 = .ok (.aload_n 0, 1) := by decide +kernel
theorem dX2_renew_1 : decode cX2_renew 1 = .ok (.getfield 9, 3) := by decide +kernel
theorem dX2_renew_4 : decode cX2_renew 4 = .ok (.aload_n 0, 1) := by decide +kernel
theorem dX2_renew_5 : decode cX2_renew 5 = .ok (.getfield 23, 3) := by decide +kernel
theorem dX2_renew_8 : decode cX2_renew 8 = .ok (.getfield 27, 3) := by decide +kernel
theorem dX2_renew_11 : decode cX2_renew 11 = .ok (.if_icmp .ne 4, 3) := by decide +kernel
theorem dX2_renew_14 : decode cX2_renew 14 = .ok (.return_, 1) := by decide +kernel
theorem dX2_renew_15 : decode cX2_renew 15 = .ok (.aload_n 0, 1) := by decide +kernel
theorem dX2_renew_16 : decode cX2_renew 16 = .ok (.aload_n 0, 1) := by decide +kernel
theorem dX2_renew_17 : decode cX2_renew 17 = .ok (.getfield 23, 3) := by decide +kernel
theorem dX2_renew_20 : decode cX2_renew 20 = .ok (.getfield 27, 3) := by decide +kernel
theorem dX2_renew_23 : decode cX2_renew 23 = .ok (.putfield 9, 3) := by decide +kernel
theorem dX2_renew_26 : decode cX2_renew 26 = .ok (.iconst 0, 1) := by decide +kernel
theorem dX2_renew_27 : decode cX2_renew 27 = .ok (.istore_n 1, 1) := by decide +kernel
theorem dX2_renew_28 : decode cX2_renew 28 = .ok (.iload_n 1, 1) := by decide +kernel
theorem dX2_renew_29 : decode cX2_renew 29 = .ok (.aload_n 0, 1) := by decide +kernel
theorem dX2_renew_30 : decode cX2_renew 30 = .ok (.getfield 19, 3) := by decide +kernel
theorem dX2_renew_33 : decode cX2_renew 33 = .ok (.arraylength, 1) := by decide +kernel
theorem dX2_renew_34 : decode cX2_renew 34 = .ok (.if_icmp .ge 16, 3) := by decide +kernel
theorem dX2_renew_37 : decode cX2_renew 37 = .ok (.aload_n 0, 1) := by decide +kernel
theorem dX2_renew_38 : decode cX2_renew 38 = .ok (.getfield 19, 3) := by decide +kernel
theorem dX2_renew_41 : decode cX2_renew 41 = .ok (.iload_n 1, 1) := by decide +kernel
theorem dX2_renew_42 : decode cX2_renew 42 = .ok (.iconst 0, 1) := by decide +kernel
theorem dX2_renew_43 : decode cX2_renew 43 = .ok (.bastore, 1) := by decide +kernel
theorem dX2_renew_44 : decode cX2_renew 44 = .ok (.iinc 1 1, 3) := by decide +kernel
theorem dX2_renew_47 : decode cX2_renew 47 = .ok (.goto (-19), 3) := by decide +kernel
theorem dX2_renew_50 : decode cX2_renew 50 = .ok (.iconst 0, 1) := by decide +kernel
theorem dX2_renew_51 : decode cX2_renew 51 = .ok (.istore_n 1, 1) := by decide +kernel
theorem dX2_renew_52 : decode cX2_renew 52 = .ok (.iload_n 1, 1) := by decide +kernel
theorem dX2_renew_53 : decode cX2_renew 53 = .ok (.aload_n 0, 1) := by decide +kernel
theorem dX2_renew_54 : decode cX2_renew 54 = .ok (.getfield 15, 3) := by decide +kernel
theorem dX2_renew_57 : decode cX2_renew 57 = .ok (.arraylength, 1) := by decide +kernel
theorem dX2_renew_58 : decode cX2_renew 58 = .ok (.if_icmp .ge 94, 3) := by decide +kernel
theorem dX2_renew_61 : decode cX2_renew 61 = .ok (.aload_n 0, 1) := by decide +kernel
theorem dX2_renew_62 : decode cX2_renew 62 = .ok (.getfield 23, 3) := by decide +kernel
theorem dX2_renew_65 : decode cX2_renew 65 = .ok (.getfield 30, 3) := by decide +kernel
theorem dX2_renew_68 : decode cX2_renew 68 = .ok (.iload_n 1, 1) := by decide +kernel
theorem dX2_renew_69 : decode cX2_renew 69 = .ok (.aload_n 0, 1) := by decide +kernel
theorem dX2_renew_70 : decode cX2_renew 70 = .ok (.getfield 23, 3) := by decide +kernel
theorem dX2_renew_73 : decode cX2_renew 73 = .ok (.getfield 33, 3) := by decide +kernel
theorem dX2_renew_76 : decode cX2_renew 76 = .ok (.irem, 1) := by decide +kernel
theorem dX2_renew_77 : decode cX2_renew 77 = .ok (.iaload, 1) := by decide +kernel
theorem dX2_renew_78 : decode cX2_renew 78 = .ok (.istore_n 2, 1) := by decide +kernel
theorem dX2_renew_79 : decode cX2_renew 79 = .ok (.aload_n 0, 1) := by decide +kernel
theorem dX2_renew_80 : decode cX2_renew 80 = .ok (.getfield 15, 3) := by decide +kernel
theorem dX2_renew_83 : decode cX2_renew 83 = .ok (.iload_n 1, 1) := by decide +kernel
theorem dX2_renew_84 : decode cX2_renew 84 = .ok (.iload_n 1, 1) := by decide +kernel
theorem dX2_renew_85 : decode cX2_renew 85 = .ok (.aload_n 0, 1) := by decide +kernel
theorem dX2_renew_86 : decode cX2_renew 86 = .ok (.getfield 23, 3) := by decide +kernel
theorem dX2_renew_89 : decode cX2_renew 89 = .ok (.getfield 33, 3) := by decide +kernel
theorem dX2_renew_92 : decode cX2_renew 92 = .ok (.if_icmp .ge 7, 3) := by decide +kernel
theorem dX2_renew_95 : decode cX2_renew 95 = .ok (.iload_n 2, 1) := by decide +kernel
theorem dX2_renew_96 : decode cX2_renew 96 = .ok (.goto 19, 3) := by decide +kernel
theorem dX2_renew_99 : decode cX2_renew 99 = .ok (.aload_n 0, 1) := by decide +kernel
theorem dX2_renew_100 : decode cX2_renew 100 = .ok (.getfield 15, 3) := by decide +kernel
theorem dX2_renew_103 : decode cX2_renew 103 = .ok (.iload_n 1, 1) := by decide +kernel
theorem dX2_renew_104 : decode cX2_renew 104 = .ok (.aload_n 0, 1) := by decide +kernel
theorem dX2_renew_105 : decode cX2_renew 105 = .ok (.getfield 23, 3) := by decide +kernel
theorem dX2_renew_108 : decode cX2_renew 108 = .ok (.getfield 33, 3) := by decide +kernel
theorem dX2_renew_111 : decode cX2_renew 111 = .ok (.idiv, 1) := by decide +kernel
theorem dX2_renew_112 : decode cX2_renew 112 = .ok (.iaload, 1) := by decide +kernel
theorem dX2_renew_113 : decode cX2_renew 113 = .ok (.iload_n 2, 1) := by decide +kernel
theorem dX2_renew_114 : decode cX2_renew 114 = .ok (.iadd, 1) := by decide +kernel
theorem dX2_renew_115 : decode cX2_renew 115 = .ok (.iastore, 1) := by decide +kernel
theorem dX2_renew_116 : decode cX2_renew 116 = .ok (.iload_n 1, 1) := by decide +kernel
theorem dX2_renew_117 : decode cX2_renew 117 = .ok (.aload_n 0, 1) := by decide +kernel
theorem dX2_renew_118 : decode cX2_renew 118 = .ok (.getfield 15, 3) := by decide +kernel
theorem dX2_renew_121 : decode cX2_renew 121 = .ok (.iload_n 1, 1) := by decide +kernel
theorem dX2_renew_122 : decode cX2_renew 122 = .ok (.iaload, 1) := by decide +kernel
theorem dX2_renew_123 : decode cX2_renew 123 = .ok (.iadd, 1) := by decide +kernel
theorem dX2_renew_124 : decode cX2_renew 124 = .ok (.aload_n 0, 1) := by decide +kernel
theorem dX2_renew_125 : decode cX2_renew 125 = .ok (.getfield 19, 3) := by decide +kernel
theorem dX2_renew_128 : decode cX2_renew 128 = .ok (.arraylength, 1) := by decide +kernel
theorem dX2_renew_129 : decode cX2_renew 129 = .ok (.if_icmp .ge 17, 3) := by decide +kernel
theorem dX2_renew_132 : decode cX2_renew 132 = .ok (.aload_n 0, 1) := by decide +kernel
theorem dX2_renew_133 : decode cX2_renew 133 = .ok (.getfield 19, 3) := by decide +kernel
theorem dX2_renew_136 : decode cX2_renew 136 = .ok (.iload_n 1, 1) := by decide +kernel
theorem dX2_renew_137 : decode cX2_renew 137 = .ok (.aload_n 0, 1) := by decide +kernel
theorem dX2_renew_138 : decode cX2_renew 138 = .ok (.getfield 15, 3) := by decide +kernel
theorem dX2_renew_141 : decode cX2_renew 141 = .ok (.iload_n 1, 1) := by decide +kernel
theorem dX2_renew_142 : decode cX2_renew 142 = .ok (.iaload, 1) := by decide +kernel
theorem dX2_renew_143 : decode cX2_renew 143 = .ok (.iadd, 1) := by decide +kernel
theorem dX2_renew_144 : decode cX2_renew 144 = .ok (.iconst 1, 1) := by decide +kernel
theorem dX2_renew_145 : decode cX2_renew 145 = .ok (.bastore, 1) := by decide +kernel
theorem dX2_renew_146 : decode cX2_renew 146 = .ok (.iinc 1 1, 3) := by decide +kernel
theorem dX2_renew_149 : decode cX2_renew 149 = .ok (.goto (-97), 3) := by decide +kernel
theorem dX2_renew_152 : decode cX2_renew 152 = .ok (.return_, 1) := by decide +kernel
set_option maxRecDepth 20000 in
theorem ggX2_unreachedAt_X10_countOrNone : GoodIn wsX2_unreachedAt wsX10_countOrNone := goodIn_r _ [4] (by decide +kernel) (by decide +kernel)
set_option maxRecDepth 20000 in
theorem gX2_unreachedAt_X10_countOrNone_n36 : GoodIn wsX2_unreachedAt (wsX10_countOrNone) := ggX2_unreachedAt_X10_countOrNone
theorem dX2_unreachedAt_0 : decode cX2_unreachedAt 0 = .ok (.iconst 0, 1) := by decide +kernel
theorem dX2_unreachedAt_1 : decode cX2_unreachedAt 1 = .ok (.istore_n 3, 1) := by decide +kernel
theorem dX2_unreachedAt_2 : decode cX2_unreachedAt 2 = .ok (.iconst 0, 1) := by decide +kernel
theorem dX2_unreachedAt_3 : decode cX2_unreachedAt 3 = .ok (.istore 4, 2) := by decide +kernel
theorem dX2_unreachedAt_5 : decode cX2_unreachedAt 5 = .ok (.iload 4, 2) := by decide +kernel
theorem dX2_unreachedAt_7 : decode cX2_unreachedAt 7 = .ok (.iload_n 1, 1) := by decide +kernel
theorem dX2_unreachedAt_8 : decode cX2_unreachedAt 8 = .ok (.if_icmp .gt 40, 3) := by decide +kernel
theorem dX2_unreachedAt_11 : decode cX2_unreachedAt 11 = .ok (.iload 4, 2) := by decide +kernel
theorem dX2_unreachedAt_13 : decode cX2_unreachedAt 13 = .ok (.aload_n 0, 1) := by decide +kernel
theorem dX2_unreachedAt_14 : decode cX2_unreachedAt 14 = .ok (.getfield 19, 3) := by decide +kernel
theorem dX2_unreachedAt_17 : decode cX2_unreachedAt 17 = .ok (.arraylength, 1) := by decide +kernel
theorem dX2_unreachedAt_18 : decode cX2_unreachedAt 18 = .ok (.if_icmp .ge 30, 3) := by decide +kernel
theorem dX2_unreachedAt_21 : decode cX2_unreachedAt 21 = .ok (.aload_n 0, 1) := by decide +kernel
theorem dX2_unreachedAt_22 : decode cX2_unreachedAt 22 = .ok (.getfield 19, 3) := by decide +kernel
theorem dX2_unreachedAt_25 : decode cX2_unreachedAt 25 = .ok (.iload 4, 2) := by decide +kernel
theorem dX2_unreachedAt_27 : decode cX2_unreachedAt 27 = .ok (.baload, 1) := by decide +kernel
theorem dX2_unreachedAt_28 : decode cX2_unreachedAt 28 = .ok (.ifCond .ne 14, 3) := by decide +kernel
theorem dX2_unreachedAt_31 : decode cX2_unreachedAt 31 = .ok (.iload_n 3, 1) := by decide +kernel
theorem dX2_unreachedAt_32 : decode cX2_unreachedAt 32 = .ok (.iload_n 2, 1) := by decide +kernel
theorem dX2_unreachedAt_33 : decode cX2_unreachedAt 33 = .ok (.if_icmp .ne 6, 3) := by decide +kernel
theorem dX2_unreachedAt_36 : decode cX2_unreachedAt 36 = .ok (.iload 4, 2) := by decide +kernel
theorem dX2_unreachedAt_38 : decode cX2_unreachedAt 38 = .ok (.ireturn, 1) := by decide +kernel
theorem dX2_unreachedAt_39 : decode cX2_unreachedAt 39 = .ok (.iinc 3 1, 3) := by decide +kernel
theorem dX2_unreachedAt_42 : decode cX2_unreachedAt 42 = .ok (.iinc 4 1, 3) := by decide +kernel
theorem dX2_unreachedAt_45 : decode cX2_unreachedAt 45 = .ok (.goto (-40), 3) := by decide +kernel
theorem dX2_unreachedAt_48 : decode cX2_unreachedAt 48 = .ok (.iload_n 2, 1) := by decide +kernel
theorem dX2_unreachedAt_49 : decode cX2_unreachedAt 49 = .ok (.iload_n 3, 1) := by decide +kernel
theorem dX2_unreachedAt_50 : decode cX2_unreachedAt 50 = .ok (.invokestatic 36, 3) := by decide +kernel
theorem dX2_unreachedAt_53 : decode cX2_unreachedAt 53 = .ok (.ireturn, 1) := by decide +kernel
set_option maxRecDepth 20000 in
theorem ggX2_liftedTo_X10_countOrNone : GoodIn wsX2_liftedTo wsX10_countOrNone := goodIn_r _ [4] (by decide +kernel) (by decide +kernel)
set_option maxRecDepth 20000 in
theorem gX2_liftedTo_X10_countOrNone_n36 : GoodIn wsX2_liftedTo (wsX10_countOrNone) := ggX2_liftedTo_X10_countOrNone
theorem dX2_liftedTo_0 : decode cX2_liftedTo 0 = .ok (.iconst 0, 1) := by decide +kernel
theorem dX2_liftedTo_1 : decode cX2_liftedTo 1 = .ok (.istore_n 3, 1) := by decide +kernel
theorem dX2_liftedTo_2 : decode cX2_liftedTo 2 = .ok (.iconst 0, 1) := by decide +kernel
theorem dX2_liftedTo_3 : decode cX2_liftedTo 3 = .ok (.istore 4, 2) := by decide +kernel
theorem dX2_liftedTo_5 : decode cX2_liftedTo 5 = .ok (.iload 4, 2) := by decide +kernel
theorem dX2_liftedTo_7 : decode cX2_liftedTo 7 = .ok (.iload_n 1, 1) := by decide +kernel
theorem dX2_liftedTo_8 : decode cX2_liftedTo 8 = .ok (.if_icmp .gt 44, 3) := by decide +kernel
theorem dX2_liftedTo_11 : decode cX2_liftedTo 11 = .ok (.iload 4, 2) := by decide +kernel
theorem dX2_liftedTo_13 : decode cX2_liftedTo 13 = .ok (.aload_n 0, 1) := by decide +kernel
theorem dX2_liftedTo_14 : decode cX2_liftedTo 14 = .ok (.getfield 15, 3) := by decide +kernel
theorem dX2_liftedTo_17 : decode cX2_liftedTo 17 = .ok (.arraylength, 1) := by decide +kernel
theorem dX2_liftedTo_18 : decode cX2_liftedTo 18 = .ok (.if_icmp .ge 34, 3) := by decide +kernel
theorem dX2_liftedTo_21 : decode cX2_liftedTo 21 = .ok (.iload 4, 2) := by decide +kernel
theorem dX2_liftedTo_23 : decode cX2_liftedTo 23 = .ok (.aload_n 0, 1) := by decide +kernel
theorem dX2_liftedTo_24 : decode cX2_liftedTo 24 = .ok (.getfield 15, 3) := by decide +kernel
theorem dX2_liftedTo_27 : decode cX2_liftedTo 27 = .ok (.iload 4, 2) := by decide +kernel
theorem dX2_liftedTo_29 : decode cX2_liftedTo 29 = .ok (.iaload, 1) := by decide +kernel
theorem dX2_liftedTo_30 : decode cX2_liftedTo 30 = .ok (.iadd, 1) := by decide +kernel
theorem dX2_liftedTo_31 : decode cX2_liftedTo 31 = .ok (.iload_n 1, 1) := by decide +kernel
theorem dX2_liftedTo_32 : decode cX2_liftedTo 32 = .ok (.if_icmp .ne 14, 3) := by decide +kernel
theorem dX2_liftedTo_35 : decode cX2_liftedTo 35 = .ok (.iload_n 3, 1) := by decide +kernel
theorem dX2_liftedTo_36 : decode cX2_liftedTo 36 = .ok (.iload_n 2, 1) := by decide +kernel
theorem dX2_liftedTo_37 : decode cX2_liftedTo 37 = .ok (.if_icmp .ne 6, 3) := by decide +kernel
theorem dX2_liftedTo_40 : decode cX2_liftedTo 40 = .ok (.iload 4, 2) := by decide +kernel
theorem dX2_liftedTo_42 : decode cX2_liftedTo 42 = .ok (.ireturn, 1) := by decide +kernel
theorem dX2_liftedTo_43 : decode cX2_liftedTo 43 = .ok (.iinc 3 1, 3) := by decide +kernel
theorem dX2_liftedTo_46 : decode cX2_liftedTo 46 = .ok (.iinc 4 1, 3) := by decide +kernel
theorem dX2_liftedTo_49 : decode cX2_liftedTo 49 = .ok (.goto (-44), 3) := by decide +kernel
theorem dX2_liftedTo_52 : decode cX2_liftedTo 52 = .ok (.iload_n 2, 1) := by decide +kernel
theorem dX2_liftedTo_53 : decode cX2_liftedTo 53 = .ok (.iload_n 3, 1) := by decide +kernel
theorem dX2_liftedTo_54 : decode cX2_liftedTo 54 = .ok (.invokestatic 36, 3) := by decide +kernel
theorem dX2_liftedTo_57 : decode cX2_liftedTo 57 = .ok (.ireturn, 1) := by decide +kernel
theorem dX3_init_0 : decode cX3_init 0 = .ok (.aload_n 0, 1) := by decide +kernel
theorem dX3_init_1 : decode cX3_init 1 = .ok (.invokespecial 3, 3) := by decide +kernel
theorem dX3_init_4 : decode cX3_init 4 = .ok (.aload_n 0, 1) := by decide +kernel
theorem dX3_init_5 : decode cX3_init 5 = .ok (.aload_n 1, 1) := by decide +kernel
theorem dX3_init_6 : decode cX3_init 6 = .ok (.putfield 9, 3) := by decide +kernel
theorem dX3_init_9 : decode cX3_init 9 = .ok (.return_, 1) := by decide +kernel
set_option maxRecDepth 20000 in
theorem ggX3_isMirror_X1_split : GoodIn wsX3_isMirror wsX1_split := goodIn_r _ [7, 8, 9, 11, 12, 13, 14, 15] (by decide +kernel) (by decide +kernel)
set_option maxRecDepth 20000 in
theorem gX3_isMirror_X1_split : GoodIn wsX3_isMirror (wsV RX3 15 RX1 yX1_split wsX1_split) := goodIn_app (goodIn_of _ (by decide +kernel)) ggX3_isMirror_X1_split
theorem dX3_isMirror_0 : decode cX3_isMirror 0 = .ok (.aload_n 0, 1) := by decide +kernel
theorem dX3_isMirror_1 : decode cX3_isMirror 1 = .ok (.getfield 9, 3) := by decide +kernel
theorem dX3_isMirror_4 : decode cX3_isMirror 4 = .ok (.lload_n 1, 1) := by decide +kernel
theorem dX3_isMirror_5 : decode cX3_isMirror 5 = .ok (.invokevirtual 15, 3) := by decide +kernel
theorem dX3_isMirror_8 : decode cX3_isMirror 8 = .ok (.istore_n 3, 1) := by decide +kernel
theorem dX3_isMirror_9 : decode cX3_isMirror 9 = .ok (.iconst 0, 1) := by decide +kernel
theorem dX3_isMirror_10 : decode cX3_isMirror 10 = .ok (.istore 4, 2) := by decide +kernel
theorem dX3_isMirror_12 : decode cX3_isMirror 12 = .ok (.iload 4, 2) := by decide +kernel
theorem dX3_isMirror_14 : decode cX3_isMirror 14 = .ok (.iload_n 3, 1) := by decide +kernel
theorem dX3_isMirror_15 : decode cX3_isMirror 15 = .ok (.iconst 2, 1) := by decide +kernel
theorem dX3_isMirror_16 : decode cX3_isMirror 16 = .ok (.idiv, 1) := by decide +kernel
theorem dX3_isMirror_17 : decode cX3_isMirror 17 = .ok (.if_icmp .ge 38, 3) := by decide +kernel
theorem dX3_isMirror_20 : decode cX3_isMirror 20 = .ok (.aload_n 0, 1) := by decide +kernel
theorem dX3_isMirror_21 : decode cX3_isMirror 21 = .ok (.getfield 9, 3) := by decide +kernel
theorem dX3_isMirror_24 : decode cX3_isMirror 24 = .ok (.getfield 21, 3) := by decide +kernel
theorem dX3_isMirror_27 : decode cX3_isMirror 27 = .ok (.iload 4, 2) := by decide +kernel
theorem dX3_isMirror_29 : decode cX3_isMirror 29 = .ok (.iaload, 1) := by decide +kernel
theorem dX3_isMirror_30 : decode cX3_isMirror 30 = .ok (.aload_n 0, 1) := by decide +kernel
theorem dX3_isMirror_31 : decode cX3_isMirror 31 = .ok (.getfield 9, 3) := by decide +kernel
theorem dX3_isMirror_34 : decode cX3_isMirror 34 = .ok (.getfield 21, 3) := by decide +kernel
theorem dX3_isMirror_37 : decode cX3_isMirror 37 = .ok (.iload_n 3, 1) := by decide +kernel
theorem dX3_isMirror_38 : decode cX3_isMirror 38 = .ok (.iconst 1, 1) := by decide +kernel
theorem dX3_isMirror_39 : decode cX3_isMirror 39 = .ok (.isub, 1) := by decide +kernel
theorem dX3_isMirror_40 : decode cX3_isMirror 40 = .ok (.iload 4, 2) := by decide +kernel
theorem dX3_isMirror_42 : decode cX3_isMirror 42 = .ok (.isub, 1) := by decide +kernel
theorem dX3_isMirror_43 : decode cX3_isMirror 43 = .ok (.iaload, 1) := by decide +kernel
theorem dX3_isMirror_44 : decode cX3_isMirror 44 = .ok (.if_icmp .eq 5, 3) := by decide +kernel
theorem dX3_isMirror_47 : decode cX3_isMirror 47 = .ok (.iconst 0, 1) := by decide +kernel
theorem dX3_isMirror_48 : decode cX3_isMirror 48 = .ok (.ireturn, 1) := by decide +kernel
theorem dX3_isMirror_49 : decode cX3_isMirror 49 = .ok (.iinc 4 1, 3) := by decide +kernel
theorem dX3_isMirror_52 : decode cX3_isMirror 52 = .ok (.goto (-40), 3) := by decide +kernel
theorem dX3_isMirror_55 : decode cX3_isMirror 55 = .ok (.iconst 1, 1) := by decide +kernel
theorem dX3_isMirror_56 : decode cX3_isMirror 56 = .ok (.ireturn, 1) := by decide +kernel
set_option maxRecDepth 20000 in
theorem ggX3_manyTo_X1_split : GoodIn wsX3_manyTo wsX1_split := goodIn_r _ [6, 7, 8, 32, 33, 34, 35, 36] (by decide +kernel) (by decide +kernel)
set_option maxRecDepth 20000 in
theorem gX3_manyTo_X1_split : GoodIn wsX3_manyTo (wsV RX3 15 RX1 yX1_split wsX1_split) := goodIn_app (goodIn_of _ (by decide +kernel)) ggX3_manyTo_X1_split
set_option maxRecDepth 20000 in
theorem ggX3_manyTo_X3_halfOf : GoodIn wsX3_manyTo wsX3_halfOf := goodIn_r _ [13, 1, 14, 31, 32, 33, 34, 35, 36] (by decide +kernel) (by decide +kernel)
set_option maxRecDepth 20000 in
theorem gX3_manyTo_X3_halfOf : GoodIn wsX3_manyTo (wsV RX3 25 RX3 yX3_halfOf wsX3_halfOf) := goodIn_app (goodIn_of _ (by decide +kernel)) ggX3_manyTo_X3_halfOf
set_option maxRecDepth 20000 in
theorem ggX3_manyTo_X3_manyOfSize : GoodIn wsX3_manyTo wsX3_manyOfSize := goodIn_r _ [18, 1, 14, 19, 20, 21, 12, 22, 23, 24, 25, 5, 26, 8, 31, 32, 33, 34, 35, 36] (by decide +kernel) (by decide +kernel)
set_option maxRecDepth 20000 in
theorem gX3_manyTo_X3_manyOfSize : GoodIn wsX3_manyTo (wsV RX3 29 RX3 yX3_manyOfSize wsX3_manyOfSize) := goodIn_app (goodIn_of _ (by decide +kernel)) ggX3_manyTo_X3_manyOfSize
set_option maxRecDepth 20000 in
theorem ggX3_manyTo_X3_leastHalf : GoodIn wsX3_manyTo wsX3_leastHalf := goodIn_r _ [22, 1, 23, 24, 25, 5, 26, 8, 31, 32, 33, 34, 35, 36] (by decide +kernel) (by decide +kernel)
set_option maxRecDepth 20000 in
theorem gX3_manyTo_X3_leastHalf : GoodIn wsX3_manyTo (wsV RX3 33 RX3 yX3_leastHalf wsX3_leastHalf) := goodIn_app (goodIn_of _ (by decide +kernel)) ggX3_manyTo_X3_leastHalf
set_option maxRecDepth 20000 in
theorem ggX3_manyTo_X3_mirrored : GoodIn wsX3_manyTo wsX3_mirrored := goodIn_r _ [30, 1, 14, 31, 32, 33, 34, 35, 36] (by decide +kernel) (by decide +kernel)
set_option maxRecDepth 20000 in
theorem gX3_manyTo_X3_mirrored : GoodIn wsX3_manyTo (wsV RX3 36 RX3 yX3_mirrored wsX3_mirrored) := goodIn_app (goodIn_of _ (by decide +kernel)) ggX3_manyTo_X3_mirrored
theorem dX3_manyTo_0 : decode cX3_manyTo 0 = .ok (.aload_n 0, 1) := by decide +kernel
theorem dX3_manyTo_1 : decode cX3_manyTo 1 = .ok (.getfield 9, 3) := by decide +kernel
theorem dX3_manyTo_4 : decode cX3_manyTo 4 = .ok (.lload_n 1, 1) := by decide +kernel
theorem dX3_manyTo_5 : decode cX3_manyTo 5 = .ok (.invokevirtual 15, 3) := by decide +kernel
theorem dX3_manyTo_8 : decode cX3_manyTo 8 = .ok (.istore_n 3, 1) := by decide +kernel
theorem dX3_manyTo_9 : decode cX3_manyTo 9 = .ok (.aload_n 0, 1) := by decide +kernel
theorem dX3_manyTo_10 : decode cX3_manyTo 10 = .ok (.lload_n 1, 1) := by decide +kernel
theorem dX3_manyTo_11 : decode cX3_manyTo 11 = .ok (.iload_n 3, 1) := by decide +kernel
theorem dX3_manyTo_12 : decode cX3_manyTo 12 = .ok (.invokevirtual 25, 3) := by decide +kernel
theorem dX3_manyTo_15 : decode cX3_manyTo 15 = .ok (.lstore 4, 2) := by decide +kernel
theorem dX3_manyTo_17 : decode cX3_manyTo 17 = .ok (.lconst 1, 1) := by decide +kernel
theorem dX3_manyTo_18 : decode cX3_manyTo 18 = .ok (.lstore 6, 2) := by decide +kernel
theorem dX3_manyTo_20 : decode cX3_manyTo 20 = .ok (.iconst 1, 1) := by decide +kernel
theorem dX3_manyTo_21 : decode cX3_manyTo 21 = .ok (.istore 8, 2) := by decide +kernel
theorem dX3_manyTo_23 : decode cX3_manyTo 23 = .ok (.iload 8, 2) := by decide +kernel
theorem dX3_manyTo_25 : decode cX3_manyTo 25 = .ok (.iload_n 3, 1) := by decide +kernel
theorem dX3_manyTo_26 : decode cX3_manyTo 26 = .ok (.if_icmp .ge 20, 3) := by decide +kernel
theorem dX3_manyTo_29 : decode cX3_manyTo 29 = .ok (.lload 6, 2) := by decide +kernel
theorem dX3_manyTo_31 : decode cX3_manyTo 31 = .ok (.aload_n 0, 1) := by decide +kernel
theorem dX3_manyTo_32 : decode cX3_manyTo 32 = .ok (.iload 8, 2) := by decide +kernel
theorem dX3_manyTo_34 : decode cX3_manyTo 34 = .ok (.invokevirtual 29, 3) := by decide +kernel
theorem dX3_manyTo_37 : decode cX3_manyTo 37 = .ok (.ladd, 1) := by decide +kernel
theorem dX3_manyTo_38 : decode cX3_manyTo 38 = .ok (.lstore 6, 2) := by decide +kernel
theorem dX3_manyTo_40 : decode cX3_manyTo 40 = .ok (.iinc 8 1, 3) := by decide +kernel
theorem dX3_manyTo_43 : decode cX3_manyTo 43 = .ok (.goto (-20), 3) := by decide +kernel
theorem dX3_manyTo_46 : decode cX3_manyTo 46 = .ok (.lload 6, 2) := by decide +kernel
theorem dX3_manyTo_48 : decode cX3_manyTo 48 = .ok (.lload 4, 2) := by decide +kernel
theorem dX3_manyTo_50 : decode cX3_manyTo 50 = .ok (.aload_n 0, 1) := by decide +kernel
theorem dX3_manyTo_51 : decode cX3_manyTo 51 = .ok (.iload_n 3, 1) := by decide +kernel
theorem dX3_manyTo_52 : decode cX3_manyTo 52 = .ok (.invokevirtual 33, 3) := by decide +kernel
theorem dX3_manyTo_55 : decode cX3_manyTo 55 = .ok (.lsub, 1) := by decide +kernel
theorem dX3_manyTo_56 : decode cX3_manyTo 56 = .ok (.ladd, 1) := by decide +kernel
theorem dX3_manyTo_57 : decode cX3_manyTo 57 = .ok (.lstore 6, 2) := by decide +kernel
theorem dX3_manyTo_59 : decode cX3_manyTo 59 = .ok (.aload_n 0, 1) := by decide +kernel
theorem dX3_manyTo_60 : decode cX3_manyTo 60 = .ok (.lload 4, 2) := by decide +kernel
theorem dX3_manyTo_62 : decode cX3_manyTo 62 = .ok (.iload_n 3, 1) := by decide +kernel
theorem dX3_manyTo_63 : decode cX3_manyTo 63 = .ok (.invokevirtual 36, 3) := by decide +kernel
theorem dX3_manyTo_66 : decode cX3_manyTo 66 = .ok (.lload_n 1, 1) := by decide +kernel
theorem dX3_manyTo_67 : decode cX3_manyTo 67 = .ok (.lcmp, 1) := by decide +kernel
theorem dX3_manyTo_68 : decode cX3_manyTo 68 = .ok (.ifCond .gt 10, 3) := by decide +kernel
theorem dX3_manyTo_71 : decode cX3_manyTo 71 = .ok (.lload 6, 2) := by decide +kernel
theorem dX3_manyTo_73 : decode cX3_manyTo 73 = .ok (.lconst 1, 1) := by decide +kernel
theorem dX3_manyTo_74 : decode cX3_manyTo 74 = .ok (.ladd, 1) := by decide +kernel
theorem dX3_manyTo_75 : decode cX3_manyTo 75 = .ok (.goto 5, 3) := by decide +kernel
theorem dX3_manyTo_78 : decode cX3_manyTo 78 = .ok (.lload 6, 2) := by decide +kernel
theorem dX3_manyTo_80 : decode cX3_manyTo 80 = .ok (.lreturn, 1) := by decide +kernel
set_option maxRecDepth 20000 in
theorem ggX3_at_X1_split : GoodIn wsX3_at wsX1_split := goodIn_r _ [8, 9, 10, 33, 34, 35, 36, 37] (by decide +kernel) (by decide +kernel)
set_option maxRecDepth 20000 in
theorem gX3_at_X1_split : GoodIn wsX3_at (wsV RX3 15 RX1 yX1_split wsX1_split) := goodIn_app (goodIn_of _ (by decide +kernel)) ggX3_at_X1_split
set_option maxRecDepth 20000 in
theorem ggX3_at_X3_manyOfSize : GoodIn wsX3_at wsX3_manyOfSize := goodIn_r _ [15, 1, 16, 17, 18, 19, 14, 20, 21, 22, 23, 7, 24, 10, 32, 33, 34, 35, 36, 37] (by decide +kernel) (by decide +kernel)
set_option maxRecDepth 20000 in
theorem gX3_at_X3_manyOfSize : GoodIn wsX3_at (wsV RX3 29 RX3 yX3_manyOfSize wsX3_manyOfSize) := goodIn_app (goodIn_of _ (by decide +kernel)) ggX3_at_X3_manyOfSize
set_option maxRecDepth 20000 in
theorem ggX3_at_X3_leastHalf : GoodIn wsX3_at wsX3_leastHalf := goodIn_r _ [20, 1, 21, 22, 23, 7, 24, 10, 32, 33, 34, 35, 36, 37] (by decide +kernel) (by decide +kernel)
set_option maxRecDepth 20000 in
theorem gX3_at_X3_leastHalf : GoodIn wsX3_at (wsV RX3 33 RX3 yX3_leastHalf wsX3_leastHalf) := goodIn_app (goodIn_of _ (by decide +kernel)) ggX3_at_X3_leastHalf
set_option maxRecDepth 20000 in
theorem ggX3_at_X3_mirrored : GoodIn wsX3_at wsX3_mirrored := goodIn_r _ [28, 1, 16, 32, 33, 34, 35, 36, 37] (by decide +kernel) (by decide +kernel)
set_option maxRecDepth 20000 in
theorem gX3_at_X3_mirrored : GoodIn wsX3_at (wsV RX3 36 RX3 yX3_mirrored wsX3_mirrored) := goodIn_app (goodIn_of _ (by decide +kernel)) ggX3_at_X3_mirrored
set_option maxRecDepth 20000 in
theorem ggX3_at_X3_numberOrNone : GoodIn wsX3_at wsX3_numberOrNone := goodIn_r _ [31, 2, 3] (by decide +kernel) (by decide +kernel)
set_option maxRecDepth 20000 in
theorem gX3_at_X3_numberOrNone : GoodIn wsX3_at (va_wsS RX3 41 yX3_numberOrNone wsX3_numberOrNone) := goodIn_app (goodIn_of _ (by decide +kernel)) ggX3_at_X3_numberOrNone
theorem dX3_at_0 : decode cX3_at 0 = .ok (.lload_n 1, 1) := by decide +kernel
theorem dX3_at_1 : decode cX3_at 1 = .ok (.lconst 0, 1) := by decide +kernel
theorem dX3_at_2 : decode cX3_at 2 = .ok (.lcmp, 1) := by decide +kernel
theorem dX3_at_3 : decode cX3_at 3 = .ok (.ifCond .ne 5, 3) := by decide +kernel
theorem dX3_at_6 : decode cX3_at 6 = .ok (.lconst 0, 1) := by decide +kernel
theorem dX3_at_7 : decode cX3_at 7 = .ok (.lreturn, 1) := by decide +kernel
theorem dX3_at_8 : decode cX3_at 8 = .ok (.aload_n 0, 1) := by decide +kernel
theorem dX3_at_9 : decode cX3_at 9 = .ok (.getfield 9, 3) := by decide +kernel
theorem dX3_at_12 : decode cX3_at 12 = .ok (.ldc2_w 39, 3) := by decide +kernel
theorem dX3_at_15 : decode cX3_at 15 = .ok (.invokevirtual 15, 3) := by decide +kernel
theorem dX3_at_18 : decode cX3_at 18 = .ok (.istore_n 3, 1) := by decide +kernel
theorem dX3_at_19 : decode cX3_at 19 = .ok (.lload_n 1, 1) := by decide +kernel
theorem dX3_at_20 : decode cX3_at 20 = .ok (.lconst 1, 1) := by decide +kernel
theorem dX3_at_21 : decode cX3_at 21 = .ok (.lsub, 1) := by decide +kernel
theorem dX3_at_22 : decode cX3_at 22 = .ok (.lstore 4, 2) := by decide +kernel
theorem dX3_at_24 : decode cX3_at 24 = .ok (.iconst 1, 1) := by decide +kernel
theorem dX3_at_25 : decode cX3_at 25 = .ok (.istore 6, 2) := by decide +kernel
theorem dX3_at_27 : decode cX3_at 27 = .ok (.iload 6, 2) := by decide +kernel
theorem dX3_at_29 : decode cX3_at 29 = .ok (.iload_n 3, 1) := by decide +kernel
theorem dX3_at_30 : decode cX3_at 30 = .ok (.if_icmp .gt 51, 3) := by decide +kernel
theorem dX3_at_33 : decode cX3_at 33 = .ok (.aload_n 0, 1) := by decide +kernel
theorem dX3_at_34 : decode cX3_at 34 = .ok (.iload 6, 2) := by decide +kernel
theorem dX3_at_36 : decode cX3_at 36 = .ok (.invokevirtual 29, 3) := by decide +kernel
theorem dX3_at_39 : decode cX3_at 39 = .ok (.lstore 7, 2) := by decide +kernel
theorem dX3_at_41 : decode cX3_at 41 = .ok (.lload 4, 2) := by decide +kernel
theorem dX3_at_43 : decode cX3_at 43 = .ok (.lload 7, 2) := by decide +kernel
theorem dX3_at_45 : decode cX3_at 45 = .ok (.lcmp, 1) := by decide +kernel
