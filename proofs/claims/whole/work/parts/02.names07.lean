set_option maxRecDepth 20000 in
theorem gX10_table_X10_within : GoodIn wsX10_table (va_wsS RX10 38 yX10_within wsX10_within) := goodIn_app (goodIn_of _ (by decide +kernel)) ggX10_table_X10_within
set_option maxRecDepth 20000 in
theorem ggX10_table_X1_setWorth : GoodIn wsX10_table wsX1_setWorth := goodIn_r _ [12, 13, 14, 24, 25, 26, 27, 28] (by decide +kernel) (by decide +kernel)
set_option maxRecDepth 20000 in
theorem gX10_table_X1_setWorth : GoodIn wsX10_table (wsV RX10 55 RX1 yX1_setWorth wsX1_setWorth) := goodIn_app (goodIn_of _ (by decide +kernel)) ggX10_table_X1_setWorth
theorem dX10_table_0 : decode cX10_table 0 = .ok (.iload_n 1, 1) := by decide +kernel
theorem dX10_table_1 : decode cX10_table 1 = .ok (.iconst 0, 1) := by decide +kernel
theorem dX10_table_2 : decode cX10_table 2 = .ok (.bipush 15, 2) := by decide +kernel
theorem dX10_table_4 : decode cX10_table 4 = .ok (.invokestatic 38, 3) := by decide +kernel
theorem dX10_table_7 : decode cX10_table 7 = .ok (.ifCond .eq 13, 3) := by decide +kernel
theorem dX10_table_10 : decode cX10_table 10 = .ok (.iload_n 2, 1) := by decide +kernel
theorem dX10_table_11 : decode cX10_table 11 = .ok (.iconst 0, 1) := by decide +kernel
theorem dX10_table_12 : decode cX10_table 12 = .ok (.ldc 50, 2) := by decide +kernel
theorem dX10_table_14 : decode cX10_table 14 = .ok (.invokestatic 38, 3) := by decide +kernel
theorem dX10_table_17 : decode cX10_table 17 = .ok (.ifCond .ne 5, 3) := by decide +kernel
theorem dX10_table_20 : decode cX10_table 20 = .ok (.iconst (-1), 1) := by decide +kernel
theorem dX10_table_21 : decode cX10_table 21 = .ok (.ireturn, 1) := by decide +kernel
theorem dX10_table_22 : decode cX10_table 22 = .ok (.aload_n 0, 1) := by decide +kernel
theorem dX10_table_23 : decode cX10_table 23 = .ok (.getfield 10, 3) := by decide +kernel
theorem dX10_table_26 : decode cX10_table 26 = .ok (.getfield 51, 3) := by decide +kernel
theorem dX10_table_29 : decode cX10_table 29 = .ok (.iload_n 1, 1) := by decide +kernel
theorem dX10_table_30 : decode cX10_table 30 = .ok (.iaload, 1) := by decide +kernel
theorem dX10_table_31 : decode cX10_table 31 = .ok (.istore_n 3, 1) := by decide +kernel
theorem dX10_table_32 : decode cX10_table 32 = .ok (.aload_n 0, 1) := by decide +kernel
theorem dX10_table_33 : decode cX10_table 33 = .ok (.getfield 10, 3) := by decide +kernel
theorem dX10_table_36 : decode cX10_table 36 = .ok (.iload_n 1, 1) := by decide +kernel
theorem dX10_table_37 : decode cX10_table 37 = .ok (.iload_n 2, 1) := by decide +kernel
theorem dX10_table_38 : decode cX10_table 38 = .ok (.invokevirtual 55, 3) := by decide +kernel
theorem dX10_table_41 : decode cX10_table 41 = .ok (.iload_n 3, 1) := by decide +kernel
theorem dX10_table_42 : decode cX10_table 42 = .ok (.ireturn, 1) := by decide +kernel
set_option maxRecDepth 20000 in
theorem ggX10_figure_X10_isNumber : GoodIn wsX10_figure wsX10_isNumber := goodIn_r _ [6, 7] (by decide +kernel) (by decide +kernel)
set_option maxRecDepth 20000 in
theorem gX10_figure_X10_isNumber : GoodIn wsX10_figure (va_wsS RX10 59 yX10_isNumber wsX10_isNumber) := goodIn_app (goodIn_of _ (by decide +kernel)) ggX10_figure_X10_isNumber
set_option maxRecDepth 20000 in
theorem ggX10_figure_X1_split : GoodIn wsX10_figure wsX1_split := goodIn_r _ [12, 13, 14, 24, 25, 26, 27, 28] (by decide +kernel) (by decide +kernel)
set_option maxRecDepth 20000 in
theorem gX10_figure_X1_split : GoodIn wsX10_figure (wsV RX10 63 RX1 yX1_split wsX1_split) := goodIn_app (goodIn_of _ (by decide +kernel)) ggX10_figure_X1_split
theorem dX10_figure_0 : decode cX10_figure 0 = .ok (.lload_n 1, 1) := by decide +kernel
theorem dX10_figure_1 : decode cX10_figure 1 = .ok (.invokestatic 59, 3) := by decide +kernel
theorem dX10_figure_4 : decode cX10_figure 4 = .ok (.ifCond .eq 8, 3) := by decide +kernel
theorem dX10_figure_7 : decode cX10_figure 7 = .ok (.iload_n 3, 1) := by decide +kernel
theorem dX10_figure_8 : decode cX10_figure 8 = .ok (.iconst (-1), 1) := by decide +kernel
theorem dX10_figure_9 : decode cX10_figure 9 = .ok (.if_icmp .ge 5, 3) := by decide +kernel
theorem dX10_figure_12 : decode cX10_figure 12 = .ok (.iconst (-1), 1) := by decide +kernel
theorem dX10_figure_13 : decode cX10_figure 13 = .ok (.ireturn, 1) := by decide +kernel
theorem dX10_figure_14 : decode cX10_figure 14 = .ok (.aload_n 0, 1) := by decide +kernel
theorem dX10_figure_15 : decode cX10_figure 15 = .ok (.getfield 10, 3) := by decide +kernel
theorem dX10_figure_18 : decode cX10_figure 18 = .ok (.lload_n 1, 1) := by decide +kernel
theorem dX10_figure_19 : decode cX10_figure 19 = .ok (.invokevirtual 63, 3) := by decide +kernel
theorem dX10_figure_22 : decode cX10_figure 22 = .ok (.istore 4, 2) := by decide +kernel
theorem dX10_figure_24 : decode cX10_figure 24 = .ok (.iload_n 3, 1) := by decide +kernel
theorem dX10_figure_25 : decode cX10_figure 25 = .ok (.iconst (-1), 1) := by decide +kernel
theorem dX10_figure_26 : decode cX10_figure 26 = .ok (.if_icmp .ne 6, 3) := by decide +kernel
theorem dX10_figure_29 : decode cX10_figure 29 = .ok (.iload 4, 2) := by decide +kernel
theorem dX10_figure_31 : decode cX10_figure 31 = .ok (.ireturn, 1) := by decide +kernel
theorem dX10_figure_32 : decode cX10_figure 32 = .ok (.iload_n 3, 1) := by decide +kernel
theorem dX10_figure_33 : decode cX10_figure 33 = .ok (.iload 4, 2) := by decide +kernel
theorem dX10_figure_35 : decode cX10_figure 35 = .ok (.if_icmp .ge 20, 3) := by decide +kernel
theorem dX10_figure_38 : decode cX10_figure 38 = .ok (.aload_n 0, 1) := by decide +kernel
theorem dX10_figure_39 : decode cX10_figure 39 = .ok (.getfield 10, 3) := by decide +kernel
theorem dX10_figure_42 : decode cX10_figure 42 = .ok (.getfield 67, 3) := by decide +kernel
theorem dX10_figure_45 : decode cX10_figure 45 = .ok (.iload 4, 2) := by decide +kernel
theorem dX10_figure_47 : decode cX10_figure 47 = .ok (.iconst 1, 1) := by decide +kernel
theorem dX10_figure_48 : decode cX10_figure 48 = .ok (.isub, 1) := by decide +kernel
theorem dX10_figure_49 : decode cX10_figure 49 = .ok (.iload_n 3, 1) := by decide +kernel
theorem dX10_figure_50 : decode cX10_figure 50 = .ok (.isub, 1) := by decide +kernel
theorem dX10_figure_51 : decode cX10_figure 51 = .ok (.iaload, 1) := by decide +kernel
theorem dX10_figure_52 : decode cX10_figure 52 = .ok (.goto 5, 3) := by decide +kernel
theorem dX10_figure_55 : decode cX10_figure 55 = .ok (.bipush (-4), 2) := by decide +kernel
theorem dX10_figure_57 : decode cX10_figure 57 = .ok (.ireturn, 1) := by decide +kernel
set_option maxRecDepth 20000 in
theorem ggX10_step_X10_isStep : GoodIn wsX10_step wsX10_isStep := goodIn_r _ [6] (by decide +kernel) (by decide +kernel)
set_option maxRecDepth 20000 in
theorem gX10_step_X10_isStep : GoodIn wsX10_step (va_wsS RX10 70 yX10_isStep wsX10_isStep) := goodIn_app (goodIn_of _ (by decide +kernel)) ggX10_step_X10_isStep
set_option maxRecDepth 20000 in
theorem ggX10_step_X10_isNumber : GoodIn wsX10_step wsX10_isNumber := goodIn_r _ [9, 10] (by decide +kernel) (by decide +kernel)
set_option maxRecDepth 20000 in
theorem gX10_step_X10_isNumber : GoodIn wsX10_step (va_wsS RX10 59 yX10_isNumber wsX10_isNumber) := goodIn_app (goodIn_of _ (by decide +kernel)) ggX10_step_X10_isNumber
set_option maxRecDepth 20000 in
theorem ggX10_step_X1_make : GoodIn wsX10_step wsX1_make := goodIn_r _ [15, 16, 17, 18, 14, 19, 20, 21, 22, 23, 24, 25, 26, 27, 28, 29, 30, 31, 32, 33, 34, 35, 36, 37, 38, 39, 40, 41, 51, 52, 53, 54, 55] (by decide +kernel) (by decide +kernel)
set_option maxRecDepth 20000 in
theorem gX10_step_X1_make : GoodIn wsX10_step (wsV RX10 76 RX1 yX1_make wsX1_make) := goodIn_app (goodIn_of _ (by decide +kernel)) ggX10_step_X1_make
theorem dX10_step_0 : decode cX10_step 0 = .ok (.iload_n 1, 1) := by decide +kernel
theorem dX10_step_1 : decode cX10_step 1 = .ok (.invokestatic 70, 3) := by decide +kernel
theorem dX10_step_4 : decode cX10_step 4 = .ok (.ifCond .eq 10, 3) := by decide +kernel
theorem dX10_step_7 : decode cX10_step 7 = .ok (.lload_n 2, 1) := by decide +kernel
theorem dX10_step_8 : decode cX10_step 8 = .ok (.invokestatic 59, 3) := by decide +kernel
theorem dX10_step_11 : decode cX10_step 11 = .ok (.ifCond .ne 7, 3) := by decide +kernel
theorem dX10_step_14 : decode cX10_step 14 = .ok (.ldc2_w 74, 3) := by decide +kernel
theorem dX10_step_17 : decode cX10_step 17 = .ok (.lreturn, 1) := by decide +kernel
theorem dX10_step_18 : decode cX10_step 18 = .ok (.aload_n 0, 1) := by decide +kernel
theorem dX10_step_19 : decode cX10_step 19 = .ok (.getfield 10, 3) := by decide +kernel
theorem dX10_step_22 : decode cX10_step 22 = .ok (.iload_n 1, 1) := by decide +kernel
theorem dX10_step_23 : decode cX10_step 23 = .ok (.lload_n 2, 1) := by decide +kernel
theorem dX10_step_24 : decode cX10_step 24 = .ok (.invokevirtual 76, 3) := by decide +kernel
theorem dX10_step_27 : decode cX10_step 27 = .ok (.lreturn, 1) := by decide +kernel
set_option maxRecDepth 20000 in
theorem ggX10_chain_X10_isStep : GoodIn wsX10_chain wsX10_isStep := goodIn_r _ [8] (by decide +kernel) (by decide +kernel)
set_option maxRecDepth 20000 in
theorem gX10_chain_X10_isStep : GoodIn wsX10_chain (va_wsS RX10 70 yX10_isStep wsX10_isStep) := goodIn_app (goodIn_of _ (by decide +kernel)) ggX10_chain_X10_isStep
set_option maxRecDepth 20000 in
theorem ggX10_chain_X10_isNumber : GoodIn wsX10_chain wsX10_isNumber := goodIn_r _ [11, 12] (by decide +kernel) (by decide +kernel)
set_option maxRecDepth 20000 in
theorem gX10_chain_X10_isNumber : GoodIn wsX10_chain (va_wsS RX10 59 yX10_isNumber wsX10_isNumber) := goodIn_app (goodIn_of _ (by decide +kernel)) ggX10_chain_X10_isNumber
set_option maxRecDepth 20000 in
theorem ggX10_chain_X10_within : GoodIn wsX10_chain wsX10_within := goodIn_r _ [15] (by decide +kernel) (by decide +kernel)
set_option maxRecDepth 20000 in
theorem gX10_chain_X10_within : GoodIn wsX10_chain (va_wsS RX10 38 yX10_within wsX10_within) := goodIn_app (goodIn_of _ (by decide +kernel)) ggX10_chain_X10_within
set_option maxRecDepth 20000 in
theorem ggX10_chain_X6_follow : GoodIn wsX10_chain wsX6_follow := goodIn_r _ [20, 21, 22, 23, 24, 25, 26, 27, 28, 29, 30, 31, 32, 33, 19, 34, 35, 36, 37, 38, 39, 40, 41, 42, 43, 44, 45, 46, 47, 48, 49, 50, 51, 52, 53, 54, 55, 56, 57, 58, 59, 60, 61, 62, 63, 64, 65, 75, 76, 77, 78, 79, 80, 81, 82, 83] (by decide +kernel) (by decide +kernel)
set_option maxRecDepth 20000 in
theorem gX10_chain_X6_follow : GoodIn wsX10_chain (wsV RX10 80 RX6 yX6_follow wsX6_follow) := goodIn_app (goodIn_of _ (by decide +kernel)) ggX10_chain_X6_follow
theorem dX10_chain_0 : decode cX10_chain 0 = .ok (.iload_n 1, 1) := by decide +kernel
theorem dX10_chain_1 : decode cX10_chain 1 = .ok (.invokestatic 70, 3) := by decide +kernel
theorem dX10_chain_4 : decode cX10_chain 4 = .ok (.ifCond .eq 20, 3) := by decide +kernel
theorem dX10_chain_7 : decode cX10_chain 7 = .ok (.lload_n 2, 1) := by decide +kernel
theorem dX10_chain_8 : decode cX10_chain 8 = .ok (.invokestatic 59, 3) := by decide +kernel
theorem dX10_chain_11 : decode cX10_chain 11 = .ok (.ifCond .eq 13, 3) := by decide +kernel
theorem dX10_chain_14 : decode cX10_chain 14 = .ok (.iload 4, 2) := by decide +kernel
theorem dX10_chain_16 : decode cX10_chain 16 = .ok (.iconst 0, 1) := by decide +kernel
theorem dX10_chain_17 : decode cX10_chain 17 = .ok (.iconst 1, 1) := by decide +kernel
theorem dX10_chain_18 : decode cX10_chain 18 = .ok (.invokestatic 38, 3) := by decide +kernel
theorem dX10_chain_21 : decode cX10_chain 21 = .ok (.ifCond .ne 5, 3) := by decide +kernel
theorem dX10_chain_24 : decode cX10_chain 24 = .ok (.iconst (-1), 1) := by decide +kernel
theorem dX10_chain_25 : decode cX10_chain 25 = .ok (.ireturn, 1) := by decide +kernel
theorem dX10_chain_26 : decode cX10_chain 26 = .ok (.aload_n 0, 1) := by decide +kernel
theorem dX10_chain_27 : decode cX10_chain 27 = .ok (.getfield 19, 3) := by decide +kernel
theorem dX10_chain_30 : decode cX10_chain 30 = .ok (.aload_n 0, 1) := by decide +kernel
theorem dX10_chain_31 : decode cX10_chain 31 = .ok (.getfield 10, 3) := by decide +kernel
theorem dX10_chain_34 : decode cX10_chain 34 = .ok (.iload_n 1, 1) := by decide +kernel
theorem dX10_chain_35 : decode cX10_chain 35 = .ok (.lload_n 2, 1) := by decide +kernel
theorem dX10_chain_36 : decode cX10_chain 36 = .ok (.invokevirtual 80, 3) := by decide +kernel
theorem dX10_chain_39 : decode cX10_chain 39 = .ok (.iload 4, 2) := by decide +kernel
theorem dX10_chain_41 : decode cX10_chain 41 = .ok (.ifCond .ne 13, 3) := by decide +kernel
theorem dX10_chain_44 : decode cX10_chain 44 = .ok (.aload_n 0, 1) := by decide +kernel
theorem dX10_chain_45 : decode cX10_chain 45 = .ok (.getfield 19, 3) := by decide +kernel
theorem dX10_chain_48 : decode cX10_chain 48 = .ok (.getfield 84, 3) := by decide +kernel
theorem dX10_chain_51 : decode cX10_chain 51 = .ok (.goto 10, 3) := by decide +kernel
theorem dX10_chain_54 : decode cX10_chain 54 = .ok (.aload_n 0, 1) := by decide +kernel
theorem dX10_chain_55 : decode cX10_chain 55 = .ok (.getfield 19, 3) := by decide +kernel
theorem dX10_chain_58 : decode cX10_chain 58 = .ok (.getfield 87, 3) := by decide +kernel
theorem dX10_chain_61 : decode cX10_chain 61 = .ok (.ireturn, 1) := by decide +kernel
set_option maxRecDepth 20000 in
theorem ggX10_chained_X10_isStep : GoodIn wsX10_chained wsX10_isStep := goodIn_r _ [7] (by decide +kernel) (by decide +kernel)
set_option maxRecDepth 20000 in
theorem gX10_chained_X10_isStep : GoodIn wsX10_chained (va_wsS RX10 70 yX10_isStep wsX10_isStep) := goodIn_app (goodIn_of _ (by decide +kernel)) ggX10_chained_X10_isStep
set_option maxRecDepth 20000 in
theorem ggX10_chained_X10_isNumber : GoodIn wsX10_chained wsX10_isNumber := goodIn_r _ [10, 11] (by decide +kernel) (by decide +kernel)
set_option maxRecDepth 20000 in
theorem gX10_chained_X10_isNumber : GoodIn wsX10_chained (va_wsS RX10 59 yX10_isNumber wsX10_isNumber) := goodIn_app (goodIn_of _ (by decide +kernel)) ggX10_chained_X10_isNumber
set_option maxRecDepth 20000 in
theorem ggX10_chained_X6_follow : GoodIn wsX10_chained wsX6_follow := goodIn_r _ [16, 17, 18, 19, 20, 21, 22, 23, 24, 25, 26, 27, 28, 29, 15, 30, 31, 32, 33, 34, 35, 36, 37, 38, 39, 40, 41, 42, 43, 44, 45, 46, 47, 48, 49, 50, 51, 52, 53, 54, 55, 56, 57, 58, 59, 60, 61, 76, 77, 78, 79, 80, 81, 82, 83, 84] (by decide +kernel) (by decide +kernel)
set_option maxRecDepth 20000 in
theorem gX10_chained_X6_follow : GoodIn wsX10_chained (wsV RX10 80 RX6 yX6_follow wsX6_follow) := goodIn_app (goodIn_of _ (by decide +kernel)) ggX10_chained_X6_follow
set_option maxRecDepth 20000 in
theorem ggX10_chained_X6_numberAt : GoodIn wsX10_chained wsX6_numberAt := goodIn_r _ [65, 17, 19, 22, 21, 66, 76, 77, 78, 79] (by decide +kernel) (by decide +kernel)
set_option maxRecDepth 20000 in
theorem gX10_chained_X6_numberAt : GoodIn wsX10_chained (wsV RX10 90 RX6 yX6_numberAt wsX6_numberAt) := goodIn_app (goodIn_of _ (by decide +kernel)) ggX10_chained_X6_numberAt
theorem dX10_chained_0 : decode cX10_chained 0 = .ok (.iload_n 1, 1) := by decide +kernel
theorem dX10_chained_1 : decode cX10_chained 1 = .ok (.invokestatic 70, 3) := by decide +kernel
theorem dX10_chained_4 : decode cX10_chained 4 = .ok (.ifCond .eq 15, 3) := by decide +kernel
theorem dX10_chained_7 : decode cX10_chained 7 = .ok (.lload_n 2, 1) := by decide +kernel
theorem dX10_chained_8 : decode cX10_chained 8 = .ok (.invokestatic 59, 3) := by decide +kernel
theorem dX10_chained_11 : decode cX10_chained 11 = .ok (.ifCond .eq 8, 3) := by decide +kernel
theorem dX10_chained_14 : decode cX10_chained 14 = .ok (.iload 4, 2) := by decide +kernel
theorem dX10_chained_16 : decode cX10_chained 16 = .ok (.ifCond .ge 7, 3) := by decide +kernel
theorem dX10_chained_19 : decode cX10_chained 19 = .ok (.ldc2_w 74, 3) := by decide +kernel
theorem dX10_chained_22 : decode cX10_chained 22 = .ok (.lreturn, 1) := by decide +kernel
theorem dX10_chained_23 : decode cX10_chained 23 = .ok (.aload_n 0, 1) := by decide +kernel
theorem dX10_chained_24 : decode cX10_chained 24 = .ok (.getfield 19, 3) := by decide +kernel
theorem dX10_chained_27 : decode cX10_chained 27 = .ok (.aload_n 0, 1) := by decide +kernel
theorem dX10_chained_28 : decode cX10_chained 28 = .ok (.getfield 10, 3) := by decide +kernel
theorem dX10_chained_31 : decode cX10_chained 31 = .ok (.iload_n 1, 1) := by decide +kernel
theorem dX10_chained_32 : decode cX10_chained 32 = .ok (.lload_n 2, 1) := by decide +kernel
theorem dX10_chained_33 : decode cX10_chained 33 = .ok (.invokevirtual 80, 3) := by decide +kernel
theorem dX10_chained_36 : decode cX10_chained 36 = .ok (.aload_n 0, 1) := by decide +kernel
theorem dX10_chained_37 : decode cX10_chained 37 = .ok (.getfield 19, 3) := by decide +kernel
theorem dX10_chained_40 : decode cX10_chained 40 = .ok (.iload 4, 2) := by decide +kernel
theorem dX10_chained_42 : decode cX10_chained 42 = .ok (.invokevirtual 90, 3) := by decide +kernel
theorem dX10_chained_45 : decode cX10_chained 45 = .ok (.lreturn, 1) := by decide +kernel
set_option maxRecDepth 20000 in
theorem ggX10_rounds_X10_isRoundStep : GoodIn wsX10_rounds wsX10_isRoundStep := goodIn_r _ [7] (by decide +kernel) (by decide +kernel)
set_option maxRecDepth 20000 in
theorem gX10_rounds_X10_isRoundStep : GoodIn wsX10_rounds (va_wsS RX10 94 yX10_isRoundStep wsX10_isRoundStep) := goodIn_app (goodIn_of _ (by decide +kernel)) ggX10_rounds_X10_isRoundStep
set_option maxRecDepth 20000 in
theorem ggX10_rounds_X10_within : GoodIn wsX10_rounds wsX10_within := goodIn_r _ [10] (by decide +kernel) (by decide +kernel)
set_option maxRecDepth 20000 in
theorem gX10_rounds_X10_within : GoodIn wsX10_rounds (va_wsS RX10 38 yX10_within wsX10_within) := goodIn_app (goodIn_of _ (by decide +kernel)) ggX10_rounds_X10_within
set_option maxRecDepth 20000 in
theorem ggX10_rounds_X10_waysBy : GoodIn wsX10_rounds wsX10_waysBy := goodIn_r _ [14, 15, 16, 17, 18, 19, 20, 21, 22, 23, 4, 5, 6, 7, 24, 25, 26, 27, 28, 29, 30, 31, 32, 33, 34, 35, 36, 37, 38, 39, 40, 41, 42, 43, 44, 45, 46, 47, 48, 49, 50, 51, 52, 53, 54, 55, 56, 57, 58, 59, 60, 61, 62, 63, 64, 65, 66, 67, 68, 241, 242, 243, 244, 245, 246, 247, 248, 249, 234, 235, 236, 237, 238, 239, 240, 250, 251, 252, 253, 254, 255, 256, 257, 258, 259, 260, 261, 262, 263] (by decide +kernel) (by decide +kernel)
set_option maxRecDepth 20000 in
theorem gX10_rounds_X10_waysBy : GoodIn wsX10_rounds (wsV RX10 97 RX10 yX10_waysBy wsX10_waysBy) := goodIn_app (goodIn_of _ (by decide +kernel)) ggX10_rounds_X10_waysBy
set_option maxRecDepth 20000 in
theorem ggX10_rounds_X9_reach : GoodIn wsX10_rounds wsX9_reach := goodIn_r _ [72, 64, 65, 73, 63, 68, 67, 62, 74, 75, 76, 77, 78, 79, 80, 23, 81, 50, 48, 82, 83, 84, 85, 57, 86, 55, 56, 87, 88, 52, 53, 89, 90, 91, 49, 92, 93, 94, 31, 95, 43, 96, 97, 98, 99, 39, 100, 101, 102, 103, 104, 105, 106, 107, 108, 37, 109, 110, 111, 112, 113, 114, 115, 116, 117, 118, 119, 120, 121, 122, 123, 124, 125, 126, 127, 128, 129, 130, 131, 132, 133, 134, 135, 136, 137, 138, 139, 140, 141, 142, 143, 144, 145, 146, 147, 148, 41, 42, 149, 150, 151, 152, 153, 154, 155, 51, 54, 156, 157, 158, 159, 160, 161, 162, 163, 164, 165, 166, 167, 168, 169, 170, 171, 172, 173, 38, 174, 175, 176, 177, 178, 179, 180, 181, 182, 183, 184, 185, 40, 186, 187, 188, 189, 190, 191, 192, 193, 18, 194, 66, 195, 196, 197, 198, 199, 200, 201, 202, 203, 204, 205, 206, 207, 208, 209, 210, 211, 212, 213, 214, 215, 216, 217, 218, 219, 220, 221, 222, 223, 224, 225, 226, 227, 234, 235, 236, 237, 238, 239, 240, 264, 265, 266, 267, 268, 250, 251, 252, 253, 254, 255, 256, 257, 258, 259, 260, 261, 262, 263, 269, 270, 271, 272] (by decide +kernel) (by decide +kernel)
set_option maxRecDepth 20000 in
theorem gX10_rounds_X9_reach : GoodIn wsX10_rounds (wsV RX10 101 RX9 yX9_reach wsX9_reach) := goodIn_app (goodIn_of _ (by decide +kernel)) ggX10_rounds_X9_reach
set_option maxRecDepth 20000 in
theorem ggX10_rounds_X0_leastAt : GoodIn wsX10_rounds wsX0_leastAt := goodIn_r _ [231, 50, 54, 53, 51, 232, 6, 233, 250, 251, 252, 253, 254, 255, 256, 257, 258, 259] (by decide +kernel) (by decide +kernel)
set_option maxRecDepth 20000 in
theorem gX10_rounds_X0_leastAt : GoodIn wsX10_rounds (wsV RX10 110 RX0 yX0_leastAt wsX0_leastAt) := goodIn_app (goodIn_of _ (by decide +kernel)) ggX10_rounds_X0_leastAt
theorem dX10_rounds_0 : decode cX10_rounds 0 = .ok (.iload_n 1, 1) := by decide +kernel
theorem dX10_rounds_1 : decode cX10_rounds 1 = .ok (.invokestatic 94, 3) := by decide +kernel
theorem dX10_rounds_4 : decode cX10_rounds 4 = .ok (.ifCond .eq 19, 3) := by decide +kernel
theorem dX10_rounds_7 : decode cX10_rounds 7 = .ok (.iload_n 2, 1) := by decide +kernel
theorem dX10_rounds_8 : decode cX10_rounds 8 = .ok (.iconst 0, 1) := by decide +kernel
theorem dX10_rounds_9 : decode cX10_rounds 9 = .ok (.sipush 20000, 3) := by decide +kernel
theorem dX10_rounds_12 : decode cX10_rounds 12 = .ok (.invokestatic 38, 3) := by decide +kernel
theorem dX10_rounds_15 : decode cX10_rounds 15 = .ok (.ifCond .eq 8, 3) := by decide +kernel
theorem dX10_rounds_18 : decode cX10_rounds 18 = .ok (.iload_n 3, 1) := by decide +kernel
theorem dX10_rounds_19 : decode cX10_rounds 19 = .ok (.iconst (-1), 1) := by decide +kernel
theorem dX10_rounds_20 : decode cX10_rounds 20 = .ok (.if_icmp .ge 7, 3) := by decide +kernel
theorem dX10_rounds_23 : decode cX10_rounds 23 = .ok (.ldc2_w 74, 3) := by decide +kernel
theorem dX10_rounds_26 : decode cX10_rounds 26 = .ok (.lreturn, 1) := by decide +kernel
theorem dX10_rounds_27 : decode cX10_rounds 27 = .ok (.aload_n 0, 1) := by decide +kernel
theorem dX10_rounds_28 : decode cX10_rounds 28 = .ok (.iload_n 1, 1) := by decide +kernel
theorem dX10_rounds_29 : decode cX10_rounds 29 = .ok (.invokevirtual 97, 3) := by decide +kernel
theorem dX10_rounds_32 : decode cX10_rounds 32 = .ok (.astore 4, 2) := by decide +kernel
theorem dX10_rounds_34 : decode cX10_rounds 34 = .ok (.aload 4, 2) := by decide +kernel
theorem dX10_rounds_36 : decode cX10_rounds 36 = .ok (.iload_n 2, 1) := by decide +kernel
theorem dX10_rounds_37 : decode cX10_rounds 37 = .ok (.invokevirtual 101, 3) := by decide +kernel
theorem dX10_rounds_40 : decode cX10_rounds 40 = .ok (.aload 4, 2) := by decide +kernel
theorem dX10_rounds_42 : decode cX10_rounds 42 = .ok (.getfield 104, 3) := by decide +kernel
theorem dX10_rounds_45 : decode cX10_rounds 45 = .ok (.ifnonnull 9, 3) := by decide +kernel
theorem dX10_rounds_48 : decode cX10_rounds 48 = .ok (.ldc2_w 108, 3) := by decide +kernel
theorem dX10_rounds_51 : decode cX10_rounds 51 = .ok (.goto 13, 3) := by decide +kernel
theorem dX10_rounds_54 : decode cX10_rounds 54 = .ok (.aload 4, 2) := by decide +kernel
theorem dX10_rounds_56 : decode cX10_rounds 56 = .ok (.getfield 104, 3) := by decide +kernel
theorem dX10_rounds_59 : decode cX10_rounds 59 = .ok (.iload_n 2, 1) := by decide +kernel
theorem dX10_rounds_60 : decode cX10_rounds 60 = .ok (.iload_n 3, 1) := by decide +kernel
theorem dX10_rounds_61 : decode cX10_rounds 61 = .ok (.invokevirtual 110, 3) := by decide +kernel
theorem dX10_rounds_64 : decode cX10_rounds 64 = .ok (.lreturn, 1) := by decide +kernel
set_option maxRecDepth 20000 in
theorem ggX10_first_X10_isStep : GoodIn wsX10_first wsX10_isStep := goodIn_r _ [4] (by decide +kernel) (by decide +kernel)
set_option maxRecDepth 20000 in
theorem gX10_first_X10_isStep : GoodIn wsX10_first (va_wsS RX10 70 yX10_isStep wsX10_isStep) := goodIn_app (goodIn_of _ (by decide +kernel)) ggX10_first_X10_isStep
set_option maxRecDepth 20000 in
theorem ggX10_first_X10_within : GoodIn wsX10_first wsX10_within := goodIn_r _ [7] (by decide +kernel) (by decide +kernel)
set_option maxRecDepth 20000 in
theorem gX10_first_X10_within : GoodIn wsX10_first (va_wsS RX10 38 yX10_within wsX10_within) := goodIn_app (goodIn_of _ (by decide +kernel)) ggX10_first_X10_within
set_option maxRecDepth 20000 in
theorem ggX10_first_X10_waysBy : GoodIn wsX10_first wsX10_waysBy := goodIn_r _ [11, 12, 13, 14, 15, 16, 17, 18, 19, 20, 21, 22, 3, 23, 24, 25, 26, 27, 28, 29, 30, 31, 32, 33, 34, 35, 36, 37, 38, 39, 40, 41, 42, 43, 44, 45, 46, 47, 48, 49, 50, 51, 52, 53, 54, 55, 56, 57, 58, 59, 60, 61, 62, 63, 64, 65, 66, 67, 68, 232, 233, 234, 235, 236, 237, 238, 239, 240, 241, 242, 243, 244, 245, 246, 247, 248, 249, 250, 251, 252, 253, 254, 255, 256, 257, 258, 259, 260, 261] (by decide +kernel) (by decide +kernel)
set_option maxRecDepth 20000 in
theorem gX10_first_X10_waysBy : GoodIn wsX10_first (wsV RX10 97 RX10 yX10_waysBy wsX10_waysBy) := goodIn_app (goodIn_of _ (by decide +kernel)) ggX10_first_X10_waysBy
set_option maxRecDepth 20000 in
theorem ggX10_first_X9_reach : GoodIn wsX10_first wsX9_reach := goodIn_r _ [72, 64, 65, 73, 63, 68, 67, 62, 74, 75, 76, 77, 78, 79, 80, 20, 81, 50, 48, 82, 83, 84, 85, 57, 86, 55, 56, 87, 88, 52, 53, 89, 90, 91, 49, 92, 93, 94, 31, 95, 43, 96, 97, 98, 99, 39, 100, 101, 102, 103, 104, 105, 106, 107, 108, 37, 109, 110, 111, 112, 113, 114, 115, 116, 117, 118, 119, 120, 121, 122, 123, 124, 125, 126, 127, 128, 129, 130, 131, 132, 133, 134, 135, 136, 137, 138, 139, 140, 141, 142, 143, 144, 145, 146, 147, 148, 41, 42, 149, 150, 151, 152, 153, 154, 155, 51, 54, 156, 157, 158, 159, 160, 161, 162, 163, 164, 165, 166, 167, 168, 169, 170, 171, 172, 173, 38, 174, 175, 176, 177, 178, 179, 180, 181, 182, 183, 184, 185, 40, 186, 187, 188, 189, 190, 191, 192, 193, 15, 194, 66, 195, 196, 197, 198, 199, 200, 201, 202, 203, 204, 205, 206, 207, 208, 209, 210, 211, 212, 213, 214, 215, 216, 217, 218, 219, 220, 221, 222, 223, 224, 225, 226, 227, 241, 242, 243, 244, 245, 246, 247, 262, 263, 264, 265, 266, 248, 249, 250, 251, 252, 253, 254, 255, 256, 257, 258, 259, 260, 261, 267, 268, 269, 270] (by decide +kernel) (by decide +kernel)
set_option maxRecDepth 20000 in
theorem gX10_first_X9_reach : GoodIn wsX10_first (wsV RX10 101 RX9 yX9_reach wsX9_reach) := goodIn_app (goodIn_of _ (by decide +kernel)) ggX10_first_X9_reach
set_option maxRecDepth 20000 in
theorem ggX10_first_X9_leastWithTail : GoodIn wsX10_first wsX9_leastWithTail := goodIn_r _ [231, 62, 241, 242, 243, 244, 245, 246, 247] (by decide +kernel) (by decide +kernel)
set_option maxRecDepth 20000 in
theorem gX10_first_X9_leastWithTail : GoodIn wsX10_first (wsV RX10 116 RX9 yX9_leastWithTail wsX9_leastWithTail) := goodIn_app (goodIn_of _ (by decide +kernel)) ggX10_first_X9_leastWithTail
theorem dX10_first_0 : decode cX10_first 0 = .ok (.iload_n 1, 1) := by decide +kernel
theorem dX10_first_1 : decode cX10_first 1 = .ok (.invokestatic 70, 3) := by decide +kernel
theorem dX10_first_4 : decode cX10_first 4 = .ok (.ifCond .eq 25, 3) := by decide +kernel
theorem dX10_first_7 : decode cX10_first 7 = .ok (.iload_n 2, 1) := by decide +kernel
theorem dX10_first_8 : decode cX10_first 8 = .ok (.iconst 0, 1) := by decide +kernel
theorem dX10_first_9 : decode cX10_first 9 = .ok (.sipush 300, 3) := by decide +kernel
theorem dX10_first_12 : decode cX10_first 12 = .ok (.invokestatic 38, 3) := by decide +kernel
theorem dX10_first_15 : decode cX10_first 15 = .ok (.ifCond .eq 14, 3) := by decide +kernel
theorem dX10_first_18 : decode cX10_first 18 = .ok (.iload_n 3, 1) := by decide +kernel
theorem dX10_first_19 : decode cX10_first 19 = .ok (.iconst 0, 1) := by decide +kernel
theorem dX10_first_20 : decode cX10_first 20 = .ok (.sipush 3000, 3) := by decide +kernel
theorem dX10_first_23 : decode cX10_first 23 = .ok (.invokestatic 38, 3) := by decide +kernel
theorem dX10_first_26 : decode cX10_first 26 = .ok (.ifCond .ne 5, 3) := by decide +kernel
theorem dX10_first_29 : decode cX10_first 29 = .ok (.iconst (-1), 1) := by decide +kernel
theorem dX10_first_30 : decode cX10_first 30 = .ok (.ireturn, 1) := by decide +kernel
theorem dX10_first_31 : decode cX10_first 31 = .ok (.aload_n 0, 1) := by decide +kernel
theorem dX10_first_32 : decode cX10_first 32 = .ok (.iload_n 1, 1) := by decide +kernel
theorem dX10_first_33 : decode cX10_first 33 = .ok (.invokevirtual 97, 3) := by decide +kernel
theorem dX10_first_36 : decode cX10_first 36 = .ok (.astore 4, 2) := by decide +kernel
theorem dX10_first_38 : decode cX10_first 38 = .ok (.aload 4, 2) := by decide +kernel
theorem dX10_first_40 : decode cX10_first 40 = .ok (.iload_n 3, 1) := by decide +kernel
theorem dX10_first_41 : decode cX10_first 41 = .ok (.invokevirtual 101, 3) := by decide +kernel
theorem dX10_first_44 : decode cX10_first 44 = .ok (.aload 4, 2) := by decide +kernel
theorem dX10_first_46 : decode cX10_first 46 = .ok (.iload_n 2, 1) := by decide +kernel
theorem dX10_first_47 : decode cX10_first 47 = .ok (.iload_n 3, 1) := by decide +kernel
theorem dX10_first_48 : decode cX10_first 48 = .ok (.invokevirtual 116, 3) := by decide +kernel
theorem dX10_first_51 : decode cX10_first 51 = .ok (.ireturn, 1) := by decide +kernel
set_option maxRecDepth 20000 in
theorem ggX10_tallest_X10_isStep : GoodIn wsX10_tallest wsX10_isStep := goodIn_r _ [5] (by decide +kernel) (by decide +kernel)
set_option maxRecDepth 20000 in
theorem gX10_tallest_X10_isStep : GoodIn wsX10_tallest (va_wsS RX10 70 yX10_isStep wsX10_isStep) := goodIn_app (goodIn_of _ (by decide +kernel)) ggX10_tallest_X10_isStep
set_option maxRecDepth 20000 in
theorem ggX10_tallest_X10_within : GoodIn wsX10_tallest wsX10_within := goodIn_r _ [8] (by decide +kernel) (by decide +kernel)
set_option maxRecDepth 20000 in
theorem gX10_tallest_X10_within : GoodIn wsX10_tallest (va_wsS RX10 38 yX10_within wsX10_within) := goodIn_app (goodIn_of _ (by decide +kernel)) ggX10_tallest_X10_within
set_option maxRecDepth 20000 in
theorem ggX10_tallest_X10_waysBy : GoodIn wsX10_tallest wsX10_waysBy := goodIn_r _ [12, 13, 14, 15, 16, 17, 18, 19, 20, 21, 22, 23, 4, 24, 25, 26, 27, 28, 29, 30, 31, 32, 33, 34, 35, 36, 37, 38, 39, 40, 41, 42, 43, 44, 45, 46, 47, 48, 49, 50, 51, 52, 53, 54, 55, 56, 57, 58, 59, 60, 61, 62, 63, 64, 65, 66, 67, 68, 69, 240, 241, 242, 243, 244, 245, 246, 247, 248, 233, 234, 235, 236, 237, 238, 239, 249, 250, 251, 252, 253, 254, 255, 256, 257, 258, 259, 260, 261, 262] (by decide +kernel) (by decide +kernel)
set_option maxRecDepth 20000 in
theorem gX10_tallest_X10_waysBy : GoodIn wsX10_tallest (wsV RX10 97 RX10 yX10_waysBy wsX10_waysBy) := goodIn_app (goodIn_of _ (by decide +kernel)) ggX10_tallest_X10_waysBy
set_option maxRecDepth 20000 in
theorem ggX10_tallest_X9_reach : GoodIn wsX10_tallest wsX9_reach := goodIn_r _ [73, 65, 66, 74, 64, 69, 68, 63, 75, 76, 77, 78, 79, 80, 81, 21, 82, 51, 49, 83, 84, 85, 86, 58, 87, 56, 57, 88, 89, 53, 54, 90, 91, 92, 50, 93, 94, 95, 32, 96, 44, 97, 98, 99, 100, 40, 101, 102, 103, 104, 105, 106, 107, 108, 109, 38, 110, 111, 112, 113, 114, 115, 116, 117, 118, 119, 120, 121, 122, 123, 124, 125, 126, 127, 128, 129, 130, 131, 132, 133, 134, 135, 136, 137, 138, 139, 140, 141, 142, 143, 144, 145, 146, 147, 148, 149, 42, 43, 150, 151, 152, 153, 154, 155, 156, 52, 55, 157, 158, 159, 160, 161, 162, 163, 164, 165, 166, 167, 168, 169, 170, 171, 172, 173, 174, 39, 175, 176, 177, 178, 179, 180, 181, 182, 183, 184, 185, 186, 41, 187, 188, 189, 190, 191, 192, 193, 194, 16, 195, 67, 196, 197, 198, 199, 200, 201, 202, 203, 204, 205, 206, 207, 208, 209, 210, 211, 212, 213, 214, 215, 216, 217, 218, 219, 220, 221, 222, 223, 224, 225, 226, 227, 228, 233, 234, 235, 236, 237, 238, 239, 263, 264, 265, 266, 267, 249, 250, 251, 252, 253, 254, 255, 256, 257, 258, 259, 260, 261, 262, 268, 269, 270, 271] (by decide +kernel) (by decide +kernel)
set_option maxRecDepth 20000 in
theorem gX10_tallest_X9_reach : GoodIn wsX10_tallest (wsV RX10 101 RX9 yX9_reach wsX9_reach) := goodIn_app (goodIn_of _ (by decide +kernel)) ggX10_tallest_X9_reach
set_option maxRecDepth 20000 in
theorem ggX10_tallest_X9_withLongestTail : GoodIn wsX10_tallest wsX9_withLongestTail := goodIn_r _ [232, 63, 233, 234, 235, 236, 237, 238, 239] (by decide +kernel) (by decide +kernel)
set_option maxRecDepth 20000 in
theorem gX10_tallest_X9_withLongestTail : GoodIn wsX10_tallest (wsV RX10 120 RX9 yX9_withLongestTail wsX9_withLongestTail) := goodIn_app (goodIn_of _ (by decide +kernel)) ggX10_tallest_X9_withLongestTail
theorem dX10_tallest_0 : decode cX10_tallest 0 = .ok (.iload_n 1, 1) := by decide +kernel
theorem dX10_tallest_1 : decode cX10_tallest 1 = .ok (.invokestatic 70, 3) := by decide +kernel
theorem dX10_tallest_4 : decode cX10_tallest 4 = .ok (.ifCond .eq 23, 3) := by decide +kernel
theorem dX10_tallest_7 : decode cX10_tallest 7 = .ok (.iload_n 2, 1) := by decide +kernel
theorem dX10_tallest_8 : decode cX10_tallest 8 = .ok (.iconst 0, 1) := by decide +kernel
theorem dX10_tallest_9 : decode cX10_tallest 9 = .ok (.sipush 3000, 3) := by decide +kernel
theorem dX10_tallest_12 : decode cX10_tallest 12 = .ok (.invokestatic 38, 3) := by decide +kernel
theorem dX10_tallest_15 : decode cX10_tallest 15 = .ok (.ifCond .eq 12, 3) := by decide +kernel
theorem dX10_tallest_18 : decode cX10_tallest 18 = .ok (.iload_n 3, 1) := by decide +kernel
theorem dX10_tallest_19 : decode cX10_tallest 19 = .ok (.iconst 0, 1) := by decide +kernel
theorem dX10_tallest_20 : decode cX10_tallest 20 = .ok (.iconst 1, 1) := by decide +kernel
theorem dX10_tallest_21 : decode cX10_tallest 21 = .ok (.invokestatic 38, 3) := by decide +kernel
theorem dX10_tallest_24 : decode cX10_tallest 24 = .ok (.ifCond .ne 5, 3) := by decide +kernel
theorem dX10_tallest_27 : decode cX10_tallest 27 = .ok (.iconst (-1), 1) := by decide +kernel
theorem dX10_tallest_28 : decode cX10_tallest 28 = .ok (.ireturn, 1) := by decide +kernel
theorem dX10_tallest_29 : decode cX10_tallest 29 = .ok (.aload_n 0, 1) := by decide +kernel
theorem dX10_tallest_30 : decode cX10_tallest 30 = .ok (.iload_n 1, 1) := by decide +kernel
theorem dX10_tallest_31 : decode cX10_tallest 31 = .ok (.invokevirtual 97, 3) := by decide +kernel
theorem dX10_tallest_34 : decode cX10_tallest 34 = .ok (.astore 4, 2) := by decide +kernel
theorem dX10_tallest_36 : decode cX10_tallest 36 = .ok (.aload 4, 2) := by decide +kernel
theorem dX10_tallest_38 : decode cX10_tallest 38 = .ok (.iload_n 2, 1) := by decide +kernel
theorem dX10_tallest_39 : decode cX10_tallest 39 = .ok (.invokevirtual 101, 3) := by decide +kernel
theorem dX10_tallest_42 : decode cX10_tallest 42 = .ok (.aload 4, 2) := by decide +kernel
theorem dX10_tallest_44 : decode cX10_tallest 44 = .ok (.iload_n 2, 1) := by decide +kernel
theorem dX10_tallest_45 : decode cX10_tallest 45 = .ok (.invokevirtual 120, 3) := by decide +kernel
theorem dX10_tallest_48 : decode cX10_tallest 48 = .ok (.istore 5, 2) := by decide +kernel
theorem dX10_tallest_50 : decode cX10_tallest 50 = .ok (.iload 5, 2) := by decide +kernel
theorem dX10_tallest_52 : decode cX10_tallest 52 = .ok (.ifCond .ge 6, 3) := by decide +kernel
theorem dX10_tallest_55 : decode cX10_tallest 55 = .ok (.bipush (-4), 2) := by decide +kernel
theorem dX10_tallest_57 : decode cX10_tallest 57 = .ok (.ireturn, 1) := by decide +kernel
theorem dX10_tallest_58 : decode cX10_tallest 58 = .ok (.iload_n 3, 1) := by decide +kernel
theorem dX10_tallest_59 : decode cX10_tallest 59 = .ok (.ifCond .ne 8, 3) := by decide +kernel
theorem dX10_tallest_62 : decode cX10_tallest 62 = .ok (.iload 5, 2) := by decide +kernel
theorem dX10_tallest_64 : decode cX10_tallest 64 = .ok (.goto 11, 3) := by decide +kernel
theorem dX10_tallest_67 : decode cX10_tallest 67 = .ok (.aload 4, 2) := by decide +kernel
theorem dX10_tallest_69 : decode cX10_tallest 69 = .ok (.getfield 124, 3) := by decide +kernel
theorem dX10_tallest_72 : decode cX10_tallest 72 = .ok (.iload 5, 2) := by decide +kernel
theorem dX10_tallest_74 : decode cX10_tallest 74 = .ok (.iaload, 1) := by decide +kernel
theorem dX10_tallest_75 : decode cX10_tallest 75 = .ok (.ireturn, 1) := by decide +kernel
set_option maxRecDepth 20000 in
theorem ggX10_lost_X10_isStep : GoodIn wsX10_lost wsX10_isStep := goodIn_r _ [4] (by decide +kernel) (by decide +kernel)
set_option maxRecDepth 20000 in
theorem gX10_lost_X10_isStep : GoodIn wsX10_lost (va_wsS RX10 70 yX10_isStep wsX10_isStep) := goodIn_app (goodIn_of _ (by decide +kernel)) ggX10_lost_X10_isStep
set_option maxRecDepth 20000 in
theorem ggX10_lost_X10_within : GoodIn wsX10_lost wsX10_within := goodIn_r _ [7] (by decide +kernel) (by decide +kernel)
set_option maxRecDepth 20000 in
theorem gX10_lost_X10_within : GoodIn wsX10_lost (va_wsS RX10 38 yX10_within wsX10_within) := goodIn_app (goodIn_of _ (by decide +kernel)) ggX10_lost_X10_within
set_option maxRecDepth 20000 in
theorem ggX10_lost_X10_waysBy : GoodIn wsX10_lost wsX10_waysBy := goodIn_r _ [11, 12, 13, 14, 15, 16, 17, 18, 19, 20, 21, 22, 3, 23, 24, 25, 26, 27, 28, 29, 30, 31, 32, 33, 34, 35, 36, 37, 38, 39, 40, 41, 42, 43, 44, 45, 46, 47, 48, 49, 50, 51, 52, 53, 54, 55, 56, 57, 58, 59, 60, 61, 62, 63, 64, 65, 66, 67, 68, 234, 235, 236, 237, 238, 239, 240, 241, 242, 243, 244, 245, 246, 247, 248, 249, 250, 251, 252, 253, 254, 255, 256, 257, 258, 259, 260, 261, 262, 263] (by decide +kernel) (by decide +kernel)
set_option maxRecDepth 20000 in
theorem gX10_lost_X10_waysBy : GoodIn wsX10_lost (wsV RX10 97 RX10 yX10_waysBy wsX10_waysBy) := goodIn_app (goodIn_of _ (by decide +kernel)) ggX10_lost_X10_waysBy
set_option maxRecDepth 20000 in
theorem ggX10_lost_X9_reach : GoodIn wsX10_lost wsX9_reach := goodIn_r _ [72, 64, 65, 73, 63, 68, 67, 62, 74, 75, 76, 77, 78, 79, 80, 20, 81, 50, 48, 82, 83, 84, 85, 57, 86, 55, 56, 87, 88, 52, 53, 89, 90, 91, 49, 92, 93, 94, 31, 95, 43, 96, 97, 98, 99, 39, 100, 101, 102, 103, 104, 105, 106, 107, 108, 37, 109, 110, 111, 112, 113, 114, 115, 116, 117, 118, 119, 120, 121, 122, 123, 124, 125, 126, 127, 128, 129, 130, 131, 132, 133, 134, 135, 136, 137, 138, 139, 140, 141, 142, 143, 144, 145, 146, 147, 148, 41, 42, 149, 150, 151, 152, 153, 154, 155, 51, 54, 156, 157, 158, 159, 160, 161, 162, 163, 164, 165, 166, 167, 168, 169, 170, 171, 172, 173, 38, 174, 175, 176, 177, 178, 179, 180, 181, 182, 183, 184, 185, 40, 186, 187, 188, 189, 190, 191, 192, 193, 15, 194, 66, 195, 196, 197, 198, 199, 200, 201, 202, 203, 204, 205, 206, 207, 208, 209, 210, 211, 212, 213, 214, 215, 216, 217, 218, 219, 220, 221, 222, 223, 224, 225, 226, 227, 243, 244, 245, 246, 247, 248, 249, 264, 265, 266, 267, 268, 250, 251, 252, 253, 254, 255, 256, 257, 258, 259, 260, 261, 262, 263, 269, 270, 271, 272] (by decide +kernel) (by decide +kernel)
set_option maxRecDepth 20000 in
theorem gX10_lost_X9_reach : GoodIn wsX10_lost (wsV RX10 101 RX9 yX9_reach wsX9_reach) := goodIn_app (goodIn_of _ (by decide +kernel)) ggX10_lost_X9_reach
set_option maxRecDepth 20000 in
theorem ggX10_lost_X9_lostAt : GoodIn wsX10_lost wsX9_lostAt := goodIn_r _ [231, 62, 232, 3, 233, 243, 244, 245, 246, 247, 248, 249] (by decide +kernel) (by decide +kernel)
set_option maxRecDepth 20000 in
theorem gX10_lost_X9_lostAt : GoodIn wsX10_lost (wsV RX10 127 RX9 yX9_lostAt wsX9_lostAt) := goodIn_app (goodIn_of _ (by decide +kernel)) ggX10_lost_X9_lostAt
theorem dX10_lost_0 : decode cX10_lost 0 = .ok (.iload_n 1, 1) := by decide +kernel
theorem dX10_lost_1 : decode cX10_lost 1 = .ok (.invokestatic 70, 3) := by decide +kernel
theorem dX10_lost_4 : decode cX10_lost 4 = .ok (.ifCond .eq 19, 3) := by decide +kernel
theorem dX10_lost_7 : decode cX10_lost 7 = .ok (.iload_n 2, 1) := by decide +kernel
theorem dX10_lost_8 : decode cX10_lost 8 = .ok (.iconst 0, 1) := by decide +kernel
theorem dX10_lost_9 : decode cX10_lost 9 = .ok (.sipush 3000, 3) := by decide +kernel
theorem dX10_lost_12 : decode cX10_lost 12 = .ok (.invokestatic 38, 3) := by decide +kernel
theorem dX10_lost_15 : decode cX10_lost 15 = .ok (.ifCond .eq 8, 3) := by decide +kernel
theorem dX10_lost_18 : decode cX10_lost 18 = .ok (.iload_n 3, 1) := by decide +kernel
theorem dX10_lost_19 : decode cX10_lost 19 = .ok (.iconst (-1), 1) := by decide +kernel
theorem dX10_lost_20 : decode cX10_lost 20 = .ok (.if_icmp .ge 5, 3) := by decide +kernel
theorem dX10_lost_23 : decode cX10_lost 23 = .ok (.iconst (-1), 1) := by decide +kernel
theorem dX10_lost_24 : decode cX10_lost 24 = .ok (.ireturn, 1) := by decide +kernel
theorem dX10_lost_25 : decode cX10_lost 25 = .ok (.aload_n 0, 1) := by decide +kernel
theorem dX10_lost_26 : decode cX10_lost 26 = .ok (.iload_n 1, 1) := by decide +kernel
theorem dX10_lost_27 : decode cX10_lost 27 = .ok (.invokevirtual 97, 3) := by decide +kernel
theorem dX10_lost_30 : decode cX10_lost 30 = .ok (.astore 4, 2) := by decide +kernel
theorem dX10_lost_32 : decode cX10_lost 32 = .ok (.aload 4, 2) := by decide +kernel
theorem dX10_lost_34 : decode cX10_lost 34 = .ok (.iload_n 2, 1) := by decide +kernel
theorem dX10_lost_35 : decode cX10_lost 35 = .ok (.invokevirtual 101, 3) := by decide +kernel
theorem dX10_lost_38 : decode cX10_lost 38 = .ok (.aload 4, 2) := by decide +kernel
theorem dX10_lost_40 : decode cX10_lost 40 = .ok (.iload_n 2, 1) := by decide +kernel
theorem dX10_lost_41 : decode cX10_lost 41 = .ok (.iload_n 3, 1) := by decide +kernel
theorem dX10_lost_42 : decode cX10_lost 42 = .ok (.invokevirtual 127, 3) := by decide +kernel
theorem dX10_lost_45 : decode cX10_lost 45 = .ok (.ireturn, 1) := by decide +kernel
set_option maxRecDepth 20000 in
theorem ggX10_come_X10_isRoundStep : GoodIn wsX10_come wsX10_isRoundStep := goodIn_r _ [8] (by decide +kernel) (by decide +kernel)
set_option maxRecDepth 20000 in
theorem gX10_come_X10_isRoundStep : GoodIn wsX10_come (va_wsS RX10 94 yX10_isRoundStep wsX10_isRoundStep) := goodIn_app (goodIn_of _ (by decide +kernel)) ggX10_come_X10_isRoundStep
set_option maxRecDepth 20000 in
theorem ggX10_come_X10_within : GoodIn wsX10_come wsX10_within := goodIn_r _ [11] (by decide +kernel) (by decide +kernel)
set_option maxRecDepth 20000 in
theorem gX10_come_X10_within : GoodIn wsX10_come (va_wsS RX10 38 yX10_within wsX10_within) := goodIn_app (goodIn_of _ (by decide +kernel)) ggX10_come_X10_within
set_option maxRecDepth 20000 in
theorem ggX10_come_X10_isNumber : GoodIn wsX10_come wsX10_isNumber := goodIn_r _ [14, 15] (by decide +kernel) (by decide +kernel)
set_option maxRecDepth 20000 in
theorem gX10_come_X10_isNumber : GoodIn wsX10_come (va_wsS RX10 59 yX10_isNumber wsX10_isNumber) := goodIn_app (goodIn_of _ (by decide +kernel)) ggX10_come_X10_isNumber
set_option maxRecDepth 20000 in
theorem ggX10_come_X6_follow : GoodIn wsX10_come wsX6_follow := goodIn_r _ [20, 21, 22, 23, 24, 25, 26, 27, 28, 29, 30, 31, 32, 33, 19, 34, 35, 36, 37, 38, 39, 40, 41, 42, 43, 44, 45, 46, 47, 48, 49, 50, 51, 52, 53, 54, 55, 56, 57, 58, 59, 60, 61, 62, 63, 64, 65, 249, 250, 251, 252, 260, 261, 262, 263, 264] (by decide +kernel) (by decide +kernel)
set_option maxRecDepth 20000 in
theorem gX10_come_X6_follow : GoodIn wsX10_come (wsV RX10 80 RX6 yX6_follow wsX6_follow) := goodIn_app (goodIn_of _ (by decide +kernel)) ggX10_come_X6_follow
set_option maxRecDepth 20000 in
theorem ggX10_come_X6_isRoundOfLeast : GoodIn wsX10_come wsX6_isRoundOfLeast := goodIn_r _ [69, 26, 25, 21, 23, 249, 250, 251, 252] (by decide +kernel) (by decide +kernel)
set_option maxRecDepth 20000 in
theorem gX10_come_X6_isRoundOfLeast : GoodIn wsX10_come (wsV RX10 130 RX6 yX6_isRoundOfLeast wsX6_isRoundOfLeast) := goodIn_app (goodIn_of _ (by decide +kernel)) ggX10_come_X6_isRoundOfLeast
set_option maxRecDepth 20000 in
theorem ggX10_come_X10_waysBy : GoodIn wsX10_come wsX10_waysBy := goodIn_r _ [73, 74, 75, 76, 77, 2, 1, 78, 79, 80, 5, 6, 7, 8, 81, 82, 83, 84, 85, 86, 87, 88, 89, 90, 91, 92, 93, 94, 95, 96, 97, 98, 99, 100, 101, 102, 103, 104, 105, 106, 107, 108, 109, 110, 111, 112, 113, 114, 115, 116, 117, 118, 119, 120, 121, 122, 123, 124, 125, 240, 241, 242, 243, 244, 245, 246, 247, 248, 253, 254, 255, 256, 257, 258, 259, 265, 266, 267, 268, 269, 270, 271, 272, 273, 274, 275, 276, 277, 278] (by decide +kernel) (by decide +kernel)
set_option maxRecDepth 20000 in
theorem gX10_come_X10_waysBy : GoodIn wsX10_come (wsV RX10 97 RX10 yX10_waysBy wsX10_waysBy) := goodIn_app (goodIn_of _ (by decide +kernel)) ggX10_come_X10_waysBy
set_option maxRecDepth 20000 in
theorem ggX10_come_X9_reach : GoodIn wsX10_come wsX9_reach := goodIn_r _ [129, 121, 122, 130, 120, 125, 124, 119, 131, 132, 29, 133, 134, 135, 136, 80, 137, 107, 105, 138, 139, 140, 141, 114, 142, 112, 113, 143, 144, 109, 110, 145, 146, 147, 106, 148, 149, 150, 88, 151, 100, 152, 153, 154, 155, 96, 156, 157, 158, 159, 160, 161, 162, 163, 164, 94, 165, 36, 37, 38, 39, 40, 41, 42, 43, 44, 45, 46, 47, 48, 49, 50, 51, 52, 53, 54, 55, 56, 57, 58, 59, 60, 61, 62, 63, 64, 65, 166, 167, 168, 169, 170, 171, 172, 173, 174, 98, 99, 175, 176, 177, 178, 179, 180, 181, 108, 111, 182, 183, 184, 185, 186, 187, 188, 189, 190, 191, 192, 193, 194, 195, 196, 197, 198, 199, 95, 200, 201, 202, 203, 204, 205, 206, 207, 208, 209, 210, 211, 97, 212, 213, 214, 215, 216, 217, 218, 219, 77, 220, 123, 221, 222, 223, 224, 225, 226, 227, 228, 229, 230, 231, 232, 233, 234, 235, 17, 18, 19, 20, 21, 22, 23, 24, 25, 26, 27, 28, 30, 31, 32, 33, 34, 35, 253, 254, 255, 256, 257, 258, 259, 260, 261, 262, 263, 264, 265, 266, 267, 268, 269, 270, 271, 272, 273, 274, 275, 276, 277, 278, 249, 250, 251, 252] (by decide +kernel) (by decide +kernel)
set_option maxRecDepth 20000 in
theorem gX10_come_X9_reach : GoodIn wsX10_come (wsV RX10 101 RX9 yX9_reach wsX9_reach) := goodIn_app (goodIn_of _ (by decide +kernel)) ggX10_come_X9_reach
set_option maxRecDepth 20000 in
theorem ggX10_come_X0_comersTo : GoodIn wsX10_come wsX0_comersTo := goodIn_r _ [239, 107, 108, 111, 106, 182, 183, 184, 80, 185, 265, 266, 267, 268, 269, 270, 271, 272, 273, 274] (by decide +kernel) (by decide +kernel)
set_option maxRecDepth 20000 in
theorem gX10_come_X0_comersTo : GoodIn wsX10_come (wsV RX10 134 RX0 yX0_comersTo wsX0_comersTo) := goodIn_app (goodIn_of _ (by decide +kernel)) ggX10_come_X0_comersTo
theorem dX10_come_0 : decode cX10_come 0 = .ok (.iload_n 1, 1) := by decide +kernel
theorem dX10_come_1 : decode cX10_come 1 = .ok (.invokestatic 94, 3) := by decide +kernel
theorem dX10_come_4 : decode cX10_come 4 = .ok (.ifCond .eq 31, 3) := by decide +kernel
theorem dX10_come_7 : decode cX10_come 7 = .ok (.iload_n 2, 1) := by decide +kernel
theorem dX10_come_8 : decode cX10_come 8 = .ok (.iconst 0, 1) := by decide +kernel
theorem dX10_come_9 : decode cX10_come 9 = .ok (.sipush 3000, 3) := by decide +kernel
theorem dX10_come_12 : decode cX10_come 12 = .ok (.invokestatic 38, 3) := by decide +kernel
theorem dX10_come_15 : decode cX10_come 15 = .ok (.ifCond .eq 20, 3) := by decide +kernel
theorem dX10_come_18 : decode cX10_come 18 = .ok (.lload_n 3, 1) := by decide +kernel
theorem dX10_come_19 : decode cX10_come 19 = .ok (.invokestatic 59, 3) := by decide +kernel
theorem dX10_come_22 : decode cX10_come 22 = .ok (.ifCond .eq 13, 3) := by decide +kernel
theorem dX10_come_25 : decode cX10_come 25 = .ok (.iload 5, 2) := by decide +kernel
theorem dX10_come_27 : decode cX10_come 27 = .ok (.iconst 0, 1) := by decide +kernel
theorem dX10_come_28 : decode cX10_come 28 = .ok (.iconst 1, 1) := by decide +kernel
theorem dX10_come_29 : decode cX10_come 29 = .ok (.invokestatic 38, 3) := by decide +kernel
theorem dX10_come_32 : decode cX10_come 32 = .ok (.ifCond .ne 5, 3) := by decide +kernel
theorem dX10_come_35 : decode cX10_come 35 = .ok (.iconst (-1), 1) := by decide +kernel
theorem dX10_come_36 : decode cX10_come 36 = .ok (.ireturn, 1) := by decide +kernel
theorem dX10_come_37 : decode cX10_come 37 = .ok (.aload_n 0, 1) := by decide +kernel
theorem dX10_come_38 : decode cX10_come 38 = .ok (.getfield 19, 3) := by decide +kernel
theorem dX10_come_41 : decode cX10_come 41 = .ok (.aload_n 0, 1) := by decide +kernel
theorem dX10_come_42 : decode cX10_come 42 = .ok (.getfield 10, 3) := by decide +kernel
theorem dX10_come_45 : decode cX10_come 45 = .ok (.iload_n 1, 1) := by decide +kernel
theorem dX10_come_46 : decode cX10_come 46 = .ok (.lload_n 3, 1) := by decide +kernel
theorem dX10_come_47 : decode cX10_come 47 = .ok (.invokevirtual 80, 3) := by decide +kernel
theorem dX10_come_50 : decode cX10_come 50 = .ok (.aload_n 0, 1) := by decide +kernel
theorem dX10_come_51 : decode cX10_come 51 = .ok (.getfield 19, 3) := by decide +kernel
theorem dX10_come_54 : decode cX10_come 54 = .ok (.invokevirtual 130, 3) := by decide +kernel
theorem dX10_come_57 : decode cX10_come 57 = .ok (.ifCond .ne 6, 3) := by decide +kernel
theorem dX10_come_60 : decode cX10_come 60 = .ok (.bipush (-4), 2) := by decide +kernel
theorem dX10_come_62 : decode cX10_come 62 = .ok (.ireturn, 1) := by decide +kernel
theorem dX10_come_63 : decode cX10_come 63 = .ok (.iload 5, 2) := by decide +kernel
theorem dX10_come_65 : decode cX10_come 65 = .ok (.iconst 1, 1) := by decide +kernel
theorem dX10_come_66 : decode cX10_come 66 = .ok (.if_icmp .ne 11, 3) := by decide +kernel
theorem dX10_come_69 : decode cX10_come 69 = .ok (.aload_n 0, 1) := by decide +kernel
theorem dX10_come_70 : decode cX10_come 70 = .ok (.getfield 19, 3) := by decide +kernel
theorem dX10_come_73 : decode cX10_come 73 = .ok (.getfield 87, 3) := by decide +kernel
theorem dX10_come_76 : decode cX10_come 76 = .ok (.ireturn, 1) := by decide +kernel
theorem dX10_come_77 : decode cX10_come 77 = .ok (.aload_n 0, 1) := by decide +kernel
theorem dX10_come_78 : decode cX10_come 78 = .ok (.iload_n 1, 1) := by decide +kernel
theorem dX10_come_79 : decode cX10_come 79 = .ok (.invokevirtual 97, 3) := by decide +kernel
theorem dX10_come_82 : decode cX10_come 82 = .ok (.astore 6, 2) := by decide +kernel
theorem dX10_come_84 : decode cX10_come 84 = .ok (.aload 6, 2) := by decide +kernel
theorem dX10_come_86 : decode cX10_come 86 = .ok (.iload_n 2, 1) := by decide +kernel
theorem dX10_come_87 : decode cX10_come 87 = .ok (.invokevirtual 101, 3) := by decide +kernel
theorem dX10_come_90 : decode cX10_come 90 = .ok (.aload 6, 2) := by decide +kernel
theorem dX10_come_92 : decode cX10_come 92 = .ok (.getfield 104, 3) := by decide +kernel
theorem dX10_come_95 : decode cX10_come 95 = .ok (.ifnonnull 8, 3) := by decide +kernel
theorem dX10_come_98 : decode cX10_come 98 = .ok (.bipush (-4), 2) := by decide +kernel
theorem dX10_come_100 : decode cX10_come 100 = .ok (.goto 13, 3) := by decide +kernel
theorem dX10_come_103 : decode cX10_come 103 = .ok (.aload 6, 2) := by decide +kernel
theorem dX10_come_105 : decode cX10_come 105 = .ok (.getfield 104, 3) := by decide +kernel
theorem dX10_come_108 : decode cX10_come 108 = .ok (.lload_n 3, 1) := by decide +kernel
theorem dX10_come_109 : decode cX10_come 109 = .ok (.iload_n 2, 1) := by decide +kernel
theorem dX10_come_110 : decode cX10_come 110 = .ok (.invokevirtual 134, 3) := by decide +kernel
theorem dX10_come_113 : decode cX10_come 113 = .ok (.ireturn, 1) := by decide +kernel
set_option maxRecDepth 20000 in
theorem ggX10_makes_X10_isStep : GoodIn wsX10_makes wsX10_isStep := goodIn_r _ [5] (by decide +kernel) (by decide +kernel)
set_option maxRecDepth 20000 in
theorem gX10_makes_X10_isStep : GoodIn wsX10_makes (va_wsS RX10 70 yX10_isStep wsX10_isStep) := goodIn_app (goodIn_of _ (by decide +kernel)) ggX10_makes_X10_isStep
set_option maxRecDepth 20000 in
theorem ggX10_makes_X10_isNumber : GoodIn wsX10_makes wsX10_isNumber := goodIn_r _ [8, 9] (by decide +kernel) (by decide +kernel)
set_option maxRecDepth 20000 in
theorem gX10_makes_X10_isNumber : GoodIn wsX10_makes (va_wsS RX10 59 yX10_isNumber wsX10_isNumber) := goodIn_app (goodIn_of _ (by decide +kernel)) ggX10_makes_X10_isNumber
set_option maxRecDepth 20000 in
theorem ggX10_makes_X10_within : GoodIn wsX10_makes wsX10_within := goodIn_r _ [12] (by decide +kernel) (by decide +kernel)
set_option maxRecDepth 20000 in
theorem gX10_makes_X10_within : GoodIn wsX10_makes (va_wsS RX10 38 yX10_within wsX10_within) := goodIn_app (goodIn_of _ (by decide +kernel)) ggX10_makes_X10_within
set_option maxRecDepth 20000 in
theorem ggX10_makes_X1_make : GoodIn wsX10_makes wsX1_make := goodIn_r _ [17, 18, 19, 20, 16, 21, 22, 23, 24, 25, 26, 27, 28, 29, 30, 31, 32, 33, 34, 35, 36, 37, 38, 39, 40, 41, 42, 43, 56, 57, 58, 59, 60] (by decide +kernel) (by decide +kernel)
set_option maxRecDepth 20000 in
theorem gX10_makes_X1_make : GoodIn wsX10_makes (wsV RX10 76 RX1 yX1_make wsX1_make) := goodIn_app (goodIn_of _ (by decide +kernel)) ggX10_makes_X1_make
set_option maxRecDepth 20000 in
theorem ggX10_makes_X10_countOrNone : GoodIn wsX10_makes wsX10_countOrNone := goodIn_r _ [46] (by decide +kernel) (by decide +kernel)
set_option maxRecDepth 20000 in
theorem gX10_makes_X10_countOrNone : GoodIn wsX10_makes (va_wsS RX10 138 yX10_countOrNone wsX10_countOrNone) := goodIn_app (goodIn_of _ (by decide +kernel)) ggX10_makes_X10_countOrNone
theorem dX10_makes_0 : decode cX10_makes 0 = .ok (.iload_n 1, 1) := by decide +kernel
theorem dX10_makes_1 : decode cX10_makes 1 = .ok (.invokestatic 70, 3) := by decide +kernel
theorem dX10_makes_4 : decode cX10_makes 4 = .ok (.ifCond .eq 28, 3) := by decide +kernel
theorem dX10_makes_7 : decode cX10_makes 7 = .ok (.lload_n 2, 1) := by decide +kernel
theorem dX10_makes_8 : decode cX10_makes 8 = .ok (.invokestatic 59, 3) := by decide +kernel
theorem dX10_makes_11 : decode cX10_makes 11 = .ok (.ifCond .eq 21, 3) := by decide +kernel
theorem dX10_makes_14 : decode cX10_makes 14 = .ok (.iload 4, 2) := by decide +kernel
theorem dX10_makes_16 : decode cX10_makes 16 = .ok (.iconst 0, 1) := by decide +kernel
theorem dX10_makes_17 : decode cX10_makes 17 = .ok (.sipush 20000, 3) := by decide +kernel
theorem dX10_makes_20 : decode cX10_makes 20 = .ok (.invokestatic 38, 3) := by decide +kernel
theorem dX10_makes_23 : decode cX10_makes 23 = .ok (.ifCond .eq 9, 3) := by decide +kernel
theorem dX10_makes_26 : decode cX10_makes 26 = .ok (.iload 5, 2) := by decide +kernel
theorem dX10_makes_28 : decode cX10_makes 28 = .ok (.iconst (-1), 1) := by decide +kernel
theorem dX10_makes_29 : decode cX10_makes 29 = .ok (.if_icmp .ge 5, 3) := by decide +kernel
theorem dX10_makes_32 : decode cX10_makes 32 = .ok (.iconst (-1), 1) := by decide +kernel
theorem dX10_makes_33 : decode cX10_makes 33 = .ok (.ireturn, 1) := by decide +kernel
theorem dX10_makes_34 : decode cX10_makes 34 = .ok (.iconst 0, 1) := by decide +kernel
theorem dX10_makes_35 : decode cX10_makes 35 = .ok (.istore 6, 2) := by decide +kernel
theorem dX10_makes_37 : decode cX10_makes 37 = .ok (.iconst 0, 1) := by decide +kernel
theorem dX10_makes_38 : decode cX10_makes 38 = .ok (.istore 7, 2) := by decide +kernel
theorem dX10_makes_40 : decode cX10_makes 40 = .ok (.iload 7, 2) := by decide +kernel
theorem dX10_makes_42 : decode cX10_makes 42 = .ok (.iload 4, 2) := by decide +kernel
theorem dX10_makes_44 : decode cX10_makes 44 = .ok (.if_icmp .gt 38, 3) := by decide +kernel
theorem dX10_makes_47 : decode cX10_makes 47 = .ok (.aload_n 0, 1) := by decide +kernel
theorem dX10_makes_48 : decode cX10_makes 48 = .ok (.getfield 10, 3) := by decide +kernel
theorem dX10_makes_51 : decode cX10_makes 51 = .ok (.iload_n 1, 1) := by decide +kernel
theorem dX10_makes_52 : decode cX10_makes 52 = .ok (.iload 7, 2) := by decide +kernel
theorem dX10_makes_54 : decode cX10_makes 54 = .ok (.i2l, 1) := by decide +kernel
theorem dX10_makes_55 : decode cX10_makes 55 = .ok (.invokevirtual 76, 3) := by decide +kernel
theorem dX10_makes_58 : decode cX10_makes 58 = .ok (.lload_n 2, 1) := by decide +kernel
theorem dX10_makes_59 : decode cX10_makes 59 = .ok (.lcmp, 1) := by decide +kernel
theorem dX10_makes_60 : decode cX10_makes 60 = .ok (.ifCond .ne 16, 3) := by decide +kernel
theorem dX10_makes_63 : decode cX10_makes 63 = .ok (.iload 6, 2) := by decide +kernel
theorem dX10_makes_65 : decode cX10_makes 65 = .ok (.iload 5, 2) := by decide +kernel
theorem dX10_makes_67 : decode cX10_makes 67 = .ok (.if_icmp .ne 6, 3) := by decide +kernel
theorem dX10_makes_70 : decode cX10_makes 70 = .ok (.iload 7, 2) := by decide +kernel
theorem dX10_makes_72 : decode cX10_makes 72 = .ok (.ireturn, 1) := by decide +kernel
theorem dX10_makes_73 : decode cX10_makes 73 = .ok (.iinc 6 1, 3) := by decide +kernel
theorem dX10_makes_76 : decode cX10_makes 76 = .ok (.iinc 7 1, 3) := by decide +kernel
theorem dX10_makes_79 : decode cX10_makes 79 = .ok (.goto (-39), 3) := by decide +kernel
theorem dX10_makes_82 : decode cX10_makes 82 = .ok (.iload 5, 2) := by decide +kernel
theorem dX10_makes_84 : decode cX10_makes 84 = .ok (.iload 6, 2) := by decide +kernel
theorem dX10_makes_86 : decode cX10_makes 86 = .ok (.invokestatic 138, 3) := by decide +kernel
theorem dX10_makes_89 : decode cX10_makes 89 = .ok (.ireturn, 1) := by decide +kernel
set_option maxRecDepth 20000 in
theorem ggX10_alike_X10_isNumber : GoodIn wsX10_alike wsX10_isNumber := goodIn_r _ [5, 6] (by decide +kernel) (by decide +kernel)
set_option maxRecDepth 20000 in
theorem gX10_alike_X10_isNumber : GoodIn wsX10_alike (va_wsS RX10 59 yX10_isNumber wsX10_isNumber) := goodIn_app (goodIn_of _ (by decide +kernel)) ggX10_alike_X10_isNumber
set_option maxRecDepth 20000 in
theorem ggX10_alike_X3_isMirror : GoodIn wsX10_alike wsX3_isMirror := goodIn_r _ [11, 12, 13, 14, 15, 16, 17, 18, 19, 20, 30, 31, 32, 33, 34, 35] (by decide +kernel) (by decide +kernel)
set_option maxRecDepth 20000 in
theorem gX10_alike_X3_isMirror : GoodIn wsX10_alike (wsV RX10 141 RX3 yX3_isMirror wsX3_isMirror) := goodIn_app (goodIn_of _ (by decide +kernel)) ggX10_alike_X3_isMirror
theorem dX10_alike_0 : decode cX10_alike 0 = .ok (.lload_n 1, 1) := by decide +kernel
theorem dX10_alike_1 : decode cX10_alike 1 = .ok (.invokestatic 59, 3) := by decide +kernel
theorem dX10_alike_4 : decode cX10_alike 4 = .ok (.ifCond .ne 5, 3) := by decide +kernel
theorem dX10_alike_7 : decode cX10_alike 7 = .ok (.iconst (-1), 1) := by decide +kernel
theorem dX10_alike_8 : decode cX10_alike 8 = .ok (.ireturn, 1) := by decide +kernel
theorem dX10_alike_9 : decode cX10_alike 9 = .ok (.aload_n 0, 1) := by decide +kernel
theorem dX10_alike_10 : decode cX10_alike 10 = .ok (.getfield 28, 3) := by decide +kernel
theorem dX10_alike_13 : decode cX10_alike 13 = .ok (.lload_n 1, 1) := by decide +kernel
theorem dX10_alike_14 : decode cX10_alike 14 = .ok (.invokevirtual 141, 3) := by decide +kernel
theorem dX10_alike_17 : decode cX10_alike 17 = .ok (.ifCond .eq 7, 3) := by decide +kernel
theorem dX10_alike_20 : decode cX10_alike 20 = .ok (.iconst 1, 1) := by decide +kernel
theorem dX10_alike_21 : decode cX10_alike 21 = .ok (.goto 4, 3) := by decide +kernel
theorem dX10_alike_24 : decode cX10_alike 24 = .ok (.iconst 0, 1) := by decide +kernel
theorem dX10_alike_25 : decode cX10_alike 25 = .ok (.ireturn, 1) := by decide +kernel
set_option maxRecDepth 20000 in
theorem ggX10_alikes_X10_isNumber : GoodIn wsX10_alikes wsX10_isNumber := goodIn_r _ [6, 7] (by decide +kernel) (by decide +kernel)
set_option maxRecDepth 20000 in
theorem gX10_alikes_X10_isNumber : GoodIn wsX10_alikes (va_wsS RX10 59 yX10_isNumber wsX10_isNumber) := goodIn_app (goodIn_of _ (by decide +kernel)) ggX10_alikes_X10_isNumber
set_option maxRecDepth 20000 in
theorem ggX10_alikes_X3_manyTo : GoodIn wsX10_alikes wsX3_manyTo := goodIn_r _ [12, 13, 14, 15, 16, 17, 18, 19, 20, 21, 22, 23, 11, 24, 25, 26, 27, 28, 29, 30, 31, 32, 33, 34, 35, 36, 37, 38, 39, 40, 41, 51, 52, 53, 54, 55, 56] (by decide +kernel) (by decide +kernel)
set_option maxRecDepth 20000 in
theorem gX10_alikes_X3_manyTo : GoodIn wsX10_alikes (wsV RX10 144 RX3 yX3_manyTo wsX3_manyTo) := goodIn_app (goodIn_of _ (by decide +kernel)) ggX10_alikes_X3_manyTo
theorem dX10_alikes_0 : decode cX10_alikes 0 = .ok (.lload_n 1, 1) := by decide +kernel
theorem dX10_alikes_1 : decode cX10_alikes 1 = .ok (.invokestatic 59, 3) := by decide +kernel
theorem dX10_alikes_4 : decode cX10_alikes 4 = .ok (.ifCond .eq 14, 3) := by decide +kernel
theorem dX10_alikes_7 : decode cX10_alikes 7 = .ok (.aload_n 0, 1) := by decide +kernel
theorem dX10_alikes_8 : decode cX10_alikes 8 = .ok (.getfield 28, 3) := by decide +kernel
theorem dX10_alikes_11 : decode cX10_alikes 11 = .ok (.lload_n 1, 1) := by decide +kernel
theorem dX10_alikes_12 : decode cX10_alikes 12 = .ok (.invokevirtual 144, 3) := by decide +kernel
theorem dX10_alikes_15 : decode cX10_alikes 15 = .ok (.goto 6, 3) := by decide +kernel
theorem dX10_alikes_18 : decode cX10_alikes 18 = .ok (.ldc2_w 74, 3) := by decide +kernel
theorem dX10_alikes_21 : decode cX10_alikes 21 = .ok (.lreturn, 1) := by decide +kernel
set_option maxRecDepth 20000 in
theorem ggX10_alikeAt_X3_at : GoodIn wsX10_alikeAt wsX3_at := goodIn_r _ [7, 8, 9, 10, 11, 12, 13, 14, 15, 16, 17, 18, 19, 20, 6, 21, 22, 23, 24, 25, 26, 27, 28, 29, 30, 31, 32, 33, 34, 35, 36, 37, 47, 48, 49, 50, 51, 52] (by decide +kernel) (by decide +kernel)
set_option maxRecDepth 20000 in
theorem gX10_alikeAt_X3_at : GoodIn wsX10_alikeAt (wsV RX10 148 RX3 yX3_at wsX3_at) := goodIn_app (goodIn_of _ (by decide +kernel)) ggX10_alikeAt_X3_at
theorem dX10_alikeAt_0 : decode cX10_alikeAt 0 = .ok (.lload_n 1, 1) := by decide +kernel
theorem dX10_alikeAt_1 : decode cX10_alikeAt 1 = .ok (.lconst 0, 1) := by decide +kernel
theorem dX10_alikeAt_2 : decode cX10_alikeAt 2 = .ok (.lcmp, 1) := by decide +kernel
theorem dX10_alikeAt_3 : decode cX10_alikeAt 3 = .ok (.ifCond .lt 14, 3) := by decide +kernel
theorem dX10_alikeAt_6 : decode cX10_alikeAt 6 = .ok (.aload_n 0, 1) := by decide +kernel
theorem dX10_alikeAt_7 : decode cX10_alikeAt 7 = .ok (.getfield 28, 3) := by decide +kernel
theorem dX10_alikeAt_10 : decode cX10_alikeAt 10 = .ok (.lload_n 1, 1) := by decide +kernel
theorem dX10_alikeAt_11 : decode cX10_alikeAt 11 = .ok (.invokevirtual 148, 3) := by decide +kernel
theorem dX10_alikeAt_14 : decode cX10_alikeAt 14 = .ok (.goto 6, 3) := by decide +kernel
theorem dX10_alikeAt_17 : decode cX10_alikeAt 17 = .ok (.ldc2_w 74, 3) := by decide +kernel
theorem dX10_alikeAt_20 : decode cX10_alikeAt 20 = .ok (.lreturn, 1) := by decide +kernel
set_option maxRecDepth 20000 in
theorem ggX10_next_X10_isNumber : GoodIn wsX10_next wsX10_isNumber := goodIn_r _ [6, 7] (by decide +kernel) (by decide +kernel)
set_option maxRecDepth 20000 in
theorem gX10_next_X10_isNumber : GoodIn wsX10_next (va_wsS RX10 59 yX10_isNumber wsX10_isNumber) := goodIn_app (goodIn_of _ (by decide +kernel)) ggX10_next_X10_isNumber
set_option maxRecDepth 20000 in
theorem ggX10_next_X3_leastFrom : GoodIn wsX10_next wsX3_leastFrom := goodIn_r _ [12, 13, 14, 15, 16, 17, 18, 19, 20, 21, 22, 23, 11, 24, 25, 26, 27, 28, 29, 30, 31, 32, 33, 34, 44, 45, 46, 47, 48, 49] (by decide +kernel) (by decide +kernel)
set_option maxRecDepth 20000 in
theorem gX10_next_X3_leastFrom : GoodIn wsX10_next (wsV RX10 151 RX3 yX3_leastFrom wsX3_leastFrom) := goodIn_app (goodIn_of _ (by decide +kernel)) ggX10_next_X3_leastFrom
theorem dX10_next_0 : decode cX10_next 0 = .ok (.lload_n 1, 1) := by decide +kernel
