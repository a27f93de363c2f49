theorem dX11_summed_46 : decode cX11_summed 46 = .ok (.iconst 1, 1) := by decide +kernel
theorem dX11_summed_47 : decode cX11_summed 47 = .ok (.iadd, 1) := by decide +kernel
theorem dX11_summed_48 : decode cX11_summed 48 = .ok (.putfield 162, 3) := by decide +kernel
theorem dX11_summed_51 : decode cX11_summed 51 = .ok (.aload_n 0, 1) := by decide +kernel
theorem dX11_summed_52 : decode cX11_summed 52 = .ok (.iload_n 2, 1) := by decide +kernel
theorem dX11_summed_53 : decode cX11_summed 53 = .ok (.putfield 176, 3) := by decide +kernel
theorem dX11_summed_56 : decode cX11_summed 56 = .ok (.aload_n 0, 1) := by decide +kernel
theorem dX11_summed_57 : decode cX11_summed 57 = .ok (.iload_n 1, 1) := by decide +kernel
theorem dX11_summed_58 : decode cX11_summed 58 = .ok (.iload_n 3, 1) := by decide +kernel
theorem dX11_summed_59 : decode cX11_summed 59 = .ok (.invokevirtual 188, 3) := by decide +kernel
theorem dX11_summed_62 : decode cX11_summed 62 = .ok (.ireturn, 1) := by decide +kernel
set_option maxRecDepth 20000 in
theorem ggX11_again_X11_in : GoodIn wsX11_again wsX11_in := goodIn_r _ [8] (by decide +kernel) (by decide +kernel)
set_option maxRecDepth 20000 in
theorem gX11_again_X11_in : GoodIn wsX11_again (va_wsS RX11 57 yX11_in wsX11_in) := goodIn_app (goodIn_of _ (by decide +kernel)) ggX11_again_X11_in
set_option maxRecDepth 20000 in
theorem ggX11_again_X11_lay : GoodIn wsX11_again wsX11_lay := goodIn_r _ [12, 3, 13, 4, 14, 15, 16, 17, 18, 19, 20, 21, 22, 23, 24, 25, 26, 27, 28, 29, 30, 31, 32, 33, 34, 35, 36, 37] (by decide +kernel) (by decide +kernel)
set_option maxRecDepth 20000 in
theorem gX11_again_X11_lay : GoodIn wsX11_again (wsV RX11 70 RX11 yX11_lay wsX11_lay) := goodIn_app (goodIn_of _ (by decide +kernel)) ggX11_again_X11_lay
theorem dX11_again_0 : decode cX11_again 0 = .ok (.iload_n 1, 1) := by decide +kernel
theorem dX11_again_1 : decode cX11_again 1 = .ok (.i2l, 1) := by decide +kernel
theorem dX11_again_2 : decode cX11_again 2 = .ok (.lconst 1, 1) := by decide +kernel
theorem dX11_again_3 : decode cX11_again 3 = .ok (.ldc2_w 63, 3) := by decide +kernel
theorem dX11_again_6 : decode cX11_again 6 = .ok (.invokestatic 57, 3) := by decide +kernel
theorem dX11_again_9 : decode cX11_again 9 = .ok (.ifCond .eq 15, 3) := by decide +kernel
theorem dX11_again_12 : decode cX11_again 12 = .ok (.iload_n 2, 1) := by decide +kernel
theorem dX11_again_13 : decode cX11_again 13 = .ok (.i2l, 1) := by decide +kernel
theorem dX11_again_14 : decode cX11_again 14 = .ok (.lconst 1, 1) := by decide +kernel
theorem dX11_again_15 : decode cX11_again 15 = .ok (.ldc2_w 116, 3) := by decide +kernel
theorem dX11_again_18 : decode cX11_again 18 = .ok (.invokestatic 57, 3) := by decide +kernel
theorem dX11_again_21 : decode cX11_again 21 = .ok (.ifCond .ne 5, 3) := by decide +kernel
theorem dX11_again_24 : decode cX11_again 24 = .ok (.iconst (-1), 1) := by decide +kernel
theorem dX11_again_25 : decode cX11_again 25 = .ok (.ireturn, 1) := by decide +kernel
theorem dX11_again_26 : decode cX11_again 26 = .ok (.aload_n 0, 1) := by decide +kernel
theorem dX11_again_27 : decode cX11_again 27 = .ok (.iload_n 1, 1) := by decide +kernel
theorem dX11_again_28 : decode cX11_again 28 = .ok (.i2l, 1) := by decide +kernel
theorem dX11_again_29 : decode cX11_again 29 = .ok (.invokevirtual 70, 3) := by decide +kernel
theorem dX11_again_32 : decode cX11_again 32 = .ok (.lconst 1, 1) := by decide +kernel
theorem dX11_again_33 : decode cX11_again 33 = .ok (.lstore_n 3, 1) := by decide +kernel
theorem dX11_again_34 : decode cX11_again 34 = .ok (.iconst 0, 1) := by decide +kernel
theorem dX11_again_35 : decode cX11_again 35 = .ok (.istore 5, 2) := by decide +kernel
theorem dX11_again_37 : decode cX11_again 37 = .ok (.iload 5, 2) := by decide +kernel
theorem dX11_again_39 : decode cX11_again 39 = .ok (.aload_n 0, 1) := by decide +kernel
theorem dX11_again_40 : decode cX11_again 40 = .ok (.getfield 65, 3) := by decide +kernel
theorem dX11_again_43 : decode cX11_again 43 = .ok (.if_icmp .ge 20, 3) := by decide +kernel
theorem dX11_again_46 : decode cX11_again 46 = .ok (.lload_n 3, 1) := by decide +kernel
theorem dX11_again_47 : decode cX11_again 47 = .ok (.aload_n 0, 1) := by decide +kernel
theorem dX11_again_48 : decode cX11_again 48 = .ok (.getfield 7, 3) := by decide +kernel
theorem dX11_again_51 : decode cX11_again 51 = .ok (.i2l, 1) := by decide +kernel
theorem dX11_again_52 : decode cX11_again 52 = .ok (.lmul, 1) := by decide +kernel
theorem dX11_again_53 : decode cX11_again 53 = .ok (.iload_n 2, 1) := by decide +kernel
theorem dX11_again_54 : decode cX11_again 54 = .ok (.i2l, 1) := by decide +kernel
theorem dX11_again_55 : decode cX11_again 55 = .ok (.lrem, 1) := by decide +kernel
theorem dX11_again_56 : decode cX11_again 56 = .ok (.lstore_n 3, 1) := by decide +kernel
theorem dX11_again_57 : decode cX11_again 57 = .ok (.iinc 5 1, 3) := by decide +kernel
theorem dX11_again_60 : decode cX11_again 60 = .ok (.goto (-23), 3) := by decide +kernel
theorem dX11_again_63 : decode cX11_again 63 = .ok (.lconst 0, 1) := by decide +kernel
theorem dX11_again_64 : decode cX11_again 64 = .ok (.lstore 5, 2) := by decide +kernel
theorem dX11_again_66 : decode cX11_again 66 = .ok (.iconst 1, 1) := by decide +kernel
theorem dX11_again_67 : decode cX11_again 67 = .ok (.istore 7, 2) := by decide +kernel
theorem dX11_again_69 : decode cX11_again 69 = .ok (.iload 7, 2) := by decide +kernel
theorem dX11_again_71 : decode cX11_again 71 = .ok (.iload_n 2, 1) := by decide +kernel
theorem dX11_again_72 : decode cX11_again 72 = .ok (.if_icmp .gt 31, 3) := by decide +kernel
theorem dX11_again_75 : decode cX11_again 75 = .ok (.lload 5, 2) := by decide +kernel
theorem dX11_again_77 : decode cX11_again 77 = .ok (.lload_n 3, 1) := by decide +kernel
theorem dX11_again_78 : decode cX11_again 78 = .ok (.lmul, 1) := by decide +kernel
theorem dX11_again_79 : decode cX11_again 79 = .ok (.iload_n 1, 1) := by decide +kernel
theorem dX11_again_80 : decode cX11_again 80 = .ok (.i2l, 1) := by decide +kernel
theorem dX11_again_81 : decode cX11_again 81 = .ok (.ladd, 1) := by decide +kernel
theorem dX11_again_82 : decode cX11_again 82 = .ok (.iload_n 2, 1) := by decide +kernel
theorem dX11_again_83 : decode cX11_again 83 = .ok (.i2l, 1) := by decide +kernel
theorem dX11_again_84 : decode cX11_again 84 = .ok (.lrem, 1) := by decide +kernel
theorem dX11_again_85 : decode cX11_again 85 = .ok (.lstore 5, 2) := by decide +kernel
theorem dX11_again_87 : decode cX11_again 87 = .ok (.lload 5, 2) := by decide +kernel
theorem dX11_again_89 : decode cX11_again 89 = .ok (.lconst 0, 1) := by decide +kernel
theorem dX11_again_90 : decode cX11_again 90 = .ok (.lcmp, 1) := by decide +kernel
theorem dX11_again_91 : decode cX11_again 91 = .ok (.ifCond .ne 6, 3) := by decide +kernel
theorem dX11_again_94 : decode cX11_again 94 = .ok (.iload 7, 2) := by decide +kernel
theorem dX11_again_96 : decode cX11_again 96 = .ok (.ireturn, 1) := by decide +kernel
theorem dX11_again_97 : decode cX11_again 97 = .ok (.iinc 7 1, 3) := by decide +kernel
theorem dX11_again_100 : decode cX11_again 100 = .ok (.goto (-31), 3) := by decide +kernel
theorem dX11_again_103 : decode cX11_again 103 = .ok (.bipush (-4), 2) := by decide +kernel
theorem dX11_again_105 : decode cX11_again 105 = .ok (.ireturn, 1) := by decide +kernel
theorem dX11_toThe_0 : decode cX11_toThe 0 = .ok (.lconst 1, 1) := by decide +kernel
theorem dX11_toThe_1 : decode cX11_toThe 1 = .ok (.lstore_n 3, 1) := by decide +kernel
theorem dX11_toThe_2 : decode cX11_toThe 2 = .ok (.iconst 0, 1) := by decide +kernel
theorem dX11_toThe_3 : decode cX11_toThe 3 = .ok (.istore 5, 2) := by decide +kernel
theorem dX11_toThe_5 : decode cX11_toThe 5 = .ok (.iload 5, 2) := by decide +kernel
theorem dX11_toThe_7 : decode cX11_toThe 7 = .ok (.iload_n 2, 1) := by decide +kernel
theorem dX11_toThe_8 : decode cX11_toThe 8 = .ok (.if_icmp .ge 14, 3) := by decide +kernel
theorem dX11_toThe_11 : decode cX11_toThe 11 = .ok (.lload_n 3, 1) := by decide +kernel
theorem dX11_toThe_12 : decode cX11_toThe 12 = .ok (.iload_n 1, 1) := by decide +kernel
theorem dX11_toThe_13 : decode cX11_toThe 13 = .ok (.i2l, 1) := by decide +kernel
theorem dX11_toThe_14 : decode cX11_toThe 14 = .ok (.lmul, 1) := by decide +kernel
theorem dX11_toThe_15 : decode cX11_toThe 15 = .ok (.lstore_n 3, 1) := by decide +kernel
theorem dX11_toThe_16 : decode cX11_toThe 16 = .ok (.iinc 5 1, 3) := by decide +kernel
theorem dX11_toThe_19 : decode cX11_toThe 19 = .ok (.goto (-14), 3) := by decide +kernel
theorem dX11_toThe_22 : decode cX11_toThe 22 = .ok (.lload_n 3, 1) := by decide +kernel
theorem dX11_toThe_23 : decode cX11_toThe 23 = .ok (.lreturn, 1) := by decide +kernel
set_option maxRecDepth 20000 in
theorem ggX11_hasRow_X11_lay : GoodIn wsX11_hasRow wsX11_lay := goodIn_r _ [9, 1, 4, 2, 10, 11, 12, 13, 14, 15, 16, 17, 18, 19, 20, 21, 22, 23, 24, 25, 26, 27, 28, 29, 30, 31, 32, 33] (by decide +kernel) (by decide +kernel)
set_option maxRecDepth 20000 in
theorem gX11_hasRow_X11_lay : GoodIn wsX11_hasRow (wsV RX11 70 RX11 yX11_lay wsX11_lay) := goodIn_app (goodIn_of _ (by decide +kernel)) ggX11_hasRow_X11_lay
theorem dX11_hasRow_0 : decode cX11_hasRow 0 = .ok (.aload_n 0, 1) := by decide +kernel
theorem dX11_hasRow_1 : decode cX11_hasRow 1 = .ok (.lload_n 1, 1) := by decide +kernel
theorem dX11_hasRow_2 : decode cX11_hasRow 2 = .ok (.invokevirtual 70, 3) := by decide +kernel
theorem dX11_hasRow_5 : decode cX11_hasRow 5 = .ok (.aload_n 0, 1) := by decide +kernel
theorem dX11_hasRow_6 : decode cX11_hasRow 6 = .ok (.getfield 65, 3) := by decide +kernel
theorem dX11_hasRow_9 : decode cX11_hasRow 9 = .ok (.iload_n 3, 1) := by decide +kernel
theorem dX11_hasRow_10 : decode cX11_hasRow 10 = .ok (.if_icmp .ne 7, 3) := by decide +kernel
theorem dX11_hasRow_13 : decode cX11_hasRow 13 = .ok (.iconst 1, 1) := by decide +kernel
theorem dX11_hasRow_14 : decode cX11_hasRow 14 = .ok (.goto 4, 3) := by decide +kernel
theorem dX11_hasRow_17 : decode cX11_hasRow 17 = .ok (.iconst 0, 1) := by decide +kernel
theorem dX11_hasRow_18 : decode cX11_hasRow 18 = .ok (.istore 4, 2) := by decide +kernel
theorem dX11_hasRow_20 : decode cX11_hasRow 20 = .ok (.iconst 0, 1) := by decide +kernel
theorem dX11_hasRow_21 : decode cX11_hasRow 21 = .ok (.istore 5, 2) := by decide +kernel
theorem dX11_hasRow_23 : decode cX11_hasRow 23 = .ok (.iload 5, 2) := by decide +kernel
theorem dX11_hasRow_25 : decode cX11_hasRow 25 = .ok (.aload_n 0, 1) := by decide +kernel
theorem dX11_hasRow_26 : decode cX11_hasRow 26 = .ok (.getfield 7, 3) := by decide +kernel
theorem dX11_hasRow_29 : decode cX11_hasRow 29 = .ok (.if_icmp .ge 84, 3) := by decide +kernel
theorem dX11_hasRow_32 : decode cX11_hasRow 32 = .ok (.iload 4, 2) := by decide +kernel
theorem dX11_hasRow_34 : decode cX11_hasRow 34 = .ok (.ifCond .eq 79, 3) := by decide +kernel
theorem dX11_hasRow_37 : decode cX11_hasRow 37 = .ok (.iconst 0, 1) := by decide +kernel
theorem dX11_hasRow_38 : decode cX11_hasRow 38 = .ok (.istore 6, 2) := by decide +kernel
theorem dX11_hasRow_40 : decode cX11_hasRow 40 = .ok (.iconst 0, 1) := by decide +kernel
theorem dX11_hasRow_41 : decode cX11_hasRow 41 = .ok (.istore 7, 2) := by decide +kernel
theorem dX11_hasRow_43 : decode cX11_hasRow 43 = .ok (.iload 7, 2) := by decide +kernel
theorem dX11_hasRow_45 : decode cX11_hasRow 45 = .ok (.iload_n 3, 1) := by decide +kernel
theorem dX11_hasRow_46 : decode cX11_hasRow 46 = .ok (.if_icmp .ge 49, 3) := by decide +kernel
theorem dX11_hasRow_49 : decode cX11_hasRow 49 = .ok (.iload 6, 2) := by decide +kernel
theorem dX11_hasRow_51 : decode cX11_hasRow 51 = .ok (.aload_n 0, 1) := by decide +kernel
theorem dX11_hasRow_52 : decode cX11_hasRow 52 = .ok (.getfield 44, 3) := by decide +kernel
theorem dX11_hasRow_55 : decode cX11_hasRow 55 = .ok (.iload 7, 2) := by decide +kernel
theorem dX11_hasRow_57 : decode cX11_hasRow 57 = .ok (.iaload, 1) := by decide +kernel
theorem dX11_hasRow_58 : decode cX11_hasRow 58 = .ok (.iload 5, 2) := by decide +kernel
theorem dX11_hasRow_60 : decode cX11_hasRow 60 = .ok (.if_icmp .ne 7, 3) := by decide +kernel
theorem dX11_hasRow_63 : decode cX11_hasRow 63 = .ok (.iconst 1, 1) := by decide +kernel
theorem dX11_hasRow_64 : decode cX11_hasRow 64 = .ok (.goto 4, 3) := by decide +kernel
theorem dX11_hasRow_67 : decode cX11_hasRow 67 = .ok (.iconst 0, 1) := by decide +kernel
theorem dX11_hasRow_68 : decode cX11_hasRow 68 = .ok (.aload_n 0, 1) := by decide +kernel
theorem dX11_hasRow_69 : decode cX11_hasRow 69 = .ok (.getfield 17, 3) := by decide +kernel
theorem dX11_hasRow_72 : decode cX11_hasRow 72 = .ok (.iload 7, 2) := by decide +kernel
theorem dX11_hasRow_74 : decode cX11_hasRow 74 = .ok (.iaload, 1) := by decide +kernel
theorem dX11_hasRow_75 : decode cX11_hasRow 75 = .ok (.iload 5, 2) := by decide +kernel
theorem dX11_hasRow_77 : decode cX11_hasRow 77 = .ok (.if_icmp .ne 7, 3) := by decide +kernel
theorem dX11_hasRow_80 : decode cX11_hasRow 80 = .ok (.iconst 1, 1) := by decide +kernel
theorem dX11_hasRow_81 : decode cX11_hasRow 81 = .ok (.goto 4, 3) := by decide +kernel
theorem dX11_hasRow_84 : decode cX11_hasRow 84 = .ok (.iconst 0, 1) := by decide +kernel
theorem dX11_hasRow_85 : decode cX11_hasRow 85 = .ok (.isub, 1) := by decide +kernel
theorem dX11_hasRow_86 : decode cX11_hasRow 86 = .ok (.iadd, 1) := by decide +kernel
theorem dX11_hasRow_87 : decode cX11_hasRow 87 = .ok (.istore 6, 2) := by decide +kernel
theorem dX11_hasRow_89 : decode cX11_hasRow 89 = .ok (.iinc 7 1, 3) := by decide +kernel
theorem dX11_hasRow_92 : decode cX11_hasRow 92 = .ok (.goto (-49), 3) := by decide +kernel
theorem dX11_hasRow_95 : decode cX11_hasRow 95 = .ok (.iload 6, 2) := by decide +kernel
theorem dX11_hasRow_97 : decode cX11_hasRow 97 = .ok (.ifCond .ne 7, 3) := by decide +kernel
theorem dX11_hasRow_100 : decode cX11_hasRow 100 = .ok (.iconst 1, 1) := by decide +kernel
theorem dX11_hasRow_101 : decode cX11_hasRow 101 = .ok (.goto 4, 3) := by decide +kernel
theorem dX11_hasRow_104 : decode cX11_hasRow 104 = .ok (.iconst 0, 1) := by decide +kernel
theorem dX11_hasRow_105 : decode cX11_hasRow 105 = .ok (.istore 4, 2) := by decide +kernel
theorem dX11_hasRow_107 : decode cX11_hasRow 107 = .ok (.iinc 5 1, 3) := by decide +kernel
theorem dX11_hasRow_110 : decode cX11_hasRow 110 = .ok (.goto (-87), 3) := by decide +kernel
theorem dX11_hasRow_113 : decode cX11_hasRow 113 = .ok (.iload 4, 2) := by decide +kernel
theorem dX11_hasRow_115 : decode cX11_hasRow 115 = .ok (.ireturn, 1) := by decide +kernel
theorem dX11_addNarrow_0 : decode cX11_addNarrow 0 = .ok (.aload_n 0, 1) := by decide +kernel
theorem dX11_addNarrow_1 : decode cX11_addNarrow 1 = .ok (.getfield 198, 3) := by decide +kernel
theorem dX11_addNarrow_4 : decode cX11_addNarrow 4 = .ok (.istore_n 3, 1) := by decide +kernel
theorem dX11_addNarrow_5 : decode cX11_addNarrow 5 = .ok (.iload_n 3, 1) := by decide +kernel
theorem dX11_addNarrow_6 : decode cX11_addNarrow 6 = .ok (.ifCond .le 36, 3) := by decide +kernel
theorem dX11_addNarrow_9 : decode cX11_addNarrow 9 = .ok (.aload_n 0, 1) := by decide +kernel
theorem dX11_addNarrow_10 : decode cX11_addNarrow 10 = .ok (.getfield 47, 3) := by decide +kernel
theorem dX11_addNarrow_13 : decode cX11_addNarrow 13 = .ok (.iload_n 3, 1) := by decide +kernel
theorem dX11_addNarrow_14 : decode cX11_addNarrow 14 = .ok (.iconst 1, 1) := by decide +kernel
theorem dX11_addNarrow_15 : decode cX11_addNarrow 15 = .ok (.isub, 1) := by decide +kernel
theorem dX11_addNarrow_16 : decode cX11_addNarrow 16 = .ok (.laload, 1) := by decide +kernel
theorem dX11_addNarrow_17 : decode cX11_addNarrow 17 = .ok (.lload_n 1, 1) := by decide +kernel
theorem dX11_addNarrow_18 : decode cX11_addNarrow 18 = .ok (.lcmp, 1) := by decide +kernel
theorem dX11_addNarrow_19 : decode cX11_addNarrow 19 = .ok (.ifCond .le 23, 3) := by decide +kernel
theorem dX11_addNarrow_22 : decode cX11_addNarrow 22 = .ok (.aload_n 0, 1) := by decide +kernel
theorem dX11_addNarrow_23 : decode cX11_addNarrow 23 = .ok (.getfield 47, 3) := by decide +kernel
theorem dX11_addNarrow_26 : decode cX11_addNarrow 26 = .ok (.iload_n 3, 1) := by decide +kernel
theorem dX11_addNarrow_27 : decode cX11_addNarrow 27 = .ok (.aload_n 0, 1) := by decide +kernel
theorem dX11_addNarrow_28 : decode cX11_addNarrow 28 = .ok (.getfield 47, 3) := by decide +kernel
theorem dX11_addNarrow_31 : decode cX11_addNarrow 31 = .ok (.iload_n 3, 1) := by decide +kernel
theorem dX11_addNarrow_32 : decode cX11_addNarrow 32 = .ok (.iconst 1, 1) := by decide +kernel
theorem dX11_addNarrow_33 : decode cX11_addNarrow 33 = .ok (.isub, 1) := by decide +kernel
theorem dX11_addNarrow_34 : decode cX11_addNarrow 34 = .ok (.laload, 1) := by decide +kernel
theorem dX11_addNarrow_35 : decode cX11_addNarrow 35 = .ok (.lastore, 1) := by decide +kernel
theorem dX11_addNarrow_36 : decode cX11_addNarrow 36 = .ok (.iinc 3 (-1), 3) := by decide +kernel
theorem dX11_addNarrow_39 : decode cX11_addNarrow 39 = .ok (.goto (-34), 3) := by decide +kernel
theorem dX11_addNarrow_42 : decode cX11_addNarrow 42 = .ok (.aload_n 0, 1) := by decide +kernel
theorem dX11_addNarrow_43 : decode cX11_addNarrow 43 = .ok (.getfield 47, 3) := by decide +kernel
theorem dX11_addNarrow_46 : decode cX11_addNarrow 46 = .ok (.iload_n 3, 1) := by decide +kernel
theorem dX11_addNarrow_47 : decode cX11_addNarrow 47 = .ok (.lload_n 1, 1) := by decide +kernel
theorem dX11_addNarrow_48 : decode cX11_addNarrow 48 = .ok (.lastore, 1) := by decide +kernel
theorem dX11_addNarrow_49 : decode cX11_addNarrow 49 = .ok (.aload_n 0, 1) := by decide +kernel
theorem dX11_addNarrow_50 : decode cX11_addNarrow 50 = .ok (.dup, 1) := by decide +kernel
theorem dX11_addNarrow_51 : decode cX11_addNarrow 51 = .ok (.getfield 198, 3) := by decide +kernel
theorem dX11_addNarrow_54 : decode cX11_addNarrow 54 = .ok (.iconst 1, 1) := by decide +kernel
theorem dX11_addNarrow_55 : decode cX11_addNarrow 55 = .ok (.iadd, 1) := by decide +kernel
theorem dX11_addNarrow_56 : decode cX11_addNarrow 56 = .ok (.putfield 198, 3) := by decide +kernel
theorem dX11_addNarrow_59 : decode cX11_addNarrow 59 = .ok (.return_, 1) := by decide +kernel
set_option maxRecDepth 20000 in
theorem ggX11_narrow_X11_in : GoodIn wsX11_narrow wsX11_in := goodIn_r _ [11] (by decide +kernel) (by decide +kernel)
set_option maxRecDepth 20000 in
theorem gX11_narrow_X11_in : GoodIn wsX11_narrow (va_wsS RX11 57 yX11_in wsX11_in) := goodIn_app (goodIn_of _ (by decide +kernel)) ggX11_narrow_X11_in
set_option maxRecDepth 20000 in
theorem ggX11_narrow_X11_toThe : GoodIn wsX11_narrow wsX11_toThe := goodIn_r _ [15] (by decide +kernel) (by decide +kernel)
set_option maxRecDepth 20000 in
theorem gX11_narrow_X11_toThe : GoodIn wsX11_narrow (wsV RX11 203 RX11 yX11_toThe wsX11_toThe) := goodIn_app (goodIn_of _ (by decide +kernel)) ggX11_narrow_X11_toThe
set_option maxRecDepth 20000 in
theorem ggX11_narrow_X11_hasRow : GoodIn wsX11_narrow wsX11_hasRow := goodIn_r _ [19, 20, 5, 4, 21, 22, 23, 24, 10, 25, 30, 31, 32, 33, 34, 35, 36, 37, 38, 39, 40, 41, 42, 43, 44, 45, 46, 47, 48, 49, 50, 51, 52, 53] (by decide +kernel) (by decide +kernel)
set_option maxRecDepth 20000 in
theorem gX11_narrow_X11_hasRow : GoodIn wsX11_narrow (wsV RX11 207 RX11 yX11_hasRow wsX11_hasRow) := goodIn_app (goodIn_of _ (by decide +kernel)) ggX11_narrow_X11_hasRow
set_option maxRecDepth 20000 in
theorem ggX11_narrow_X11_addNarrow : GoodIn wsX11_narrow wsX11_addNarrow := goodIn_r _ [29, 3, 6, 30, 31, 32, 33, 34, 35, 36, 37, 38, 39, 40, 41, 42, 43, 44, 45, 46, 47, 48, 49, 50, 51, 52, 53] (by decide +kernel) (by decide +kernel)
set_option maxRecDepth 20000 in
theorem gX11_narrow_X11_addNarrow : GoodIn wsX11_narrow (wsV RX11 211 RX11 yX11_addNarrow wsX11_addNarrow) := goodIn_app (goodIn_of _ (by decide +kernel)) ggX11_narrow_X11_addNarrow
theorem dX11_narrow_0 : decode cX11_narrow 0 = .ok (.iload_n 1, 1) := by decide +kernel
theorem dX11_narrow_1 : decode cX11_narrow 1 = .ok (.i2l, 1) := by decide +kernel
theorem dX11_narrow_2 : decode cX11_narrow 2 = .ok (.lconst 1, 1) := by decide +kernel
theorem dX11_narrow_3 : decode cX11_narrow 3 = .ok (.ldc2_w 201, 3) := by decide +kernel
theorem dX11_narrow_6 : decode cX11_narrow 6 = .ok (.invokestatic 57, 3) := by decide +kernel
theorem dX11_narrow_9 : decode cX11_narrow 9 = .ok (.ifCond .eq 20, 3) := by decide +kernel
theorem dX11_narrow_12 : decode cX11_narrow 12 = .ok (.iload_n 2, 1) := by decide +kernel
theorem dX11_narrow_13 : decode cX11_narrow 13 = .ok (.i2l, 1) := by decide +kernel
theorem dX11_narrow_14 : decode cX11_narrow 14 = .ok (.lconst 1, 1) := by decide +kernel
theorem dX11_narrow_15 : decode cX11_narrow 15 = .ok (.ldc2_w 201, 3) := by decide +kernel
theorem dX11_narrow_18 : decode cX11_narrow 18 = .ok (.invokestatic 57, 3) := by decide +kernel
theorem dX11_narrow_21 : decode cX11_narrow 21 = .ok (.ifCond .eq 8, 3) := by decide +kernel
theorem dX11_narrow_24 : decode cX11_narrow 24 = .ok (.iload_n 3, 1) := by decide +kernel
theorem dX11_narrow_25 : decode cX11_narrow 25 = .ok (.iconst (-1), 1) := by decide +kernel
theorem dX11_narrow_26 : decode cX11_narrow 26 = .ok (.if_icmp .ge 7, 3) := by decide +kernel
theorem dX11_narrow_29 : decode cX11_narrow 29 = .ok (.ldc2_w 95, 3) := by decide +kernel
theorem dX11_narrow_32 : decode cX11_narrow 32 = .ok (.lreturn, 1) := by decide +kernel
theorem dX11_narrow_33 : decode cX11_narrow 33 = .ok (.aload_n 0, 1) := by decide +kernel
theorem dX11_narrow_34 : decode cX11_narrow 34 = .ok (.iconst 0, 1) := by decide +kernel
theorem dX11_narrow_35 : decode cX11_narrow 35 = .ok (.putfield 198, 3) := by decide +kernel
theorem dX11_narrow_38 : decode cX11_narrow 38 = .ok (.iconst 0, 1) := by decide +kernel
theorem dX11_narrow_39 : decode cX11_narrow 39 = .ok (.istore 4, 2) := by decide +kernel
theorem dX11_narrow_41 : decode cX11_narrow 41 = .ok (.iload 4, 2) := by decide +kernel
theorem dX11_narrow_43 : decode cX11_narrow 43 = .ok (.iload_n 1, 1) := by decide +kernel
theorem dX11_narrow_44 : decode cX11_narrow 44 = .ok (.if_icmp .ge 17, 3) := by decide +kernel
theorem dX11_narrow_47 : decode cX11_narrow 47 = .ok (.aload_n 0, 1) := by decide +kernel
theorem dX11_narrow_48 : decode cX11_narrow 48 = .ok (.getfield 44, 3) := by decide +kernel
theorem dX11_narrow_51 : decode cX11_narrow 51 = .ok (.iload 4, 2) := by decide +kernel
theorem dX11_narrow_53 : decode cX11_narrow 53 = .ok (.iconst 0, 1) := by decide +kernel
theorem dX11_narrow_54 : decode cX11_narrow 54 = .ok (.iastore, 1) := by decide +kernel
theorem dX11_narrow_55 : decode cX11_narrow 55 = .ok (.iinc 4 1, 3) := by decide +kernel
theorem dX11_narrow_58 : decode cX11_narrow 58 = .ok (.goto (-17), 3) := by decide +kernel
theorem dX11_narrow_61 : decode cX11_narrow 61 = .ok (.iconst 1, 1) := by decide +kernel
theorem dX11_narrow_62 : decode cX11_narrow 62 = .ok (.istore 4, 2) := by decide +kernel
theorem dX11_narrow_64 : decode cX11_narrow 64 = .ok (.iload 4, 2) := by decide +kernel
theorem dX11_narrow_66 : decode cX11_narrow 66 = .ok (.ifCond .eq 155, 3) := by decide +kernel
theorem dX11_narrow_69 : decode cX11_narrow 69 = .ok (.lconst 0, 1) := by decide +kernel
theorem dX11_narrow_70 : decode cX11_narrow 70 = .ok (.lstore 5, 2) := by decide +kernel
theorem dX11_narrow_72 : decode cX11_narrow 72 = .ok (.iconst 0, 1) := by decide +kernel
theorem dX11_narrow_73 : decode cX11_narrow 73 = .ok (.istore 7, 2) := by decide +kernel
theorem dX11_narrow_75 : decode cX11_narrow 75 = .ok (.iload 7, 2) := by decide +kernel
theorem dX11_narrow_77 : decode cX11_narrow 77 = .ok (.iload_n 1, 1) := by decide +kernel
theorem dX11_narrow_78 : decode cX11_narrow 78 = .ok (.if_icmp .ge 26, 3) := by decide +kernel
theorem dX11_narrow_81 : decode cX11_narrow 81 = .ok (.lload 5, 2) := by decide +kernel
theorem dX11_narrow_83 : decode cX11_narrow 83 = .ok (.aload_n 0, 1) := by decide +kernel
theorem dX11_narrow_84 : decode cX11_narrow 84 = .ok (.aload_n 0, 1) := by decide +kernel
theorem dX11_narrow_85 : decode cX11_narrow 85 = .ok (.getfield 44, 3) := by decide +kernel
theorem dX11_narrow_88 : decode cX11_narrow 88 = .ok (.iload 7, 2) := by decide +kernel
theorem dX11_narrow_90 : decode cX11_narrow 90 = .ok (.iaload, 1) := by decide +kernel
theorem dX11_narrow_91 : decode cX11_narrow 91 = .ok (.iload_n 2, 1) := by decide +kernel
theorem dX11_narrow_92 : decode cX11_narrow 92 = .ok (.invokevirtual 203, 3) := by decide +kernel
theorem dX11_narrow_95 : decode cX11_narrow 95 = .ok (.ladd, 1) := by decide +kernel
theorem dX11_narrow_96 : decode cX11_narrow 96 = .ok (.lstore 5, 2) := by decide +kernel
theorem dX11_narrow_98 : decode cX11_narrow 98 = .ok (.iinc 7 1, 3) := by decide +kernel
theorem dX11_narrow_101 : decode cX11_narrow 101 = .ok (.goto (-26), 3) := by decide +kernel
theorem dX11_narrow_104 : decode cX11_narrow 104 = .ok (.aload_n 0, 1) := by decide +kernel
theorem dX11_narrow_105 : decode cX11_narrow 105 = .ok (.lload 5, 2) := by decide +kernel
theorem dX11_narrow_107 : decode cX11_narrow 107 = .ok (.iload_n 1, 1) := by decide +kernel
theorem dX11_narrow_108 : decode cX11_narrow 108 = .ok (.invokevirtual 207, 3) := by decide +kernel
theorem dX11_narrow_111 : decode cX11_narrow 111 = .ok (.ifCond .eq 9, 3) := by decide +kernel
theorem dX11_narrow_114 : decode cX11_narrow 114 = .ok (.aload_n 0, 1) := by decide +kernel
theorem dX11_narrow_115 : decode cX11_narrow 115 = .ok (.lload 5, 2) := by decide +kernel
theorem dX11_narrow_117 : decode cX11_narrow 117 = .ok (.invokevirtual 211, 3) := by decide +kernel
theorem dX11_narrow_120 : decode cX11_narrow 120 = .ok (.iload_n 1, 1) := by decide +kernel
theorem dX11_narrow_121 : decode cX11_narrow 121 = .ok (.iconst 1, 1) := by decide +kernel
theorem dX11_narrow_122 : decode cX11_narrow 122 = .ok (.isub, 1) := by decide +kernel
theorem dX11_narrow_123 : decode cX11_narrow 123 = .ok (.istore 7, 2) := by decide +kernel
theorem dX11_narrow_125 : decode cX11_narrow 125 = .ok (.iload 7, 2) := by decide +kernel
theorem dX11_narrow_127 : decode cX11_narrow 127 = .ok (.ifCond .lt 25, 3) := by decide +kernel
theorem dX11_narrow_130 : decode cX11_narrow 130 = .ok (.aload_n 0, 1) := by decide +kernel
theorem dX11_narrow_131 : decode cX11_narrow 131 = .ok (.getfield 44, 3) := by decide +kernel
theorem dX11_narrow_134 : decode cX11_narrow 134 = .ok (.iload 7, 2) := by decide +kernel
theorem dX11_narrow_136 : decode cX11_narrow 136 = .ok (.iaload, 1) := by decide +kernel
theorem dX11_narrow_137 : decode cX11_narrow 137 = .ok (.aload_n 0, 1) := by decide +kernel
theorem dX11_narrow_138 : decode cX11_narrow 138 = .ok (.getfield 7, 3) := by decide +kernel
theorem dX11_narrow_141 : decode cX11_narrow 141 = .ok (.iconst 1, 1) := by decide +kernel
theorem dX11_narrow_142 : decode cX11_narrow 142 = .ok (.isub, 1) := by decide +kernel
theorem dX11_narrow_143 : decode cX11_narrow 143 = .ok (.if_icmp .ne 9, 3) := by decide +kernel
theorem dX11_narrow_146 : decode cX11_narrow 146 = .ok (.iinc 7 (-1), 3) := by decide +kernel
theorem dX11_narrow_149 : decode cX11_narrow 149 = .ok (.goto (-24), 3) := by decide +kernel
theorem dX11_narrow_152 : decode cX11_narrow 152 = .ok (.iload 7, 2) := by decide +kernel
theorem dX11_narrow_154 : decode cX11_narrow 154 = .ok (.ifCond .lt 7, 3) := by decide +kernel
theorem dX11_narrow_157 : decode cX11_narrow 157 = .ok (.iconst 1, 1) := by decide +kernel
theorem dX11_narrow_158 : decode cX11_narrow 158 = .ok (.goto 4, 3) := by decide +kernel
theorem dX11_narrow_161 : decode cX11_narrow 161 = .ok (.iconst 0, 1) := by decide +kernel
theorem dX11_narrow_162 : decode cX11_narrow 162 = .ok (.istore 4, 2) := by decide +kernel
theorem dX11_narrow_164 : decode cX11_narrow 164 = .ok (.iload 4, 2) := by decide +kernel
theorem dX11_narrow_166 : decode cX11_narrow 166 = .ok (.ifCond .eq 15, 3) := by decide +kernel
theorem dX11_narrow_169 : decode cX11_narrow 169 = .ok (.aload_n 0, 1) := by decide +kernel
theorem dX11_narrow_170 : decode cX11_narrow 170 = .ok (.getfield 44, 3) := by decide +kernel
theorem dX11_narrow_173 : decode cX11_narrow 173 = .ok (.iload 7, 2) := by decide +kernel
theorem dX11_narrow_175 : decode cX11_narrow 175 = .ok (.iaload, 1) := by decide +kernel
theorem dX11_narrow_176 : decode cX11_narrow 176 = .ok (.iconst 1, 1) := by decide +kernel
theorem dX11_narrow_177 : decode cX11_narrow 177 = .ok (.iadd, 1) := by decide +kernel
theorem dX11_narrow_178 : decode cX11_narrow 178 = .ok (.goto 4, 3) := by decide +kernel
theorem dX11_narrow_181 : decode cX11_narrow 181 = .ok (.iconst 0, 1) := by decide +kernel
theorem dX11_narrow_182 : decode cX11_narrow 182 = .ok (.istore 8, 2) := by decide +kernel
theorem dX11_narrow_184 : decode cX11_narrow 184 = .ok (.iload 4, 2) := by decide +kernel
theorem dX11_narrow_186 : decode cX11_narrow 186 = .ok (.ifCond .eq 8, 3) := by decide +kernel
theorem dX11_narrow_189 : decode cX11_narrow 189 = .ok (.iload 7, 2) := by decide +kernel
theorem dX11_narrow_191 : decode cX11_narrow 191 = .ok (.goto 4, 3) := by decide +kernel
theorem dX11_narrow_194 : decode cX11_narrow 194 = .ok (.iload_n 1, 1) := by decide +kernel
theorem dX11_narrow_195 : decode cX11_narrow 195 = .ok (.istore 9, 2) := by decide +kernel
theorem dX11_narrow_197 : decode cX11_narrow 197 = .ok (.iload 9, 2) := by decide +kernel
theorem dX11_narrow_199 : decode cX11_narrow 199 = .ok (.iload_n 1, 1) := by decide +kernel
theorem dX11_narrow_200 : decode cX11_narrow 200 = .ok (.if_icmp .ge 18, 3) := by decide +kernel
theorem dX11_narrow_203 : decode cX11_narrow 203 = .ok (.aload_n 0, 1) := by decide +kernel
theorem dX11_narrow_204 : decode cX11_narrow 204 = .ok (.getfield 44, 3) := by decide +kernel
theorem dX11_narrow_207 : decode cX11_narrow 207 = .ok (.iload 9, 2) := by decide +kernel
theorem dX11_narrow_209 : decode cX11_narrow 209 = .ok (.iload 8, 2) := by decide +kernel
theorem dX11_narrow_211 : decode cX11_narrow 211 = .ok (.iastore, 1) := by decide +kernel
theorem dX11_narrow_212 : decode cX11_narrow 212 = .ok (.iinc 9 1, 3) := by decide +kernel
theorem dX11_narrow_215 : decode cX11_narrow 215 = .ok (.goto (-18), 3) := by decide +kernel
theorem dX11_narrow_218 : decode cX11_narrow 218 = .ok (.goto (-154), 3) := by decide +kernel
theorem dX11_narrow_221 : decode cX11_narrow 221 = .ok (.iload_n 3, 1) := by decide +kernel
theorem dX11_narrow_222 : decode cX11_narrow 222 = .ok (.iconst (-1), 1) := by decide +kernel
theorem dX11_narrow_223 : decode cX11_narrow 223 = .ok (.if_icmp .ne 11, 3) := by decide +kernel
theorem dX11_narrow_226 : decode cX11_narrow 226 = .ok (.aload_n 0, 1) := by decide +kernel
theorem dX11_narrow_227 : decode cX11_narrow 227 = .ok (.getfield 198, 3) := by decide +kernel
theorem dX11_narrow_230 : decode cX11_narrow 230 = .ok (.i2l, 1) := by decide +kernel
theorem dX11_narrow_231 : decode cX11_narrow 231 = .ok (.goto 23, 3) := by decide +kernel
theorem dX11_narrow_234 : decode cX11_narrow 234 = .ok (.iload_n 3, 1) := by decide +kernel
theorem dX11_narrow_235 : decode cX11_narrow 235 = .ok (.aload_n 0, 1) := by decide +kernel
theorem dX11_narrow_236 : decode cX11_narrow 236 = .ok (.getfield 198, 3) := by decide +kernel
theorem dX11_narrow_239 : decode cX11_narrow 239 = .ok (.if_icmp .ge 12, 3) := by decide +kernel
theorem dX11_narrow_242 : decode cX11_narrow 242 = .ok (.aload_n 0, 1) := by decide +kernel
theorem dX11_narrow_243 : decode cX11_narrow 243 = .ok (.getfield 47, 3) := by decide +kernel
theorem dX11_narrow_246 : decode cX11_narrow 246 = .ok (.iload_n 3, 1) := by decide +kernel
theorem dX11_narrow_247 : decode cX11_narrow 247 = .ok (.laload, 1) := by decide +kernel
theorem dX11_narrow_248 : decode cX11_narrow 248 = .ok (.goto 6, 3) := by decide +kernel
theorem dX11_narrow_251 : decode cX11_narrow 251 = .ok (.ldc2_w 111, 3) := by decide +kernel
theorem dX11_narrow_254 : decode cX11_narrow 254 = .ok (.lreturn, 1) := by decide +kernel
set_option maxRecDepth 20000 in
theorem ggX11_bare_X11_in : GoodIn wsX11_bare wsX11_in := goodIn_r _ [6] (by decide +kernel) (by decide +kernel)
set_option maxRecDepth 20000 in
theorem gX11_bare_X11_in : GoodIn wsX11_bare (va_wsS RX11 57 yX11_in wsX11_in) := goodIn_app (goodIn_of _ (by decide +kernel)) ggX11_bare_X11_in
set_option maxRecDepth 20000 in
theorem ggX11_bare_X11_sum : GoodIn wsX11_bare wsX11_sum := goodIn_r _ [10, 11, 12, 13, 14, 15, 16, 5, 17, 18, 19, 20, 21, 22, 23, 24, 25, 26, 27, 28, 29, 30, 31, 32, 33, 34, 35, 36, 37, 38, 39, 40, 41, 42] (by decide +kernel) (by decide +kernel)
set_option maxRecDepth 20000 in
theorem gX11_bare_X11_sum : GoodIn wsX11_bare (wsV RX11 80 RX11 yX11_sum wsX11_sum) := goodIn_app (goodIn_of _ (by decide +kernel)) ggX11_bare_X11_sum
theorem dX11_bare_0 : decode cX11_bare 0 = .ok (.iload_n 1, 1) := by decide +kernel
theorem dX11_bare_1 : decode cX11_bare 1 = .ok (.i2l, 1) := by decide +kernel
theorem dX11_bare_2 : decode cX11_bare 2 = .ok (.lconst 0, 1) := by decide +kernel
theorem dX11_bare_3 : decode cX11_bare 3 = .ok (.ldc2_w 116, 3) := by decide +kernel
theorem dX11_bare_6 : decode cX11_bare 6 = .ok (.invokestatic 57, 3) := by decide +kernel
theorem dX11_bare_9 : decode cX11_bare 9 = .ok (.ifCond .eq 8, 3) := by decide +kernel
theorem dX11_bare_12 : decode cX11_bare 12 = .ok (.iload_n 2, 1) := by decide +kernel
theorem dX11_bare_13 : decode cX11_bare 13 = .ok (.iconst (-1), 1) := by decide +kernel
theorem dX11_bare_14 : decode cX11_bare 14 = .ok (.if_icmp .ge 5, 3) := by decide +kernel
theorem dX11_bare_17 : decode cX11_bare 17 = .ok (.iconst (-1), 1) := by decide +kernel
theorem dX11_bare_18 : decode cX11_bare 18 = .ok (.ireturn, 1) := by decide +kernel
theorem dX11_bare_19 : decode cX11_bare 19 = .ok (.iconst 0, 1) := by decide +kernel
theorem dX11_bare_20 : decode cX11_bare 20 = .ok (.istore_n 3, 1) := by decide +kernel
theorem dX11_bare_21 : decode cX11_bare 21 = .ok (.iload_n 3, 1) := by decide +kernel
theorem dX11_bare_22 : decode cX11_bare 22 = .ok (.iload_n 1, 1) := by decide +kernel
theorem dX11_bare_23 : decode cX11_bare 23 = .ok (.if_icmp .gt 16, 3) := by decide +kernel
theorem dX11_bare_26 : decode cX11_bare 26 = .ok (.aload_n 0, 1) := by decide +kernel
theorem dX11_bare_27 : decode cX11_bare 27 = .ok (.getfield 50, 3) := by decide +kernel
theorem dX11_bare_30 : decode cX11_bare 30 = .ok (.iload_n 3, 1) := by decide +kernel
theorem dX11_bare_31 : decode cX11_bare 31 = .ok (.iconst 0, 1) := by decide +kernel
theorem dX11_bare_32 : decode cX11_bare 32 = .ok (.bastore, 1) := by decide +kernel
theorem dX11_bare_33 : decode cX11_bare 33 = .ok (.iinc 3 1, 3) := by decide +kernel
theorem dX11_bare_36 : decode cX11_bare 36 = .ok (.goto (-15), 3) := by decide +kernel
theorem dX11_bare_39 : decode cX11_bare 39 = .ok (.iconst 0, 1) := by decide +kernel
theorem dX11_bare_40 : decode cX11_bare 40 = .ok (.istore_n 3, 1) := by decide +kernel
theorem dX11_bare_41 : decode cX11_bare 41 = .ok (.iload_n 3, 1) := by decide +kernel
theorem dX11_bare_42 : decode cX11_bare 42 = .ok (.iload_n 1, 1) := by decide +kernel
theorem dX11_bare_43 : decode cX11_bare 43 = .ok (.if_icmp .gt 37, 3) := by decide +kernel
theorem dX11_bare_46 : decode cX11_bare 46 = .ok (.iload_n 3, 1) := by decide +kernel
theorem dX11_bare_47 : decode cX11_bare 47 = .ok (.i2l, 1) := by decide +kernel
theorem dX11_bare_48 : decode cX11_bare 48 = .ok (.aload_n 0, 1) := by decide +kernel
theorem dX11_bare_49 : decode cX11_bare 49 = .ok (.iload_n 3, 1) := by decide +kernel
theorem dX11_bare_50 : decode cX11_bare 50 = .ok (.i2l, 1) := by decide +kernel
theorem dX11_bare_51 : decode cX11_bare 51 = .ok (.invokevirtual 80, 3) := by decide +kernel
theorem dX11_bare_54 : decode cX11_bare 54 = .ok (.ladd, 1) := by decide +kernel
theorem dX11_bare_55 : decode cX11_bare 55 = .ok (.lstore 4, 2) := by decide +kernel
theorem dX11_bare_57 : decode cX11_bare 57 = .ok (.lload 4, 2) := by decide +kernel
theorem dX11_bare_59 : decode cX11_bare 59 = .ok (.iload_n 1, 1) := by decide +kernel
theorem dX11_bare_60 : decode cX11_bare 60 = .ok (.i2l, 1) := by decide +kernel
theorem dX11_bare_61 : decode cX11_bare 61 = .ok (.lcmp, 1) := by decide +kernel
theorem dX11_bare_62 : decode cX11_bare 62 = .ok (.ifCond .gt 12, 3) := by decide +kernel
theorem dX11_bare_65 : decode cX11_bare 65 = .ok (.aload_n 0, 1) := by decide +kernel
theorem dX11_bare_66 : decode cX11_bare 66 = .ok (.getfield 50, 3) := by decide +kernel
theorem dX11_bare_69 : decode cX11_bare 69 = .ok (.lload 4, 2) := by decide +kernel
theorem dX11_bare_71 : decode cX11_bare 71 = .ok (.l2i, 1) := by decide +kernel
theorem dX11_bare_72 : decode cX11_bare 72 = .ok (.iconst 1, 1) := by decide +kernel
theorem dX11_bare_73 : decode cX11_bare 73 = .ok (.bastore, 1) := by decide +kernel
theorem dX11_bare_74 : decode cX11_bare 74 = .ok (.iinc 3 1, 3) := by decide +kernel
theorem dX11_bare_77 : decode cX11_bare 77 = .ok (.goto (-36), 3) := by decide +kernel
theorem dX11_bare_80 : decode cX11_bare 80 = .ok (.iconst 0, 1) := by decide +kernel
theorem dX11_bare_81 : decode cX11_bare 81 = .ok (.istore_n 3, 1) := by decide +kernel
theorem dX11_bare_82 : decode cX11_bare 82 = .ok (.iconst 0, 1) := by decide +kernel
theorem dX11_bare_83 : decode cX11_bare 83 = .ok (.istore 4, 2) := by decide +kernel
theorem dX11_bare_85 : decode cX11_bare 85 = .ok (.iload 4, 2) := by decide +kernel
theorem dX11_bare_87 : decode cX11_bare 87 = .ok (.iload_n 1, 1) := by decide +kernel
theorem dX11_bare_88 : decode cX11_bare 88 = .ok (.if_icmp .gt 45, 3) := by decide +kernel
theorem dX11_bare_91 : decode cX11_bare 91 = .ok (.aload_n 0, 1) := by decide +kernel
theorem dX11_bare_92 : decode cX11_bare 92 = .ok (.getfield 50, 3) := by decide +kernel
theorem dX11_bare_95 : decode cX11_bare 95 = .ok (.iload 4, 2) := by decide +kernel
theorem dX11_bare_97 : decode cX11_bare 97 = .ok (.baload, 1) := by decide +kernel
theorem dX11_bare_98 : decode cX11_bare 98 = .ok (.ifCond .ne 11, 3) := by decide +kernel
theorem dX11_bare_101 : decode cX11_bare 101 = .ok (.iload_n 3, 1) := by decide +kernel
theorem dX11_bare_102 : decode cX11_bare 102 = .ok (.iload_n 2, 1) := by decide +kernel
theorem dX11_bare_103 : decode cX11_bare 103 = .ok (.if_icmp .ne 6, 3) := by decide +kernel
theorem dX11_bare_106 : decode cX11_bare 106 = .ok (.iload 4, 2) := by decide +kernel
theorem dX11_bare_108 : decode cX11_bare 108 = .ok (.ireturn, 1) := by decide +kernel
theorem dX11_bare_109 : decode cX11_bare 109 = .ok (.iload_n 3, 1) := by decide +kernel
theorem dX11_bare_110 : decode cX11_bare 110 = .ok (.aload_n 0, 1) := by decide +kernel
theorem dX11_bare_111 : decode cX11_bare 111 = .ok (.getfield 50, 3) := by decide +kernel
theorem dX11_bare_114 : decode cX11_bare 114 = .ok (.iload 4, 2) := by decide +kernel
theorem dX11_bare_116 : decode cX11_bare 116 = .ok (.baload, 1) := by decide +kernel
theorem dX11_bare_117 : decode cX11_bare 117 = .ok (.ifCond .eq 7, 3) := by decide +kernel
theorem dX11_bare_120 : decode cX11_bare 120 = .ok (.iconst 0, 1) := by decide +kernel
theorem dX11_bare_121 : decode cX11_bare 121 = .ok (.goto 4, 3) := by decide +kernel
theorem dX11_bare_124 : decode cX11_bare 124 = .ok (.iconst 1, 1) := by decide +kernel
theorem dX11_bare_125 : decode cX11_bare 125 = .ok (.iadd, 1) := by decide +kernel
theorem dX11_bare_126 : decode cX11_bare 126 = .ok (.istore_n 3, 1) := by decide +kernel
theorem dX11_bare_127 : decode cX11_bare 127 = .ok (.iinc 4 1, 3) := by decide +kernel
theorem dX11_bare_130 : decode cX11_bare 130 = .ok (.goto (-45), 3) := by decide +kernel
theorem dX11_bare_133 : decode cX11_bare 133 = .ok (.iload_n 2, 1) := by decide +kernel
theorem dX11_bare_134 : decode cX11_bare 134 = .ok (.iconst (-1), 1) := by decide +kernel
theorem dX11_bare_135 : decode cX11_bare 135 = .ok (.if_icmp .ne 7, 3) := by decide +kernel
theorem dX11_bare_138 : decode cX11_bare 138 = .ok (.iload_n 3, 1) := by decide +kernel
theorem dX11_bare_139 : decode cX11_bare 139 = .ok (.goto 5, 3) := by decide +kernel
theorem dX11_bare_142 : decode cX11_bare 142 = .ok (.bipush (-4), 2) := by decide +kernel
theorem dX11_bare_144 : decode cX11_bare 144 = .ok (.ireturn, 1) := by decide +kernel
set_option maxRecDepth 20000 in
theorem ggX11_raised_X11_in : GoodIn wsX11_raised wsX11_in := goodIn_r _ [5] (by decide +kernel) (by decide +kernel)
set_option maxRecDepth 20000 in
theorem gX11_raised_X11_in : GoodIn wsX11_raised (va_wsS RX11 57 yX11_in wsX11_in) := goodIn_app (goodIn_of _ (by decide +kernel)) ggX11_raised_X11_in
set_option maxRecDepth 20000 in
theorem ggX11_raised_X11_sum : GoodIn wsX11_raised wsX11_sum := goodIn_r _ [9, 10, 11, 12, 13, 14, 15, 4, 16, 17, 18, 19, 20, 21, 22, 23, 24, 25, 26, 27, 28, 29, 30, 31, 32, 33, 34, 35, 36, 37, 38, 39, 40, 41] (by decide +kernel) (by decide +kernel)
set_option maxRecDepth 20000 in
theorem gX11_raised_X11_sum : GoodIn wsX11_raised (wsV RX11 80 RX11 yX11_sum wsX11_sum) := goodIn_app (goodIn_of _ (by decide +kernel)) ggX11_raised_X11_sum
theorem dX11_raised_0 : decode cX11_raised 0 = .ok (.iload_n 1, 1) := by decide +kernel
theorem dX11_raised_1 : decode cX11_raised 1 = .ok (.i2l, 1) := by decide +kernel
theorem dX11_raised_2 : decode cX11_raised 2 = .ok (.lconst 0, 1) := by decide +kernel
theorem dX11_raised_3 : decode cX11_raised 3 = .ok (.ldc2_w 116, 3) := by decide +kernel
theorem dX11_raised_6 : decode cX11_raised 6 = .ok (.invokestatic 57, 3) := by decide +kernel
theorem dX11_raised_9 : decode cX11_raised 9 = .ok (.ifCond .eq 8, 3) := by decide +kernel
theorem dX11_raised_12 : decode cX11_raised 12 = .ok (.iload_n 2, 1) := by decide +kernel
theorem dX11_raised_13 : decode cX11_raised 13 = .ok (.iconst (-1), 1) := by decide +kernel
theorem dX11_raised_14 : decode cX11_raised 14 = .ok (.if_icmp .ge 5, 3) := by decide +kernel
theorem dX11_raised_17 : decode cX11_raised 17 = .ok (.iconst (-1), 1) := by decide +kernel
theorem dX11_raised_18 : decode cX11_raised 18 = .ok (.ireturn, 1) := by decide +kernel
theorem dX11_raised_19 : decode cX11_raised 19 = .ok (.iconst 0, 1) := by decide +kernel
theorem dX11_raised_20 : decode cX11_raised 20 = .ok (.istore_n 3, 1) := by decide +kernel
theorem dX11_raised_21 : decode cX11_raised 21 = .ok (.iconst 0, 1) := by decide +kernel
theorem dX11_raised_22 : decode cX11_raised 22 = .ok (.istore 4, 2) := by decide +kernel
theorem dX11_raised_24 : decode cX11_raised 24 = .ok (.iload 4, 2) := by decide +kernel
theorem dX11_raised_26 : decode cX11_raised 26 = .ok (.iload_n 1, 1) := by decide +kernel
theorem dX11_raised_27 : decode cX11_raised 27 = .ok (.if_icmp .gt 59, 3) := by decide +kernel
theorem dX11_raised_30 : decode cX11_raised 30 = .ok (.iload 4, 2) := by decide +kernel
theorem dX11_raised_32 : decode cX11_raised 32 = .ok (.i2l, 1) := by decide +kernel
theorem dX11_raised_33 : decode cX11_raised 33 = .ok (.aload_n 0, 1) := by decide +kernel
theorem dX11_raised_34 : decode cX11_raised 34 = .ok (.iload 4, 2) := by decide +kernel
theorem dX11_raised_36 : decode cX11_raised 36 = .ok (.i2l, 1) := by decide +kernel
theorem dX11_raised_37 : decode cX11_raised 37 = .ok (.invokevirtual 80, 3) := by decide +kernel
theorem dX11_raised_40 : decode cX11_raised 40 = .ok (.ladd, 1) := by decide +kernel
theorem dX11_raised_41 : decode cX11_raised 41 = .ok (.iload_n 1, 1) := by decide +kernel
theorem dX11_raised_42 : decode cX11_raised 42 = .ok (.i2l, 1) := by decide +kernel
theorem dX11_raised_43 : decode cX11_raised 43 = .ok (.lcmp, 1) := by decide +kernel
theorem dX11_raised_44 : decode cX11_raised 44 = .ok (.ifCond .ne 7, 3) := by decide +kernel
theorem dX11_raised_47 : decode cX11_raised 47 = .ok (.iconst 1, 1) := by decide +kernel
theorem dX11_raised_48 : decode cX11_raised 48 = .ok (.goto 4, 3) := by decide +kernel
theorem dX11_raised_51 : decode cX11_raised 51 = .ok (.iconst 0, 1) := by decide +kernel
theorem dX11_raised_52 : decode cX11_raised 52 = .ok (.istore 5, 2) := by decide +kernel
theorem dX11_raised_54 : decode cX11_raised 54 = .ok (.iload 5, 2) := by decide +kernel
theorem dX11_raised_56 : decode cX11_raised 56 = .ok (.ifCond .eq 11, 3) := by decide +kernel
theorem dX11_raised_59 : decode cX11_raised 59 = .ok (.iload_n 3, 1) := by decide +kernel
theorem dX11_raised_60 : decode cX11_raised 60 = .ok (.iload_n 2, 1) := by decide +kernel
theorem dX11_raised_61 : decode cX11_raised 61 = .ok (.if_icmp .ne 6, 3) := by decide +kernel
theorem dX11_raised_64 : decode cX11_raised 64 = .ok (.iload 4, 2) := by decide +kernel
theorem dX11_raised_66 : decode cX11_raised 66 = .ok (.ireturn, 1) := by decide +kernel
theorem dX11_raised_67 : decode cX11_raised 67 = .ok (.iload_n 3, 1) := by decide +kernel
theorem dX11_raised_68 : decode cX11_raised 68 = .ok (.iload 5, 2) := by decide +kernel
theorem dX11_raised_70 : decode cX11_raised 70 = .ok (.ifCond .eq 7, 3) := by decide +kernel
theorem dX11_raised_73 : decode cX11_raised 73 = .ok (.iconst 1, 1) := by decide +kernel
theorem dX11_raised_74 : decode cX11_raised 74 = .ok (.goto 4, 3) := by decide +kernel
theorem dX11_raised_77 : decode cX11_raised 77 = .ok (.iconst 0, 1) := by decide +kernel
theorem dX11_raised_78 : decode cX11_raised 78 = .ok (.iadd, 1) := by decide +kernel
theorem dX11_raised_79 : decode cX11_raised 79 = .ok (.istore_n 3, 1) := by decide +kernel
theorem dX11_raised_80 : decode cX11_raised 80 = .ok (.iinc 4 1, 3) := by decide +kernel
theorem dX11_raised_83 : decode cX11_raised 83 = .ok (.goto (-59), 3) := by decide +kernel
theorem dX11_raised_86 : decode cX11_raised 86 = .ok (.iload_n 2, 1) := by decide +kernel
theorem dX11_raised_87 : decode cX11_raised 87 = .ok (.iconst (-1), 1) := by decide +kernel
theorem dX11_raised_88 : decode cX11_raised 88 = .ok (.if_icmp .ne 7, 3) := by decide +kernel
theorem dX11_raised_91 : decode cX11_raised 91 = .ok (.iload_n 3, 1) := by decide +kernel
theorem dX11_raised_92 : decode cX11_raised 92 = .ok (.goto 5, 3) := by decide +kernel
theorem dX11_raised_95 : decode cX11_raised 95 = .ok (.bipush (-4), 2) := by decide +kernel
theorem dX11_raised_97 : decode cX11_raised 97 = .ok (.ireturn, 1) := by decide +kernel
theorem dX11_count_0 : decode cX11_count 0 = .ok (.iconst 0, 1) := by decide +kernel
theorem dX11_count_1 : decode cX11_count 1 = .ok (.istore_n 2, 1) := by decide +kernel
theorem dX11_count_2 : decode cX11_count 2 = .ok (.iconst 0, 1) := by decide +kernel
theorem dX11_count_3 : decode cX11_count 3 = .ok (.istore_n 3, 1) := by decide +kernel
theorem dX11_count_4 : decode cX11_count 4 = .ok (.iload_n 3, 1) := by decide +kernel
theorem dX11_count_5 : decode cX11_count 5 = .ok (.bipush 16, 2) := by decide +kernel
theorem dX11_count_7 : decode cX11_count 7 = .ok (.if_icmp .ge 18, 3) := by decide +kernel
theorem dX11_count_10 : decode cX11_count 10 = .ok (.iload_n 2, 1) := by decide +kernel
theorem dX11_count_11 : decode cX11_count 11 = .ok (.aload_n 0, 1) := by decide +kernel
theorem dX11_count_12 : decode cX11_count 12 = .ok (.getfield 13, 3) := by decide +kernel
theorem dX11_count_15 : decode cX11_count 15 = .ok (.iload_n 3, 1) := by decide +kernel
theorem dX11_count_16 : decode cX11_count 16 = .ok (.iaload, 1) := by decide +kernel
theorem dX11_count_17 : decode cX11_count 17 = .ok (.iadd, 1) := by decide +kernel
theorem dX11_count_18 : decode cX11_count 18 = .ok (.istore_n 2, 1) := by decide +kernel
theorem dX11_count_19 : decode cX11_count 19 = .ok (.iinc 3 1, 3) := by decide +kernel
theorem dX11_count_22 : decode cX11_count 22 = .ok (.goto (-18), 3) := by decide +kernel
theorem dX11_count_25 : decode cX11_count 25 = .ok (.iload_n 1, 1) := by decide +kernel
theorem dX11_count_26 : decode cX11_count 26 = .ok (.ifCond .ne 10, 3) := by decide +kernel
theorem dX11_count_29 : decode cX11_count 29 = .ok (.aload_n 0, 1) := by decide +kernel
theorem dX11_count_30 : decode cX11_count 30 = .ok (.getfield 7, 3) := by decide +kernel
theorem dX11_count_33 : decode cX11_count 33 = .ok (.goto 13, 3) := by decide +kernel
theorem dX11_count_36 : decode cX11_count 36 = .ok (.iload_n 1, 1) := by decide +kernel
theorem dX11_count_37 : decode cX11_count 37 = .ok (.iconst 1, 1) := by decide +kernel
theorem dX11_count_38 : decode cX11_count 38 = .ok (.if_icmp .ne 7, 3) := by decide +kernel
theorem dX11_count_41 : decode cX11_count 41 = .ok (.iload_n 2, 1) := by decide +kernel
theorem dX11_count_42 : decode cX11_count 42 = .ok (.goto 4, 3) := by decide +kernel
theorem dX11_count_45 : decode cX11_count 45 = .ok (.iconst (-1), 1) := by decide +kernel
theorem dX11_count_46 : decode cX11_count 46 = .ok (.ireturn, 1) := by decide +kernel
theorem dJ6_bitCount_0f7a4_0 : decode cJ6_bitCount_0f7a4 0 = .ok (.iload_n 0, 1) := by decide +kernel
theorem dJ6_bitCount_0f7a4_1 : decode cJ6_bitCount_0f7a4 1 = .ok (.iload_n 0, 1) := by decide +kernel
theorem dJ6_bitCount_0f7a4_2 : decode cJ6_bitCount_0f7a4 2 = .ok (.iconst 1, 1) := by decide +kernel
theorem dJ6_bitCount_0f7a4_3 : decode cJ6_bitCount_0f7a4 3 = .ok (.iushr, 1) := by decide +kernel
theorem dJ6_bitCount_0f7a4_4 : decode cJ6_bitCount_0f7a4 4 = .ok (.ldc_w 265, 3) := by decide +kernel
theorem dJ6_bitCount_0f7a4_7 : decode cJ6_bitCount_0f7a4 7 = .ok (.iand, 1) := by decide +kernel
theorem dJ6_bitCount_0f7a4_8 : decode cJ6_bitCount_0f7a4 8 = .ok (.isub, 1) := by decide +kernel
theorem dJ6_bitCount_0f7a4_9 : decode cJ6_bitCount_0f7a4 9 = .ok (.istore_n 0, 1) := by decide +kernel
theorem dJ6_bitCount_0f7a4_10 : decode cJ6_bitCount_0f7a4 10 = .ok (.iload_n 0, 1) := by decide +kernel
theorem dJ6_bitCount_0f7a4_11 : decode cJ6_bitCount_0f7a4 11 = .ok (.ldc_w 266, 3) := by decide +kernel
theorem dJ6_bitCount_0f7a4_14 : decode cJ6_bitCount_0f7a4 14 = .ok (.iand, 1) := by decide +kernel
theorem dJ6_bitCount_0f7a4_15 : decode cJ6_bitCount_0f7a4 15 = .ok (.iload_n 0, 1) := by decide +kernel
theorem dJ6_bitCount_0f7a4_16 : decode cJ6_bitCount_0f7a4 16 = .ok (.iconst 2, 1) := by decide +kernel
theorem dJ6_bitCount_0f7a4_17 : decode cJ6_bitCount_0f7a4 17 = .ok (.iushr, 1) := by decide +kernel
theorem dJ6_bitCount_0f7a4_18 : decode cJ6_bitCount_0f7a4 18 = .ok (.ldc_w 266, 3) := by decide +kernel
theorem dJ6_bitCount_0f7a4_21 : decode cJ6_bitCount_0f7a4 21 = .ok (.iand, 1) := by decide +kernel
theorem dJ6_bitCount_0f7a4_22 : decode cJ6_bitCount_0f7a4 22 = .ok (.iadd, 1) := by decide +kernel
theorem dJ6_bitCount_0f7a4_23 : decode cJ6_bitCount_0f7a4 23 = .ok (.istore_n 0, 1) := by decide +kernel
theorem dJ6_bitCount_0f7a4_24 : decode cJ6_bitCount_0f7a4 24 = .ok (.iload_n 0, 1) := by decide +kernel
theorem dJ6_bitCount_0f7a4_25 : decode cJ6_bitCount_0f7a4 25 = .ok (.iload_n 0, 1) := by decide +kernel
theorem dJ6_bitCount_0f7a4_26 : decode cJ6_bitCount_0f7a4 26 = .ok (.iconst 4, 1) := by decide +kernel
theorem dJ6_bitCount_0f7a4_27 : decode cJ6_bitCount_0f7a4 27 = .ok (.iushr, 1) := by decide +kernel
theorem dJ6_bitCount_0f7a4_28 : decode cJ6_bitCount_0f7a4 28 = .ok (.iadd, 1) := by decide +kernel
theorem dJ6_bitCount_0f7a4_29 : decode cJ6_bitCount_0f7a4 29 = .ok (.ldc_w 267, 3) := by decide +kernel
theorem dJ6_bitCount_0f7a4_32 : decode cJ6_bitCount_0f7a4 32 = .ok (.iand, 1) := by decide +kernel
theorem dJ6_bitCount_0f7a4_33 : decode cJ6_bitCount_0f7a4 33 = .ok (.istore_n 0, 1) := by decide +kernel
theorem dJ6_bitCount_0f7a4_34 : decode cJ6_bitCount_0f7a4 34 = .ok (.iload_n 0, 1) := by decide +kernel
theorem dJ6_bitCount_0f7a4_35 : decode cJ6_bitCount_0f7a4 35 = .ok (.iload_n 0, 1) := by decide +kernel
theorem dJ6_bitCount_0f7a4_36 : decode cJ6_bitCount_0f7a4 36 = .ok (.bipush 8, 2) := by decide +kernel
theorem dJ6_bitCount_0f7a4_38 : decode cJ6_bitCount_0f7a4 38 = .ok (.iushr, 1) := by decide +kernel
theorem dJ6_bitCount_0f7a4_39 : decode cJ6_bitCount_0f7a4 39 = .ok (.iadd, 1) := by decide +kernel
theorem dJ6_bitCount_0f7a4_40 : decode cJ6_bitCount_0f7a4 40 = .ok (.istore_n 0, 1) := by decide +kernel
theorem dJ6_bitCount_0f7a4_41 : decode cJ6_bitCount_0f7a4 41 = .ok (.iload_n 0, 1) := by decide +kernel
theorem dJ6_bitCount_0f7a4_42 : decode cJ6_bitCount_0f7a4 42 = .ok (.iload_n 0, 1) := by decide +kernel
theorem dJ6_bitCount_0f7a4_43 : decode cJ6_bitCount_0f7a4 43 = .ok (.bipush 16, 2) := by decide +kernel
theorem dJ6_bitCount_0f7a4_45 : decode cJ6_bitCount_0f7a4 45 = .ok (.iushr, 1) := by decide +kernel
theorem dJ6_bitCount_0f7a4_46 : decode cJ6_bitCount_0f7a4 46 = .ok (.iadd, 1) := by decide +kernel
theorem dJ6_bitCount_0f7a4_47 : decode cJ6_bitCount_0f7a4 47 = .ok (.istore_n 0, 1) := by decide +kernel
theorem dJ6_bitCount_0f7a4_48 : decode cJ6_bitCount_0f7a4 48 = .ok (.iload_n 0, 1) := by decide +kernel
theorem dJ6_bitCount_0f7a4_49 : decode cJ6_bitCount_0f7a4 49 = .ok (.bipush 63, 2) := by decide +kernel
theorem dJ6_bitCount_0f7a4_51 : decode cJ6_bitCount_0f7a4 51 = .ok (.iand, 1) := by decide +kernel
theorem dJ6_bitCount_0f7a4_52 : decode cJ6_bitCount_0f7a4 52 = .ok (.ireturn, 1) := by decide +kernel
theorem dJ9_max_7cf53_0 : decode cJ9_max_7cf53 0 = .ok (.iload_n 0, 1) := by decide +kernel
theorem dJ9_max_7cf53_1 : decode cJ9_max_7cf53 1 = .ok (.iload_n 1, 1) := by decide +kernel
theorem dJ9_max_7cf53_2 : decode cJ9_max_7cf53 2 = .ok (.if_icmp .lt 7, 3) := by decide +kernel
theorem dJ9_max_7cf53_5 : decode cJ9_max_7cf53 5 = .ok (.iload_n 0, 1) := by decide +kernel
theorem dJ9_max_7cf53_6 : decode cJ9_max_7cf53 6 = .ok (.goto 4, 3) := by decide +kernel
theorem dJ9_max_7cf53_9 : decode cJ9_max_7cf53 9 = .ok (.iload_n 1, 1) := by decide +kernel
theorem dJ9_max_7cf53_10 : decode cJ9_max_7cf53 10 = .ok (.ireturn, 1) := by decide +kernel
theorem dJ9_max_f86c9_0 : decode cJ9_max_f86c9 0 = .ok (.lload_n 0, 1) := by decide +kernel
theorem dJ9_max_f86c9_1 : decode cJ9_max_f86c9 1 = .ok (.lload_n 2, 1) := by decide +kernel
theorem dJ9_max_f86c9_2 : decode cJ9_max_f86c9 2 = .ok (.lcmp, 1) := by decide +kernel
theorem dJ9_max_f86c9_3 : decode cJ9_max_f86c9 3 = .ok (.ifCond .lt 7, 3) := by decide +kernel
theorem dJ9_max_f86c9_6 : decode cJ9_max_f86c9 6 = .ok (.lload_n 0, 1) := by decide +kernel
theorem dJ9_max_f86c9_7 : decode cJ9_max_f86c9 7 = .ok (.goto 4, 3) := by decide +kernel
theorem dJ9_max_f86c9_10 : decode cJ9_max_f86c9 10 = .ok (.lload_n 2, 1) := by decide +kernel
theorem dJ9_max_f86c9_11 : decode cJ9_max_f86c9 11 = .ok (.lreturn, 1) := by decide +kernel
theorem dJ9_min_7cf53_0 : decode cJ9_min_7cf53 0 = .ok (.iload_n 0, 1) := by decide +kernel
theorem dJ9_min_7cf53_1 : decode cJ9_min_7cf53 1 = .ok (.iload_n 1, 1) := by decide +kernel
theorem dJ9_min_7cf53_2 : decode cJ9_min_7cf53 2 = .ok (.if_icmp .gt 7, 3) := by decide +kernel
theorem dJ9_min_7cf53_5 : decode cJ9_min_7cf53 5 = .ok (.iload_n 0, 1) := by decide +kernel
theorem dJ9_min_7cf53_6 : decode cJ9_min_7cf53 6 = .ok (.goto 4, 3) := by decide +kernel
theorem dJ9_min_7cf53_9 : decode cJ9_min_7cf53 9 = .ok (.iload_n 1, 1) := by decide +kernel
theorem dJ9_min_7cf53_10 : decode cJ9_min_7cf53 10 = .ok (.ireturn, 1) := by decide +kernel
