theorem dX8_owesSo_5 : decode cX8_owesSo 5 = .ok (.iload_n 3, 1) := by decide +kernel
theorem dX8_owesSo_6 : decode cX8_owesSo 6 = .ok (.imul, 1) := by decide +kernel
theorem dX8_owesSo_7 : decode cX8_owesSo 7 = .ok (.iload 4, 2) := by decide +kernel
theorem dX8_owesSo_9 : decode cX8_owesSo 9 = .ok (.iadd, 1) := by decide +kernel
theorem dX8_owesSo_10 : decode cX8_owesSo 10 = .ok (.istore 7, 2) := by decide +kernel
theorem dX8_owesSo_12 : decode cX8_owesSo 12 = .ok (.iload 7, 2) := by decide +kernel
theorem dX8_owesSo_14 : decode cX8_owesSo 14 = .ok (.bipush 40, 2) := by decide +kernel
theorem dX8_owesSo_16 : decode cX8_owesSo 16 = .ok (.iload_n 3, 1) := by decide +kernel
theorem dX8_owesSo_17 : decode cX8_owesSo 17 = .ok (.imul, 1) := by decide +kernel
theorem dX8_owesSo_18 : decode cX8_owesSo 18 = .ok (.iload 4, 2) := by decide +kernel
theorem dX8_owesSo_20 : decode cX8_owesSo 20 = .ok (.iadd, 1) := by decide +kernel
theorem dX8_owesSo_21 : decode cX8_owesSo 21 = .ok (.iconst 2, 1) := by decide +kernel
theorem dX8_owesSo_22 : decode cX8_owesSo 22 = .ok (.iload 5, 2) := by decide +kernel
theorem dX8_owesSo_24 : decode cX8_owesSo 24 = .ok (.imul, 1) := by decide +kernel
theorem dX8_owesSo_25 : decode cX8_owesSo 25 = .ok (.iadd, 1) := by decide +kernel
theorem dX8_owesSo_26 : decode cX8_owesSo 26 = .ok (.if_icmp .ge 46, 3) := by decide +kernel
theorem dX8_owesSo_29 : decode cX8_owesSo 29 = .ok (.iload 6, 2) := by decide +kernel
theorem dX8_owesSo_31 : decode cX8_owesSo 31 = .ok (.ifCond .eq 32, 3) := by decide +kernel
theorem dX8_owesSo_34 : decode cX8_owesSo 34 = .ok (.aload_n 0, 1) := by decide +kernel
theorem dX8_owesSo_35 : decode cX8_owesSo 35 = .ok (.iload_n 1, 1) := by decide +kernel
theorem dX8_owesSo_36 : decode cX8_owesSo 36 = .ok (.iload_n 2, 1) := by decide +kernel
theorem dX8_owesSo_37 : decode cX8_owesSo 37 = .ok (.aload_n 0, 1) := by decide +kernel
theorem dX8_owesSo_38 : decode cX8_owesSo 38 = .ok (.getfield 23, 3) := by decide +kernel
theorem dX8_owesSo_41 : decode cX8_owesSo 41 = .ok (.iload 7, 2) := by decide +kernel
theorem dX8_owesSo_43 : decode cX8_owesSo 43 = .ok (.iaload, 1) := by decide +kernel
theorem dX8_owesSo_44 : decode cX8_owesSo 44 = .ok (.invokevirtual 145, 3) := by decide +kernel
theorem dX8_owesSo_47 : decode cX8_owesSo 47 = .ok (.aload_n 0, 1) := by decide +kernel
theorem dX8_owesSo_48 : decode cX8_owesSo 48 = .ok (.getfield 23, 3) := by decide +kernel
theorem dX8_owesSo_51 : decode cX8_owesSo 51 = .ok (.iload 7, 2) := by decide +kernel
theorem dX8_owesSo_53 : decode cX8_owesSo 53 = .ok (.iconst 1, 1) := by decide +kernel
theorem dX8_owesSo_54 : decode cX8_owesSo 54 = .ok (.iadd, 1) := by decide +kernel
theorem dX8_owesSo_55 : decode cX8_owesSo 55 = .ok (.iaload, 1) := by decide +kernel
theorem dX8_owesSo_56 : decode cX8_owesSo 56 = .ok (.if_icmp .ne 7, 3) := by decide +kernel
theorem dX8_owesSo_59 : decode cX8_owesSo 59 = .ok (.iconst 1, 1) := by decide +kernel
theorem dX8_owesSo_60 : decode cX8_owesSo 60 = .ok (.goto 4, 3) := by decide +kernel
theorem dX8_owesSo_63 : decode cX8_owesSo 63 = .ok (.iconst 0, 1) := by decide +kernel
theorem dX8_owesSo_64 : decode cX8_owesSo 64 = .ok (.istore 6, 2) := by decide +kernel
theorem dX8_owesSo_66 : decode cX8_owesSo 66 = .ok (.iinc 7 2, 3) := by decide +kernel
theorem dX8_owesSo_69 : decode cX8_owesSo 69 = .ok (.goto (-57), 3) := by decide +kernel
theorem dX8_owesSo_72 : decode cX8_owesSo 72 = .ok (.iload 6, 2) := by decide +kernel
theorem dX8_owesSo_74 : decode cX8_owesSo 74 = .ok (.ireturn, 1) := by decide +kernel
set_option maxRecDepth 20000 in
theorem ggX8_isSeenSo_X8_isSeen : GoodIn wsX8_isSeenSo wsX8_isSeen := goodIn_r _ [6, 7, 8, 9, 10, 11, 12, 13, 14, 15, 16, 17, 18, 19, 20, 21, 22, 23, 24] (by decide +kernel) (by decide +kernel)
set_option maxRecDepth 20000 in
theorem gX8_isSeenSo_X8_isSeen : GoodIn wsX8_isSeenSo (wsV RX8 154 RX8 yX8_isSeen wsX8_isSeen) := goodIn_app (goodIn_of _ (by decide +kernel)) ggX8_isSeenSo_X8_isSeen
theorem dX8_isSeenSo_0 : decode cX8_isSeenSo 0 = .ok (.iconst 1, 1) := by decide +kernel
theorem dX8_isSeenSo_1 : decode cX8_isSeenSo 1 = .ok (.istore 5, 2) := by decide +kernel
theorem dX8_isSeenSo_3 : decode cX8_isSeenSo 3 = .ok (.bipush 40, 2) := by decide +kernel
theorem dX8_isSeenSo_5 : decode cX8_isSeenSo 5 = .ok (.iload_n 2, 1) := by decide +kernel
theorem dX8_isSeenSo_6 : decode cX8_isSeenSo 6 = .ok (.imul, 1) := by decide +kernel
theorem dX8_isSeenSo_7 : decode cX8_isSeenSo 7 = .ok (.iload_n 3, 1) := by decide +kernel
theorem dX8_isSeenSo_8 : decode cX8_isSeenSo 8 = .ok (.iadd, 1) := by decide +kernel
theorem dX8_isSeenSo_9 : decode cX8_isSeenSo 9 = .ok (.istore 6, 2) := by decide +kernel
theorem dX8_isSeenSo_11 : decode cX8_isSeenSo 11 = .ok (.iload 6, 2) := by decide +kernel
theorem dX8_isSeenSo_13 : decode cX8_isSeenSo 13 = .ok (.bipush 40, 2) := by decide +kernel
theorem dX8_isSeenSo_15 : decode cX8_isSeenSo 15 = .ok (.iload_n 2, 1) := by decide +kernel
theorem dX8_isSeenSo_16 : decode cX8_isSeenSo 16 = .ok (.imul, 1) := by decide +kernel
theorem dX8_isSeenSo_17 : decode cX8_isSeenSo 17 = .ok (.iload_n 3, 1) := by decide +kernel
theorem dX8_isSeenSo_18 : decode cX8_isSeenSo 18 = .ok (.iadd, 1) := by decide +kernel
theorem dX8_isSeenSo_19 : decode cX8_isSeenSo 19 = .ok (.iconst 2, 1) := by decide +kernel
theorem dX8_isSeenSo_20 : decode cX8_isSeenSo 20 = .ok (.iload 4, 2) := by decide +kernel
theorem dX8_isSeenSo_22 : decode cX8_isSeenSo 22 = .ok (.imul, 1) := by decide +kernel
theorem dX8_isSeenSo_23 : decode cX8_isSeenSo 23 = .ok (.iadd, 1) := by decide +kernel
theorem dX8_isSeenSo_24 : decode cX8_isSeenSo 24 = .ok (.if_icmp .ge 36, 3) := by decide +kernel
theorem dX8_isSeenSo_27 : decode cX8_isSeenSo 27 = .ok (.iload 5, 2) := by decide +kernel
theorem dX8_isSeenSo_29 : decode cX8_isSeenSo 29 = .ok (.ifCond .eq 22, 3) := by decide +kernel
theorem dX8_isSeenSo_32 : decode cX8_isSeenSo 32 = .ok (.aload_n 0, 1) := by decide +kernel
theorem dX8_isSeenSo_33 : decode cX8_isSeenSo 33 = .ok (.iload_n 1, 1) := by decide +kernel
theorem dX8_isSeenSo_34 : decode cX8_isSeenSo 34 = .ok (.aload_n 0, 1) := by decide +kernel
theorem dX8_isSeenSo_35 : decode cX8_isSeenSo 35 = .ok (.getfield 23, 3) := by decide +kernel
theorem dX8_isSeenSo_38 : decode cX8_isSeenSo 38 = .ok (.iload 6, 2) := by decide +kernel
theorem dX8_isSeenSo_40 : decode cX8_isSeenSo 40 = .ok (.iaload, 1) := by decide +kernel
theorem dX8_isSeenSo_41 : decode cX8_isSeenSo 41 = .ok (.invokevirtual 154, 3) := by decide +kernel
theorem dX8_isSeenSo_44 : decode cX8_isSeenSo 44 = .ok (.ifCond .eq 7, 3) := by decide +kernel
theorem dX8_isSeenSo_47 : decode cX8_isSeenSo 47 = .ok (.iconst 1, 1) := by decide +kernel
theorem dX8_isSeenSo_48 : decode cX8_isSeenSo 48 = .ok (.goto 4, 3) := by decide +kernel
theorem dX8_isSeenSo_51 : decode cX8_isSeenSo 51 = .ok (.iconst 0, 1) := by decide +kernel
theorem dX8_isSeenSo_52 : decode cX8_isSeenSo 52 = .ok (.istore 5, 2) := by decide +kernel
theorem dX8_isSeenSo_54 : decode cX8_isSeenSo 54 = .ok (.iinc 6 2, 3) := by decide +kernel
theorem dX8_isSeenSo_57 : decode cX8_isSeenSo 57 = .ok (.goto (-46), 3) := by decide +kernel
theorem dX8_isSeenSo_60 : decode cX8_isSeenSo 60 = .ok (.iload 5, 2) := by decide +kernel
theorem dX8_isSeenSo_62 : decode cX8_isSeenSo 62 = .ok (.ireturn, 1) := by decide +kernel
set_option maxRecDepth 20000 in
theorem ggX8_thread_X8_isRow : GoodIn wsX8_thread wsX8_isRow := goodIn_r _ [9, 10, 11, 12, 8, 13] (by decide +kernel) (by decide +kernel)
set_option maxRecDepth 20000 in
theorem gX8_thread_X8_isRow : GoodIn wsX8_thread (va_wsS RX8 46 yX8_isRow wsX8_isRow) := goodIn_app (goodIn_of _ (by decide +kernel)) ggX8_thread_X8_isRow
set_option maxRecDepth 20000 in
theorem ggX8_thread_X8_in : GoodIn wsX8_thread wsX8_in := goodIn_r _ [13] (by decide +kernel) (by decide +kernel)
set_option maxRecDepth 20000 in
theorem gX8_thread_X8_in : GoodIn wsX8_thread (va_wsS RX8 42 yX8_in wsX8_in) := goodIn_app (goodIn_of _ (by decide +kernel)) ggX8_thread_X8_in
set_option maxRecDepth 20000 in
theorem ggX8_thread_X8_noPairs : GoodIn wsX8_thread wsX8_noPairs := goodIn_r _ [17, 18, 19, 4, 20, 21, 22, 8, 23, 24, 25, 26, 27, 28, 29, 30, 31, 32, 33, 5, 11, 12, 13, 65, 66, 67, 68, 69, 70, 71, 72, 73, 74, 75, 76, 77, 78, 79, 80, 81] (by decide +kernel) (by decide +kernel)
set_option maxRecDepth 20000 in
theorem gX8_thread_X8_noPairs : GoodIn wsX8_thread (wsV RX8 206 RX8 yX8_noPairs wsX8_noPairs) := goodIn_app (goodIn_of _ (by decide +kernel)) ggX8_thread_X8_noPairs
set_option maxRecDepth 20000 in
theorem ggX8_thread_X8_isSeenSo : GoodIn wsX8_thread wsX8_isSeenSo := goodIn_r _ [37, 19, 38, 39, 40, 8, 41, 5, 65, 66, 67, 68, 69, 70, 71, 72, 73, 74, 75, 76, 77, 78, 79, 80, 81] (by decide +kernel) (by decide +kernel)
set_option maxRecDepth 20000 in
theorem gX8_thread_X8_isSeenSo : GoodIn wsX8_thread (wsV RX8 209 RX8 yX8_isSeenSo wsX8_isSeenSo) := goodIn_app (goodIn_of _ (by decide +kernel)) ggX8_thread_X8_isSeenSo
set_option maxRecDepth 20000 in
theorem ggX8_thread_X8_owesSo : GoodIn wsX8_thread wsX8_owesSo := goodIn_r _ [45, 19, 46, 47, 48, 8, 49, 5, 50, 51, 52, 53, 54, 55, 56, 57, 58, 59, 60, 65, 66, 67, 68, 69, 70, 71, 72, 73, 74, 75, 76, 77, 78, 79, 80, 81] (by decide +kernel) (by decide +kernel)
set_option maxRecDepth 20000 in
theorem gX8_thread_X8_owesSo : GoodIn wsX8_thread (wsV RX8 213 RX8 yX8_owesSo wsX8_owesSo) := goodIn_app (goodIn_of _ (by decide +kernel)) ggX8_thread_X8_owesSo
set_option maxRecDepth 20000 in
theorem ggX8_thread_X8_well : GoodIn wsX8_thread wsX8_well := goodIn_r _ [64, 24, 65, 66, 67, 68, 69, 70, 71, 72, 73, 74, 75, 76, 77, 78, 79, 80, 81] (by decide +kernel) (by decide +kernel)
set_option maxRecDepth 20000 in
theorem gX8_thread_X8_well : GoodIn wsX8_thread (wsV RX8 57 RX8 yX8_well wsX8_well) := goodIn_app (goodIn_of _ (by decide +kernel)) ggX8_thread_X8_well
theorem dX8_thread_0 : decode cX8_thread 0 = .ok (.aload_n 0, 1) := by decide +kernel
theorem dX8_thread_1 : decode cX8_thread 1 = .ok (.getfield 127, 3) := by decide +kernel
theorem dX8_thread_4 : decode cX8_thread 4 = .ok (.ifCond .ne 6, 3) := by decide +kernel
theorem dX8_thread_7 : decode cX8_thread 7 = .ok (.ldc 134, 2) := by decide +kernel
theorem dX8_thread_9 : decode cX8_thread 9 = .ok (.ireturn, 1) := by decide +kernel
theorem dX8_thread_10 : decode cX8_thread 10 = .ok (.iload_n 1, 1) := by decide +kernel
theorem dX8_thread_11 : decode cX8_thread 11 = .ok (.invokestatic 46, 3) := by decide +kernel
theorem dX8_thread_14 : decode cX8_thread 14 = .ok (.ifCond .eq 15, 3) := by decide +kernel
theorem dX8_thread_17 : decode cX8_thread 17 = .ok (.iload_n 3, 1) := by decide +kernel
theorem dX8_thread_18 : decode cX8_thread 18 = .ok (.i2l, 1) := by decide +kernel
theorem dX8_thread_19 : decode cX8_thread 19 = .ok (.lconst 1, 1) := by decide +kernel
theorem dX8_thread_20 : decode cX8_thread 20 = .ok (.ldc2_w 204, 3) := by decide +kernel
theorem dX8_thread_23 : decode cX8_thread 23 = .ok (.invokestatic 42, 3) := by decide +kernel
theorem dX8_thread_26 : decode cX8_thread 26 = .ok (.ifCond .ne 6, 3) := by decide +kernel
theorem dX8_thread_29 : decode cX8_thread 29 = .ok (.ldc 52, 2) := by decide +kernel
theorem dX8_thread_31 : decode cX8_thread 31 = .ok (.ireturn, 1) := by decide +kernel
theorem dX8_thread_32 : decode cX8_thread 32 = .ok (.aload_n 0, 1) := by decide +kernel
theorem dX8_thread_33 : decode cX8_thread 33 = .ok (.iload_n 1, 1) := by decide +kernel
theorem dX8_thread_34 : decode cX8_thread 34 = .ok (.iload_n 2, 1) := by decide +kernel
theorem dX8_thread_35 : decode cX8_thread 35 = .ok (.iload_n 3, 1) := by decide +kernel
theorem dX8_thread_36 : decode cX8_thread 36 = .ok (.invokevirtual 206, 3) := by decide +kernel
theorem dX8_thread_39 : decode cX8_thread 39 = .ok (.istore 4, 2) := by decide +kernel
theorem dX8_thread_41 : decode cX8_thread 41 = .ok (.iload 4, 2) := by decide +kernel
theorem dX8_thread_43 : decode cX8_thread 43 = .ok (.ifCond .eq 6, 3) := by decide +kernel
theorem dX8_thread_46 : decode cX8_thread 46 = .ok (.iload 4, 2) := by decide +kernel
theorem dX8_thread_48 : decode cX8_thread 48 = .ok (.ireturn, 1) := by decide +kernel
theorem dX8_thread_49 : decode cX8_thread 49 = .ok (.iconst 0, 1) := by decide +kernel
theorem dX8_thread_50 : decode cX8_thread 50 = .ok (.istore 5, 2) := by decide +kernel
theorem dX8_thread_52 : decode cX8_thread 52 = .ok (.iconst 0, 1) := by decide +kernel
theorem dX8_thread_53 : decode cX8_thread 53 = .ok (.istore 6, 2) := by decide +kernel
theorem dX8_thread_55 : decode cX8_thread 55 = .ok (.iload 6, 2) := by decide +kernel
theorem dX8_thread_57 : decode cX8_thread 57 = .ok (.aload_n 0, 1) := by decide +kernel
theorem dX8_thread_58 : decode cX8_thread 58 = .ok (.getfield 7, 3) := by decide +kernel
theorem dX8_thread_61 : decode cX8_thread 61 = .ok (.iconst 2, 1) := by decide +kernel
theorem dX8_thread_62 : decode cX8_thread 62 = .ok (.iaload, 1) := by decide +kernel
theorem dX8_thread_63 : decode cX8_thread 63 = .ok (.if_icmp .ge 64, 3) := by decide +kernel
theorem dX8_thread_66 : decode cX8_thread 66 = .ok (.iload 5, 2) := by decide +kernel
theorem dX8_thread_68 : decode cX8_thread 68 = .ok (.aload_n 0, 1) := by decide +kernel
theorem dX8_thread_69 : decode cX8_thread 69 = .ok (.iload 6, 2) := by decide +kernel
theorem dX8_thread_71 : decode cX8_thread 71 = .ok (.iload_n 1, 1) := by decide +kernel
theorem dX8_thread_72 : decode cX8_thread 72 = .ok (.iload_n 2, 1) := by decide +kernel
theorem dX8_thread_73 : decode cX8_thread 73 = .ok (.iload_n 3, 1) := by decide +kernel
theorem dX8_thread_74 : decode cX8_thread 74 = .ok (.invokevirtual 209, 3) := by decide +kernel
theorem dX8_thread_77 : decode cX8_thread 77 = .ok (.ifCond .eq 40, 3) := by decide +kernel
theorem dX8_thread_80 : decode cX8_thread 80 = .ok (.aload_n 0, 1) := by decide +kernel
theorem dX8_thread_81 : decode cX8_thread 81 = .ok (.aload_n 0, 1) := by decide +kernel
theorem dX8_thread_82 : decode cX8_thread 82 = .ok (.getfield 7, 3) := by decide +kernel
theorem dX8_thread_85 : decode cX8_thread 85 = .ok (.bipush 19, 2) := by decide +kernel
theorem dX8_thread_87 : decode cX8_thread 87 = .ok (.iload 6, 2) := by decide +kernel
theorem dX8_thread_89 : decode cX8_thread 89 = .ok (.iadd, 1) := by decide +kernel
theorem dX8_thread_90 : decode cX8_thread 90 = .ok (.iaload, 1) := by decide +kernel
theorem dX8_thread_91 : decode cX8_thread 91 = .ok (.aload_n 0, 1) := by decide +kernel
theorem dX8_thread_92 : decode cX8_thread 92 = .ok (.getfield 7, 3) := by decide +kernel
theorem dX8_thread_95 : decode cX8_thread 95 = .ok (.bipush 25, 2) := by decide +kernel
theorem dX8_thread_97 : decode cX8_thread 97 = .ok (.iload 6, 2) := by decide +kernel
theorem dX8_thread_99 : decode cX8_thread 99 = .ok (.iadd, 1) := by decide +kernel
theorem dX8_thread_100 : decode cX8_thread 100 = .ok (.iaload, 1) := by decide +kernel
theorem dX8_thread_101 : decode cX8_thread 101 = .ok (.iload_n 1, 1) := by decide +kernel
theorem dX8_thread_102 : decode cX8_thread 102 = .ok (.iload_n 2, 1) := by decide +kernel
theorem dX8_thread_103 : decode cX8_thread 103 = .ok (.iload_n 3, 1) := by decide +kernel
theorem dX8_thread_104 : decode cX8_thread 104 = .ok (.invokevirtual 213, 3) := by decide +kernel
theorem dX8_thread_107 : decode cX8_thread 107 = .ok (.ifCond .eq 10, 3) := by decide +kernel
theorem dX8_thread_110 : decode cX8_thread 110 = .ok (.iconst 1, 1) := by decide +kernel
theorem dX8_thread_111 : decode cX8_thread 111 = .ok (.iload 6, 2) := by decide +kernel
theorem dX8_thread_113 : decode cX8_thread 113 = .ok (.ishl, 1) := by decide +kernel
theorem dX8_thread_114 : decode cX8_thread 114 = .ok (.goto 4, 3) := by decide +kernel
theorem dX8_thread_117 : decode cX8_thread 117 = .ok (.iconst 0, 1) := by decide +kernel
theorem dX8_thread_118 : decode cX8_thread 118 = .ok (.ior, 1) := by decide +kernel
theorem dX8_thread_119 : decode cX8_thread 119 = .ok (.istore 5, 2) := by decide +kernel
theorem dX8_thread_121 : decode cX8_thread 121 = .ok (.iinc 6 1, 3) := by decide +kernel
theorem dX8_thread_124 : decode cX8_thread 124 = .ok (.goto (-69), 3) := by decide +kernel
theorem dX8_thread_127 : decode cX8_thread 127 = .ok (.aload_n 0, 1) := by decide +kernel
theorem dX8_thread_128 : decode cX8_thread 128 = .ok (.iload 5, 2) := by decide +kernel
theorem dX8_thread_130 : decode cX8_thread 130 = .ok (.invokevirtual 57, 3) := by decide +kernel
theorem dX8_thread_133 : decode cX8_thread 133 = .ok (.ireturn, 1) := by decide +kernel
set_option maxRecDepth 20000 in
theorem ggX8_inches_X8_isGesture : GoodIn wsX8_inches wsX8_isGesture := goodIn_r _ [8, 3, 9, 10, 7, 11, 59, 60, 61, 62, 63, 64, 65, 66, 67, 68, 69, 70, 71, 72, 73, 74, 75] (by decide +kernel) (by decide +kernel)
set_option maxRecDepth 20000 in
theorem gX8_inches_X8_isGesture : GoodIn wsX8_inches (wsV RX8 148 RX8 yX8_isGesture wsX8_isGesture) := goodIn_app (goodIn_of _ (by decide +kernel)) ggX8_inches_X8_isGesture
set_option maxRecDepth 20000 in
theorem ggX8_inches_X8_isRow : GoodIn wsX8_inches wsX8_isRow := goodIn_r _ [14, 15, 9, 10, 7, 11] (by decide +kernel) (by decide +kernel)
set_option maxRecDepth 20000 in
theorem gX8_inches_X8_isRow : GoodIn wsX8_inches (va_wsS RX8 46 yX8_isRow wsX8_isRow) := goodIn_app (goodIn_of _ (by decide +kernel)) ggX8_inches_X8_isRow
set_option maxRecDepth 20000 in
theorem ggX8_inches_X8_in : GoodIn wsX8_inches wsX8_in := goodIn_r _ [11] (by decide +kernel) (by decide +kernel)
set_option maxRecDepth 20000 in
theorem gX8_inches_X8_in : GoodIn wsX8_inches (va_wsS RX8 42 yX8_in wsX8_in) := goodIn_app (goodIn_of _ (by decide +kernel)) ggX8_inches_X8_in
set_option maxRecDepth 20000 in
theorem ggX8_inches_X8_noPairs : GoodIn wsX8_inches wsX8_noPairs := goodIn_r _ [19, 20, 21, 2, 22, 23, 24, 7, 25, 26, 27, 28, 29, 30, 31, 32, 33, 34, 35, 3, 9, 10, 11, 59, 60, 61, 62, 63, 64, 65, 66, 67, 68, 69, 70, 71, 72, 73, 74, 75] (by decide +kernel) (by decide +kernel)
set_option maxRecDepth 20000 in
theorem gX8_inches_X8_noPairs : GoodIn wsX8_inches (wsV RX8 206 RX8 yX8_noPairs wsX8_noPairs) := goodIn_app (goodIn_of _ (by decide +kernel)) ggX8_inches_X8_noPairs
set_option maxRecDepth 20000 in
theorem ggX8_inches_X8_owesSo : GoodIn wsX8_inches wsX8_owesSo := goodIn_r _ [39, 21, 40, 41, 42, 7, 43, 3, 44, 45, 46, 47, 48, 49, 50, 51, 52, 53, 54, 59, 60, 61, 62, 63, 64, 65, 66, 67, 68, 69, 70, 71, 72, 73, 74, 75] (by decide +kernel) (by decide +kernel)
set_option maxRecDepth 20000 in
theorem gX8_inches_X8_owesSo : GoodIn wsX8_inches (wsV RX8 213 RX8 yX8_owesSo wsX8_owesSo) := goodIn_app (goodIn_of _ (by decide +kernel)) ggX8_inches_X8_owesSo
set_option maxRecDepth 20000 in
theorem ggX8_inches_X8_well : GoodIn wsX8_inches wsX8_well := goodIn_r _ [58, 26, 59, 60, 61, 62, 63, 64, 65, 66, 67, 68, 69, 70, 71, 72, 73, 74, 75] (by decide +kernel) (by decide +kernel)
set_option maxRecDepth 20000 in
theorem gX8_inches_X8_well : GoodIn wsX8_inches (wsV RX8 57 RX8 yX8_well wsX8_well) := goodIn_app (goodIn_of _ (by decide +kernel)) ggX8_inches_X8_well
theorem dX8_inches_0 : decode cX8_inches 0 = .ok (.aload_n 0, 1) := by decide +kernel
theorem dX8_inches_1 : decode cX8_inches 1 = .ok (.iload_n 1, 1) := by decide +kernel
theorem dX8_inches_2 : decode cX8_inches 2 = .ok (.invokevirtual 148, 3) := by decide +kernel
theorem dX8_inches_5 : decode cX8_inches 5 = .ok (.ifCond .eq 23, 3) := by decide +kernel
theorem dX8_inches_8 : decode cX8_inches 8 = .ok (.iload_n 2, 1) := by decide +kernel
theorem dX8_inches_9 : decode cX8_inches 9 = .ok (.invokestatic 46, 3) := by decide +kernel
theorem dX8_inches_12 : decode cX8_inches 12 = .ok (.ifCond .eq 16, 3) := by decide +kernel
theorem dX8_inches_15 : decode cX8_inches 15 = .ok (.iload 4, 2) := by decide +kernel
theorem dX8_inches_17 : decode cX8_inches 17 = .ok (.i2l, 1) := by decide +kernel
theorem dX8_inches_18 : decode cX8_inches 18 = .ok (.lconst 1, 1) := by decide +kernel
theorem dX8_inches_19 : decode cX8_inches 19 = .ok (.ldc2_w 204, 3) := by decide +kernel
theorem dX8_inches_22 : decode cX8_inches 22 = .ok (.invokestatic 42, 3) := by decide +kernel
theorem dX8_inches_25 : decode cX8_inches 25 = .ok (.ifCond .ne 6, 3) := by decide +kernel
theorem dX8_inches_28 : decode cX8_inches 28 = .ok (.ldc 52, 2) := by decide +kernel
theorem dX8_inches_30 : decode cX8_inches 30 = .ok (.ireturn, 1) := by decide +kernel
theorem dX8_inches_31 : decode cX8_inches 31 = .ok (.aload_n 0, 1) := by decide +kernel
theorem dX8_inches_32 : decode cX8_inches 32 = .ok (.iload_n 2, 1) := by decide +kernel
theorem dX8_inches_33 : decode cX8_inches 33 = .ok (.iload_n 3, 1) := by decide +kernel
theorem dX8_inches_34 : decode cX8_inches 34 = .ok (.iload 4, 2) := by decide +kernel
theorem dX8_inches_36 : decode cX8_inches 36 = .ok (.invokevirtual 206, 3) := by decide +kernel
theorem dX8_inches_39 : decode cX8_inches 39 = .ok (.istore 5, 2) := by decide +kernel
theorem dX8_inches_41 : decode cX8_inches 41 = .ok (.iload 5, 2) := by decide +kernel
theorem dX8_inches_43 : decode cX8_inches 43 = .ok (.ifCond .eq 6, 3) := by decide +kernel
theorem dX8_inches_46 : decode cX8_inches 46 = .ok (.iload 5, 2) := by decide +kernel
theorem dX8_inches_48 : decode cX8_inches 48 = .ok (.ireturn, 1) := by decide +kernel
theorem dX8_inches_49 : decode cX8_inches 49 = .ok (.iconst 0, 1) := by decide +kernel
theorem dX8_inches_50 : decode cX8_inches 50 = .ok (.istore 6, 2) := by decide +kernel
theorem dX8_inches_52 : decode cX8_inches 52 = .ok (.iconst 0, 1) := by decide +kernel
theorem dX8_inches_53 : decode cX8_inches 53 = .ok (.istore 7, 2) := by decide +kernel
theorem dX8_inches_55 : decode cX8_inches 55 = .ok (.iload 7, 2) := by decide +kernel
theorem dX8_inches_57 : decode cX8_inches 57 = .ok (.bipush 30, 2) := by decide +kernel
theorem dX8_inches_59 : decode cX8_inches 59 = .ok (.if_icmp .ge 46, 3) := by decide +kernel
theorem dX8_inches_62 : decode cX8_inches 62 = .ok (.iload 6, 2) := by decide +kernel
theorem dX8_inches_64 : decode cX8_inches 64 = .ok (.aload_n 0, 1) := by decide +kernel
theorem dX8_inches_65 : decode cX8_inches 65 = .ok (.aload_n 0, 1) := by decide +kernel
theorem dX8_inches_66 : decode cX8_inches 66 = .ok (.getfield 7, 3) := by decide +kernel
theorem dX8_inches_69 : decode cX8_inches 69 = .ok (.bipush 19, 2) := by decide +kernel
theorem dX8_inches_71 : decode cX8_inches 71 = .ok (.iload_n 1, 1) := by decide +kernel
theorem dX8_inches_72 : decode cX8_inches 72 = .ok (.iadd, 1) := by decide +kernel
theorem dX8_inches_73 : decode cX8_inches 73 = .ok (.iaload, 1) := by decide +kernel
theorem dX8_inches_74 : decode cX8_inches 74 = .ok (.iload 7, 2) := by decide +kernel
theorem dX8_inches_76 : decode cX8_inches 76 = .ok (.iconst 1, 1) := by decide +kernel
theorem dX8_inches_77 : decode cX8_inches 77 = .ok (.iadd, 1) := by decide +kernel
theorem dX8_inches_78 : decode cX8_inches 78 = .ok (.iload_n 2, 1) := by decide +kernel
theorem dX8_inches_79 : decode cX8_inches 79 = .ok (.iload_n 3, 1) := by decide +kernel
theorem dX8_inches_80 : decode cX8_inches 80 = .ok (.iload 4, 2) := by decide +kernel
theorem dX8_inches_82 : decode cX8_inches 82 = .ok (.invokevirtual 213, 3) := by decide +kernel
theorem dX8_inches_85 : decode cX8_inches 85 = .ok (.ifCond .eq 10, 3) := by decide +kernel
theorem dX8_inches_88 : decode cX8_inches 88 = .ok (.iconst 1, 1) := by decide +kernel
theorem dX8_inches_89 : decode cX8_inches 89 = .ok (.iload 7, 2) := by decide +kernel
theorem dX8_inches_91 : decode cX8_inches 91 = .ok (.ishl, 1) := by decide +kernel
theorem dX8_inches_92 : decode cX8_inches 92 = .ok (.goto 4, 3) := by decide +kernel
theorem dX8_inches_95 : decode cX8_inches 95 = .ok (.iconst 0, 1) := by decide +kernel
theorem dX8_inches_96 : decode cX8_inches 96 = .ok (.ior, 1) := by decide +kernel
theorem dX8_inches_97 : decode cX8_inches 97 = .ok (.istore 6, 2) := by decide +kernel
theorem dX8_inches_99 : decode cX8_inches 99 = .ok (.iinc 7 1, 3) := by decide +kernel
theorem dX8_inches_102 : decode cX8_inches 102 = .ok (.goto (-47), 3) := by decide +kernel
theorem dX8_inches_105 : decode cX8_inches 105 = .ok (.aload_n 0, 1) := by decide +kernel
theorem dX8_inches_106 : decode cX8_inches 106 = .ok (.iload 6, 2) := by decide +kernel
theorem dX8_inches_108 : decode cX8_inches 108 = .ok (.invokevirtual 57, 3) := by decide +kernel
theorem dX8_inches_111 : decode cX8_inches 111 = .ok (.ireturn, 1) := by decide +kernel
set_option maxRecDepth 20000 in
theorem ggX8_sorts_X8_isGesture : GoodIn wsX8_sorts wsX8_isGesture := goodIn_r _ [8, 3, 9, 10, 7, 11, 59, 60, 61, 62, 63, 64, 65, 66, 67, 68, 69, 70, 71, 72, 73, 74, 75] (by decide +kernel) (by decide +kernel)
set_option maxRecDepth 20000 in
theorem gX8_sorts_X8_isGesture : GoodIn wsX8_sorts (wsV RX8 148 RX8 yX8_isGesture wsX8_isGesture) := goodIn_app (goodIn_of _ (by decide +kernel)) ggX8_sorts_X8_isGesture
set_option maxRecDepth 20000 in
theorem ggX8_sorts_X8_isRow : GoodIn wsX8_sorts wsX8_isRow := goodIn_r _ [14, 15, 9, 10, 7, 11] (by decide +kernel) (by decide +kernel)
set_option maxRecDepth 20000 in
theorem gX8_sorts_X8_isRow : GoodIn wsX8_sorts (va_wsS RX8 46 yX8_isRow wsX8_isRow) := goodIn_app (goodIn_of _ (by decide +kernel)) ggX8_sorts_X8_isRow
set_option maxRecDepth 20000 in
theorem ggX8_sorts_X8_in : GoodIn wsX8_sorts wsX8_in := goodIn_r _ [11] (by decide +kernel) (by decide +kernel)
set_option maxRecDepth 20000 in
theorem gX8_sorts_X8_in : GoodIn wsX8_sorts (va_wsS RX8 42 yX8_in wsX8_in) := goodIn_app (goodIn_of _ (by decide +kernel)) ggX8_sorts_X8_in
set_option maxRecDepth 20000 in
theorem ggX8_sorts_X8_noPairs : GoodIn wsX8_sorts wsX8_noPairs := goodIn_r _ [19, 20, 21, 2, 22, 23, 24, 7, 25, 26, 27, 28, 29, 30, 31, 32, 33, 34, 35, 3, 9, 10, 11, 59, 60, 61, 62, 63, 64, 65, 66, 67, 68, 69, 70, 71, 72, 73, 74, 75] (by decide +kernel) (by decide +kernel)
set_option maxRecDepth 20000 in
theorem gX8_sorts_X8_noPairs : GoodIn wsX8_sorts (wsV RX8 206 RX8 yX8_noPairs wsX8_noPairs) := goodIn_app (goodIn_of _ (by decide +kernel)) ggX8_sorts_X8_noPairs
set_option maxRecDepth 20000 in
theorem ggX8_sorts_X8_owesSo : GoodIn wsX8_sorts wsX8_owesSo := goodIn_r _ [39, 21, 40, 41, 42, 7, 43, 3, 44, 45, 46, 47, 48, 49, 50, 51, 52, 53, 54, 59, 60, 61, 62, 63, 64, 65, 66, 67, 68, 69, 70, 71, 72, 73, 74, 75] (by decide +kernel) (by decide +kernel)
set_option maxRecDepth 20000 in
theorem gX8_sorts_X8_owesSo : GoodIn wsX8_sorts (wsV RX8 213 RX8 yX8_owesSo wsX8_owesSo) := goodIn_app (goodIn_of _ (by decide +kernel)) ggX8_sorts_X8_owesSo
set_option maxRecDepth 20000 in
theorem ggX8_sorts_X8_well : GoodIn wsX8_sorts wsX8_well := goodIn_r _ [58, 26, 59, 60, 61, 62, 63, 64, 65, 66, 67, 68, 69, 70, 71, 72, 73, 74, 75] (by decide +kernel) (by decide +kernel)
set_option maxRecDepth 20000 in
theorem gX8_sorts_X8_well : GoodIn wsX8_sorts (wsV RX8 57 RX8 yX8_well wsX8_well) := goodIn_app (goodIn_of _ (by decide +kernel)) ggX8_sorts_X8_well
theorem dX8_sorts_0 : decode cX8_sorts 0 = .ok (.aload_n 0, 1) := by decide +kernel
theorem dX8_sorts_1 : decode cX8_sorts 1 = .ok (.iload_n 1, 1) := by decide +kernel
theorem dX8_sorts_2 : decode cX8_sorts 2 = .ok (.invokevirtual 148, 3) := by decide +kernel
theorem dX8_sorts_5 : decode cX8_sorts 5 = .ok (.ifCond .eq 23, 3) := by decide +kernel
theorem dX8_sorts_8 : decode cX8_sorts 8 = .ok (.iload_n 2, 1) := by decide +kernel
theorem dX8_sorts_9 : decode cX8_sorts 9 = .ok (.invokestatic 46, 3) := by decide +kernel
theorem dX8_sorts_12 : decode cX8_sorts 12 = .ok (.ifCond .eq 16, 3) := by decide +kernel
theorem dX8_sorts_15 : decode cX8_sorts 15 = .ok (.iload 4, 2) := by decide +kernel
theorem dX8_sorts_17 : decode cX8_sorts 17 = .ok (.i2l, 1) := by decide +kernel
theorem dX8_sorts_18 : decode cX8_sorts 18 = .ok (.lconst 1, 1) := by decide +kernel
theorem dX8_sorts_19 : decode cX8_sorts 19 = .ok (.ldc2_w 204, 3) := by decide +kernel
theorem dX8_sorts_22 : decode cX8_sorts 22 = .ok (.invokestatic 42, 3) := by decide +kernel
theorem dX8_sorts_25 : decode cX8_sorts 25 = .ok (.ifCond .ne 6, 3) := by decide +kernel
theorem dX8_sorts_28 : decode cX8_sorts 28 = .ok (.ldc 52, 2) := by decide +kernel
theorem dX8_sorts_30 : decode cX8_sorts 30 = .ok (.ireturn, 1) := by decide +kernel
theorem dX8_sorts_31 : decode cX8_sorts 31 = .ok (.aload_n 0, 1) := by decide +kernel
theorem dX8_sorts_32 : decode cX8_sorts 32 = .ok (.iload_n 2, 1) := by decide +kernel
theorem dX8_sorts_33 : decode cX8_sorts 33 = .ok (.iload_n 3, 1) := by decide +kernel
theorem dX8_sorts_34 : decode cX8_sorts 34 = .ok (.iload 4, 2) := by decide +kernel
theorem dX8_sorts_36 : decode cX8_sorts 36 = .ok (.invokevirtual 206, 3) := by decide +kernel
theorem dX8_sorts_39 : decode cX8_sorts 39 = .ok (.istore 5, 2) := by decide +kernel
theorem dX8_sorts_41 : decode cX8_sorts 41 = .ok (.iload 5, 2) := by decide +kernel
theorem dX8_sorts_43 : decode cX8_sorts 43 = .ok (.ifCond .eq 6, 3) := by decide +kernel
theorem dX8_sorts_46 : decode cX8_sorts 46 = .ok (.iload 5, 2) := by decide +kernel
theorem dX8_sorts_48 : decode cX8_sorts 48 = .ok (.ireturn, 1) := by decide +kernel
theorem dX8_sorts_49 : decode cX8_sorts 49 = .ok (.iconst 0, 1) := by decide +kernel
theorem dX8_sorts_50 : decode cX8_sorts 50 = .ok (.istore 6, 2) := by decide +kernel
theorem dX8_sorts_52 : decode cX8_sorts 52 = .ok (.iconst 1, 1) := by decide +kernel
theorem dX8_sorts_53 : decode cX8_sorts 53 = .ok (.istore 7, 2) := by decide +kernel
theorem dX8_sorts_55 : decode cX8_sorts 55 = .ok (.iload 7, 2) := by decide +kernel
theorem dX8_sorts_57 : decode cX8_sorts 57 = .ok (.bipush 6, 2) := by decide +kernel
theorem dX8_sorts_59 : decode cX8_sorts 59 = .ok (.if_icmp .ge 44, 3) := by decide +kernel
theorem dX8_sorts_62 : decode cX8_sorts 62 = .ok (.iload 6, 2) := by decide +kernel
theorem dX8_sorts_64 : decode cX8_sorts 64 = .ok (.aload_n 0, 1) := by decide +kernel
theorem dX8_sorts_65 : decode cX8_sorts 65 = .ok (.iload 7, 2) := by decide +kernel
theorem dX8_sorts_67 : decode cX8_sorts 67 = .ok (.aload_n 0, 1) := by decide +kernel
theorem dX8_sorts_68 : decode cX8_sorts 68 = .ok (.getfield 7, 3) := by decide +kernel
theorem dX8_sorts_71 : decode cX8_sorts 71 = .ok (.bipush 25, 2) := by decide +kernel
theorem dX8_sorts_73 : decode cX8_sorts 73 = .ok (.iload_n 1, 1) := by decide +kernel
theorem dX8_sorts_74 : decode cX8_sorts 74 = .ok (.iadd, 1) := by decide +kernel
theorem dX8_sorts_75 : decode cX8_sorts 75 = .ok (.iaload, 1) := by decide +kernel
theorem dX8_sorts_76 : decode cX8_sorts 76 = .ok (.iload_n 2, 1) := by decide +kernel
theorem dX8_sorts_77 : decode cX8_sorts 77 = .ok (.iload_n 3, 1) := by decide +kernel
theorem dX8_sorts_78 : decode cX8_sorts 78 = .ok (.iload 4, 2) := by decide +kernel
theorem dX8_sorts_80 : decode cX8_sorts 80 = .ok (.invokevirtual 213, 3) := by decide +kernel
theorem dX8_sorts_83 : decode cX8_sorts 83 = .ok (.ifCond .eq 10, 3) := by decide +kernel
theorem dX8_sorts_86 : decode cX8_sorts 86 = .ok (.iconst 1, 1) := by decide +kernel
theorem dX8_sorts_87 : decode cX8_sorts 87 = .ok (.iload 7, 2) := by decide +kernel
theorem dX8_sorts_89 : decode cX8_sorts 89 = .ok (.ishl, 1) := by decide +kernel
theorem dX8_sorts_90 : decode cX8_sorts 90 = .ok (.goto 4, 3) := by decide +kernel
theorem dX8_sorts_93 : decode cX8_sorts 93 = .ok (.iconst 0, 1) := by decide +kernel
theorem dX8_sorts_94 : decode cX8_sorts 94 = .ok (.ior, 1) := by decide +kernel
theorem dX8_sorts_95 : decode cX8_sorts 95 = .ok (.istore 6, 2) := by decide +kernel
theorem dX8_sorts_97 : decode cX8_sorts 97 = .ok (.iinc 7 1, 3) := by decide +kernel
theorem dX8_sorts_100 : decode cX8_sorts 100 = .ok (.goto (-45), 3) := by decide +kernel
theorem dX8_sorts_103 : decode cX8_sorts 103 = .ok (.aload_n 0, 1) := by decide +kernel
theorem dX8_sorts_104 : decode cX8_sorts 104 = .ok (.iload 6, 2) := by decide +kernel
theorem dX8_sorts_106 : decode cX8_sorts 106 = .ok (.invokevirtual 57, 3) := by decide +kernel
theorem dX8_sorts_109 : decode cX8_sorts 109 = .ok (.ireturn, 1) := by decide +kernel
set_option maxRecDepth 20000 in
theorem ggX8_saved_X8_isGesture : GoodIn wsX8_saved wsX8_isGesture := goodIn_r _ [7, 2, 8, 9, 6, 10, 30, 31, 32, 33, 34, 35, 36, 37, 38, 39, 40, 41, 42, 43, 44, 45, 46] (by decide +kernel) (by decide +kernel)
set_option maxRecDepth 20000 in
theorem gX8_saved_X8_isGesture : GoodIn wsX8_saved (wsV RX8 148 RX8 yX8_isGesture wsX8_isGesture) := goodIn_app (goodIn_of _ (by decide +kernel)) ggX8_saved_X8_isGesture
set_option maxRecDepth 20000 in
theorem ggX8_saved_X8_dutyOf : GoodIn wsX8_saved wsX8_dutyOf := goodIn_r _ [14, 2, 15, 16, 17, 6, 18, 19, 20, 21, 22, 23, 24, 25, 26, 27, 28, 29, 30, 31, 32, 33, 34, 35, 36, 37, 38, 39, 40, 41, 42, 43, 44, 45, 46] (by decide +kernel) (by decide +kernel)
set_option maxRecDepth 20000 in
theorem gX8_saved_X8_dutyOf : GoodIn wsX8_saved (wsV RX8 157 RX8 yX8_dutyOf wsX8_dutyOf) := goodIn_app (goodIn_of _ (by decide +kernel)) ggX8_saved_X8_dutyOf
set_option maxRecDepth 20000 in
theorem ggX8_saved_X8_plainDuty : GoodIn wsX8_saved wsX8_plainDuty := goodIn_r _ [22, 2, 23, 24, 25, 6, 26, 30, 31, 32, 33, 34, 35, 36, 37, 38, 39, 40, 41, 42, 43, 44, 45, 46] (by decide +kernel) (by decide +kernel)
set_option maxRecDepth 20000 in
theorem gX8_saved_X8_plainDuty : GoodIn wsX8_saved (wsV RX8 138 RX8 yX8_plainDuty wsX8_plainDuty) := goodIn_app (goodIn_of _ (by decide +kernel)) ggX8_saved_X8_plainDuty
theorem dX8_saved_0 : decode cX8_saved 0 = .ok (.aload_n 0, 1) := by decide +kernel
theorem dX8_saved_1 : decode cX8_saved 1 = .ok (.iload_n 1, 1) := by decide +kernel
theorem dX8_saved_2 : decode cX8_saved 2 = .ok (.invokevirtual 148, 3) := by decide +kernel
theorem dX8_saved_5 : decode cX8_saved 5 = .ok (.ifCond .ne 6, 3) := by decide +kernel
theorem dX8_saved_8 : decode cX8_saved 8 = .ok (.ldc 52, 2) := by decide +kernel
theorem dX8_saved_10 : decode cX8_saved 10 = .ok (.ireturn, 1) := by decide +kernel
theorem dX8_saved_11 : decode cX8_saved 11 = .ok (.iconst 0, 1) := by decide +kernel
theorem dX8_saved_12 : decode cX8_saved 12 = .ok (.istore_n 2, 1) := by decide +kernel
theorem dX8_saved_13 : decode cX8_saved 13 = .ok (.iconst 0, 1) := by decide +kernel
theorem dX8_saved_14 : decode cX8_saved 14 = .ok (.istore_n 3, 1) := by decide +kernel
theorem dX8_saved_15 : decode cX8_saved 15 = .ok (.iload_n 3, 1) := by decide +kernel
theorem dX8_saved_16 : decode cX8_saved 16 = .ok (.aload_n 0, 1) := by decide +kernel
theorem dX8_saved_17 : decode cX8_saved 17 = .ok (.getfield 7, 3) := by decide +kernel
theorem dX8_saved_20 : decode cX8_saved 20 = .ok (.iconst 1, 1) := by decide +kernel
theorem dX8_saved_21 : decode cX8_saved 21 = .ok (.iaload, 1) := by decide +kernel
theorem dX8_saved_22 : decode cX8_saved 22 = .ok (.if_icmp .ge 44, 3) := by decide +kernel
theorem dX8_saved_25 : decode cX8_saved 25 = .ok (.iload_n 2, 1) := by decide +kernel
theorem dX8_saved_26 : decode cX8_saved 26 = .ok (.aload_n 0, 1) := by decide +kernel
theorem dX8_saved_27 : decode cX8_saved 27 = .ok (.iload_n 1, 1) := by decide +kernel
theorem dX8_saved_28 : decode cX8_saved 28 = .ok (.iload_n 3, 1) := by decide +kernel
theorem dX8_saved_29 : decode cX8_saved 29 = .ok (.invokevirtual 157, 3) := by decide +kernel
theorem dX8_saved_32 : decode cX8_saved 32 = .ok (.aload_n 0, 1) := by decide +kernel
theorem dX8_saved_33 : decode cX8_saved 33 = .ok (.aload_n 0, 1) := by decide +kernel
theorem dX8_saved_34 : decode cX8_saved 34 = .ok (.getfield 7, 3) := by decide +kernel
theorem dX8_saved_37 : decode cX8_saved 37 = .ok (.bipush 19, 2) := by decide +kernel
theorem dX8_saved_39 : decode cX8_saved 39 = .ok (.iload_n 1, 1) := by decide +kernel
theorem dX8_saved_40 : decode cX8_saved 40 = .ok (.iadd, 1) := by decide +kernel
theorem dX8_saved_41 : decode cX8_saved 41 = .ok (.iaload, 1) := by decide +kernel
theorem dX8_saved_42 : decode cX8_saved 42 = .ok (.aload_n 0, 1) := by decide +kernel
theorem dX8_saved_43 : decode cX8_saved 43 = .ok (.getfield 7, 3) := by decide +kernel
theorem dX8_saved_46 : decode cX8_saved 46 = .ok (.bipush 25, 2) := by decide +kernel
theorem dX8_saved_48 : decode cX8_saved 48 = .ok (.iload_n 1, 1) := by decide +kernel
theorem dX8_saved_49 : decode cX8_saved 49 = .ok (.iadd, 1) := by decide +kernel
theorem dX8_saved_50 : decode cX8_saved 50 = .ok (.iaload, 1) := by decide +kernel
theorem dX8_saved_51 : decode cX8_saved 51 = .ok (.iload_n 3, 1) := by decide +kernel
theorem dX8_saved_52 : decode cX8_saved 52 = .ok (.invokevirtual 138, 3) := by decide +kernel
theorem dX8_saved_55 : decode cX8_saved 55 = .ok (.iconst 2, 1) := by decide +kernel
theorem dX8_saved_56 : decode cX8_saved 56 = .ok (.idiv, 1) := by decide +kernel
theorem dX8_saved_57 : decode cX8_saved 57 = .ok (.isub, 1) := by decide +kernel
theorem dX8_saved_58 : decode cX8_saved 58 = .ok (.iadd, 1) := by decide +kernel
theorem dX8_saved_59 : decode cX8_saved 59 = .ok (.istore_n 2, 1) := by decide +kernel
theorem dX8_saved_60 : decode cX8_saved 60 = .ok (.iinc 3 1, 3) := by decide +kernel
theorem dX8_saved_63 : decode cX8_saved 63 = .ok (.goto (-48), 3) := by decide +kernel
theorem dX8_saved_66 : decode cX8_saved 66 = .ok (.iload_n 2, 1) := by decide +kernel
theorem dX8_saved_67 : decode cX8_saved 67 = .ok (.ireturn, 1) := by decide +kernel
set_option maxRecDepth 20000 in
theorem ggX8_worst_X8_isGesture : GoodIn wsX8_worst wsX8_isGesture := goodIn_r _ [8, 3, 9, 10, 7, 11, 31, 32, 33, 34, 35, 36, 37, 38, 39, 40, 41, 42, 43, 44, 45, 46, 47] (by decide +kernel) (by decide +kernel)
set_option maxRecDepth 20000 in
theorem gX8_worst_X8_isGesture : GoodIn wsX8_worst (wsV RX8 148 RX8 yX8_isGesture wsX8_isGesture) := goodIn_app (goodIn_of _ (by decide +kernel)) ggX8_worst_X8_isGesture
set_option maxRecDepth 20000 in
theorem ggX8_worst_X8_in : GoodIn wsX8_worst wsX8_in := goodIn_r _ [11] (by decide +kernel) (by decide +kernel)
set_option maxRecDepth 20000 in
theorem gX8_worst_X8_in : GoodIn wsX8_worst (va_wsS RX8 42 yX8_in wsX8_in) := goodIn_app (goodIn_of _ (by decide +kernel)) ggX8_worst_X8_in
set_option maxRecDepth 20000 in
theorem ggX8_worst_X8_dutyOf : GoodIn wsX8_worst wsX8_dutyOf := goodIn_r _ [15, 3, 16, 17, 18, 7, 19, 20, 21, 22, 23, 24, 25, 26, 27, 28, 29, 30, 31, 32, 33, 34, 35, 36, 37, 38, 39, 40, 41, 42, 43, 44, 45, 46, 47] (by decide +kernel) (by decide +kernel)
set_option maxRecDepth 20000 in
theorem gX8_worst_X8_dutyOf : GoodIn wsX8_worst (wsV RX8 157 RX8 yX8_dutyOf wsX8_dutyOf) := goodIn_app (goodIn_of _ (by decide +kernel)) ggX8_worst_X8_dutyOf
theorem dX8_worst_0 : decode cX8_worst 0 = .ok (.aload_n 0, 1) := by decide +kernel
theorem dX8_worst_1 : decode cX8_worst 1 = .ok (.iload_n 1, 1) := by decide +kernel
theorem dX8_worst_2 : decode cX8_worst 2 = .ok (.invokevirtual 148, 3) := by decide +kernel
theorem dX8_worst_5 : decode cX8_worst 5 = .ok (.ifCond .eq 13, 3) := by decide +kernel
theorem dX8_worst_8 : decode cX8_worst 8 = .ok (.iload_n 2, 1) := by decide +kernel
theorem dX8_worst_9 : decode cX8_worst 9 = .ok (.i2l, 1) := by decide +kernel
theorem dX8_worst_10 : decode cX8_worst 10 = .ok (.lconst 0, 1) := by decide +kernel
theorem dX8_worst_11 : decode cX8_worst 11 = .ok (.lconst 1, 1) := by decide +kernel
theorem dX8_worst_12 : decode cX8_worst 12 = .ok (.invokestatic 42, 3) := by decide +kernel
theorem dX8_worst_15 : decode cX8_worst 15 = .ok (.ifCond .ne 6, 3) := by decide +kernel
theorem dX8_worst_18 : decode cX8_worst 18 = .ok (.ldc 52, 2) := by decide +kernel
theorem dX8_worst_20 : decode cX8_worst 20 = .ok (.ireturn, 1) := by decide +kernel
theorem dX8_worst_21 : decode cX8_worst 21 = .ok (.ldc 200, 2) := by decide +kernel
theorem dX8_worst_23 : decode cX8_worst 23 = .ok (.istore_n 3, 1) := by decide +kernel
theorem dX8_worst_24 : decode cX8_worst 24 = .ok (.ldc 200, 2) := by decide +kernel
theorem dX8_worst_26 : decode cX8_worst 26 = .ok (.istore 4, 2) := by decide +kernel
theorem dX8_worst_28 : decode cX8_worst 28 = .ok (.iconst 0, 1) := by decide +kernel
theorem dX8_worst_29 : decode cX8_worst 29 = .ok (.istore 5, 2) := by decide +kernel
theorem dX8_worst_31 : decode cX8_worst 31 = .ok (.iload 5, 2) := by decide +kernel
theorem dX8_worst_33 : decode cX8_worst 33 = .ok (.aload_n 0, 1) := by decide +kernel
theorem dX8_worst_34 : decode cX8_worst 34 = .ok (.getfield 7, 3) := by decide +kernel
theorem dX8_worst_37 : decode cX8_worst 37 = .ok (.iconst 1, 1) := by decide +kernel
theorem dX8_worst_38 : decode cX8_worst 38 = .ok (.iaload, 1) := by decide +kernel
theorem dX8_worst_39 : decode cX8_worst 39 = .ok (.if_icmp .ge 48, 3) := by decide +kernel
theorem dX8_worst_42 : decode cX8_worst 42 = .ok (.aload_n 0, 1) := by decide +kernel
theorem dX8_worst_43 : decode cX8_worst 43 = .ok (.iload_n 1, 1) := by decide +kernel
theorem dX8_worst_44 : decode cX8_worst 44 = .ok (.iload 5, 2) := by decide +kernel
theorem dX8_worst_46 : decode cX8_worst 46 = .ok (.invokevirtual 157, 3) := by decide +kernel
theorem dX8_worst_49 : decode cX8_worst 49 = .ok (.istore 6, 2) := by decide +kernel
theorem dX8_worst_51 : decode cX8_worst 51 = .ok (.iload 6, 2) := by decide +kernel
theorem dX8_worst_53 : decode cX8_worst 53 = .ok (.iload 4, 2) := by decide +kernel
theorem dX8_worst_55 : decode cX8_worst 55 = .ok (.if_icmp .le 8, 3) := by decide +kernel
theorem dX8_worst_58 : decode cX8_worst 58 = .ok (.iload 5, 2) := by decide +kernel
theorem dX8_worst_60 : decode cX8_worst 60 = .ok (.goto 4, 3) := by decide +kernel
theorem dX8_worst_63 : decode cX8_worst 63 = .ok (.iload_n 3, 1) := by decide +kernel
theorem dX8_worst_64 : decode cX8_worst 64 = .ok (.istore_n 3, 1) := by decide +kernel
theorem dX8_worst_65 : decode cX8_worst 65 = .ok (.iload 6, 2) := by decide +kernel
theorem dX8_worst_67 : decode cX8_worst 67 = .ok (.iload 4, 2) := by decide +kernel
theorem dX8_worst_69 : decode cX8_worst 69 = .ok (.if_icmp .le 8, 3) := by decide +kernel
theorem dX8_worst_72 : decode cX8_worst 72 = .ok (.iload 6, 2) := by decide +kernel
theorem dX8_worst_74 : decode cX8_worst 74 = .ok (.goto 5, 3) := by decide +kernel
theorem dX8_worst_77 : decode cX8_worst 77 = .ok (.iload 4, 2) := by decide +kernel
theorem dX8_worst_79 : decode cX8_worst 79 = .ok (.istore 4, 2) := by decide +kernel
theorem dX8_worst_81 : decode cX8_worst 81 = .ok (.iinc 5 1, 3) := by decide +kernel
theorem dX8_worst_84 : decode cX8_worst 84 = .ok (.goto (-53), 3) := by decide +kernel
theorem dX8_worst_87 : decode cX8_worst 87 = .ok (.iload_n 2, 1) := by decide +kernel
theorem dX8_worst_88 : decode cX8_worst 88 = .ok (.ifCond .ne 7, 3) := by decide +kernel
theorem dX8_worst_91 : decode cX8_worst 91 = .ok (.iload_n 3, 1) := by decide +kernel
theorem dX8_worst_92 : decode cX8_worst 92 = .ok (.goto 5, 3) := by decide +kernel
theorem dX8_worst_95 : decode cX8_worst 95 = .ok (.iload 4, 2) := by decide +kernel
theorem dX8_worst_97 : decode cX8_worst 97 = .ok (.ireturn, 1) := by decide +kernel
set_option maxRecDepth 20000 in
theorem ggX8_tremble_X8_isGesture : GoodIn wsX8_tremble wsX8_isGesture := goodIn_r _ [9, 4, 10, 11, 8, 12, 36, 37, 38, 39, 40, 41, 42, 43, 44, 45, 46, 47, 48, 49, 50, 51, 52] (by decide +kernel) (by decide +kernel)
set_option maxRecDepth 20000 in
theorem gX8_tremble_X8_isGesture : GoodIn wsX8_tremble (wsV RX8 148 RX8 yX8_isGesture wsX8_isGesture) := goodIn_app (goodIn_of _ (by decide +kernel)) ggX8_tremble_X8_isGesture
set_option maxRecDepth 20000 in
theorem ggX8_tremble_X8_areStreets : GoodIn wsX8_tremble wsX8_areStreets := goodIn_r _ [16, 17, 18, 19, 8, 20, 4, 10, 11, 12, 36, 37, 38, 39, 40, 41, 42, 43, 44, 45, 46, 47, 48, 49, 50, 51, 52] (by decide +kernel) (by decide +kernel)
set_option maxRecDepth 20000 in
theorem gX8_tremble_X8_areStreets : GoodIn wsX8_tremble (wsV RX8 187 RX8 yX8_areStreets wsX8_areStreets) := goodIn_app (goodIn_of _ (by decide +kernel)) ggX8_tremble_X8_areStreets
set_option maxRecDepth 20000 in
theorem ggX8_tremble_X8_in : GoodIn wsX8_tremble wsX8_in := goodIn_r _ [12] (by decide +kernel) (by decide +kernel)
set_option maxRecDepth 20000 in
theorem gX8_tremble_X8_in : GoodIn wsX8_tremble (va_wsS RX8 42 yX8_in wsX8_in) := goodIn_app (goodIn_of _ (by decide +kernel)) ggX8_tremble_X8_in
set_option maxRecDepth 20000 in
theorem ggX8_tremble_X8_has : GoodIn wsX8_tremble wsX8_has := goodIn_r _ [23] (by decide +kernel) (by decide +kernel)
set_option maxRecDepth 20000 in
theorem gX8_tremble_X8_has : GoodIn wsX8_tremble (va_wsS RX8 142 yX8_has wsX8_has) := goodIn_app (goodIn_of _ (by decide +kernel)) ggX8_tremble_X8_has
set_option maxRecDepth 20000 in
theorem ggX8_tremble_X8_owes : GoodIn wsX8_tremble wsX8_owes := goodIn_r _ [27, 4, 28, 29, 30, 8, 31, 32, 33, 34, 35, 21, 22, 23, 36, 37, 38, 39, 40, 41, 42, 43, 44, 45, 46, 47, 48, 49, 50, 51, 52] (by decide +kernel) (by decide +kernel)
set_option maxRecDepth 20000 in
theorem gX8_tremble_X8_owes : GoodIn wsX8_tremble (wsV RX8 145 RX8 yX8_owes wsX8_owes) := goodIn_app (goodIn_of _ (by decide +kernel)) ggX8_tremble_X8_owes
theorem dX8_tremble_0 : decode cX8_tremble 0 = .ok (.aload_n 0, 1) := by decide +kernel
theorem dX8_tremble_1 : decode cX8_tremble 1 = .ok (.iload_n 1, 1) := by decide +kernel
theorem dX8_tremble_2 : decode cX8_tremble 2 = .ok (.invokevirtual 148, 3) := by decide +kernel
theorem dX8_tremble_5 : decode cX8_tremble 5 = .ok (.ifCond .eq 49, 3) := by decide +kernel
theorem dX8_tremble_8 : decode cX8_tremble 8 = .ok (.aload_n 0, 1) := by decide +kernel
theorem dX8_tremble_9 : decode cX8_tremble 9 = .ok (.iload_n 2, 1) := by decide +kernel
theorem dX8_tremble_10 : decode cX8_tremble 10 = .ok (.iload_n 3, 1) := by decide +kernel
theorem dX8_tremble_11 : decode cX8_tremble 11 = .ok (.invokevirtual 187, 3) := by decide +kernel
theorem dX8_tremble_14 : decode cX8_tremble 14 = .ok (.ifCond .eq 40, 3) := by decide +kernel
theorem dX8_tremble_17 : decode cX8_tremble 17 = .ok (.iload 4, 2) := by decide +kernel
theorem dX8_tremble_19 : decode cX8_tremble 19 = .ok (.i2l, 1) := by decide +kernel
theorem dX8_tremble_20 : decode cX8_tremble 20 = .ok (.lconst 0, 1) := by decide +kernel
theorem dX8_tremble_21 : decode cX8_tremble 21 = .ok (.ldc2_w 217, 3) := by decide +kernel
theorem dX8_tremble_24 : decode cX8_tremble 24 = .ok (.invokestatic 42, 3) := by decide +kernel
theorem dX8_tremble_27 : decode cX8_tremble 27 = .ok (.ifCond .eq 27, 3) := by decide +kernel
theorem dX8_tremble_30 : decode cX8_tremble 30 = .ok (.iload 5, 2) := by decide +kernel
theorem dX8_tremble_32 : decode cX8_tremble 32 = .ok (.i2l, 1) := by decide +kernel
theorem dX8_tremble_33 : decode cX8_tremble 33 = .ok (.lconst 0, 1) := by decide +kernel
theorem dX8_tremble_34 : decode cX8_tremble 34 = .ok (.ldc2_w 219, 3) := by decide +kernel
theorem dX8_tremble_37 : decode cX8_tremble 37 = .ok (.invokestatic 42, 3) := by decide +kernel
theorem dX8_tremble_40 : decode cX8_tremble 40 = .ok (.ifCond .eq 14, 3) := by decide +kernel
theorem dX8_tremble_43 : decode cX8_tremble 43 = .ok (.iload 6, 2) := by decide +kernel
theorem dX8_tremble_45 : decode cX8_tremble 45 = .ok (.i2l, 1) := by decide +kernel
theorem dX8_tremble_46 : decode cX8_tremble 46 = .ok (.lconst 0, 1) := by decide +kernel
theorem dX8_tremble_47 : decode cX8_tremble 47 = .ok (.lconst 1, 1) := by decide +kernel
theorem dX8_tremble_48 : decode cX8_tremble 48 = .ok (.invokestatic 42, 3) := by decide +kernel
theorem dX8_tremble_51 : decode cX8_tremble 51 = .ok (.ifCond .ne 6, 3) := by decide +kernel
theorem dX8_tremble_54 : decode cX8_tremble 54 = .ok (.ldc 52, 2) := by decide +kernel
theorem dX8_tremble_56 : decode cX8_tremble 56 = .ok (.ireturn, 1) := by decide +kernel
theorem dX8_tremble_57 : decode cX8_tremble 57 = .ok (.iload_n 3, 1) := by decide +kernel
theorem dX8_tremble_58 : decode cX8_tremble 58 = .ok (.iload_n 2, 1) := by decide +kernel
theorem dX8_tremble_59 : decode cX8_tremble 59 = .ok (.isub, 1) := by decide +kernel
theorem dX8_tremble_60 : decode cX8_tremble 60 = .ok (.iconst 1, 1) := by decide +kernel
theorem dX8_tremble_61 : decode cX8_tremble 61 = .ok (.iadd, 1) := by decide +kernel
theorem dX8_tremble_62 : decode cX8_tremble 62 = .ok (.istore 7, 2) := by decide +kernel
theorem dX8_tremble_64 : decode cX8_tremble 64 = .ok (.iconst 0, 1) := by decide +kernel
theorem dX8_tremble_65 : decode cX8_tremble 65 = .ok (.istore 8, 2) := by decide +kernel
theorem dX8_tremble_67 : decode cX8_tremble 67 = .ok (.iconst 0, 1) := by decide +kernel
theorem dX8_tremble_68 : decode cX8_tremble 68 = .ok (.istore 9, 2) := by decide +kernel
theorem dX8_tremble_70 : decode cX8_tremble 70 = .ok (.iconst 0, 1) := by decide +kernel
theorem dX8_tremble_71 : decode cX8_tremble 71 = .ok (.istore 10, 2) := by decide +kernel
theorem dX8_tremble_73 : decode cX8_tremble 73 = .ok (.iload 10, 2) := by decide +kernel
theorem dX8_tremble_75 : decode cX8_tremble 75 = .ok (.iconst 1, 1) := by decide +kernel
theorem dX8_tremble_76 : decode cX8_tremble 76 = .ok (.iload 7, 2) := by decide +kernel
theorem dX8_tremble_78 : decode cX8_tremble 78 = .ok (.ishl, 1) := by decide +kernel
theorem dX8_tremble_79 : decode cX8_tremble 79 = .ok (.if_icmp .ge 127, 3) := by decide +kernel
theorem dX8_tremble_82 : decode cX8_tremble 82 = .ok (.iconst 1, 1) := by decide +kernel
theorem dX8_tremble_83 : decode cX8_tremble 83 = .ok (.istore 11, 2) := by decide +kernel
theorem dX8_tremble_85 : decode cX8_tremble 85 = .ok (.iconst 0, 1) := by decide +kernel
theorem dX8_tremble_86 : decode cX8_tremble 86 = .ok (.istore 12, 2) := by decide +kernel
theorem dX8_tremble_88 : decode cX8_tremble 88 = .ok (.iconst 0, 1) := by decide +kernel
theorem dX8_tremble_89 : decode cX8_tremble 89 = .ok (.istore 13, 2) := by decide +kernel
theorem dX8_tremble_91 : decode cX8_tremble 91 = .ok (.iload 13, 2) := by decide +kernel
theorem dX8_tremble_93 : decode cX8_tremble 93 = .ok (.iload 7, 2) := by decide +kernel
theorem dX8_tremble_95 : decode cX8_tremble 95 = .ok (.if_icmp .ge 80, 3) := by decide +kernel
theorem dX8_tremble_98 : decode cX8_tremble 98 = .ok (.iload 10, 2) := by decide +kernel
theorem dX8_tremble_100 : decode cX8_tremble 100 = .ok (.iload 13, 2) := by decide +kernel
theorem dX8_tremble_102 : decode cX8_tremble 102 = .ok (.invokestatic 142, 3) := by decide +kernel
theorem dX8_tremble_105 : decode cX8_tremble 105 = .ok (.istore 14, 2) := by decide +kernel
theorem dX8_tremble_107 : decode cX8_tremble 107 = .ok (.iload 11, 2) := by decide +kernel
theorem dX8_tremble_109 : decode cX8_tremble 109 = .ok (.iload 14, 2) := by decide +kernel
theorem dX8_tremble_111 : decode cX8_tremble 111 = .ok (.ifCond .eq 8, 3) := by decide +kernel
theorem dX8_tremble_114 : decode cX8_tremble 114 = .ok (.iload 5, 2) := by decide +kernel
theorem dX8_tremble_116 : decode cX8_tremble 116 = .ok (.goto 8, 3) := by decide +kernel
theorem dX8_tremble_119 : decode cX8_tremble 119 = .ok (.bipush 10, 2) := by decide +kernel
theorem dX8_tremble_121 : decode cX8_tremble 121 = .ok (.iload 5, 2) := by decide +kernel
theorem dX8_tremble_123 : decode cX8_tremble 123 = .ok (.isub, 1) := by decide +kernel
theorem dX8_tremble_124 : decode cX8_tremble 124 = .ok (.imul, 1) := by decide +kernel
theorem dX8_tremble_125 : decode cX8_tremble 125 = .ok (.istore 11, 2) := by decide +kernel
theorem dX8_tremble_127 : decode cX8_tremble 127 = .ok (.iload 12, 2) := by decide +kernel
theorem dX8_tremble_129 : decode cX8_tremble 129 = .ok (.aload_n 0, 1) := by decide +kernel
theorem dX8_tremble_130 : decode cX8_tremble 130 = .ok (.aload_n 0, 1) := by decide +kernel
theorem dX8_tremble_131 : decode cX8_tremble 131 = .ok (.getfield 7, 3) := by decide +kernel
theorem dX8_tremble_134 : decode cX8_tremble 134 = .ok (.bipush 19, 2) := by decide +kernel
theorem dX8_tremble_136 : decode cX8_tremble 136 = .ok (.iload_n 1, 1) := by decide +kernel
theorem dX8_tremble_137 : decode cX8_tremble 137 = .ok (.iadd, 1) := by decide +kernel
theorem dX8_tremble_138 : decode cX8_tremble 138 = .ok (.iaload, 1) := by decide +kernel
theorem dX8_tremble_139 : decode cX8_tremble 139 = .ok (.aload_n 0, 1) := by decide +kernel
theorem dX8_tremble_140 : decode cX8_tremble 140 = .ok (.getfield 7, 3) := by decide +kernel
theorem dX8_tremble_143 : decode cX8_tremble 143 = .ok (.bipush 25, 2) := by decide +kernel
theorem dX8_tremble_145 : decode cX8_tremble 145 = .ok (.iload_n 1, 1) := by decide +kernel
theorem dX8_tremble_146 : decode cX8_tremble 146 = .ok (.iadd, 1) := by decide +kernel
theorem dX8_tremble_147 : decode cX8_tremble 147 = .ok (.iaload, 1) := by decide +kernel
theorem dX8_tremble_148 : decode cX8_tremble 148 = .ok (.iload 14, 2) := by decide +kernel
theorem dX8_tremble_150 : decode cX8_tremble 150 = .ok (.ifCond .eq 7, 3) := by decide +kernel
theorem dX8_tremble_153 : decode cX8_tremble 153 = .ok (.iconst 1, 1) := by decide +kernel
theorem dX8_tremble_154 : decode cX8_tremble 154 = .ok (.goto 4, 3) := by decide +kernel
theorem dX8_tremble_157 : decode cX8_tremble 157 = .ok (.iconst 0, 1) := by decide +kernel
theorem dX8_tremble_158 : decode cX8_tremble 158 = .ok (.iadd, 1) := by decide +kernel
theorem dX8_tremble_159 : decode cX8_tremble 159 = .ok (.iload_n 2, 1) := by decide +kernel
theorem dX8_tremble_160 : decode cX8_tremble 160 = .ok (.iload 13, 2) := by decide +kernel
theorem dX8_tremble_162 : decode cX8_tremble 162 = .ok (.iadd, 1) := by decide +kernel
theorem dX8_tremble_163 : decode cX8_tremble 163 = .ok (.invokevirtual 145, 3) := by decide +kernel
theorem dX8_tremble_166 : decode cX8_tremble 166 = .ok (.iadd, 1) := by decide +kernel
theorem dX8_tremble_167 : decode cX8_tremble 167 = .ok (.istore 12, 2) := by decide +kernel
theorem dX8_tremble_169 : decode cX8_tremble 169 = .ok (.iinc 13 1, 3) := by decide +kernel
theorem dX8_tremble_172 : decode cX8_tremble 172 = .ok (.goto (-81), 3) := by decide +kernel
theorem dX8_tremble_175 : decode cX8_tremble 175 = .ok (.iload 8, 2) := by decide +kernel
theorem dX8_tremble_177 : decode cX8_tremble 177 = .ok (.iload 12, 2) := by decide +kernel
theorem dX8_tremble_179 : decode cX8_tremble 179 = .ok (.iload 4, 2) := by decide +kernel
theorem dX8_tremble_181 : decode cX8_tremble 181 = .ok (.if_icmp .gt 8, 3) := by decide +kernel
theorem dX8_tremble_184 : decode cX8_tremble 184 = .ok (.iload 11, 2) := by decide +kernel
theorem dX8_tremble_186 : decode cX8_tremble 186 = .ok (.goto 4, 3) := by decide +kernel
theorem dX8_tremble_189 : decode cX8_tremble 189 = .ok (.iconst 0, 1) := by decide +kernel
theorem dX8_tremble_190 : decode cX8_tremble 190 = .ok (.iadd, 1) := by decide +kernel
theorem dX8_tremble_191 : decode cX8_tremble 191 = .ok (.istore 8, 2) := by decide +kernel
theorem dX8_tremble_193 : decode cX8_tremble 193 = .ok (.iload 9, 2) := by decide +kernel
theorem dX8_tremble_195 : decode cX8_tremble 195 = .ok (.iload 11, 2) := by decide +kernel
theorem dX8_tremble_197 : decode cX8_tremble 197 = .ok (.iadd, 1) := by decide +kernel
theorem dX8_tremble_198 : decode cX8_tremble 198 = .ok (.istore 9, 2) := by decide +kernel
theorem dX8_tremble_200 : decode cX8_tremble 200 = .ok (.iinc 10 1, 3) := by decide +kernel
theorem dX8_tremble_203 : decode cX8_tremble 203 = .ok (.goto (-130), 3) := by decide +kernel
theorem dX8_tremble_206 : decode cX8_tremble 206 = .ok (.iload 8, 2) := by decide +kernel
theorem dX8_tremble_208 : decode cX8_tremble 208 = .ok (.istore 10, 2) := by decide +kernel
theorem dX8_tremble_210 : decode cX8_tremble 210 = .ok (.iload 9, 2) := by decide +kernel
theorem dX8_tremble_212 : decode cX8_tremble 212 = .ok (.istore 11, 2) := by decide +kernel
theorem dX8_tremble_214 : decode cX8_tremble 214 = .ok (.iload 11, 2) := by decide +kernel
theorem dX8_tremble_216 : decode cX8_tremble 216 = .ok (.ifCond .eq 21, 3) := by decide +kernel
theorem dX8_tremble_219 : decode cX8_tremble 219 = .ok (.iload 10, 2) := by decide +kernel
theorem dX8_tremble_221 : decode cX8_tremble 221 = .ok (.iload 11, 2) := by decide +kernel
theorem dX8_tremble_223 : decode cX8_tremble 223 = .ok (.irem, 1) := by decide +kernel
theorem dX8_tremble_224 : decode cX8_tremble 224 = .ok (.istore 12, 2) := by decide +kernel
theorem dX8_tremble_226 : decode cX8_tremble 226 = .ok (.iload 11, 2) := by decide +kernel
theorem dX8_tremble_228 : decode cX8_tremble 228 = .ok (.istore 10, 2) := by decide +kernel
theorem dX8_tremble_230 : decode cX8_tremble 230 = .ok (.iload 12, 2) := by decide +kernel
theorem dX8_tremble_232 : decode cX8_tremble 232 = .ok (.istore 11, 2) := by decide +kernel
theorem dX8_tremble_234 : decode cX8_tremble 234 = .ok (.goto (-20), 3) := by decide +kernel
theorem dX8_tremble_237 : decode cX8_tremble 237 = .ok (.iload 6, 2) := by decide +kernel
theorem dX8_tremble_239 : decode cX8_tremble 239 = .ok (.ifCond .ne 11, 3) := by decide +kernel
theorem dX8_tremble_242 : decode cX8_tremble 242 = .ok (.iload 8, 2) := by decide +kernel
theorem dX8_tremble_244 : decode cX8_tremble 244 = .ok (.iload 10, 2) := by decide +kernel
theorem dX8_tremble_246 : decode cX8_tremble 246 = .ok (.idiv, 1) := by decide +kernel
theorem dX8_tremble_247 : decode cX8_tremble 247 = .ok (.goto 8, 3) := by decide +kernel
theorem dX8_tremble_250 : decode cX8_tremble 250 = .ok (.iload 9, 2) := by decide +kernel
theorem dX8_tremble_252 : decode cX8_tremble 252 = .ok (.iload 10, 2) := by decide +kernel
theorem dX8_tremble_254 : decode cX8_tremble 254 = .ok (.idiv, 1) := by decide +kernel
theorem dX8_tremble_255 : decode cX8_tremble 255 = .ok (.ireturn, 1) := by decide +kernel
set_option maxRecDepth 20000 in
theorem ggX8_image_X8_in : GoodIn wsX8_image wsX8_in := goodIn_r _ [8] (by decide +kernel) (by decide +kernel)
set_option maxRecDepth 20000 in
theorem gX8_image_X8_in : GoodIn wsX8_image (va_wsS RX8 42 yX8_in wsX8_in) := goodIn_app (goodIn_of _ (by decide +kernel)) ggX8_image_X8_in
set_option maxRecDepth 20000 in
theorem ggX8_image_X8_copyTown : GoodIn wsX8_image wsX8_copyTown := goodIn_r _ [12, 13, 14, 15, 16, 17, 18, 19, 20, 21, 22, 23, 24, 25, 26, 27, 28, 29, 30] (by decide +kernel) (by decide +kernel)
set_option maxRecDepth 20000 in
theorem gX8_image_X8_copyTown : GoodIn wsX8_image (wsV RX8 123 RX8 yX8_copyTown wsX8_copyTown) := goodIn_app (goodIn_of _ (by decide +kernel)) ggX8_image_X8_copyTown
theorem dX8_image_0 : decode cX8_image 0 = .ok (.iload_n 1, 1) := by decide +kernel
theorem dX8_image_1 : decode cX8_image 1 = .ok (.i2l, 1) := by decide +kernel
theorem dX8_image_2 : decode cX8_image 2 = .ok (.lconst 0, 1) := by decide +kernel
theorem dX8_image_3 : decode cX8_image 3 = .ok (.lconst 1, 1) := by decide +kernel
theorem dX8_image_4 : decode cX8_image 4 = .ok (.invokestatic 42, 3) := by decide +kernel
theorem dX8_image_7 : decode cX8_image 7 = .ok (.ifCond .ne 6, 3) := by decide +kernel
theorem dX8_image_10 : decode cX8_image 10 = .ok (.ldc 52, 2) := by decide +kernel
theorem dX8_image_12 : decode cX8_image 12 = .ok (.ireturn, 1) := by decide +kernel
theorem dX8_image_13 : decode cX8_image 13 = .ok (.aload_n 0, 1) := by decide +kernel
theorem dX8_image_14 : decode cX8_image 14 = .ok (.getfield 127, 3) := by decide +kernel
theorem dX8_image_17 : decode cX8_image 17 = .ok (.ifCond .ne 6, 3) := by decide +kernel
theorem dX8_image_20 : decode cX8_image 20 = .ok (.ldc 134, 2) := by decide +kernel
theorem dX8_image_22 : decode cX8_image 22 = .ok (.ireturn, 1) := by decide +kernel
theorem dX8_image_23 : decode cX8_image 23 = .ok (.aload_n 0, 1) := by decide +kernel
theorem dX8_image_24 : decode cX8_image 24 = .ok (.iconst 0, 1) := by decide +kernel
theorem dX8_image_25 : decode cX8_image 25 = .ok (.sipush 1225, 3) := by decide +kernel
theorem dX8_image_28 : decode cX8_image 28 = .ok (.bipush 49, 2) := by decide +kernel
theorem dX8_image_30 : decode cX8_image 30 = .ok (.iload_n 1, 1) := by decide +kernel
theorem dX8_image_31 : decode cX8_image 31 = .ok (.imul, 1) := by decide +kernel
theorem dX8_image_32 : decode cX8_image 32 = .ok (.iadd, 1) := by decide +kernel
theorem dX8_image_33 : decode cX8_image 33 = .ok (.invokevirtual 123, 3) := by decide +kernel
theorem dX8_image_36 : decode cX8_image 36 = .ok (.aload_n 0, 1) := by decide +kernel
theorem dX8_image_37 : decode cX8_image 37 = .ok (.getfield 13, 3) := by decide +kernel
theorem dX8_image_40 : decode cX8_image 40 = .ok (.iload_n 1, 1) := by decide +kernel
theorem dX8_image_41 : decode cX8_image 41 = .ok (.iconst 1, 1) := by decide +kernel
theorem dX8_image_42 : decode cX8_image 42 = .ok (.bastore, 1) := by decide +kernel
theorem dX8_image_43 : decode cX8_image 43 = .ok (.iconst 1, 1) := by decide +kernel
theorem dX8_image_44 : decode cX8_image 44 = .ok (.ireturn, 1) := by decide +kernel
set_option maxRecDepth 20000 in
theorem ggX8_restore_X8_in : GoodIn wsX8_restore wsX8_in := goodIn_r _ [8] (by decide +kernel) (by decide +kernel)
set_option maxRecDepth 20000 in
theorem gX8_restore_X8_in : GoodIn wsX8_restore (va_wsS RX8 42 yX8_in wsX8_in) := goodIn_app (goodIn_of _ (by decide +kernel)) ggX8_restore_X8_in
set_option maxRecDepth 20000 in
theorem ggX8_restore_X8_copyTown : GoodIn wsX8_restore wsX8_copyTown := goodIn_r _ [12, 13, 14, 15, 16, 17, 18, 19, 20, 21, 22, 23, 24, 25, 26, 27, 28, 29, 30] (by decide +kernel) (by decide +kernel)
set_option maxRecDepth 20000 in
theorem gX8_restore_X8_copyTown : GoodIn wsX8_restore (wsV RX8 123 RX8 yX8_copyTown wsX8_copyTown) := goodIn_app (goodIn_of _ (by decide +kernel)) ggX8_restore_X8_copyTown
theorem dX8_restore_0 : decode cX8_restore 0 = .ok (.iload_n 1, 1) := by decide +kernel
theorem dX8_restore_1 : decode cX8_restore 1 = .ok (.i2l, 1) := by decide +kernel
theorem dX8_restore_2 : decode cX8_restore 2 = .ok (.lconst 0, 1) := by decide +kernel
theorem dX8_restore_3 : decode cX8_restore 3 = .ok (.lconst 1, 1) := by decide +kernel
theorem dX8_restore_4 : decode cX8_restore 4 = .ok (.invokestatic 42, 3) := by decide +kernel
theorem dX8_restore_7 : decode cX8_restore 7 = .ok (.ifCond .ne 6, 3) := by decide +kernel
theorem dX8_restore_10 : decode cX8_restore 10 = .ok (.ldc 52, 2) := by decide +kernel
theorem dX8_restore_12 : decode cX8_restore 12 = .ok (.ireturn, 1) := by decide +kernel
theorem dX8_restore_13 : decode cX8_restore 13 = .ok (.aload_n 0, 1) := by decide +kernel
theorem dX8_restore_14 : decode cX8_restore 14 = .ok (.getfield 13, 3) := by decide +kernel
theorem dX8_restore_17 : decode cX8_restore 17 = .ok (.iload_n 1, 1) := by decide +kernel
theorem dX8_restore_18 : decode cX8_restore 18 = .ok (.baload, 1) := by decide +kernel
theorem dX8_restore_19 : decode cX8_restore 19 = .ok (.ifCond .ne 6, 3) := by decide +kernel
theorem dX8_restore_22 : decode cX8_restore 22 = .ok (.ldc 134, 2) := by decide +kernel
theorem dX8_restore_24 : decode cX8_restore 24 = .ok (.ireturn, 1) := by decide +kernel
theorem dX8_restore_25 : decode cX8_restore 25 = .ok (.aload_n 0, 1) := by decide +kernel
theorem dX8_restore_26 : decode cX8_restore 26 = .ok (.sipush 1225, 3) := by decide +kernel
theorem dX8_restore_29 : decode cX8_restore 29 = .ok (.bipush 49, 2) := by decide +kernel
theorem dX8_restore_31 : decode cX8_restore 31 = .ok (.iload_n 1, 1) := by decide +kernel
theorem dX8_restore_32 : decode cX8_restore 32 = .ok (.imul, 1) := by decide +kernel
theorem dX8_restore_33 : decode cX8_restore 33 = .ok (.iadd, 1) := by decide +kernel
theorem dX8_restore_34 : decode cX8_restore 34 = .ok (.iconst 0, 1) := by decide +kernel
theorem dX8_restore_35 : decode cX8_restore 35 = .ok (.invokevirtual 123, 3) := by decide +kernel
theorem dX8_restore_38 : decode cX8_restore 38 = .ok (.aload_n 0, 1) := by decide +kernel
theorem dX8_restore_39 : decode cX8_restore 39 = .ok (.iconst 0, 1) := by decide +kernel
theorem dX8_restore_40 : decode cX8_restore 40 = .ok (.putfield 131, 3) := by decide +kernel
theorem dX8_restore_43 : decode cX8_restore 43 = .ok (.iconst 1, 1) := by decide +kernel
theorem dX8_restore_44 : decode cX8_restore 44 = .ok (.ireturn, 1) := by decide +kernel
set_option maxRecDepth 20000 in
theorem ggX8_kind_X8_isGesture : GoodIn wsX8_kind wsX8_isGesture := goodIn_r _ [7, 1, 8, 9, 6, 10, 11, 12, 13, 14, 15, 16, 17, 18, 19, 20, 21, 22, 23, 24, 25, 26, 27] (by decide +kernel) (by decide +kernel)
set_option maxRecDepth 20000 in
theorem gX8_kind_X8_isGesture : GoodIn wsX8_kind (wsV RX8 148 RX8 yX8_isGesture wsX8_isGesture) := goodIn_app (goodIn_of _ (by decide +kernel)) ggX8_kind_X8_isGesture
theorem dX8_kind_0 : decode cX8_kind 0 = .ok (.aload_n 0, 1) := by decide +kernel
theorem dX8_kind_1 : decode cX8_kind 1 = .ok (.iload_n 1, 1) := by decide +kernel
theorem dX8_kind_2 : decode cX8_kind 2 = .ok (.invokevirtual 148, 3) := by decide +kernel
theorem dX8_kind_5 : decode cX8_kind 5 = .ok (.ifCond .eq 15, 3) := by decide +kernel
theorem dX8_kind_8 : decode cX8_kind 8 = .ok (.aload_n 0, 1) := by decide +kernel
theorem dX8_kind_9 : decode cX8_kind 9 = .ok (.getfield 7, 3) := by decide +kernel
theorem dX8_kind_12 : decode cX8_kind 12 = .ok (.bipush 19, 2) := by decide +kernel
theorem dX8_kind_14 : decode cX8_kind 14 = .ok (.iload_n 1, 1) := by decide +kernel
theorem dX8_kind_15 : decode cX8_kind 15 = .ok (.iadd, 1) := by decide +kernel
theorem dX8_kind_16 : decode cX8_kind 16 = .ok (.iaload, 1) := by decide +kernel
theorem dX8_kind_17 : decode cX8_kind 17 = .ok (.goto 5, 3) := by decide +kernel
theorem dX8_kind_20 : decode cX8_kind 20 = .ok (.ldc 52, 2) := by decide +kernel
theorem dX8_kind_22 : decode cX8_kind 22 = .ok (.ireturn, 1) := by decide +kernel
theorem dX8_isOf_0 : decode cX8_isOf 0 = .ok (.aload_n 0, 1) := by decide +kernel
theorem dX8_isOf_1 : decode cX8_isOf 1 = .ok (.getfield 7, 3) := by decide +kernel
theorem dX8_isOf_4 : decode cX8_isOf 4 = .ok (.bipush 19, 2) := by decide +kernel
theorem dX8_isOf_6 : decode cX8_isOf 6 = .ok (.iload_n 1, 1) := by decide +kernel
theorem dX8_isOf_7 : decode cX8_isOf 7 = .ok (.iadd, 1) := by decide +kernel
theorem dX8_isOf_8 : decode cX8_isOf 8 = .ok (.iaload, 1) := by decide +kernel
theorem dX8_isOf_9 : decode cX8_isOf 9 = .ok (.istore_n 3, 1) := by decide +kernel
theorem dX8_isOf_10 : decode cX8_isOf 10 = .ok (.iload_n 2, 1) := by decide +kernel
theorem dX8_isOf_11 : decode cX8_isOf 11 = .ok (.ifCond .eq 33, 3) := by decide +kernel
theorem dX8_isOf_14 : decode cX8_isOf 14 = .ok (.iload_n 2, 1) := by decide +kernel
theorem dX8_isOf_15 : decode cX8_isOf 15 = .ok (.iload_n 3, 1) := by decide +kernel
theorem dX8_isOf_16 : decode cX8_isOf 16 = .ok (.if_icmp .eq 28, 3) := by decide +kernel
theorem dX8_isOf_19 : decode cX8_isOf 19 = .ok (.iload_n 2, 1) := by decide +kernel
theorem dX8_isOf_20 : decode cX8_isOf 20 = .ok (.iconst 1, 1) := by decide +kernel
theorem dX8_isOf_21 : decode cX8_isOf 21 = .ok (.if_icmp .ne 13, 3) := by decide +kernel
theorem dX8_isOf_24 : decode cX8_isOf 24 = .ok (.iload_n 3, 1) := by decide +kernel
theorem dX8_isOf_25 : decode cX8_isOf 25 = .ok (.iconst 2, 1) := by decide +kernel
theorem dX8_isOf_26 : decode cX8_isOf 26 = .ok (.if_icmp .eq 18, 3) := by decide +kernel
theorem dX8_isOf_29 : decode cX8_isOf 29 = .ok (.iload_n 3, 1) := by decide +kernel
theorem dX8_isOf_30 : decode cX8_isOf 30 = .ok (.iconst 3, 1) := by decide +kernel
theorem dX8_isOf_31 : decode cX8_isOf 31 = .ok (.if_icmp .eq 13, 3) := by decide +kernel
theorem dX8_isOf_34 : decode cX8_isOf 34 = .ok (.iload_n 2, 1) := by decide +kernel
theorem dX8_isOf_35 : decode cX8_isOf 35 = .ok (.iconst 4, 1) := by decide +kernel
theorem dX8_isOf_36 : decode cX8_isOf 36 = .ok (.if_icmp .ne 12, 3) := by decide +kernel
theorem dX8_isOf_39 : decode cX8_isOf 39 = .ok (.iload_n 3, 1) := by decide +kernel
theorem dX8_isOf_40 : decode cX8_isOf 40 = .ok (.iconst 5, 1) := by decide +kernel
theorem dX8_isOf_41 : decode cX8_isOf 41 = .ok (.if_icmp .ne 7, 3) := by decide +kernel
theorem dX8_isOf_44 : decode cX8_isOf 44 = .ok (.iconst 1, 1) := by decide +kernel
theorem dX8_isOf_45 : decode cX8_isOf 45 = .ok (.goto 4, 3) := by decide +kernel
theorem dX8_isOf_48 : decode cX8_isOf 48 = .ok (.iconst 0, 1) := by decide +kernel
theorem dX8_isOf_49 : decode cX8_isOf 49 = .ok (.ireturn, 1) := by decide +kernel
set_option maxRecDepth 20000 in
theorem ggX8_as_X8_isGesture : GoodIn wsX8_as wsX8_isGesture := goodIn_r _ [7, 8, 9, 10, 6, 11, 26, 27, 28, 29, 30, 31, 32, 33, 34, 35, 36, 37, 38, 39, 40, 41, 42] (by decide +kernel) (by decide +kernel)
set_option maxRecDepth 20000 in
theorem gX8_as_X8_isGesture : GoodIn wsX8_as (wsV RX8 148 RX8 yX8_isGesture wsX8_isGesture) := goodIn_app (goodIn_of _ (by decide +kernel)) ggX8_as_X8_isGesture
set_option maxRecDepth 20000 in
theorem ggX8_as_X8_in : GoodIn wsX8_as wsX8_in := goodIn_r _ [11] (by decide +kernel) (by decide +kernel)
set_option maxRecDepth 20000 in
theorem gX8_as_X8_in : GoodIn wsX8_as (va_wsS RX8 42 yX8_in wsX8_in) := goodIn_app (goodIn_of _ (by decide +kernel)) ggX8_as_X8_in
set_option maxRecDepth 20000 in
theorem ggX8_as_X8_isOf : GoodIn wsX8_as wsX8_isOf := goodIn_r _ [15, 8, 26, 27, 28, 29, 30, 31, 32, 33, 34, 35, 36, 37, 38, 39, 40, 41, 42] (by decide +kernel) (by decide +kernel)
set_option maxRecDepth 20000 in
theorem gX8_as_X8_isOf : GoodIn wsX8_as (wsV RX8 223 RX8 yX8_isOf wsX8_isOf) := goodIn_app (goodIn_of _ (by decide +kernel)) ggX8_as_X8_isOf
set_option maxRecDepth 20000 in
theorem ggX8_as_X8_well : GoodIn wsX8_as wsX8_well := goodIn_r _ [19, 20, 26, 27, 28, 29, 30, 31, 32, 33, 34, 35, 36, 37, 38, 39, 40, 41, 42] (by decide +kernel) (by decide +kernel)
set_option maxRecDepth 20000 in
theorem gX8_as_X8_well : GoodIn wsX8_as (wsV RX8 57 RX8 yX8_well wsX8_well) := goodIn_app (goodIn_of _ (by decide +kernel)) ggX8_as_X8_well
set_option maxRecDepth 20000 in
theorem ggX8_as_X8_find : GoodIn wsX8_as wsX8_find := goodIn_r _ [24, 20, 25, 26, 27, 28, 29, 30, 31, 32, 33, 34, 35, 36, 37, 38, 39, 40, 41, 42] (by decide +kernel) (by decide +kernel)
set_option maxRecDepth 20000 in
theorem gX8_as_X8_find : GoodIn wsX8_as (wsV RX8 53 RX8 yX8_find wsX8_find) := goodIn_app (goodIn_of _ (by decide +kernel)) ggX8_as_X8_find
theorem dX8_as_0 : decode cX8_as 0 = .ok (.aload_n 0, 1) := by decide +kernel
theorem dX8_as_1 : decode cX8_as 1 = .ok (.iload_n 1, 1) := by decide +kernel
theorem dX8_as_2 : decode cX8_as 2 = .ok (.invokevirtual 148, 3) := by decide +kernel
theorem dX8_as_5 : decode cX8_as 5 = .ok (.ifCond .eq 15, 3) := by decide +kernel
theorem dX8_as_8 : decode cX8_as 8 = .ok (.iload_n 2, 1) := by decide +kernel
theorem dX8_as_9 : decode cX8_as 9 = .ok (.i2l, 1) := by decide +kernel
theorem dX8_as_10 : decode cX8_as 10 = .ok (.lconst 0, 1) := by decide +kernel
theorem dX8_as_11 : decode cX8_as 11 = .ok (.ldc2_w 221, 3) := by decide +kernel
theorem dX8_as_14 : decode cX8_as 14 = .ok (.invokestatic 42, 3) := by decide +kernel
theorem dX8_as_17 : decode cX8_as 17 = .ok (.ifCond .ne 6, 3) := by decide +kernel
theorem dX8_as_20 : decode cX8_as 20 = .ok (.ldc 52, 2) := by decide +kernel
theorem dX8_as_22 : decode cX8_as 22 = .ok (.ireturn, 1) := by decide +kernel
theorem dX8_as_23 : decode cX8_as 23 = .ok (.aload_n 0, 1) := by decide +kernel
theorem dX8_as_24 : decode cX8_as 24 = .ok (.iload_n 1, 1) := by decide +kernel
theorem dX8_as_25 : decode cX8_as 25 = .ok (.iload_n 2, 1) := by decide +kernel
theorem dX8_as_26 : decode cX8_as 26 = .ok (.invokevirtual 223, 3) := by decide +kernel
theorem dX8_as_29 : decode cX8_as 29 = .ok (.ifCond .eq 11, 3) := by decide +kernel
theorem dX8_as_32 : decode cX8_as 32 = .ok (.aload_n 0, 1) := by decide +kernel
theorem dX8_as_33 : decode cX8_as 33 = .ok (.iload_n 1, 1) := by decide +kernel
theorem dX8_as_34 : decode cX8_as 34 = .ok (.invokevirtual 57, 3) := by decide +kernel
theorem dX8_as_37 : decode cX8_as 37 = .ok (.goto 8, 3) := by decide +kernel
theorem dX8_as_40 : decode cX8_as 40 = .ok (.aload_n 0, 1) := by decide +kernel
theorem dX8_as_41 : decode cX8_as 41 = .ok (.iconst 3, 1) := by decide +kernel
theorem dX8_as_42 : decode cX8_as 42 = .ok (.invokevirtual 53, 3) := by decide +kernel
theorem dX8_as_45 : decode cX8_as 45 = .ok (.ireturn, 1) := by decide +kernel
theorem dX8_begin_0 : decode cX8_begin 0 = .ok (.aload_n 0, 1) := by decide +kernel
theorem dX8_begin_1 : decode cX8_begin 1 = .ok (.getfield 226, 3) := by decide +kernel
theorem dX8_begin_4 : decode cX8_begin 4 = .ok (.bipush 16, 2) := by decide +kernel
theorem dX8_begin_6 : decode cX8_begin 6 = .ok (.if_icmp .ge 23, 3) := by decide +kernel
theorem dX8_begin_9 : decode cX8_begin 9 = .ok (.aload_n 0, 1) := by decide +kernel
theorem dX8_begin_10 : decode cX8_begin 10 = .ok (.getfield 29, 3) := by decide +kernel
theorem dX8_begin_13 : decode cX8_begin 13 = .ok (.aload_n 0, 1) := by decide +kernel
theorem dX8_begin_14 : decode cX8_begin 14 = .ok (.getfield 226, 3) := by decide +kernel
theorem dX8_begin_17 : decode cX8_begin 17 = .ok (.iload_n 1, 1) := by decide +kernel
theorem dX8_begin_18 : decode cX8_begin 18 = .ok (.iastore, 1) := by decide +kernel
theorem dX8_begin_19 : decode cX8_begin 19 = .ok (.aload_n 0, 1) := by decide +kernel
theorem dX8_begin_20 : decode cX8_begin 20 = .ok (.dup, 1) := by decide +kernel
theorem dX8_begin_21 : decode cX8_begin 21 = .ok (.getfield 226, 3) := by decide +kernel
theorem dX8_begin_24 : decode cX8_begin 24 = .ok (.iconst 1, 1) := by decide +kernel
theorem dX8_begin_25 : decode cX8_begin 25 = .ok (.iadd, 1) := by decide +kernel
theorem dX8_begin_26 : decode cX8_begin 26 = .ok (.putfield 226, 3) := by decide +kernel
theorem dX8_begin_29 : decode cX8_begin 29 = .ok (.return_, 1) := by decide +kernel
set_option maxRecDepth 20000 in
theorem ggX8_lentSize_X8_begin : GoodIn wsX8_lentSize wsX8_begin := goodIn_r _ [6, 7, 8, 9, 10, 11, 12, 13, 14, 15, 16, 17, 18, 19, 20, 21, 22, 23, 24, 25] (by decide +kernel) (by decide +kernel)
set_option maxRecDepth 20000 in
theorem gX8_lentSize_X8_begin : GoodIn wsX8_lentSize (wsV RX8 229 RX8 yX8_begin wsX8_begin) := goodIn_app (goodIn_of _ (by decide +kernel)) ggX8_lentSize_X8_begin
theorem dX8_lentSize_0 : decode cX8_lentSize 0 = .ok (.aload_n 0, 1) := by decide +kernel
theorem dX8_lentSize_1 : decode cX8_lentSize 1 = .ok (.bipush 10, 2) := by decide +kernel
theorem dX8_lentSize_3 : decode cX8_lentSize 3 = .ok (.invokevirtual 229, 3) := by decide +kernel
theorem dX8_lentSize_6 : decode cX8_lentSize 6 = .ok (.aload_n 0, 1) := by decide +kernel
theorem dX8_lentSize_7 : decode cX8_lentSize 7 = .ok (.getfield 7, 3) := by decide +kernel
theorem dX8_lentSize_10 : decode cX8_lentSize 10 = .ok (.bipush 37, 2) := by decide +kernel
theorem dX8_lentSize_12 : decode cX8_lentSize 12 = .ok (.iload_n 1, 1) := by decide +kernel
theorem dX8_lentSize_13 : decode cX8_lentSize 13 = .ok (.iadd, 1) := by decide +kernel
theorem dX8_lentSize_14 : decode cX8_lentSize 14 = .ok (.iaload, 1) := by decide +kernel
theorem dX8_lentSize_15 : decode cX8_lentSize 15 = .ok (.ireturn, 1) := by decide +kernel
set_option maxRecDepth 20000 in
theorem ggX8_wavesSize_X8_begin : GoodIn wsX8_wavesSize wsX8_begin := goodIn_r _ [5, 6, 7, 25, 26, 27, 28, 29, 30, 31, 32, 33, 34, 35, 36, 37, 38, 39, 40, 41] (by decide +kernel) (by decide +kernel)
set_option maxRecDepth 20000 in
theorem gX8_wavesSize_X8_begin : GoodIn wsX8_wavesSize (wsV RX8 229 RX8 yX8_begin wsX8_begin) := goodIn_app (goodIn_of _ (by decide +kernel)) ggX8_wavesSize_X8_begin
set_option maxRecDepth 20000 in
theorem ggX8_wavesSize_X8_lentSize : GoodIn wsX8_wavesSize wsX8_lentSize := goodIn_r _ [11, 12, 1, 2, 3, 4, 5, 6, 7, 25, 26, 27, 28, 29, 30, 31, 32, 33, 34, 35, 36, 37, 38, 39, 40, 41] (by decide +kernel) (by decide +kernel)
set_option maxRecDepth 20000 in
theorem gX8_wavesSize_X8_lentSize : GoodIn wsX8_wavesSize (wsV RX8 233 RX8 yX8_lentSize wsX8_lentSize) := goodIn_app (goodIn_of _ (by decide +kernel)) ggX8_wavesSize_X8_lentSize
set_option maxRecDepth 20000 in
theorem ggX8_wavesSize_X8_mark : GoodIn wsX8_wavesSize wsX8_mark := goodIn_r _ [16, 12, 1, 2, 3, 4, 5, 6, 7, 17, 18, 19, 20, 21, 22, 23, 24, 25, 26, 27, 28, 29, 30, 31, 32, 33, 34, 35, 36, 37, 38, 39, 40, 41] (by decide +kernel) (by decide +kernel)
set_option maxRecDepth 20000 in
theorem gX8_wavesSize_X8_mark : GoodIn wsX8_wavesSize (wsV RX8 236 RX8 yX8_mark wsX8_mark) := goodIn_app (goodIn_of _ (by decide +kernel)) ggX8_wavesSize_X8_mark
theorem dX8_wavesSize_0 : decode cX8_wavesSize 0 = .ok (.aload_n 0, 1) := by decide +kernel
theorem dX8_wavesSize_1 : decode cX8_wavesSize 1 = .ok (.bipush 11, 2) := by decide +kernel
theorem dX8_wavesSize_3 : decode cX8_wavesSize 3 = .ok (.invokevirtual 229, 3) := by decide +kernel
theorem dX8_wavesSize_6 : decode cX8_wavesSize 6 = .ok (.aload_n 0, 1) := by decide +kernel
theorem dX8_wavesSize_7 : decode cX8_wavesSize 7 = .ok (.iload_n 1, 1) := by decide +kernel
theorem dX8_wavesSize_8 : decode cX8_wavesSize 8 = .ok (.invokevirtual 233, 3) := by decide +kernel
theorem dX8_wavesSize_11 : decode cX8_wavesSize 11 = .ok (.istore_n 2, 1) := by decide +kernel
theorem dX8_wavesSize_12 : decode cX8_wavesSize 12 = .ok (.iload_n 2, 1) := by decide +kernel
theorem dX8_wavesSize_13 : decode cX8_wavesSize 13 = .ok (.aload_n 0, 1) := by decide +kernel
theorem dX8_wavesSize_14 : decode cX8_wavesSize 14 = .ok (.iload_n 1, 1) := by decide +kernel
theorem dX8_wavesSize_15 : decode cX8_wavesSize 15 = .ok (.invokevirtual 236, 3) := by decide +kernel
theorem dX8_wavesSize_18 : decode cX8_wavesSize 18 = .ok (.iadd, 1) := by decide +kernel
theorem dX8_wavesSize_19 : decode cX8_wavesSize 19 = .ok (.ireturn, 1) := by decide +kernel
set_option maxRecDepth 20000 in
theorem ggX8_winksSize_X8_begin : GoodIn wsX8_winksSize wsX8_begin := goodIn_r _ [5, 6, 7, 13, 14, 15, 16, 17, 18, 19, 20, 21, 22, 23, 24, 25, 26, 27, 28, 29] (by decide +kernel) (by decide +kernel)
set_option maxRecDepth 20000 in
theorem gX8_winksSize_X8_begin : GoodIn wsX8_winksSize (wsV RX8 229 RX8 yX8_begin wsX8_begin) := goodIn_app (goodIn_of _ (by decide +kernel)) ggX8_winksSize_X8_begin
set_option maxRecDepth 20000 in
theorem ggX8_winksSize_X8_lentSize : GoodIn wsX8_winksSize wsX8_lentSize := goodIn_r _ [11, 12, 1, 2, 3, 4, 5, 6, 7, 13, 14, 15, 16, 17, 18, 19, 20, 21, 22, 23, 24, 25, 26, 27, 28, 29] (by decide +kernel) (by decide +kernel)
set_option maxRecDepth 20000 in
theorem gX8_winksSize_X8_lentSize : GoodIn wsX8_winksSize (wsV RX8 233 RX8 yX8_lentSize wsX8_lentSize) := goodIn_app (goodIn_of _ (by decide +kernel)) ggX8_winksSize_X8_lentSize
theorem dX8_winksSize_0 : decode cX8_winksSize 0 = .ok (.aload_n 0, 1) := by decide +kernel
theorem dX8_winksSize_1 : decode cX8_winksSize 1 = .ok (.bipush 13, 2) := by decide +kernel
theorem dX8_winksSize_3 : decode cX8_winksSize 3 = .ok (.invokevirtual 229, 3) := by decide +kernel
theorem dX8_winksSize_6 : decode cX8_winksSize 6 = .ok (.aload_n 0, 1) := by decide +kernel
theorem dX8_winksSize_7 : decode cX8_winksSize 7 = .ok (.iload_n 1, 1) := by decide +kernel
theorem dX8_winksSize_8 : decode cX8_winksSize 8 = .ok (.invokevirtual 233, 3) := by decide +kernel
theorem dX8_winksSize_11 : decode cX8_winksSize 11 = .ok (.bipush 100, 2) := by decide +kernel
theorem dX8_winksSize_13 : decode cX8_winksSize 13 = .ok (.isub, 1) := by decide +kernel
theorem dX8_winksSize_14 : decode cX8_winksSize 14 = .ok (.ireturn, 1) := by decide +kernel
set_option maxRecDepth 20000 in
theorem ggX8_sizeOf_X8_begin : GoodIn wsX8_sizeOf wsX8_begin := goodIn_r _ [6, 7, 8, 33, 34, 35, 36, 37, 38, 39, 40, 41, 42, 43, 44, 45, 46, 47, 48, 49] (by decide +kernel) (by decide +kernel)
set_option maxRecDepth 20000 in
theorem gX8_sizeOf_X8_begin : GoodIn wsX8_sizeOf (wsV RX8 229 RX8 yX8_begin wsX8_begin) := goodIn_app (goodIn_of _ (by decide +kernel)) ggX8_sizeOf_X8_begin
set_option maxRecDepth 20000 in
theorem ggX8_sizeOf_X8_wavesSize : GoodIn wsX8_sizeOf wsX8_wavesSize := goodIn_r _ [12, 2, 3, 4, 5, 6, 7, 8, 13, 14, 15, 16, 1, 17, 18, 19, 20, 21, 22, 23, 24, 25, 26, 27, 28, 33, 34, 35, 36, 37, 38, 39, 40, 41, 42, 43, 44, 45, 46, 47, 48, 49] (by decide +kernel) (by decide +kernel)
set_option maxRecDepth 20000 in
theorem gX8_sizeOf_X8_wavesSize : GoodIn wsX8_sizeOf (wsV RX8 239 RX8 yX8_wavesSize wsX8_wavesSize) := goodIn_app (goodIn_of _ (by decide +kernel)) ggX8_sizeOf_X8_wavesSize
set_option maxRecDepth 20000 in
theorem ggX8_sizeOf_X8_winksSize : GoodIn wsX8_sizeOf wsX8_winksSize := goodIn_r _ [32, 2, 3, 4, 5, 6, 7, 8, 13, 14, 15, 16, 1, 33, 34, 35, 36, 37, 38, 39, 40, 41, 42, 43, 44, 45, 46, 47, 48, 49] (by decide +kernel) (by decide +kernel)
set_option maxRecDepth 20000 in
theorem gX8_sizeOf_X8_winksSize : GoodIn wsX8_sizeOf (wsV RX8 242 RX8 yX8_winksSize wsX8_winksSize) := goodIn_app (goodIn_of _ (by decide +kernel)) ggX8_sizeOf_X8_winksSize
theorem dX8_sizeOf_0 : decode cX8_sizeOf 0 = .ok (.aload_n 0, 1) := by decide +kernel
theorem dX8_sizeOf_1 : decode cX8_sizeOf 1 = .ok (.getfield 7, 3) := by decide +kernel
theorem dX8_sizeOf_4 : decode cX8_sizeOf 4 = .ok (.bipush 19, 2) := by decide +kernel
theorem dX8_sizeOf_6 : decode cX8_sizeOf 6 = .ok (.iload_n 1, 1) := by decide +kernel
theorem dX8_sizeOf_7 : decode cX8_sizeOf 7 = .ok (.iadd, 1) := by decide +kernel
theorem dX8_sizeOf_8 : decode cX8_sizeOf 8 = .ok (.iaload, 1) := by decide +kernel
theorem dX8_sizeOf_9 : decode cX8_sizeOf 9 = .ok (.tableswitch 64 2 5 #[31, 64, 44, 50], 31) := by decide +kernel
theorem dX8_sizeOf_40 : decode cX8_sizeOf 40 = .ok (.aload_n 0, 1) := by decide +kernel
theorem dX8_sizeOf_41 : decode cX8_sizeOf 41 = .ok (.bipush 12, 2) := by decide +kernel
theorem dX8_sizeOf_43 : decode cX8_sizeOf 43 = .ok (.invokevirtual 229, 3) := by decide +kernel
theorem dX8_sizeOf_46 : decode cX8_sizeOf 46 = .ok (.aload_n 0, 1) := by decide +kernel
theorem dX8_sizeOf_47 : decode cX8_sizeOf 47 = .ok (.iload_n 1, 1) := by decide +kernel
theorem dX8_sizeOf_48 : decode cX8_sizeOf 48 = .ok (.invokevirtual 239, 3) := by decide +kernel
theorem dX8_sizeOf_51 : decode cX8_sizeOf 51 = .ok (.ineg, 1) := by decide +kernel
theorem dX8_sizeOf_52 : decode cX8_sizeOf 52 = .ok (.ireturn, 1) := by decide +kernel
theorem dX8_sizeOf_53 : decode cX8_sizeOf 53 = .ok (.aload_n 0, 1) := by decide +kernel
theorem dX8_sizeOf_54 : decode cX8_sizeOf 54 = .ok (.iload_n 1, 1) := by decide +kernel
theorem dX8_sizeOf_55 : decode cX8_sizeOf 55 = .ok (.invokevirtual 242, 3) := by decide +kernel
theorem dX8_sizeOf_58 : decode cX8_sizeOf 58 = .ok (.ireturn, 1) := by decide +kernel
theorem dX8_sizeOf_59 : decode cX8_sizeOf 59 = .ok (.aload_n 0, 1) := by decide +kernel
theorem dX8_sizeOf_60 : decode cX8_sizeOf 60 = .ok (.bipush 14, 2) := by decide +kernel
theorem dX8_sizeOf_62 : decode cX8_sizeOf 62 = .ok (.invokevirtual 229, 3) := by decide +kernel
theorem dX8_sizeOf_65 : decode cX8_sizeOf 65 = .ok (.iconst 2, 1) := by decide +kernel
theorem dX8_sizeOf_66 : decode cX8_sizeOf 66 = .ok (.aload_n 0, 1) := by decide +kernel
theorem dX8_sizeOf_67 : decode cX8_sizeOf 67 = .ok (.iload_n 1, 1) := by decide +kernel
theorem dX8_sizeOf_68 : decode cX8_sizeOf 68 = .ok (.invokevirtual 242, 3) := by decide +kernel
theorem dX8_sizeOf_71 : decode cX8_sizeOf 71 = .ok (.imul, 1) := by decide +kernel
theorem dX8_sizeOf_72 : decode cX8_sizeOf 72 = .ok (.ireturn, 1) := by decide +kernel
theorem dX8_sizeOf_73 : decode cX8_sizeOf 73 = .ok (.aload_n 0, 1) := by decide +kernel
theorem dX8_sizeOf_74 : decode cX8_sizeOf 74 = .ok (.iload_n 1, 1) := by decide +kernel
theorem dX8_sizeOf_75 : decode cX8_sizeOf 75 = .ok (.invokevirtual 239, 3) := by decide +kernel
theorem dX8_sizeOf_78 : decode cX8_sizeOf 78 = .ok (.ireturn, 1) := by decide +kernel
set_option maxRecDepth 20000 in
theorem ggX8_lentMark_X8_begin : GoodIn wsX8_lentMark wsX8_begin := goodIn_r _ [5, 6, 7, 8, 9, 10, 11, 12, 13, 14, 15, 16, 17, 18, 19, 20, 21, 22, 23, 24] (by decide +kernel) (by decide +kernel)
set_option maxRecDepth 20000 in
theorem gX8_lentMark_X8_begin : GoodIn wsX8_lentMark (wsV RX8 229 RX8 yX8_begin wsX8_begin) := goodIn_app (goodIn_of _ (by decide +kernel)) ggX8_lentMark_X8_begin
theorem dX8_lentMark_0 : decode cX8_lentMark 0 = .ok (.aload_n 0, 1) := by decide +kernel
theorem dX8_lentMark_1 : decode cX8_lentMark 1 = .ok (.bipush 20, 2) := by decide +kernel
theorem dX8_lentMark_3 : decode cX8_lentMark 3 = .ok (.invokevirtual 229, 3) := by decide +kernel
theorem dX8_lentMark_6 : decode cX8_lentMark 6 = .ok (.iload_n 1, 1) := by decide +kernel
theorem dX8_lentMark_7 : decode cX8_lentMark 7 = .ok (.ireturn, 1) := by decide +kernel
set_option maxRecDepth 20000 in
theorem ggX8_wavesMark_X8_begin : GoodIn wsX8_wavesMark wsX8_begin := goodIn_r _ [6, 7, 8, 13, 14, 15, 16, 17, 18, 19, 20, 21, 22, 23, 24, 25, 26, 27, 28, 29] (by decide +kernel) (by decide +kernel)
set_option maxRecDepth 20000 in
theorem gX8_wavesMark_X8_begin : GoodIn wsX8_wavesMark (wsV RX8 229 RX8 yX8_begin wsX8_begin) := goodIn_app (goodIn_of _ (by decide +kernel)) ggX8_wavesMark_X8_begin
set_option maxRecDepth 20000 in
theorem ggX8_wavesMark_X8_lentMark : GoodIn wsX8_wavesMark wsX8_lentMark := goodIn_r _ [12, 2, 3, 4, 5, 6, 7, 8, 13, 14, 15, 16, 17, 18, 19, 20, 21, 22, 23, 24, 25, 26, 27, 28, 29] (by decide +kernel) (by decide +kernel)
set_option maxRecDepth 20000 in
theorem gX8_wavesMark_X8_lentMark : GoodIn wsX8_wavesMark (wsV RX8 245 RX8 yX8_lentMark wsX8_lentMark) := goodIn_app (goodIn_of _ (by decide +kernel)) ggX8_wavesMark_X8_lentMark
theorem dX8_wavesMark_0 : decode cX8_wavesMark 0 = .ok (.aload_n 0, 1) := by decide +kernel
theorem dX8_wavesMark_1 : decode cX8_wavesMark 1 = .ok (.bipush 21, 2) := by decide +kernel
theorem dX8_wavesMark_3 : decode cX8_wavesMark 3 = .ok (.invokevirtual 229, 3) := by decide +kernel
theorem dX8_wavesMark_6 : decode cX8_wavesMark 6 = .ok (.aload_n 0, 1) := by decide +kernel
theorem dX8_wavesMark_7 : decode cX8_wavesMark 7 = .ok (.iload_n 1, 1) := by decide +kernel
theorem dX8_wavesMark_8 : decode cX8_wavesMark 8 = .ok (.invokevirtual 245, 3) := by decide +kernel
theorem dX8_wavesMark_11 : decode cX8_wavesMark 11 = .ok (.aload_n 0, 1) := by decide +kernel
theorem dX8_wavesMark_12 : decode cX8_wavesMark 12 = .ok (.getfield 7, 3) := by decide +kernel
theorem dX8_wavesMark_15 : decode cX8_wavesMark 15 = .ok (.bipush 25, 2) := by decide +kernel
theorem dX8_wavesMark_17 : decode cX8_wavesMark 17 = .ok (.iload_n 1, 1) := by decide +kernel
theorem dX8_wavesMark_18 : decode cX8_wavesMark 18 = .ok (.iadd, 1) := by decide +kernel
theorem dX8_wavesMark_19 : decode cX8_wavesMark 19 = .ok (.iaload, 1) := by decide +kernel
theorem dX8_wavesMark_20 : decode cX8_wavesMark 20 = .ok (.iadd, 1) := by decide +kernel
theorem dX8_wavesMark_21 : decode cX8_wavesMark 21 = .ok (.ireturn, 1) := by decide +kernel
set_option maxRecDepth 20000 in
theorem ggX8_mark_X8_begin : GoodIn wsX8_mark wsX8_begin := goodIn_r _ [6, 7, 8, 17, 18, 19, 20, 21, 22, 23, 24, 25, 26, 27, 28, 29, 30, 31, 32, 33] (by decide +kernel) (by decide +kernel)
set_option maxRecDepth 20000 in
theorem gX8_mark_X8_begin : GoodIn wsX8_mark (wsV RX8 229 RX8 yX8_begin wsX8_begin) := goodIn_app (goodIn_of _ (by decide +kernel)) ggX8_mark_X8_begin
set_option maxRecDepth 20000 in
theorem ggX8_mark_X8_wavesMark : GoodIn wsX8_mark wsX8_wavesMark := goodIn_r _ [12, 1, 2, 3, 4, 5, 6, 7, 8, 13, 14, 15, 16, 17, 18, 19, 20, 21, 22, 23, 24, 25, 26, 27, 28, 29, 30, 31, 32, 33] (by decide +kernel) (by decide +kernel)
set_option maxRecDepth 20000 in
theorem gX8_mark_X8_wavesMark : GoodIn wsX8_mark (wsV RX8 248 RX8 yX8_wavesMark wsX8_wavesMark) := goodIn_app (goodIn_of _ (by decide +kernel)) ggX8_mark_X8_wavesMark
theorem dX8_mark_0 : decode cX8_mark 0 = .ok (.aload_n 0, 1) := by decide +kernel
theorem dX8_mark_1 : decode cX8_mark 1 = .ok (.getfield 7, 3) := by decide +kernel
theorem dX8_mark_4 : decode cX8_mark 4 = .ok (.bipush 19, 2) := by decide +kernel
theorem dX8_mark_6 : decode cX8_mark 6 = .ok (.iload_n 1, 1) := by decide +kernel
theorem dX8_mark_7 : decode cX8_mark 7 = .ok (.iadd, 1) := by decide +kernel
theorem dX8_mark_8 : decode cX8_mark 8 = .ok (.iaload, 1) := by decide +kernel
theorem dX8_mark_9 : decode cX8_mark 9 = .ok (.lookupswitch 57 #[(2, 43), (3, 27)], 27) := by decide +kernel
theorem dX8_mark_36 : decode cX8_mark 36 = .ok (.aload_n 0, 1) := by decide +kernel
theorem dX8_mark_37 : decode cX8_mark 37 = .ok (.bipush 22, 2) := by decide +kernel
theorem dX8_mark_39 : decode cX8_mark 39 = .ok (.invokevirtual 229, 3) := by decide +kernel
theorem dX8_mark_42 : decode cX8_mark 42 = .ok (.aload_n 0, 1) := by decide +kernel
theorem dX8_mark_43 : decode cX8_mark 43 = .ok (.iload_n 1, 1) := by decide +kernel
theorem dX8_mark_44 : decode cX8_mark 44 = .ok (.invokevirtual 248, 3) := by decide +kernel
theorem dX8_mark_47 : decode cX8_mark 47 = .ok (.sipush 1000, 3) := by decide +kernel
theorem dX8_mark_50 : decode cX8_mark 50 = .ok (.isub, 1) := by decide +kernel
theorem dX8_mark_51 : decode cX8_mark 51 = .ok (.ireturn, 1) := by decide +kernel
theorem dX8_mark_52 : decode cX8_mark 52 = .ok (.aload_n 0, 1) := by decide +kernel
theorem dX8_mark_53 : decode cX8_mark 53 = .ok (.bipush 24, 2) := by decide +kernel
theorem dX8_mark_55 : decode cX8_mark 55 = .ok (.invokevirtual 229, 3) := by decide +kernel
theorem dX8_mark_58 : decode cX8_mark 58 = .ok (.iconst 2, 1) := by decide +kernel
theorem dX8_mark_59 : decode cX8_mark 59 = .ok (.aload_n 0, 1) := by decide +kernel
theorem dX8_mark_60 : decode cX8_mark 60 = .ok (.iload_n 1, 1) := by decide +kernel
theorem dX8_mark_61 : decode cX8_mark 61 = .ok (.invokevirtual 248, 3) := by decide +kernel
theorem dX8_mark_64 : decode cX8_mark 64 = .ok (.imul, 1) := by decide +kernel
theorem dX8_mark_65 : decode cX8_mark 65 = .ok (.ireturn, 1) := by decide +kernel
theorem dX8_mark_66 : decode cX8_mark 66 = .ok (.aload_n 0, 1) := by decide +kernel
theorem dX8_mark_67 : decode cX8_mark 67 = .ok (.iload_n 1, 1) := by decide +kernel
theorem dX8_mark_68 : decode cX8_mark 68 = .ok (.invokevirtual 248, 3) := by decide +kernel
theorem dX8_mark_71 : decode cX8_mark 71 = .ok (.ireturn, 1) := by decide +kernel
set_option maxRecDepth 20000 in
theorem ggX8_winksMark_X8_begin : GoodIn wsX8_winksMark wsX8_begin := goodIn_r _ [5, 6, 7, 37, 38, 39, 40, 41, 42, 43, 44, 45, 46, 47, 48, 49, 50, 51, 52, 53] (by decide +kernel) (by decide +kernel)
set_option maxRecDepth 20000 in
theorem gX8_winksMark_X8_begin : GoodIn wsX8_winksMark (wsV RX8 229 RX8 yX8_begin wsX8_begin) := goodIn_app (goodIn_of _ (by decide +kernel)) ggX8_winksMark_X8_begin
set_option maxRecDepth 20000 in
theorem ggX8_winksMark_X8_lentMark : GoodIn wsX8_winksMark wsX8_lentMark := goodIn_r _ [11, 1, 2, 3, 4, 5, 6, 7, 37, 38, 39, 40, 41, 42, 43, 44, 45, 46, 47, 48, 49, 50, 51, 52, 53] (by decide +kernel) (by decide +kernel)
set_option maxRecDepth 20000 in
theorem gX8_winksMark_X8_lentMark : GoodIn wsX8_winksMark (wsV RX8 245 RX8 yX8_lentMark wsX8_lentMark) := goodIn_app (goodIn_of _ (by decide +kernel)) ggX8_winksMark_X8_lentMark
set_option maxRecDepth 20000 in
theorem ggX8_winksMark_X8_sizeOf : GoodIn wsX8_winksMark wsX8_sizeOf := goodIn_r _ [15, 16, 1, 2, 3, 4, 5, 6, 7, 17, 18, 19, 20, 21, 22, 23, 24, 25, 26, 27, 28, 29, 30, 31, 32, 8, 9, 10, 11, 33, 34, 35, 36, 37, 38, 39, 40, 41, 42, 43, 44, 45, 46, 47, 48, 49, 50, 51, 52, 53] (by decide +kernel) (by decide +kernel)
set_option maxRecDepth 20000 in
theorem gX8_winksMark_X8_sizeOf : GoodIn wsX8_winksMark (wsV RX8 251 RX8 yX8_sizeOf wsX8_sizeOf) := goodIn_app (goodIn_of _ (by decide +kernel)) ggX8_winksMark_X8_sizeOf
theorem dX8_winksMark_0 : decode cX8_winksMark 0 = .ok (.aload_n 0, 1) := by decide +kernel
theorem dX8_winksMark_1 : decode cX8_winksMark 1 = .ok (.bipush 23, 2) := by decide +kernel
theorem dX8_winksMark_3 : decode cX8_winksMark 3 = .ok (.invokevirtual 229, 3) := by decide +kernel
theorem dX8_winksMark_6 : decode cX8_winksMark 6 = .ok (.aload_n 0, 1) := by decide +kernel
theorem dX8_winksMark_7 : decode cX8_winksMark 7 = .ok (.iload_n 1, 1) := by decide +kernel
theorem dX8_winksMark_8 : decode cX8_winksMark 8 = .ok (.invokevirtual 245, 3) := by decide +kernel
theorem dX8_winksMark_11 : decode cX8_winksMark 11 = .ok (.istore_n 2, 1) := by decide +kernel
theorem dX8_winksMark_12 : decode cX8_winksMark 12 = .ok (.iload_n 2, 1) := by decide +kernel
theorem dX8_winksMark_13 : decode cX8_winksMark 13 = .ok (.aload_n 0, 1) := by decide +kernel
theorem dX8_winksMark_14 : decode cX8_winksMark 14 = .ok (.iload_n 1, 1) := by decide +kernel
theorem dX8_winksMark_15 : decode cX8_winksMark 15 = .ok (.invokevirtual 251, 3) := by decide +kernel
theorem dX8_winksMark_18 : decode cX8_winksMark 18 = .ok (.isub, 1) := by decide +kernel
theorem dX8_winksMark_19 : decode cX8_winksMark 19 = .ok (.ireturn, 1) := by decide +kernel
set_option maxRecDepth 20000 in
theorem ggX8_ask_X8_isGesture : GoodIn wsX8_ask wsX8_isGesture := goodIn_r _ [7, 8, 9, 10, 6, 11, 53, 54, 55, 56, 57, 58, 59, 60, 61, 62, 63, 64, 65, 66, 67, 68, 69] (by decide +kernel) (by decide +kernel)
set_option maxRecDepth 20000 in
theorem gX8_ask_X8_isGesture : GoodIn wsX8_ask (wsV RX8 148 RX8 yX8_isGesture wsX8_isGesture) := goodIn_app (goodIn_of _ (by decide +kernel)) ggX8_ask_X8_isGesture
set_option maxRecDepth 20000 in
theorem ggX8_ask_X8_in : GoodIn wsX8_ask wsX8_in := goodIn_r _ [11] (by decide +kernel) (by decide +kernel)
set_option maxRecDepth 20000 in
theorem gX8_ask_X8_in : GoodIn wsX8_ask (va_wsS RX8 42 yX8_in wsX8_in) := goodIn_app (goodIn_of _ (by decide +kernel)) ggX8_ask_X8_in
set_option maxRecDepth 20000 in
theorem ggX8_ask_X8_sizeOf : GoodIn wsX8_ask wsX8_sizeOf := goodIn_r _ [15, 8, 16, 17, 18, 6, 19, 2, 20, 21, 22, 23, 24, 25, 26, 27, 28, 29, 30, 31, 32, 33, 34, 35, 36, 37, 38, 39, 40, 41, 42, 43, 44, 53, 54, 55, 56, 57, 58, 59, 60, 61, 62, 63, 64, 65, 66, 67, 68, 69] (by decide +kernel) (by decide +kernel)
set_option maxRecDepth 20000 in
theorem gX8_ask_X8_sizeOf : GoodIn wsX8_ask (wsV RX8 251 RX8 yX8_sizeOf wsX8_sizeOf) := goodIn_app (goodIn_of _ (by decide +kernel)) ggX8_ask_X8_sizeOf
set_option maxRecDepth 20000 in
theorem ggX8_ask_X8_isOf : GoodIn wsX8_ask wsX8_isOf := goodIn_r _ [48, 8, 53, 54, 55, 56, 57, 58, 59, 60, 61, 62, 63, 64, 65, 66, 67, 68, 69] (by decide +kernel) (by decide +kernel)
set_option maxRecDepth 20000 in
theorem gX8_ask_X8_isOf : GoodIn wsX8_ask (wsV RX8 223 RX8 yX8_isOf wsX8_isOf) := goodIn_app (goodIn_of _ (by decide +kernel)) ggX8_ask_X8_isOf
set_option maxRecDepth 20000 in
theorem ggX8_ask_X8_winksMark : GoodIn wsX8_ask wsX8_winksMark := goodIn_r _ [52, 16, 17, 18, 6, 19, 2, 20, 37, 38, 39, 40, 12, 13, 14, 15, 8, 21, 22, 23, 24, 25, 26, 27, 28, 29, 30, 31, 32, 33, 34, 35, 36, 41, 42, 43, 44, 53, 54, 55, 56, 57, 58, 59, 60, 61, 62, 63, 64, 65, 66, 67, 68, 69] (by decide +kernel) (by decide +kernel)
set_option maxRecDepth 20000 in
theorem gX8_ask_X8_winksMark : GoodIn wsX8_ask (wsV RX8 254 RX8 yX8_winksMark wsX8_winksMark) := goodIn_app (goodIn_of _ (by decide +kernel)) ggX8_ask_X8_winksMark
set_option maxRecDepth 20000 in
theorem ggX8_ask_X8_mark : GoodIn wsX8_ask wsX8_mark := goodIn_r _ [32, 8, 16, 17, 18, 6, 19, 2, 20, 33, 34, 35, 36, 37, 38, 39, 40, 53, 54, 55, 56, 57, 58, 59, 60, 61, 62, 63, 64, 65, 66, 67, 68, 69] (by decide +kernel) (by decide +kernel)
set_option maxRecDepth 20000 in
theorem gX8_ask_X8_mark : GoodIn wsX8_ask (wsV RX8 236 RX8 yX8_mark wsX8_mark) := goodIn_app (goodIn_of _ (by decide +kernel)) ggX8_ask_X8_mark
theorem dX8_ask_0 : decode cX8_ask 0 = .ok (.aload_n 0, 1) := by decide +kernel
theorem dX8_ask_1 : decode cX8_ask 1 = .ok (.iload_n 1, 1) := by decide +kernel
theorem dX8_ask_2 : decode cX8_ask 2 = .ok (.invokevirtual 148, 3) := by decide +kernel
theorem dX8_ask_5 : decode cX8_ask 5 = .ok (.ifCond .eq 13, 3) := by decide +kernel
theorem dX8_ask_8 : decode cX8_ask 8 = .ok (.iload_n 2, 1) := by decide +kernel
theorem dX8_ask_9 : decode cX8_ask 9 = .ok (.i2l, 1) := by decide +kernel
theorem dX8_ask_10 : decode cX8_ask 10 = .ok (.lconst 0, 1) := by decide +kernel
theorem dX8_ask_11 : decode cX8_ask 11 = .ok (.lconst 1, 1) := by decide +kernel
theorem dX8_ask_12 : decode cX8_ask 12 = .ok (.invokestatic 42, 3) := by decide +kernel
theorem dX8_ask_15 : decode cX8_ask 15 = .ok (.ifCond .ne 6, 3) := by decide +kernel
theorem dX8_ask_18 : decode cX8_ask 18 = .ok (.ldc 52, 2) := by decide +kernel
theorem dX8_ask_20 : decode cX8_ask 20 = .ok (.ireturn, 1) := by decide +kernel
theorem dX8_ask_21 : decode cX8_ask 21 = .ok (.aload_n 0, 1) := by decide +kernel
theorem dX8_ask_22 : decode cX8_ask 22 = .ok (.iconst 0, 1) := by decide +kernel
theorem dX8_ask_23 : decode cX8_ask 23 = .ok (.putfield 226, 3) := by decide +kernel
theorem dX8_ask_26 : decode cX8_ask 26 = .ok (.iload_n 2, 1) := by decide +kernel
theorem dX8_ask_27 : decode cX8_ask 27 = .ok (.ifCond .ne 11, 3) := by decide +kernel
theorem dX8_ask_30 : decode cX8_ask 30 = .ok (.aload_n 0, 1) := by decide +kernel
theorem dX8_ask_31 : decode cX8_ask 31 = .ok (.iload_n 1, 1) := by decide +kernel
theorem dX8_ask_32 : decode cX8_ask 32 = .ok (.invokevirtual 251, 3) := by decide +kernel
theorem dX8_ask_35 : decode cX8_ask 35 = .ok (.goto 25, 3) := by decide +kernel
theorem dX8_ask_38 : decode cX8_ask 38 = .ok (.aload_n 0, 1) := by decide +kernel
theorem dX8_ask_39 : decode cX8_ask 39 = .ok (.iload_n 1, 1) := by decide +kernel
theorem dX8_ask_40 : decode cX8_ask 40 = .ok (.iconst 4, 1) := by decide +kernel
theorem dX8_ask_41 : decode cX8_ask 41 = .ok (.invokevirtual 223, 3) := by decide +kernel
theorem dX8_ask_44 : decode cX8_ask 44 = .ok (.ifCond .eq 11, 3) := by decide +kernel
theorem dX8_ask_47 : decode cX8_ask 47 = .ok (.aload_n 0, 1) := by decide +kernel
theorem dX8_ask_48 : decode cX8_ask 48 = .ok (.iload_n 1, 1) := by decide +kernel
theorem dX8_ask_49 : decode cX8_ask 49 = .ok (.invokevirtual 254, 3) := by decide +kernel
theorem dX8_ask_52 : decode cX8_ask 52 = .ok (.goto 8, 3) := by decide +kernel
theorem dX8_ask_55 : decode cX8_ask 55 = .ok (.aload_n 0, 1) := by decide +kernel
theorem dX8_ask_56 : decode cX8_ask 56 = .ok (.iload_n 1, 1) := by decide +kernel
theorem dX8_ask_57 : decode cX8_ask 57 = .ok (.invokevirtual 236, 3) := by decide +kernel
theorem dX8_ask_60 : decode cX8_ask 60 = .ok (.ireturn, 1) := by decide +kernel
set_option maxRecDepth 20000 in
theorem ggX8_trace_X8_in : GoodIn wsX8_trace wsX8_in := goodIn_r _ [7] (by decide +kernel) (by decide +kernel)
set_option maxRecDepth 20000 in
theorem gX8_trace_X8_in : GoodIn wsX8_trace (va_wsS RX8 42 yX8_in wsX8_in) := goodIn_app (goodIn_of _ (by decide +kernel)) ggX8_trace_X8_in
theorem dX8_trace_0 : decode cX8_trace 0 = .ok (.iload_n 1, 1) := by decide +kernel
theorem dX8_trace_1 : decode cX8_trace 1 = .ok (.i2l, 1) := by decide +kernel
theorem dX8_trace_2 : decode cX8_trace 2 = .ok (.lconst 0, 1) := by decide +kernel
theorem dX8_trace_3 : decode cX8_trace 3 = .ok (.aload_n 0, 1) := by decide +kernel
theorem dX8_trace_4 : decode cX8_trace 4 = .ok (.getfield 226, 3) := by decide +kernel
theorem dX8_trace_7 : decode cX8_trace 7 = .ok (.iconst 1, 1) := by decide +kernel
theorem dX8_trace_8 : decode cX8_trace 8 = .ok (.isub, 1) := by decide +kernel
theorem dX8_trace_9 : decode cX8_trace 9 = .ok (.i2l, 1) := by decide +kernel
theorem dX8_trace_10 : decode cX8_trace 10 = .ok (.invokestatic 42, 3) := by decide +kernel
theorem dX8_trace_13 : decode cX8_trace 13 = .ok (.ifCond .eq 12, 3) := by decide +kernel
theorem dX8_trace_16 : decode cX8_trace 16 = .ok (.aload_n 0, 1) := by decide +kernel
theorem dX8_trace_17 : decode cX8_trace 17 = .ok (.getfield 29, 3) := by decide +kernel
theorem dX8_trace_20 : decode cX8_trace 20 = .ok (.iload_n 1, 1) := by decide +kernel
theorem dX8_trace_21 : decode cX8_trace 21 = .ok (.iaload, 1) := by decide +kernel
theorem dX8_trace_22 : decode cX8_trace 22 = .ok (.goto 5, 3) := by decide +kernel
theorem dX8_trace_25 : decode cX8_trace 25 = .ok (.ldc 200, 2) := by decide +kernel
theorem dX8_trace_27 : decode cX8_trace 27 = .ok (.ireturn, 1) := by decide +kernel
set_option maxRecDepth 20000 in
theorem ggX8_count_X8_bits : GoodIn wsX8_count wsX8_bits := goodIn_r _ [9] (by decide +kernel) (by decide +kernel)
set_option maxRecDepth 20000 in
theorem gX8_count_X8_bits : GoodIn wsX8_count (va_wsS RX8 257 yX8_bits wsX8_bits) := goodIn_app (goodIn_of _ (by decide +kernel)) ggX8_count_X8_bits
theorem dX8_count_0 : decode cX8_count 0 = .ok (.iconst 0, 1) := by decide +kernel
theorem dX8_count_1 : decode cX8_count 1 = .ok (.istore_n 2, 1) := by decide +kernel
theorem dX8_count_2 : decode cX8_count 2 = .ok (.iload_n 1, 1) := by decide +kernel
theorem dX8_count_3 : decode cX8_count 3 = .ok (.tableswitch 126 0 7 #[45, 78, 85, 92, 99, 106, 116, 121], 45) := by decide +kernel
theorem dX8_count_48 : decode cX8_count 48 = .ok (.iconst 0, 1) := by decide +kernel
theorem dX8_count_49 : decode cX8_count 49 = .ok (.istore_n 3, 1) := by decide +kernel
theorem dX8_count_50 : decode cX8_count 50 = .ok (.iload_n 3, 1) := by decide +kernel
theorem dX8_count_51 : decode cX8_count 51 = .ok (.bipush 8, 2) := by decide +kernel
theorem dX8_count_53 : decode cX8_count 53 = .ok (.if_icmp .ge 26, 3) := by decide +kernel
theorem dX8_count_56 : decode cX8_count 56 = .ok (.iload_n 2, 1) := by decide +kernel
theorem dX8_count_57 : decode cX8_count 57 = .ok (.aload_n 0, 1) := by decide +kernel
theorem dX8_count_58 : decode cX8_count 58 = .ok (.getfield 20, 3) := by decide +kernel
theorem dX8_count_61 : decode cX8_count 61 = .ok (.iload_n 3, 1) := by decide +kernel
theorem dX8_count_62 : decode cX8_count 62 = .ok (.iaload, 1) := by decide +kernel
theorem dX8_count_63 : decode cX8_count 63 = .ok (.ifCond .ge 7, 3) := by decide +kernel
theorem dX8_count_66 : decode cX8_count 66 = .ok (.iconst 0, 1) := by decide +kernel
theorem dX8_count_67 : decode cX8_count 67 = .ok (.goto 4, 3) := by decide +kernel
theorem dX8_count_70 : decode cX8_count 70 = .ok (.iconst 1, 1) := by decide +kernel
theorem dX8_count_71 : decode cX8_count 71 = .ok (.iadd, 1) := by decide +kernel
theorem dX8_count_72 : decode cX8_count 72 = .ok (.istore_n 2, 1) := by decide +kernel
theorem dX8_count_73 : decode cX8_count 73 = .ok (.iinc 3 1, 3) := by decide +kernel
theorem dX8_count_76 : decode cX8_count 76 = .ok (.goto (-26), 3) := by decide +kernel
theorem dX8_count_79 : decode cX8_count 79 = .ok (.iload_n 2, 1) := by decide +kernel
theorem dX8_count_80 : decode cX8_count 80 = .ok (.ireturn, 1) := by decide +kernel
theorem dX8_count_81 : decode cX8_count 81 = .ok (.aload_n 0, 1) := by decide +kernel
theorem dX8_count_82 : decode cX8_count 82 = .ok (.getfield 7, 3) := by decide +kernel
theorem dX8_count_85 : decode cX8_count 85 = .ok (.iconst 1, 1) := by decide +kernel
theorem dX8_count_86 : decode cX8_count 86 = .ok (.iaload, 1) := by decide +kernel
theorem dX8_count_87 : decode cX8_count 87 = .ok (.ireturn, 1) := by decide +kernel
theorem dX8_count_88 : decode cX8_count 88 = .ok (.aload_n 0, 1) := by decide +kernel
theorem dX8_count_89 : decode cX8_count 89 = .ok (.getfield 7, 3) := by decide +kernel
theorem dX8_count_92 : decode cX8_count 92 = .ok (.iconst 2, 1) := by decide +kernel
theorem dX8_count_93 : decode cX8_count 93 = .ok (.iaload, 1) := by decide +kernel
theorem dX8_count_94 : decode cX8_count 94 = .ok (.ireturn, 1) := by decide +kernel
theorem dX8_count_95 : decode cX8_count 95 = .ok (.aload_n 0, 1) := by decide +kernel
theorem dX8_count_96 : decode cX8_count 96 = .ok (.getfield 7, 3) := by decide +kernel
theorem dX8_count_99 : decode cX8_count 99 = .ok (.iconst 3, 1) := by decide +kernel
theorem dX8_count_100 : decode cX8_count 100 = .ok (.iaload, 1) := by decide +kernel
theorem dX8_count_101 : decode cX8_count 101 = .ok (.ireturn, 1) := by decide +kernel
theorem dX8_count_102 : decode cX8_count 102 = .ok (.aload_n 0, 1) := by decide +kernel
theorem dX8_count_103 : decode cX8_count 103 = .ok (.getfield 7, 3) := by decide +kernel
theorem dX8_count_106 : decode cX8_count 106 = .ok (.iconst 0, 1) := by decide +kernel
theorem dX8_count_107 : decode cX8_count 107 = .ok (.iaload, 1) := by decide +kernel
theorem dX8_count_108 : decode cX8_count 108 = .ok (.ireturn, 1) := by decide +kernel
theorem dX8_count_109 : decode cX8_count 109 = .ok (.aload_n 0, 1) := by decide +kernel
theorem dX8_count_110 : decode cX8_count 110 = .ok (.getfield 7, 3) := by decide +kernel
theorem dX8_count_113 : decode cX8_count 113 = .ok (.iconst 4, 1) := by decide +kernel
theorem dX8_count_114 : decode cX8_count 114 = .ok (.iaload, 1) := by decide +kernel
theorem dX8_count_115 : decode cX8_count 115 = .ok (.invokestatic 257, 3) := by decide +kernel
theorem dX8_count_118 : decode cX8_count 118 = .ok (.ireturn, 1) := by decide +kernel
theorem dX8_count_119 : decode cX8_count 119 = .ok (.aload_n 0, 1) := by decide +kernel
theorem dX8_count_120 : decode cX8_count 120 = .ok (.getfield 131, 3) := by decide +kernel
theorem dX8_count_123 : decode cX8_count 123 = .ok (.ireturn, 1) := by decide +kernel
theorem dX8_count_124 : decode cX8_count 124 = .ok (.aload_n 0, 1) := by decide +kernel
theorem dX8_count_125 : decode cX8_count 125 = .ok (.getfield 70, 3) := by decide +kernel
theorem dX8_count_128 : decode cX8_count 128 = .ok (.ireturn, 1) := by decide +kernel
theorem dX8_count_129 : decode cX8_count 129 = .ok (.ldc 52, 2) := by decide +kernel
theorem dX8_count_131 : decode cX8_count 131 = .ok (.ireturn, 1) := by decide +kernel
theorem dX8_status_0 : decode cX8_status 0 = .ok (.aload_n 0, 1) := by decide +kernel
theorem dX8_status_1 : decode cX8_status 1 = .ok (.getfield 35, 3) := by decide +kernel
theorem dX8_status_4 : decode cX8_status 4 = .ok (.ireturn, 1) := by decide +kernel
theorem dJ6_bitCount_0f7a4_0 : decode cJ6_bitCount_0f7a4 0 = .ok (.iload_n 0, 1) := by decide +kernel
theorem dJ6_bitCount_0f7a4_1 : decode cJ6_bitCount_0f7a4 1 = .ok (.iload_n 0, 1) := by decide +kernel
theorem dJ6_bitCount_0f7a4_2 : decode cJ6_bitCount_0f7a4 2 = .ok (.iconst 1, 1) := by decide +kernel
theorem dJ6_bitCount_0f7a4_3 : decode cJ6_bitCount_0f7a4 3 = .ok (.iushr, 1) := by decide +kernel
theorem dJ6_bitCount_0f7a4_4 : decode cJ6_bitCount_0f7a4 4 = .ok (.ldc_w 265, 3) := by decide +kernel
theorem dJ6_bitCount_0f7a4_7 : decode cJ6_bitCount_0f7a4 7 = .ok (.iand, 1) := by decide +kernel
theorem dJ6_bitCount_0f7a4_8 : decode cJ6_bitCount_0f7a4 8 = .ok (.isub, 1) := by decide +kernel
theorem dJ6_bitCount_0f7a4_9 : decode cJ6_bitCount_0f7a4 9 = .ok (.istore_n 0, 1) := by decide +kernel
theorem dJ6_bitCount_0f7a4_10 : decode cJ6_bitCount_0f7a4 10 = .ok (.iload_n 0, 1) := by decide +kernel
theorem dJ6_bitCount_0f7a4_11 : decode cJ6_bitCount_0f7a4 11 = .ok (.ldc_w 266, 3) := by decide +kernel
theorem dJ6_bitCount_0f7a4_14 : decode cJ6_bitCount_0f7a4 14 = .ok (.iand, 1) := by decide +kernel
theorem dJ6_bitCount_0f7a4_15 : decode cJ6_bitCount_0f7a4 15 = .ok (.iload_n 0, 1) := by decide +kernel
theorem dJ6_bitCount_0f7a4_16 : decode cJ6_bitCount_0f7a4 16 = .ok (.iconst 2, 1) := by decide +kernel
theorem dJ6_bitCount_0f7a4_17 : decode cJ6_bitCount_0f7a4 17 = .ok (.iushr, 1) := by decide +kernel
theorem dJ6_bitCount_0f7a4_18 : decode cJ6_bitCount_0f7a4 18 = .ok (.ldc_w 266, 3) := by decide +kernel
theorem dJ6_bitCount_0f7a4_21 : decode cJ6_bitCount_0f7a4 21 = .ok (.iand, 1) := by decide +kernel
theorem dJ6_bitCount_0f7a4_22 : decode cJ6_bitCount_0f7a4 22 = .ok (.iadd, 1) := by decide +kernel
theorem dJ6_bitCount_0f7a4_23 : decode cJ6_bitCount_0f7a4 23 = .ok (.istore_n 0, 1) := by decide +kernel
theorem dJ6_bitCount_0f7a4_24 : decode cJ6_bitCount_0f7a4 24 = .ok (.iload_n 0, 1) := by decide +kernel
theorem dJ6_bitCount_0f7a4_25 : decode cJ6_bitCount_0f7a4 25 = .ok (.iload_n 0, 1) := by decide +kernel
theorem dJ6_bitCount_0f7a4_26 : decode cJ6_bitCount_0f7a4 26 = .ok (.iconst 4, 1) := by decide +kernel
theorem dJ6_bitCount_0f7a4_27 : decode cJ6_bitCount_0f7a4 27 = .ok (.iushr, 1) := by decide +kernel
theorem dJ6_bitCount_0f7a4_28 : decode cJ6_bitCount_0f7a4 28 = .ok (.iadd, 1) := by decide +kernel
theorem dJ6_bitCount_0f7a4_29 : decode cJ6_bitCount_0f7a4 29 = .ok (.ldc_w 267, 3) := by decide +kernel
theorem dJ6_bitCount_0f7a4_32 : decode cJ6_bitCount_0f7a4 32 = .ok (.iand, 1) := by decide +kernel
theorem dJ6_bitCount_0f7a4_33 : decode cJ6_bitCount_0f7a4 33 = .ok (.istore_n 0, 1) := by decide +kernel
theorem dJ6_bitCount_0f7a4_34 : decode cJ6_bitCount_0f7a4 34 = .ok (.iload_n 0, 1) := by decide +kernel
theorem dJ6_bitCount_0f7a4_35 : decode cJ6_bitCount_0f7a4 35 = .ok (.iload_n 0, 1) := by decide +kernel
theorem dJ6_bitCount_0f7a4_36 : decode cJ6_bitCount_0f7a4 36 = .ok (.bipush 8, 2) := by decide +kernel
theorem dJ6_bitCount_0f7a4_38 : decode cJ6_bitCount_0f7a4 38 = .ok (.iushr, 1) := by decide +kernel
theorem dJ6_bitCount_0f7a4_39 : decode cJ6_bitCount_0f7a4 39 = .ok (.iadd, 1) := by decide +kernel
theorem dJ6_bitCount_0f7a4_40 : decode cJ6_bitCount_0f7a4 40 = .ok (.istore_n 0, 1) := by decide +kernel
theorem dJ6_bitCount_0f7a4_41 : decode cJ6_bitCount_0f7a4 41 = .ok (.iload_n 0, 1) := by decide +kernel
theorem dJ6_bitCount_0f7a4_42 : decode cJ6_bitCount_0f7a4 42 = .ok (.iload_n 0, 1) := by decide +kernel
theorem dJ6_bitCount_0f7a4_43 : decode cJ6_bitCount_0f7a4 43 = .ok (.bipush 16, 2) := by decide +kernel
theorem dJ6_bitCount_0f7a4_45 : decode cJ6_bitCount_0f7a4 45 = .ok (.iushr, 1) := by decide +kernel
theorem dJ6_bitCount_0f7a4_46 : decode cJ6_bitCount_0f7a4 46 = .ok (.iadd, 1) := by decide +kernel
theorem dJ6_bitCount_0f7a4_47 : decode cJ6_bitCount_0f7a4 47 = .ok (.istore_n 0, 1) := by decide +kernel
theorem dJ6_bitCount_0f7a4_48 : decode cJ6_bitCount_0f7a4 48 = .ok (.iload_n 0, 1) := by decide +kernel
theorem dJ6_bitCount_0f7a4_49 : decode cJ6_bitCount_0f7a4 49 = .ok (.bipush 63, 2) := by decide +kernel
theorem dJ6_bitCount_0f7a4_51 : decode cJ6_bitCount_0f7a4 51 = .ok (.iand, 1) := by decide +kernel
theorem dJ6_bitCount_0f7a4_52 : decode cJ6_bitCount_0f7a4 52 = .ok (.ireturn, 1) := by decide +kernel
theorem dJ9_max_7cf53_0 : decode cJ9_max_7cf53 0 = .ok (.iload_n 0, 1) := by decide +kernel
theorem dJ9_max_7cf53_1 : decode cJ9_max_7cf53 1 = .ok (.iload_n 1, 1) := by decide +kernel
theorem dJ9_max_7cf53_2 : decode cJ9_max_7cf53 2 = .ok (.if_icmp .lt 7, 3) := by decide +kernel
theorem dJ9_max_7cf53_5 : decode cJ9_max_7cf53 5 = .ok (.iload_n 0, 1) := by decide +kernel
theorem dJ9_max_7cf53_6 : decode cJ9_max_7cf53 6 = .ok (.goto 4, 3) := by decide +kernel
theorem dJ9_max_7cf53_9 : decode cJ9_max_7cf53 9 = .ok (.iload_n 1, 1) := by decide +kernel
theorem dJ9_max_7cf53_10 : decode cJ9_max_7cf53 10 = .ok (.ireturn, 1) := by decide +kernel
theorem dJ9_min_7cf53_0 : decode cJ9_min_7cf53 0 = .ok (.iload_n 0, 1) := by decide +kernel
theorem dJ9_min_7cf53_1 : decode cJ9_min_7cf53 1 = .ok (.iload_n 1, 1) := by decide +kernel
theorem dJ9_min_7cf53_2 : decode cJ9_min_7cf53 2 = .ok (.if_icmp .gt 7, 3) := by decide +kernel
theorem dJ9_min_7cf53_5 : decode cJ9_min_7cf53 5 = .ok (.iload_n 0, 1) := by decide +kernel
theorem dJ9_min_7cf53_6 : decode cJ9_min_7cf53 6 = .ok (.goto 4, 3) := by decide +kernel
theorem dJ9_min_7cf53_9 : decode cJ9_min_7cf53 9 = .ok (.iload_n 1, 1) := by decide +kernel
theorem dJ9_min_7cf53_10 : decode cJ9_min_7cf53 10 = .ok (.ireturn, 1) := by decide +kernel
