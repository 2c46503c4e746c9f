theorem dX7_init_0 : decode cX7_init 0 = .ok (.aload_n 0, 1) := by decide +kernel
theorem dX7_init_1 : decode cX7_init 1 = .ok (.invokespecial 1, 3) := by decide +kernel
theorem dX7_init_4 : decode cX7_init 4 = .ok (.aload_n 0, 1) := by decide +kernel
theorem dX7_init_5 : decode cX7_init 5 = .ok (.new 7, 3) := by decide +kernel
theorem dX7_init_8 : decode cX7_init 8 = .ok (.dup, 1) := by decide +kernel
theorem dX7_init_9 : decode cX7_init 9 = .ok (.invokespecial 9, 3) := by decide +kernel
theorem dX7_init_12 : decode cX7_init 12 = .ok (.putfield 10, 3) := by decide +kernel
theorem dX7_init_15 : decode cX7_init 15 = .ok (.aload_n 0, 1) := by decide +kernel
theorem dX7_init_16 : decode cX7_init 16 = .ok (.new 16, 3) := by decide +kernel
theorem dX7_init_19 : decode cX7_init 19 = .ok (.dup, 1) := by decide +kernel
theorem dX7_init_20 : decode cX7_init 20 = .ok (.invokespecial 18, 3) := by decide +kernel
theorem dX7_init_23 : decode cX7_init 23 = .ok (.putfield 19, 3) := by decide +kernel
theorem dX7_init_26 : decode cX7_init 26 = .ok (.aload_n 0, 1) := by decide +kernel
theorem dX7_init_27 : decode cX7_init 27 = .ok (.new 23, 3) := by decide +kernel
theorem dX7_init_30 : decode cX7_init 30 = .ok (.dup, 1) := by decide +kernel
theorem dX7_init_31 : decode cX7_init 31 = .ok (.invokespecial 25, 3) := by decide +kernel
theorem dX7_init_34 : decode cX7_init 34 = .ok (.putfield 26, 3) := by decide +kernel
theorem dX7_init_37 : decode cX7_init 37 = .ok (.aload_n 0, 1) := by decide +kernel
theorem dX7_init_38 : decode cX7_init 38 = .ok (.new 23, 3) := by decide +kernel
theorem dX7_init_41 : decode cX7_init 41 = .ok (.dup, 1) := by decide +kernel
theorem dX7_init_42 : decode cX7_init 42 = .ok (.invokespecial 25, 3) := by decide +kernel
theorem dX7_init_45 : decode cX7_init 45 = .ok (.putfield 30, 3) := by decide +kernel
theorem dX7_init_48 : decode cX7_init 48 = .ok (.aload_n 0, 1) := by decide +kernel
theorem dX7_init_49 : decode cX7_init 49 = .ok (.iconst 2, 1) := by decide +kernel
theorem dX7_init_50 : decode cX7_init 50 = .ok (.anewarray 23, 3) := by decide +kernel
theorem dX7_init_53 : decode cX7_init 53 = .ok (.dup, 1) := by decide +kernel
theorem dX7_init_54 : decode cX7_init 54 = .ok (.iconst 0, 1) := by decide +kernel
theorem dX7_init_55 : decode cX7_init 55 = .ok (.new 23, 3) := by decide +kernel
theorem dX7_init_58 : decode cX7_init 58 = .ok (.dup, 1) := by decide +kernel
theorem dX7_init_59 : decode cX7_init 59 = .ok (.invokespecial 25, 3) := by decide +kernel
theorem dX7_init_62 : decode cX7_init 62 = .ok (.aastore, 1) := by decide +kernel
theorem dX7_init_63 : decode cX7_init 63 = .ok (.dup, 1) := by decide +kernel
theorem dX7_init_64 : decode cX7_init 64 = .ok (.iconst 1, 1) := by decide +kernel
theorem dX7_init_65 : decode cX7_init 65 = .ok (.new 23, 3) := by decide +kernel
theorem dX7_init_68 : decode cX7_init 68 = .ok (.dup, 1) := by decide +kernel
theorem dX7_init_69 : decode cX7_init 69 = .ok (.invokespecial 25, 3) := by decide +kernel
theorem dX7_init_72 : decode cX7_init 72 = .ok (.aastore, 1) := by decide +kernel
theorem dX7_init_73 : decode cX7_init 73 = .ok (.putfield 33, 3) := by decide +kernel
theorem dX7_init_76 : decode cX7_init 76 = .ok (.aload_n 0, 1) := by decide +kernel
theorem dX7_init_77 : decode cX7_init 77 = .ok (.new 37, 3) := by decide +kernel
theorem dX7_init_80 : decode cX7_init 80 = .ok (.dup, 1) := by decide +kernel
theorem dX7_init_81 : decode cX7_init 81 = .ok (.invokespecial 39, 3) := by decide +kernel
theorem dX7_init_84 : decode cX7_init 84 = .ok (.putfield 40, 3) := by decide +kernel
theorem dX7_init_87 : decode cX7_init 87 = .ok (.aload_n 0, 1) := by decide +kernel
theorem dX7_init_88 : decode cX7_init 88 = .ok (.new 44, 3) := by decide +kernel
theorem dX7_init_91 : decode cX7_init 91 = .ok (.dup, 1) := by decide +kernel
theorem dX7_init_92 : decode cX7_init 92 = .ok (.invokespecial 46, 3) := by decide +kernel
theorem dX7_init_95 : decode cX7_init 95 = .ok (.putfield 47, 3) := by decide +kernel
theorem dX7_init_98 : decode cX7_init 98 = .ok (.aload_n 0, 1) := by decide +kernel
theorem dX7_init_99 : decode cX7_init 99 = .ok (.new 51, 3) := by decide +kernel
theorem dX7_init_102 : decode cX7_init 102 = .ok (.dup, 1) := by decide +kernel
theorem dX7_init_103 : decode cX7_init 103 = .ok (.invokespecial 53, 3) := by decide +kernel
theorem dX7_init_106 : decode cX7_init 106 = .ok (.putfield 54, 3) := by decide +kernel
theorem dX7_init_109 : decode cX7_init 109 = .ok (.aload_n 0, 1) := by decide +kernel
theorem dX7_init_110 : decode cX7_init 110 = .ok (.iconst 0, 1) := by decide +kernel
theorem dX7_init_111 : decode cX7_init 111 = .ok (.putfield 58, 3) := by decide +kernel
theorem dX7_init_114 : decode cX7_init 114 = .ok (.return_, 1) := by decide +kernel
set_option maxRecDepth 20000 in
theorem ggX7_row_X5_isRow : GoodIn wsX7_row wsX5_isRow := goodIn_r _ [6] (by decide +kernel) (by decide +kernel)
set_option maxRecDepth 20000 in
theorem gX7_row_X5_isRow : GoodIn wsX7_row (va_wsS RX7 62 yX5_isRow wsX5_isRow) := goodIn_app (goodIn_of _ (by decide +kernel)) ggX7_row_X5_isRow
set_option maxRecDepth 20000 in
theorem ggX7_row_X7_isWithin : GoodIn wsX7_row wsX7_isWithin := goodIn_r _ [10] (by decide +kernel) (by decide +kernel)
set_option maxRecDepth 20000 in
theorem gX7_row_X7_isWithin : GoodIn wsX7_row (va_wsS RX7 66 yX7_isWithin wsX7_isWithin) := goodIn_app (goodIn_of _ (by decide +kernel)) ggX7_row_X7_isWithin
set_option maxRecDepth 20000 in
theorem ggX7_row_X7_found : GoodIn wsX7_row wsX7_found := goodIn_r _ [14, 15, 16, 28, 29, 30, 31, 32, 33, 34, 35, 36] (by decide +kernel) (by decide +kernel)
set_option maxRecDepth 20000 in
theorem gX7_row_X7_found : GoodIn wsX7_row (wsV RX7 71 RX7 yX7_found wsX7_found) := goodIn_app (goodIn_of _ (by decide +kernel)) ggX7_row_X7_found
set_option maxRecDepth 20000 in
theorem ggX7_row_X5_lay : GoodIn wsX7_row wsX5_lay := goodIn_r _ [20, 21, 22, 23, 37, 38, 39] (by decide +kernel) (by decide +kernel)
set_option maxRecDepth 20000 in
theorem gX7_row_X5_lay : GoodIn wsX7_row (wsV RX7 75 RX5 yX5_lay wsX5_lay) := goodIn_app (goodIn_of _ (by decide +kernel)) ggX7_row_X5_lay
set_option maxRecDepth 20000 in
theorem ggX7_row_X7_foundNothing : GoodIn wsX7_row wsX7_foundNothing := goodIn_r _ [27, 15, 28, 29, 30, 31, 32, 33, 34, 35, 36] (by decide +kernel) (by decide +kernel)
set_option maxRecDepth 20000 in
theorem gX7_row_X7_foundNothing : GoodIn wsX7_row (wsV RX7 79 RX7 yX7_foundNothing wsX7_foundNothing) := goodIn_app (goodIn_of _ (by decide +kernel)) ggX7_row_X7_foundNothing
theorem dX7_row_0 : decode cX7_row 0 = .ok (.iload_n 1, 1) := by decide +kernel
theorem dX7_row_1 : decode cX7_row 1 = .ok (.invokestatic 62, 3) := by decide +kernel
theorem dX7_row_4 : decode cX7_row 4 = .ok (.ifCond .eq 18, 3) := by decide +kernel
theorem dX7_row_7 : decode cX7_row 7 = .ok (.iload_n 2, 1) := by decide +kernel
theorem dX7_row_8 : decode cX7_row 8 = .ok (.iconst 0, 1) := by decide +kernel
theorem dX7_row_9 : decode cX7_row 9 = .ok (.iconst 2, 1) := by decide +kernel
theorem dX7_row_10 : decode cX7_row 10 = .ok (.invokestatic 66, 3) := by decide +kernel
theorem dX7_row_13 : decode cX7_row 13 = .ok (.ifCond .eq 9, 3) := by decide +kernel
theorem dX7_row_16 : decode cX7_row 16 = .ok (.iload_n 3, 1) := by decide +kernel
theorem dX7_row_17 : decode cX7_row 17 = .ok (.bipush 40, 2) := by decide +kernel
theorem dX7_row_19 : decode cX7_row 19 = .ok (.if_icmp .le 6, 3) := by decide +kernel
theorem dX7_row_22 : decode cX7_row 22 = .ok (.ldc 70, 2) := by decide +kernel
theorem dX7_row_24 : decode cX7_row 24 = .ok (.ireturn, 1) := by decide +kernel
theorem dX7_row_25 : decode cX7_row 25 = .ok (.iload_n 3, 1) := by decide +kernel
theorem dX7_row_26 : decode cX7_row 26 = .ok (.ifCond .ge 9, 3) := by decide +kernel
theorem dX7_row_29 : decode cX7_row 29 = .ok (.aload_n 0, 1) := by decide +kernel
theorem dX7_row_30 : decode cX7_row 30 = .ok (.iconst 4, 1) := by decide +kernel
theorem dX7_row_31 : decode cX7_row 31 = .ok (.invokevirtual 71, 3) := by decide +kernel
theorem dX7_row_34 : decode cX7_row 34 = .ok (.ireturn, 1) := by decide +kernel
theorem dX7_row_35 : decode cX7_row 35 = .ok (.aload_n 0, 1) := by decide +kernel
theorem dX7_row_36 : decode cX7_row 36 = .ok (.getfield 10, 3) := by decide +kernel
theorem dX7_row_39 : decode cX7_row 39 = .ok (.iload_n 1, 1) := by decide +kernel
theorem dX7_row_40 : decode cX7_row 40 = .ok (.iload_n 2, 1) := by decide +kernel
theorem dX7_row_41 : decode cX7_row 41 = .ok (.iload_n 3, 1) := by decide +kernel
theorem dX7_row_42 : decode cX7_row 42 = .ok (.invokevirtual 75, 3) := by decide +kernel
theorem dX7_row_45 : decode cX7_row 45 = .ok (.aload_n 0, 1) := by decide +kernel
theorem dX7_row_46 : decode cX7_row 46 = .ok (.iload_n 3, 1) := by decide +kernel
theorem dX7_row_47 : decode cX7_row 47 = .ok (.invokevirtual 79, 3) := by decide +kernel
theorem dX7_row_50 : decode cX7_row 50 = .ok (.ireturn, 1) := by decide +kernel
set_option maxRecDepth 20000 in
theorem ggX7_set_X5_isRow : GoodIn wsX7_set wsX5_isRow := goodIn_r _ [6] (by decide +kernel) (by decide +kernel)
set_option maxRecDepth 20000 in
theorem gX7_set_X5_isRow : GoodIn wsX7_set (va_wsS RX7 62 yX5_isRow wsX5_isRow) := goodIn_app (goodIn_of _ (by decide +kernel)) ggX7_set_X5_isRow
set_option maxRecDepth 20000 in
theorem ggX7_set_X5_findingOf : GoodIn wsX7_set wsX5_findingOf := goodIn_r _ [10, 11, 12, 13, 5, 14, 15, 16, 17, 18, 19, 49, 50, 51] (by decide +kernel) (by decide +kernel)
set_option maxRecDepth 20000 in
theorem gX7_set_X5_findingOf : GoodIn wsX7_set (wsV RX7 82 RX5 yX5_findingOf wsX5_findingOf) := goodIn_app (goodIn_of _ (by decide +kernel)) ggX7_set_X5_findingOf
set_option maxRecDepth 20000 in
theorem ggX7_set_X7_found : GoodIn wsX7_set wsX7_found := goodIn_r _ [24, 25, 26, 40, 41, 42, 43, 44, 45, 46, 47, 48] (by decide +kernel) (by decide +kernel)
set_option maxRecDepth 20000 in
theorem gX7_set_X7_found : GoodIn wsX7_set (wsV RX7 71 RX7 yX7_found wsX7_found) := goodIn_app (goodIn_of _ (by decide +kernel)) ggX7_set_X7_found
set_option maxRecDepth 20000 in
theorem ggX7_set_X5_put : GoodIn wsX7_set wsX5_put := goodIn_r _ [30, 31, 32, 33, 34, 5, 35, 49, 50, 51] (by decide +kernel) (by decide +kernel)
set_option maxRecDepth 20000 in
theorem gX7_set_X5_put : GoodIn wsX7_set (wsV RX7 86 RX5 yX5_put wsX5_put) := goodIn_app (goodIn_of _ (by decide +kernel)) ggX7_set_X5_put
set_option maxRecDepth 20000 in
theorem ggX7_set_X7_foundNothing : GoodIn wsX7_set wsX7_foundNothing := goodIn_r _ [39, 25, 40, 41, 42, 43, 44, 45, 46, 47, 48] (by decide +kernel) (by decide +kernel)
set_option maxRecDepth 20000 in
theorem gX7_set_X7_foundNothing : GoodIn wsX7_set (wsV RX7 79 RX7 yX7_foundNothing wsX7_foundNothing) := goodIn_app (goodIn_of _ (by decide +kernel)) ggX7_set_X7_foundNothing
theorem dX7_set_0 : decode cX7_set 0 = .ok (.iload_n 1, 1) := by decide +kernel
theorem dX7_set_1 : decode cX7_set 1 = .ok (.invokestatic 62, 3) := by decide +kernel
theorem dX7_set_4 : decode cX7_set 4 = .ok (.ifCond .ne 6, 3) := by decide +kernel
theorem dX7_set_7 : decode cX7_set 7 = .ok (.ldc 70, 2) := by decide +kernel
theorem dX7_set_9 : decode cX7_set 9 = .ok (.ireturn, 1) := by decide +kernel
theorem dX7_set_10 : decode cX7_set 10 = .ok (.aload_n 0, 1) := by decide +kernel
theorem dX7_set_11 : decode cX7_set 11 = .ok (.getfield 10, 3) := by decide +kernel
theorem dX7_set_14 : decode cX7_set 14 = .ok (.iload_n 1, 1) := by decide +kernel
theorem dX7_set_15 : decode cX7_set 15 = .ok (.iload_n 2, 1) := by decide +kernel
theorem dX7_set_16 : decode cX7_set 16 = .ok (.iconst 1, 1) := by decide +kernel
theorem dX7_set_17 : decode cX7_set 17 = .ok (.invokevirtual 82, 3) := by decide +kernel
theorem dX7_set_20 : decode cX7_set 20 = .ok (.istore 4, 2) := by decide +kernel
theorem dX7_set_22 : decode cX7_set 22 = .ok (.iload 4, 2) := by decide +kernel
theorem dX7_set_24 : decode cX7_set 24 = .ok (.ifCond .eq 10, 3) := by decide +kernel
theorem dX7_set_27 : decode cX7_set 27 = .ok (.aload_n 0, 1) := by decide +kernel
theorem dX7_set_28 : decode cX7_set 28 = .ok (.iload 4, 2) := by decide +kernel
theorem dX7_set_30 : decode cX7_set 30 = .ok (.invokevirtual 71, 3) := by decide +kernel
theorem dX7_set_33 : decode cX7_set 33 = .ok (.ireturn, 1) := by decide +kernel
theorem dX7_set_34 : decode cX7_set 34 = .ok (.aload_n 0, 1) := by decide +kernel
theorem dX7_set_35 : decode cX7_set 35 = .ok (.aload_n 0, 1) := by decide +kernel
theorem dX7_set_36 : decode cX7_set 36 = .ok (.getfield 10, 3) := by decide +kernel
theorem dX7_set_39 : decode cX7_set 39 = .ok (.iload_n 1, 1) := by decide +kernel
theorem dX7_set_40 : decode cX7_set 40 = .ok (.iload_n 2, 1) := by decide +kernel
theorem dX7_set_41 : decode cX7_set 41 = .ok (.iload_n 3, 1) := by decide +kernel
theorem dX7_set_42 : decode cX7_set 42 = .ok (.invokevirtual 86, 3) := by decide +kernel
theorem dX7_set_45 : decode cX7_set 45 = .ok (.invokevirtual 79, 3) := by decide +kernel
theorem dX7_set_48 : decode cX7_set 48 = .ok (.ireturn, 1) := by decide +kernel
set_option maxRecDepth 20000 in
theorem ggX7_copy_X5_isRow : GoodIn wsX7_copy wsX5_isRow := goodIn_r _ [6] (by decide +kernel) (by decide +kernel)
set_option maxRecDepth 20000 in
theorem gX7_copy_X5_isRow : GoodIn wsX7_copy (va_wsS RX7 62 yX5_isRow wsX5_isRow) := goodIn_app (goodIn_of _ (by decide +kernel)) ggX7_copy_X5_isRow
set_option maxRecDepth 20000 in
theorem ggX7_copy_X5_isMissing : GoodIn wsX7_copy wsX5_isMissing := goodIn_r _ [10, 11, 50, 51, 52] (by decide +kernel) (by decide +kernel)
set_option maxRecDepth 20000 in
theorem gX7_copy_X5_isMissing : GoodIn wsX7_copy (wsV RX7 89 RX5 yX5_isMissing wsX5_isMissing) := goodIn_app (goodIn_of _ (by decide +kernel)) ggX7_copy_X5_isMissing
set_option maxRecDepth 20000 in
theorem ggX7_copy_X7_found : GoodIn wsX7_copy wsX7_found := goodIn_r _ [16, 17, 18, 41, 42, 43, 44, 45, 46, 47, 48, 49] (by decide +kernel) (by decide +kernel)
set_option maxRecDepth 20000 in
theorem gX7_copy_X7_found : GoodIn wsX7_copy (wsV RX7 71 RX7 yX7_found wsX7_found) := goodIn_app (goodIn_of _ (by decide +kernel)) ggX7_copy_X7_found
set_option maxRecDepth 20000 in
theorem ggX7_copy_X5_areAlike : GoodIn wsX7_copy wsX5_areAlike := goodIn_r _ [22, 23, 50, 51, 52] (by decide +kernel) (by decide +kernel)
set_option maxRecDepth 20000 in
theorem gX7_copy_X5_areAlike : GoodIn wsX7_copy (wsV RX7 92 RX5 yX5_areAlike wsX5_areAlike) := goodIn_app (goodIn_of _ (by decide +kernel)) ggX7_copy_X5_areAlike
set_option maxRecDepth 20000 in
theorem ggX7_copy_X5_reaches : GoodIn wsX7_copy wsX5_reaches := goodIn_r _ [27, 11, 50, 51, 52] (by decide +kernel) (by decide +kernel)
set_option maxRecDepth 20000 in
theorem gX7_copy_X5_reaches : GoodIn wsX7_copy (wsV RX7 96 RX5 yX5_reaches wsX5_reaches) := goodIn_app (goodIn_of _ (by decide +kernel)) ggX7_copy_X5_reaches
set_option maxRecDepth 20000 in
theorem ggX7_copy_X5_carry : GoodIn wsX7_copy wsX5_carry := goodIn_r _ [31, 32, 33, 34, 35, 36, 50, 51, 52] (by decide +kernel) (by decide +kernel)
set_option maxRecDepth 20000 in
theorem gX7_copy_X5_carry : GoodIn wsX7_copy (wsV RX7 99 RX5 yX5_carry wsX5_carry) := goodIn_app (goodIn_of _ (by decide +kernel)) ggX7_copy_X5_carry
set_option maxRecDepth 20000 in
theorem ggX7_copy_X7_foundNothing : GoodIn wsX7_copy wsX7_foundNothing := goodIn_r _ [40, 17, 41, 42, 43, 44, 45, 46, 47, 48, 49] (by decide +kernel) (by decide +kernel)
set_option maxRecDepth 20000 in
theorem gX7_copy_X7_foundNothing : GoodIn wsX7_copy (wsV RX7 79 RX7 yX7_foundNothing wsX7_foundNothing) := goodIn_app (goodIn_of _ (by decide +kernel)) ggX7_copy_X7_foundNothing
theorem dX7_copy_0 : decode cX7_copy 0 = .ok (.iload_n 1, 1) := by decide +kernel
theorem dX7_copy_1 : decode cX7_copy 1 = .ok (.invokestatic 62, 3) := by decide +kernel
theorem dX7_copy_4 : decode cX7_copy 4 = .ok (.ifCond .eq 10, 3) := by decide +kernel
theorem dX7_copy_7 : decode cX7_copy 7 = .ok (.iload_n 3, 1) := by decide +kernel
theorem dX7_copy_8 : decode cX7_copy 8 = .ok (.invokestatic 62, 3) := by decide +kernel
theorem dX7_copy_11 : decode cX7_copy 11 = .ok (.ifCond .ne 6, 3) := by decide +kernel
theorem dX7_copy_14 : decode cX7_copy 14 = .ok (.ldc 70, 2) := by decide +kernel
theorem dX7_copy_16 : decode cX7_copy 16 = .ok (.ireturn, 1) := by decide +kernel
theorem dX7_copy_17 : decode cX7_copy 17 = .ok (.aload_n 0, 1) := by decide +kernel
theorem dX7_copy_18 : decode cX7_copy 18 = .ok (.getfield 10, 3) := by decide +kernel
theorem dX7_copy_21 : decode cX7_copy 21 = .ok (.iload_n 1, 1) := by decide +kernel
theorem dX7_copy_22 : decode cX7_copy 22 = .ok (.invokevirtual 89, 3) := by decide +kernel
theorem dX7_copy_25 : decode cX7_copy 25 = .ok (.ifCond .ne 14, 3) := by decide +kernel
theorem dX7_copy_28 : decode cX7_copy 28 = .ok (.aload_n 0, 1) := by decide +kernel
theorem dX7_copy_29 : decode cX7_copy 29 = .ok (.getfield 10, 3) := by decide +kernel
theorem dX7_copy_32 : decode cX7_copy 32 = .ok (.iload_n 3, 1) := by decide +kernel
theorem dX7_copy_33 : decode cX7_copy 33 = .ok (.invokevirtual 89, 3) := by decide +kernel
theorem dX7_copy_36 : decode cX7_copy 36 = .ok (.ifCond .eq 9, 3) := by decide +kernel
theorem dX7_copy_39 : decode cX7_copy 39 = .ok (.aload_n 0, 1) := by decide +kernel
theorem dX7_copy_40 : decode cX7_copy 40 = .ok (.iconst 1, 1) := by decide +kernel
theorem dX7_copy_41 : decode cX7_copy 41 = .ok (.invokevirtual 71, 3) := by decide +kernel
theorem dX7_copy_44 : decode cX7_copy 44 = .ok (.ireturn, 1) := by decide +kernel
theorem dX7_copy_45 : decode cX7_copy 45 = .ok (.aload_n 0, 1) := by decide +kernel
theorem dX7_copy_46 : decode cX7_copy 46 = .ok (.getfield 10, 3) := by decide +kernel
theorem dX7_copy_49 : decode cX7_copy 49 = .ok (.iload_n 1, 1) := by decide +kernel
theorem dX7_copy_50 : decode cX7_copy 50 = .ok (.iload_n 3, 1) := by decide +kernel
theorem dX7_copy_51 : decode cX7_copy 51 = .ok (.invokevirtual 92, 3) := by decide +kernel
theorem dX7_copy_54 : decode cX7_copy 54 = .ok (.ifCond .ne 9, 3) := by decide +kernel
theorem dX7_copy_57 : decode cX7_copy 57 = .ok (.aload_n 0, 1) := by decide +kernel
theorem dX7_copy_58 : decode cX7_copy 58 = .ok (.iconst 5, 1) := by decide +kernel
theorem dX7_copy_59 : decode cX7_copy 59 = .ok (.invokevirtual 71, 3) := by decide +kernel
theorem dX7_copy_62 : decode cX7_copy 62 = .ok (.ireturn, 1) := by decide +kernel
theorem dX7_copy_63 : decode cX7_copy 63 = .ok (.aload_n 0, 1) := by decide +kernel
theorem dX7_copy_64 : decode cX7_copy 64 = .ok (.getfield 10, 3) := by decide +kernel
theorem dX7_copy_67 : decode cX7_copy 67 = .ok (.iload_n 1, 1) := by decide +kernel
theorem dX7_copy_68 : decode cX7_copy 68 = .ok (.iload_n 2, 1) := by decide +kernel
theorem dX7_copy_69 : decode cX7_copy 69 = .ok (.iload 5, 2) := by decide +kernel
theorem dX7_copy_71 : decode cX7_copy 71 = .ok (.invokevirtual 96, 3) := by decide +kernel
theorem dX7_copy_74 : decode cX7_copy 74 = .ok (.ifCond .eq 18, 3) := by decide +kernel
theorem dX7_copy_77 : decode cX7_copy 77 = .ok (.aload_n 0, 1) := by decide +kernel
theorem dX7_copy_78 : decode cX7_copy 78 = .ok (.getfield 10, 3) := by decide +kernel
theorem dX7_copy_81 : decode cX7_copy 81 = .ok (.iload_n 3, 1) := by decide +kernel
theorem dX7_copy_82 : decode cX7_copy 82 = .ok (.iload 4, 2) := by decide +kernel
theorem dX7_copy_84 : decode cX7_copy 84 = .ok (.iload 5, 2) := by decide +kernel
theorem dX7_copy_86 : decode cX7_copy 86 = .ok (.invokevirtual 96, 3) := by decide +kernel
theorem dX7_copy_89 : decode cX7_copy 89 = .ok (.ifCond .ne 9, 3) := by decide +kernel
theorem dX7_copy_92 : decode cX7_copy 92 = .ok (.aload_n 0, 1) := by decide +kernel
theorem dX7_copy_93 : decode cX7_copy 93 = .ok (.iconst 2, 1) := by decide +kernel
theorem dX7_copy_94 : decode cX7_copy 94 = .ok (.invokevirtual 71, 3) := by decide +kernel
theorem dX7_copy_97 : decode cX7_copy 97 = .ok (.ireturn, 1) := by decide +kernel
theorem dX7_copy_98 : decode cX7_copy 98 = .ok (.aload_n 0, 1) := by decide +kernel
theorem dX7_copy_99 : decode cX7_copy 99 = .ok (.getfield 10, 3) := by decide +kernel
theorem dX7_copy_102 : decode cX7_copy 102 = .ok (.iload_n 1, 1) := by decide +kernel
theorem dX7_copy_103 : decode cX7_copy 103 = .ok (.iload_n 2, 1) := by decide +kernel
theorem dX7_copy_104 : decode cX7_copy 104 = .ok (.iload_n 3, 1) := by decide +kernel
theorem dX7_copy_105 : decode cX7_copy 105 = .ok (.iload 4, 2) := by decide +kernel
theorem dX7_copy_107 : decode cX7_copy 107 = .ok (.iload 5, 2) := by decide +kernel
theorem dX7_copy_109 : decode cX7_copy 109 = .ok (.invokevirtual 99, 3) := by decide +kernel
theorem dX7_copy_112 : decode cX7_copy 112 = .ok (.aload_n 0, 1) := by decide +kernel
theorem dX7_copy_113 : decode cX7_copy 113 = .ok (.iload 5, 2) := by decide +kernel
theorem dX7_copy_115 : decode cX7_copy 115 = .ok (.invokevirtual 79, 3) := by decide +kernel
theorem dX7_copy_118 : decode cX7_copy 118 = .ok (.ireturn, 1) := by decide +kernel
set_option maxRecDepth 20000 in
theorem ggX7_drop_X5_isRow : GoodIn wsX7_drop wsX5_isRow := goodIn_r _ [6] (by decide +kernel) (by decide +kernel)
set_option maxRecDepth 20000 in
theorem gX7_drop_X5_isRow : GoodIn wsX7_drop (va_wsS RX7 62 yX5_isRow wsX5_isRow) := goodIn_app (goodIn_of _ (by decide +kernel)) ggX7_drop_X5_isRow
set_option maxRecDepth 20000 in
theorem ggX7_drop_X5_isMissing : GoodIn wsX7_drop wsX5_isMissing := goodIn_r _ [10, 11, 36, 37, 38] (by decide +kernel) (by decide +kernel)
set_option maxRecDepth 20000 in
theorem gX7_drop_X5_isMissing : GoodIn wsX7_drop (wsV RX7 89 RX5 yX5_isMissing wsX5_isMissing) := goodIn_app (goodIn_of _ (by decide +kernel)) ggX7_drop_X5_isMissing
set_option maxRecDepth 20000 in
theorem ggX7_drop_X7_found : GoodIn wsX7_drop wsX7_found := goodIn_r _ [16, 17, 18, 27, 28, 29, 30, 31, 32, 33, 34, 35] (by decide +kernel) (by decide +kernel)
set_option maxRecDepth 20000 in
theorem gX7_drop_X7_found : GoodIn wsX7_drop (wsV RX7 71 RX7 yX7_found wsX7_found) := goodIn_app (goodIn_of _ (by decide +kernel)) ggX7_drop_X7_found
set_option maxRecDepth 20000 in
theorem ggX7_drop_X5_takeAway : GoodIn wsX7_drop wsX5_takeAway := goodIn_r _ [22, 11, 36, 37, 38] (by decide +kernel) (by decide +kernel)
set_option maxRecDepth 20000 in
theorem gX7_drop_X5_takeAway : GoodIn wsX7_drop (wsV RX7 103 RX5 yX5_takeAway wsX5_takeAway) := goodIn_app (goodIn_of _ (by decide +kernel)) ggX7_drop_X5_takeAway
set_option maxRecDepth 20000 in
theorem ggX7_drop_X7_foundNothing : GoodIn wsX7_drop wsX7_foundNothing := goodIn_r _ [26, 17, 27, 28, 29, 30, 31, 32, 33, 34, 35] (by decide +kernel) (by decide +kernel)
set_option maxRecDepth 20000 in
theorem gX7_drop_X7_foundNothing : GoodIn wsX7_drop (wsV RX7 79 RX7 yX7_foundNothing wsX7_foundNothing) := goodIn_app (goodIn_of _ (by decide +kernel)) ggX7_drop_X7_foundNothing
theorem dX7_drop_0 : decode cX7_drop 0 = .ok (.iload_n 1, 1) := by decide +kernel
theorem dX7_drop_1 : decode cX7_drop 1 = .ok (.invokestatic 62, 3) := by decide +kernel
theorem dX7_drop_4 : decode cX7_drop 4 = .ok (.ifCond .ne 6, 3) := by decide +kernel
theorem dX7_drop_7 : decode cX7_drop 7 = .ok (.ldc 70, 2) := by decide +kernel
theorem dX7_drop_9 : decode cX7_drop 9 = .ok (.ireturn, 1) := by decide +kernel
theorem dX7_drop_10 : decode cX7_drop 10 = .ok (.aload_n 0, 1) := by decide +kernel
theorem dX7_drop_11 : decode cX7_drop 11 = .ok (.getfield 10, 3) := by decide +kernel
theorem dX7_drop_14 : decode cX7_drop 14 = .ok (.iload_n 1, 1) := by decide +kernel
theorem dX7_drop_15 : decode cX7_drop 15 = .ok (.invokevirtual 89, 3) := by decide +kernel
theorem dX7_drop_18 : decode cX7_drop 18 = .ok (.ifCond .eq 9, 3) := by decide +kernel
theorem dX7_drop_21 : decode cX7_drop 21 = .ok (.aload_n 0, 1) := by decide +kernel
theorem dX7_drop_22 : decode cX7_drop 22 = .ok (.iconst 1, 1) := by decide +kernel
theorem dX7_drop_23 : decode cX7_drop 23 = .ok (.invokevirtual 71, 3) := by decide +kernel
theorem dX7_drop_26 : decode cX7_drop 26 = .ok (.ireturn, 1) := by decide +kernel
theorem dX7_drop_27 : decode cX7_drop 27 = .ok (.aload_n 0, 1) := by decide +kernel
theorem dX7_drop_28 : decode cX7_drop 28 = .ok (.aload_n 0, 1) := by decide +kernel
theorem dX7_drop_29 : decode cX7_drop 29 = .ok (.getfield 10, 3) := by decide +kernel
theorem dX7_drop_32 : decode cX7_drop 32 = .ok (.iload_n 1, 1) := by decide +kernel
theorem dX7_drop_33 : decode cX7_drop 33 = .ok (.invokevirtual 103, 3) := by decide +kernel
theorem dX7_drop_36 : decode cX7_drop 36 = .ok (.invokevirtual 79, 3) := by decide +kernel
theorem dX7_drop_39 : decode cX7_drop 39 = .ok (.ireturn, 1) := by decide +kernel
set_option maxRecDepth 20000 in
theorem ggX7_feed_X7_isWithin : GoodIn wsX7_feed wsX7_isWithin := goodIn_r _ [7] (by decide +kernel) (by decide +kernel)
set_option maxRecDepth 20000 in
theorem gX7_feed_X7_isWithin : GoodIn wsX7_feed (va_wsS RX7 66 yX7_isWithin wsX7_isWithin) := goodIn_app (goodIn_of _ (by decide +kernel)) ggX7_feed_X7_isWithin
set_option maxRecDepth 20000 in
theorem ggX7_feed_X4_isFull : GoodIn wsX7_feed wsX4_isFull := goodIn_r _ [12, 13, 29, 30, 31, 32, 33, 34] (by decide +kernel) (by decide +kernel)
set_option maxRecDepth 20000 in
theorem gX7_feed_X4_isFull : GoodIn wsX7_feed (wsV RX7 106 RX4 yX4_isFull wsX4_isFull) := goodIn_app (goodIn_of _ (by decide +kernel)) ggX7_feed_X4_isFull
set_option maxRecDepth 20000 in
theorem ggX7_feed_X4_append : GoodIn wsX7_feed wsX4_append := goodIn_r _ [17, 18, 13, 19, 9, 10, 11, 12, 29, 30, 31, 32, 33, 34] (by decide +kernel) (by decide +kernel)
set_option maxRecDepth 20000 in
theorem gX7_feed_X4_append : GoodIn wsX7_feed (wsV RX7 111 RX4 yX4_append wsX4_append) := goodIn_app (goodIn_of _ (by decide +kernel)) ggX7_feed_X4_append
theorem dX7_feed_0 : decode cX7_feed 0 = .ok (.iload_n 1, 1) := by decide +kernel
theorem dX7_feed_1 : decode cX7_feed 1 = .ok (.iconst 0, 1) := by decide +kernel
theorem dX7_feed_2 : decode cX7_feed 2 = .ok (.sipush 255, 3) := by decide +kernel
theorem dX7_feed_5 : decode cX7_feed 5 = .ok (.invokestatic 66, 3) := by decide +kernel
theorem dX7_feed_8 : decode cX7_feed 8 = .ok (.ifCond .ne 6, 3) := by decide +kernel
theorem dX7_feed_11 : decode cX7_feed 11 = .ok (.ldc 70, 2) := by decide +kernel
theorem dX7_feed_13 : decode cX7_feed 13 = .ok (.ireturn, 1) := by decide +kernel
theorem dX7_feed_14 : decode cX7_feed 14 = .ok (.aload_n 0, 1) := by decide +kernel
theorem dX7_feed_15 : decode cX7_feed 15 = .ok (.getfield 19, 3) := by decide +kernel
theorem dX7_feed_18 : decode cX7_feed 18 = .ok (.invokevirtual 106, 3) := by decide +kernel
theorem dX7_feed_21 : decode cX7_feed 21 = .ok (.ifCond .eq 8, 3) := by decide +kernel
theorem dX7_feed_24 : decode cX7_feed 24 = .ok (.ldc 110, 2) := by decide +kernel
theorem dX7_feed_26 : decode cX7_feed 26 = .ok (.goto 11, 3) := by decide +kernel
theorem dX7_feed_29 : decode cX7_feed 29 = .ok (.aload_n 0, 1) := by decide +kernel
theorem dX7_feed_30 : decode cX7_feed 30 = .ok (.getfield 19, 3) := by decide +kernel
theorem dX7_feed_33 : decode cX7_feed 33 = .ok (.iload_n 1, 1) := by decide +kernel
theorem dX7_feed_34 : decode cX7_feed 34 = .ok (.invokevirtual 111, 3) := by decide +kernel
theorem dX7_feed_37 : decode cX7_feed 37 = .ok (.ireturn, 1) := by decide +kernel
set_option maxRecDepth 20000 in
theorem ggX7_city_X4_reads : GoodIn wsX7_city wsX4_reads := goodIn_r _ [12, 13, 14, 15, 16, 17, 18, 11, 19, 20, 21, 22, 23, 24, 25, 26, 27, 28, 29, 30, 31, 32, 33, 34, 35, 36, 37, 38, 39, 40, 41, 42, 43, 44, 45, 46, 47, 48, 49, 50, 51, 52, 53, 54, 55, 56, 57, 58, 59, 60, 61, 62, 63, 64, 65, 66, 67, 68, 69, 70, 71, 72, 73, 74, 75, 76, 77, 108, 109, 110, 111, 112, 113, 114, 115, 116, 117, 118, 119, 120, 121, 122, 123, 124, 125, 126] (by decide +kernel) (by decide +kernel)
set_option maxRecDepth 20000 in
theorem gX7_city_X4_reads : GoodIn wsX7_city (wsV RX7 114 RX4 yX4_reads wsX4_reads) := goodIn_app (goodIn_of _ (by decide +kernel)) ggX7_city_X4_reads
set_option maxRecDepth 20000 in
theorem ggX7_city_X2_become : GoodIn wsX7_city wsX2_become := goodIn_r _ [81, 51, 52, 53, 54, 55, 56, 82, 83, 84, 85, 86, 87, 88, 89, 90, 91, 92, 114, 115, 116, 117, 118, 119, 120, 121, 122, 123, 124, 125, 126] (by decide +kernel) (by decide +kernel)
set_option maxRecDepth 20000 in
theorem gX7_city_X2_become : GoodIn wsX7_city (wsV RX7 122 RX2 yX2_become wsX2_become) := goodIn_app (goodIn_of _ (by decide +kernel)) ggX7_city_X2_become
set_option maxRecDepth 20000 in
theorem ggX7_city_X0_forgetAll : GoodIn wsX7_city wsX0_forgetAll := goodIn_r _ [97, 98, 127, 128, 129, 130, 131] (by decide +kernel) (by decide +kernel)
set_option maxRecDepth 20000 in
theorem gX7_city_X0_forgetAll : GoodIn wsX7_city (wsV RX7 126 RX0 yX0_forgetAll wsX0_forgetAll) := goodIn_app (goodIn_of _ (by decide +kernel)) ggX7_city_X0_forgetAll
theorem dX7_city_0 : decode cX7_city 0 = .ok (.aload_n 0, 1) := by decide +kernel
theorem dX7_city_1 : decode cX7_city 1 = .ok (.getfield 19, 3) := by decide +kernel
theorem dX7_city_4 : decode cX7_city 4 = .ok (.aload_n 0, 1) := by decide +kernel
theorem dX7_city_5 : decode cX7_city 5 = .ok (.getfield 30, 3) := by decide +kernel
theorem dX7_city_8 : decode cX7_city 8 = .ok (.invokevirtual 114, 3) := by decide +kernel
theorem dX7_city_11 : decode cX7_city 11 = .ok (.ifCond .ne 14, 3) := by decide +kernel
theorem dX7_city_14 : decode cX7_city 14 = .ok (.ldc 118, 2) := by decide +kernel
theorem dX7_city_16 : decode cX7_city 16 = .ok (.aload_n 0, 1) := by decide +kernel
theorem dX7_city_17 : decode cX7_city 17 = .ok (.getfield 19, 3) := by decide +kernel
theorem dX7_city_20 : decode cX7_city 20 = .ok (.getfield 119, 3) := by decide +kernel
theorem dX7_city_23 : decode cX7_city 23 = .ok (.isub, 1) := by decide +kernel
theorem dX7_city_24 : decode cX7_city 24 = .ok (.ireturn, 1) := by decide +kernel
theorem dX7_city_25 : decode cX7_city 25 = .ok (.aload_n 0, 1) := by decide +kernel
theorem dX7_city_26 : decode cX7_city 26 = .ok (.getfield 26, 3) := by decide +kernel
theorem dX7_city_29 : decode cX7_city 29 = .ok (.aload_n 0, 1) := by decide +kernel
theorem dX7_city_30 : decode cX7_city 30 = .ok (.getfield 30, 3) := by decide +kernel
theorem dX7_city_33 : decode cX7_city 33 = .ok (.invokevirtual 122, 3) := by decide +kernel
theorem dX7_city_36 : decode cX7_city 36 = .ok (.aload_n 0, 1) := by decide +kernel
theorem dX7_city_37 : decode cX7_city 37 = .ok (.getfield 40, 3) := by decide +kernel
theorem dX7_city_40 : decode cX7_city 40 = .ok (.invokevirtual 126, 3) := by decide +kernel
theorem dX7_city_43 : decode cX7_city 43 = .ok (.aload_n 0, 1) := by decide +kernel
theorem dX7_city_44 : decode cX7_city 44 = .ok (.getfield 26, 3) := by decide +kernel
theorem dX7_city_47 : decode cX7_city 47 = .ok (.getfield 129, 3) := by decide +kernel
theorem dX7_city_50 : decode cX7_city 50 = .ok (.ireturn, 1) := by decide +kernel
theorem dX7_fault_0 : decode cX7_fault 0 = .ok (.aload_n 0, 1) := by decide +kernel
theorem dX7_fault_1 : decode cX7_fault 1 = .ok (.getfield 19, 3) := by decide +kernel
theorem dX7_fault_4 : decode cX7_fault 4 = .ok (.getfield 132, 3) := by decide +kernel
theorem dX7_fault_7 : decode cX7_fault 7 = .ok (.ireturn, 1) := by decide +kernel
set_option maxRecDepth 20000 in
theorem ggX7_make_X7_isGesture : GoodIn wsX7_make wsX7_isGesture := goodIn_r _ [13, 2, 14, 64, 65, 66, 67, 68, 69, 70, 71, 72, 73, 74, 75, 76, 77, 78, 79, 80, 81, 82, 83, 84, 85] (by decide +kernel) (by decide +kernel)
set_option maxRecDepth 20000 in
theorem gX7_make_X7_isGesture : GoodIn wsX7_make (wsV RX7 135 RX7 yX7_isGesture wsX7_isGesture) := goodIn_app (goodIn_of _ (by decide +kernel)) ggX7_make_X7_isGesture
set_option maxRecDepth 20000 in
theorem ggX7_make_X7_isStreet : GoodIn wsX7_make wsX7_isStreet := goodIn_r _ [18, 2, 19, 64, 65, 66, 67, 68, 69, 70, 71, 72, 73, 74, 75, 76, 77, 78, 79, 80, 81, 82, 83, 84, 85] (by decide +kernel) (by decide +kernel)
set_option maxRecDepth 20000 in
theorem gX7_make_X7_isStreet : GoodIn wsX7_make (wsV RX7 138 RX7 yX7_isStreet wsX7_isStreet) := goodIn_app (goodIn_of _ (by decide +kernel)) ggX7_make_X7_isStreet
set_option maxRecDepth 20000 in
theorem ggX7_make_X2_isSeen : GoodIn wsX7_make wsX2_isSeen := goodIn_r _ [24, 25, 26, 27, 73, 74, 75, 76, 77, 78, 79, 80, 81, 82, 83, 84, 85] (by decide +kernel) (by decide +kernel)
set_option maxRecDepth 20000 in
theorem gX7_make_X2_isSeen : GoodIn wsX7_make (wsV RX7 141 RX2 yX2_isSeen wsX2_isSeen) := goodIn_app (goodIn_of _ (by decide +kernel)) ggX7_make_X2_isSeen
set_option maxRecDepth 20000 in
theorem ggX7_make_X2_owes : GoodIn wsX7_make wsX2_owes := goodIn_r _ [31, 25, 26, 32, 33, 34, 23, 35, 36, 37, 38, 39, 40, 41, 42, 43, 44, 45, 46, 47, 48, 49, 50, 73, 74, 75, 76, 77, 78, 79, 80, 81, 82, 83, 84, 85] (by decide +kernel) (by decide +kernel)
set_option maxRecDepth 20000 in
theorem gX7_make_X2_owes : GoodIn wsX7_make (wsV RX7 145 RX2 yX2_owes wsX2_owes) := goodIn_app (goodIn_of _ (by decide +kernel)) ggX7_make_X2_owes
set_option maxRecDepth 20000 in
theorem ggX7_make_X0_keep : GoodIn wsX7_make wsX0_keep := goodIn_r _ [55, 56, 57, 58, 59, 60, 61, 62, 44, 63, 86, 87, 88, 89, 90] (by decide +kernel) (by decide +kernel)
set_option maxRecDepth 20000 in
theorem gX7_make_X0_keep : GoodIn wsX7_make (wsV RX7 157 RX0 yX0_keep wsX0_keep) := goodIn_app (goodIn_of _ (by decide +kernel)) ggX7_make_X0_keep
theorem dX7_make_0 : decode cX7_make 0 = .ok (.aload_n 0, 1) := by decide +kernel
theorem dX7_make_1 : decode cX7_make 1 = .ok (.iload_n 1, 1) := by decide +kernel
theorem dX7_make_2 : decode cX7_make 2 = .ok (.invokevirtual 135, 3) := by decide +kernel
theorem dX7_make_5 : decode cX7_make 5 = .ok (.ifCond .eq 11, 3) := by decide +kernel
theorem dX7_make_8 : decode cX7_make 8 = .ok (.aload_n 0, 1) := by decide +kernel
theorem dX7_make_9 : decode cX7_make 9 = .ok (.iload_n 2, 1) := by decide +kernel
theorem dX7_make_10 : decode cX7_make 10 = .ok (.invokevirtual 138, 3) := by decide +kernel
theorem dX7_make_13 : decode cX7_make 13 = .ok (.ifCond .ne 6, 3) := by decide +kernel
theorem dX7_make_16 : decode cX7_make 16 = .ok (.ldc 70, 2) := by decide +kernel
theorem dX7_make_18 : decode cX7_make 18 = .ok (.ireturn, 1) := by decide +kernel
theorem dX7_make_19 : decode cX7_make 19 = .ok (.aload_n 0, 1) := by decide +kernel
theorem dX7_make_20 : decode cX7_make 20 = .ok (.getfield 26, 3) := by decide +kernel
theorem dX7_make_23 : decode cX7_make 23 = .ok (.iload_n 1, 1) := by decide +kernel
theorem dX7_make_24 : decode cX7_make 24 = .ok (.iload_n 2, 1) := by decide +kernel
theorem dX7_make_25 : decode cX7_make 25 = .ok (.invokevirtual 141, 3) := by decide +kernel
theorem dX7_make_28 : decode cX7_make 28 = .ok (.ifCond .ne 6, 3) := by decide +kernel
theorem dX7_make_31 : decode cX7_make 31 = .ok (.ldc 144, 2) := by decide +kernel
theorem dX7_make_33 : decode cX7_make 33 = .ok (.ireturn, 1) := by decide +kernel
theorem dX7_make_34 : decode cX7_make 34 = .ok (.aload_n 0, 1) := by decide +kernel
theorem dX7_make_35 : decode cX7_make 35 = .ok (.getfield 26, 3) := by decide +kernel
theorem dX7_make_38 : decode cX7_make 38 = .ok (.iload_n 1, 1) := by decide +kernel
theorem dX7_make_39 : decode cX7_make 39 = .ok (.iload_n 2, 1) := by decide +kernel
theorem dX7_make_40 : decode cX7_make 40 = .ok (.invokevirtual 145, 3) := by decide +kernel
theorem dX7_make_43 : decode cX7_make 43 = .ok (.istore_n 3, 1) := by decide +kernel
theorem dX7_make_44 : decode cX7_make 44 = .ok (.aload_n 0, 1) := by decide +kernel
theorem dX7_make_45 : decode cX7_make 45 = .ok (.getfield 26, 3) := by decide +kernel
theorem dX7_make_48 : decode cX7_make 48 = .ok (.getfield 149, 3) := by decide +kernel
theorem dX7_make_51 : decode cX7_make 51 = .ok (.iload_n 3, 1) := by decide +kernel
theorem dX7_make_52 : decode cX7_make 52 = .ok (.iadd, 1) := by decide +kernel
theorem dX7_make_53 : decode cX7_make 53 = .ok (.ldc 152, 2) := by decide +kernel
theorem dX7_make_55 : decode cX7_make 55 = .ok (.if_icmp .le 6, 3) := by decide +kernel
theorem dX7_make_58 : decode cX7_make 58 = .ok (.ldc 110, 2) := by decide +kernel
theorem dX7_make_60 : decode cX7_make 60 = .ok (.ireturn, 1) := by decide +kernel
theorem dX7_make_61 : decode cX7_make 61 = .ok (.aload_n 0, 1) := by decide +kernel
theorem dX7_make_62 : decode cX7_make 62 = .ok (.getfield 26, 3) := by decide +kernel
theorem dX7_make_65 : decode cX7_make 65 = .ok (.getfield 153, 3) := by decide +kernel
theorem dX7_make_68 : decode cX7_make 68 = .ok (.iload_n 1, 1) := by decide +kernel
theorem dX7_make_69 : decode cX7_make 69 = .ok (.dup2, 1) := by decide +kernel
theorem dX7_make_70 : decode cX7_make 70 = .ok (.iaload, 1) := by decide +kernel
theorem dX7_make_71 : decode cX7_make 71 = .ok (.iconst 1, 1) := by decide +kernel
theorem dX7_make_72 : decode cX7_make 72 = .ok (.iadd, 1) := by decide +kernel
theorem dX7_make_73 : decode cX7_make 73 = .ok (.iastore, 1) := by decide +kernel
theorem dX7_make_74 : decode cX7_make 74 = .ok (.aload_n 0, 1) := by decide +kernel
theorem dX7_make_75 : decode cX7_make 75 = .ok (.getfield 26, 3) := by decide +kernel
theorem dX7_make_78 : decode cX7_make 78 = .ok (.dup, 1) := by decide +kernel
theorem dX7_make_79 : decode cX7_make 79 = .ok (.getfield 149, 3) := by decide +kernel
theorem dX7_make_82 : decode cX7_make 82 = .ok (.iload_n 3, 1) := by decide +kernel
theorem dX7_make_83 : decode cX7_make 83 = .ok (.iadd, 1) := by decide +kernel
theorem dX7_make_84 : decode cX7_make 84 = .ok (.putfield 149, 3) := by decide +kernel
theorem dX7_make_87 : decode cX7_make 87 = .ok (.aload_n 0, 1) := by decide +kernel
theorem dX7_make_88 : decode cX7_make 88 = .ok (.getfield 40, 3) := by decide +kernel
theorem dX7_make_91 : decode cX7_make 91 = .ok (.iconst 0, 1) := by decide +kernel
theorem dX7_make_92 : decode cX7_make 92 = .ok (.iload_n 1, 1) := by decide +kernel
theorem dX7_make_93 : decode cX7_make 93 = .ok (.iload_n 3, 1) := by decide +kernel
theorem dX7_make_94 : decode cX7_make 94 = .ok (.invokevirtual 157, 3) := by decide +kernel
theorem dX7_make_97 : decode cX7_make 97 = .ok (.aload_n 0, 1) := by decide +kernel
theorem dX7_make_98 : decode cX7_make 98 = .ok (.getfield 26, 3) := by decide +kernel
theorem dX7_make_101 : decode cX7_make 101 = .ok (.getfield 149, 3) := by decide +kernel
theorem dX7_make_104 : decode cX7_make 104 = .ok (.ireturn, 1) := by decide +kernel
set_option maxRecDepth 20000 in
theorem ggX7_dim_X7_isStreet : GoodIn wsX7_dim wsX7_isStreet := goodIn_r _ [9, 2, 10, 28, 29, 30, 31, 32, 33, 34, 35, 36, 37, 38, 39, 40, 41, 42, 43, 44, 45, 46, 47, 48, 49] (by decide +kernel) (by decide +kernel)
set_option maxRecDepth 20000 in
theorem gX7_dim_X7_isStreet : GoodIn wsX7_dim (wsV RX7 138 RX7 yX7_isStreet wsX7_isStreet) := goodIn_app (goodIn_of _ (by decide +kernel)) ggX7_dim_X7_isStreet
set_option maxRecDepth 20000 in
theorem ggX7_dim_X7_isWithin : GoodIn wsX7_dim wsX7_isWithin := goodIn_r _ [13] (by decide +kernel) (by decide +kernel)
set_option maxRecDepth 20000 in
theorem gX7_dim_X7_isWithin : GoodIn wsX7_dim (va_wsS RX7 66 yX7_isWithin wsX7_isWithin) := goodIn_app (goodIn_of _ (by decide +kernel)) ggX7_dim_X7_isWithin
set_option maxRecDepth 20000 in
theorem ggX7_dim_X0_keep : GoodIn wsX7_dim wsX0_keep := goodIn_r _ [18, 19, 20, 21, 22, 23, 24, 25, 26, 27, 50, 51, 52, 53, 54] (by decide +kernel) (by decide +kernel)
set_option maxRecDepth 20000 in
theorem gX7_dim_X0_keep : GoodIn wsX7_dim (wsV RX7 157 RX0 yX0_keep wsX0_keep) := goodIn_app (goodIn_of _ (by decide +kernel)) ggX7_dim_X0_keep
theorem dX7_dim_0 : decode cX7_dim 0 = .ok (.aload_n 0, 1) := by decide +kernel
theorem dX7_dim_1 : decode cX7_dim 1 = .ok (.iload_n 1, 1) := by decide +kernel
theorem dX7_dim_2 : decode cX7_dim 2 = .ok (.invokevirtual 138, 3) := by decide +kernel
theorem dX7_dim_5 : decode cX7_dim 5 = .ok (.ifCond .eq 13, 3) := by decide +kernel
theorem dX7_dim_8 : decode cX7_dim 8 = .ok (.iload_n 2, 1) := by decide +kernel
theorem dX7_dim_9 : decode cX7_dim 9 = .ok (.iconst 0, 1) := by decide +kernel
theorem dX7_dim_10 : decode cX7_dim 10 = .ok (.bipush 30, 2) := by decide +kernel
theorem dX7_dim_12 : decode cX7_dim 12 = .ok (.invokestatic 66, 3) := by decide +kernel
theorem dX7_dim_15 : decode cX7_dim 15 = .ok (.ifCond .ne 6, 3) := by decide +kernel
theorem dX7_dim_18 : decode cX7_dim 18 = .ok (.ldc 70, 2) := by decide +kernel
theorem dX7_dim_20 : decode cX7_dim 20 = .ok (.ireturn, 1) := by decide +kernel
theorem dX7_dim_21 : decode cX7_dim 21 = .ok (.aload_n 0, 1) := by decide +kernel
theorem dX7_dim_22 : decode cX7_dim 22 = .ok (.getfield 26, 3) := by decide +kernel
theorem dX7_dim_25 : decode cX7_dim 25 = .ok (.getfield 160, 3) := by decide +kernel
theorem dX7_dim_28 : decode cX7_dim 28 = .ok (.iload_n 1, 1) := by decide +kernel
theorem dX7_dim_29 : decode cX7_dim 29 = .ok (.iaload, 1) := by decide +kernel
theorem dX7_dim_30 : decode cX7_dim 30 = .ok (.istore_n 3, 1) := by decide +kernel
theorem dX7_dim_31 : decode cX7_dim 31 = .ok (.aload_n 0, 1) := by decide +kernel
theorem dX7_dim_32 : decode cX7_dim 32 = .ok (.getfield 26, 3) := by decide +kernel
theorem dX7_dim_35 : decode cX7_dim 35 = .ok (.getfield 160, 3) := by decide +kernel
theorem dX7_dim_38 : decode cX7_dim 38 = .ok (.iload_n 1, 1) := by decide +kernel
theorem dX7_dim_39 : decode cX7_dim 39 = .ok (.iload_n 2, 1) := by decide +kernel
theorem dX7_dim_40 : decode cX7_dim 40 = .ok (.iastore, 1) := by decide +kernel
theorem dX7_dim_41 : decode cX7_dim 41 = .ok (.aload_n 0, 1) := by decide +kernel
theorem dX7_dim_42 : decode cX7_dim 42 = .ok (.getfield 40, 3) := by decide +kernel
theorem dX7_dim_45 : decode cX7_dim 45 = .ok (.iconst 1, 1) := by decide +kernel
theorem dX7_dim_46 : decode cX7_dim 46 = .ok (.iload_n 1, 1) := by decide +kernel
theorem dX7_dim_47 : decode cX7_dim 47 = .ok (.iload_n 3, 1) := by decide +kernel
theorem dX7_dim_48 : decode cX7_dim 48 = .ok (.invokevirtual 157, 3) := by decide +kernel
theorem dX7_dim_51 : decode cX7_dim 51 = .ok (.iload_n 3, 1) := by decide +kernel
theorem dX7_dim_52 : decode cX7_dim 52 = .ok (.ireturn, 1) := by decide +kernel
set_option maxRecDepth 20000 in
theorem ggX7_train_X7_isGesture : GoodIn wsX7_train wsX7_isGesture := goodIn_r _ [10, 2, 11, 29, 30, 31, 32, 33, 34, 35, 36, 37, 38, 39, 40, 41, 42, 43, 44, 45, 46, 47, 48, 49, 50] (by decide +kernel) (by decide +kernel)
set_option maxRecDepth 20000 in
theorem gX7_train_X7_isGesture : GoodIn wsX7_train (wsV RX7 135 RX7 yX7_isGesture wsX7_isGesture) := goodIn_app (goodIn_of _ (by decide +kernel)) ggX7_train_X7_isGesture
set_option maxRecDepth 20000 in
theorem ggX7_train_X7_isWithin : GoodIn wsX7_train wsX7_isWithin := goodIn_r _ [14] (by decide +kernel) (by decide +kernel)
set_option maxRecDepth 20000 in
theorem gX7_train_X7_isWithin : GoodIn wsX7_train (va_wsS RX7 66 yX7_isWithin wsX7_isWithin) := goodIn_app (goodIn_of _ (by decide +kernel)) ggX7_train_X7_isWithin
set_option maxRecDepth 20000 in
theorem ggX7_train_X0_keep : GoodIn wsX7_train wsX0_keep := goodIn_r _ [19, 20, 21, 22, 23, 24, 25, 26, 27, 28, 51, 52, 53, 54, 55] (by decide +kernel) (by decide +kernel)
set_option maxRecDepth 20000 in
theorem gX7_train_X0_keep : GoodIn wsX7_train (wsV RX7 157 RX0 yX0_keep wsX0_keep) := goodIn_app (goodIn_of _ (by decide +kernel)) ggX7_train_X0_keep
theorem dX7_train_0 : decode cX7_train 0 = .ok (.aload_n 0, 1) := by decide +kernel
theorem dX7_train_1 : decode cX7_train 1 = .ok (.iload_n 1, 1) := by decide +kernel
theorem dX7_train_2 : decode cX7_train 2 = .ok (.invokevirtual 135, 3) := by decide +kernel
theorem dX7_train_5 : decode cX7_train 5 = .ok (.ifCond .eq 13, 3) := by decide +kernel
theorem dX7_train_8 : decode cX7_train 8 = .ok (.iload_n 2, 1) := by decide +kernel
theorem dX7_train_9 : decode cX7_train 9 = .ok (.iconst 1, 1) := by decide +kernel
theorem dX7_train_10 : decode cX7_train 10 = .ok (.bipush 29, 2) := by decide +kernel
theorem dX7_train_12 : decode cX7_train 12 = .ok (.invokestatic 66, 3) := by decide +kernel
theorem dX7_train_15 : decode cX7_train 15 = .ok (.ifCond .ne 6, 3) := by decide +kernel
theorem dX7_train_18 : decode cX7_train 18 = .ok (.ldc 70, 2) := by decide +kernel
theorem dX7_train_20 : decode cX7_train 20 = .ok (.ireturn, 1) := by decide +kernel
theorem dX7_train_21 : decode cX7_train 21 = .ok (.aload_n 0, 1) := by decide +kernel
theorem dX7_train_22 : decode cX7_train 22 = .ok (.getfield 26, 3) := by decide +kernel
theorem dX7_train_25 : decode cX7_train 25 = .ok (.getfield 163, 3) := by decide +kernel
theorem dX7_train_28 : decode cX7_train 28 = .ok (.iload_n 1, 1) := by decide +kernel
theorem dX7_train_29 : decode cX7_train 29 = .ok (.iaload, 1) := by decide +kernel
theorem dX7_train_30 : decode cX7_train 30 = .ok (.iload_n 2, 1) := by decide +kernel
theorem dX7_train_31 : decode cX7_train 31 = .ok (.isub, 1) := by decide +kernel
theorem dX7_train_32 : decode cX7_train 32 = .ok (.iconst 1, 1) := by decide +kernel
theorem dX7_train_33 : decode cX7_train 33 = .ok (.if_icmp .ge 6, 3) := by decide +kernel
theorem dX7_train_36 : decode cX7_train 36 = .ok (.ldc 144, 2) := by decide +kernel
theorem dX7_train_38 : decode cX7_train 38 = .ok (.ireturn, 1) := by decide +kernel
theorem dX7_train_39 : decode cX7_train 39 = .ok (.aload_n 0, 1) := by decide +kernel
theorem dX7_train_40 : decode cX7_train 40 = .ok (.getfield 26, 3) := by decide +kernel
theorem dX7_train_43 : decode cX7_train 43 = .ok (.getfield 163, 3) := by decide +kernel
theorem dX7_train_46 : decode cX7_train 46 = .ok (.iload_n 1, 1) := by decide +kernel
theorem dX7_train_47 : decode cX7_train 47 = .ok (.dup2, 1) := by decide +kernel
theorem dX7_train_48 : decode cX7_train 48 = .ok (.iaload, 1) := by decide +kernel
theorem dX7_train_49 : decode cX7_train 49 = .ok (.iload_n 2, 1) := by decide +kernel
theorem dX7_train_50 : decode cX7_train 50 = .ok (.isub, 1) := by decide +kernel
theorem dX7_train_51 : decode cX7_train 51 = .ok (.iastore, 1) := by decide +kernel
theorem dX7_train_52 : decode cX7_train 52 = .ok (.aload_n 0, 1) := by decide +kernel
theorem dX7_train_53 : decode cX7_train 53 = .ok (.getfield 40, 3) := by decide +kernel
theorem dX7_train_56 : decode cX7_train 56 = .ok (.iconst 2, 1) := by decide +kernel
theorem dX7_train_57 : decode cX7_train 57 = .ok (.iload_n 1, 1) := by decide +kernel
theorem dX7_train_58 : decode cX7_train 58 = .ok (.iload_n 2, 1) := by decide +kernel
theorem dX7_train_59 : decode cX7_train 59 = .ok (.invokevirtual 157, 3) := by decide +kernel
theorem dX7_train_62 : decode cX7_train 62 = .ok (.aload_n 0, 1) := by decide +kernel
theorem dX7_train_63 : decode cX7_train 63 = .ok (.getfield 26, 3) := by decide +kernel
theorem dX7_train_66 : decode cX7_train 66 = .ok (.getfield 163, 3) := by decide +kernel
theorem dX7_train_69 : decode cX7_train 69 = .ok (.iload_n 1, 1) := by decide +kernel
theorem dX7_train_70 : decode cX7_train 70 = .ok (.iaload, 1) := by decide +kernel
theorem dX7_train_71 : decode cX7_train 71 = .ok (.ireturn, 1) := by decide +kernel
set_option maxRecDepth 20000 in
theorem ggX7_know_X7_isStreet : GoodIn wsX7_know wsX7_isStreet := goodIn_r _ [10, 2, 11, 39, 40, 41, 42, 43, 44, 45, 46, 47, 48, 49, 50, 51, 52, 53, 54, 55, 56, 57, 58, 59, 60] (by decide +kernel) (by decide +kernel)
set_option maxRecDepth 20000 in
theorem gX7_know_X7_isStreet : GoodIn wsX7_know (wsV RX7 138 RX7 yX7_isStreet wsX7_isStreet) := goodIn_app (goodIn_of _ (by decide +kernel)) ggX7_know_X7_isStreet
set_option maxRecDepth 20000 in
theorem ggX7_know_X7_isWithin : GoodIn wsX7_know wsX7_isWithin := goodIn_r _ [14] (by decide +kernel) (by decide +kernel)
set_option maxRecDepth 20000 in
theorem gX7_know_X7_isWithin : GoodIn wsX7_know (va_wsS RX7 66 yX7_isWithin wsX7_isWithin) := goodIn_app (goodIn_of _ (by decide +kernel)) ggX7_know_X7_isWithin
set_option maxRecDepth 20000 in
theorem ggX7_know_X2_isKnown : GoodIn wsX7_know wsX2_isKnown := goodIn_r _ [19, 20, 48, 49, 50, 51, 52, 53, 54, 55, 56, 57, 58, 59, 60] (by decide +kernel) (by decide +kernel)
set_option maxRecDepth 20000 in
theorem gX7_know_X2_isKnown : GoodIn wsX7_know (wsV RX7 166 RX2 yX2_isKnown wsX2_isKnown) := goodIn_app (goodIn_of _ (by decide +kernel)) ggX7_know_X2_isKnown
set_option maxRecDepth 20000 in
theorem ggX7_know_X2_turnKnown : GoodIn wsX7_know wsX2_turnKnown := goodIn_r _ [24, 20, 48, 49, 50, 51, 52, 53, 54, 55, 56, 57, 58, 59, 60] (by decide +kernel) (by decide +kernel)
set_option maxRecDepth 20000 in
theorem gX7_know_X2_turnKnown : GoodIn wsX7_know (wsV RX7 169 RX2 yX2_turnKnown wsX2_turnKnown) := goodIn_app (goodIn_of _ (by decide +kernel)) ggX7_know_X2_turnKnown
set_option maxRecDepth 20000 in
theorem ggX7_know_X0_keep : GoodIn wsX7_know wsX0_keep := goodIn_r _ [29, 30, 31, 32, 33, 34, 35, 36, 37, 38, 61, 62, 63, 64, 65] (by decide +kernel) (by decide +kernel)
set_option maxRecDepth 20000 in
theorem gX7_know_X0_keep : GoodIn wsX7_know (wsV RX7 157 RX0 yX0_keep wsX0_keep) := goodIn_app (goodIn_of _ (by decide +kernel)) ggX7_know_X0_keep
theorem dX7_know_0 : decode cX7_know 0 = .ok (.aload_n 0, 1) := by decide +kernel
theorem dX7_know_1 : decode cX7_know 1 = .ok (.iload_n 1, 1) := by decide +kernel
theorem dX7_know_2 : decode cX7_know 2 = .ok (.invokevirtual 138, 3) := by decide +kernel
theorem dX7_know_5 : decode cX7_know 5 = .ok (.ifCond .eq 12, 3) := by decide +kernel
theorem dX7_know_8 : decode cX7_know 8 = .ok (.iload_n 2, 1) := by decide +kernel
theorem dX7_know_9 : decode cX7_know 9 = .ok (.iconst 0, 1) := by decide +kernel
theorem dX7_know_10 : decode cX7_know 10 = .ok (.iconst 1, 1) := by decide +kernel
theorem dX7_know_11 : decode cX7_know 11 = .ok (.invokestatic 66, 3) := by decide +kernel
theorem dX7_know_14 : decode cX7_know 14 = .ok (.ifCond .ne 6, 3) := by decide +kernel
theorem dX7_know_17 : decode cX7_know 17 = .ok (.ldc 70, 2) := by decide +kernel
theorem dX7_know_19 : decode cX7_know 19 = .ok (.ireturn, 1) := by decide +kernel
theorem dX7_know_20 : decode cX7_know 20 = .ok (.aload_n 0, 1) := by decide +kernel
theorem dX7_know_21 : decode cX7_know 21 = .ok (.getfield 26, 3) := by decide +kernel
theorem dX7_know_24 : decode cX7_know 24 = .ok (.iload_n 1, 1) := by decide +kernel
theorem dX7_know_25 : decode cX7_know 25 = .ok (.invokevirtual 166, 3) := by decide +kernel
theorem dX7_know_28 : decode cX7_know 28 = .ok (.iload_n 2, 1) := by decide +kernel
theorem dX7_know_29 : decode cX7_know 29 = .ok (.iconst 1, 1) := by decide +kernel
theorem dX7_know_30 : decode cX7_know 30 = .ok (.if_icmp .ne 7, 3) := by decide +kernel
theorem dX7_know_33 : decode cX7_know 33 = .ok (.iconst 1, 1) := by decide +kernel
theorem dX7_know_34 : decode cX7_know 34 = .ok (.goto 4, 3) := by decide +kernel
theorem dX7_know_37 : decode cX7_know 37 = .ok (.iconst 0, 1) := by decide +kernel
theorem dX7_know_38 : decode cX7_know 38 = .ok (.if_icmp .ne 6, 3) := by decide +kernel
theorem dX7_know_41 : decode cX7_know 41 = .ok (.ldc 144, 2) := by decide +kernel
theorem dX7_know_43 : decode cX7_know 43 = .ok (.ireturn, 1) := by decide +kernel
theorem dX7_know_44 : decode cX7_know 44 = .ok (.aload_n 0, 1) := by decide +kernel
theorem dX7_know_45 : decode cX7_know 45 = .ok (.getfield 26, 3) := by decide +kernel
theorem dX7_know_48 : decode cX7_know 48 = .ok (.iload_n 1, 1) := by decide +kernel
theorem dX7_know_49 : decode cX7_know 49 = .ok (.invokevirtual 169, 3) := by decide +kernel
theorem dX7_know_52 : decode cX7_know 52 = .ok (.aload_n 0, 1) := by decide +kernel
theorem dX7_know_53 : decode cX7_know 53 = .ok (.getfield 40, 3) := by decide +kernel
theorem dX7_know_56 : decode cX7_know 56 = .ok (.iconst 3, 1) := by decide +kernel
theorem dX7_know_57 : decode cX7_know 57 = .ok (.iload_n 1, 1) := by decide +kernel
theorem dX7_know_58 : decode cX7_know 58 = .ok (.iconst 0, 1) := by decide +kernel
theorem dX7_know_59 : decode cX7_know 59 = .ok (.invokevirtual 157, 3) := by decide +kernel
theorem dX7_know_62 : decode cX7_know 62 = .ok (.aload_n 0, 1) := by decide +kernel
theorem dX7_know_63 : decode cX7_know 63 = .ok (.getfield 26, 3) := by decide +kernel
theorem dX7_know_66 : decode cX7_know 66 = .ok (.getfield 173, 3) := by decide +kernel
theorem dX7_know_69 : decode cX7_know 69 = .ok (.ireturn, 1) := by decide +kernel
set_option maxRecDepth 20000 in
theorem ggX7_undo_X0_takeBack : GoodIn wsX7_undo wsX0_takeBack := goodIn_r _ [9, 10, 11, 12, 13, 14, 15, 16, 17, 18, 19, 20, 21, 22, 23, 24, 34, 35, 36, 37, 38, 39, 40, 41, 42, 43, 44, 45, 46, 47, 48, 49, 50, 51] (by decide +kernel) (by decide +kernel)
set_option maxRecDepth 20000 in
theorem gX7_undo_X0_takeBack : GoodIn wsX7_undo (wsV RX7 179 RX0 yX0_takeBack wsX0_takeBack) := goodIn_app (goodIn_of _ (by decide +kernel)) ggX7_undo_X0_takeBack
theorem dX7_undo_0 : decode cX7_undo 0 = .ok (.aload_n 0, 1) := by decide +kernel
theorem dX7_undo_1 : decode cX7_undo 1 = .ok (.getfield 40, 3) := by decide +kernel
theorem dX7_undo_4 : decode cX7_undo 4 = .ok (.getfield 176, 3) := by decide +kernel
theorem dX7_undo_7 : decode cX7_undo 7 = .ok (.ifCond .ne 6, 3) := by decide +kernel
theorem dX7_undo_10 : decode cX7_undo 10 = .ok (.ldc 144, 2) := by decide +kernel
theorem dX7_undo_12 : decode cX7_undo 12 = .ok (.ireturn, 1) := by decide +kernel
theorem dX7_undo_13 : decode cX7_undo 13 = .ok (.aload_n 0, 1) := by decide +kernel
theorem dX7_undo_14 : decode cX7_undo 14 = .ok (.getfield 40, 3) := by decide +kernel
theorem dX7_undo_17 : decode cX7_undo 17 = .ok (.aload_n 0, 1) := by decide +kernel
theorem dX7_undo_18 : decode cX7_undo 18 = .ok (.getfield 26, 3) := by decide +kernel
theorem dX7_undo_21 : decode cX7_undo 21 = .ok (.invokevirtual 179, 3) := by decide +kernel
theorem dX7_undo_24 : decode cX7_undo 24 = .ok (.aload_n 0, 1) := by decide +kernel
theorem dX7_undo_25 : decode cX7_undo 25 = .ok (.getfield 40, 3) := by decide +kernel
theorem dX7_undo_28 : decode cX7_undo 28 = .ok (.getfield 176, 3) := by decide +kernel
theorem dX7_undo_31 : decode cX7_undo 31 = .ok (.ireturn, 1) := by decide +kernel
set_option maxRecDepth 20000 in
theorem ggX7_gesture_X7_isGesture : GoodIn wsX7_gesture wsX7_isGesture := goodIn_r _ [11, 2, 12, 26, 27, 28, 29, 30, 31, 32, 33, 34, 35, 36, 37, 38, 39, 40, 41, 42, 43, 44, 45, 46, 47] (by decide +kernel) (by decide +kernel)
set_option maxRecDepth 20000 in
theorem gX7_gesture_X7_isGesture : GoodIn wsX7_gesture (wsV RX7 135 RX7 yX7_isGesture wsX7_isGesture) := goodIn_app (goodIn_of _ (by decide +kernel)) ggX7_gesture_X7_isGesture
set_option maxRecDepth 20000 in
theorem ggX7_gesture_X2_streetsThatSee : GoodIn wsX7_gesture wsX2_streetsThatSee := goodIn_r _ [17, 18, 19, 20, 21, 16, 22, 23, 24, 25, 35, 36, 37, 38, 39, 40, 41, 42, 43, 44, 45, 46, 47] (by decide +kernel) (by decide +kernel)
set_option maxRecDepth 20000 in
theorem gX7_gesture_X2_streetsThatSee : GoodIn wsX7_gesture (wsV RX7 188 RX2 yX2_streetsThatSee wsX2_streetsThatSee) := goodIn_app (goodIn_of _ (by decide +kernel)) ggX7_gesture_X2_streetsThatSee
theorem dX7_gesture_0 : decode cX7_gesture 0 = .ok (.aload_n 0, 1) := by decide +kernel
theorem dX7_gesture_1 : decode cX7_gesture 1 = .ok (.iload_n 1, 1) := by decide +kernel
theorem dX7_gesture_2 : decode cX7_gesture 2 = .ok (.invokevirtual 135, 3) := by decide +kernel
theorem dX7_gesture_5 : decode cX7_gesture 5 = .ok (.ifCond .ne 6, 3) := by decide +kernel
theorem dX7_gesture_8 : decode cX7_gesture 8 = .ok (.ldc 70, 2) := by decide +kernel
theorem dX7_gesture_10 : decode cX7_gesture 10 = .ok (.ireturn, 1) := by decide +kernel
theorem dX7_gesture_11 : decode cX7_gesture 11 = .ok (.iload_n 2, 1) := by decide +kernel
theorem dX7_gesture_12 : decode cX7_gesture 12 = .ok (.tableswitch 85 0 4 #[36, 46, 56, 66, 75], 36) := by decide +kernel
theorem dX7_gesture_48 : decode cX7_gesture 48 = .ok (.aload_n 0, 1) := by decide +kernel
theorem dX7_gesture_49 : decode cX7_gesture 49 = .ok (.getfield 26, 3) := by decide +kernel
theorem dX7_gesture_52 : decode cX7_gesture 52 = .ok (.getfield 163, 3) := by decide +kernel
theorem dX7_gesture_55 : decode cX7_gesture 55 = .ok (.iload_n 1, 1) := by decide +kernel
theorem dX7_gesture_56 : decode cX7_gesture 56 = .ok (.iaload, 1) := by decide +kernel
theorem dX7_gesture_57 : decode cX7_gesture 57 = .ok (.ireturn, 1) := by decide +kernel
theorem dX7_gesture_58 : decode cX7_gesture 58 = .ok (.aload_n 0, 1) := by decide +kernel
theorem dX7_gesture_59 : decode cX7_gesture 59 = .ok (.getfield 26, 3) := by decide +kernel
theorem dX7_gesture_62 : decode cX7_gesture 62 = .ok (.getfield 182, 3) := by decide +kernel
theorem dX7_gesture_65 : decode cX7_gesture 65 = .ok (.iload_n 1, 1) := by decide +kernel
theorem dX7_gesture_66 : decode cX7_gesture 66 = .ok (.iaload, 1) := by decide +kernel
theorem dX7_gesture_67 : decode cX7_gesture 67 = .ok (.ireturn, 1) := by decide +kernel
theorem dX7_gesture_68 : decode cX7_gesture 68 = .ok (.aload_n 0, 1) := by decide +kernel
theorem dX7_gesture_69 : decode cX7_gesture 69 = .ok (.getfield 26, 3) := by decide +kernel
theorem dX7_gesture_72 : decode cX7_gesture 72 = .ok (.getfield 185, 3) := by decide +kernel
theorem dX7_gesture_75 : decode cX7_gesture 75 = .ok (.iload_n 1, 1) := by decide +kernel
theorem dX7_gesture_76 : decode cX7_gesture 76 = .ok (.iaload, 1) := by decide +kernel
theorem dX7_gesture_77 : decode cX7_gesture 77 = .ok (.ireturn, 1) := by decide +kernel
theorem dX7_gesture_78 : decode cX7_gesture 78 = .ok (.aload_n 0, 1) := by decide +kernel
theorem dX7_gesture_79 : decode cX7_gesture 79 = .ok (.getfield 26, 3) := by decide +kernel
theorem dX7_gesture_82 : decode cX7_gesture 82 = .ok (.iload_n 1, 1) := by decide +kernel
theorem dX7_gesture_83 : decode cX7_gesture 83 = .ok (.invokevirtual 188, 3) := by decide +kernel
theorem dX7_gesture_86 : decode cX7_gesture 86 = .ok (.ireturn, 1) := by decide +kernel
theorem dX7_gesture_87 : decode cX7_gesture 87 = .ok (.aload_n 0, 1) := by decide +kernel
theorem dX7_gesture_88 : decode cX7_gesture 88 = .ok (.getfield 26, 3) := by decide +kernel
theorem dX7_gesture_91 : decode cX7_gesture 91 = .ok (.getfield 153, 3) := by decide +kernel
theorem dX7_gesture_94 : decode cX7_gesture 94 = .ok (.iload_n 1, 1) := by decide +kernel
theorem dX7_gesture_95 : decode cX7_gesture 95 = .ok (.iaload, 1) := by decide +kernel
theorem dX7_gesture_96 : decode cX7_gesture 96 = .ok (.ireturn, 1) := by decide +kernel
theorem dX7_gesture_97 : decode cX7_gesture 97 = .ok (.ldc 70, 2) := by decide +kernel
theorem dX7_gesture_99 : decode cX7_gesture 99 = .ok (.ireturn, 1) := by decide +kernel
set_option maxRecDepth 20000 in
theorem ggX7_street_X7_isStreet : GoodIn wsX7_street wsX7_isStreet := goodIn_r _ [9, 2, 10, 29, 30, 31, 32, 33, 34, 35, 36, 37, 38, 39, 40, 41, 42, 43, 44, 45, 46, 47, 48, 49, 50] (by decide +kernel) (by decide +kernel)
set_option maxRecDepth 20000 in
theorem gX7_street_X7_isStreet : GoodIn wsX7_street (wsV RX7 138 RX7 yX7_isStreet wsX7_isStreet) := goodIn_app (goodIn_of _ (by decide +kernel)) ggX7_street_X7_isStreet
set_option maxRecDepth 20000 in
theorem ggX7_street_X2_isKnown : GoodIn wsX7_street wsX2_isKnown := goodIn_r _ [15, 16, 38, 39, 40, 41, 42, 43, 44, 45, 46, 47, 48, 49, 50] (by decide +kernel) (by decide +kernel)
set_option maxRecDepth 20000 in
theorem gX7_street_X2_isKnown : GoodIn wsX7_street (wsV RX7 166 RX2 yX2_isKnown wsX2_isKnown) := goodIn_app (goodIn_of _ (by decide +kernel)) ggX7_street_X2_isKnown
set_option maxRecDepth 20000 in
theorem ggX7_street_X2_gesturesSeenIn : GoodIn wsX7_street wsX2_gesturesSeenIn := goodIn_r _ [20, 21, 22, 23, 24, 14, 25, 26, 27, 28, 38, 39, 40, 41, 42, 43, 44, 45, 46, 47, 48, 49, 50] (by decide +kernel) (by decide +kernel)
set_option maxRecDepth 20000 in
theorem gX7_street_X2_gesturesSeenIn : GoodIn wsX7_street (wsV RX7 194 RX2 yX2_gesturesSeenIn wsX2_gesturesSeenIn) := goodIn_app (goodIn_of _ (by decide +kernel)) ggX7_street_X2_gesturesSeenIn
theorem dX7_street_0 : decode cX7_street 0 = .ok (.aload_n 0, 1) := by decide +kernel
theorem dX7_street_1 : decode cX7_street 1 = .ok (.iload_n 1, 1) := by decide +kernel
theorem dX7_street_2 : decode cX7_street 2 = .ok (.invokevirtual 138, 3) := by decide +kernel
theorem dX7_street_5 : decode cX7_street 5 = .ok (.ifCond .ne 6, 3) := by decide +kernel
theorem dX7_street_8 : decode cX7_street 8 = .ok (.ldc 70, 2) := by decide +kernel
theorem dX7_street_10 : decode cX7_street 10 = .ok (.ireturn, 1) := by decide +kernel
theorem dX7_street_11 : decode cX7_street 11 = .ok (.iload_n 2, 1) := by decide +kernel
theorem dX7_street_12 : decode cX7_street 12 = .ok (.tableswitch 78 0 3 #[32, 42, 52, 69], 32) := by decide +kernel
theorem dX7_street_44 : decode cX7_street 44 = .ok (.aload_n 0, 1) := by decide +kernel
theorem dX7_street_45 : decode cX7_street 45 = .ok (.getfield 26, 3) := by decide +kernel
theorem dX7_street_48 : decode cX7_street 48 = .ok (.getfield 160, 3) := by decide +kernel
theorem dX7_street_51 : decode cX7_street 51 = .ok (.iload_n 1, 1) := by decide +kernel
theorem dX7_street_52 : decode cX7_street 52 = .ok (.iaload, 1) := by decide +kernel
theorem dX7_street_53 : decode cX7_street 53 = .ok (.ireturn, 1) := by decide +kernel
theorem dX7_street_54 : decode cX7_street 54 = .ok (.aload_n 0, 1) := by decide +kernel
theorem dX7_street_55 : decode cX7_street 55 = .ok (.getfield 26, 3) := by decide +kernel
theorem dX7_street_58 : decode cX7_street 58 = .ok (.getfield 191, 3) := by decide +kernel
theorem dX7_street_61 : decode cX7_street 61 = .ok (.iload_n 1, 1) := by decide +kernel
theorem dX7_street_62 : decode cX7_street 62 = .ok (.iaload, 1) := by decide +kernel
theorem dX7_street_63 : decode cX7_street 63 = .ok (.ireturn, 1) := by decide +kernel
theorem dX7_street_64 : decode cX7_street 64 = .ok (.aload_n 0, 1) := by decide +kernel
theorem dX7_street_65 : decode cX7_street 65 = .ok (.getfield 26, 3) := by decide +kernel
theorem dX7_street_68 : decode cX7_street 68 = .ok (.iload_n 1, 1) := by decide +kernel
theorem dX7_street_69 : decode cX7_street 69 = .ok (.invokevirtual 166, 3) := by decide +kernel
theorem dX7_street_72 : decode cX7_street 72 = .ok (.ifCond .eq 7, 3) := by decide +kernel
theorem dX7_street_75 : decode cX7_street 75 = .ok (.iconst 1, 1) := by decide +kernel
theorem dX7_street_76 : decode cX7_street 76 = .ok (.goto 4, 3) := by decide +kernel
theorem dX7_street_79 : decode cX7_street 79 = .ok (.iconst 0, 1) := by decide +kernel
theorem dX7_street_80 : decode cX7_street 80 = .ok (.ireturn, 1) := by decide +kernel
theorem dX7_street_81 : decode cX7_street 81 = .ok (.aload_n 0, 1) := by decide +kernel
theorem dX7_street_82 : decode cX7_street 82 = .ok (.getfield 26, 3) := by decide +kernel
theorem dX7_street_85 : decode cX7_street 85 = .ok (.iload_n 1, 1) := by decide +kernel
theorem dX7_street_86 : decode cX7_street 86 = .ok (.invokevirtual 194, 3) := by decide +kernel
theorem dX7_street_89 : decode cX7_street 89 = .ok (.ireturn, 1) := by decide +kernel
theorem dX7_street_90 : decode cX7_street 90 = .ok (.ldc 70, 2) := by decide +kernel
theorem dX7_street_92 : decode cX7_street 92 = .ok (.ireturn, 1) := by decide +kernel
set_option maxRecDepth 20000 in
theorem ggX7_duty_X7_isGesture : GoodIn wsX7_duty wsX7_isGesture := goodIn_r _ [7, 1, 8, 40, 41, 42, 43, 44, 45, 46, 47, 48, 49, 50, 51, 52, 53, 54, 55, 56, 57, 58, 59, 60, 61] (by decide +kernel) (by decide +kernel)
set_option maxRecDepth 20000 in
theorem gX7_duty_X7_isGesture : GoodIn wsX7_duty (wsV RX7 135 RX7 yX7_isGesture wsX7_isGesture) := goodIn_app (goodIn_of _ (by decide +kernel)) ggX7_duty_X7_isGesture
set_option maxRecDepth 20000 in
theorem ggX7_duty_X7_isStreet : GoodIn wsX7_duty wsX7_isStreet := goodIn_r _ [12, 1, 13, 40, 41, 42, 43, 44, 45, 46, 47, 48, 49, 50, 51, 52, 53, 54, 55, 56, 57, 58, 59, 60, 61] (by decide +kernel) (by decide +kernel)
set_option maxRecDepth 20000 in
theorem gX7_duty_X7_isStreet : GoodIn wsX7_duty (wsV RX7 138 RX7 yX7_isStreet wsX7_isStreet) := goodIn_app (goodIn_of _ (by decide +kernel)) ggX7_duty_X7_isStreet
set_option maxRecDepth 20000 in
theorem ggX7_duty_X2_owes : GoodIn wsX7_duty wsX2_owes := goodIn_r _ [18, 19, 20, 21, 22, 23, 17, 24, 25, 26, 27, 28, 29, 30, 31, 32, 33, 34, 35, 36, 37, 38, 39, 49, 50, 51, 52, 53, 54, 55, 56, 57, 58, 59, 60, 61] (by decide +kernel) (by decide +kernel)
set_option maxRecDepth 20000 in
theorem gX7_duty_X2_owes : GoodIn wsX7_duty (wsV RX7 145 RX2 yX2_owes wsX2_owes) := goodIn_app (goodIn_of _ (by decide +kernel)) ggX7_duty_X2_owes
theorem dX7_duty_0 : decode cX7_duty 0 = .ok (.aload_n 0, 1) := by decide +kernel
theorem dX7_duty_1 : decode cX7_duty 1 = .ok (.iload_n 1, 1) := by decide +kernel
theorem dX7_duty_2 : decode cX7_duty 2 = .ok (.invokevirtual 135, 3) := by decide +kernel
theorem dX7_duty_5 : decode cX7_duty 5 = .ok (.ifCond .eq 23, 3) := by decide +kernel
theorem dX7_duty_8 : decode cX7_duty 8 = .ok (.aload_n 0, 1) := by decide +kernel
theorem dX7_duty_9 : decode cX7_duty 9 = .ok (.iload_n 2, 1) := by decide +kernel
theorem dX7_duty_10 : decode cX7_duty 10 = .ok (.invokevirtual 138, 3) := by decide +kernel
theorem dX7_duty_13 : decode cX7_duty 13 = .ok (.ifCond .eq 15, 3) := by decide +kernel
theorem dX7_duty_16 : decode cX7_duty 16 = .ok (.aload_n 0, 1) := by decide +kernel
theorem dX7_duty_17 : decode cX7_duty 17 = .ok (.getfield 26, 3) := by decide +kernel
theorem dX7_duty_20 : decode cX7_duty 20 = .ok (.iload_n 1, 1) := by decide +kernel
theorem dX7_duty_21 : decode cX7_duty 21 = .ok (.iload_n 2, 1) := by decide +kernel
theorem dX7_duty_22 : decode cX7_duty 22 = .ok (.invokevirtual 145, 3) := by decide +kernel
theorem dX7_duty_25 : decode cX7_duty 25 = .ok (.goto 5, 3) := by decide +kernel
theorem dX7_duty_28 : decode cX7_duty 28 = .ok (.ldc 70, 2) := by decide +kernel
theorem dX7_duty_30 : decode cX7_duty 30 = .ok (.ireturn, 1) := by decide +kernel
set_option maxRecDepth 20000 in
theorem ggX7_tell_X7_isMeaning : GoodIn wsX7_tell wsX7_isMeaning := goodIn_r _ [7, 8, 9, 6, 10] (by decide +kernel) (by decide +kernel)
set_option maxRecDepth 20000 in
theorem gX7_tell_X7_isMeaning : GoodIn wsX7_tell (va_wsS RX7 197 yX7_isMeaning wsX7_isMeaning) := goodIn_app (goodIn_of _ (by decide +kernel)) ggX7_tell_X7_isMeaning
set_option maxRecDepth 20000 in
theorem ggX7_tell_X7_isStretch : GoodIn wsX7_tell wsX7_isStretch := goodIn_r _ [14, 15, 16, 17, 6, 18, 3, 19, 85, 86, 87, 88, 89, 90, 91, 92, 93, 94, 95, 96, 97, 98, 99, 100, 101, 102, 103, 104, 105, 106] (by decide +kernel) (by decide +kernel)
set_option maxRecDepth 20000 in
theorem gX7_tell_X7_isStretch : GoodIn wsX7_tell (wsV RX7 200 RX7 yX7_isStretch wsX7_isStretch) := goodIn_app (goodIn_of _ (by decide +kernel)) ggX7_tell_X7_isStretch
set_option maxRecDepth 20000 in
theorem ggX7_tell_X7_isWithin : GoodIn wsX7_tell wsX7_isWithin := goodIn_r _ [10] (by decide +kernel) (by decide +kernel)
set_option maxRecDepth 20000 in
theorem gX7_tell_X7_isWithin : GoodIn wsX7_tell (va_wsS RX7 66 yX7_isWithin wsX7_isWithin) := goodIn_app (goodIn_of _ (by decide +kernel)) ggX7_tell_X7_isWithin
set_option maxRecDepth 20000 in
theorem ggX7_tell_X6_leastDuty : GoodIn wsX7_tell wsX6_leastDuty := goodIn_r _ [24, 25, 26, 27, 28, 29, 30, 23, 31, 32, 33, 34, 35, 36, 37, 38, 39, 40, 41, 42, 43, 44, 45, 46, 47, 48, 49, 50, 51, 52, 53, 54, 55, 56, 57, 58, 59, 60, 61, 62, 63, 64, 65, 66, 67, 68, 69, 70, 71, 72, 73, 74, 75, 76, 107, 94, 95, 96, 97, 98, 99, 100, 101, 102, 103, 104, 105, 106] (by decide +kernel) (by decide +kernel)
set_option maxRecDepth 20000 in
theorem gX7_tell_X6_leastDuty : GoodIn wsX7_tell (wsV RX7 203 RX6 yX6_leastDuty wsX6_leastDuty) := goodIn_app (goodIn_of _ (by decide +kernel)) ggX7_tell_X6_leastDuty
set_option maxRecDepth 20000 in
theorem ggX7_tell_X6_gestureOfCheapest : GoodIn wsX7_tell wsX6_gestureOfCheapest := goodIn_r _ [80, 25, 26, 27, 33, 28, 29, 30, 23, 31, 32, 34, 35, 36, 37, 38, 39, 40, 41, 42, 43, 44, 45, 46, 47, 48, 49, 50, 51, 52, 53, 54, 55, 56, 57, 58, 59, 60, 61, 62, 63, 64, 65, 66, 67, 68, 69, 70, 71, 72, 73, 74, 75, 76, 81, 82, 83, 84, 107, 94, 95, 96, 97, 98, 99, 100, 101, 102, 103, 104, 105, 106] (by decide +kernel) (by decide +kernel)
set_option maxRecDepth 20000 in
theorem gX7_tell_X6_gestureOfCheapest : GoodIn wsX7_tell (wsV RX7 207 RX6 yX6_gestureOfCheapest wsX6_gestureOfCheapest) := goodIn_app (goodIn_of _ (by decide +kernel)) ggX7_tell_X6_gestureOfCheapest
theorem dX7_tell_0 : decode cX7_tell 0 = .ok (.iload_n 1, 1) := by decide +kernel
theorem dX7_tell_1 : decode cX7_tell 1 = .ok (.invokestatic 197, 3) := by decide +kernel
theorem dX7_tell_4 : decode cX7_tell 4 = .ok (.ifCond .eq 34, 3) := by decide +kernel
theorem dX7_tell_7 : decode cX7_tell 7 = .ok (.aload_n 0, 1) := by decide +kernel
theorem dX7_tell_8 : decode cX7_tell 8 = .ok (.iload_n 2, 1) := by decide +kernel
theorem dX7_tell_9 : decode cX7_tell 9 = .ok (.iload_n 3, 1) := by decide +kernel
theorem dX7_tell_10 : decode cX7_tell 10 = .ok (.invokevirtual 200, 3) := by decide +kernel
theorem dX7_tell_13 : decode cX7_tell 13 = .ok (.ifCond .eq 25, 3) := by decide +kernel
theorem dX7_tell_16 : decode cX7_tell 16 = .ok (.iload 4, 2) := by decide +kernel
theorem dX7_tell_18 : decode cX7_tell 18 = .ok (.iconst 0, 1) := by decide +kernel
theorem dX7_tell_19 : decode cX7_tell 19 = .ok (.bipush 99, 2) := by decide +kernel
theorem dX7_tell_21 : decode cX7_tell 21 = .ok (.invokestatic 66, 3) := by decide +kernel
theorem dX7_tell_24 : decode cX7_tell 24 = .ok (.ifCond .eq 14, 3) := by decide +kernel
theorem dX7_tell_27 : decode cX7_tell 27 = .ok (.iload 5, 2) := by decide +kernel
theorem dX7_tell_29 : decode cX7_tell 29 = .ok (.iconst (-1), 1) := by decide +kernel
theorem dX7_tell_30 : decode cX7_tell 30 = .ok (.bipush 6, 2) := by decide +kernel
theorem dX7_tell_32 : decode cX7_tell 32 = .ok (.invokestatic 66, 3) := by decide +kernel
theorem dX7_tell_35 : decode cX7_tell 35 = .ok (.ifCond .ne 6, 3) := by decide +kernel
theorem dX7_tell_38 : decode cX7_tell 38 = .ok (.ldc 70, 2) := by decide +kernel
theorem dX7_tell_40 : decode cX7_tell 40 = .ok (.ireturn, 1) := by decide +kernel
theorem dX7_tell_41 : decode cX7_tell 41 = .ok (.iload 5, 2) := by decide +kernel
theorem dX7_tell_43 : decode cX7_tell 43 = .ok (.ifCond .ge 22, 3) := by decide +kernel
theorem dX7_tell_46 : decode cX7_tell 46 = .ok (.aload_n 0, 1) := by decide +kernel
theorem dX7_tell_47 : decode cX7_tell 47 = .ok (.getfield 47, 3) := by decide +kernel
theorem dX7_tell_50 : decode cX7_tell 50 = .ok (.aload_n 0, 1) := by decide +kernel
theorem dX7_tell_51 : decode cX7_tell 51 = .ok (.getfield 26, 3) := by decide +kernel
theorem dX7_tell_54 : decode cX7_tell 54 = .ok (.iload_n 1, 1) := by decide +kernel
theorem dX7_tell_55 : decode cX7_tell 55 = .ok (.iload_n 2, 1) := by decide +kernel
theorem dX7_tell_56 : decode cX7_tell 56 = .ok (.iload_n 3, 1) := by decide +kernel
theorem dX7_tell_57 : decode cX7_tell 57 = .ok (.iload 4, 2) := by decide +kernel
theorem dX7_tell_59 : decode cX7_tell 59 = .ok (.invokevirtual 203, 3) := by decide +kernel
theorem dX7_tell_62 : decode cX7_tell 62 = .ok (.goto 21, 3) := by decide +kernel
theorem dX7_tell_65 : decode cX7_tell 65 = .ok (.aload_n 0, 1) := by decide +kernel
theorem dX7_tell_66 : decode cX7_tell 66 = .ok (.getfield 47, 3) := by decide +kernel
theorem dX7_tell_69 : decode cX7_tell 69 = .ok (.aload_n 0, 1) := by decide +kernel
theorem dX7_tell_70 : decode cX7_tell 70 = .ok (.getfield 26, 3) := by decide +kernel
theorem dX7_tell_73 : decode cX7_tell 73 = .ok (.iload_n 1, 1) := by decide +kernel
theorem dX7_tell_74 : decode cX7_tell 74 = .ok (.iload_n 2, 1) := by decide +kernel
theorem dX7_tell_75 : decode cX7_tell 75 = .ok (.iload_n 3, 1) := by decide +kernel
theorem dX7_tell_76 : decode cX7_tell 76 = .ok (.iload 4, 2) := by decide +kernel
theorem dX7_tell_78 : decode cX7_tell 78 = .ok (.iload 5, 2) := by decide +kernel
theorem dX7_tell_80 : decode cX7_tell 80 = .ok (.invokevirtual 207, 3) := by decide +kernel
theorem dX7_tell_83 : decode cX7_tell 83 = .ok (.ireturn, 1) := by decide +kernel
set_option maxRecDepth 20000 in
theorem ggX7_shut_X7_isMeaning : GoodIn wsX7_shut wsX7_isMeaning := goodIn_r _ [8, 9, 10, 7, 11] (by decide +kernel) (by decide +kernel)
set_option maxRecDepth 20000 in
theorem gX7_shut_X7_isMeaning : GoodIn wsX7_shut (va_wsS RX7 197 yX7_isMeaning wsX7_isMeaning) := goodIn_app (goodIn_of _ (by decide +kernel)) ggX7_shut_X7_isMeaning
set_option maxRecDepth 20000 in
theorem ggX7_shut_X2_streetsWithout : GoodIn wsX7_shut wsX2_streetsWithout := goodIn_r _ [16, 17, 18, 19, 20, 21, 15, 22, 23, 24, 25, 26, 27, 28, 29, 30, 31, 32, 33, 34, 35, 36, 46, 47, 48, 49, 50, 51, 52, 53, 54, 55, 56, 57, 58] (by decide +kernel) (by decide +kernel)
set_option maxRecDepth 20000 in
theorem gX7_shut_X2_streetsWithout : GoodIn wsX7_shut (wsV RX7 215 RX2 yX2_streetsWithout wsX2_streetsWithout) := goodIn_app (goodIn_of _ (by decide +kernel)) ggX7_shut_X2_streetsWithout
theorem dX7_shut_0 : decode cX7_shut 0 = .ok (.aload_n 0, 1) := by decide +kernel
theorem dX7_shut_1 : decode cX7_shut 1 = .ok (.getfield 26, 3) := by decide +kernel
theorem dX7_shut_4 : decode cX7_shut 4 = .ok (.getfield 211, 3) := by decide +kernel
theorem dX7_shut_7 : decode cX7_shut 7 = .ok (.ifCond .ne 6, 3) := by decide +kernel
theorem dX7_shut_10 : decode cX7_shut 10 = .ok (.ldc 144, 2) := by decide +kernel
theorem dX7_shut_12 : decode cX7_shut 12 = .ok (.ireturn, 1) := by decide +kernel
theorem dX7_shut_13 : decode cX7_shut 13 = .ok (.iload_n 1, 1) := by decide +kernel
theorem dX7_shut_14 : decode cX7_shut 14 = .ok (.invokestatic 197, 3) := by decide +kernel
theorem dX7_shut_17 : decode cX7_shut 17 = .ok (.ifCond .eq 14, 3) := by decide +kernel
theorem dX7_shut_20 : decode cX7_shut 20 = .ok (.aload_n 0, 1) := by decide +kernel
theorem dX7_shut_21 : decode cX7_shut 21 = .ok (.getfield 26, 3) := by decide +kernel
theorem dX7_shut_24 : decode cX7_shut 24 = .ok (.iload_n 1, 1) := by decide +kernel
theorem dX7_shut_25 : decode cX7_shut 25 = .ok (.invokevirtual 215, 3) := by decide +kernel
theorem dX7_shut_28 : decode cX7_shut 28 = .ok (.goto 5, 3) := by decide +kernel
theorem dX7_shut_31 : decode cX7_shut 31 = .ok (.ldc 70, 2) := by decide +kernel
theorem dX7_shut_33 : decode cX7_shut 33 = .ok (.ireturn, 1) := by decide +kernel
set_option maxRecDepth 20000 in
theorem ggX7_quick_X7_isMeaning : GoodIn wsX7_quick wsX7_isMeaning := goodIn_r _ [7, 8, 9, 6, 10] (by decide +kernel) (by decide +kernel)
set_option maxRecDepth 20000 in
theorem gX7_quick_X7_isMeaning : GoodIn wsX7_quick (va_wsS RX7 197 yX7_isMeaning wsX7_isMeaning) := goodIn_app (goodIn_of _ (by decide +kernel)) ggX7_quick_X7_isMeaning
set_option maxRecDepth 20000 in
theorem ggX7_quick_X7_isStretch : GoodIn wsX7_quick wsX7_isStretch := goodIn_r _ [14, 15, 16, 17, 6, 18, 2, 19, 40, 41, 42, 43, 44, 45, 46, 47, 48, 49, 50, 51, 52, 53, 54, 55, 56, 57, 58, 59, 60, 61] (by decide +kernel) (by decide +kernel)
set_option maxRecDepth 20000 in
theorem gX7_quick_X7_isStretch : GoodIn wsX7_quick (wsV RX7 200 RX7 yX7_isStretch wsX7_isStretch) := goodIn_app (goodIn_of _ (by decide +kernel)) ggX7_quick_X7_isStretch
set_option maxRecDepth 20000 in
theorem ggX7_quick_X2_leastTime : GoodIn wsX7_quick wsX2_leastTime := goodIn_r _ [24, 25, 26, 27, 28, 29, 30, 23, 31, 32, 33, 34, 35, 36, 37, 38, 39, 49, 50, 51, 52, 53, 54, 55, 56, 57, 58, 59, 60, 61] (by decide +kernel) (by decide +kernel)
set_option maxRecDepth 20000 in
theorem gX7_quick_X2_leastTime : GoodIn wsX7_quick (wsV RX7 218 RX2 yX2_leastTime wsX2_leastTime) := goodIn_app (goodIn_of _ (by decide +kernel)) ggX7_quick_X2_leastTime
theorem dX7_quick_0 : decode cX7_quick 0 = .ok (.iload_n 1, 1) := by decide +kernel
theorem dX7_quick_1 : decode cX7_quick 1 = .ok (.invokestatic 197, 3) := by decide +kernel
theorem dX7_quick_4 : decode cX7_quick 4 = .ok (.ifCond .eq 12, 3) := by decide +kernel
theorem dX7_quick_7 : decode cX7_quick 7 = .ok (.aload_n 0, 1) := by decide +kernel
theorem dX7_quick_8 : decode cX7_quick 8 = .ok (.iload_n 2, 1) := by decide +kernel
theorem dX7_quick_9 : decode cX7_quick 9 = .ok (.iload_n 3, 1) := by decide +kernel
theorem dX7_quick_10 : decode cX7_quick 10 = .ok (.invokevirtual 200, 3) := by decide +kernel
theorem dX7_quick_13 : decode cX7_quick 13 = .ok (.ifCond .ne 6, 3) := by decide +kernel
theorem dX7_quick_16 : decode cX7_quick 16 = .ok (.ldc 70, 2) := by decide +kernel
theorem dX7_quick_18 : decode cX7_quick 18 = .ok (.ireturn, 1) := by decide +kernel
theorem dX7_quick_19 : decode cX7_quick 19 = .ok (.iconst 0, 1) := by decide +kernel
theorem dX7_quick_20 : decode cX7_quick 20 = .ok (.istore 4, 2) := by decide +kernel
theorem dX7_quick_22 : decode cX7_quick 22 = .ok (.iload_n 2, 1) := by decide +kernel
theorem dX7_quick_23 : decode cX7_quick 23 = .ok (.istore 5, 2) := by decide +kernel
theorem dX7_quick_25 : decode cX7_quick 25 = .ok (.iload 5, 2) := by decide +kernel
theorem dX7_quick_27 : decode cX7_quick 27 = .ok (.iload_n 3, 1) := by decide +kernel
theorem dX7_quick_28 : decode cX7_quick 28 = .ok (.if_icmp .gt 38, 3) := by decide +kernel
theorem dX7_quick_31 : decode cX7_quick 31 = .ok (.aload_n 0, 1) := by decide +kernel
theorem dX7_quick_32 : decode cX7_quick 32 = .ok (.getfield 26, 3) := by decide +kernel
theorem dX7_quick_35 : decode cX7_quick 35 = .ok (.iload_n 1, 1) := by decide +kernel
theorem dX7_quick_36 : decode cX7_quick 36 = .ok (.iload 5, 2) := by decide +kernel
theorem dX7_quick_38 : decode cX7_quick 38 = .ok (.invokevirtual 218, 3) := by decide +kernel
theorem dX7_quick_41 : decode cX7_quick 41 = .ok (.istore 6, 2) := by decide +kernel
theorem dX7_quick_43 : decode cX7_quick 43 = .ok (.iload 6, 2) := by decide +kernel
theorem dX7_quick_45 : decode cX7_quick 45 = .ok (.ldc 221, 2) := by decide +kernel
theorem dX7_quick_47 : decode cX7_quick 47 = .ok (.if_icmp .ne 6, 3) := by decide +kernel
theorem dX7_quick_50 : decode cX7_quick 50 = .ok (.ldc 221, 2) := by decide +kernel
theorem dX7_quick_52 : decode cX7_quick 52 = .ok (.ireturn, 1) := by decide +kernel
theorem dX7_quick_53 : decode cX7_quick 53 = .ok (.iload 4, 2) := by decide +kernel
theorem dX7_quick_55 : decode cX7_quick 55 = .ok (.iload 6, 2) := by decide +kernel
theorem dX7_quick_57 : decode cX7_quick 57 = .ok (.iadd, 1) := by decide +kernel
theorem dX7_quick_58 : decode cX7_quick 58 = .ok (.istore 4, 2) := by decide +kernel
theorem dX7_quick_60 : decode cX7_quick 60 = .ok (.iinc 5 1, 3) := by decide +kernel
theorem dX7_quick_63 : decode cX7_quick 63 = .ok (.goto (-38), 3) := by decide +kernel
theorem dX7_quick_66 : decode cX7_quick 66 = .ok (.iload 4, 2) := by decide +kernel
theorem dX7_quick_68 : decode cX7_quick 68 = .ok (.ireturn, 1) := by decide +kernel
set_option maxRecDepth 20000 in
theorem ggX7_thread_X7_refusalOfThread : GoodIn wsX7_thread wsX7_refusalOfThread := goodIn_r _ [11, 12, 13, 14, 15, 16, 17, 18, 19, 10, 20, 21, 22, 23, 24, 25, 26, 27, 28, 29, 30, 31, 32, 33, 34, 35, 36, 37, 38, 39, 40, 41, 42, 43, 44, 45, 46, 47, 48, 1, 49, 89, 90, 91, 92, 93, 94, 95, 96, 97, 111, 112, 113, 98, 99, 100, 101, 102, 103, 104, 105, 106, 107, 108, 109, 110] (by decide +kernel) (by decide +kernel)
set_option maxRecDepth 20000 in
theorem gX7_thread_X7_refusalOfThread : GoodIn wsX7_thread (wsV RX7 222 RX7 yX7_refusalOfThread wsX7_refusalOfThread) := goodIn_app (goodIn_of _ (by decide +kernel)) ggX7_thread_X7_refusalOfThread
set_option maxRecDepth 20000 in
theorem ggX7_thread_X7_owesAlong : GoodIn wsX7_thread wsX7_owesAlong := goodIn_r _ [53, 13, 1, 40, 41, 42, 16, 43, 44, 45, 46, 47, 10, 48, 49, 54, 55, 56, 57, 58, 59, 60, 61, 62, 63, 64, 65, 66, 67, 68, 69, 70, 71, 72, 73, 89, 90, 91, 92, 93, 94, 95, 96, 97, 111, 112, 113, 98, 99, 100, 101, 102, 103, 104, 105, 106, 107, 108, 109, 110] (by decide +kernel) (by decide +kernel)
set_option maxRecDepth 20000 in
theorem gX7_thread_X7_owesAlong : GoodIn wsX7_thread (wsV RX7 228 RX7 yX7_owesAlong wsX7_owesAlong) := goodIn_app (goodIn_of _ (by decide +kernel)) ggX7_thread_X7_owesAlong
set_option maxRecDepth 20000 in
theorem ggX7_thread_X7_isSeenAlong : GoodIn wsX7_thread wsX7_isSeenAlong := goodIn_r _ [77, 13, 1, 40, 41, 42, 16, 43, 44, 45, 46, 47, 10, 48, 49, 78, 79, 80, 57, 81, 82, 83, 84, 89, 90, 91, 92, 93, 94, 95, 96, 97, 111, 112, 113, 98, 99, 100, 101, 102, 103, 104, 105, 106, 107, 108, 109, 110] (by decide +kernel) (by decide +kernel)
set_option maxRecDepth 20000 in
theorem gX7_thread_X7_isSeenAlong : GoodIn wsX7_thread (wsV RX7 232 RX7 yX7_isSeenAlong wsX7_isSeenAlong) := goodIn_app (goodIn_of _ (by decide +kernel)) ggX7_thread_X7_isSeenAlong
set_option maxRecDepth 20000 in
theorem ggX7_thread_X7_foundNothing : GoodIn wsX7_thread wsX7_foundNothing := goodIn_r _ [88, 38, 89, 90, 91, 92, 93, 94, 95, 96, 97] (by decide +kernel) (by decide +kernel)
set_option maxRecDepth 20000 in
theorem gX7_thread_X7_foundNothing : GoodIn wsX7_thread (wsV RX7 79 RX7 yX7_foundNothing wsX7_foundNothing) := goodIn_app (goodIn_of _ (by decide +kernel)) ggX7_thread_X7_foundNothing
theorem dX7_thread_0 : decode cX7_thread 0 = .ok (.aload_n 0, 1) := by decide +kernel
theorem dX7_thread_1 : decode cX7_thread 1 = .ok (.getfield 26, 3) := by decide +kernel
theorem dX7_thread_4 : decode cX7_thread 4 = .ok (.getfield 211, 3) := by decide +kernel
theorem dX7_thread_7 : decode cX7_thread 7 = .ok (.ifCond .ne 6, 3) := by decide +kernel
theorem dX7_thread_10 : decode cX7_thread 10 = .ok (.ldc 144, 2) := by decide +kernel
theorem dX7_thread_12 : decode cX7_thread 12 = .ok (.ireturn, 1) := by decide +kernel
theorem dX7_thread_13 : decode cX7_thread 13 = .ok (.aload_n 0, 1) := by decide +kernel
theorem dX7_thread_14 : decode cX7_thread 14 = .ok (.iload_n 1, 1) := by decide +kernel
theorem dX7_thread_15 : decode cX7_thread 15 = .ok (.iload_n 2, 1) := by decide +kernel
theorem dX7_thread_16 : decode cX7_thread 16 = .ok (.iload_n 3, 1) := by decide +kernel
theorem dX7_thread_17 : decode cX7_thread 17 = .ok (.invokevirtual 222, 3) := by decide +kernel
theorem dX7_thread_20 : decode cX7_thread 20 = .ok (.istore 4, 2) := by decide +kernel
theorem dX7_thread_22 : decode cX7_thread 22 = .ok (.iload 4, 2) := by decide +kernel
theorem dX7_thread_24 : decode cX7_thread 24 = .ok (.ifCond .eq 6, 3) := by decide +kernel
theorem dX7_thread_27 : decode cX7_thread 27 = .ok (.iload 4, 2) := by decide +kernel
theorem dX7_thread_29 : decode cX7_thread 29 = .ok (.ireturn, 1) := by decide +kernel
theorem dX7_thread_30 : decode cX7_thread 30 = .ok (.iconst 0, 1) := by decide +kernel
theorem dX7_thread_31 : decode cX7_thread 31 = .ok (.istore 5, 2) := by decide +kernel
theorem dX7_thread_33 : decode cX7_thread 33 = .ok (.iconst 0, 1) := by decide +kernel
theorem dX7_thread_34 : decode cX7_thread 34 = .ok (.istore 6, 2) := by decide +kernel
theorem dX7_thread_36 : decode cX7_thread 36 = .ok (.iload 6, 2) := by decide +kernel
theorem dX7_thread_38 : decode cX7_thread 38 = .ok (.aload_n 0, 1) := by decide +kernel
theorem dX7_thread_39 : decode cX7_thread 39 = .ok (.getfield 26, 3) := by decide +kernel
theorem dX7_thread_42 : decode cX7_thread 42 = .ok (.getfield 129, 3) := by decide +kernel
theorem dX7_thread_45 : decode cX7_thread 45 = .ok (.if_icmp .ge 64, 3) := by decide +kernel
theorem dX7_thread_48 : decode cX7_thread 48 = .ok (.aload_n 0, 1) := by decide +kernel
theorem dX7_thread_49 : decode cX7_thread 49 = .ok (.aload_n 0, 1) := by decide +kernel
theorem dX7_thread_50 : decode cX7_thread 50 = .ok (.getfield 26, 3) := by decide +kernel
theorem dX7_thread_53 : decode cX7_thread 53 = .ok (.getfield 225, 3) := by decide +kernel
theorem dX7_thread_56 : decode cX7_thread 56 = .ok (.iload 6, 2) := by decide +kernel
theorem dX7_thread_58 : decode cX7_thread 58 = .ok (.iaload, 1) := by decide +kernel
theorem dX7_thread_59 : decode cX7_thread 59 = .ok (.aload_n 0, 1) := by decide +kernel
theorem dX7_thread_60 : decode cX7_thread 60 = .ok (.getfield 26, 3) := by decide +kernel
theorem dX7_thread_63 : decode cX7_thread 63 = .ok (.getfield 163, 3) := by decide +kernel
theorem dX7_thread_66 : decode cX7_thread 66 = .ok (.iload 6, 2) := by decide +kernel
theorem dX7_thread_68 : decode cX7_thread 68 = .ok (.iaload, 1) := by decide +kernel
theorem dX7_thread_69 : decode cX7_thread 69 = .ok (.iload_n 1, 1) := by decide +kernel
theorem dX7_thread_70 : decode cX7_thread 70 = .ok (.iload_n 2, 1) := by decide +kernel
theorem dX7_thread_71 : decode cX7_thread 71 = .ok (.iload_n 3, 1) := by decide +kernel
theorem dX7_thread_72 : decode cX7_thread 72 = .ok (.invokevirtual 228, 3) := by decide +kernel
theorem dX7_thread_75 : decode cX7_thread 75 = .ok (.istore 7, 2) := by decide +kernel
theorem dX7_thread_77 : decode cX7_thread 77 = .ok (.iload 7, 2) := by decide +kernel
theorem dX7_thread_79 : decode cX7_thread 79 = .ok (.ifCond .eq 24, 3) := by decide +kernel
theorem dX7_thread_82 : decode cX7_thread 82 = .ok (.aload_n 0, 1) := by decide +kernel
theorem dX7_thread_83 : decode cX7_thread 83 = .ok (.iload 6, 2) := by decide +kernel
theorem dX7_thread_85 : decode cX7_thread 85 = .ok (.iload_n 1, 1) := by decide +kernel
theorem dX7_thread_86 : decode cX7_thread 86 = .ok (.iload_n 2, 1) := by decide +kernel
theorem dX7_thread_87 : decode cX7_thread 87 = .ok (.iload_n 3, 1) := by decide +kernel
theorem dX7_thread_88 : decode cX7_thread 88 = .ok (.invokevirtual 232, 3) := by decide +kernel
theorem dX7_thread_91 : decode cX7_thread 91 = .ok (.ifCond .eq 12, 3) := by decide +kernel
theorem dX7_thread_94 : decode cX7_thread 94 = .ok (.iload 5, 2) := by decide +kernel
theorem dX7_thread_96 : decode cX7_thread 96 = .ok (.iconst 1, 1) := by decide +kernel
theorem dX7_thread_97 : decode cX7_thread 97 = .ok (.iload 6, 2) := by decide +kernel
theorem dX7_thread_99 : decode cX7_thread 99 = .ok (.ishl, 1) := by decide +kernel
theorem dX7_thread_100 : decode cX7_thread 100 = .ok (.ior, 1) := by decide +kernel
theorem dX7_thread_101 : decode cX7_thread 101 = .ok (.istore 5, 2) := by decide +kernel
theorem dX7_thread_103 : decode cX7_thread 103 = .ok (.iinc 6 1, 3) := by decide +kernel
theorem dX7_thread_106 : decode cX7_thread 106 = .ok (.goto (-70), 3) := by decide +kernel
theorem dX7_thread_109 : decode cX7_thread 109 = .ok (.aload_n 0, 1) := by decide +kernel
theorem dX7_thread_110 : decode cX7_thread 110 = .ok (.iload 5, 2) := by decide +kernel
theorem dX7_thread_112 : decode cX7_thread 112 = .ok (.invokevirtual 79, 3) := by decide +kernel
theorem dX7_thread_115 : decode cX7_thread 115 = .ok (.ireturn, 1) := by decide +kernel
set_option maxRecDepth 20000 in
theorem ggX7_inches_X7_isGesture : GoodIn wsX7_inches wsX7_isGesture := goodIn_r _ [8, 2, 9, 79, 80, 81, 82, 83, 84, 85, 86, 87, 88, 89, 90, 91, 92, 93, 94, 95, 96, 97, 98, 99, 100] (by decide +kernel) (by decide +kernel)
set_option maxRecDepth 20000 in
theorem gX7_inches_X7_isGesture : GoodIn wsX7_inches (wsV RX7 135 RX7 yX7_isGesture wsX7_isGesture) := goodIn_app (goodIn_of _ (by decide +kernel)) ggX7_inches_X7_isGesture
set_option maxRecDepth 20000 in
theorem ggX7_inches_X7_refusalOfThread : GoodIn wsX7_inches wsX7_refusalOfThread := goodIn_r _ [13, 1, 14, 15, 16, 17, 18, 19, 20, 7, 21, 22, 23, 24, 25, 26, 27, 28, 29, 30, 31, 32, 33, 34, 35, 36, 37, 38, 39, 40, 41, 42, 43, 44, 45, 46, 47, 48, 49, 2, 50, 79, 80, 81, 82, 83, 84, 85, 86, 87, 101, 102, 103, 88, 89, 90, 91, 92, 93, 94, 95, 96, 97, 98, 99, 100] (by decide +kernel) (by decide +kernel)
set_option maxRecDepth 20000 in
theorem gX7_inches_X7_refusalOfThread : GoodIn wsX7_inches (wsV RX7 222 RX7 yX7_refusalOfThread wsX7_refusalOfThread) := goodIn_app (goodIn_of _ (by decide +kernel)) ggX7_inches_X7_refusalOfThread
set_option maxRecDepth 20000 in
theorem ggX7_inches_X7_owesAlong : GoodIn wsX7_inches wsX7_owesAlong := goodIn_r _ [54, 14, 2, 41, 42, 43, 17, 44, 45, 46, 47, 48, 7, 49, 50, 55, 56, 57, 58, 59, 60, 61, 62, 63, 64, 65, 66, 67, 68, 69, 70, 71, 72, 73, 74, 79, 80, 81, 82, 83, 84, 85, 86, 87, 101, 102, 103, 88, 89, 90, 91, 92, 93, 94, 95, 96, 97, 98, 99, 100] (by decide +kernel) (by decide +kernel)
set_option maxRecDepth 20000 in
theorem gX7_inches_X7_owesAlong : GoodIn wsX7_inches (wsV RX7 228 RX7 yX7_owesAlong wsX7_owesAlong) := goodIn_app (goodIn_of _ (by decide +kernel)) ggX7_inches_X7_owesAlong
set_option maxRecDepth 20000 in
theorem ggX7_inches_X7_foundNothing : GoodIn wsX7_inches wsX7_foundNothing := goodIn_r _ [78, 39, 79, 80, 81, 82, 83, 84, 85, 86, 87] (by decide +kernel) (by decide +kernel)
set_option maxRecDepth 20000 in
theorem gX7_inches_X7_foundNothing : GoodIn wsX7_inches (wsV RX7 79 RX7 yX7_foundNothing wsX7_foundNothing) := goodIn_app (goodIn_of _ (by decide +kernel)) ggX7_inches_X7_foundNothing
theorem dX7_inches_0 : decode cX7_inches 0 = .ok (.aload_n 0, 1) := by decide +kernel
theorem dX7_inches_1 : decode cX7_inches 1 = .ok (.iload_n 1, 1) := by decide +kernel
theorem dX7_inches_2 : decode cX7_inches 2 = .ok (.invokevirtual 135, 3) := by decide +kernel
theorem dX7_inches_5 : decode cX7_inches 5 = .ok (.ifCond .eq 14, 3) := by decide +kernel
theorem dX7_inches_8 : decode cX7_inches 8 = .ok (.aload_n 0, 1) := by decide +kernel
theorem dX7_inches_9 : decode cX7_inches 9 = .ok (.iload_n 2, 1) := by decide +kernel
theorem dX7_inches_10 : decode cX7_inches 10 = .ok (.iload_n 3, 1) := by decide +kernel
theorem dX7_inches_11 : decode cX7_inches 11 = .ok (.iload 4, 2) := by decide +kernel
theorem dX7_inches_13 : decode cX7_inches 13 = .ok (.invokevirtual 222, 3) := by decide +kernel
theorem dX7_inches_16 : decode cX7_inches 16 = .ok (.goto 5, 3) := by decide +kernel
theorem dX7_inches_19 : decode cX7_inches 19 = .ok (.ldc 70, 2) := by decide +kernel
theorem dX7_inches_21 : decode cX7_inches 21 = .ok (.istore 5, 2) := by decide +kernel
theorem dX7_inches_23 : decode cX7_inches 23 = .ok (.iload 5, 2) := by decide +kernel
theorem dX7_inches_25 : decode cX7_inches 25 = .ok (.ifCond .eq 6, 3) := by decide +kernel
theorem dX7_inches_28 : decode cX7_inches 28 = .ok (.iload 5, 2) := by decide +kernel
theorem dX7_inches_30 : decode cX7_inches 30 = .ok (.ireturn, 1) := by decide +kernel
theorem dX7_inches_31 : decode cX7_inches 31 = .ok (.iconst 0, 1) := by decide +kernel
theorem dX7_inches_32 : decode cX7_inches 32 = .ok (.istore 6, 2) := by decide +kernel
theorem dX7_inches_34 : decode cX7_inches 34 = .ok (.iconst 1, 1) := by decide +kernel
theorem dX7_inches_35 : decode cX7_inches 35 = .ok (.istore 7, 2) := by decide +kernel
theorem dX7_inches_37 : decode cX7_inches 37 = .ok (.iload 7, 2) := by decide +kernel
theorem dX7_inches_39 : decode cX7_inches 39 = .ok (.bipush 30, 2) := by decide +kernel
theorem dX7_inches_41 : decode cX7_inches 41 = .ok (.if_icmp .gt 42, 3) := by decide +kernel
theorem dX7_inches_44 : decode cX7_inches 44 = .ok (.aload_n 0, 1) := by decide +kernel
theorem dX7_inches_45 : decode cX7_inches 45 = .ok (.aload_n 0, 1) := by decide +kernel
theorem dX7_inches_46 : decode cX7_inches 46 = .ok (.getfield 26, 3) := by decide +kernel
theorem dX7_inches_49 : decode cX7_inches 49 = .ok (.getfield 225, 3) := by decide +kernel
theorem dX7_inches_52 : decode cX7_inches 52 = .ok (.iload_n 1, 1) := by decide +kernel
theorem dX7_inches_53 : decode cX7_inches 53 = .ok (.iaload, 1) := by decide +kernel
theorem dX7_inches_54 : decode cX7_inches 54 = .ok (.iload 7, 2) := by decide +kernel
theorem dX7_inches_56 : decode cX7_inches 56 = .ok (.iload_n 2, 1) := by decide +kernel
theorem dX7_inches_57 : decode cX7_inches 57 = .ok (.iload_n 3, 1) := by decide +kernel
theorem dX7_inches_58 : decode cX7_inches 58 = .ok (.iload 4, 2) := by decide +kernel
theorem dX7_inches_60 : decode cX7_inches 60 = .ok (.invokevirtual 228, 3) := by decide +kernel
theorem dX7_inches_63 : decode cX7_inches 63 = .ok (.ifCond .eq 14, 3) := by decide +kernel
theorem dX7_inches_66 : decode cX7_inches 66 = .ok (.iload 6, 2) := by decide +kernel
theorem dX7_inches_68 : decode cX7_inches 68 = .ok (.iconst 1, 1) := by decide +kernel
theorem dX7_inches_69 : decode cX7_inches 69 = .ok (.iload 7, 2) := by decide +kernel
theorem dX7_inches_71 : decode cX7_inches 71 = .ok (.iconst 1, 1) := by decide +kernel
theorem dX7_inches_72 : decode cX7_inches 72 = .ok (.isub, 1) := by decide +kernel
theorem dX7_inches_73 : decode cX7_inches 73 = .ok (.ishl, 1) := by decide +kernel
theorem dX7_inches_74 : decode cX7_inches 74 = .ok (.ior, 1) := by decide +kernel
theorem dX7_inches_75 : decode cX7_inches 75 = .ok (.istore 6, 2) := by decide +kernel
theorem dX7_inches_77 : decode cX7_inches 77 = .ok (.iinc 7 1, 3) := by decide +kernel
theorem dX7_inches_80 : decode cX7_inches 80 = .ok (.goto (-43), 3) := by decide +kernel
theorem dX7_inches_83 : decode cX7_inches 83 = .ok (.aload_n 0, 1) := by decide +kernel
theorem dX7_inches_84 : decode cX7_inches 84 = .ok (.iload 6, 2) := by decide +kernel
theorem dX7_inches_86 : decode cX7_inches 86 = .ok (.invokevirtual 79, 3) := by decide +kernel
theorem dX7_inches_89 : decode cX7_inches 89 = .ok (.ireturn, 1) := by decide +kernel
set_option maxRecDepth 20000 in
theorem ggX7_sorts_X7_isGesture : GoodIn wsX7_sorts wsX7_isGesture := goodIn_r _ [8, 2, 9, 79, 80, 81, 82, 83, 84, 85, 86, 87, 88, 89, 90, 91, 92, 93, 94, 95, 96, 97, 98, 99, 100] (by decide +kernel) (by decide +kernel)
set_option maxRecDepth 20000 in
theorem gX7_sorts_X7_isGesture : GoodIn wsX7_sorts (wsV RX7 135 RX7 yX7_isGesture wsX7_isGesture) := goodIn_app (goodIn_of _ (by decide +kernel)) ggX7_sorts_X7_isGesture
set_option maxRecDepth 20000 in
theorem ggX7_sorts_X7_refusalOfThread : GoodIn wsX7_sorts wsX7_refusalOfThread := goodIn_r _ [13, 1, 14, 15, 16, 17, 18, 19, 20, 7, 21, 22, 23, 24, 25, 26, 27, 28, 29, 30, 31, 32, 33, 34, 35, 36, 37, 38, 39, 40, 41, 42, 43, 44, 45, 46, 47, 48, 49, 2, 50, 79, 80, 81, 82, 83, 84, 85, 86, 87, 101, 102, 103, 88, 89, 90, 91, 92, 93, 94, 95, 96, 97, 98, 99, 100] (by decide +kernel) (by decide +kernel)
set_option maxRecDepth 20000 in
theorem gX7_sorts_X7_refusalOfThread : GoodIn wsX7_sorts (wsV RX7 222 RX7 yX7_refusalOfThread wsX7_refusalOfThread) := goodIn_app (goodIn_of _ (by decide +kernel)) ggX7_sorts_X7_refusalOfThread
set_option maxRecDepth 20000 in
theorem ggX7_sorts_X7_owesAlong : GoodIn wsX7_sorts wsX7_owesAlong := goodIn_r _ [54, 14, 2, 41, 42, 43, 17, 44, 45, 46, 47, 48, 7, 49, 50, 55, 56, 57, 58, 59, 60, 61, 62, 63, 64, 65, 66, 67, 68, 69, 70, 71, 72, 73, 74, 79, 80, 81, 82, 83, 84, 85, 86, 87, 101, 102, 103, 88, 89, 90, 91, 92, 93, 94, 95, 96, 97, 98, 99, 100] (by decide +kernel) (by decide +kernel)
set_option maxRecDepth 20000 in
theorem gX7_sorts_X7_owesAlong : GoodIn wsX7_sorts (wsV RX7 228 RX7 yX7_owesAlong wsX7_owesAlong) := goodIn_app (goodIn_of _ (by decide +kernel)) ggX7_sorts_X7_owesAlong
set_option maxRecDepth 20000 in
theorem ggX7_sorts_X7_foundNothing : GoodIn wsX7_sorts wsX7_foundNothing := goodIn_r _ [78, 39, 79, 80, 81, 82, 83, 84, 85, 86, 87] (by decide +kernel) (by decide +kernel)
set_option maxRecDepth 20000 in
theorem gX7_sorts_X7_foundNothing : GoodIn wsX7_sorts (wsV RX7 79 RX7 yX7_foundNothing wsX7_foundNothing) := goodIn_app (goodIn_of _ (by decide +kernel)) ggX7_sorts_X7_foundNothing
theorem dX7_sorts_0 : decode cX7_sorts 0 = .ok (.aload_n 0, 1) := by decide +kernel
theorem dX7_sorts_1 : decode cX7_sorts 1 = .ok (.iload_n 1, 1) := by decide +kernel
theorem dX7_sorts_2 : decode cX7_sorts 2 = .ok (.invokevirtual 135, 3) := by decide +kernel
theorem dX7_sorts_5 : decode cX7_sorts 5 = .ok (.ifCond .eq 14, 3) := by decide +kernel
theorem dX7_sorts_8 : decode cX7_sorts 8 = .ok (.aload_n 0, 1) := by decide +kernel
theorem dX7_sorts_9 : decode cX7_sorts 9 = .ok (.iload_n 2, 1) := by decide +kernel
theorem dX7_sorts_10 : decode cX7_sorts 10 = .ok (.iload_n 3, 1) := by decide +kernel
theorem dX7_sorts_11 : decode cX7_sorts 11 = .ok (.iload 4, 2) := by decide +kernel
theorem dX7_sorts_13 : decode cX7_sorts 13 = .ok (.invokevirtual 222, 3) := by decide +kernel
theorem dX7_sorts_16 : decode cX7_sorts 16 = .ok (.goto 5, 3) := by decide +kernel
theorem dX7_sorts_19 : decode cX7_sorts 19 = .ok (.ldc 70, 2) := by decide +kernel
theorem dX7_sorts_21 : decode cX7_sorts 21 = .ok (.istore 5, 2) := by decide +kernel
theorem dX7_sorts_23 : decode cX7_sorts 23 = .ok (.iload 5, 2) := by decide +kernel
theorem dX7_sorts_25 : decode cX7_sorts 25 = .ok (.ifCond .eq 6, 3) := by decide +kernel
theorem dX7_sorts_28 : decode cX7_sorts 28 = .ok (.iload 5, 2) := by decide +kernel
theorem dX7_sorts_30 : decode cX7_sorts 30 = .ok (.ireturn, 1) := by decide +kernel
theorem dX7_sorts_31 : decode cX7_sorts 31 = .ok (.iconst 0, 1) := by decide +kernel
theorem dX7_sorts_32 : decode cX7_sorts 32 = .ok (.istore 6, 2) := by decide +kernel
theorem dX7_sorts_34 : decode cX7_sorts 34 = .ok (.iconst 1, 1) := by decide +kernel
theorem dX7_sorts_35 : decode cX7_sorts 35 = .ok (.istore 7, 2) := by decide +kernel
theorem dX7_sorts_37 : decode cX7_sorts 37 = .ok (.iload 7, 2) := by decide +kernel
theorem dX7_sorts_39 : decode cX7_sorts 39 = .ok (.iconst 5, 1) := by decide +kernel
theorem dX7_sorts_40 : decode cX7_sorts 40 = .ok (.if_icmp .gt 40, 3) := by decide +kernel
theorem dX7_sorts_43 : decode cX7_sorts 43 = .ok (.aload_n 0, 1) := by decide +kernel
theorem dX7_sorts_44 : decode cX7_sorts 44 = .ok (.iload 7, 2) := by decide +kernel
theorem dX7_sorts_46 : decode cX7_sorts 46 = .ok (.aload_n 0, 1) := by decide +kernel
theorem dX7_sorts_47 : decode cX7_sorts 47 = .ok (.getfield 26, 3) := by decide +kernel
theorem dX7_sorts_50 : decode cX7_sorts 50 = .ok (.getfield 163, 3) := by decide +kernel
theorem dX7_sorts_53 : decode cX7_sorts 53 = .ok (.iload_n 1, 1) := by decide +kernel
theorem dX7_sorts_54 : decode cX7_sorts 54 = .ok (.iaload, 1) := by decide +kernel
theorem dX7_sorts_55 : decode cX7_sorts 55 = .ok (.iload_n 2, 1) := by decide +kernel
theorem dX7_sorts_56 : decode cX7_sorts 56 = .ok (.iload_n 3, 1) := by decide +kernel
theorem dX7_sorts_57 : decode cX7_sorts 57 = .ok (.iload 4, 2) := by decide +kernel
theorem dX7_sorts_59 : decode cX7_sorts 59 = .ok (.invokevirtual 228, 3) := by decide +kernel
theorem dX7_sorts_62 : decode cX7_sorts 62 = .ok (.ifCond .eq 12, 3) := by decide +kernel
theorem dX7_sorts_65 : decode cX7_sorts 65 = .ok (.iload 6, 2) := by decide +kernel
theorem dX7_sorts_67 : decode cX7_sorts 67 = .ok (.iconst 1, 1) := by decide +kernel
theorem dX7_sorts_68 : decode cX7_sorts 68 = .ok (.iload 7, 2) := by decide +kernel
theorem dX7_sorts_70 : decode cX7_sorts 70 = .ok (.ishl, 1) := by decide +kernel
theorem dX7_sorts_71 : decode cX7_sorts 71 = .ok (.ior, 1) := by decide +kernel
theorem dX7_sorts_72 : decode cX7_sorts 72 = .ok (.istore 6, 2) := by decide +kernel
theorem dX7_sorts_74 : decode cX7_sorts 74 = .ok (.iinc 7 1, 3) := by decide +kernel
theorem dX7_sorts_77 : decode cX7_sorts 77 = .ok (.goto (-40), 3) := by decide +kernel
theorem dX7_sorts_80 : decode cX7_sorts 80 = .ok (.aload_n 0, 1) := by decide +kernel
theorem dX7_sorts_81 : decode cX7_sorts 81 = .ok (.iload 6, 2) := by decide +kernel
theorem dX7_sorts_83 : decode cX7_sorts 83 = .ok (.invokevirtual 79, 3) := by decide +kernel
theorem dX7_sorts_86 : decode cX7_sorts 86 = .ok (.ireturn, 1) := by decide +kernel
set_option maxRecDepth 20000 in
theorem ggX7_saved_X7_isGesture : GoodIn wsX7_saved wsX7_isGesture := goodIn_r _ [8, 2, 9, 40, 41, 42, 43, 44, 45, 46, 47, 48, 49, 50, 51, 52, 53, 54, 55, 56, 57, 58, 59, 60, 61] (by decide +kernel) (by decide +kernel)
set_option maxRecDepth 20000 in
theorem gX7_saved_X7_isGesture : GoodIn wsX7_saved (wsV RX7 135 RX7 yX7_isGesture wsX7_isGesture) := goodIn_app (goodIn_of _ (by decide +kernel)) ggX7_saved_X7_isGesture
set_option maxRecDepth 20000 in
theorem ggX7_saved_X2_owes : GoodIn wsX7_saved wsX2_owes := goodIn_r _ [14, 15, 16, 17, 18, 19, 13, 20, 21, 22, 23, 24, 25, 26, 27, 28, 29, 30, 31, 32, 33, 34, 35, 49, 50, 51, 52, 53, 54, 55, 56, 57, 58, 59, 60, 61] (by decide +kernel) (by decide +kernel)
set_option maxRecDepth 20000 in
theorem gX7_saved_X2_owes : GoodIn wsX7_saved (wsV RX7 145 RX2 yX2_owes wsX2_owes) := goodIn_app (goodIn_of _ (by decide +kernel)) ggX7_saved_X2_owes
set_option maxRecDepth 20000 in
theorem ggX7_saved_X2_owesIfKnown : GoodIn wsX7_saved wsX2_owesIfKnown := goodIn_r _ [39, 15, 16, 21, 22, 23, 13, 24, 25, 26, 27, 28, 29, 30, 49, 50, 51, 52, 53, 54, 55, 56, 57, 58, 59, 60, 61] (by decide +kernel) (by decide +kernel)
set_option maxRecDepth 20000 in
theorem gX7_saved_X2_owesIfKnown : GoodIn wsX7_saved (wsV RX7 241 RX2 yX2_owesIfKnown wsX2_owesIfKnown) := goodIn_app (goodIn_of _ (by decide +kernel)) ggX7_saved_X2_owesIfKnown
theorem dX7_saved_0 : decode cX7_saved 0 = .ok (.aload_n 0, 1) := by decide +kernel
theorem dX7_saved_1 : decode cX7_saved 1 = .ok (.iload_n 1, 1) := by decide +kernel
theorem dX7_saved_2 : decode cX7_saved 2 = .ok (.invokevirtual 135, 3) := by decide +kernel
theorem dX7_saved_5 : decode cX7_saved 5 = .ok (.ifCond .ne 6, 3) := by decide +kernel
theorem dX7_saved_8 : decode cX7_saved 8 = .ok (.ldc 70, 2) := by decide +kernel
theorem dX7_saved_10 : decode cX7_saved 10 = .ok (.ireturn, 1) := by decide +kernel
theorem dX7_saved_11 : decode cX7_saved 11 = .ok (.iconst 0, 1) := by decide +kernel
theorem dX7_saved_12 : decode cX7_saved 12 = .ok (.istore_n 2, 1) := by decide +kernel
theorem dX7_saved_13 : decode cX7_saved 13 = .ok (.iconst 0, 1) := by decide +kernel
theorem dX7_saved_14 : decode cX7_saved 14 = .ok (.istore_n 3, 1) := by decide +kernel
theorem dX7_saved_15 : decode cX7_saved 15 = .ok (.iload_n 3, 1) := by decide +kernel
theorem dX7_saved_16 : decode cX7_saved 16 = .ok (.aload_n 0, 1) := by decide +kernel
theorem dX7_saved_17 : decode cX7_saved 17 = .ok (.getfield 26, 3) := by decide +kernel
theorem dX7_saved_20 : decode cX7_saved 20 = .ok (.getfield 238, 3) := by decide +kernel
theorem dX7_saved_23 : decode cX7_saved 23 = .ok (.if_icmp .ge 31, 3) := by decide +kernel
theorem dX7_saved_26 : decode cX7_saved 26 = .ok (.iload_n 2, 1) := by decide +kernel
theorem dX7_saved_27 : decode cX7_saved 27 = .ok (.aload_n 0, 1) := by decide +kernel
theorem dX7_saved_28 : decode cX7_saved 28 = .ok (.getfield 26, 3) := by decide +kernel
theorem dX7_saved_31 : decode cX7_saved 31 = .ok (.iload_n 1, 1) := by decide +kernel
theorem dX7_saved_32 : decode cX7_saved 32 = .ok (.iload_n 3, 1) := by decide +kernel
theorem dX7_saved_33 : decode cX7_saved 33 = .ok (.invokevirtual 145, 3) := by decide +kernel
theorem dX7_saved_36 : decode cX7_saved 36 = .ok (.aload_n 0, 1) := by decide +kernel
theorem dX7_saved_37 : decode cX7_saved 37 = .ok (.getfield 26, 3) := by decide +kernel
theorem dX7_saved_40 : decode cX7_saved 40 = .ok (.iload_n 1, 1) := by decide +kernel
theorem dX7_saved_41 : decode cX7_saved 41 = .ok (.iload_n 3, 1) := by decide +kernel
theorem dX7_saved_42 : decode cX7_saved 42 = .ok (.invokevirtual 241, 3) := by decide +kernel
theorem dX7_saved_45 : decode cX7_saved 45 = .ok (.isub, 1) := by decide +kernel
theorem dX7_saved_46 : decode cX7_saved 46 = .ok (.iadd, 1) := by decide +kernel
theorem dX7_saved_47 : decode cX7_saved 47 = .ok (.istore_n 2, 1) := by decide +kernel
theorem dX7_saved_48 : decode cX7_saved 48 = .ok (.iinc 3 1, 3) := by decide +kernel
theorem dX7_saved_51 : decode cX7_saved 51 = .ok (.goto (-36), 3) := by decide +kernel
theorem dX7_saved_54 : decode cX7_saved 54 = .ok (.iload_n 2, 1) := by decide +kernel
theorem dX7_saved_55 : decode cX7_saved 55 = .ok (.ireturn, 1) := by decide +kernel
set_option maxRecDepth 20000 in
theorem ggX7_worst_X7_isGesture : GoodIn wsX7_worst wsX7_isGesture := goodIn_r _ [9, 2, 10, 46, 47, 48, 49, 50, 51, 52, 53, 54, 55, 56, 57, 58, 59, 60, 61, 62, 63, 64, 65, 66, 67] (by decide +kernel) (by decide +kernel)
set_option maxRecDepth 20000 in
theorem gX7_worst_X7_isGesture : GoodIn wsX7_worst (wsV RX7 135 RX7 yX7_isGesture wsX7_isGesture) := goodIn_app (goodIn_of _ (by decide +kernel)) ggX7_worst_X7_isGesture
set_option maxRecDepth 20000 in
theorem ggX7_worst_X7_isWithin : GoodIn wsX7_worst wsX7_isWithin := goodIn_r _ [13] (by decide +kernel) (by decide +kernel)
set_option maxRecDepth 20000 in
theorem gX7_worst_X7_isWithin : GoodIn wsX7_worst (va_wsS RX7 66 yX7_isWithin wsX7_isWithin) := goodIn_app (goodIn_of _ (by decide +kernel)) ggX7_worst_X7_isWithin
set_option maxRecDepth 20000 in
theorem ggX7_worst_X2_dearestStreet : GoodIn wsX7_worst wsX2_dearestStreet := goodIn_r _ [18, 19, 20, 21, 22, 17, 23, 24, 25, 26, 27, 28, 29, 30, 31, 32, 33, 34, 35, 36, 37, 38, 39, 40, 41, 42, 43, 44, 55, 56, 57, 58, 59, 60, 61, 62, 63, 64, 65, 66, 67] (by decide +kernel) (by decide +kernel)
set_option maxRecDepth 20000 in
theorem gX7_worst_X2_dearestStreet : GoodIn wsX7_worst (wsV RX7 244 RX2 yX2_dearestStreet wsX2_dearestStreet) := goodIn_app (goodIn_of _ (by decide +kernel)) ggX7_worst_X2_dearestStreet
set_option maxRecDepth 20000 in
theorem ggX7_worst_X2_owes : GoodIn wsX7_worst wsX2_owes := goodIn_r _ [23, 24, 25, 26, 27, 28, 17, 29, 30, 31, 32, 33, 34, 35, 36, 37, 38, 39, 40, 41, 42, 43, 44, 55, 56, 57, 58, 59, 60, 61, 62, 63, 64, 65, 66, 67] (by decide +kernel) (by decide +kernel)
set_option maxRecDepth 20000 in
theorem gX7_worst_X2_owes : GoodIn wsX7_worst (wsV RX7 145 RX2 yX2_owes wsX2_owes) := goodIn_app (goodIn_of _ (by decide +kernel)) ggX7_worst_X2_owes
theorem dX7_worst_0 : decode cX7_worst 0 = .ok (.aload_n 0, 1) := by decide +kernel
theorem dX7_worst_1 : decode cX7_worst 1 = .ok (.iload_n 1, 1) := by decide +kernel
theorem dX7_worst_2 : decode cX7_worst 2 = .ok (.invokevirtual 135, 3) := by decide +kernel
theorem dX7_worst_5 : decode cX7_worst 5 = .ok (.ifCond .eq 12, 3) := by decide +kernel
theorem dX7_worst_8 : decode cX7_worst 8 = .ok (.iload_n 2, 1) := by decide +kernel
theorem dX7_worst_9 : decode cX7_worst 9 = .ok (.iconst 0, 1) := by decide +kernel
theorem dX7_worst_10 : decode cX7_worst 10 = .ok (.iconst 1, 1) := by decide +kernel
theorem dX7_worst_11 : decode cX7_worst 11 = .ok (.invokestatic 66, 3) := by decide +kernel
theorem dX7_worst_14 : decode cX7_worst 14 = .ok (.ifCond .ne 6, 3) := by decide +kernel
theorem dX7_worst_17 : decode cX7_worst 17 = .ok (.ldc 70, 2) := by decide +kernel
theorem dX7_worst_19 : decode cX7_worst 19 = .ok (.ireturn, 1) := by decide +kernel
theorem dX7_worst_20 : decode cX7_worst 20 = .ok (.aload_n 0, 1) := by decide +kernel
theorem dX7_worst_21 : decode cX7_worst 21 = .ok (.getfield 26, 3) := by decide +kernel
theorem dX7_worst_24 : decode cX7_worst 24 = .ok (.getfield 238, 3) := by decide +kernel
theorem dX7_worst_27 : decode cX7_worst 27 = .ok (.ifCond .ne 6, 3) := by decide +kernel
theorem dX7_worst_30 : decode cX7_worst 30 = .ok (.ldc 221, 2) := by decide +kernel
theorem dX7_worst_32 : decode cX7_worst 32 = .ok (.ireturn, 1) := by decide +kernel
theorem dX7_worst_33 : decode cX7_worst 33 = .ok (.aload_n 0, 1) := by decide +kernel
theorem dX7_worst_34 : decode cX7_worst 34 = .ok (.getfield 26, 3) := by decide +kernel
theorem dX7_worst_37 : decode cX7_worst 37 = .ok (.iload_n 1, 1) := by decide +kernel
theorem dX7_worst_38 : decode cX7_worst 38 = .ok (.invokevirtual 244, 3) := by decide +kernel
theorem dX7_worst_41 : decode cX7_worst 41 = .ok (.istore_n 3, 1) := by decide +kernel
theorem dX7_worst_42 : decode cX7_worst 42 = .ok (.iload_n 2, 1) := by decide +kernel
theorem dX7_worst_43 : decode cX7_worst 43 = .ok (.ifCond .ne 7, 3) := by decide +kernel
theorem dX7_worst_46 : decode cX7_worst 46 = .ok (.iload_n 3, 1) := by decide +kernel
theorem dX7_worst_47 : decode cX7_worst 47 = .ok (.goto 12, 3) := by decide +kernel
theorem dX7_worst_50 : decode cX7_worst 50 = .ok (.aload_n 0, 1) := by decide +kernel
theorem dX7_worst_51 : decode cX7_worst 51 = .ok (.getfield 26, 3) := by decide +kernel
theorem dX7_worst_54 : decode cX7_worst 54 = .ok (.iload_n 1, 1) := by decide +kernel
theorem dX7_worst_55 : decode cX7_worst 55 = .ok (.iload_n 3, 1) := by decide +kernel
theorem dX7_worst_56 : decode cX7_worst 56 = .ok (.invokevirtual 145, 3) := by decide +kernel
theorem dX7_worst_59 : decode cX7_worst 59 = .ok (.ireturn, 1) := by decide +kernel
set_option maxRecDepth 20000 in
theorem ggX7_tremble_X7_isGesture : GoodIn wsX7_tremble wsX7_isGesture := goodIn_r _ [11, 2, 12, 50, 51, 52, 53, 54, 55, 56, 57, 58, 59, 60, 61, 62, 63, 64, 65, 66, 67, 68, 69, 70, 71] (by decide +kernel) (by decide +kernel)
set_option maxRecDepth 20000 in
theorem gX7_tremble_X7_isGesture : GoodIn wsX7_tremble (wsV RX7 135 RX7 yX7_isGesture wsX7_isGesture) := goodIn_app (goodIn_of _ (by decide +kernel)) ggX7_tremble_X7_isGesture
set_option maxRecDepth 20000 in
theorem ggX7_tremble_X7_isStretch : GoodIn wsX7_tremble wsX7_isStretch := goodIn_r _ [16, 17, 18, 19, 10, 20, 2, 21, 50, 51, 52, 53, 54, 55, 56, 57, 58, 59, 60, 61, 62, 63, 64, 65, 66, 67, 68, 69, 70, 71] (by decide +kernel) (by decide +kernel)
set_option maxRecDepth 20000 in
theorem gX7_tremble_X7_isStretch : GoodIn wsX7_tremble (wsV RX7 200 RX7 yX7_isStretch wsX7_isStretch) := goodIn_app (goodIn_of _ (by decide +kernel)) ggX7_tremble_X7_isStretch
set_option maxRecDepth 20000 in
theorem ggX7_tremble_X7_isWithin : GoodIn wsX7_tremble wsX7_isWithin := goodIn_r _ [24] (by decide +kernel) (by decide +kernel)
set_option maxRecDepth 20000 in
theorem gX7_tremble_X7_isWithin : GoodIn wsX7_tremble (va_wsS RX7 66 yX7_isWithin wsX7_isWithin) := goodIn_app (goodIn_of _ (by decide +kernel)) ggX7_tremble_X7_isWithin
set_option maxRecDepth 20000 in
theorem ggX7_tremble_X7_tenthsWithin : GoodIn wsX7_tremble wsX7_tenthsWithin := goodIn_r _ [27, 28, 29, 30, 31, 32, 33, 34, 35, 36, 37, 38, 39, 40, 41, 4, 5, 6, 42, 43, 44, 45, 46, 25, 26, 10, 59, 60, 61, 62, 63, 64, 65, 66, 67, 68, 69, 70, 71] (by decide +kernel) (by decide +kernel)
set_option maxRecDepth 20000 in
theorem gX7_tremble_X7_tenthsWithin : GoodIn wsX7_tremble (va_wsS RX7 247 yX7_tenthsWithin wsX7_tenthsWithin) := goodIn_app (goodIn_of _ (by decide +kernel)) ggX7_tremble_X7_tenthsWithin
set_option maxRecDepth 20000 in
theorem ggX7_tremble_X7_commonDivisor : GoodIn wsX7_tremble wsX7_commonDivisor := goodIn_r _ [49] (by decide +kernel) (by decide +kernel)
set_option maxRecDepth 20000 in
theorem gX7_tremble_X7_commonDivisor : GoodIn wsX7_tremble (va_wsS RX7 250 yX7_commonDivisor wsX7_commonDivisor) := goodIn_app (goodIn_of _ (by decide +kernel)) ggX7_tremble_X7_commonDivisor
theorem dX7_tremble_0 : decode cX7_tremble 0 = .ok (.aload_n 0, 1) := by decide +kernel
theorem dX7_tremble_1 : decode cX7_tremble 1 = .ok (.iload_n 1, 1) := by decide +kernel
theorem dX7_tremble_2 : decode cX7_tremble 2 = .ok (.invokevirtual 135, 3) := by decide +kernel
theorem dX7_tremble_5 : decode cX7_tremble 5 = .ok (.ifCond .eq 24, 3) := by decide +kernel
theorem dX7_tremble_8 : decode cX7_tremble 8 = .ok (.aload_n 0, 1) := by decide +kernel
theorem dX7_tremble_9 : decode cX7_tremble 9 = .ok (.iload_n 2, 1) := by decide +kernel
theorem dX7_tremble_10 : decode cX7_tremble 10 = .ok (.iload_n 3, 1) := by decide +kernel
theorem dX7_tremble_11 : decode cX7_tremble 11 = .ok (.invokevirtual 200, 3) := by decide +kernel
theorem dX7_tremble_14 : decode cX7_tremble 14 = .ok (.ifCond .eq 15, 3) := by decide +kernel
theorem dX7_tremble_17 : decode cX7_tremble 17 = .ok (.iload 4, 2) := by decide +kernel
theorem dX7_tremble_19 : decode cX7_tremble 19 = .ok (.iconst 0, 1) := by decide +kernel
theorem dX7_tremble_20 : decode cX7_tremble 20 = .ok (.sipush 9999, 3) := by decide +kernel
theorem dX7_tremble_23 : decode cX7_tremble 23 = .ok (.invokestatic 66, 3) := by decide +kernel
theorem dX7_tremble_26 : decode cX7_tremble 26 = .ok (.ifCond .ne 6, 3) := by decide +kernel
theorem dX7_tremble_29 : decode cX7_tremble 29 = .ok (.ldc 70, 2) := by decide +kernel
theorem dX7_tremble_31 : decode cX7_tremble 31 = .ok (.ireturn, 1) := by decide +kernel
theorem dX7_tremble_32 : decode cX7_tremble 32 = .ok (.iload 5, 2) := by decide +kernel
theorem dX7_tremble_34 : decode cX7_tremble 34 = .ok (.iconst 0, 1) := by decide +kernel
theorem dX7_tremble_35 : decode cX7_tremble 35 = .ok (.bipush 10, 2) := by decide +kernel
theorem dX7_tremble_37 : decode cX7_tremble 37 = .ok (.invokestatic 66, 3) := by decide +kernel
theorem dX7_tremble_40 : decode cX7_tremble 40 = .ok (.ifCond .eq 13, 3) := by decide +kernel
theorem dX7_tremble_43 : decode cX7_tremble 43 = .ok (.iload 6, 2) := by decide +kernel
theorem dX7_tremble_45 : decode cX7_tremble 45 = .ok (.iconst 0, 1) := by decide +kernel
theorem dX7_tremble_46 : decode cX7_tremble 46 = .ok (.iconst 1, 1) := by decide +kernel
theorem dX7_tremble_47 : decode cX7_tremble 47 = .ok (.invokestatic 66, 3) := by decide +kernel
theorem dX7_tremble_50 : decode cX7_tremble 50 = .ok (.ifCond .ne 6, 3) := by decide +kernel
theorem dX7_tremble_53 : decode cX7_tremble 53 = .ok (.ldc 70, 2) := by decide +kernel
theorem dX7_tremble_55 : decode cX7_tremble 55 = .ok (.ireturn, 1) := by decide +kernel
theorem dX7_tremble_56 : decode cX7_tremble 56 = .ok (.aload_n 0, 1) := by decide +kernel
theorem dX7_tremble_57 : decode cX7_tremble 57 = .ok (.getfield 26, 3) := by decide +kernel
theorem dX7_tremble_60 : decode cX7_tremble 60 = .ok (.iload_n 1, 1) := by decide +kernel
theorem dX7_tremble_61 : decode cX7_tremble 61 = .ok (.iload_n 2, 1) := by decide +kernel
theorem dX7_tremble_62 : decode cX7_tremble 62 = .ok (.iload_n 3, 1) := by decide +kernel
theorem dX7_tremble_63 : decode cX7_tremble 63 = .ok (.iload 4, 2) := by decide +kernel
theorem dX7_tremble_65 : decode cX7_tremble 65 = .ok (.iload 5, 2) := by decide +kernel
theorem dX7_tremble_67 : decode cX7_tremble 67 = .ok (.invokestatic 247, 3) := by decide +kernel
theorem dX7_tremble_70 : decode cX7_tremble 70 = .ok (.istore 7, 2) := by decide +kernel
theorem dX7_tremble_72 : decode cX7_tremble 72 = .ok (.iconst 1, 1) := by decide +kernel
theorem dX7_tremble_73 : decode cX7_tremble 73 = .ok (.istore 8, 2) := by decide +kernel
theorem dX7_tremble_75 : decode cX7_tremble 75 = .ok (.iload_n 2, 1) := by decide +kernel
theorem dX7_tremble_76 : decode cX7_tremble 76 = .ok (.istore 9, 2) := by decide +kernel
theorem dX7_tremble_78 : decode cX7_tremble 78 = .ok (.iload 9, 2) := by decide +kernel
theorem dX7_tremble_80 : decode cX7_tremble 80 = .ok (.iload_n 3, 1) := by decide +kernel
theorem dX7_tremble_81 : decode cX7_tremble 81 = .ok (.if_icmp .gt 16, 3) := by decide +kernel
theorem dX7_tremble_84 : decode cX7_tremble 84 = .ok (.iload 8, 2) := by decide +kernel
theorem dX7_tremble_86 : decode cX7_tremble 86 = .ok (.bipush 10, 2) := by decide +kernel
theorem dX7_tremble_88 : decode cX7_tremble 88 = .ok (.imul, 1) := by decide +kernel
theorem dX7_tremble_89 : decode cX7_tremble 89 = .ok (.istore 8, 2) := by decide +kernel
theorem dX7_tremble_91 : decode cX7_tremble 91 = .ok (.iinc 9 1, 3) := by decide +kernel
theorem dX7_tremble_94 : decode cX7_tremble 94 = .ok (.goto (-16), 3) := by decide +kernel
theorem dX7_tremble_97 : decode cX7_tremble 97 = .ok (.iconst 1, 1) := by decide +kernel
theorem dX7_tremble_98 : decode cX7_tremble 98 = .ok (.iload 7, 2) := by decide +kernel
theorem dX7_tremble_100 : decode cX7_tremble 100 = .ok (.iload 8, 2) := by decide +kernel
theorem dX7_tremble_102 : decode cX7_tremble 102 = .ok (.invokestatic 250, 3) := by decide +kernel
theorem dX7_tremble_105 : decode cX7_tremble 105 = .ok (.invokestatic 253, 3) := by decide +kernel
theorem dX7_tremble_108 : decode cX7_tremble 108 = .ok (.istore 9, 2) := by decide +kernel
theorem dX7_tremble_110 : decode cX7_tremble 110 = .ok (.iload 6, 2) := by decide +kernel
theorem dX7_tremble_112 : decode cX7_tremble 112 = .ok (.ifCond .ne 8, 3) := by decide +kernel
theorem dX7_tremble_115 : decode cX7_tremble 115 = .ok (.iload 7, 2) := by decide +kernel
theorem dX7_tremble_117 : decode cX7_tremble 117 = .ok (.goto 5, 3) := by decide +kernel
theorem dX7_tremble_120 : decode cX7_tremble 120 = .ok (.iload 8, 2) := by decide +kernel
theorem dX7_tremble_122 : decode cX7_tremble 122 = .ok (.iload 9, 2) := by decide +kernel
theorem dX7_tremble_124 : decode cX7_tremble 124 = .ok (.idiv, 1) := by decide +kernel
theorem dX7_tremble_125 : decode cX7_tremble 125 = .ok (.ireturn, 1) := by decide +kernel
set_option maxRecDepth 20000 in
theorem ggX7_image_X7_isWithin : GoodIn wsX7_image wsX7_isWithin := goodIn_r _ [9] (by decide +kernel) (by decide +kernel)
set_option maxRecDepth 20000 in
theorem gX7_image_X7_isWithin : GoodIn wsX7_image (va_wsS RX7 66 yX7_isWithin wsX7_isWithin) := goodIn_app (goodIn_of _ (by decide +kernel)) ggX7_image_X7_isWithin
set_option maxRecDepth 20000 in
theorem ggX7_image_X2_become : GoodIn wsX7_image wsX2_become := goodIn_r _ [14, 15, 16, 17, 18, 19, 20, 21, 22, 23, 24, 25, 26, 27, 28, 29, 30, 31, 41, 42, 43, 44, 45, 46, 47, 48, 49, 50, 51, 52, 53] (by decide +kernel) (by decide +kernel)
set_option maxRecDepth 20000 in
theorem gX7_image_X2_become : GoodIn wsX7_image (wsV RX7 122 RX2 yX2_become wsX2_become) := goodIn_app (goodIn_of _ (by decide +kernel)) ggX7_image_X2_become
theorem dX7_image_0 : decode cX7_image 0 = .ok (.iload_n 1, 1) := by decide +kernel
theorem dX7_image_1 : decode cX7_image 1 = .ok (.iconst 0, 1) := by decide +kernel
theorem dX7_image_2 : decode cX7_image 2 = .ok (.iconst 1, 1) := by decide +kernel
theorem dX7_image_3 : decode cX7_image 3 = .ok (.invokestatic 66, 3) := by decide +kernel
theorem dX7_image_6 : decode cX7_image 6 = .ok (.ifCond .ne 6, 3) := by decide +kernel
theorem dX7_image_9 : decode cX7_image 9 = .ok (.ldc 70, 2) := by decide +kernel
theorem dX7_image_11 : decode cX7_image 11 = .ok (.ireturn, 1) := by decide +kernel
theorem dX7_image_12 : decode cX7_image 12 = .ok (.aload_n 0, 1) := by decide +kernel
theorem dX7_image_13 : decode cX7_image 13 = .ok (.getfield 26, 3) := by decide +kernel
theorem dX7_image_16 : decode cX7_image 16 = .ok (.getfield 211, 3) := by decide +kernel
theorem dX7_image_19 : decode cX7_image 19 = .ok (.ifCond .ne 6, 3) := by decide +kernel
theorem dX7_image_22 : decode cX7_image 22 = .ok (.ldc 144, 2) := by decide +kernel
theorem dX7_image_24 : decode cX7_image 24 = .ok (.ireturn, 1) := by decide +kernel
theorem dX7_image_25 : decode cX7_image 25 = .ok (.aload_n 0, 1) := by decide +kernel
theorem dX7_image_26 : decode cX7_image 26 = .ok (.getfield 33, 3) := by decide +kernel
theorem dX7_image_29 : decode cX7_image 29 = .ok (.iload_n 1, 1) := by decide +kernel
theorem dX7_image_30 : decode cX7_image 30 = .ok (.aaload, 1) := by decide +kernel
theorem dX7_image_31 : decode cX7_image 31 = .ok (.aload_n 0, 1) := by decide +kernel
theorem dX7_image_32 : decode cX7_image 32 = .ok (.getfield 26, 3) := by decide +kernel
theorem dX7_image_35 : decode cX7_image 35 = .ok (.invokevirtual 122, 3) := by decide +kernel
theorem dX7_image_38 : decode cX7_image 38 = .ok (.iconst 1, 1) := by decide +kernel
theorem dX7_image_39 : decode cX7_image 39 = .ok (.ireturn, 1) := by decide +kernel
set_option maxRecDepth 20000 in
theorem ggX7_restore_X7_isWithin : GoodIn wsX7_restore wsX7_isWithin := goodIn_r _ [10] (by decide +kernel) (by decide +kernel)
set_option maxRecDepth 20000 in
theorem gX7_restore_X7_isWithin : GoodIn wsX7_restore (va_wsS RX7 66 yX7_isWithin wsX7_isWithin) := goodIn_app (goodIn_of _ (by decide +kernel)) ggX7_restore_X7_isWithin
set_option maxRecDepth 20000 in
theorem ggX7_restore_X2_become : GoodIn wsX7_restore wsX2_become := goodIn_r _ [15, 16, 17, 18, 19, 20, 21, 22, 23, 24, 25, 26, 27, 28, 29, 30, 31, 32, 48, 49, 50, 51, 52, 53, 54, 55, 56, 57, 58, 59, 60] (by decide +kernel) (by decide +kernel)
set_option maxRecDepth 20000 in
theorem gX7_restore_X2_become : GoodIn wsX7_restore (wsV RX7 122 RX2 yX2_become wsX2_become) := goodIn_app (goodIn_of _ (by decide +kernel)) ggX7_restore_X2_become
set_option maxRecDepth 20000 in
theorem ggX7_restore_X0_forgetAll : GoodIn wsX7_restore wsX0_forgetAll := goodIn_r _ [37, 38, 61, 62, 63, 64, 65] (by decide +kernel) (by decide +kernel)
set_option maxRecDepth 20000 in
theorem gX7_restore_X0_forgetAll : GoodIn wsX7_restore (wsV RX7 126 RX0 yX0_forgetAll wsX0_forgetAll) := goodIn_app (goodIn_of _ (by decide +kernel)) ggX7_restore_X0_forgetAll
theorem dX7_restore_0 : decode cX7_restore 0 = .ok (.iload_n 1, 1) := by decide +kernel
theorem dX7_restore_1 : decode cX7_restore 1 = .ok (.iconst 0, 1) := by decide +kernel
theorem dX7_restore_2 : decode cX7_restore 2 = .ok (.iconst 1, 1) := by decide +kernel
theorem dX7_restore_3 : decode cX7_restore 3 = .ok (.invokestatic 66, 3) := by decide +kernel
theorem dX7_restore_6 : decode cX7_restore 6 = .ok (.ifCond .ne 6, 3) := by decide +kernel
theorem dX7_restore_9 : decode cX7_restore 9 = .ok (.ldc 70, 2) := by decide +kernel
theorem dX7_restore_11 : decode cX7_restore 11 = .ok (.ireturn, 1) := by decide +kernel
theorem dX7_restore_12 : decode cX7_restore 12 = .ok (.aload_n 0, 1) := by decide +kernel
theorem dX7_restore_13 : decode cX7_restore 13 = .ok (.getfield 33, 3) := by decide +kernel
theorem dX7_restore_16 : decode cX7_restore 16 = .ok (.iload_n 1, 1) := by decide +kernel
theorem dX7_restore_17 : decode cX7_restore 17 = .ok (.aaload, 1) := by decide +kernel
theorem dX7_restore_18 : decode cX7_restore 18 = .ok (.getfield 211, 3) := by decide +kernel
theorem dX7_restore_21 : decode cX7_restore 21 = .ok (.ifCond .ne 6, 3) := by decide +kernel
theorem dX7_restore_24 : decode cX7_restore 24 = .ok (.ldc 144, 2) := by decide +kernel
theorem dX7_restore_26 : decode cX7_restore 26 = .ok (.ireturn, 1) := by decide +kernel
theorem dX7_restore_27 : decode cX7_restore 27 = .ok (.aload_n 0, 1) := by decide +kernel
theorem dX7_restore_28 : decode cX7_restore 28 = .ok (.getfield 26, 3) := by decide +kernel
theorem dX7_restore_31 : decode cX7_restore 31 = .ok (.aload_n 0, 1) := by decide +kernel
theorem dX7_restore_32 : decode cX7_restore 32 = .ok (.getfield 33, 3) := by decide +kernel
theorem dX7_restore_35 : decode cX7_restore 35 = .ok (.iload_n 1, 1) := by decide +kernel
theorem dX7_restore_36 : decode cX7_restore 36 = .ok (.aaload, 1) := by decide +kernel
theorem dX7_restore_37 : decode cX7_restore 37 = .ok (.invokevirtual 122, 3) := by decide +kernel
theorem dX7_restore_40 : decode cX7_restore 40 = .ok (.aload_n 0, 1) := by decide +kernel
theorem dX7_restore_41 : decode cX7_restore 41 = .ok (.getfield 40, 3) := by decide +kernel
theorem dX7_restore_44 : decode cX7_restore 44 = .ok (.invokevirtual 126, 3) := by decide +kernel
theorem dX7_restore_47 : decode cX7_restore 47 = .ok (.iconst 1, 1) := by decide +kernel
theorem dX7_restore_48 : decode cX7_restore 48 = .ok (.ireturn, 1) := by decide +kernel
set_option maxRecDepth 20000 in
theorem ggX7_kind_X7_isGesture : GoodIn wsX7_kind wsX7_isGesture := goodIn_r _ [8, 1, 9, 10, 11, 12, 13, 14, 15, 16, 17, 18, 19, 20, 21, 22, 23, 24, 25, 26, 27, 28, 29, 30, 31] (by decide +kernel) (by decide +kernel)
set_option maxRecDepth 20000 in
theorem gX7_kind_X7_isGesture : GoodIn wsX7_kind (wsV RX7 135 RX7 yX7_isGesture wsX7_isGesture) := goodIn_app (goodIn_of _ (by decide +kernel)) ggX7_kind_X7_isGesture
theorem dX7_kind_0 : decode cX7_kind 0 = .ok (.aload_n 0, 1) := by decide +kernel
theorem dX7_kind_1 : decode cX7_kind 1 = .ok (.iload_n 1, 1) := by decide +kernel
theorem dX7_kind_2 : decode cX7_kind 2 = .ok (.invokevirtual 135, 3) := by decide +kernel
theorem dX7_kind_5 : decode cX7_kind 5 = .ok (.ifCond .eq 15, 3) := by decide +kernel
theorem dX7_kind_8 : decode cX7_kind 8 = .ok (.aload_n 0, 1) := by decide +kernel
theorem dX7_kind_9 : decode cX7_kind 9 = .ok (.getfield 26, 3) := by decide +kernel
theorem dX7_kind_12 : decode cX7_kind 12 = .ok (.getfield 225, 3) := by decide +kernel
theorem dX7_kind_15 : decode cX7_kind 15 = .ok (.iload_n 1, 1) := by decide +kernel
theorem dX7_kind_16 : decode cX7_kind 16 = .ok (.iaload, 1) := by decide +kernel
theorem dX7_kind_17 : decode cX7_kind 17 = .ok (.goto 5, 3) := by decide +kernel
theorem dX7_kind_20 : decode cX7_kind 20 = .ok (.ldc 70, 2) := by decide +kernel
theorem dX7_kind_22 : decode cX7_kind 22 = .ok (.ireturn, 1) := by decide +kernel
set_option maxRecDepth 20000 in
theorem ggX7_as_X7_isGesture : GoodIn wsX7_as wsX7_isGesture := goodIn_r _ [8, 2, 9, 31, 32, 33, 34, 35, 36, 37, 38, 39, 40, 41, 42, 43, 44, 45, 46, 47, 48, 49, 50, 51, 52] (by decide +kernel) (by decide +kernel)
set_option maxRecDepth 20000 in
theorem gX7_as_X7_isGesture : GoodIn wsX7_as (wsV RX7 135 RX7 yX7_isGesture wsX7_isGesture) := goodIn_app (goodIn_of _ (by decide +kernel)) ggX7_as_X7_isGesture
set_option maxRecDepth 20000 in
theorem ggX7_as_X7_isWithin : GoodIn wsX7_as wsX7_isWithin := goodIn_r _ [12] (by decide +kernel) (by decide +kernel)
set_option maxRecDepth 20000 in
theorem gX7_as_X7_isWithin : GoodIn wsX7_as (va_wsS RX7 66 yX7_isWithin wsX7_isWithin) := goodIn_app (goodIn_of _ (by decide +kernel)) ggX7_as_X7_isWithin
set_option maxRecDepth 20000 in
theorem ggX7_as_X3_isOneOf : GoodIn wsX7_as wsX3_isOneOf := goodIn_r _ [16, 17, 18, 19, 15, 20] (by decide +kernel) (by decide +kernel)
set_option maxRecDepth 20000 in
theorem gX7_as_X3_isOneOf : GoodIn wsX7_as (va_wsS RX7 258 yX3_isOneOf wsX3_isOneOf) := goodIn_app (goodIn_of _ (by decide +kernel)) ggX7_as_X3_isOneOf
set_option maxRecDepth 20000 in
theorem ggX7_as_X7_foundNothing : GoodIn wsX7_as wsX7_foundNothing := goodIn_r _ [24, 25, 31, 32, 33, 34, 35, 36, 37, 38, 39] (by decide +kernel) (by decide +kernel)
set_option maxRecDepth 20000 in
theorem gX7_as_X7_foundNothing : GoodIn wsX7_as (wsV RX7 79 RX7 yX7_foundNothing wsX7_foundNothing) := goodIn_app (goodIn_of _ (by decide +kernel)) ggX7_as_X7_foundNothing
set_option maxRecDepth 20000 in
theorem ggX7_as_X7_found : GoodIn wsX7_as wsX7_found := goodIn_r _ [29, 25, 30, 31, 32, 33, 34, 35, 36, 37, 38, 39] (by decide +kernel) (by decide +kernel)
set_option maxRecDepth 20000 in
theorem gX7_as_X7_found : GoodIn wsX7_as (wsV RX7 71 RX7 yX7_found wsX7_found) := goodIn_app (goodIn_of _ (by decide +kernel)) ggX7_as_X7_found
theorem dX7_as_0 : decode cX7_as 0 = .ok (.aload_n 0, 1) := by decide +kernel
theorem dX7_as_1 : decode cX7_as 1 = .ok (.iload_n 1, 1) := by decide +kernel
theorem dX7_as_2 : decode cX7_as 2 = .ok (.invokevirtual 135, 3) := by decide +kernel
theorem dX7_as_5 : decode cX7_as 5 = .ok (.ifCond .eq 12, 3) := by decide +kernel
theorem dX7_as_8 : decode cX7_as 8 = .ok (.iload_n 2, 1) := by decide +kernel
theorem dX7_as_9 : decode cX7_as 9 = .ok (.iconst 0, 1) := by decide +kernel
theorem dX7_as_10 : decode cX7_as 10 = .ok (.iconst 5, 1) := by decide +kernel
theorem dX7_as_11 : decode cX7_as 11 = .ok (.invokestatic 66, 3) := by decide +kernel
theorem dX7_as_14 : decode cX7_as 14 = .ok (.ifCond .ne 6, 3) := by decide +kernel
theorem dX7_as_17 : decode cX7_as 17 = .ok (.ldc 70, 2) := by decide +kernel
theorem dX7_as_19 : decode cX7_as 19 = .ok (.ireturn, 1) := by decide +kernel
theorem dX7_as_20 : decode cX7_as 20 = .ok (.aload_n 0, 1) := by decide +kernel
theorem dX7_as_21 : decode cX7_as 21 = .ok (.getfield 26, 3) := by decide +kernel
theorem dX7_as_24 : decode cX7_as 24 = .ok (.getfield 225, 3) := by decide +kernel
theorem dX7_as_27 : decode cX7_as 27 = .ok (.iload_n 1, 1) := by decide +kernel
theorem dX7_as_28 : decode cX7_as 28 = .ok (.iaload, 1) := by decide +kernel
theorem dX7_as_29 : decode cX7_as 29 = .ok (.iload_n 2, 1) := by decide +kernel
theorem dX7_as_30 : decode cX7_as 30 = .ok (.invokestatic 258, 3) := by decide +kernel
theorem dX7_as_33 : decode cX7_as 33 = .ok (.ifCond .eq 11, 3) := by decide +kernel
theorem dX7_as_36 : decode cX7_as 36 = .ok (.aload_n 0, 1) := by decide +kernel
theorem dX7_as_37 : decode cX7_as 37 = .ok (.iload_n 1, 1) := by decide +kernel
theorem dX7_as_38 : decode cX7_as 38 = .ok (.invokevirtual 79, 3) := by decide +kernel
theorem dX7_as_41 : decode cX7_as 41 = .ok (.goto 8, 3) := by decide +kernel
theorem dX7_as_44 : decode cX7_as 44 = .ok (.aload_n 0, 1) := by decide +kernel
theorem dX7_as_45 : decode cX7_as 45 = .ok (.iconst 3, 1) := by decide +kernel
theorem dX7_as_46 : decode cX7_as 46 = .ok (.invokevirtual 71, 3) := by decide +kernel
theorem dX7_as_49 : decode cX7_as 49 = .ok (.ireturn, 1) := by decide +kernel
set_option maxRecDepth 20000 in
theorem ggX7_ask_X7_isGesture : GoodIn wsX7_ask wsX7_isGesture := goodIn_r _ [8, 3, 9, 53, 54, 55, 56, 57, 58, 59, 60, 61, 62, 63, 64, 65, 66, 67, 68, 69, 70, 71, 72, 73, 74] (by decide +kernel) (by decide +kernel)
set_option maxRecDepth 20000 in
theorem gX7_ask_X7_isGesture : GoodIn wsX7_ask (wsV RX7 135 RX7 yX7_isGesture wsX7_isGesture) := goodIn_app (goodIn_of _ (by decide +kernel)) ggX7_ask_X7_isGesture
set_option maxRecDepth 20000 in
theorem ggX7_ask_X7_isWithin : GoodIn wsX7_ask wsX7_isWithin := goodIn_r _ [12] (by decide +kernel) (by decide +kernel)
set_option maxRecDepth 20000 in
theorem gX7_ask_X7_isWithin : GoodIn wsX7_ask (va_wsS RX7 66 yX7_isWithin wsX7_isWithin) := goodIn_app (goodIn_of _ (by decide +kernel)) ggX7_ask_X7_isWithin
set_option maxRecDepth 20000 in
theorem ggX7_ask_X1_answer : GoodIn wsX7_ask wsX1_answer := goodIn_r _ [17, 18, 19, 20, 21, 16, 22, 23, 24, 25, 26, 27, 28, 29, 30, 31, 32, 33, 34, 35, 36, 37, 38, 39, 40, 41, 42, 43, 44, 45, 46, 47, 48, 49, 50, 51, 52, 75, 76, 62, 63, 64, 65, 66, 67, 68, 69, 70, 71, 72, 73, 74] (by decide +kernel) (by decide +kernel)
set_option maxRecDepth 20000 in
theorem gX7_ask_X1_answer : GoodIn wsX7_ask (wsV RX7 261 RX1 yX1_answer wsX1_answer) := goodIn_app (goodIn_of _ (by decide +kernel)) ggX7_ask_X1_answer
theorem dX7_ask_0 : decode cX7_ask 0 = .ok (.aload_n 0, 1) := by decide +kernel
theorem dX7_ask_1 : decode cX7_ask 1 = .ok (.iload_n 1, 1) := by decide +kernel
theorem dX7_ask_2 : decode cX7_ask 2 = .ok (.invokevirtual 135, 3) := by decide +kernel
theorem dX7_ask_5 : decode cX7_ask 5 = .ok (.ifCond .eq 12, 3) := by decide +kernel
theorem dX7_ask_8 : decode cX7_ask 8 = .ok (.iload_n 2, 1) := by decide +kernel
theorem dX7_ask_9 : decode cX7_ask 9 = .ok (.iconst 0, 1) := by decide +kernel
theorem dX7_ask_10 : decode cX7_ask 10 = .ok (.iconst 1, 1) := by decide +kernel
theorem dX7_ask_11 : decode cX7_ask 11 = .ok (.invokestatic 66, 3) := by decide +kernel
theorem dX7_ask_14 : decode cX7_ask 14 = .ok (.ifCond .ne 6, 3) := by decide +kernel
theorem dX7_ask_17 : decode cX7_ask 17 = .ok (.ldc 70, 2) := by decide +kernel
theorem dX7_ask_19 : decode cX7_ask 19 = .ok (.ireturn, 1) := by decide +kernel
theorem dX7_ask_20 : decode cX7_ask 20 = .ok (.aload_n 0, 1) := by decide +kernel
theorem dX7_ask_21 : decode cX7_ask 21 = .ok (.getfield 54, 3) := by decide +kernel
theorem dX7_ask_24 : decode cX7_ask 24 = .ok (.aload_n 0, 1) := by decide +kernel
theorem dX7_ask_25 : decode cX7_ask 25 = .ok (.getfield 26, 3) := by decide +kernel
theorem dX7_ask_28 : decode cX7_ask 28 = .ok (.iload_n 1, 1) := by decide +kernel
theorem dX7_ask_29 : decode cX7_ask 29 = .ok (.iload_n 2, 1) := by decide +kernel
theorem dX7_ask_30 : decode cX7_ask 30 = .ok (.invokevirtual 261, 3) := by decide +kernel
theorem dX7_ask_33 : decode cX7_ask 33 = .ok (.ireturn, 1) := by decide +kernel
set_option maxRecDepth 20000 in
theorem ggX7_trace_X1_numberLeft : GoodIn wsX7_trace wsX1_numberLeft := goodIn_r _ [6, 7, 8, 9, 19, 20] (by decide +kernel) (by decide +kernel)
set_option maxRecDepth 20000 in
theorem gX7_trace_X1_numberLeft : GoodIn wsX7_trace (wsV RX7 265 RX1 yX1_numberLeft wsX1_numberLeft) := goodIn_app (goodIn_of _ (by decide +kernel)) ggX7_trace_X1_numberLeft
theorem dX7_trace_0 : decode cX7_trace 0 = .ok (.aload_n 0, 1) := by decide +kernel
theorem dX7_trace_1 : decode cX7_trace 1 = .ok (.getfield 54, 3) := by decide +kernel
theorem dX7_trace_4 : decode cX7_trace 4 = .ok (.iload_n 1, 1) := by decide +kernel
theorem dX7_trace_5 : decode cX7_trace 5 = .ok (.invokevirtual 265, 3) := by decide +kernel
theorem dX7_trace_8 : decode cX7_trace 8 = .ok (.ireturn, 1) := by decide +kernel
set_option maxRecDepth 20000 in
theorem ggX7_count_X5_howMany : GoodIn wsX7_count wsX5_howMany := goodIn_r _ [17, 18, 19, 20, 16, 21, 22, 63, 64, 65] (by decide +kernel) (by decide +kernel)
set_option maxRecDepth 20000 in
theorem gX7_count_X5_howMany : GoodIn wsX7_count (wsV RX7 268 RX5 yX5_howMany wsX5_howMany) := goodIn_app (goodIn_of _ (by decide +kernel)) ggX7_count_X5_howMany
set_option maxRecDepth 20000 in
theorem ggX7_count_J6_bitCount_0f7a4 : GoodIn wsX7_count wsJ6_bitCount_0f7a4 := goodIn_r _ [26, 27, 28, 29] (by decide +kernel) (by decide +kernel)
set_option maxRecDepth 20000 in
theorem gX7_count_J6_bitCount_0f7a4 : GoodIn wsX7_count (va_wsS RX7 275 yJ6_bitCount_0f7a4 wsJ6_bitCount_0f7a4) := goodIn_app (goodIn_of _ (by decide +kernel)) ggX7_count_J6_bitCount_0f7a4
theorem dX7_count_0 : decode cX7_count 0 = .ok (.iload_n 1, 1) := by decide +kernel
theorem dX7_count_1 : decode cX7_count 1 = .ok (.tableswitch 114 0 7 #[47, 55, 63, 71, 79, 87, 98, 106], 47) := by decide +kernel
theorem dX7_count_48 : decode cX7_count 48 = .ok (.aload_n 0, 1) := by decide +kernel
theorem dX7_count_49 : decode cX7_count 49 = .ok (.getfield 10, 3) := by decide +kernel
theorem dX7_count_52 : decode cX7_count 52 = .ok (.invokevirtual 268, 3) := by decide +kernel
theorem dX7_count_55 : decode cX7_count 55 = .ok (.ireturn, 1) := by decide +kernel
theorem dX7_count_56 : decode cX7_count 56 = .ok (.aload_n 0, 1) := by decide +kernel
theorem dX7_count_57 : decode cX7_count 57 = .ok (.getfield 26, 3) := by decide +kernel
theorem dX7_count_60 : decode cX7_count 60 = .ok (.getfield 238, 3) := by decide +kernel
theorem dX7_count_63 : decode cX7_count 63 = .ok (.ireturn, 1) := by decide +kernel
theorem dX7_count_64 : decode cX7_count 64 = .ok (.aload_n 0, 1) := by decide +kernel
theorem dX7_count_65 : decode cX7_count 65 = .ok (.getfield 26, 3) := by decide +kernel
theorem dX7_count_68 : decode cX7_count 68 = .ok (.getfield 129, 3) := by decide +kernel
theorem dX7_count_71 : decode cX7_count 71 = .ok (.ireturn, 1) := by decide +kernel
theorem dX7_count_72 : decode cX7_count 72 = .ok (.aload_n 0, 1) := by decide +kernel
theorem dX7_count_73 : decode cX7_count 73 = .ok (.getfield 26, 3) := by decide +kernel
theorem dX7_count_76 : decode cX7_count 76 = .ok (.getfield 149, 3) := by decide +kernel
theorem dX7_count_79 : decode cX7_count 79 = .ok (.ireturn, 1) := by decide +kernel
theorem dX7_count_80 : decode cX7_count 80 = .ok (.aload_n 0, 1) := by decide +kernel
theorem dX7_count_81 : decode cX7_count 81 = .ok (.getfield 26, 3) := by decide +kernel
theorem dX7_count_84 : decode cX7_count 84 = .ok (.getfield 272, 3) := by decide +kernel
theorem dX7_count_87 : decode cX7_count 87 = .ok (.ireturn, 1) := by decide +kernel
theorem dX7_count_88 : decode cX7_count 88 = .ok (.aload_n 0, 1) := by decide +kernel
theorem dX7_count_89 : decode cX7_count 89 = .ok (.getfield 26, 3) := by decide +kernel
theorem dX7_count_92 : decode cX7_count 92 = .ok (.getfield 173, 3) := by decide +kernel
theorem dX7_count_95 : decode cX7_count 95 = .ok (.invokestatic 275, 3) := by decide +kernel
theorem dX7_count_98 : decode cX7_count 98 = .ok (.ireturn, 1) := by decide +kernel
theorem dX7_count_99 : decode cX7_count 99 = .ok (.aload_n 0, 1) := by decide +kernel
theorem dX7_count_100 : decode cX7_count 100 = .ok (.getfield 40, 3) := by decide +kernel
theorem dX7_count_103 : decode cX7_count 103 = .ok (.getfield 176, 3) := by decide +kernel
theorem dX7_count_106 : decode cX7_count 106 = .ok (.ireturn, 1) := by decide +kernel
theorem dX7_count_107 : decode cX7_count 107 = .ok (.aload_n 0, 1) := by decide +kernel
theorem dX7_count_108 : decode cX7_count 108 = .ok (.getfield 19, 3) := by decide +kernel
theorem dX7_count_111 : decode cX7_count 111 = .ok (.getfield 280, 3) := by decide +kernel
theorem dX7_count_114 : decode cX7_count 114 = .ok (.ireturn, 1) := by decide +kernel
theorem dX7_count_115 : decode cX7_count 115 = .ok (.ldc 70, 2) := by decide +kernel
theorem dX7_count_117 : decode cX7_count 117 = .ok (.ireturn, 1) := by decide +kernel
theorem dX7_status_0 : decode cX7_status 0 = .ok (.aload_n 0, 1) := by decide +kernel
theorem dX7_status_1 : decode cX7_status 1 = .ok (.getfield 58, 3) := by decide +kernel
theorem dX7_status_4 : decode cX7_status 4 = .ok (.ireturn, 1) := by decide +kernel
theorem dX7_isWithin_0 : decode cX7_isWithin 0 = .ok (.iload_n 0, 1) := by decide +kernel
theorem dX7_isWithin_1 : decode cX7_isWithin 1 = .ok (.iload_n 1, 1) := by decide +kernel
theorem dX7_isWithin_2 : decode cX7_isWithin 2 = .ok (.if_icmp .lt 12, 3) := by decide +kernel
theorem dX7_isWithin_5 : decode cX7_isWithin 5 = .ok (.iload_n 0, 1) := by decide +kernel
theorem dX7_isWithin_6 : decode cX7_isWithin 6 = .ok (.iload_n 2, 1) := by decide +kernel
theorem dX7_isWithin_7 : decode cX7_isWithin 7 = .ok (.if_icmp .gt 7, 3) := by decide +kernel
theorem dX7_isWithin_10 : decode cX7_isWithin 10 = .ok (.iconst 1, 1) := by decide +kernel
theorem dX7_isWithin_11 : decode cX7_isWithin 11 = .ok (.goto 4, 3) := by decide +kernel
theorem dX7_isWithin_14 : decode cX7_isWithin 14 = .ok (.iconst 0, 1) := by decide +kernel
theorem dX7_isWithin_15 : decode cX7_isWithin 15 = .ok (.ireturn, 1) := by decide +kernel
set_option maxRecDepth 20000 in
theorem ggX7_isMeaning_X7_isWithin : GoodIn wsX7_isMeaning wsX7_isWithin := goodIn_r _ [4] (by decide +kernel) (by decide +kernel)
set_option maxRecDepth 20000 in
theorem gX7_isMeaning_X7_isWithin : GoodIn wsX7_isMeaning (va_wsS RX7 66 yX7_isWithin wsX7_isWithin) := goodIn_app (goodIn_of _ (by decide +kernel)) ggX7_isMeaning_X7_isWithin
theorem dX7_isMeaning_0 : decode cX7_isMeaning 0 = .ok (.iload_n 0, 1) := by decide +kernel
theorem dX7_isMeaning_1 : decode cX7_isMeaning 1 = .ok (.iconst 0, 1) := by decide +kernel
theorem dX7_isMeaning_2 : decode cX7_isMeaning 2 = .ok (.iconst 3, 1) := by decide +kernel
theorem dX7_isMeaning_3 : decode cX7_isMeaning 3 = .ok (.invokestatic 66, 3) := by decide +kernel
theorem dX7_isMeaning_6 : decode cX7_isMeaning 6 = .ok (.ireturn, 1) := by decide +kernel
theorem dX7_isGesture_0 : decode cX7_isGesture 0 = .ok (.iload_n 1, 1) := by decide +kernel
theorem dX7_isGesture_1 : decode cX7_isGesture 1 = .ok (.ifCond .lt 18, 3) := by decide +kernel
theorem dX7_isGesture_4 : decode cX7_isGesture 4 = .ok (.iload_n 1, 1) := by decide +kernel
theorem dX7_isGesture_5 : decode cX7_isGesture 5 = .ok (.aload_n 0, 1) := by decide +kernel
theorem dX7_isGesture_6 : decode cX7_isGesture 6 = .ok (.getfield 26, 3) := by decide +kernel
theorem dX7_isGesture_9 : decode cX7_isGesture 9 = .ok (.getfield 129, 3) := by decide +kernel
theorem dX7_isGesture_12 : decode cX7_isGesture 12 = .ok (.if_icmp .ge 7, 3) := by decide +kernel
theorem dX7_isGesture_15 : decode cX7_isGesture 15 = .ok (.iconst 1, 1) := by decide +kernel
theorem dX7_isGesture_16 : decode cX7_isGesture 16 = .ok (.goto 4, 3) := by decide +kernel
theorem dX7_isGesture_19 : decode cX7_isGesture 19 = .ok (.iconst 0, 1) := by decide +kernel
theorem dX7_isGesture_20 : decode cX7_isGesture 20 = .ok (.ireturn, 1) := by decide +kernel
theorem dX7_isStreet_0 : decode cX7_isStreet 0 = .ok (.iload_n 1, 1) := by decide +kernel
theorem dX7_isStreet_1 : decode cX7_isStreet 1 = .ok (.ifCond .lt 18, 3) := by decide +kernel
theorem dX7_isStreet_4 : decode cX7_isStreet 4 = .ok (.iload_n 1, 1) := by decide +kernel
theorem dX7_isStreet_5 : decode cX7_isStreet 5 = .ok (.aload_n 0, 1) := by decide +kernel
theorem dX7_isStreet_6 : decode cX7_isStreet 6 = .ok (.getfield 26, 3) := by decide +kernel
theorem dX7_isStreet_9 : decode cX7_isStreet 9 = .ok (.getfield 238, 3) := by decide +kernel
theorem dX7_isStreet_12 : decode cX7_isStreet 12 = .ok (.if_icmp .ge 7, 3) := by decide +kernel
theorem dX7_isStreet_15 : decode cX7_isStreet 15 = .ok (.iconst 1, 1) := by decide +kernel
theorem dX7_isStreet_16 : decode cX7_isStreet 16 = .ok (.goto 4, 3) := by decide +kernel
theorem dX7_isStreet_19 : decode cX7_isStreet 19 = .ok (.iconst 0, 1) := by decide +kernel
theorem dX7_isStreet_20 : decode cX7_isStreet 20 = .ok (.ireturn, 1) := by decide +kernel
set_option maxRecDepth 20000 in
theorem ggX7_isStretch_X7_isStreet : GoodIn wsX7_isStretch wsX7_isStreet := goodIn_r _ [5, 6, 7, 8, 9, 10, 11, 12, 13, 14, 15, 16, 17, 18, 19, 20, 21, 22, 23, 24, 25, 26, 27, 28, 29] (by decide +kernel) (by decide +kernel)
set_option maxRecDepth 20000 in
theorem gX7_isStretch_X7_isStreet : GoodIn wsX7_isStretch (wsV RX7 138 RX7 yX7_isStreet wsX7_isStreet) := goodIn_app (goodIn_of _ (by decide +kernel)) ggX7_isStretch_X7_isStreet
theorem dX7_isStretch_0 : decode cX7_isStretch 0 = .ok (.aload_n 0, 1) := by decide +kernel
theorem dX7_isStretch_1 : decode cX7_isStretch 1 = .ok (.iload_n 1, 1) := by decide +kernel
theorem dX7_isStretch_2 : decode cX7_isStretch 2 = .ok (.invokevirtual 138, 3) := by decide +kernel
theorem dX7_isStretch_5 : decode cX7_isStretch 5 = .ok (.ifCond .eq 20, 3) := by decide +kernel
theorem dX7_isStretch_8 : decode cX7_isStretch 8 = .ok (.aload_n 0, 1) := by decide +kernel
theorem dX7_isStretch_9 : decode cX7_isStretch 9 = .ok (.iload_n 2, 1) := by decide +kernel
theorem dX7_isStretch_10 : decode cX7_isStretch 10 = .ok (.invokevirtual 138, 3) := by decide +kernel
theorem dX7_isStretch_13 : decode cX7_isStretch 13 = .ok (.ifCond .eq 12, 3) := by decide +kernel
theorem dX7_isStretch_16 : decode cX7_isStretch 16 = .ok (.iload_n 1, 1) := by decide +kernel
theorem dX7_isStretch_17 : decode cX7_isStretch 17 = .ok (.iload_n 2, 1) := by decide +kernel
theorem dX7_isStretch_18 : decode cX7_isStretch 18 = .ok (.if_icmp .gt 7, 3) := by decide +kernel
theorem dX7_isStretch_21 : decode cX7_isStretch 21 = .ok (.iconst 1, 1) := by decide +kernel
theorem dX7_isStretch_22 : decode cX7_isStretch 22 = .ok (.goto 4, 3) := by decide +kernel
theorem dX7_isStretch_25 : decode cX7_isStretch 25 = .ok (.iconst 0, 1) := by decide +kernel
theorem dX7_isStretch_26 : decode cX7_isStretch 26 = .ok (.ireturn, 1) := by decide +kernel
theorem dX7_found_0 : decode cX7_found 0 = .ok (.aload_n 0, 1) := by decide +kernel
theorem dX7_found_1 : decode cX7_found 1 = .ok (.iload_n 1, 1) := by decide +kernel
theorem dX7_found_2 : decode cX7_found 2 = .ok (.putfield 58, 3) := by decide +kernel
theorem dX7_found_5 : decode cX7_found 5 = .ok (.ldc_w 283, 3) := by decide +kernel
theorem dX7_found_8 : decode cX7_found 8 = .ok (.iload_n 1, 1) := by decide +kernel
theorem dX7_found_9 : decode cX7_found 9 = .ok (.isub, 1) := by decide +kernel
theorem dX7_found_10 : decode cX7_found 10 = .ok (.ireturn, 1) := by decide +kernel
theorem dX7_foundNothing_0 : decode cX7_foundNothing 0 = .ok (.aload_n 0, 1) := by decide +kernel
theorem dX7_foundNothing_1 : decode cX7_foundNothing 1 = .ok (.iconst 0, 1) := by decide +kernel
theorem dX7_foundNothing_2 : decode cX7_foundNothing 2 = .ok (.putfield 58, 3) := by decide +kernel
theorem dX7_foundNothing_5 : decode cX7_foundNothing 5 = .ok (.iload_n 1, 1) := by decide +kernel
theorem dX7_foundNothing_6 : decode cX7_foundNothing 6 = .ok (.ireturn, 1) := by decide +kernel
set_option maxRecDepth 20000 in
theorem ggX7_refusalOfThread_X5_isRow : GoodIn wsX7_refusalOfThread wsX5_isRow := goodIn_r _ [6] (by decide +kernel) (by decide +kernel)
set_option maxRecDepth 20000 in
theorem gX7_refusalOfThread_X5_isRow : GoodIn wsX7_refusalOfThread (va_wsS RX7 62 yX5_isRow wsX5_isRow) := goodIn_app (goodIn_of _ (by decide +kernel)) ggX7_refusalOfThread_X5_isRow
set_option maxRecDepth 20000 in
theorem ggX7_refusalOfThread_X7_isWithin : GoodIn wsX7_refusalOfThread wsX7_isWithin := goodIn_r _ [10] (by decide +kernel) (by decide +kernel)
set_option maxRecDepth 20000 in
theorem gX7_refusalOfThread_X7_isWithin : GoodIn wsX7_refusalOfThread (va_wsS RX7 66 yX7_isWithin wsX7_isWithin) := goodIn_app (goodIn_of _ (by decide +kernel)) ggX7_refusalOfThread_X7_isWithin
set_option maxRecDepth 20000 in
theorem ggX7_refusalOfThread_X5_findingOf : GoodIn wsX7_refusalOfThread wsX5_findingOf := goodIn_r _ [14, 15, 16, 17, 5, 18, 19, 20, 21, 22, 23, 50, 51, 52] (by decide +kernel) (by decide +kernel)
set_option maxRecDepth 20000 in
theorem gX7_refusalOfThread_X5_findingOf : GoodIn wsX7_refusalOfThread (wsV RX7 82 RX5 yX5_findingOf wsX5_findingOf) := goodIn_app (goodIn_of _ (by decide +kernel)) ggX7_refusalOfThread_X5_findingOf
set_option maxRecDepth 20000 in
theorem ggX7_refusalOfThread_X7_found : GoodIn wsX7_refusalOfThread wsX7_found := goodIn_r _ [27, 28, 29, 41, 42, 43, 44, 45, 46, 47, 48, 49] (by decide +kernel) (by decide +kernel)
set_option maxRecDepth 20000 in
theorem gX7_refusalOfThread_X7_found : GoodIn wsX7_refusalOfThread (wsV RX7 71 RX7 yX7_found wsX7_found) := goodIn_app (goodIn_of _ (by decide +kernel)) ggX7_refusalOfThread_X7_found
set_option maxRecDepth 20000 in
theorem ggX7_refusalOfThread_X5_at : GoodIn wsX7_refusalOfThread wsX5_at := goodIn_r _ [33, 34, 50, 51, 52] (by decide +kernel) (by decide +kernel)
set_option maxRecDepth 20000 in
theorem gX7_refusalOfThread_X5_at : GoodIn wsX7_refusalOfThread (wsV RX7 284 RX5 yX5_at wsX5_at) := goodIn_app (goodIn_of _ (by decide +kernel)) ggX7_refusalOfThread_X5_at
set_option maxRecDepth 20000 in
theorem ggX7_refusalOfThread_X7_isStreet : GoodIn wsX7_refusalOfThread wsX7_isStreet := goodIn_r _ [38, 39, 40, 41, 42, 43, 44, 45, 46, 47, 48, 49, 53, 54, 55, 56, 57, 58, 59, 60, 61, 62, 63, 64, 65] (by decide +kernel) (by decide +kernel)
set_option maxRecDepth 20000 in
theorem gX7_refusalOfThread_X7_isStreet : GoodIn wsX7_refusalOfThread (wsV RX7 138 RX7 yX7_isStreet wsX7_isStreet) := goodIn_app (goodIn_of _ (by decide +kernel)) ggX7_refusalOfThread_X7_isStreet
theorem dX7_refusalOfThread_0 : decode cX7_refusalOfThread 0 = .ok (.iload_n 1, 1) := by decide +kernel
theorem dX7_refusalOfThread_1 : decode cX7_refusalOfThread 1 = .ok (.invokestatic 62, 3) := by decide +kernel
theorem dX7_refusalOfThread_4 : decode cX7_refusalOfThread 4 = .ok (.ifCond .eq 13, 3) := by decide +kernel
theorem dX7_refusalOfThread_7 : decode cX7_refusalOfThread 7 = .ok (.iload_n 3, 1) := by decide +kernel
theorem dX7_refusalOfThread_8 : decode cX7_refusalOfThread 8 = .ok (.iconst 1, 1) := by decide +kernel
theorem dX7_refusalOfThread_9 : decode cX7_refusalOfThread 9 = .ok (.bipush 12, 2) := by decide +kernel
theorem dX7_refusalOfThread_11 : decode cX7_refusalOfThread 11 = .ok (.invokestatic 66, 3) := by decide +kernel
theorem dX7_refusalOfThread_14 : decode cX7_refusalOfThread 14 = .ok (.ifCond .ne 6, 3) := by decide +kernel
theorem dX7_refusalOfThread_17 : decode cX7_refusalOfThread 17 = .ok (.ldc 70, 2) := by decide +kernel
theorem dX7_refusalOfThread_19 : decode cX7_refusalOfThread 19 = .ok (.ireturn, 1) := by decide +kernel
theorem dX7_refusalOfThread_20 : decode cX7_refusalOfThread 20 = .ok (.aload_n 0, 1) := by decide +kernel
theorem dX7_refusalOfThread_21 : decode cX7_refusalOfThread 21 = .ok (.getfield 10, 3) := by decide +kernel
theorem dX7_refusalOfThread_24 : decode cX7_refusalOfThread 24 = .ok (.iload_n 1, 1) := by decide +kernel
theorem dX7_refusalOfThread_25 : decode cX7_refusalOfThread 25 = .ok (.iload_n 2, 1) := by decide +kernel
theorem dX7_refusalOfThread_26 : decode cX7_refusalOfThread 26 = .ok (.iconst 2, 1) := by decide +kernel
theorem dX7_refusalOfThread_27 : decode cX7_refusalOfThread 27 = .ok (.iload_n 3, 1) := by decide +kernel
theorem dX7_refusalOfThread_28 : decode cX7_refusalOfThread 28 = .ok (.imul, 1) := by decide +kernel
theorem dX7_refusalOfThread_29 : decode cX7_refusalOfThread 29 = .ok (.invokevirtual 82, 3) := by decide +kernel
theorem dX7_refusalOfThread_32 : decode cX7_refusalOfThread 32 = .ok (.istore 4, 2) := by decide +kernel
theorem dX7_refusalOfThread_34 : decode cX7_refusalOfThread 34 = .ok (.iload 4, 2) := by decide +kernel
theorem dX7_refusalOfThread_36 : decode cX7_refusalOfThread 36 = .ok (.ifCond .eq 10, 3) := by decide +kernel
theorem dX7_refusalOfThread_39 : decode cX7_refusalOfThread 39 = .ok (.aload_n 0, 1) := by decide +kernel
theorem dX7_refusalOfThread_40 : decode cX7_refusalOfThread 40 = .ok (.iload 4, 2) := by decide +kernel
theorem dX7_refusalOfThread_42 : decode cX7_refusalOfThread 42 = .ok (.invokevirtual 71, 3) := by decide +kernel
theorem dX7_refusalOfThread_45 : decode cX7_refusalOfThread 45 = .ok (.ireturn, 1) := by decide +kernel
theorem dX7_refusalOfThread_46 : decode cX7_refusalOfThread 46 = .ok (.iconst 0, 1) := by decide +kernel
theorem dX7_refusalOfThread_47 : decode cX7_refusalOfThread 47 = .ok (.istore 5, 2) := by decide +kernel
theorem dX7_refusalOfThread_49 : decode cX7_refusalOfThread 49 = .ok (.iload 5, 2) := by decide +kernel
theorem dX7_refusalOfThread_51 : decode cX7_refusalOfThread 51 = .ok (.iload_n 3, 1) := by decide +kernel
theorem dX7_refusalOfThread_52 : decode cX7_refusalOfThread 52 = .ok (.if_icmp .ge 33, 3) := by decide +kernel
theorem dX7_refusalOfThread_55 : decode cX7_refusalOfThread 55 = .ok (.aload_n 0, 1) := by decide +kernel
theorem dX7_refusalOfThread_56 : decode cX7_refusalOfThread 56 = .ok (.aload_n 0, 1) := by decide +kernel
theorem dX7_refusalOfThread_57 : decode cX7_refusalOfThread 57 = .ok (.getfield 10, 3) := by decide +kernel
theorem dX7_refusalOfThread_60 : decode cX7_refusalOfThread 60 = .ok (.iload_n 1, 1) := by decide +kernel
theorem dX7_refusalOfThread_61 : decode cX7_refusalOfThread 61 = .ok (.iload_n 2, 1) := by decide +kernel
theorem dX7_refusalOfThread_62 : decode cX7_refusalOfThread 62 = .ok (.iconst 2, 1) := by decide +kernel
theorem dX7_refusalOfThread_63 : decode cX7_refusalOfThread 63 = .ok (.iload 5, 2) := by decide +kernel
theorem dX7_refusalOfThread_65 : decode cX7_refusalOfThread 65 = .ok (.imul, 1) := by decide +kernel
theorem dX7_refusalOfThread_66 : decode cX7_refusalOfThread 66 = .ok (.iadd, 1) := by decide +kernel
theorem dX7_refusalOfThread_67 : decode cX7_refusalOfThread 67 = .ok (.invokevirtual 284, 3) := by decide +kernel
theorem dX7_refusalOfThread_70 : decode cX7_refusalOfThread 70 = .ok (.invokevirtual 138, 3) := by decide +kernel
theorem dX7_refusalOfThread_73 : decode cX7_refusalOfThread 73 = .ok (.ifCond .ne 6, 3) := by decide +kernel
theorem dX7_refusalOfThread_76 : decode cX7_refusalOfThread 76 = .ok (.ldc 70, 2) := by decide +kernel
theorem dX7_refusalOfThread_78 : decode cX7_refusalOfThread 78 = .ok (.ireturn, 1) := by decide +kernel
theorem dX7_refusalOfThread_79 : decode cX7_refusalOfThread 79 = .ok (.iinc 5 1, 3) := by decide +kernel
theorem dX7_refusalOfThread_82 : decode cX7_refusalOfThread 82 = .ok (.goto (-33), 3) := by decide +kernel
theorem dX7_refusalOfThread_85 : decode cX7_refusalOfThread 85 = .ok (.iconst 0, 1) := by decide +kernel
theorem dX7_refusalOfThread_86 : decode cX7_refusalOfThread 86 = .ok (.ireturn, 1) := by decide +kernel
set_option maxRecDepth 20000 in
theorem ggX7_owesAlong_X5_at : GoodIn wsX7_owesAlong wsX5_at := goodIn_r _ [7, 8, 44, 45, 46] (by decide +kernel) (by decide +kernel)
set_option maxRecDepth 20000 in
theorem gX7_owesAlong_X5_at : GoodIn wsX7_owesAlong (wsV RX7 284 RX5 yX5_at wsX5_at) := goodIn_app (goodIn_of _ (by decide +kernel)) ggX7_owesAlong_X5_at
set_option maxRecDepth 20000 in
theorem ggX7_owesAlong_X7_isStreet : GoodIn wsX7_owesAlong wsX7_isStreet := goodIn_r _ [13, 2, 14, 35, 36, 37, 38, 39, 40, 41, 42, 43, 47, 48, 49, 50, 51, 52, 53, 54, 55, 56, 57, 58, 59] (by decide +kernel) (by decide +kernel)
set_option maxRecDepth 20000 in
theorem gX7_owesAlong_X7_isStreet : GoodIn wsX7_owesAlong (wsV RX7 138 RX7 yX7_isStreet wsX7_isStreet) := goodIn_app (goodIn_of _ (by decide +kernel)) ggX7_owesAlong_X7_isStreet
set_option maxRecDepth 20000 in
theorem ggX7_owesAlong_X2_owesSuch : GoodIn wsX7_owesAlong wsX2_owesSuch := goodIn_r _ [19, 20, 21, 22, 18, 23, 24, 25, 26, 27, 28, 29, 30, 31, 32, 33, 34, 47, 48, 49, 50, 51, 52, 53, 54, 55, 56, 57, 58, 59] (by decide +kernel) (by decide +kernel)
set_option maxRecDepth 20000 in
theorem gX7_owesAlong_X2_owesSuch : GoodIn wsX7_owesAlong (wsV RX7 287 RX2 yX2_owesSuch wsX2_owesSuch) := goodIn_app (goodIn_of _ (by decide +kernel)) ggX7_owesAlong_X2_owesSuch
theorem dX7_owesAlong_0 : decode cX7_owesAlong 0 = .ok (.iconst 0, 1) := by decide +kernel
theorem dX7_owesAlong_1 : decode cX7_owesAlong 1 = .ok (.istore 6, 2) := by decide +kernel
theorem dX7_owesAlong_3 : decode cX7_owesAlong 3 = .ok (.iload 6, 2) := by decide +kernel
theorem dX7_owesAlong_5 : decode cX7_owesAlong 5 = .ok (.iload 5, 2) := by decide +kernel
theorem dX7_owesAlong_7 : decode cX7_owesAlong 7 = .ok (.if_icmp .ge 72, 3) := by decide +kernel
theorem dX7_owesAlong_10 : decode cX7_owesAlong 10 = .ok (.aload_n 0, 1) := by decide +kernel
theorem dX7_owesAlong_11 : decode cX7_owesAlong 11 = .ok (.getfield 10, 3) := by decide +kernel
theorem dX7_owesAlong_14 : decode cX7_owesAlong 14 = .ok (.iload_n 3, 1) := by decide +kernel
theorem dX7_owesAlong_15 : decode cX7_owesAlong 15 = .ok (.iload 4, 2) := by decide +kernel
theorem dX7_owesAlong_17 : decode cX7_owesAlong 17 = .ok (.iconst 2, 1) := by decide +kernel
theorem dX7_owesAlong_18 : decode cX7_owesAlong 18 = .ok (.iload 6, 2) := by decide +kernel
theorem dX7_owesAlong_20 : decode cX7_owesAlong 20 = .ok (.imul, 1) := by decide +kernel
theorem dX7_owesAlong_21 : decode cX7_owesAlong 21 = .ok (.iadd, 1) := by decide +kernel
theorem dX7_owesAlong_22 : decode cX7_owesAlong 22 = .ok (.invokevirtual 284, 3) := by decide +kernel
theorem dX7_owesAlong_25 : decode cX7_owesAlong 25 = .ok (.istore 7, 2) := by decide +kernel
theorem dX7_owesAlong_27 : decode cX7_owesAlong 27 = .ok (.aload_n 0, 1) := by decide +kernel
theorem dX7_owesAlong_28 : decode cX7_owesAlong 28 = .ok (.getfield 10, 3) := by decide +kernel
theorem dX7_owesAlong_31 : decode cX7_owesAlong 31 = .ok (.iload_n 3, 1) := by decide +kernel
theorem dX7_owesAlong_32 : decode cX7_owesAlong 32 = .ok (.iload 4, 2) := by decide +kernel
theorem dX7_owesAlong_34 : decode cX7_owesAlong 34 = .ok (.iconst 2, 1) := by decide +kernel
theorem dX7_owesAlong_35 : decode cX7_owesAlong 35 = .ok (.iload 6, 2) := by decide +kernel
theorem dX7_owesAlong_37 : decode cX7_owesAlong 37 = .ok (.imul, 1) := by decide +kernel
theorem dX7_owesAlong_38 : decode cX7_owesAlong 38 = .ok (.iadd, 1) := by decide +kernel
theorem dX7_owesAlong_39 : decode cX7_owesAlong 39 = .ok (.iconst 1, 1) := by decide +kernel
theorem dX7_owesAlong_40 : decode cX7_owesAlong 40 = .ok (.iadd, 1) := by decide +kernel
theorem dX7_owesAlong_41 : decode cX7_owesAlong 41 = .ok (.invokevirtual 284, 3) := by decide +kernel
theorem dX7_owesAlong_44 : decode cX7_owesAlong 44 = .ok (.istore 8, 2) := by decide +kernel
theorem dX7_owesAlong_46 : decode cX7_owesAlong 46 = .ok (.aload_n 0, 1) := by decide +kernel
theorem dX7_owesAlong_47 : decode cX7_owesAlong 47 = .ok (.iload 7, 2) := by decide +kernel
theorem dX7_owesAlong_49 : decode cX7_owesAlong 49 = .ok (.invokevirtual 138, 3) := by decide +kernel
theorem dX7_owesAlong_52 : decode cX7_owesAlong 52 = .ok (.ifCond .eq 19, 3) := by decide +kernel
theorem dX7_owesAlong_55 : decode cX7_owesAlong 55 = .ok (.aload_n 0, 1) := by decide +kernel
theorem dX7_owesAlong_56 : decode cX7_owesAlong 56 = .ok (.getfield 26, 3) := by decide +kernel
theorem dX7_owesAlong_59 : decode cX7_owesAlong 59 = .ok (.iload_n 1, 1) := by decide +kernel
theorem dX7_owesAlong_60 : decode cX7_owesAlong 60 = .ok (.iload_n 2, 1) := by decide +kernel
theorem dX7_owesAlong_61 : decode cX7_owesAlong 61 = .ok (.iload 7, 2) := by decide +kernel
theorem dX7_owesAlong_63 : decode cX7_owesAlong 63 = .ok (.invokevirtual 287, 3) := by decide +kernel
theorem dX7_owesAlong_66 : decode cX7_owesAlong 66 = .ok (.iload 8, 2) := by decide +kernel
theorem dX7_owesAlong_68 : decode cX7_owesAlong 68 = .ok (.if_icmp .eq 5, 3) := by decide +kernel
theorem dX7_owesAlong_71 : decode cX7_owesAlong 71 = .ok (.iconst 0, 1) := by decide +kernel
theorem dX7_owesAlong_72 : decode cX7_owesAlong 72 = .ok (.ireturn, 1) := by decide +kernel
theorem dX7_owesAlong_73 : decode cX7_owesAlong 73 = .ok (.iinc 6 1, 3) := by decide +kernel
theorem dX7_owesAlong_76 : decode cX7_owesAlong 76 = .ok (.goto (-73), 3) := by decide +kernel
theorem dX7_owesAlong_79 : decode cX7_owesAlong 79 = .ok (.iconst 1, 1) := by decide +kernel
theorem dX7_owesAlong_80 : decode cX7_owesAlong 80 = .ok (.ireturn, 1) := by decide +kernel
set_option maxRecDepth 20000 in
theorem ggX7_isSeenAlong_X5_at : GoodIn wsX7_isSeenAlong wsX5_at := goodIn_r _ [7, 8, 32, 33, 34] (by decide +kernel) (by decide +kernel)
set_option maxRecDepth 20000 in
theorem gX7_isSeenAlong_X5_at : GoodIn wsX7_isSeenAlong (wsV RX7 284 RX5 yX5_at wsX5_at) := goodIn_app (goodIn_of _ (by decide +kernel)) ggX7_isSeenAlong_X5_at
set_option maxRecDepth 20000 in
theorem ggX7_isSeenAlong_X7_isStreet : GoodIn wsX7_isSeenAlong wsX7_isStreet := goodIn_r _ [13, 2, 14, 23, 24, 25, 26, 27, 28, 29, 30, 31, 35, 36, 37, 38, 39, 40, 41, 42, 43, 44, 45, 46, 47] (by decide +kernel) (by decide +kernel)
set_option maxRecDepth 20000 in
theorem gX7_isSeenAlong_X7_isStreet : GoodIn wsX7_isSeenAlong (wsV RX7 138 RX7 yX7_isStreet wsX7_isStreet) := goodIn_app (goodIn_of _ (by decide +kernel)) ggX7_isSeenAlong_X7_isStreet
set_option maxRecDepth 20000 in
theorem ggX7_isSeenAlong_X2_isSeen : GoodIn wsX7_isSeenAlong wsX2_isSeen := goodIn_r _ [19, 20, 21, 22, 35, 36, 37, 38, 39, 40, 41, 42, 43, 44, 45, 46, 47] (by decide +kernel) (by decide +kernel)
set_option maxRecDepth 20000 in
theorem gX7_isSeenAlong_X2_isSeen : GoodIn wsX7_isSeenAlong (wsV RX7 141 RX2 yX2_isSeen wsX2_isSeen) := goodIn_app (goodIn_of _ (by decide +kernel)) ggX7_isSeenAlong_X2_isSeen
theorem dX7_isSeenAlong_0 : decode cX7_isSeenAlong 0 = .ok (.iconst 0, 1) := by decide +kernel
theorem dX7_isSeenAlong_1 : decode cX7_isSeenAlong 1 = .ok (.istore 5, 2) := by decide +kernel
theorem dX7_isSeenAlong_3 : decode cX7_isSeenAlong 3 = .ok (.iload 5, 2) := by decide +kernel
theorem dX7_isSeenAlong_5 : decode cX7_isSeenAlong 5 = .ok (.iload 4, 2) := by decide +kernel
theorem dX7_isSeenAlong_7 : decode cX7_isSeenAlong 7 = .ok (.if_icmp .ge 49, 3) := by decide +kernel
theorem dX7_isSeenAlong_10 : decode cX7_isSeenAlong 10 = .ok (.aload_n 0, 1) := by decide +kernel
theorem dX7_isSeenAlong_11 : decode cX7_isSeenAlong 11 = .ok (.getfield 10, 3) := by decide +kernel
theorem dX7_isSeenAlong_14 : decode cX7_isSeenAlong 14 = .ok (.iload_n 2, 1) := by decide +kernel
theorem dX7_isSeenAlong_15 : decode cX7_isSeenAlong 15 = .ok (.iload_n 3, 1) := by decide +kernel
theorem dX7_isSeenAlong_16 : decode cX7_isSeenAlong 16 = .ok (.iconst 2, 1) := by decide +kernel
theorem dX7_isSeenAlong_17 : decode cX7_isSeenAlong 17 = .ok (.iload 5, 2) := by decide +kernel
theorem dX7_isSeenAlong_19 : decode cX7_isSeenAlong 19 = .ok (.imul, 1) := by decide +kernel
theorem dX7_isSeenAlong_20 : decode cX7_isSeenAlong 20 = .ok (.iadd, 1) := by decide +kernel
theorem dX7_isSeenAlong_21 : decode cX7_isSeenAlong 21 = .ok (.invokevirtual 284, 3) := by decide +kernel
theorem dX7_isSeenAlong_24 : decode cX7_isSeenAlong 24 = .ok (.istore 6, 2) := by decide +kernel
theorem dX7_isSeenAlong_26 : decode cX7_isSeenAlong 26 = .ok (.aload_n 0, 1) := by decide +kernel
theorem dX7_isSeenAlong_27 : decode cX7_isSeenAlong 27 = .ok (.iload 6, 2) := by decide +kernel
theorem dX7_isSeenAlong_29 : decode cX7_isSeenAlong 29 = .ok (.invokevirtual 138, 3) := by decide +kernel
theorem dX7_isSeenAlong_32 : decode cX7_isSeenAlong 32 = .ok (.ifCond .eq 16, 3) := by decide +kernel
theorem dX7_isSeenAlong_35 : decode cX7_isSeenAlong 35 = .ok (.aload_n 0, 1) := by decide +kernel
theorem dX7_isSeenAlong_36 : decode cX7_isSeenAlong 36 = .ok (.getfield 26, 3) := by decide +kernel
theorem dX7_isSeenAlong_39 : decode cX7_isSeenAlong 39 = .ok (.iload_n 1, 1) := by decide +kernel
theorem dX7_isSeenAlong_40 : decode cX7_isSeenAlong 40 = .ok (.iload 6, 2) := by decide +kernel
theorem dX7_isSeenAlong_42 : decode cX7_isSeenAlong 42 = .ok (.invokevirtual 141, 3) := by decide +kernel
theorem dX7_isSeenAlong_45 : decode cX7_isSeenAlong 45 = .ok (.ifCond .ne 5, 3) := by decide +kernel
theorem dX7_isSeenAlong_48 : decode cX7_isSeenAlong 48 = .ok (.iconst 0, 1) := by decide +kernel
theorem dX7_isSeenAlong_49 : decode cX7_isSeenAlong 49 = .ok (.ireturn, 1) := by decide +kernel
theorem dX7_isSeenAlong_50 : decode cX7_isSeenAlong 50 = .ok (.iinc 5 1, 3) := by decide +kernel
theorem dX7_isSeenAlong_53 : decode cX7_isSeenAlong 53 = .ok (.goto (-50), 3) := by decide +kernel
theorem dX7_isSeenAlong_56 : decode cX7_isSeenAlong 56 = .ok (.iconst 1, 1) := by decide +kernel
theorem dX7_isSeenAlong_57 : decode cX7_isSeenAlong 57 = .ok (.ireturn, 1) := by decide +kernel
set_option maxRecDepth 20000 in
theorem ggX7_tenthsWithin_X2_owesSuch : GoodIn wsX7_tenthsWithin wsX2_owesSuch := goodIn_r _ [7, 8, 9, 10, 6, 11, 12, 13, 14, 15, 16, 17, 18, 19, 20, 21, 22, 26, 27, 28, 29, 30, 31, 32, 33, 34, 35, 36, 37, 38] (by decide +kernel) (by decide +kernel)
set_option maxRecDepth 20000 in
theorem gX7_tenthsWithin_X2_owesSuch : GoodIn wsX7_tenthsWithin (wsV RX7 287 RX2 yX2_owesSuch wsX2_owesSuch) := goodIn_app (goodIn_of _ (by decide +kernel)) ggX7_tenthsWithin_X2_owesSuch
set_option maxRecDepth 20000 in
theorem ggX7_tenthsWithin_X7_tenthsWithin : GoodIn wsX7_tenthsWithin wsX7_tenthsWithin := goodIn_r _ [0, 1, 2, 3, 4, 5, 6, 7, 8, 9, 10, 11, 12, 13, 14, 15, 16, 17, 18, 19, 20, 21, 22, 23, 24, 25, 26, 27, 28, 29, 30, 31, 32, 33, 34, 35, 36, 37, 38] (by decide +kernel) (by decide +kernel)
set_option maxRecDepth 20000 in
theorem gX7_tenthsWithin_X7_tenthsWithin : GoodIn wsX7_tenthsWithin (va_wsS RX7 247 yX7_tenthsWithin wsX7_tenthsWithin) := goodIn_app (goodIn_of _ (by decide +kernel)) ggX7_tenthsWithin_X7_tenthsWithin
theorem dX7_tenthsWithin_0 : decode cX7_tenthsWithin 0 = .ok (.iload 4, 2) := by decide +kernel
theorem dX7_tenthsWithin_2 : decode cX7_tenthsWithin 2 = .ok (.ifCond .ge 5, 3) := by decide +kernel
theorem dX7_tenthsWithin_5 : decode cX7_tenthsWithin 5 = .ok (.iconst 0, 1) := by decide +kernel
theorem dX7_tenthsWithin_6 : decode cX7_tenthsWithin 6 = .ok (.ireturn, 1) := by decide +kernel
theorem dX7_tenthsWithin_7 : decode cX7_tenthsWithin 7 = .ok (.iload_n 2, 1) := by decide +kernel
theorem dX7_tenthsWithin_8 : decode cX7_tenthsWithin 8 = .ok (.iload_n 3, 1) := by decide +kernel
theorem dX7_tenthsWithin_9 : decode cX7_tenthsWithin 9 = .ok (.if_icmp .gt 13, 3) := by decide +kernel
theorem dX7_tenthsWithin_12 : decode cX7_tenthsWithin 12 = .ok (.iload_n 2, 1) := by decide +kernel
theorem dX7_tenthsWithin_13 : decode cX7_tenthsWithin 13 = .ok (.ifCond .lt 9, 3) := by decide +kernel
theorem dX7_tenthsWithin_16 : decode cX7_tenthsWithin 16 = .ok (.iload_n 2, 1) := by decide +kernel
theorem dX7_tenthsWithin_17 : decode cX7_tenthsWithin 17 = .ok (.bipush 7, 2) := by decide +kernel
theorem dX7_tenthsWithin_19 : decode cX7_tenthsWithin 19 = .ok (.if_icmp .lt 5, 3) := by decide +kernel
theorem dX7_tenthsWithin_22 : decode cX7_tenthsWithin 22 = .ok (.iconst 1, 1) := by decide +kernel
theorem dX7_tenthsWithin_23 : decode cX7_tenthsWithin 23 = .ok (.ireturn, 1) := by decide +kernel
theorem dX7_tenthsWithin_24 : decode cX7_tenthsWithin 24 = .ok (.aload_n 0, 1) := by decide +kernel
theorem dX7_tenthsWithin_25 : decode cX7_tenthsWithin 25 = .ok (.getfield 225, 3) := by decide +kernel
theorem dX7_tenthsWithin_28 : decode cX7_tenthsWithin 28 = .ok (.iload_n 1, 1) := by decide +kernel
theorem dX7_tenthsWithin_29 : decode cX7_tenthsWithin 29 = .ok (.iaload, 1) := by decide +kernel
theorem dX7_tenthsWithin_30 : decode cX7_tenthsWithin 30 = .ok (.istore 6, 2) := by decide +kernel
theorem dX7_tenthsWithin_32 : decode cX7_tenthsWithin 32 = .ok (.aload_n 0, 1) := by decide +kernel
theorem dX7_tenthsWithin_33 : decode cX7_tenthsWithin 33 = .ok (.getfield 163, 3) := by decide +kernel
theorem dX7_tenthsWithin_36 : decode cX7_tenthsWithin 36 = .ok (.iload_n 1, 1) := by decide +kernel
theorem dX7_tenthsWithin_37 : decode cX7_tenthsWithin 37 = .ok (.iaload, 1) := by decide +kernel
theorem dX7_tenthsWithin_38 : decode cX7_tenthsWithin 38 = .ok (.istore 7, 2) := by decide +kernel
theorem dX7_tenthsWithin_40 : decode cX7_tenthsWithin 40 = .ok (.iload 4, 2) := by decide +kernel
theorem dX7_tenthsWithin_42 : decode cX7_tenthsWithin 42 = .ok (.aload_n 0, 1) := by decide +kernel
theorem dX7_tenthsWithin_43 : decode cX7_tenthsWithin 43 = .ok (.iload 6, 2) := by decide +kernel
theorem dX7_tenthsWithin_45 : decode cX7_tenthsWithin 45 = .ok (.iload 7, 2) := by decide +kernel
theorem dX7_tenthsWithin_47 : decode cX7_tenthsWithin 47 = .ok (.iload_n 2, 1) := by decide +kernel
theorem dX7_tenthsWithin_48 : decode cX7_tenthsWithin 48 = .ok (.invokevirtual 287, 3) := by decide +kernel
theorem dX7_tenthsWithin_51 : decode cX7_tenthsWithin 51 = .ok (.isub, 1) := by decide +kernel
theorem dX7_tenthsWithin_52 : decode cX7_tenthsWithin 52 = .ok (.istore 8, 2) := by decide +kernel
theorem dX7_tenthsWithin_54 : decode cX7_tenthsWithin 54 = .ok (.iload 4, 2) := by decide +kernel
theorem dX7_tenthsWithin_56 : decode cX7_tenthsWithin 56 = .ok (.aload_n 0, 1) := by decide +kernel
theorem dX7_tenthsWithin_57 : decode cX7_tenthsWithin 57 = .ok (.iload 6, 2) := by decide +kernel
theorem dX7_tenthsWithin_59 : decode cX7_tenthsWithin 59 = .ok (.iload 7, 2) := by decide +kernel
theorem dX7_tenthsWithin_61 : decode cX7_tenthsWithin 61 = .ok (.iconst 1, 1) := by decide +kernel
theorem dX7_tenthsWithin_62 : decode cX7_tenthsWithin 62 = .ok (.iadd, 1) := by decide +kernel
theorem dX7_tenthsWithin_63 : decode cX7_tenthsWithin 63 = .ok (.iload_n 2, 1) := by decide +kernel
theorem dX7_tenthsWithin_64 : decode cX7_tenthsWithin 64 = .ok (.invokevirtual 287, 3) := by decide +kernel
theorem dX7_tenthsWithin_67 : decode cX7_tenthsWithin 67 = .ok (.isub, 1) := by decide +kernel
theorem dX7_tenthsWithin_68 : decode cX7_tenthsWithin 68 = .ok (.istore 9, 2) := by decide +kernel
theorem dX7_tenthsWithin_70 : decode cX7_tenthsWithin 70 = .ok (.bipush 10, 2) := by decide +kernel
theorem dX7_tenthsWithin_72 : decode cX7_tenthsWithin 72 = .ok (.iload 5, 2) := by decide +kernel
theorem dX7_tenthsWithin_74 : decode cX7_tenthsWithin 74 = .ok (.isub, 1) := by decide +kernel
theorem dX7_tenthsWithin_75 : decode cX7_tenthsWithin 75 = .ok (.aload_n 0, 1) := by decide +kernel
theorem dX7_tenthsWithin_76 : decode cX7_tenthsWithin 76 = .ok (.iload_n 1, 1) := by decide +kernel
theorem dX7_tenthsWithin_77 : decode cX7_tenthsWithin 77 = .ok (.iload_n 2, 1) := by decide +kernel
theorem dX7_tenthsWithin_78 : decode cX7_tenthsWithin 78 = .ok (.iconst 1, 1) := by decide +kernel
theorem dX7_tenthsWithin_79 : decode cX7_tenthsWithin 79 = .ok (.iadd, 1) := by decide +kernel
theorem dX7_tenthsWithin_80 : decode cX7_tenthsWithin 80 = .ok (.iload_n 3, 1) := by decide +kernel
theorem dX7_tenthsWithin_81 : decode cX7_tenthsWithin 81 = .ok (.iload 8, 2) := by decide +kernel
theorem dX7_tenthsWithin_83 : decode cX7_tenthsWithin 83 = .ok (.iload 5, 2) := by decide +kernel
theorem dX7_tenthsWithin_85 : decode cX7_tenthsWithin 85 = .ok (.invokestatic 247, 3) := by decide +kernel
theorem dX7_tenthsWithin_88 : decode cX7_tenthsWithin 88 = .ok (.imul, 1) := by decide +kernel
theorem dX7_tenthsWithin_89 : decode cX7_tenthsWithin 89 = .ok (.iload 5, 2) := by decide +kernel
theorem dX7_tenthsWithin_91 : decode cX7_tenthsWithin 91 = .ok (.aload_n 0, 1) := by decide +kernel
theorem dX7_tenthsWithin_92 : decode cX7_tenthsWithin 92 = .ok (.iload_n 1, 1) := by decide +kernel
theorem dX7_tenthsWithin_93 : decode cX7_tenthsWithin 93 = .ok (.iload_n 2, 1) := by decide +kernel
theorem dX7_tenthsWithin_94 : decode cX7_tenthsWithin 94 = .ok (.iconst 1, 1) := by decide +kernel
theorem dX7_tenthsWithin_95 : decode cX7_tenthsWithin 95 = .ok (.iadd, 1) := by decide +kernel
theorem dX7_tenthsWithin_96 : decode cX7_tenthsWithin 96 = .ok (.iload_n 3, 1) := by decide +kernel
theorem dX7_tenthsWithin_97 : decode cX7_tenthsWithin 97 = .ok (.iload 9, 2) := by decide +kernel
theorem dX7_tenthsWithin_99 : decode cX7_tenthsWithin 99 = .ok (.iload 5, 2) := by decide +kernel
theorem dX7_tenthsWithin_101 : decode cX7_tenthsWithin 101 = .ok (.invokestatic 247, 3) := by decide +kernel
theorem dX7_tenthsWithin_104 : decode cX7_tenthsWithin 104 = .ok (.imul, 1) := by decide +kernel
theorem dX7_tenthsWithin_105 : decode cX7_tenthsWithin 105 = .ok (.iadd, 1) := by decide +kernel
theorem dX7_tenthsWithin_106 : decode cX7_tenthsWithin 106 = .ok (.ireturn, 1) := by decide +kernel
theorem dX7_commonDivisor_0 : decode cX7_commonDivisor 0 = .ok (.iload_n 0, 1) := by decide +kernel
theorem dX7_commonDivisor_1 : decode cX7_commonDivisor 1 = .ok (.istore_n 2, 1) := by decide +kernel
theorem dX7_commonDivisor_2 : decode cX7_commonDivisor 2 = .ok (.iload_n 1, 1) := by decide +kernel
theorem dX7_commonDivisor_3 : decode cX7_commonDivisor 3 = .ok (.istore_n 3, 1) := by decide +kernel
theorem dX7_commonDivisor_4 : decode cX7_commonDivisor 4 = .ok (.iconst 0, 1) := by decide +kernel
theorem dX7_commonDivisor_5 : decode cX7_commonDivisor 5 = .ok (.istore 4, 2) := by decide +kernel
theorem dX7_commonDivisor_7 : decode cX7_commonDivisor 7 = .ok (.iload 4, 2) := by decide +kernel
theorem dX7_commonDivisor_9 : decode cX7_commonDivisor 9 = .ok (.bipush 100, 2) := by decide +kernel
theorem dX7_commonDivisor_11 : decode cX7_commonDivisor 11 = .ok (.if_icmp .ge 23, 3) := by decide +kernel
theorem dX7_commonDivisor_14 : decode cX7_commonDivisor 14 = .ok (.iload_n 3, 1) := by decide +kernel
theorem dX7_commonDivisor_15 : decode cX7_commonDivisor 15 = .ok (.ifCond .eq 19, 3) := by decide +kernel
theorem dX7_commonDivisor_18 : decode cX7_commonDivisor 18 = .ok (.iload_n 2, 1) := by decide +kernel
theorem dX7_commonDivisor_19 : decode cX7_commonDivisor 19 = .ok (.iload_n 3, 1) := by decide +kernel
theorem dX7_commonDivisor_20 : decode cX7_commonDivisor 20 = .ok (.irem, 1) := by decide +kernel
theorem dX7_commonDivisor_21 : decode cX7_commonDivisor 21 = .ok (.istore 5, 2) := by decide +kernel
theorem dX7_commonDivisor_23 : decode cX7_commonDivisor 23 = .ok (.iload_n 3, 1) := by decide +kernel
theorem dX7_commonDivisor_24 : decode cX7_commonDivisor 24 = .ok (.istore_n 2, 1) := by decide +kernel
theorem dX7_commonDivisor_25 : decode cX7_commonDivisor 25 = .ok (.iload 5, 2) := by decide +kernel
theorem dX7_commonDivisor_27 : decode cX7_commonDivisor 27 = .ok (.istore_n 3, 1) := by decide +kernel
theorem dX7_commonDivisor_28 : decode cX7_commonDivisor 28 = .ok (.iinc 4 1, 3) := by decide +kernel
theorem dX7_commonDivisor_31 : decode cX7_commonDivisor 31 = .ok (.goto (-24), 3) := by decide +kernel
theorem dX7_commonDivisor_34 : decode cX7_commonDivisor 34 = .ok (.iload_n 2, 1) := by decide +kernel
theorem dX7_commonDivisor_35 : decode cX7_commonDivisor 35 = .ok (.ireturn, 1) := by decide +kernel
