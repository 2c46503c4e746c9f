theorem dX8_init_0 : decode cX8_init 0 = .ok (.aload_n 0, 1) := by decide +kernel
theorem dX8_init_1 : decode cX8_init 1 = .ok (.invokespecial 1, 3) := by decide +kernel
theorem dX8_init_4 : decode cX8_init 4 = .ok (.aload_n 0, 1) := by decide +kernel
theorem dX8_init_5 : decode cX8_init 5 = .ok (.sipush 1372, 3) := by decide +kernel
theorem dX8_init_8 : decode cX8_init 8 = .ok (.newarray .int, 2) := by decide +kernel
theorem dX8_init_10 : decode cX8_init 10 = .ok (.putfield 7, 3) := by decide +kernel
theorem dX8_init_13 : decode cX8_init 13 = .ok (.aload_n 0, 1) := by decide +kernel
theorem dX8_init_14 : decode cX8_init 14 = .ok (.iconst 2, 1) := by decide +kernel
theorem dX8_init_15 : decode cX8_init 15 = .ok (.newarray .boolean, 2) := by decide +kernel
theorem dX8_init_17 : decode cX8_init 17 = .ok (.putfield 13, 3) := by decide +kernel
theorem dX8_init_20 : decode cX8_init 20 = .ok (.aload_n 0, 1) := by decide +kernel
theorem dX8_init_21 : decode cX8_init 21 = .ok (.bipush 8, 2) := by decide +kernel
theorem dX8_init_23 : decode cX8_init 23 = .ok (.newarray .int, 2) := by decide +kernel
theorem dX8_init_25 : decode cX8_init 25 = .ok (.putfield 17, 3) := by decide +kernel
theorem dX8_init_28 : decode cX8_init 28 = .ok (.aload_n 0, 1) := by decide +kernel
theorem dX8_init_29 : decode cX8_init 29 = .ok (.bipush 8, 2) := by decide +kernel
theorem dX8_init_31 : decode cX8_init 31 = .ok (.newarray .int, 2) := by decide +kernel
theorem dX8_init_33 : decode cX8_init 33 = .ok (.dup, 1) := by decide +kernel
theorem dX8_init_34 : decode cX8_init 34 = .ok (.iconst 0, 1) := by decide +kernel
theorem dX8_init_35 : decode cX8_init 35 = .ok (.iconst (-1), 1) := by decide +kernel
theorem dX8_init_36 : decode cX8_init 36 = .ok (.iastore, 1) := by decide +kernel
theorem dX8_init_37 : decode cX8_init 37 = .ok (.dup, 1) := by decide +kernel
theorem dX8_init_38 : decode cX8_init 38 = .ok (.iconst 1, 1) := by decide +kernel
theorem dX8_init_39 : decode cX8_init 39 = .ok (.iconst (-1), 1) := by decide +kernel
theorem dX8_init_40 : decode cX8_init 40 = .ok (.iastore, 1) := by decide +kernel
theorem dX8_init_41 : decode cX8_init 41 = .ok (.dup, 1) := by decide +kernel
theorem dX8_init_42 : decode cX8_init 42 = .ok (.iconst 2, 1) := by decide +kernel
theorem dX8_init_43 : decode cX8_init 43 = .ok (.iconst (-1), 1) := by decide +kernel
theorem dX8_init_44 : decode cX8_init 44 = .ok (.iastore, 1) := by decide +kernel
theorem dX8_init_45 : decode cX8_init 45 = .ok (.dup, 1) := by decide +kernel
theorem dX8_init_46 : decode cX8_init 46 = .ok (.iconst 3, 1) := by decide +kernel
theorem dX8_init_47 : decode cX8_init 47 = .ok (.iconst (-1), 1) := by decide +kernel
theorem dX8_init_48 : decode cX8_init 48 = .ok (.iastore, 1) := by decide +kernel
theorem dX8_init_49 : decode cX8_init 49 = .ok (.dup, 1) := by decide +kernel
theorem dX8_init_50 : decode cX8_init 50 = .ok (.iconst 4, 1) := by decide +kernel
theorem dX8_init_51 : decode cX8_init 51 = .ok (.iconst (-1), 1) := by decide +kernel
theorem dX8_init_52 : decode cX8_init 52 = .ok (.iastore, 1) := by decide +kernel
theorem dX8_init_53 : decode cX8_init 53 = .ok (.dup, 1) := by decide +kernel
theorem dX8_init_54 : decode cX8_init 54 = .ok (.iconst 5, 1) := by decide +kernel
theorem dX8_init_55 : decode cX8_init 55 = .ok (.iconst (-1), 1) := by decide +kernel
theorem dX8_init_56 : decode cX8_init 56 = .ok (.iastore, 1) := by decide +kernel
theorem dX8_init_57 : decode cX8_init 57 = .ok (.dup, 1) := by decide +kernel
theorem dX8_init_58 : decode cX8_init 58 = .ok (.bipush 6, 2) := by decide +kernel
theorem dX8_init_60 : decode cX8_init 60 = .ok (.iconst (-1), 1) := by decide +kernel
theorem dX8_init_61 : decode cX8_init 61 = .ok (.iastore, 1) := by decide +kernel
theorem dX8_init_62 : decode cX8_init 62 = .ok (.dup, 1) := by decide +kernel
theorem dX8_init_63 : decode cX8_init 63 = .ok (.bipush 7, 2) := by decide +kernel
theorem dX8_init_65 : decode cX8_init 65 = .ok (.iconst (-1), 1) := by decide +kernel
theorem dX8_init_66 : decode cX8_init 66 = .ok (.iastore, 1) := by decide +kernel
theorem dX8_init_67 : decode cX8_init 67 = .ok (.putfield 20, 3) := by decide +kernel
theorem dX8_init_70 : decode cX8_init 70 = .ok (.aload_n 0, 1) := by decide +kernel
theorem dX8_init_71 : decode cX8_init 71 = .ok (.sipush 320, 3) := by decide +kernel
theorem dX8_init_74 : decode cX8_init 74 = .ok (.newarray .int, 2) := by decide +kernel
theorem dX8_init_76 : decode cX8_init 76 = .ok (.putfield 23, 3) := by decide +kernel
theorem dX8_init_79 : decode cX8_init 79 = .ok (.aload_n 0, 1) := by decide +kernel
theorem dX8_init_80 : decode cX8_init 80 = .ok (.bipush 120, 2) := by decide +kernel
theorem dX8_init_82 : decode cX8_init 82 = .ok (.newarray .int, 2) := by decide +kernel
theorem dX8_init_84 : decode cX8_init 84 = .ok (.putfield 26, 3) := by decide +kernel
theorem dX8_init_87 : decode cX8_init 87 = .ok (.aload_n 0, 1) := by decide +kernel
theorem dX8_init_88 : decode cX8_init 88 = .ok (.bipush 16, 2) := by decide +kernel
theorem dX8_init_90 : decode cX8_init 90 = .ok (.newarray .int, 2) := by decide +kernel
theorem dX8_init_92 : decode cX8_init 92 = .ok (.putfield 29, 3) := by decide +kernel
theorem dX8_init_95 : decode cX8_init 95 = .ok (.aload_n 0, 1) := by decide +kernel
theorem dX8_init_96 : decode cX8_init 96 = .ok (.sipush 800, 3) := by decide +kernel
theorem dX8_init_99 : decode cX8_init 99 = .ok (.newarray .int, 2) := by decide +kernel
theorem dX8_init_101 : decode cX8_init 101 = .ok (.putfield 32, 3) := by decide +kernel
theorem dX8_init_104 : decode cX8_init 104 = .ok (.return_, 1) := by decide +kernel
theorem dX8_in_0 : decode cX8_in 0 = .ok (.lload_n 0, 1) := by decide +kernel
theorem dX8_in_1 : decode cX8_in 1 = .ok (.lload_n 2, 1) := by decide +kernel
theorem dX8_in_2 : decode cX8_in 2 = .ok (.lcmp, 1) := by decide +kernel
theorem dX8_in_3 : decode cX8_in 3 = .ok (.ifCond .lt 14, 3) := by decide +kernel
theorem dX8_in_6 : decode cX8_in 6 = .ok (.lload_n 0, 1) := by decide +kernel
theorem dX8_in_7 : decode cX8_in 7 = .ok (.lload 4, 2) := by decide +kernel
theorem dX8_in_9 : decode cX8_in 9 = .ok (.lcmp, 1) := by decide +kernel
theorem dX8_in_10 : decode cX8_in 10 = .ok (.ifCond .gt 7, 3) := by decide +kernel
theorem dX8_in_13 : decode cX8_in 13 = .ok (.iconst 1, 1) := by decide +kernel
theorem dX8_in_14 : decode cX8_in 14 = .ok (.goto 4, 3) := by decide +kernel
theorem dX8_in_17 : decode cX8_in 17 = .ok (.iconst 0, 1) := by decide +kernel
theorem dX8_in_18 : decode cX8_in 18 = .ok (.ireturn, 1) := by decide +kernel
theorem dX8_has_0 : decode cX8_has 0 = .ok (.iload_n 0, 1) := by decide +kernel
theorem dX8_has_1 : decode cX8_has 1 = .ok (.iload_n 1, 1) := by decide +kernel
theorem dX8_has_2 : decode cX8_has 2 = .ok (.ishr, 1) := by decide +kernel
theorem dX8_has_3 : decode cX8_has 3 = .ok (.iconst 1, 1) := by decide +kernel
theorem dX8_has_4 : decode cX8_has 4 = .ok (.iand, 1) := by decide +kernel
theorem dX8_has_5 : decode cX8_has 5 = .ok (.iconst 1, 1) := by decide +kernel
theorem dX8_has_6 : decode cX8_has 6 = .ok (.if_icmp .ne 7, 3) := by decide +kernel
theorem dX8_has_9 : decode cX8_has 9 = .ok (.iconst 1, 1) := by decide +kernel
theorem dX8_has_10 : decode cX8_has 10 = .ok (.goto 4, 3) := by decide +kernel
theorem dX8_has_13 : decode cX8_has 13 = .ok (.iconst 0, 1) := by decide +kernel
theorem dX8_has_14 : decode cX8_has 14 = .ok (.ireturn, 1) := by decide +kernel
theorem dX8_bits_0 : decode cX8_bits 0 = .ok (.iconst 0, 1) := by decide +kernel
theorem dX8_bits_1 : decode cX8_bits 1 = .ok (.istore_n 1, 1) := by decide +kernel
theorem dX8_bits_2 : decode cX8_bits 2 = .ok (.iconst 0, 1) := by decide +kernel
theorem dX8_bits_3 : decode cX8_bits 3 = .ok (.istore_n 2, 1) := by decide +kernel
theorem dX8_bits_4 : decode cX8_bits 4 = .ok (.iload_n 2, 1) := by decide +kernel
theorem dX8_bits_5 : decode cX8_bits 5 = .ok (.bipush 7, 2) := by decide +kernel
theorem dX8_bits_7 : decode cX8_bits 7 = .ok (.if_icmp .ge 17, 3) := by decide +kernel
theorem dX8_bits_10 : decode cX8_bits 10 = .ok (.iload_n 1, 1) := by decide +kernel
theorem dX8_bits_11 : decode cX8_bits 11 = .ok (.iload_n 0, 1) := by decide +kernel
theorem dX8_bits_12 : decode cX8_bits 12 = .ok (.iload_n 2, 1) := by decide +kernel
theorem dX8_bits_13 : decode cX8_bits 13 = .ok (.ishr, 1) := by decide +kernel
theorem dX8_bits_14 : decode cX8_bits 14 = .ok (.iconst 1, 1) := by decide +kernel
theorem dX8_bits_15 : decode cX8_bits 15 = .ok (.iand, 1) := by decide +kernel
theorem dX8_bits_16 : decode cX8_bits 16 = .ok (.iadd, 1) := by decide +kernel
theorem dX8_bits_17 : decode cX8_bits 17 = .ok (.istore_n 1, 1) := by decide +kernel
theorem dX8_bits_18 : decode cX8_bits 18 = .ok (.iinc 2 1, 3) := by decide +kernel
theorem dX8_bits_21 : decode cX8_bits 21 = .ok (.goto (-17), 3) := by decide +kernel
theorem dX8_bits_24 : decode cX8_bits 24 = .ok (.iload_n 1, 1) := by decide +kernel
theorem dX8_bits_25 : decode cX8_bits 25 = .ok (.ireturn, 1) := by decide +kernel
theorem dX8_find_0 : decode cX8_find 0 = .ok (.aload_n 0, 1) := by decide +kernel
theorem dX8_find_1 : decode cX8_find 1 = .ok (.iload_n 1, 1) := by decide +kernel
theorem dX8_find_2 : decode cX8_find 2 = .ok (.putfield 35, 3) := by decide +kernel
theorem dX8_find_5 : decode cX8_find 5 = .ok (.ldc 39, 2) := by decide +kernel
theorem dX8_find_7 : decode cX8_find 7 = .ok (.iload_n 1, 1) := by decide +kernel
theorem dX8_find_8 : decode cX8_find 8 = .ok (.isub, 1) := by decide +kernel
theorem dX8_find_9 : decode cX8_find 9 = .ok (.ireturn, 1) := by decide +kernel
theorem dX8_well_0 : decode cX8_well 0 = .ok (.aload_n 0, 1) := by decide +kernel
theorem dX8_well_1 : decode cX8_well 1 = .ok (.iconst 0, 1) := by decide +kernel
theorem dX8_well_2 : decode cX8_well 2 = .ok (.putfield 35, 3) := by decide +kernel
theorem dX8_well_5 : decode cX8_well 5 = .ok (.iload_n 1, 1) := by decide +kernel
theorem dX8_well_6 : decode cX8_well 6 = .ok (.ireturn, 1) := by decide +kernel
set_option maxRecDepth 20000 in
theorem ggX8_isRow_X8_in : GoodIn wsX8_isRow wsX8_in := goodIn_r _ [5] (by decide +kernel) (by decide +kernel)
set_option maxRecDepth 20000 in
theorem gX8_isRow_X8_in : GoodIn wsX8_isRow (va_wsS RX8 42 yX8_in wsX8_in) := goodIn_app (goodIn_of _ (by decide +kernel)) ggX8_isRow_X8_in
theorem dX8_isRow_0 : decode cX8_isRow 0 = .ok (.iload_n 0, 1) := by decide +kernel
theorem dX8_isRow_1 : decode cX8_isRow 1 = .ok (.i2l, 1) := by decide +kernel
theorem dX8_isRow_2 : decode cX8_isRow 2 = .ok (.lconst 0, 1) := by decide +kernel
theorem dX8_isRow_3 : decode cX8_isRow 3 = .ok (.ldc2_w 40, 3) := by decide +kernel
theorem dX8_isRow_6 : decode cX8_isRow 6 = .ok (.invokestatic 42, 3) := by decide +kernel
theorem dX8_isRow_9 : decode cX8_isRow 9 = .ok (.ireturn, 1) := by decide +kernel
set_option maxRecDepth 20000 in
theorem ggX8_row_X8_isRow : GoodIn wsX8_row wsX8_isRow := goodIn_r _ [9, 10, 11, 12, 8, 13] (by decide +kernel) (by decide +kernel)
set_option maxRecDepth 20000 in
theorem gX8_row_X8_isRow : GoodIn wsX8_row (va_wsS RX8 46 yX8_isRow wsX8_isRow) := goodIn_app (goodIn_of _ (by decide +kernel)) ggX8_row_X8_isRow
set_option maxRecDepth 20000 in
theorem ggX8_row_X8_in : GoodIn wsX8_row wsX8_in := goodIn_r _ [13] (by decide +kernel) (by decide +kernel)
set_option maxRecDepth 20000 in
theorem gX8_row_X8_in : GoodIn wsX8_row (va_wsS RX8 42 yX8_in wsX8_in) := goodIn_app (goodIn_of _ (by decide +kernel)) ggX8_row_X8_in
set_option maxRecDepth 20000 in
theorem ggX8_row_X8_find : GoodIn wsX8_row wsX8_find := goodIn_r _ [17, 18, 19, 24, 25, 26, 27, 28, 29, 30, 31, 32, 33, 34, 35, 36, 37, 38, 39, 40] (by decide +kernel) (by decide +kernel)
set_option maxRecDepth 20000 in
theorem gX8_row_X8_find : GoodIn wsX8_row (wsV RX8 53 RX8 yX8_find wsX8_find) := goodIn_app (goodIn_of _ (by decide +kernel)) ggX8_row_X8_find
set_option maxRecDepth 20000 in
theorem ggX8_row_X8_well : GoodIn wsX8_row wsX8_well := goodIn_r _ [23, 18, 24, 25, 26, 27, 28, 29, 30, 31, 32, 33, 34, 35, 36, 37, 38, 39, 40] (by decide +kernel) (by decide +kernel)
set_option maxRecDepth 20000 in
theorem gX8_row_X8_well : GoodIn wsX8_row (wsV RX8 57 RX8 yX8_well wsX8_well) := goodIn_app (goodIn_of _ (by decide +kernel)) ggX8_row_X8_well
theorem dX8_row_0 : decode cX8_row 0 = .ok (.iload_n 1, 1) := by decide +kernel
theorem dX8_row_1 : decode cX8_row 1 = .ok (.invokestatic 46, 3) := by decide +kernel
theorem dX8_row_4 : decode cX8_row 4 = .ok (.ifCond .eq 21, 3) := by decide +kernel
theorem dX8_row_7 : decode cX8_row 7 = .ok (.iload_n 2, 1) := by decide +kernel
theorem dX8_row_8 : decode cX8_row 8 = .ok (.i2l, 1) := by decide +kernel
theorem dX8_row_9 : decode cX8_row 9 = .ok (.lconst 0, 1) := by decide +kernel
theorem dX8_row_10 : decode cX8_row 10 = .ok (.ldc2_w 50, 3) := by decide +kernel
theorem dX8_row_13 : decode cX8_row 13 = .ok (.invokestatic 42, 3) := by decide +kernel
theorem dX8_row_16 : decode cX8_row 16 = .ok (.ifCond .eq 9, 3) := by decide +kernel
theorem dX8_row_19 : decode cX8_row 19 = .ok (.iload_n 3, 1) := by decide +kernel
theorem dX8_row_20 : decode cX8_row 20 = .ok (.bipush 40, 2) := by decide +kernel
theorem dX8_row_22 : decode cX8_row 22 = .ok (.if_icmp .le 6, 3) := by decide +kernel
theorem dX8_row_25 : decode cX8_row 25 = .ok (.ldc 52, 2) := by decide +kernel
theorem dX8_row_27 : decode cX8_row 27 = .ok (.ireturn, 1) := by decide +kernel
theorem dX8_row_28 : decode cX8_row 28 = .ok (.iload_n 3, 1) := by decide +kernel
theorem dX8_row_29 : decode cX8_row 29 = .ok (.ifCond .ge 9, 3) := by decide +kernel
theorem dX8_row_32 : decode cX8_row 32 = .ok (.aload_n 0, 1) := by decide +kernel
theorem dX8_row_33 : decode cX8_row 33 = .ok (.iconst 4, 1) := by decide +kernel
theorem dX8_row_34 : decode cX8_row 34 = .ok (.invokevirtual 53, 3) := by decide +kernel
theorem dX8_row_37 : decode cX8_row 37 = .ok (.ireturn, 1) := by decide +kernel
theorem dX8_row_38 : decode cX8_row 38 = .ok (.aload_n 0, 1) := by decide +kernel
theorem dX8_row_39 : decode cX8_row 39 = .ok (.getfield 17, 3) := by decide +kernel
theorem dX8_row_42 : decode cX8_row 42 = .ok (.iload_n 1, 1) := by decide +kernel
theorem dX8_row_43 : decode cX8_row 43 = .ok (.iload_n 2, 1) := by decide +kernel
theorem dX8_row_44 : decode cX8_row 44 = .ok (.iastore, 1) := by decide +kernel
theorem dX8_row_45 : decode cX8_row 45 = .ok (.aload_n 0, 1) := by decide +kernel
theorem dX8_row_46 : decode cX8_row 46 = .ok (.getfield 20, 3) := by decide +kernel
theorem dX8_row_49 : decode cX8_row 49 = .ok (.iload_n 1, 1) := by decide +kernel
theorem dX8_row_50 : decode cX8_row 50 = .ok (.iload_n 3, 1) := by decide +kernel
theorem dX8_row_51 : decode cX8_row 51 = .ok (.iastore, 1) := by decide +kernel
theorem dX8_row_52 : decode cX8_row 52 = .ok (.iconst 0, 1) := by decide +kernel
theorem dX8_row_53 : decode cX8_row 53 = .ok (.istore 4, 2) := by decide +kernel
theorem dX8_row_55 : decode cX8_row 55 = .ok (.iload 4, 2) := by decide +kernel
theorem dX8_row_57 : decode cX8_row 57 = .ok (.bipush 40, 2) := by decide +kernel
theorem dX8_row_59 : decode cX8_row 59 = .ok (.if_icmp .ge 22, 3) := by decide +kernel
theorem dX8_row_62 : decode cX8_row 62 = .ok (.aload_n 0, 1) := by decide +kernel
theorem dX8_row_63 : decode cX8_row 63 = .ok (.getfield 23, 3) := by decide +kernel
theorem dX8_row_66 : decode cX8_row 66 = .ok (.bipush 40, 2) := by decide +kernel
theorem dX8_row_68 : decode cX8_row 68 = .ok (.iload_n 1, 1) := by decide +kernel
theorem dX8_row_69 : decode cX8_row 69 = .ok (.imul, 1) := by decide +kernel
theorem dX8_row_70 : decode cX8_row 70 = .ok (.iload 4, 2) := by decide +kernel
theorem dX8_row_72 : decode cX8_row 72 = .ok (.iadd, 1) := by decide +kernel
theorem dX8_row_73 : decode cX8_row 73 = .ok (.iconst 0, 1) := by decide +kernel
theorem dX8_row_74 : decode cX8_row 74 = .ok (.iastore, 1) := by decide +kernel
theorem dX8_row_75 : decode cX8_row 75 = .ok (.iinc 4 1, 3) := by decide +kernel
theorem dX8_row_78 : decode cX8_row 78 = .ok (.goto (-23), 3) := by decide +kernel
theorem dX8_row_81 : decode cX8_row 81 = .ok (.aload_n 0, 1) := by decide +kernel
theorem dX8_row_82 : decode cX8_row 82 = .ok (.iload_n 3, 1) := by decide +kernel
theorem dX8_row_83 : decode cX8_row 83 = .ok (.invokevirtual 57, 3) := by decide +kernel
theorem dX8_row_86 : decode cX8_row 86 = .ok (.ireturn, 1) := by decide +kernel
theorem dX8_narrow_0 : decode cX8_narrow 0 = .ok (.iload_n 1, 1) := by decide +kernel
theorem dX8_narrow_1 : decode cX8_narrow 1 = .ok (.ifCond .ne 8, 3) := by decide +kernel
theorem dX8_narrow_4 : decode cX8_narrow 4 = .ok (.iload_n 0, 1) := by decide +kernel
theorem dX8_narrow_5 : decode cX8_narrow 5 = .ok (.i2b, 1) := by decide +kernel
theorem dX8_narrow_6 : decode cX8_narrow 6 = .ok (.goto 14, 3) := by decide +kernel
theorem dX8_narrow_9 : decode cX8_narrow 9 = .ok (.iload_n 1, 1) := by decide +kernel
theorem dX8_narrow_10 : decode cX8_narrow 10 = .ok (.iconst 1, 1) := by decide +kernel
theorem dX8_narrow_11 : decode cX8_narrow 11 = .ok (.if_icmp .ne 8, 3) := by decide +kernel
theorem dX8_narrow_14 : decode cX8_narrow 14 = .ok (.iload_n 0, 1) := by decide +kernel
theorem dX8_narrow_15 : decode cX8_narrow 15 = .ok (.i2s, 1) := by decide +kernel
theorem dX8_narrow_16 : decode cX8_narrow 16 = .ok (.goto 4, 3) := by decide +kernel
theorem dX8_narrow_19 : decode cX8_narrow 19 = .ok (.iload_n 0, 1) := by decide +kernel
theorem dX8_narrow_20 : decode cX8_narrow 20 = .ok (.ireturn, 1) := by decide +kernel
set_option maxRecDepth 20000 in
theorem ggX8_set_X8_isRow : GoodIn wsX8_set wsX8_isRow := goodIn_r _ [8, 9, 10, 11, 7, 12] (by decide +kernel) (by decide +kernel)
set_option maxRecDepth 20000 in
theorem gX8_set_X8_isRow : GoodIn wsX8_set (va_wsS RX8 46 yX8_isRow wsX8_isRow) := goodIn_app (goodIn_of _ (by decide +kernel)) ggX8_set_X8_isRow
set_option maxRecDepth 20000 in
theorem ggX8_set_X8_find : GoodIn wsX8_set wsX8_find := goodIn_r _ [16, 17, 18, 26, 27, 28, 29, 30, 31, 32, 33, 34, 35, 36, 37, 38, 39, 40, 41, 42] (by decide +kernel) (by decide +kernel)
set_option maxRecDepth 20000 in
theorem gX8_set_X8_find : GoodIn wsX8_set (wsV RX8 53 RX8 yX8_find wsX8_find) := goodIn_app (goodIn_of _ (by decide +kernel)) ggX8_set_X8_find
set_option maxRecDepth 20000 in
theorem ggX8_set_X8_in : GoodIn wsX8_set wsX8_in := goodIn_r _ [12] (by decide +kernel) (by decide +kernel)
set_option maxRecDepth 20000 in
theorem gX8_set_X8_in : GoodIn wsX8_set (va_wsS RX8 42 yX8_in wsX8_in) := goodIn_app (goodIn_of _ (by decide +kernel)) ggX8_set_X8_in
set_option maxRecDepth 20000 in
theorem ggX8_set_X8_narrow : GoodIn wsX8_set wsX8_narrow := goodIn_r _ [21] (by decide +kernel) (by decide +kernel)
set_option maxRecDepth 20000 in
theorem gX8_set_X8_narrow : GoodIn wsX8_set (va_wsS RX8 60 yX8_narrow wsX8_narrow) := goodIn_app (goodIn_of _ (by decide +kernel)) ggX8_set_X8_narrow
set_option maxRecDepth 20000 in
theorem ggX8_set_X8_well : GoodIn wsX8_set wsX8_well := goodIn_r _ [25, 17, 26, 27, 28, 29, 30, 31, 32, 33, 34, 35, 36, 37, 38, 39, 40, 41, 42] (by decide +kernel) (by decide +kernel)
set_option maxRecDepth 20000 in
theorem gX8_set_X8_well : GoodIn wsX8_set (wsV RX8 57 RX8 yX8_well wsX8_well) := goodIn_app (goodIn_of _ (by decide +kernel)) ggX8_set_X8_well
theorem dX8_set_0 : decode cX8_set 0 = .ok (.iload_n 1, 1) := by decide +kernel
theorem dX8_set_1 : decode cX8_set 1 = .ok (.invokestatic 46, 3) := by decide +kernel
theorem dX8_set_4 : decode cX8_set 4 = .ok (.ifCond .ne 6, 3) := by decide +kernel
theorem dX8_set_7 : decode cX8_set 7 = .ok (.ldc 52, 2) := by decide +kernel
theorem dX8_set_9 : decode cX8_set 9 = .ok (.ireturn, 1) := by decide +kernel
theorem dX8_set_10 : decode cX8_set 10 = .ok (.aload_n 0, 1) := by decide +kernel
theorem dX8_set_11 : decode cX8_set 11 = .ok (.getfield 20, 3) := by decide +kernel
theorem dX8_set_14 : decode cX8_set 14 = .ok (.iload_n 1, 1) := by decide +kernel
theorem dX8_set_15 : decode cX8_set 15 = .ok (.iaload, 1) := by decide +kernel
theorem dX8_set_16 : decode cX8_set 16 = .ok (.ifCond .ge 9, 3) := by decide +kernel
theorem dX8_set_19 : decode cX8_set 19 = .ok (.aload_n 0, 1) := by decide +kernel
theorem dX8_set_20 : decode cX8_set 20 = .ok (.iconst 1, 1) := by decide +kernel
theorem dX8_set_21 : decode cX8_set 21 = .ok (.invokevirtual 53, 3) := by decide +kernel
theorem dX8_set_24 : decode cX8_set 24 = .ok (.ireturn, 1) := by decide +kernel
theorem dX8_set_25 : decode cX8_set 25 = .ok (.iload_n 2, 1) := by decide +kernel
theorem dX8_set_26 : decode cX8_set 26 = .ok (.i2l, 1) := by decide +kernel
theorem dX8_set_27 : decode cX8_set 27 = .ok (.lconst 0, 1) := by decide +kernel
theorem dX8_set_28 : decode cX8_set 28 = .ok (.aload_n 0, 1) := by decide +kernel
theorem dX8_set_29 : decode cX8_set 29 = .ok (.getfield 20, 3) := by decide +kernel
theorem dX8_set_32 : decode cX8_set 32 = .ok (.iload_n 1, 1) := by decide +kernel
theorem dX8_set_33 : decode cX8_set 33 = .ok (.iaload, 1) := by decide +kernel
theorem dX8_set_34 : decode cX8_set 34 = .ok (.iconst 1, 1) := by decide +kernel
theorem dX8_set_35 : decode cX8_set 35 = .ok (.isub, 1) := by decide +kernel
theorem dX8_set_36 : decode cX8_set 36 = .ok (.i2l, 1) := by decide +kernel
theorem dX8_set_37 : decode cX8_set 37 = .ok (.invokestatic 42, 3) := by decide +kernel
theorem dX8_set_40 : decode cX8_set 40 = .ok (.ifCond .ne 9, 3) := by decide +kernel
theorem dX8_set_43 : decode cX8_set 43 = .ok (.aload_n 0, 1) := by decide +kernel
theorem dX8_set_44 : decode cX8_set 44 = .ok (.iconst 2, 1) := by decide +kernel
theorem dX8_set_45 : decode cX8_set 45 = .ok (.invokevirtual 53, 3) := by decide +kernel
theorem dX8_set_48 : decode cX8_set 48 = .ok (.ireturn, 1) := by decide +kernel
theorem dX8_set_49 : decode cX8_set 49 = .ok (.aload_n 0, 1) := by decide +kernel
theorem dX8_set_50 : decode cX8_set 50 = .ok (.getfield 23, 3) := by decide +kernel
theorem dX8_set_53 : decode cX8_set 53 = .ok (.bipush 40, 2) := by decide +kernel
theorem dX8_set_55 : decode cX8_set 55 = .ok (.iload_n 1, 1) := by decide +kernel
theorem dX8_set_56 : decode cX8_set 56 = .ok (.imul, 1) := by decide +kernel
theorem dX8_set_57 : decode cX8_set 57 = .ok (.iload_n 2, 1) := by decide +kernel
theorem dX8_set_58 : decode cX8_set 58 = .ok (.iadd, 1) := by decide +kernel
theorem dX8_set_59 : decode cX8_set 59 = .ok (.iload_n 3, 1) := by decide +kernel
theorem dX8_set_60 : decode cX8_set 60 = .ok (.aload_n 0, 1) := by decide +kernel
theorem dX8_set_61 : decode cX8_set 61 = .ok (.getfield 17, 3) := by decide +kernel
theorem dX8_set_64 : decode cX8_set 64 = .ok (.iload_n 1, 1) := by decide +kernel
theorem dX8_set_65 : decode cX8_set 65 = .ok (.iaload, 1) := by decide +kernel
theorem dX8_set_66 : decode cX8_set 66 = .ok (.invokestatic 60, 3) := by decide +kernel
theorem dX8_set_69 : decode cX8_set 69 = .ok (.iastore, 1) := by decide +kernel
theorem dX8_set_70 : decode cX8_set 70 = .ok (.aload_n 0, 1) := by decide +kernel
theorem dX8_set_71 : decode cX8_set 71 = .ok (.aload_n 0, 1) := by decide +kernel
theorem dX8_set_72 : decode cX8_set 72 = .ok (.getfield 23, 3) := by decide +kernel
theorem dX8_set_75 : decode cX8_set 75 = .ok (.bipush 40, 2) := by decide +kernel
theorem dX8_set_77 : decode cX8_set 77 = .ok (.iload_n 1, 1) := by decide +kernel
theorem dX8_set_78 : decode cX8_set 78 = .ok (.imul, 1) := by decide +kernel
theorem dX8_set_79 : decode cX8_set 79 = .ok (.iload_n 2, 1) := by decide +kernel
theorem dX8_set_80 : decode cX8_set 80 = .ok (.iadd, 1) := by decide +kernel
theorem dX8_set_81 : decode cX8_set 81 = .ok (.iaload, 1) := by decide +kernel
theorem dX8_set_82 : decode cX8_set 82 = .ok (.invokevirtual 57, 3) := by decide +kernel
theorem dX8_set_85 : decode cX8_set 85 = .ok (.ireturn, 1) := by decide +kernel
theorem dX8_isSpan_0 : decode cX8_isSpan 0 = .ok (.iload_n 2, 1) := by decide +kernel
theorem dX8_isSpan_1 : decode cX8_isSpan 1 = .ok (.ifCond .lt 27, 3) := by decide +kernel
theorem dX8_isSpan_4 : decode cX8_isSpan 4 = .ok (.iload_n 3, 1) := by decide +kernel
theorem dX8_isSpan_5 : decode cX8_isSpan 5 = .ok (.ifCond .lt 23, 3) := by decide +kernel
theorem dX8_isSpan_8 : decode cX8_isSpan 8 = .ok (.iload_n 2, 1) := by decide +kernel
theorem dX8_isSpan_9 : decode cX8_isSpan 9 = .ok (.i2l, 1) := by decide +kernel
theorem dX8_isSpan_10 : decode cX8_isSpan 10 = .ok (.iload_n 3, 1) := by decide +kernel
theorem dX8_isSpan_11 : decode cX8_isSpan 11 = .ok (.i2l, 1) := by decide +kernel
theorem dX8_isSpan_12 : decode cX8_isSpan 12 = .ok (.ladd, 1) := by decide +kernel
theorem dX8_isSpan_13 : decode cX8_isSpan 13 = .ok (.aload_n 0, 1) := by decide +kernel
theorem dX8_isSpan_14 : decode cX8_isSpan 14 = .ok (.getfield 20, 3) := by decide +kernel
theorem dX8_isSpan_17 : decode cX8_isSpan 17 = .ok (.iload_n 1, 1) := by decide +kernel
theorem dX8_isSpan_18 : decode cX8_isSpan 18 = .ok (.iaload, 1) := by decide +kernel
theorem dX8_isSpan_19 : decode cX8_isSpan 19 = .ok (.i2l, 1) := by decide +kernel
theorem dX8_isSpan_20 : decode cX8_isSpan 20 = .ok (.lcmp, 1) := by decide +kernel
theorem dX8_isSpan_21 : decode cX8_isSpan 21 = .ok (.ifCond .gt 7, 3) := by decide +kernel
theorem dX8_isSpan_24 : decode cX8_isSpan 24 = .ok (.iconst 1, 1) := by decide +kernel
theorem dX8_isSpan_25 : decode cX8_isSpan 25 = .ok (.goto 4, 3) := by decide +kernel
theorem dX8_isSpan_28 : decode cX8_isSpan 28 = .ok (.iconst 0, 1) := by decide +kernel
theorem dX8_isSpan_29 : decode cX8_isSpan 29 = .ok (.ireturn, 1) := by decide +kernel
set_option maxRecDepth 20000 in
theorem ggX8_copy_X8_isRow : GoodIn wsX8_copy wsX8_isRow := goodIn_r _ [8, 9, 10, 11, 7, 12] (by decide +kernel) (by decide +kernel)
set_option maxRecDepth 20000 in
theorem gX8_copy_X8_isRow : GoodIn wsX8_copy (va_wsS RX8 46 yX8_isRow wsX8_isRow) := goodIn_app (goodIn_of _ (by decide +kernel)) ggX8_copy_X8_isRow
set_option maxRecDepth 20000 in
theorem ggX8_copy_X8_find : GoodIn wsX8_copy wsX8_find := goodIn_r _ [16, 17, 18, 27, 28, 29, 30, 31, 32, 33, 34, 35, 36, 37, 38, 39, 40, 41, 42, 43] (by decide +kernel) (by decide +kernel)
set_option maxRecDepth 20000 in
theorem gX8_copy_X8_find : GoodIn wsX8_copy (wsV RX8 53 RX8 yX8_find wsX8_find) := goodIn_app (goodIn_of _ (by decide +kernel)) ggX8_copy_X8_find
set_option maxRecDepth 20000 in
theorem ggX8_copy_X8_isSpan : GoodIn wsX8_copy wsX8_isSpan := goodIn_r _ [22, 2, 27, 28, 29, 30, 31, 32, 33, 34, 35, 36, 37, 38, 39, 40, 41, 42, 43] (by decide +kernel) (by decide +kernel)
set_option maxRecDepth 20000 in
theorem gX8_copy_X8_isSpan : GoodIn wsX8_copy (wsV RX8 64 RX8 yX8_isSpan wsX8_isSpan) := goodIn_app (goodIn_of _ (by decide +kernel)) ggX8_copy_X8_isSpan
set_option maxRecDepth 20000 in
theorem ggX8_copy_X8_well : GoodIn wsX8_copy wsX8_well := goodIn_r _ [26, 17, 27, 28, 29, 30, 31, 32, 33, 34, 35, 36, 37, 38, 39, 40, 41, 42, 43] (by decide +kernel) (by decide +kernel)
set_option maxRecDepth 20000 in
theorem gX8_copy_X8_well : GoodIn wsX8_copy (wsV RX8 57 RX8 yX8_well wsX8_well) := goodIn_app (goodIn_of _ (by decide +kernel)) ggX8_copy_X8_well
theorem dX8_copy_0 : decode cX8_copy 0 = .ok (.iload_n 1, 1) := by decide +kernel
theorem dX8_copy_1 : decode cX8_copy 1 = .ok (.invokestatic 46, 3) := by decide +kernel
theorem dX8_copy_4 : decode cX8_copy 4 = .ok (.ifCond .eq 10, 3) := by decide +kernel
theorem dX8_copy_7 : decode cX8_copy 7 = .ok (.iload_n 3, 1) := by decide +kernel
theorem dX8_copy_8 : decode cX8_copy 8 = .ok (.invokestatic 46, 3) := by decide +kernel
theorem dX8_copy_11 : decode cX8_copy 11 = .ok (.ifCond .ne 6, 3) := by decide +kernel
theorem dX8_copy_14 : decode cX8_copy 14 = .ok (.ldc 52, 2) := by decide +kernel
theorem dX8_copy_16 : decode cX8_copy 16 = .ok (.ireturn, 1) := by decide +kernel
theorem dX8_copy_17 : decode cX8_copy 17 = .ok (.aload_n 0, 1) := by decide +kernel
theorem dX8_copy_18 : decode cX8_copy 18 = .ok (.getfield 20, 3) := by decide +kernel
theorem dX8_copy_21 : decode cX8_copy 21 = .ok (.iload_n 1, 1) := by decide +kernel
theorem dX8_copy_22 : decode cX8_copy 22 = .ok (.iaload, 1) := by decide +kernel
theorem dX8_copy_23 : decode cX8_copy 23 = .ok (.ifCond .lt 12, 3) := by decide +kernel
theorem dX8_copy_26 : decode cX8_copy 26 = .ok (.aload_n 0, 1) := by decide +kernel
theorem dX8_copy_27 : decode cX8_copy 27 = .ok (.getfield 20, 3) := by decide +kernel
theorem dX8_copy_30 : decode cX8_copy 30 = .ok (.iload_n 3, 1) := by decide +kernel
theorem dX8_copy_31 : decode cX8_copy 31 = .ok (.iaload, 1) := by decide +kernel
theorem dX8_copy_32 : decode cX8_copy 32 = .ok (.ifCond .ge 9, 3) := by decide +kernel
theorem dX8_copy_35 : decode cX8_copy 35 = .ok (.aload_n 0, 1) := by decide +kernel
theorem dX8_copy_36 : decode cX8_copy 36 = .ok (.iconst 1, 1) := by decide +kernel
theorem dX8_copy_37 : decode cX8_copy 37 = .ok (.invokevirtual 53, 3) := by decide +kernel
theorem dX8_copy_40 : decode cX8_copy 40 = .ok (.ireturn, 1) := by decide +kernel
theorem dX8_copy_41 : decode cX8_copy 41 = .ok (.aload_n 0, 1) := by decide +kernel
theorem dX8_copy_42 : decode cX8_copy 42 = .ok (.getfield 17, 3) := by decide +kernel
theorem dX8_copy_45 : decode cX8_copy 45 = .ok (.iload_n 1, 1) := by decide +kernel
theorem dX8_copy_46 : decode cX8_copy 46 = .ok (.iaload, 1) := by decide +kernel
theorem dX8_copy_47 : decode cX8_copy 47 = .ok (.aload_n 0, 1) := by decide +kernel
theorem dX8_copy_48 : decode cX8_copy 48 = .ok (.getfield 17, 3) := by decide +kernel
theorem dX8_copy_51 : decode cX8_copy 51 = .ok (.iload_n 3, 1) := by decide +kernel
theorem dX8_copy_52 : decode cX8_copy 52 = .ok (.iaload, 1) := by decide +kernel
theorem dX8_copy_53 : decode cX8_copy 53 = .ok (.if_icmp .eq 9, 3) := by decide +kernel
theorem dX8_copy_56 : decode cX8_copy 56 = .ok (.aload_n 0, 1) := by decide +kernel
theorem dX8_copy_57 : decode cX8_copy 57 = .ok (.iconst 5, 1) := by decide +kernel
theorem dX8_copy_58 : decode cX8_copy 58 = .ok (.invokevirtual 53, 3) := by decide +kernel
theorem dX8_copy_61 : decode cX8_copy 61 = .ok (.ireturn, 1) := by decide +kernel
theorem dX8_copy_62 : decode cX8_copy 62 = .ok (.aload_n 0, 1) := by decide +kernel
theorem dX8_copy_63 : decode cX8_copy 63 = .ok (.iload_n 1, 1) := by decide +kernel
theorem dX8_copy_64 : decode cX8_copy 64 = .ok (.iload_n 2, 1) := by decide +kernel
theorem dX8_copy_65 : decode cX8_copy 65 = .ok (.iload 5, 2) := by decide +kernel
theorem dX8_copy_67 : decode cX8_copy 67 = .ok (.invokevirtual 64, 3) := by decide +kernel
theorem dX8_copy_70 : decode cX8_copy 70 = .ok (.ifCond .eq 15, 3) := by decide +kernel
theorem dX8_copy_73 : decode cX8_copy 73 = .ok (.aload_n 0, 1) := by decide +kernel
theorem dX8_copy_74 : decode cX8_copy 74 = .ok (.iload_n 3, 1) := by decide +kernel
theorem dX8_copy_75 : decode cX8_copy 75 = .ok (.iload 4, 2) := by decide +kernel
theorem dX8_copy_77 : decode cX8_copy 77 = .ok (.iload 5, 2) := by decide +kernel
theorem dX8_copy_79 : decode cX8_copy 79 = .ok (.invokevirtual 64, 3) := by decide +kernel
theorem dX8_copy_82 : decode cX8_copy 82 = .ok (.ifCond .ne 9, 3) := by decide +kernel
theorem dX8_copy_85 : decode cX8_copy 85 = .ok (.aload_n 0, 1) := by decide +kernel
theorem dX8_copy_86 : decode cX8_copy 86 = .ok (.iconst 2, 1) := by decide +kernel
theorem dX8_copy_87 : decode cX8_copy 87 = .ok (.invokevirtual 53, 3) := by decide +kernel
theorem dX8_copy_90 : decode cX8_copy 90 = .ok (.ireturn, 1) := by decide +kernel
theorem dX8_copy_91 : decode cX8_copy 91 = .ok (.iload_n 2, 1) := by decide +kernel
theorem dX8_copy_92 : decode cX8_copy 92 = .ok (.iload 4, 2) := by decide +kernel
theorem dX8_copy_94 : decode cX8_copy 94 = .ok (.if_icmp .ge 7, 3) := by decide +kernel
theorem dX8_copy_97 : decode cX8_copy 97 = .ok (.iconst 1, 1) := by decide +kernel
theorem dX8_copy_98 : decode cX8_copy 98 = .ok (.goto 4, 3) := by decide +kernel
theorem dX8_copy_101 : decode cX8_copy 101 = .ok (.iconst 0, 1) := by decide +kernel
theorem dX8_copy_102 : decode cX8_copy 102 = .ok (.istore 6, 2) := by decide +kernel
theorem dX8_copy_104 : decode cX8_copy 104 = .ok (.iconst 0, 1) := by decide +kernel
theorem dX8_copy_105 : decode cX8_copy 105 = .ok (.istore 7, 2) := by decide +kernel
theorem dX8_copy_107 : decode cX8_copy 107 = .ok (.iload 7, 2) := by decide +kernel
theorem dX8_copy_109 : decode cX8_copy 109 = .ok (.iload 5, 2) := by decide +kernel
theorem dX8_copy_111 : decode cX8_copy 111 = .ok (.if_icmp .ge 57, 3) := by decide +kernel
theorem dX8_copy_114 : decode cX8_copy 114 = .ok (.iload 6, 2) := by decide +kernel
theorem dX8_copy_116 : decode cX8_copy 116 = .ok (.ifCond .eq 13, 3) := by decide +kernel
theorem dX8_copy_119 : decode cX8_copy 119 = .ok (.iload 5, 2) := by decide +kernel
theorem dX8_copy_121 : decode cX8_copy 121 = .ok (.iconst 1, 1) := by decide +kernel
theorem dX8_copy_122 : decode cX8_copy 122 = .ok (.isub, 1) := by decide +kernel
theorem dX8_copy_123 : decode cX8_copy 123 = .ok (.iload 7, 2) := by decide +kernel
theorem dX8_copy_125 : decode cX8_copy 125 = .ok (.isub, 1) := by decide +kernel
theorem dX8_copy_126 : decode cX8_copy 126 = .ok (.goto 5, 3) := by decide +kernel
theorem dX8_copy_129 : decode cX8_copy 129 = .ok (.iload 7, 2) := by decide +kernel
theorem dX8_copy_131 : decode cX8_copy 131 = .ok (.istore 8, 2) := by decide +kernel
theorem dX8_copy_133 : decode cX8_copy 133 = .ok (.aload_n 0, 1) := by decide +kernel
theorem dX8_copy_134 : decode cX8_copy 134 = .ok (.getfield 23, 3) := by decide +kernel
theorem dX8_copy_137 : decode cX8_copy 137 = .ok (.bipush 40, 2) := by decide +kernel
theorem dX8_copy_139 : decode cX8_copy 139 = .ok (.iload_n 3, 1) := by decide +kernel
theorem dX8_copy_140 : decode cX8_copy 140 = .ok (.imul, 1) := by decide +kernel
theorem dX8_copy_141 : decode cX8_copy 141 = .ok (.iload 4, 2) := by decide +kernel
theorem dX8_copy_143 : decode cX8_copy 143 = .ok (.iadd, 1) := by decide +kernel
theorem dX8_copy_144 : decode cX8_copy 144 = .ok (.iload 8, 2) := by decide +kernel
theorem dX8_copy_146 : decode cX8_copy 146 = .ok (.iadd, 1) := by decide +kernel
theorem dX8_copy_147 : decode cX8_copy 147 = .ok (.aload_n 0, 1) := by decide +kernel
theorem dX8_copy_148 : decode cX8_copy 148 = .ok (.getfield 23, 3) := by decide +kernel
theorem dX8_copy_151 : decode cX8_copy 151 = .ok (.bipush 40, 2) := by decide +kernel
theorem dX8_copy_153 : decode cX8_copy 153 = .ok (.iload_n 1, 1) := by decide +kernel
theorem dX8_copy_154 : decode cX8_copy 154 = .ok (.imul, 1) := by decide +kernel
theorem dX8_copy_155 : decode cX8_copy 155 = .ok (.iload_n 2, 1) := by decide +kernel
theorem dX8_copy_156 : decode cX8_copy 156 = .ok (.iadd, 1) := by decide +kernel
theorem dX8_copy_157 : decode cX8_copy 157 = .ok (.iload 8, 2) := by decide +kernel
theorem dX8_copy_159 : decode cX8_copy 159 = .ok (.iadd, 1) := by decide +kernel
theorem dX8_copy_160 : decode cX8_copy 160 = .ok (.iaload, 1) := by decide +kernel
theorem dX8_copy_161 : decode cX8_copy 161 = .ok (.iastore, 1) := by decide +kernel
theorem dX8_copy_162 : decode cX8_copy 162 = .ok (.iinc 7 1, 3) := by decide +kernel
theorem dX8_copy_165 : decode cX8_copy 165 = .ok (.goto (-58), 3) := by decide +kernel
theorem dX8_copy_168 : decode cX8_copy 168 = .ok (.aload_n 0, 1) := by decide +kernel
theorem dX8_copy_169 : decode cX8_copy 169 = .ok (.iload 5, 2) := by decide +kernel
theorem dX8_copy_171 : decode cX8_copy 171 = .ok (.invokevirtual 57, 3) := by decide +kernel
theorem dX8_copy_174 : decode cX8_copy 174 = .ok (.ireturn, 1) := by decide +kernel
set_option maxRecDepth 20000 in
theorem ggX8_drop_X8_isRow : GoodIn wsX8_drop wsX8_isRow := goodIn_r _ [6, 7, 8, 9, 5, 10] (by decide +kernel) (by decide +kernel)
set_option maxRecDepth 20000 in
theorem gX8_drop_X8_isRow : GoodIn wsX8_drop (va_wsS RX8 46 yX8_isRow wsX8_isRow) := goodIn_app (goodIn_of _ (by decide +kernel)) ggX8_drop_X8_isRow
set_option maxRecDepth 20000 in
theorem ggX8_drop_X8_find : GoodIn wsX8_drop wsX8_find := goodIn_r _ [14, 15, 16, 21, 22, 23, 24, 25, 26, 27, 28, 29, 30, 31, 32, 33, 34, 35, 36, 37] (by decide +kernel) (by decide +kernel)
set_option maxRecDepth 20000 in
theorem gX8_drop_X8_find : GoodIn wsX8_drop (wsV RX8 53 RX8 yX8_find wsX8_find) := goodIn_app (goodIn_of _ (by decide +kernel)) ggX8_drop_X8_find
set_option maxRecDepth 20000 in
theorem ggX8_drop_X8_well : GoodIn wsX8_drop wsX8_well := goodIn_r _ [20, 15, 21, 22, 23, 24, 25, 26, 27, 28, 29, 30, 31, 32, 33, 34, 35, 36, 37] (by decide +kernel) (by decide +kernel)
set_option maxRecDepth 20000 in
theorem gX8_drop_X8_well : GoodIn wsX8_drop (wsV RX8 57 RX8 yX8_well wsX8_well) := goodIn_app (goodIn_of _ (by decide +kernel)) ggX8_drop_X8_well
theorem dX8_drop_0 : decode cX8_drop 0 = .ok (.iload_n 1, 1) := by decide +kernel
theorem dX8_drop_1 : decode cX8_drop 1 = .ok (.invokestatic 46, 3) := by decide +kernel
theorem dX8_drop_4 : decode cX8_drop 4 = .ok (.ifCond .ne 6, 3) := by decide +kernel
theorem dX8_drop_7 : decode cX8_drop 7 = .ok (.ldc 52, 2) := by decide +kernel
theorem dX8_drop_9 : decode cX8_drop 9 = .ok (.ireturn, 1) := by decide +kernel
theorem dX8_drop_10 : decode cX8_drop 10 = .ok (.aload_n 0, 1) := by decide +kernel
theorem dX8_drop_11 : decode cX8_drop 11 = .ok (.getfield 20, 3) := by decide +kernel
theorem dX8_drop_14 : decode cX8_drop 14 = .ok (.iload_n 1, 1) := by decide +kernel
theorem dX8_drop_15 : decode cX8_drop 15 = .ok (.iaload, 1) := by decide +kernel
theorem dX8_drop_16 : decode cX8_drop 16 = .ok (.ifCond .ge 9, 3) := by decide +kernel
theorem dX8_drop_19 : decode cX8_drop 19 = .ok (.aload_n 0, 1) := by decide +kernel
theorem dX8_drop_20 : decode cX8_drop 20 = .ok (.iconst 1, 1) := by decide +kernel
theorem dX8_drop_21 : decode cX8_drop 21 = .ok (.invokevirtual 53, 3) := by decide +kernel
theorem dX8_drop_24 : decode cX8_drop 24 = .ok (.ireturn, 1) := by decide +kernel
theorem dX8_drop_25 : decode cX8_drop 25 = .ok (.aload_n 0, 1) := by decide +kernel
theorem dX8_drop_26 : decode cX8_drop 26 = .ok (.getfield 20, 3) := by decide +kernel
theorem dX8_drop_29 : decode cX8_drop 29 = .ok (.iload_n 1, 1) := by decide +kernel
theorem dX8_drop_30 : decode cX8_drop 30 = .ok (.iaload, 1) := by decide +kernel
theorem dX8_drop_31 : decode cX8_drop 31 = .ok (.istore_n 2, 1) := by decide +kernel
theorem dX8_drop_32 : decode cX8_drop 32 = .ok (.aload_n 0, 1) := by decide +kernel
theorem dX8_drop_33 : decode cX8_drop 33 = .ok (.getfield 20, 3) := by decide +kernel
theorem dX8_drop_36 : decode cX8_drop 36 = .ok (.iload_n 1, 1) := by decide +kernel
theorem dX8_drop_37 : decode cX8_drop 37 = .ok (.iconst (-1), 1) := by decide +kernel
theorem dX8_drop_38 : decode cX8_drop 38 = .ok (.iastore, 1) := by decide +kernel
theorem dX8_drop_39 : decode cX8_drop 39 = .ok (.aload_n 0, 1) := by decide +kernel
theorem dX8_drop_40 : decode cX8_drop 40 = .ok (.iload_n 2, 1) := by decide +kernel
theorem dX8_drop_41 : decode cX8_drop 41 = .ok (.invokevirtual 57, 3) := by decide +kernel
theorem dX8_drop_44 : decode cX8_drop 44 = .ok (.ireturn, 1) := by decide +kernel
set_option maxRecDepth 20000 in
theorem ggX8_feed_X8_in : GoodIn wsX8_feed wsX8_in := goodIn_r _ [9] (by decide +kernel) (by decide +kernel)
set_option maxRecDepth 20000 in
theorem gX8_feed_X8_in : GoodIn wsX8_feed (va_wsS RX8 42 yX8_in wsX8_in) := goodIn_app (goodIn_of _ (by decide +kernel)) ggX8_feed_X8_in
theorem dX8_feed_0 : decode cX8_feed 0 = .ok (.iload_n 1, 1) := by decide +kernel
theorem dX8_feed_1 : decode cX8_feed 1 = .ok (.i2l, 1) := by decide +kernel
theorem dX8_feed_2 : decode cX8_feed 2 = .ok (.lconst 0, 1) := by decide +kernel
theorem dX8_feed_3 : decode cX8_feed 3 = .ok (.ldc2_w 68, 3) := by decide +kernel
theorem dX8_feed_6 : decode cX8_feed 6 = .ok (.invokestatic 42, 3) := by decide +kernel
theorem dX8_feed_9 : decode cX8_feed 9 = .ok (.ifCond .ne 6, 3) := by decide +kernel
theorem dX8_feed_12 : decode cX8_feed 12 = .ok (.ldc 52, 2) := by decide +kernel
theorem dX8_feed_14 : decode cX8_feed 14 = .ok (.ireturn, 1) := by decide +kernel
theorem dX8_feed_15 : decode cX8_feed 15 = .ok (.aload_n 0, 1) := by decide +kernel
theorem dX8_feed_16 : decode cX8_feed 16 = .ok (.getfield 70, 3) := by decide +kernel
theorem dX8_feed_19 : decode cX8_feed 19 = .ok (.bipush 120, 2) := by decide +kernel
theorem dX8_feed_21 : decode cX8_feed 21 = .ok (.if_icmp .ne 6, 3) := by decide +kernel
theorem dX8_feed_24 : decode cX8_feed 24 = .ok (.ldc 73, 2) := by decide +kernel
theorem dX8_feed_26 : decode cX8_feed 26 = .ok (.ireturn, 1) := by decide +kernel
theorem dX8_feed_27 : decode cX8_feed 27 = .ok (.aload_n 0, 1) := by decide +kernel
theorem dX8_feed_28 : decode cX8_feed 28 = .ok (.getfield 26, 3) := by decide +kernel
theorem dX8_feed_31 : decode cX8_feed 31 = .ok (.aload_n 0, 1) := by decide +kernel
theorem dX8_feed_32 : decode cX8_feed 32 = .ok (.getfield 70, 3) := by decide +kernel
theorem dX8_feed_35 : decode cX8_feed 35 = .ok (.iload_n 1, 1) := by decide +kernel
theorem dX8_feed_36 : decode cX8_feed 36 = .ok (.iastore, 1) := by decide +kernel
theorem dX8_feed_37 : decode cX8_feed 37 = .ok (.aload_n 0, 1) := by decide +kernel
theorem dX8_feed_38 : decode cX8_feed 38 = .ok (.dup, 1) := by decide +kernel
theorem dX8_feed_39 : decode cX8_feed 39 = .ok (.getfield 70, 3) := by decide +kernel
theorem dX8_feed_42 : decode cX8_feed 42 = .ok (.iconst 1, 1) := by decide +kernel
theorem dX8_feed_43 : decode cX8_feed 43 = .ok (.iadd, 1) := by decide +kernel
theorem dX8_feed_44 : decode cX8_feed 44 = .ok (.putfield 70, 3) := by decide +kernel
theorem dX8_feed_47 : decode cX8_feed 47 = .ok (.aload_n 0, 1) := by decide +kernel
theorem dX8_feed_48 : decode cX8_feed 48 = .ok (.getfield 70, 3) := by decide +kernel
theorem dX8_feed_51 : decode cX8_feed 51 = .ok (.ireturn, 1) := by decide +kernel
theorem dX8_isLetter_0 : decode cX8_isLetter 0 = .ok (.aload_n 0, 1) := by decide +kernel
theorem dX8_isLetter_1 : decode cX8_isLetter 1 = .ok (.getfield 74, 3) := by decide +kernel
theorem dX8_isLetter_4 : decode cX8_isLetter 4 = .ok (.aload_n 0, 1) := by decide +kernel
theorem dX8_isLetter_5 : decode cX8_isLetter 5 = .ok (.getfield 70, 3) := by decide +kernel
theorem dX8_isLetter_8 : decode cX8_isLetter 8 = .ok (.if_icmp .ge 20, 3) := by decide +kernel
theorem dX8_isLetter_11 : decode cX8_isLetter 11 = .ok (.aload_n 0, 1) := by decide +kernel
theorem dX8_isLetter_12 : decode cX8_isLetter 12 = .ok (.getfield 26, 3) := by decide +kernel
theorem dX8_isLetter_15 : decode cX8_isLetter 15 = .ok (.aload_n 0, 1) := by decide +kernel
theorem dX8_isLetter_16 : decode cX8_isLetter 16 = .ok (.getfield 74, 3) := by decide +kernel
theorem dX8_isLetter_19 : decode cX8_isLetter 19 = .ok (.iaload, 1) := by decide +kernel
theorem dX8_isLetter_20 : decode cX8_isLetter 20 = .ok (.iload_n 1, 1) := by decide +kernel
theorem dX8_isLetter_21 : decode cX8_isLetter 21 = .ok (.if_icmp .ne 7, 3) := by decide +kernel
theorem dX8_isLetter_24 : decode cX8_isLetter 24 = .ok (.iconst 1, 1) := by decide +kernel
theorem dX8_isLetter_25 : decode cX8_isLetter 25 = .ok (.goto 4, 3) := by decide +kernel
theorem dX8_isLetter_28 : decode cX8_isLetter 28 = .ok (.iconst 0, 1) := by decide +kernel
theorem dX8_isLetter_29 : decode cX8_isLetter 29 = .ok (.ireturn, 1) := by decide +kernel
set_option maxRecDepth 20000 in
theorem ggX8_isFigure_X8_in : GoodIn wsX8_isFigure wsX8_in := goodIn_r _ [8] (by decide +kernel) (by decide +kernel)
set_option maxRecDepth 20000 in
theorem gX8_isFigure_X8_in : GoodIn wsX8_isFigure (va_wsS RX8 42 yX8_in wsX8_in) := goodIn_app (goodIn_of _ (by decide +kernel)) ggX8_isFigure_X8_in
theorem dX8_isFigure_0 : decode cX8_isFigure 0 = .ok (.iload_n 1, 1) := by decide +kernel
theorem dX8_isFigure_1 : decode cX8_isFigure 1 = .ok (.aload_n 0, 1) := by decide +kernel
theorem dX8_isFigure_2 : decode cX8_isFigure 2 = .ok (.getfield 70, 3) := by decide +kernel
theorem dX8_isFigure_5 : decode cX8_isFigure 5 = .ok (.if_icmp .ge 26, 3) := by decide +kernel
theorem dX8_isFigure_8 : decode cX8_isFigure 8 = .ok (.aload_n 0, 1) := by decide +kernel
theorem dX8_isFigure_9 : decode cX8_isFigure 9 = .ok (.getfield 26, 3) := by decide +kernel
theorem dX8_isFigure_12 : decode cX8_isFigure 12 = .ok (.iload_n 1, 1) := by decide +kernel
theorem dX8_isFigure_13 : decode cX8_isFigure 13 = .ok (.iaload, 1) := by decide +kernel
theorem dX8_isFigure_14 : decode cX8_isFigure 14 = .ok (.i2l, 1) := by decide +kernel
theorem dX8_isFigure_15 : decode cX8_isFigure 15 = .ok (.ldc2_w 77, 3) := by decide +kernel
theorem dX8_isFigure_18 : decode cX8_isFigure 18 = .ok (.ldc2_w 79, 3) := by decide +kernel
theorem dX8_isFigure_21 : decode cX8_isFigure 21 = .ok (.invokestatic 42, 3) := by decide +kernel
theorem dX8_isFigure_24 : decode cX8_isFigure 24 = .ok (.ifCond .eq 7, 3) := by decide +kernel
theorem dX8_isFigure_27 : decode cX8_isFigure 27 = .ok (.iconst 1, 1) := by decide +kernel
theorem dX8_isFigure_28 : decode cX8_isFigure 28 = .ok (.goto 4, 3) := by decide +kernel
theorem dX8_isFigure_31 : decode cX8_isFigure 31 = .ok (.iconst 0, 1) := by decide +kernel
theorem dX8_isFigure_32 : decode cX8_isFigure 32 = .ok (.ireturn, 1) := by decide +kernel
theorem dX8_refuse_0 : decode cX8_refuse 0 = .ok (.aload_n 0, 1) := by decide +kernel
theorem dX8_refuse_1 : decode cX8_refuse 1 = .ok (.iload_n 1, 1) := by decide +kernel
theorem dX8_refuse_2 : decode cX8_refuse 2 = .ok (.putfield 81, 3) := by decide +kernel
theorem dX8_refuse_5 : decode cX8_refuse 5 = .ok (.iconst 0, 1) := by decide +kernel
theorem dX8_refuse_6 : decode cX8_refuse 6 = .ok (.ireturn, 1) := by decide +kernel
set_option maxRecDepth 20000 in
theorem ggX8_sign_X8_isLetter : GoodIn wsX8_sign wsX8_isLetter := goodIn_r _ [6, 1, 7, 8, 14, 15, 16, 17, 18, 19, 20, 21, 22, 23, 24, 25, 26, 27, 28, 29, 30] (by decide +kernel) (by decide +kernel)
set_option maxRecDepth 20000 in
theorem gX8_sign_X8_isLetter : GoodIn wsX8_sign (wsV RX8 84 RX8 yX8_isLetter wsX8_isLetter) := goodIn_app (goodIn_of _ (by decide +kernel)) ggX8_sign_X8_isLetter
set_option maxRecDepth 20000 in
theorem ggX8_sign_X8_refuse : GoodIn wsX8_sign wsX8_refuse := goodIn_r _ [12, 13, 14, 15, 16, 17, 18, 19, 20, 21, 22, 23, 24, 25, 26, 27, 28, 29, 30] (by decide +kernel) (by decide +kernel)
set_option maxRecDepth 20000 in
theorem gX8_sign_X8_refuse : GoodIn wsX8_sign (wsV RX8 87 RX8 yX8_refuse wsX8_refuse) := goodIn_app (goodIn_of _ (by decide +kernel)) ggX8_sign_X8_refuse
theorem dX8_sign_0 : decode cX8_sign 0 = .ok (.aload_n 0, 1) := by decide +kernel
theorem dX8_sign_1 : decode cX8_sign 1 = .ok (.iload_n 1, 1) := by decide +kernel
theorem dX8_sign_2 : decode cX8_sign 2 = .ok (.invokevirtual 84, 3) := by decide +kernel
theorem dX8_sign_5 : decode cX8_sign 5 = .ok (.ifCond .ne 9, 3) := by decide +kernel
theorem dX8_sign_8 : decode cX8_sign 8 = .ok (.aload_n 0, 1) := by decide +kernel
theorem dX8_sign_9 : decode cX8_sign 9 = .ok (.iconst 1, 1) := by decide +kernel
theorem dX8_sign_10 : decode cX8_sign 10 = .ok (.invokevirtual 87, 3) := by decide +kernel
theorem dX8_sign_13 : decode cX8_sign 13 = .ok (.ireturn, 1) := by decide +kernel
theorem dX8_sign_14 : decode cX8_sign 14 = .ok (.aload_n 0, 1) := by decide +kernel
theorem dX8_sign_15 : decode cX8_sign 15 = .ok (.dup, 1) := by decide +kernel
theorem dX8_sign_16 : decode cX8_sign 16 = .ok (.getfield 74, 3) := by decide +kernel
theorem dX8_sign_19 : decode cX8_sign 19 = .ok (.iconst 1, 1) := by decide +kernel
theorem dX8_sign_20 : decode cX8_sign 20 = .ok (.iadd, 1) := by decide +kernel
theorem dX8_sign_21 : decode cX8_sign 21 = .ok (.putfield 74, 3) := by decide +kernel
theorem dX8_sign_24 : decode cX8_sign 24 = .ok (.iconst 1, 1) := by decide +kernel
theorem dX8_sign_25 : decode cX8_sign 25 = .ok (.ireturn, 1) := by decide +kernel
set_option maxRecDepth 20000 in
theorem ggX8_readsNumber_X8_isFigure : GoodIn wsX8_readsNumber wsX8_isFigure := goodIn_r _ [8, 9, 2, 10, 11, 12, 13, 7, 14, 20, 21, 22, 23, 24, 25, 26, 27, 28, 29, 30, 31, 32, 33, 34, 35, 36] (by decide +kernel) (by decide +kernel)
set_option maxRecDepth 20000 in
theorem gX8_readsNumber_X8_isFigure : GoodIn wsX8_readsNumber (wsV RX8 90 RX8 yX8_isFigure wsX8_isFigure) := goodIn_app (goodIn_of _ (by decide +kernel)) ggX8_readsNumber_X8_isFigure
set_option maxRecDepth 20000 in
theorem ggX8_readsNumber_X8_refuse : GoodIn wsX8_readsNumber wsX8_refuse := goodIn_r _ [18, 19, 20, 21, 22, 23, 24, 25, 26, 27, 28, 29, 30, 31, 32, 33, 34, 35, 36] (by decide +kernel) (by decide +kernel)
set_option maxRecDepth 20000 in
theorem gX8_readsNumber_X8_refuse : GoodIn wsX8_readsNumber (wsV RX8 87 RX8 yX8_refuse wsX8_refuse) := goodIn_app (goodIn_of _ (by decide +kernel)) ggX8_readsNumber_X8_refuse
set_option maxRecDepth 20000 in
theorem ggX8_readsNumber_X8_in : GoodIn wsX8_readsNumber wsX8_in := goodIn_r _ [14] (by decide +kernel) (by decide +kernel)
set_option maxRecDepth 20000 in
theorem gX8_readsNumber_X8_in : GoodIn wsX8_readsNumber (va_wsS RX8 42 yX8_in wsX8_in) := goodIn_app (goodIn_of _ (by decide +kernel)) ggX8_readsNumber_X8_in
theorem dX8_readsNumber_0 : decode cX8_readsNumber 0 = .ok (.aload_n 0, 1) := by decide +kernel
theorem dX8_readsNumber_1 : decode cX8_readsNumber 1 = .ok (.aload_n 0, 1) := by decide +kernel
theorem dX8_readsNumber_2 : decode cX8_readsNumber 2 = .ok (.getfield 74, 3) := by decide +kernel
theorem dX8_readsNumber_5 : decode cX8_readsNumber 5 = .ok (.invokevirtual 90, 3) := by decide +kernel
theorem dX8_readsNumber_8 : decode cX8_readsNumber 8 = .ok (.ifCond .eq 29, 3) := by decide +kernel
theorem dX8_readsNumber_11 : decode cX8_readsNumber 11 = .ok (.aload_n 0, 1) := by decide +kernel
theorem dX8_readsNumber_12 : decode cX8_readsNumber 12 = .ok (.aload_n 0, 1) := by decide +kernel
theorem dX8_readsNumber_13 : decode cX8_readsNumber 13 = .ok (.getfield 74, 3) := by decide +kernel
theorem dX8_readsNumber_16 : decode cX8_readsNumber 16 = .ok (.iconst 1, 1) := by decide +kernel
theorem dX8_readsNumber_17 : decode cX8_readsNumber 17 = .ok (.iadd, 1) := by decide +kernel
theorem dX8_readsNumber_18 : decode cX8_readsNumber 18 = .ok (.invokevirtual 90, 3) := by decide +kernel
theorem dX8_readsNumber_21 : decode cX8_readsNumber 21 = .ok (.ifCond .eq 22, 3) := by decide +kernel
theorem dX8_readsNumber_24 : decode cX8_readsNumber 24 = .ok (.aload_n 0, 1) := by decide +kernel
theorem dX8_readsNumber_25 : decode cX8_readsNumber 25 = .ok (.aload_n 0, 1) := by decide +kernel
theorem dX8_readsNumber_26 : decode cX8_readsNumber 26 = .ok (.getfield 74, 3) := by decide +kernel
theorem dX8_readsNumber_29 : decode cX8_readsNumber 29 = .ok (.iconst 2, 1) := by decide +kernel
theorem dX8_readsNumber_30 : decode cX8_readsNumber 30 = .ok (.iadd, 1) := by decide +kernel
theorem dX8_readsNumber_31 : decode cX8_readsNumber 31 = .ok (.invokevirtual 90, 3) := by decide +kernel
theorem dX8_readsNumber_34 : decode cX8_readsNumber 34 = .ok (.ifCond .eq 9, 3) := by decide +kernel
theorem dX8_readsNumber_37 : decode cX8_readsNumber 37 = .ok (.aload_n 0, 1) := by decide +kernel
theorem dX8_readsNumber_38 : decode cX8_readsNumber 38 = .ok (.iconst 1, 1) := by decide +kernel
theorem dX8_readsNumber_39 : decode cX8_readsNumber 39 = .ok (.invokevirtual 87, 3) := by decide +kernel
theorem dX8_readsNumber_42 : decode cX8_readsNumber 42 = .ok (.ireturn, 1) := by decide +kernel
theorem dX8_readsNumber_43 : decode cX8_readsNumber 43 = .ok (.aload_n 0, 1) := by decide +kernel
theorem dX8_readsNumber_44 : decode cX8_readsNumber 44 = .ok (.aload_n 0, 1) := by decide +kernel
theorem dX8_readsNumber_45 : decode cX8_readsNumber 45 = .ok (.getfield 26, 3) := by decide +kernel
theorem dX8_readsNumber_48 : decode cX8_readsNumber 48 = .ok (.aload_n 0, 1) := by decide +kernel
theorem dX8_readsNumber_49 : decode cX8_readsNumber 49 = .ok (.getfield 74, 3) := by decide +kernel
theorem dX8_readsNumber_52 : decode cX8_readsNumber 52 = .ok (.iaload, 1) := by decide +kernel
theorem dX8_readsNumber_53 : decode cX8_readsNumber 53 = .ok (.bipush 48, 2) := by decide +kernel
theorem dX8_readsNumber_55 : decode cX8_readsNumber 55 = .ok (.isub, 1) := by decide +kernel
theorem dX8_readsNumber_56 : decode cX8_readsNumber 56 = .ok (.putfield 93, 3) := by decide +kernel
theorem dX8_readsNumber_59 : decode cX8_readsNumber 59 = .ok (.aload_n 0, 1) := by decide +kernel
theorem dX8_readsNumber_60 : decode cX8_readsNumber 60 = .ok (.aload_n 0, 1) := by decide +kernel
theorem dX8_readsNumber_61 : decode cX8_readsNumber 61 = .ok (.getfield 74, 3) := by decide +kernel
theorem dX8_readsNumber_64 : decode cX8_readsNumber 64 = .ok (.iconst 1, 1) := by decide +kernel
theorem dX8_readsNumber_65 : decode cX8_readsNumber 65 = .ok (.iadd, 1) := by decide +kernel
theorem dX8_readsNumber_66 : decode cX8_readsNumber 66 = .ok (.invokevirtual 90, 3) := by decide +kernel
theorem dX8_readsNumber_69 : decode cX8_readsNumber 69 = .ok (.ifCond .eq 7, 3) := by decide +kernel
theorem dX8_readsNumber_72 : decode cX8_readsNumber 72 = .ok (.iconst 2, 1) := by decide +kernel
theorem dX8_readsNumber_73 : decode cX8_readsNumber 73 = .ok (.goto 4, 3) := by decide +kernel
theorem dX8_readsNumber_76 : decode cX8_readsNumber 76 = .ok (.iconst 1, 1) := by decide +kernel
theorem dX8_readsNumber_77 : decode cX8_readsNumber 77 = .ok (.istore_n 3, 1) := by decide +kernel
theorem dX8_readsNumber_78 : decode cX8_readsNumber 78 = .ok (.aload_n 0, 1) := by decide +kernel
theorem dX8_readsNumber_79 : decode cX8_readsNumber 79 = .ok (.iload_n 3, 1) := by decide +kernel
theorem dX8_readsNumber_80 : decode cX8_readsNumber 80 = .ok (.iconst 2, 1) := by decide +kernel
theorem dX8_readsNumber_81 : decode cX8_readsNumber 81 = .ok (.if_icmp .ne 28, 3) := by decide +kernel
theorem dX8_readsNumber_84 : decode cX8_readsNumber 84 = .ok (.bipush 10, 2) := by decide +kernel
theorem dX8_readsNumber_86 : decode cX8_readsNumber 86 = .ok (.aload_n 0, 1) := by decide +kernel
theorem dX8_readsNumber_87 : decode cX8_readsNumber 87 = .ok (.getfield 93, 3) := by decide +kernel
theorem dX8_readsNumber_90 : decode cX8_readsNumber 90 = .ok (.imul, 1) := by decide +kernel
theorem dX8_readsNumber_91 : decode cX8_readsNumber 91 = .ok (.aload_n 0, 1) := by decide +kernel
theorem dX8_readsNumber_92 : decode cX8_readsNumber 92 = .ok (.getfield 26, 3) := by decide +kernel
theorem dX8_readsNumber_95 : decode cX8_readsNumber 95 = .ok (.aload_n 0, 1) := by decide +kernel
theorem dX8_readsNumber_96 : decode cX8_readsNumber 96 = .ok (.getfield 74, 3) := by decide +kernel
theorem dX8_readsNumber_99 : decode cX8_readsNumber 99 = .ok (.iconst 1, 1) := by decide +kernel
theorem dX8_readsNumber_100 : decode cX8_readsNumber 100 = .ok (.iadd, 1) := by decide +kernel
theorem dX8_readsNumber_101 : decode cX8_readsNumber 101 = .ok (.iaload, 1) := by decide +kernel
theorem dX8_readsNumber_102 : decode cX8_readsNumber 102 = .ok (.iadd, 1) := by decide +kernel
theorem dX8_readsNumber_103 : decode cX8_readsNumber 103 = .ok (.bipush 48, 2) := by decide +kernel
theorem dX8_readsNumber_105 : decode cX8_readsNumber 105 = .ok (.isub, 1) := by decide +kernel
theorem dX8_readsNumber_106 : decode cX8_readsNumber 106 = .ok (.goto 7, 3) := by decide +kernel
theorem dX8_readsNumber_109 : decode cX8_readsNumber 109 = .ok (.aload_n 0, 1) := by decide +kernel
theorem dX8_readsNumber_110 : decode cX8_readsNumber 110 = .ok (.getfield 93, 3) := by decide +kernel
theorem dX8_readsNumber_113 : decode cX8_readsNumber 113 = .ok (.putfield 93, 3) := by decide +kernel
theorem dX8_readsNumber_116 : decode cX8_readsNumber 116 = .ok (.aload_n 0, 1) := by decide +kernel
theorem dX8_readsNumber_117 : decode cX8_readsNumber 117 = .ok (.getfield 93, 3) := by decide +kernel
theorem dX8_readsNumber_120 : decode cX8_readsNumber 120 = .ok (.i2l, 1) := by decide +kernel
theorem dX8_readsNumber_121 : decode cX8_readsNumber 121 = .ok (.iload_n 1, 1) := by decide +kernel
theorem dX8_readsNumber_122 : decode cX8_readsNumber 122 = .ok (.i2l, 1) := by decide +kernel
theorem dX8_readsNumber_123 : decode cX8_readsNumber 123 = .ok (.iload_n 2, 1) := by decide +kernel
theorem dX8_readsNumber_124 : decode cX8_readsNumber 124 = .ok (.i2l, 1) := by decide +kernel
theorem dX8_readsNumber_125 : decode cX8_readsNumber 125 = .ok (.invokestatic 42, 3) := by decide +kernel
theorem dX8_readsNumber_128 : decode cX8_readsNumber 128 = .ok (.ifCond .ne 9, 3) := by decide +kernel
theorem dX8_readsNumber_131 : decode cX8_readsNumber 131 = .ok (.aload_n 0, 1) := by decide +kernel
theorem dX8_readsNumber_132 : decode cX8_readsNumber 132 = .ok (.iconst 2, 1) := by decide +kernel
theorem dX8_readsNumber_133 : decode cX8_readsNumber 133 = .ok (.invokevirtual 87, 3) := by decide +kernel
theorem dX8_readsNumber_136 : decode cX8_readsNumber 136 = .ok (.ireturn, 1) := by decide +kernel
theorem dX8_readsNumber_137 : decode cX8_readsNumber 137 = .ok (.aload_n 0, 1) := by decide +kernel
theorem dX8_readsNumber_138 : decode cX8_readsNumber 138 = .ok (.dup, 1) := by decide +kernel
theorem dX8_readsNumber_139 : decode cX8_readsNumber 139 = .ok (.getfield 74, 3) := by decide +kernel
theorem dX8_readsNumber_142 : decode cX8_readsNumber 142 = .ok (.iload_n 3, 1) := by decide +kernel
theorem dX8_readsNumber_143 : decode cX8_readsNumber 143 = .ok (.iadd, 1) := by decide +kernel
theorem dX8_readsNumber_144 : decode cX8_readsNumber 144 = .ok (.putfield 74, 3) := by decide +kernel
theorem dX8_readsNumber_147 : decode cX8_readsNumber 147 = .ok (.iconst 1, 1) := by decide +kernel
theorem dX8_readsNumber_148 : decode cX8_readsNumber 148 = .ok (.ireturn, 1) := by decide +kernel
set_option maxRecDepth 20000 in
theorem ggX8_readsLaw_X8_sign : GoodIn wsX8_readsLaw wsX8_sign := goodIn_r _ [7, 8, 9, 10, 11, 6, 12, 13, 14, 15, 16, 17, 18, 19, 33, 34, 35, 36, 37, 38, 39, 40, 41, 42, 43, 44, 45, 46, 47, 48, 49] (by decide +kernel) (by decide +kernel)
set_option maxRecDepth 20000 in
theorem gX8_readsLaw_X8_sign : GoodIn wsX8_readsLaw (wsV RX8 96 RX8 yX8_sign wsX8_sign) := goodIn_app (goodIn_of _ (by decide +kernel)) ggX8_readsLaw_X8_sign
set_option maxRecDepth 20000 in
theorem ggX8_readsLaw_X8_readsNumber : GoodIn wsX8_readsLaw wsX8_readsNumber := goodIn_r _ [23, 8, 14, 2, 24, 25, 26, 6, 27, 13, 28, 29, 30, 31, 32, 15, 16, 17, 18, 19, 33, 34, 35, 36, 37, 38, 39, 40, 41, 42, 43, 44, 45, 46, 47, 48, 49] (by decide +kernel) (by decide +kernel)
set_option maxRecDepth 20000 in
theorem gX8_readsLaw_X8_readsNumber : GoodIn wsX8_readsLaw (wsV RX8 99 RX8 yX8_readsNumber wsX8_readsNumber) := goodIn_app (goodIn_of _ (by decide +kernel)) ggX8_readsLaw_X8_readsNumber
theorem dX8_readsLaw_0 : decode cX8_readsLaw 0 = .ok (.aload_n 0, 1) := by decide +kernel
theorem dX8_readsLaw_1 : decode cX8_readsLaw 1 = .ok (.bipush 100, 2) := by decide +kernel
theorem dX8_readsLaw_3 : decode cX8_readsLaw 3 = .ok (.invokevirtual 96, 3) := by decide +kernel
theorem dX8_readsLaw_6 : decode cX8_readsLaw 6 = .ok (.ifCond .eq 13, 3) := by decide +kernel
theorem dX8_readsLaw_9 : decode cX8_readsLaw 9 = .ok (.aload_n 0, 1) := by decide +kernel
theorem dX8_readsLaw_10 : decode cX8_readsLaw 10 = .ok (.iconst 1, 1) := by decide +kernel
theorem dX8_readsLaw_11 : decode cX8_readsLaw 11 = .ok (.bipush 9, 2) := by decide +kernel
theorem dX8_readsLaw_13 : decode cX8_readsLaw 13 = .ok (.invokevirtual 99, 3) := by decide +kernel
theorem dX8_readsLaw_16 : decode cX8_readsLaw 16 = .ok (.ifCond .ne 5, 3) := by decide +kernel
theorem dX8_readsLaw_19 : decode cX8_readsLaw 19 = .ok (.iconst 0, 1) := by decide +kernel
theorem dX8_readsLaw_20 : decode cX8_readsLaw 20 = .ok (.ireturn, 1) := by decide +kernel
theorem dX8_readsLaw_21 : decode cX8_readsLaw 21 = .ok (.aload_n 0, 1) := by decide +kernel
theorem dX8_readsLaw_22 : decode cX8_readsLaw 22 = .ok (.getfield 7, 3) := by decide +kernel
theorem dX8_readsLaw_25 : decode cX8_readsLaw 25 = .ok (.sipush 1323, 3) := by decide +kernel
theorem dX8_readsLaw_28 : decode cX8_readsLaw 28 = .ok (.aload_n 0, 1) := by decide +kernel
theorem dX8_readsLaw_29 : decode cX8_readsLaw 29 = .ok (.getfield 93, 3) := by decide +kernel
theorem dX8_readsLaw_32 : decode cX8_readsLaw 32 = .ok (.iastore, 1) := by decide +kernel
theorem dX8_readsLaw_33 : decode cX8_readsLaw 33 = .ok (.aload_n 0, 1) := by decide +kernel
theorem dX8_readsLaw_34 : decode cX8_readsLaw 34 = .ok (.bipush 59, 2) := by decide +kernel
theorem dX8_readsLaw_36 : decode cX8_readsLaw 36 = .ok (.invokevirtual 96, 3) := by decide +kernel
theorem dX8_readsLaw_39 : decode cX8_readsLaw 39 = .ok (.ireturn, 1) := by decide +kernel
set_option maxRecDepth 20000 in
theorem ggX8_readsStreet_X8_refuse : GoodIn wsX8_readsStreet wsX8_refuse := goodIn_r _ [8, 9, 33, 34, 35, 36, 37, 38, 39, 40, 41, 42, 43, 44, 45, 46, 47, 48, 49] (by decide +kernel) (by decide +kernel)
set_option maxRecDepth 20000 in
theorem gX8_readsStreet_X8_refuse : GoodIn wsX8_readsStreet (wsV RX8 87 RX8 yX8_refuse wsX8_refuse) := goodIn_app (goodIn_of _ (by decide +kernel)) ggX8_readsStreet_X8_refuse
set_option maxRecDepth 20000 in
theorem ggX8_readsStreet_X8_readsNumber : GoodIn wsX8_readsStreet wsX8_readsNumber := goodIn_r _ [13, 2, 14, 3, 15, 16, 17, 7, 18, 19, 20, 21, 22, 23, 24, 4, 5, 6, 8, 9, 33, 34, 35, 36, 37, 38, 39, 40, 41, 42, 43, 44, 45, 46, 47, 48, 49] (by decide +kernel) (by decide +kernel)
set_option maxRecDepth 20000 in
theorem gX8_readsStreet_X8_readsNumber : GoodIn wsX8_readsStreet (wsV RX8 99 RX8 yX8_readsNumber wsX8_readsNumber) := goodIn_app (goodIn_of _ (by decide +kernel)) ggX8_readsStreet_X8_readsNumber
set_option maxRecDepth 20000 in
theorem ggX8_readsStreet_X8_sign : GoodIn wsX8_readsStreet wsX8_sign := goodIn_r _ [28, 2, 29, 30, 31, 7, 32, 19, 14, 4, 5, 6, 8, 9, 33, 34, 35, 36, 37, 38, 39, 40, 41, 42, 43, 44, 45, 46, 47, 48, 49] (by decide +kernel) (by decide +kernel)
set_option maxRecDepth 20000 in
theorem gX8_readsStreet_X8_sign : GoodIn wsX8_readsStreet (wsV RX8 96 RX8 yX8_sign wsX8_sign) := goodIn_app (goodIn_of _ (by decide +kernel)) ggX8_readsStreet_X8_sign
theorem dX8_readsStreet_0 : decode cX8_readsStreet 0 = .ok (.aload_n 0, 1) := by decide +kernel
theorem dX8_readsStreet_1 : decode cX8_readsStreet 1 = .ok (.getfield 7, 3) := by decide +kernel
theorem dX8_readsStreet_4 : decode cX8_readsStreet 4 = .ok (.sipush 1324, 3) := by decide +kernel
theorem dX8_readsStreet_7 : decode cX8_readsStreet 7 = .ok (.iaload, 1) := by decide +kernel
theorem dX8_readsStreet_8 : decode cX8_readsStreet 8 = .ok (.istore_n 1, 1) := by decide +kernel
theorem dX8_readsStreet_9 : decode cX8_readsStreet 9 = .ok (.iload_n 1, 1) := by decide +kernel
theorem dX8_readsStreet_10 : decode cX8_readsStreet 10 = .ok (.bipush 7, 2) := by decide +kernel
theorem dX8_readsStreet_12 : decode cX8_readsStreet 12 = .ok (.if_icmp .ne 9, 3) := by decide +kernel
theorem dX8_readsStreet_15 : decode cX8_readsStreet 15 = .ok (.aload_n 0, 1) := by decide +kernel
theorem dX8_readsStreet_16 : decode cX8_readsStreet 16 = .ok (.iconst 3, 1) := by decide +kernel
theorem dX8_readsStreet_17 : decode cX8_readsStreet 17 = .ok (.invokevirtual 87, 3) := by decide +kernel
theorem dX8_readsStreet_20 : decode cX8_readsStreet 20 = .ok (.ireturn, 1) := by decide +kernel
theorem dX8_readsStreet_21 : decode cX8_readsStreet 21 = .ok (.aload_n 0, 1) := by decide +kernel
theorem dX8_readsStreet_22 : decode cX8_readsStreet 22 = .ok (.dup, 1) := by decide +kernel
theorem dX8_readsStreet_23 : decode cX8_readsStreet 23 = .ok (.getfield 74, 3) := by decide +kernel
theorem dX8_readsStreet_26 : decode cX8_readsStreet 26 = .ok (.iconst 1, 1) := by decide +kernel
theorem dX8_readsStreet_27 : decode cX8_readsStreet 27 = .ok (.iadd, 1) := by decide +kernel
theorem dX8_readsStreet_28 : decode cX8_readsStreet 28 = .ok (.putfield 74, 3) := by decide +kernel
theorem dX8_readsStreet_31 : decode cX8_readsStreet 31 = .ok (.aload_n 0, 1) := by decide +kernel
theorem dX8_readsStreet_32 : decode cX8_readsStreet 32 = .ok (.iconst 0, 1) := by decide +kernel
theorem dX8_readsStreet_33 : decode cX8_readsStreet 33 = .ok (.bipush 30, 2) := by decide +kernel
theorem dX8_readsStreet_35 : decode cX8_readsStreet 35 = .ok (.invokevirtual 99, 3) := by decide +kernel
theorem dX8_readsStreet_38 : decode cX8_readsStreet 38 = .ok (.ifCond .ne 5, 3) := by decide +kernel
theorem dX8_readsStreet_41 : decode cX8_readsStreet 41 = .ok (.iconst 0, 1) := by decide +kernel
theorem dX8_readsStreet_42 : decode cX8_readsStreet 42 = .ok (.ireturn, 1) := by decide +kernel
theorem dX8_readsStreet_43 : decode cX8_readsStreet 43 = .ok (.aload_n 0, 1) := by decide +kernel
theorem dX8_readsStreet_44 : decode cX8_readsStreet 44 = .ok (.getfield 7, 3) := by decide +kernel
theorem dX8_readsStreet_47 : decode cX8_readsStreet 47 = .ok (.sipush 1328, 3) := by decide +kernel
theorem dX8_readsStreet_50 : decode cX8_readsStreet 50 = .ok (.iload_n 1, 1) := by decide +kernel
theorem dX8_readsStreet_51 : decode cX8_readsStreet 51 = .ok (.iadd, 1) := by decide +kernel
theorem dX8_readsStreet_52 : decode cX8_readsStreet 52 = .ok (.aload_n 0, 1) := by decide +kernel
theorem dX8_readsStreet_53 : decode cX8_readsStreet 53 = .ok (.getfield 93, 3) := by decide +kernel
theorem dX8_readsStreet_56 : decode cX8_readsStreet 56 = .ok (.iastore, 1) := by decide +kernel
theorem dX8_readsStreet_57 : decode cX8_readsStreet 57 = .ok (.aload_n 0, 1) := by decide +kernel
theorem dX8_readsStreet_58 : decode cX8_readsStreet 58 = .ok (.bipush 44, 2) := by decide +kernel
theorem dX8_readsStreet_60 : decode cX8_readsStreet 60 = .ok (.invokevirtual 96, 3) := by decide +kernel
theorem dX8_readsStreet_63 : decode cX8_readsStreet 63 = .ok (.ifCond .eq 13, 3) := by decide +kernel
theorem dX8_readsStreet_66 : decode cX8_readsStreet 66 = .ok (.aload_n 0, 1) := by decide +kernel
theorem dX8_readsStreet_67 : decode cX8_readsStreet 67 = .ok (.iconst 0, 1) := by decide +kernel
theorem dX8_readsStreet_68 : decode cX8_readsStreet 68 = .ok (.bipush 9, 2) := by decide +kernel
theorem dX8_readsStreet_70 : decode cX8_readsStreet 70 = .ok (.invokevirtual 99, 3) := by decide +kernel
theorem dX8_readsStreet_73 : decode cX8_readsStreet 73 = .ok (.ifCond .ne 5, 3) := by decide +kernel
theorem dX8_readsStreet_76 : decode cX8_readsStreet 76 = .ok (.iconst 0, 1) := by decide +kernel
theorem dX8_readsStreet_77 : decode cX8_readsStreet 77 = .ok (.ireturn, 1) := by decide +kernel
theorem dX8_readsStreet_78 : decode cX8_readsStreet 78 = .ok (.aload_n 0, 1) := by decide +kernel
theorem dX8_readsStreet_79 : decode cX8_readsStreet 79 = .ok (.getfield 7, 3) := by decide +kernel
theorem dX8_readsStreet_82 : decode cX8_readsStreet 82 = .ok (.sipush 1335, 3) := by decide +kernel
theorem dX8_readsStreet_85 : decode cX8_readsStreet 85 = .ok (.iload_n 1, 1) := by decide +kernel
theorem dX8_readsStreet_86 : decode cX8_readsStreet 86 = .ok (.iadd, 1) := by decide +kernel
theorem dX8_readsStreet_87 : decode cX8_readsStreet 87 = .ok (.aload_n 0, 1) := by decide +kernel
theorem dX8_readsStreet_88 : decode cX8_readsStreet 88 = .ok (.getfield 93, 3) := by decide +kernel
theorem dX8_readsStreet_91 : decode cX8_readsStreet 91 = .ok (.iastore, 1) := by decide +kernel
theorem dX8_readsStreet_92 : decode cX8_readsStreet 92 = .ok (.aload_n 0, 1) := by decide +kernel
theorem dX8_readsStreet_93 : decode cX8_readsStreet 93 = .ok (.getfield 7, 3) := by decide +kernel
theorem dX8_readsStreet_96 : decode cX8_readsStreet 96 = .ok (.sipush 1324, 3) := by decide +kernel
theorem dX8_readsStreet_99 : decode cX8_readsStreet 99 = .ok (.dup2, 1) := by decide +kernel
theorem dX8_readsStreet_100 : decode cX8_readsStreet 100 = .ok (.iaload, 1) := by decide +kernel
theorem dX8_readsStreet_101 : decode cX8_readsStreet 101 = .ok (.iconst 1, 1) := by decide +kernel
theorem dX8_readsStreet_102 : decode cX8_readsStreet 102 = .ok (.iadd, 1) := by decide +kernel
theorem dX8_readsStreet_103 : decode cX8_readsStreet 103 = .ok (.iastore, 1) := by decide +kernel
theorem dX8_readsStreet_104 : decode cX8_readsStreet 104 = .ok (.aload_n 0, 1) := by decide +kernel
theorem dX8_readsStreet_105 : decode cX8_readsStreet 105 = .ok (.bipush 59, 2) := by decide +kernel
theorem dX8_readsStreet_107 : decode cX8_readsStreet 107 = .ok (.invokevirtual 96, 3) := by decide +kernel
theorem dX8_readsStreet_110 : decode cX8_readsStreet 110 = .ok (.ireturn, 1) := by decide +kernel
theorem dX8_kindOfLetter_0 : decode cX8_kindOfLetter 0 = .ok (.iload_n 0, 1) := by decide +kernel
theorem dX8_kindOfLetter_1 : decode cX8_kindOfLetter 1 = .ok (.bipush 119, 2) := by decide +kernel
theorem dX8_kindOfLetter_3 : decode cX8_kindOfLetter 3 = .ok (.if_icmp .ne 7, 3) := by decide +kernel
theorem dX8_kindOfLetter_6 : decode cX8_kindOfLetter 6 = .ok (.iconst 1, 1) := by decide +kernel
theorem dX8_kindOfLetter_7 : decode cX8_kindOfLetter 7 = .ok (.goto 44, 3) := by decide +kernel
theorem dX8_kindOfLetter_10 : decode cX8_kindOfLetter 10 = .ok (.iload_n 0, 1) := by decide +kernel
theorem dX8_kindOfLetter_11 : decode cX8_kindOfLetter 11 = .ok (.bipush 110, 2) := by decide +kernel
theorem dX8_kindOfLetter_13 : decode cX8_kindOfLetter 13 = .ok (.if_icmp .ne 7, 3) := by decide +kernel
theorem dX8_kindOfLetter_16 : decode cX8_kindOfLetter 16 = .ok (.iconst 2, 1) := by decide +kernel
theorem dX8_kindOfLetter_17 : decode cX8_kindOfLetter 17 = .ok (.goto 34, 3) := by decide +kernel
theorem dX8_kindOfLetter_20 : decode cX8_kindOfLetter 20 = .ok (.iload_n 0, 1) := by decide +kernel
theorem dX8_kindOfLetter_21 : decode cX8_kindOfLetter 21 = .ok (.bipush 98, 2) := by decide +kernel
theorem dX8_kindOfLetter_23 : decode cX8_kindOfLetter 23 = .ok (.if_icmp .ne 7, 3) := by decide +kernel
theorem dX8_kindOfLetter_26 : decode cX8_kindOfLetter 26 = .ok (.iconst 3, 1) := by decide +kernel
theorem dX8_kindOfLetter_27 : decode cX8_kindOfLetter 27 = .ok (.goto 24, 3) := by decide +kernel
theorem dX8_kindOfLetter_30 : decode cX8_kindOfLetter 30 = .ok (.iload_n 0, 1) := by decide +kernel
theorem dX8_kindOfLetter_31 : decode cX8_kindOfLetter 31 = .ok (.bipush 107, 2) := by decide +kernel
theorem dX8_kindOfLetter_33 : decode cX8_kindOfLetter 33 = .ok (.if_icmp .ne 7, 3) := by decide +kernel
theorem dX8_kindOfLetter_36 : decode cX8_kindOfLetter 36 = .ok (.iconst 4, 1) := by decide +kernel
theorem dX8_kindOfLetter_37 : decode cX8_kindOfLetter 37 = .ok (.goto 14, 3) := by decide +kernel
theorem dX8_kindOfLetter_40 : decode cX8_kindOfLetter 40 = .ok (.iload_n 0, 1) := by decide +kernel
theorem dX8_kindOfLetter_41 : decode cX8_kindOfLetter 41 = .ok (.bipush 115, 2) := by decide +kernel
theorem dX8_kindOfLetter_43 : decode cX8_kindOfLetter 43 = .ok (.if_icmp .ne 7, 3) := by decide +kernel
theorem dX8_kindOfLetter_46 : decode cX8_kindOfLetter 46 = .ok (.iconst 5, 1) := by decide +kernel
theorem dX8_kindOfLetter_47 : decode cX8_kindOfLetter 47 = .ok (.goto 4, 3) := by decide +kernel
theorem dX8_kindOfLetter_50 : decode cX8_kindOfLetter 50 = .ok (.iconst 0, 1) := by decide +kernel
theorem dX8_kindOfLetter_51 : decode cX8_kindOfLetter 51 = .ok (.ireturn, 1) := by decide +kernel
set_option maxRecDepth 20000 in
theorem ggX8_readsGesture_X8_refuse : GoodIn wsX8_readsGesture wsX8_refuse := goodIn_r _ [9, 10, 36, 37, 38, 39, 40, 41, 42, 43, 44, 45, 46, 47, 48, 49, 50, 51, 52] (by decide +kernel) (by decide +kernel)
set_option maxRecDepth 20000 in
theorem gX8_readsGesture_X8_refuse : GoodIn wsX8_readsGesture (wsV RX8 87 RX8 yX8_refuse wsX8_refuse) := goodIn_app (goodIn_of _ (by decide +kernel)) ggX8_readsGesture_X8_refuse
set_option maxRecDepth 20000 in
theorem ggX8_readsGesture_X8_kindOfLetter : GoodIn wsX8_readsGesture wsX8_kindOfLetter := goodIn_r _ [13] (by decide +kernel) (by decide +kernel)
set_option maxRecDepth 20000 in
theorem gX8_readsGesture_X8_kindOfLetter : GoodIn wsX8_readsGesture (va_wsS RX8 103 yX8_kindOfLetter wsX8_kindOfLetter) := goodIn_app (goodIn_of _ (by decide +kernel)) ggX8_readsGesture_X8_kindOfLetter
set_option maxRecDepth 20000 in
theorem ggX8_readsGesture_X8_readsNumber : GoodIn wsX8_readsGesture wsX8_readsNumber := goodIn_r _ [17, 3, 2, 4, 18, 19, 20, 8, 21, 22, 23, 24, 25, 26, 27, 5, 6, 7, 9, 10, 36, 37, 38, 39, 40, 41, 42, 43, 44, 45, 46, 47, 48, 49, 50, 51, 52] (by decide +kernel) (by decide +kernel)
set_option maxRecDepth 20000 in
theorem gX8_readsGesture_X8_readsNumber : GoodIn wsX8_readsGesture (wsV RX8 99 RX8 yX8_readsNumber wsX8_readsNumber) := goodIn_app (goodIn_of _ (by decide +kernel)) ggX8_readsGesture_X8_readsNumber
set_option maxRecDepth 20000 in
theorem ggX8_readsGesture_X8_sign : GoodIn wsX8_readsGesture wsX8_sign := goodIn_r _ [31, 3, 32, 33, 34, 8, 35, 22, 2, 5, 6, 7, 9, 10, 36, 37, 38, 39, 40, 41, 42, 43, 44, 45, 46, 47, 48, 49, 50, 51, 52] (by decide +kernel) (by decide +kernel)
set_option maxRecDepth 20000 in
theorem gX8_readsGesture_X8_sign : GoodIn wsX8_readsGesture (wsV RX8 96 RX8 yX8_sign wsX8_sign) := goodIn_app (goodIn_of _ (by decide +kernel)) ggX8_readsGesture_X8_sign
theorem dX8_readsGesture_0 : decode cX8_readsGesture 0 = .ok (.aload_n 0, 1) := by decide +kernel
theorem dX8_readsGesture_1 : decode cX8_readsGesture 1 = .ok (.getfield 7, 3) := by decide +kernel
theorem dX8_readsGesture_4 : decode cX8_readsGesture 4 = .ok (.sipush 1325, 3) := by decide +kernel
theorem dX8_readsGesture_7 : decode cX8_readsGesture 7 = .ok (.iaload, 1) := by decide +kernel
theorem dX8_readsGesture_8 : decode cX8_readsGesture 8 = .ok (.istore_n 1, 1) := by decide +kernel
theorem dX8_readsGesture_9 : decode cX8_readsGesture 9 = .ok (.iload_n 1, 1) := by decide +kernel
theorem dX8_readsGesture_10 : decode cX8_readsGesture 10 = .ok (.bipush 6, 2) := by decide +kernel
theorem dX8_readsGesture_12 : decode cX8_readsGesture 12 = .ok (.if_icmp .ne 9, 3) := by decide +kernel
theorem dX8_readsGesture_15 : decode cX8_readsGesture 15 = .ok (.aload_n 0, 1) := by decide +kernel
theorem dX8_readsGesture_16 : decode cX8_readsGesture 16 = .ok (.iconst 3, 1) := by decide +kernel
theorem dX8_readsGesture_17 : decode cX8_readsGesture 17 = .ok (.invokevirtual 87, 3) := by decide +kernel
theorem dX8_readsGesture_20 : decode cX8_readsGesture 20 = .ok (.ireturn, 1) := by decide +kernel
theorem dX8_readsGesture_21 : decode cX8_readsGesture 21 = .ok (.aload_n 0, 1) := by decide +kernel
theorem dX8_readsGesture_22 : decode cX8_readsGesture 22 = .ok (.getfield 7, 3) := by decide +kernel
theorem dX8_readsGesture_25 : decode cX8_readsGesture 25 = .ok (.sipush 1342, 3) := by decide +kernel
theorem dX8_readsGesture_28 : decode cX8_readsGesture 28 = .ok (.iload_n 1, 1) := by decide +kernel
theorem dX8_readsGesture_29 : decode cX8_readsGesture 29 = .ok (.iadd, 1) := by decide +kernel
theorem dX8_readsGesture_30 : decode cX8_readsGesture 30 = .ok (.aload_n 0, 1) := by decide +kernel
theorem dX8_readsGesture_31 : decode cX8_readsGesture 31 = .ok (.getfield 26, 3) := by decide +kernel
theorem dX8_readsGesture_34 : decode cX8_readsGesture 34 = .ok (.aload_n 0, 1) := by decide +kernel
theorem dX8_readsGesture_35 : decode cX8_readsGesture 35 = .ok (.getfield 74, 3) := by decide +kernel
theorem dX8_readsGesture_38 : decode cX8_readsGesture 38 = .ok (.iaload, 1) := by decide +kernel
theorem dX8_readsGesture_39 : decode cX8_readsGesture 39 = .ok (.invokestatic 103, 3) := by decide +kernel
theorem dX8_readsGesture_42 : decode cX8_readsGesture 42 = .ok (.iastore, 1) := by decide +kernel
theorem dX8_readsGesture_43 : decode cX8_readsGesture 43 = .ok (.aload_n 0, 1) := by decide +kernel
theorem dX8_readsGesture_44 : decode cX8_readsGesture 44 = .ok (.dup, 1) := by decide +kernel
theorem dX8_readsGesture_45 : decode cX8_readsGesture 45 = .ok (.getfield 74, 3) := by decide +kernel
theorem dX8_readsGesture_48 : decode cX8_readsGesture 48 = .ok (.iconst 1, 1) := by decide +kernel
theorem dX8_readsGesture_49 : decode cX8_readsGesture 49 = .ok (.iadd, 1) := by decide +kernel
theorem dX8_readsGesture_50 : decode cX8_readsGesture 50 = .ok (.putfield 74, 3) := by decide +kernel
theorem dX8_readsGesture_53 : decode cX8_readsGesture 53 = .ok (.aload_n 0, 1) := by decide +kernel
theorem dX8_readsGesture_54 : decode cX8_readsGesture 54 = .ok (.iconst 1, 1) := by decide +kernel
theorem dX8_readsGesture_55 : decode cX8_readsGesture 55 = .ok (.bipush 30, 2) := by decide +kernel
theorem dX8_readsGesture_57 : decode cX8_readsGesture 57 = .ok (.invokevirtual 99, 3) := by decide +kernel
theorem dX8_readsGesture_60 : decode cX8_readsGesture 60 = .ok (.ifCond .ne 5, 3) := by decide +kernel
theorem dX8_readsGesture_63 : decode cX8_readsGesture 63 = .ok (.iconst 0, 1) := by decide +kernel
theorem dX8_readsGesture_64 : decode cX8_readsGesture 64 = .ok (.ireturn, 1) := by decide +kernel
theorem dX8_readsGesture_65 : decode cX8_readsGesture 65 = .ok (.aload_n 0, 1) := by decide +kernel
theorem dX8_readsGesture_66 : decode cX8_readsGesture 66 = .ok (.getfield 7, 3) := by decide +kernel
theorem dX8_readsGesture_69 : decode cX8_readsGesture 69 = .ok (.sipush 1348, 3) := by decide +kernel
theorem dX8_readsGesture_72 : decode cX8_readsGesture 72 = .ok (.iload_n 1, 1) := by decide +kernel
theorem dX8_readsGesture_73 : decode cX8_readsGesture 73 = .ok (.iadd, 1) := by decide +kernel
theorem dX8_readsGesture_74 : decode cX8_readsGesture 74 = .ok (.aload_n 0, 1) := by decide +kernel
theorem dX8_readsGesture_75 : decode cX8_readsGesture 75 = .ok (.getfield 93, 3) := by decide +kernel
theorem dX8_readsGesture_78 : decode cX8_readsGesture 78 = .ok (.iastore, 1) := by decide +kernel
theorem dX8_readsGesture_79 : decode cX8_readsGesture 79 = .ok (.aload_n 0, 1) := by decide +kernel
theorem dX8_readsGesture_80 : decode cX8_readsGesture 80 = .ok (.bipush 44, 2) := by decide +kernel
theorem dX8_readsGesture_82 : decode cX8_readsGesture 82 = .ok (.invokevirtual 96, 3) := by decide +kernel
theorem dX8_readsGesture_85 : decode cX8_readsGesture 85 = .ok (.ifCond .eq 12, 3) := by decide +kernel
theorem dX8_readsGesture_88 : decode cX8_readsGesture 88 = .ok (.aload_n 0, 1) := by decide +kernel
theorem dX8_readsGesture_89 : decode cX8_readsGesture 89 = .ok (.iconst 0, 1) := by decide +kernel
theorem dX8_readsGesture_90 : decode cX8_readsGesture 90 = .ok (.iconst 3, 1) := by decide +kernel
theorem dX8_readsGesture_91 : decode cX8_readsGesture 91 = .ok (.invokevirtual 99, 3) := by decide +kernel
theorem dX8_readsGesture_94 : decode cX8_readsGesture 94 = .ok (.ifCond .ne 5, 3) := by decide +kernel
theorem dX8_readsGesture_97 : decode cX8_readsGesture 97 = .ok (.iconst 0, 1) := by decide +kernel
theorem dX8_readsGesture_98 : decode cX8_readsGesture 98 = .ok (.ireturn, 1) := by decide +kernel
theorem dX8_readsGesture_99 : decode cX8_readsGesture 99 = .ok (.aload_n 0, 1) := by decide +kernel
theorem dX8_readsGesture_100 : decode cX8_readsGesture 100 = .ok (.getfield 7, 3) := by decide +kernel
theorem dX8_readsGesture_103 : decode cX8_readsGesture 103 = .ok (.sipush 1354, 3) := by decide +kernel
theorem dX8_readsGesture_106 : decode cX8_readsGesture 106 = .ok (.iload_n 1, 1) := by decide +kernel
theorem dX8_readsGesture_107 : decode cX8_readsGesture 107 = .ok (.iadd, 1) := by decide +kernel
theorem dX8_readsGesture_108 : decode cX8_readsGesture 108 = .ok (.aload_n 0, 1) := by decide +kernel
theorem dX8_readsGesture_109 : decode cX8_readsGesture 109 = .ok (.getfield 93, 3) := by decide +kernel
theorem dX8_readsGesture_112 : decode cX8_readsGesture 112 = .ok (.iastore, 1) := by decide +kernel
theorem dX8_readsGesture_113 : decode cX8_readsGesture 113 = .ok (.aload_n 0, 1) := by decide +kernel
theorem dX8_readsGesture_114 : decode cX8_readsGesture 114 = .ok (.bipush 44, 2) := by decide +kernel
theorem dX8_readsGesture_116 : decode cX8_readsGesture 116 = .ok (.invokevirtual 96, 3) := by decide +kernel
theorem dX8_readsGesture_119 : decode cX8_readsGesture 119 = .ok (.ifCond .eq 13, 3) := by decide +kernel
theorem dX8_readsGesture_122 : decode cX8_readsGesture 122 = .ok (.aload_n 0, 1) := by decide +kernel
theorem dX8_readsGesture_123 : decode cX8_readsGesture 123 = .ok (.iconst 1, 1) := by decide +kernel
theorem dX8_readsGesture_124 : decode cX8_readsGesture 124 = .ok (.bipush 9, 2) := by decide +kernel
theorem dX8_readsGesture_126 : decode cX8_readsGesture 126 = .ok (.invokevirtual 99, 3) := by decide +kernel
theorem dX8_readsGesture_129 : decode cX8_readsGesture 129 = .ok (.ifCond .ne 5, 3) := by decide +kernel
theorem dX8_readsGesture_132 : decode cX8_readsGesture 132 = .ok (.iconst 0, 1) := by decide +kernel
theorem dX8_readsGesture_133 : decode cX8_readsGesture 133 = .ok (.ireturn, 1) := by decide +kernel
theorem dX8_readsGesture_134 : decode cX8_readsGesture 134 = .ok (.aload_n 0, 1) := by decide +kernel
theorem dX8_readsGesture_135 : decode cX8_readsGesture 135 = .ok (.getfield 7, 3) := by decide +kernel
theorem dX8_readsGesture_138 : decode cX8_readsGesture 138 = .ok (.sipush 1360, 3) := by decide +kernel
theorem dX8_readsGesture_141 : decode cX8_readsGesture 141 = .ok (.iload_n 1, 1) := by decide +kernel
theorem dX8_readsGesture_142 : decode cX8_readsGesture 142 = .ok (.iadd, 1) := by decide +kernel
theorem dX8_readsGesture_143 : decode cX8_readsGesture 143 = .ok (.aload_n 0, 1) := by decide +kernel
theorem dX8_readsGesture_144 : decode cX8_readsGesture 144 = .ok (.getfield 93, 3) := by decide +kernel
theorem dX8_readsGesture_147 : decode cX8_readsGesture 147 = .ok (.iastore, 1) := by decide +kernel
theorem dX8_readsGesture_148 : decode cX8_readsGesture 148 = .ok (.aload_n 0, 1) := by decide +kernel
theorem dX8_readsGesture_149 : decode cX8_readsGesture 149 = .ok (.getfield 7, 3) := by decide +kernel
theorem dX8_readsGesture_152 : decode cX8_readsGesture 152 = .ok (.sipush 1325, 3) := by decide +kernel
theorem dX8_readsGesture_155 : decode cX8_readsGesture 155 = .ok (.dup2, 1) := by decide +kernel
theorem dX8_readsGesture_156 : decode cX8_readsGesture 156 = .ok (.iaload, 1) := by decide +kernel
theorem dX8_readsGesture_157 : decode cX8_readsGesture 157 = .ok (.iconst 1, 1) := by decide +kernel
theorem dX8_readsGesture_158 : decode cX8_readsGesture 158 = .ok (.iadd, 1) := by decide +kernel
theorem dX8_readsGesture_159 : decode cX8_readsGesture 159 = .ok (.iastore, 1) := by decide +kernel
theorem dX8_readsGesture_160 : decode cX8_readsGesture 160 = .ok (.aload_n 0, 1) := by decide +kernel
theorem dX8_readsGesture_161 : decode cX8_readsGesture 161 = .ok (.bipush 59, 2) := by decide +kernel
theorem dX8_readsGesture_163 : decode cX8_readsGesture 163 = .ok (.invokevirtual 96, 3) := by decide +kernel
theorem dX8_readsGesture_166 : decode cX8_readsGesture 166 = .ok (.ireturn, 1) := by decide +kernel
set_option maxRecDepth 20000 in
theorem ggX8_reads_X8_readsLaw : GoodIn wsX8_reads wsX8_readsLaw := goodIn_r _ [9, 1, 10, 11, 12, 13, 8, 14, 2, 15, 16, 17, 18, 3, 4, 19, 20, 21, 22, 23, 24, 25, 26, 27, 28, 29, 30, 31, 32, 33, 34, 35, 36, 48, 49, 50, 51, 52, 53, 54, 55, 56, 57, 58, 59, 60, 61, 62, 63, 64] (by decide +kernel) (by decide +kernel)
set_option maxRecDepth 20000 in
theorem gX8_reads_X8_readsLaw : GoodIn wsX8_reads (wsV RX8 106 RX8 yX8_readsLaw wsX8_readsLaw) := goodIn_app (goodIn_of _ (by decide +kernel)) ggX8_reads_X8_readsLaw
set_option maxRecDepth 20000 in
theorem ggX8_reads_X8_isLetter : GoodIn wsX8_reads wsX8_isLetter := goodIn_r _ [18, 2, 3, 4, 48, 49, 50, 51, 52, 53, 54, 55, 56, 57, 58, 59, 60, 61, 62, 63, 64] (by decide +kernel) (by decide +kernel)
set_option maxRecDepth 20000 in
theorem gX8_reads_X8_isLetter : GoodIn wsX8_reads (wsV RX8 84 RX8 yX8_isLetter wsX8_isLetter) := goodIn_app (goodIn_of _ (by decide +kernel)) ggX8_reads_X8_isLetter
set_option maxRecDepth 20000 in
theorem ggX8_reads_X8_readsStreet : GoodIn wsX8_reads wsX8_readsStreet := goodIn_r _ [40, 1, 2, 10, 19, 20, 21, 8, 22, 23, 24, 25, 26, 27, 4, 28, 29, 30, 31, 3, 32, 33, 34, 35, 36, 11, 12, 13, 14, 15, 16, 17, 18, 48, 49, 50, 51, 52, 53, 54, 55, 56, 57, 58, 59, 60, 61, 62, 63, 64] (by decide +kernel) (by decide +kernel)
set_option maxRecDepth 20000 in
theorem gX8_reads_X8_readsStreet : GoodIn wsX8_reads (wsV RX8 110 RX8 yX8_readsStreet wsX8_readsStreet) := goodIn_app (goodIn_of _ (by decide +kernel)) ggX8_reads_X8_readsStreet
set_option maxRecDepth 20000 in
theorem ggX8_reads_X8_kindOfLetter : GoodIn wsX8_reads wsX8_kindOfLetter := goodIn_r _ [43] (by decide +kernel) (by decide +kernel)
set_option maxRecDepth 20000 in
theorem gX8_reads_X8_kindOfLetter : GoodIn wsX8_reads (va_wsS RX8 103 yX8_kindOfLetter wsX8_kindOfLetter) := goodIn_app (goodIn_of _ (by decide +kernel)) ggX8_reads_X8_kindOfLetter
set_option maxRecDepth 20000 in
theorem ggX8_reads_X8_readsGesture : GoodIn wsX8_reads wsX8_readsGesture := goodIn_r _ [47, 1, 4, 2, 10, 19, 20, 21, 8, 22, 23, 41, 42, 43, 24, 25, 26, 27, 28, 29, 30, 31, 3, 32, 33, 34, 35, 36, 11, 12, 13, 14, 15, 16, 17, 18, 48, 49, 50, 51, 52, 53, 54, 55, 56, 57, 58, 59, 60, 61, 62, 63, 64] (by decide +kernel) (by decide +kernel)
set_option maxRecDepth 20000 in
theorem gX8_reads_X8_readsGesture : GoodIn wsX8_reads (wsV RX8 113 RX8 yX8_readsGesture wsX8_readsGesture) := goodIn_app (goodIn_of _ (by decide +kernel)) ggX8_reads_X8_readsGesture
set_option maxRecDepth 20000 in
theorem ggX8_reads_X8_refuse : GoodIn wsX8_reads wsX8_refuse := goodIn_r _ [22, 23, 48, 49, 50, 51, 52, 53, 54, 55, 56, 57, 58, 59, 60, 61, 62, 63, 64] (by decide +kernel) (by decide +kernel)
set_option maxRecDepth 20000 in
theorem gX8_reads_X8_refuse : GoodIn wsX8_reads (wsV RX8 87 RX8 yX8_refuse wsX8_refuse) := goodIn_app (goodIn_of _ (by decide +kernel)) ggX8_reads_X8_refuse
theorem dX8_reads_0 : decode cX8_reads 0 = .ok (.iconst 0, 1) := by decide +kernel
theorem dX8_reads_1 : decode cX8_reads 1 = .ok (.istore_n 1, 1) := by decide +kernel
theorem dX8_reads_2 : decode cX8_reads 2 = .ok (.iload_n 1, 1) := by decide +kernel
theorem dX8_reads_3 : decode cX8_reads 3 = .ok (.bipush 49, 2) := by decide +kernel
theorem dX8_reads_5 : decode cX8_reads 5 = .ok (.if_icmp .ge 20, 3) := by decide +kernel
theorem dX8_reads_8 : decode cX8_reads 8 = .ok (.aload_n 0, 1) := by decide +kernel
theorem dX8_reads_9 : decode cX8_reads 9 = .ok (.getfield 7, 3) := by decide +kernel
theorem dX8_reads_12 : decode cX8_reads 12 = .ok (.sipush 1323, 3) := by decide +kernel
theorem dX8_reads_15 : decode cX8_reads 15 = .ok (.iload_n 1, 1) := by decide +kernel
theorem dX8_reads_16 : decode cX8_reads 16 = .ok (.iadd, 1) := by decide +kernel
theorem dX8_reads_17 : decode cX8_reads 17 = .ok (.iconst 0, 1) := by decide +kernel
theorem dX8_reads_18 : decode cX8_reads 18 = .ok (.iastore, 1) := by decide +kernel
theorem dX8_reads_19 : decode cX8_reads 19 = .ok (.iinc 1 1, 3) := by decide +kernel
theorem dX8_reads_22 : decode cX8_reads 22 = .ok (.goto (-20), 3) := by decide +kernel
theorem dX8_reads_25 : decode cX8_reads 25 = .ok (.aload_n 0, 1) := by decide +kernel
theorem dX8_reads_26 : decode cX8_reads 26 = .ok (.iconst 0, 1) := by decide +kernel
theorem dX8_reads_27 : decode cX8_reads 27 = .ok (.putfield 74, 3) := by decide +kernel
theorem dX8_reads_30 : decode cX8_reads 30 = .ok (.aload_n 0, 1) := by decide +kernel
theorem dX8_reads_31 : decode cX8_reads 31 = .ok (.invokevirtual 106, 3) := by decide +kernel
theorem dX8_reads_34 : decode cX8_reads 34 = .ok (.istore_n 1, 1) := by decide +kernel
theorem dX8_reads_35 : decode cX8_reads 35 = .ok (.iload_n 1, 1) := by decide +kernel
theorem dX8_reads_36 : decode cX8_reads 36 = .ok (.ifCond .eq 20, 3) := by decide +kernel
theorem dX8_reads_39 : decode cX8_reads 39 = .ok (.aload_n 0, 1) := by decide +kernel
theorem dX8_reads_40 : decode cX8_reads 40 = .ok (.bipush 114, 2) := by decide +kernel
theorem dX8_reads_42 : decode cX8_reads 42 = .ok (.invokevirtual 84, 3) := by decide +kernel
theorem dX8_reads_45 : decode cX8_reads 45 = .ok (.ifCond .eq 11, 3) := by decide +kernel
theorem dX8_reads_48 : decode cX8_reads 48 = .ok (.aload_n 0, 1) := by decide +kernel
theorem dX8_reads_49 : decode cX8_reads 49 = .ok (.invokevirtual 110, 3) := by decide +kernel
theorem dX8_reads_52 : decode cX8_reads 52 = .ok (.istore_n 1, 1) := by decide +kernel
theorem dX8_reads_53 : decode cX8_reads 53 = .ok (.goto (-18), 3) := by decide +kernel
theorem dX8_reads_56 : decode cX8_reads 56 = .ok (.iload_n 1, 1) := by decide +kernel
theorem dX8_reads_57 : decode cX8_reads 57 = .ok (.ifCond .eq 37, 3) := by decide +kernel
theorem dX8_reads_60 : decode cX8_reads 60 = .ok (.aload_n 0, 1) := by decide +kernel
theorem dX8_reads_61 : decode cX8_reads 61 = .ok (.getfield 74, 3) := by decide +kernel
theorem dX8_reads_64 : decode cX8_reads 64 = .ok (.aload_n 0, 1) := by decide +kernel
theorem dX8_reads_65 : decode cX8_reads 65 = .ok (.getfield 70, 3) := by decide +kernel
theorem dX8_reads_68 : decode cX8_reads 68 = .ok (.if_icmp .ge 26, 3) := by decide +kernel
theorem dX8_reads_71 : decode cX8_reads 71 = .ok (.aload_n 0, 1) := by decide +kernel
theorem dX8_reads_72 : decode cX8_reads 72 = .ok (.getfield 26, 3) := by decide +kernel
theorem dX8_reads_75 : decode cX8_reads 75 = .ok (.aload_n 0, 1) := by decide +kernel
theorem dX8_reads_76 : decode cX8_reads 76 = .ok (.getfield 74, 3) := by decide +kernel
theorem dX8_reads_79 : decode cX8_reads 79 = .ok (.iaload, 1) := by decide +kernel
theorem dX8_reads_80 : decode cX8_reads 80 = .ok (.invokestatic 103, 3) := by decide +kernel
theorem dX8_reads_83 : decode cX8_reads 83 = .ok (.ifCond .le 11, 3) := by decide +kernel
theorem dX8_reads_86 : decode cX8_reads 86 = .ok (.aload_n 0, 1) := by decide +kernel
theorem dX8_reads_87 : decode cX8_reads 87 = .ok (.invokevirtual 113, 3) := by decide +kernel
theorem dX8_reads_90 : decode cX8_reads 90 = .ok (.istore_n 1, 1) := by decide +kernel
theorem dX8_reads_91 : decode cX8_reads 91 = .ok (.goto (-35), 3) := by decide +kernel
theorem dX8_reads_94 : decode cX8_reads 94 = .ok (.iload_n 1, 1) := by decide +kernel
theorem dX8_reads_95 : decode cX8_reads 95 = .ok (.ifCond .eq 26, 3) := by decide +kernel
theorem dX8_reads_98 : decode cX8_reads 98 = .ok (.aload_n 0, 1) := by decide +kernel
theorem dX8_reads_99 : decode cX8_reads 99 = .ok (.getfield 74, 3) := by decide +kernel
theorem dX8_reads_102 : decode cX8_reads 102 = .ok (.aload_n 0, 1) := by decide +kernel
theorem dX8_reads_103 : decode cX8_reads 103 = .ok (.getfield 70, 3) := by decide +kernel
theorem dX8_reads_106 : decode cX8_reads 106 = .ok (.if_icmp .eq 11, 3) := by decide +kernel
theorem dX8_reads_109 : decode cX8_reads 109 = .ok (.aload_n 0, 1) := by decide +kernel
theorem dX8_reads_110 : decode cX8_reads 110 = .ok (.iconst 1, 1) := by decide +kernel
theorem dX8_reads_111 : decode cX8_reads 111 = .ok (.invokevirtual 87, 3) := by decide +kernel
theorem dX8_reads_114 : decode cX8_reads 114 = .ok (.ifCond .eq 7, 3) := by decide +kernel
theorem dX8_reads_117 : decode cX8_reads 117 = .ok (.iconst 1, 1) := by decide +kernel
theorem dX8_reads_118 : decode cX8_reads 118 = .ok (.goto 4, 3) := by decide +kernel
theorem dX8_reads_121 : decode cX8_reads 121 = .ok (.iconst 0, 1) := by decide +kernel
theorem dX8_reads_122 : decode cX8_reads 122 = .ok (.ireturn, 1) := by decide +kernel
set_option maxRecDepth 20000 in
theorem ggX8_city_X8_reads : GoodIn wsX8_city wsX8_reads := goodIn_r _ [13, 8, 5, 1, 14, 15, 16, 17, 12, 18, 19, 20, 21, 22, 23, 24, 25, 26, 27, 28, 29, 30, 31, 2, 32, 33, 34, 35, 36, 37, 38, 39, 40, 41, 42, 43, 44, 45, 46, 47, 48, 49, 50, 51, 52, 53, 54, 55, 60, 61, 62, 63, 64, 65, 66, 67, 68, 69, 70, 71, 72, 73, 74, 75, 76] (by decide +kernel) (by decide +kernel)
set_option maxRecDepth 20000 in
theorem gX8_city_X8_reads : GoodIn wsX8_city (wsV RX8 116 RX8 yX8_reads wsX8_reads) := goodIn_app (goodIn_of _ (by decide +kernel)) ggX8_city_X8_reads
set_option maxRecDepth 20000 in
theorem ggX8_city_X8_copyTown : GoodIn wsX8_city wsX8_copyTown := goodIn_r _ [59, 8, 60, 61, 62, 63, 64, 65, 66, 67, 68, 69, 70, 71, 72, 73, 74, 75, 76] (by decide +kernel) (by decide +kernel)
set_option maxRecDepth 20000 in
theorem gX8_city_X8_copyTown : GoodIn wsX8_city (wsV RX8 123 RX8 yX8_copyTown wsX8_copyTown) := goodIn_app (goodIn_of _ (by decide +kernel)) ggX8_city_X8_copyTown
theorem dX8_city_0 : decode cX8_city 0 = .ok (.aload_n 0, 1) := by decide +kernel
theorem dX8_city_1 : decode cX8_city 1 = .ok (.invokevirtual 116, 3) := by decide +kernel
theorem dX8_city_4 : decode cX8_city 4 = .ok (.istore_n 1, 1) := by decide +kernel
theorem dX8_city_5 : decode cX8_city 5 = .ok (.aload_n 0, 1) := by decide +kernel
theorem dX8_city_6 : decode cX8_city 6 = .ok (.iconst 0, 1) := by decide +kernel
theorem dX8_city_7 : decode cX8_city 7 = .ok (.putfield 70, 3) := by decide +kernel
theorem dX8_city_10 : decode cX8_city 10 = .ok (.iload_n 1, 1) := by decide +kernel
theorem dX8_city_11 : decode cX8_city 11 = .ok (.ifCond .ne 19, 3) := by decide +kernel
theorem dX8_city_14 : decode cX8_city 14 = .ok (.aload_n 0, 1) := by decide +kernel
theorem dX8_city_15 : decode cX8_city 15 = .ok (.aload_n 0, 1) := by decide +kernel
theorem dX8_city_16 : decode cX8_city 16 = .ok (.getfield 81, 3) := by decide +kernel
theorem dX8_city_19 : decode cX8_city 19 = .ok (.putfield 119, 3) := by decide +kernel
theorem dX8_city_22 : decode cX8_city 22 = .ok (.ldc 122, 2) := by decide +kernel
theorem dX8_city_24 : decode cX8_city 24 = .ok (.aload_n 0, 1) := by decide +kernel
theorem dX8_city_25 : decode cX8_city 25 = .ok (.getfield 74, 3) := by decide +kernel
theorem dX8_city_28 : decode cX8_city 28 = .ok (.isub, 1) := by decide +kernel
theorem dX8_city_29 : decode cX8_city 29 = .ok (.ireturn, 1) := by decide +kernel
theorem dX8_city_30 : decode cX8_city 30 = .ok (.aload_n 0, 1) := by decide +kernel
theorem dX8_city_31 : decode cX8_city 31 = .ok (.sipush 1323, 3) := by decide +kernel
theorem dX8_city_34 : decode cX8_city 34 = .ok (.iconst 0, 1) := by decide +kernel
theorem dX8_city_35 : decode cX8_city 35 = .ok (.invokevirtual 123, 3) := by decide +kernel
theorem dX8_city_38 : decode cX8_city 38 = .ok (.aload_n 0, 1) := by decide +kernel
theorem dX8_city_39 : decode cX8_city 39 = .ok (.iconst 1, 1) := by decide +kernel
theorem dX8_city_40 : decode cX8_city 40 = .ok (.putfield 127, 3) := by decide +kernel
theorem dX8_city_43 : decode cX8_city 43 = .ok (.aload_n 0, 1) := by decide +kernel
theorem dX8_city_44 : decode cX8_city 44 = .ok (.iconst 0, 1) := by decide +kernel
theorem dX8_city_45 : decode cX8_city 45 = .ok (.putfield 131, 3) := by decide +kernel
theorem dX8_city_48 : decode cX8_city 48 = .ok (.aload_n 0, 1) := by decide +kernel
theorem dX8_city_49 : decode cX8_city 49 = .ok (.getfield 7, 3) := by decide +kernel
theorem dX8_city_52 : decode cX8_city 52 = .ok (.iconst 2, 1) := by decide +kernel
theorem dX8_city_53 : decode cX8_city 53 = .ok (.iaload, 1) := by decide +kernel
theorem dX8_city_54 : decode cX8_city 54 = .ok (.ireturn, 1) := by decide +kernel
theorem dX8_fault_0 : decode cX8_fault 0 = .ok (.aload_n 0, 1) := by decide +kernel
theorem dX8_fault_1 : decode cX8_fault 1 = .ok (.getfield 119, 3) := by decide +kernel
theorem dX8_fault_4 : decode cX8_fault 4 = .ok (.ireturn, 1) := by decide +kernel
theorem dX8_copyTown_0 : decode cX8_copyTown 0 = .ok (.iconst 0, 1) := by decide +kernel
theorem dX8_copyTown_1 : decode cX8_copyTown 1 = .ok (.istore_n 3, 1) := by decide +kernel
theorem dX8_copyTown_2 : decode cX8_copyTown 2 = .ok (.iload_n 3, 1) := by decide +kernel
theorem dX8_copyTown_3 : decode cX8_copyTown 3 = .ok (.bipush 49, 2) := by decide +kernel
theorem dX8_copyTown_5 : decode cX8_copyTown 5 = .ok (.if_icmp .ge 25, 3) := by decide +kernel
theorem dX8_copyTown_8 : decode cX8_copyTown 8 = .ok (.aload_n 0, 1) := by decide +kernel
theorem dX8_copyTown_9 : decode cX8_copyTown 9 = .ok (.getfield 7, 3) := by decide +kernel
theorem dX8_copyTown_12 : decode cX8_copyTown 12 = .ok (.iload_n 2, 1) := by decide +kernel
theorem dX8_copyTown_13 : decode cX8_copyTown 13 = .ok (.iload_n 3, 1) := by decide +kernel
theorem dX8_copyTown_14 : decode cX8_copyTown 14 = .ok (.iadd, 1) := by decide +kernel
theorem dX8_copyTown_15 : decode cX8_copyTown 15 = .ok (.aload_n 0, 1) := by decide +kernel
theorem dX8_copyTown_16 : decode cX8_copyTown 16 = .ok (.getfield 7, 3) := by decide +kernel
theorem dX8_copyTown_19 : decode cX8_copyTown 19 = .ok (.iload_n 1, 1) := by decide +kernel
theorem dX8_copyTown_20 : decode cX8_copyTown 20 = .ok (.iload_n 3, 1) := by decide +kernel
theorem dX8_copyTown_21 : decode cX8_copyTown 21 = .ok (.iadd, 1) := by decide +kernel
theorem dX8_copyTown_22 : decode cX8_copyTown 22 = .ok (.iaload, 1) := by decide +kernel
theorem dX8_copyTown_23 : decode cX8_copyTown 23 = .ok (.iastore, 1) := by decide +kernel
theorem dX8_copyTown_24 : decode cX8_copyTown 24 = .ok (.iinc 3 1, 3) := by decide +kernel
theorem dX8_copyTown_27 : decode cX8_copyTown 27 = .ok (.goto (-25), 3) := by decide +kernel
theorem dX8_copyTown_30 : decode cX8_copyTown 30 = .ok (.return_, 1) := by decide +kernel
set_option maxRecDepth 20000 in
theorem ggX8_keepPast_X8_copyTown : GoodIn wsX8_keepPast wsX8_copyTown := goodIn_r _ [7, 2, 8, 9, 10, 11, 12, 13, 14, 15, 16, 17, 18, 19, 20, 21, 22, 23, 24] (by decide +kernel) (by decide +kernel)
set_option maxRecDepth 20000 in
theorem gX8_keepPast_X8_copyTown : GoodIn wsX8_keepPast (wsV RX8 123 RX8 yX8_copyTown wsX8_copyTown) := goodIn_app (goodIn_of _ (by decide +kernel)) ggX8_keepPast_X8_copyTown
theorem dX8_keepPast_0 : decode cX8_keepPast 0 = .ok (.iconst 0, 1) := by decide +kernel
theorem dX8_keepPast_1 : decode cX8_keepPast 1 = .ok (.istore_n 1, 1) := by decide +kernel
theorem dX8_keepPast_2 : decode cX8_keepPast 2 = .ok (.iload_n 1, 1) := by decide +kernel
theorem dX8_keepPast_3 : decode cX8_keepPast 3 = .ok (.sipush 1127, 3) := by decide +kernel
theorem dX8_keepPast_6 : decode cX8_keepPast 6 = .ok (.if_icmp .ge 36, 3) := by decide +kernel
theorem dX8_keepPast_9 : decode cX8_keepPast 9 = .ok (.aload_n 0, 1) := by decide +kernel
theorem dX8_keepPast_10 : decode cX8_keepPast 10 = .ok (.getfield 131, 3) := by decide +kernel
theorem dX8_keepPast_13 : decode cX8_keepPast 13 = .ok (.bipush 24, 2) := by decide +kernel
theorem dX8_keepPast_15 : decode cX8_keepPast 15 = .ok (.if_icmp .ne 27, 3) := by decide +kernel
theorem dX8_keepPast_18 : decode cX8_keepPast 18 = .ok (.aload_n 0, 1) := by decide +kernel
theorem dX8_keepPast_19 : decode cX8_keepPast 19 = .ok (.getfield 7, 3) := by decide +kernel
theorem dX8_keepPast_22 : decode cX8_keepPast 22 = .ok (.bipush 49, 2) := by decide +kernel
theorem dX8_keepPast_24 : decode cX8_keepPast 24 = .ok (.iload_n 1, 1) := by decide +kernel
theorem dX8_keepPast_25 : decode cX8_keepPast 25 = .ok (.iadd, 1) := by decide +kernel
theorem dX8_keepPast_26 : decode cX8_keepPast 26 = .ok (.aload_n 0, 1) := by decide +kernel
theorem dX8_keepPast_27 : decode cX8_keepPast 27 = .ok (.getfield 7, 3) := by decide +kernel
theorem dX8_keepPast_30 : decode cX8_keepPast 30 = .ok (.bipush 98, 2) := by decide +kernel
theorem dX8_keepPast_32 : decode cX8_keepPast 32 = .ok (.iload_n 1, 1) := by decide +kernel
theorem dX8_keepPast_33 : decode cX8_keepPast 33 = .ok (.iadd, 1) := by decide +kernel
theorem dX8_keepPast_34 : decode cX8_keepPast 34 = .ok (.iaload, 1) := by decide +kernel
theorem dX8_keepPast_35 : decode cX8_keepPast 35 = .ok (.iastore, 1) := by decide +kernel
theorem dX8_keepPast_36 : decode cX8_keepPast 36 = .ok (.iinc 1 1, 3) := by decide +kernel
theorem dX8_keepPast_39 : decode cX8_keepPast 39 = .ok (.goto (-37), 3) := by decide +kernel
theorem dX8_keepPast_42 : decode cX8_keepPast 42 = .ok (.aload_n 0, 1) := by decide +kernel
theorem dX8_keepPast_43 : decode cX8_keepPast 43 = .ok (.dup, 1) := by decide +kernel
theorem dX8_keepPast_44 : decode cX8_keepPast 44 = .ok (.getfield 131, 3) := by decide +kernel
theorem dX8_keepPast_47 : decode cX8_keepPast 47 = .ok (.aload_n 0, 1) := by decide +kernel
theorem dX8_keepPast_48 : decode cX8_keepPast 48 = .ok (.getfield 131, 3) := by decide +kernel
theorem dX8_keepPast_51 : decode cX8_keepPast 51 = .ok (.bipush 24, 2) := by decide +kernel
theorem dX8_keepPast_53 : decode cX8_keepPast 53 = .ok (.if_icmp .ne 7, 3) := by decide +kernel
theorem dX8_keepPast_56 : decode cX8_keepPast 56 = .ok (.iconst 1, 1) := by decide +kernel
theorem dX8_keepPast_57 : decode cX8_keepPast 57 = .ok (.goto 4, 3) := by decide +kernel
theorem dX8_keepPast_60 : decode cX8_keepPast 60 = .ok (.iconst 0, 1) := by decide +kernel
theorem dX8_keepPast_61 : decode cX8_keepPast 61 = .ok (.isub, 1) := by decide +kernel
theorem dX8_keepPast_62 : decode cX8_keepPast 62 = .ok (.putfield 131, 3) := by decide +kernel
theorem dX8_keepPast_65 : decode cX8_keepPast 65 = .ok (.aload_n 0, 1) := by decide +kernel
theorem dX8_keepPast_66 : decode cX8_keepPast 66 = .ok (.iconst 0, 1) := by decide +kernel
theorem dX8_keepPast_67 : decode cX8_keepPast 67 = .ok (.bipush 49, 2) := by decide +kernel
theorem dX8_keepPast_69 : decode cX8_keepPast 69 = .ok (.bipush 49, 2) := by decide +kernel
theorem dX8_keepPast_71 : decode cX8_keepPast 71 = .ok (.aload_n 0, 1) := by decide +kernel
theorem dX8_keepPast_72 : decode cX8_keepPast 72 = .ok (.getfield 131, 3) := by decide +kernel
theorem dX8_keepPast_75 : decode cX8_keepPast 75 = .ok (.imul, 1) := by decide +kernel
theorem dX8_keepPast_76 : decode cX8_keepPast 76 = .ok (.iadd, 1) := by decide +kernel
theorem dX8_keepPast_77 : decode cX8_keepPast 77 = .ok (.invokevirtual 123, 3) := by decide +kernel
theorem dX8_keepPast_80 : decode cX8_keepPast 80 = .ok (.aload_n 0, 1) := by decide +kernel
theorem dX8_keepPast_81 : decode cX8_keepPast 81 = .ok (.dup, 1) := by decide +kernel
theorem dX8_keepPast_82 : decode cX8_keepPast 82 = .ok (.getfield 131, 3) := by decide +kernel
theorem dX8_keepPast_85 : decode cX8_keepPast 85 = .ok (.iconst 1, 1) := by decide +kernel
theorem dX8_keepPast_86 : decode cX8_keepPast 86 = .ok (.iadd, 1) := by decide +kernel
theorem dX8_keepPast_87 : decode cX8_keepPast 87 = .ok (.putfield 131, 3) := by decide +kernel
theorem dX8_keepPast_90 : decode cX8_keepPast 90 = .ok (.return_, 1) := by decide +kernel
set_option maxRecDepth 20000 in
theorem ggX8_undo_X8_copyTown : GoodIn wsX8_undo wsX8_copyTown := goodIn_r _ [7, 8, 9, 10, 11, 12, 13, 14, 15, 16, 17, 18, 19, 20, 21, 22, 23, 24, 25] (by decide +kernel) (by decide +kernel)
set_option maxRecDepth 20000 in
theorem gX8_undo_X8_copyTown : GoodIn wsX8_undo (wsV RX8 123 RX8 yX8_copyTown wsX8_copyTown) := goodIn_app (goodIn_of _ (by decide +kernel)) ggX8_undo_X8_copyTown
theorem dX8_undo_0 : decode cX8_undo 0 = .ok (.aload_n 0, 1) := by decide +kernel
theorem dX8_undo_1 : decode cX8_undo 1 = .ok (.getfield 131, 3) := by decide +kernel
theorem dX8_undo_4 : decode cX8_undo 4 = .ok (.ifCond .ne 6, 3) := by decide +kernel
theorem dX8_undo_7 : decode cX8_undo 7 = .ok (.ldc 134, 2) := by decide +kernel
theorem dX8_undo_9 : decode cX8_undo 9 = .ok (.ireturn, 1) := by decide +kernel
theorem dX8_undo_10 : decode cX8_undo 10 = .ok (.aload_n 0, 1) := by decide +kernel
theorem dX8_undo_11 : decode cX8_undo 11 = .ok (.dup, 1) := by decide +kernel
theorem dX8_undo_12 : decode cX8_undo 12 = .ok (.getfield 131, 3) := by decide +kernel
theorem dX8_undo_15 : decode cX8_undo 15 = .ok (.iconst 1, 1) := by decide +kernel
theorem dX8_undo_16 : decode cX8_undo 16 = .ok (.isub, 1) := by decide +kernel
theorem dX8_undo_17 : decode cX8_undo 17 = .ok (.putfield 131, 3) := by decide +kernel
theorem dX8_undo_20 : decode cX8_undo 20 = .ok (.aload_n 0, 1) := by decide +kernel
theorem dX8_undo_21 : decode cX8_undo 21 = .ok (.bipush 49, 2) := by decide +kernel
theorem dX8_undo_23 : decode cX8_undo 23 = .ok (.bipush 49, 2) := by decide +kernel
theorem dX8_undo_25 : decode cX8_undo 25 = .ok (.aload_n 0, 1) := by decide +kernel
theorem dX8_undo_26 : decode cX8_undo 26 = .ok (.getfield 131, 3) := by decide +kernel
theorem dX8_undo_29 : decode cX8_undo 29 = .ok (.imul, 1) := by decide +kernel
theorem dX8_undo_30 : decode cX8_undo 30 = .ok (.iadd, 1) := by decide +kernel
theorem dX8_undo_31 : decode cX8_undo 31 = .ok (.iconst 0, 1) := by decide +kernel
theorem dX8_undo_32 : decode cX8_undo 32 = .ok (.invokevirtual 123, 3) := by decide +kernel
theorem dX8_undo_35 : decode cX8_undo 35 = .ok (.aload_n 0, 1) := by decide +kernel
theorem dX8_undo_36 : decode cX8_undo 36 = .ok (.getfield 131, 3) := by decide +kernel
theorem dX8_undo_39 : decode cX8_undo 39 = .ok (.ireturn, 1) := by decide +kernel
set_option maxRecDepth 20000 in
theorem ggX8_isGesture_X8_in : GoodIn wsX8_isGesture wsX8_in := goodIn_r _ [5] (by decide +kernel) (by decide +kernel)
set_option maxRecDepth 20000 in
theorem gX8_isGesture_X8_in : GoodIn wsX8_isGesture (va_wsS RX8 42 yX8_in wsX8_in) := goodIn_app (goodIn_of _ (by decide +kernel)) ggX8_isGesture_X8_in
theorem dX8_isGesture_0 : decode cX8_isGesture 0 = .ok (.iload_n 1, 1) := by decide +kernel
theorem dX8_isGesture_1 : decode cX8_isGesture 1 = .ok (.i2l, 1) := by decide +kernel
theorem dX8_isGesture_2 : decode cX8_isGesture 2 = .ok (.lconst 0, 1) := by decide +kernel
theorem dX8_isGesture_3 : decode cX8_isGesture 3 = .ok (.aload_n 0, 1) := by decide +kernel
theorem dX8_isGesture_4 : decode cX8_isGesture 4 = .ok (.getfield 7, 3) := by decide +kernel
theorem dX8_isGesture_7 : decode cX8_isGesture 7 = .ok (.iconst 2, 1) := by decide +kernel
theorem dX8_isGesture_8 : decode cX8_isGesture 8 = .ok (.iaload, 1) := by decide +kernel
theorem dX8_isGesture_9 : decode cX8_isGesture 9 = .ok (.iconst 1, 1) := by decide +kernel
theorem dX8_isGesture_10 : decode cX8_isGesture 10 = .ok (.isub, 1) := by decide +kernel
theorem dX8_isGesture_11 : decode cX8_isGesture 11 = .ok (.i2l, 1) := by decide +kernel
theorem dX8_isGesture_12 : decode cX8_isGesture 12 = .ok (.invokestatic 42, 3) := by decide +kernel
theorem dX8_isGesture_15 : decode cX8_isGesture 15 = .ok (.ireturn, 1) := by decide +kernel
set_option maxRecDepth 20000 in
theorem ggX8_isStreet_X8_in : GoodIn wsX8_isStreet wsX8_in := goodIn_r _ [5] (by decide +kernel) (by decide +kernel)
set_option maxRecDepth 20000 in
theorem gX8_isStreet_X8_in : GoodIn wsX8_isStreet (va_wsS RX8 42 yX8_in wsX8_in) := goodIn_app (goodIn_of _ (by decide +kernel)) ggX8_isStreet_X8_in
theorem dX8_isStreet_0 : decode cX8_isStreet 0 = .ok (.iload_n 1, 1) := by decide +kernel
