theorem dX0_init_0 : decode cX0_init 0 = .ok (.aload_n 0, 1) := by decide +kernel
theorem dX0_init_1 : decode cX0_init 1 = .ok (.invokespecial 1, 3) := by decide +kernel
theorem dX0_init_4 : decode cX0_init 4 = .ok (.aload_n 0, 1) := by decide +kernel
theorem dX0_init_5 : decode cX0_init 5 = .ok (.bipush 24, 2) := by decide +kernel
theorem dX0_init_7 : decode cX0_init 7 = .ok (.newarray .int, 2) := by decide +kernel
theorem dX0_init_9 : decode cX0_init 9 = .ok (.putfield 9, 3) := by decide +kernel
theorem dX0_init_12 : decode cX0_init 12 = .ok (.aload_n 0, 1) := by decide +kernel
theorem dX0_init_13 : decode cX0_init 13 = .ok (.bipush 24, 2) := by decide +kernel
theorem dX0_init_15 : decode cX0_init 15 = .ok (.newarray .int, 2) := by decide +kernel
theorem dX0_init_17 : decode cX0_init 17 = .ok (.putfield 13, 3) := by decide +kernel
theorem dX0_init_20 : decode cX0_init 20 = .ok (.aload_n 0, 1) := by decide +kernel
theorem dX0_init_21 : decode cX0_init 21 = .ok (.bipush 24, 2) := by decide +kernel
theorem dX0_init_23 : decode cX0_init 23 = .ok (.newarray .int, 2) := by decide +kernel
theorem dX0_init_25 : decode cX0_init 25 = .ok (.putfield 16, 3) := by decide +kernel
theorem dX0_init_28 : decode cX0_init 28 = .ok (.aload_n 0, 1) := by decide +kernel
theorem dX0_init_29 : decode cX0_init 29 = .ok (.iconst 0, 1) := by decide +kernel
theorem dX0_init_30 : decode cX0_init 30 = .ok (.putfield 19, 3) := by decide +kernel
theorem dX0_init_33 : decode cX0_init 33 = .ok (.aload_n 0, 1) := by decide +kernel
theorem dX0_init_34 : decode cX0_init 34 = .ok (.iconst 0, 1) := by decide +kernel
theorem dX0_init_35 : decode cX0_init 35 = .ok (.putfield 23, 3) := by decide +kernel
theorem dX0_init_38 : decode cX0_init 38 = .ok (.return_, 1) := by decide +kernel
theorem dX0_forgetAll_0 : decode cX0_forgetAll 0 = .ok (.aload_n 0, 1) := by decide +kernel
theorem dX0_forgetAll_1 : decode cX0_forgetAll 1 = .ok (.iconst 0, 1) := by decide +kernel
theorem dX0_forgetAll_2 : decode cX0_forgetAll 2 = .ok (.putfield 23, 3) := by decide +kernel
theorem dX0_forgetAll_5 : decode cX0_forgetAll 5 = .ok (.return_, 1) := by decide +kernel
theorem dX0_keep_0 : decode cX0_keep 0 = .ok (.aload_n 0, 1) := by decide +kernel
theorem dX0_keep_1 : decode cX0_keep 1 = .ok (.getfield 9, 3) := by decide +kernel
theorem dX0_keep_4 : decode cX0_keep 4 = .ok (.aload_n 0, 1) := by decide +kernel
theorem dX0_keep_5 : decode cX0_keep 5 = .ok (.getfield 19, 3) := by decide +kernel
theorem dX0_keep_8 : decode cX0_keep 8 = .ok (.iload_n 1, 1) := by decide +kernel
theorem dX0_keep_9 : decode cX0_keep 9 = .ok (.iastore, 1) := by decide +kernel
theorem dX0_keep_10 : decode cX0_keep 10 = .ok (.aload_n 0, 1) := by decide +kernel
theorem dX0_keep_11 : decode cX0_keep 11 = .ok (.getfield 13, 3) := by decide +kernel
theorem dX0_keep_14 : decode cX0_keep 14 = .ok (.aload_n 0, 1) := by decide +kernel
theorem dX0_keep_15 : decode cX0_keep 15 = .ok (.getfield 19, 3) := by decide +kernel
theorem dX0_keep_18 : decode cX0_keep 18 = .ok (.iload_n 2, 1) := by decide +kernel
theorem dX0_keep_19 : decode cX0_keep 19 = .ok (.iastore, 1) := by decide +kernel
theorem dX0_keep_20 : decode cX0_keep 20 = .ok (.aload_n 0, 1) := by decide +kernel
theorem dX0_keep_21 : decode cX0_keep 21 = .ok (.getfield 16, 3) := by decide +kernel
theorem dX0_keep_24 : decode cX0_keep 24 = .ok (.aload_n 0, 1) := by decide +kernel
theorem dX0_keep_25 : decode cX0_keep 25 = .ok (.getfield 19, 3) := by decide +kernel
theorem dX0_keep_28 : decode cX0_keep 28 = .ok (.iload_n 3, 1) := by decide +kernel
theorem dX0_keep_29 : decode cX0_keep 29 = .ok (.iastore, 1) := by decide +kernel
theorem dX0_keep_30 : decode cX0_keep 30 = .ok (.aload_n 0, 1) := by decide +kernel
theorem dX0_keep_31 : decode cX0_keep 31 = .ok (.aload_n 0, 1) := by decide +kernel
theorem dX0_keep_32 : decode cX0_keep 32 = .ok (.getfield 19, 3) := by decide +kernel
theorem dX0_keep_35 : decode cX0_keep 35 = .ok (.iconst 1, 1) := by decide +kernel
theorem dX0_keep_36 : decode cX0_keep 36 = .ok (.iadd, 1) := by decide +kernel
theorem dX0_keep_37 : decode cX0_keep 37 = .ok (.bipush 24, 2) := by decide +kernel
theorem dX0_keep_39 : decode cX0_keep 39 = .ok (.irem, 1) := by decide +kernel
theorem dX0_keep_40 : decode cX0_keep 40 = .ok (.putfield 19, 3) := by decide +kernel
theorem dX0_keep_43 : decode cX0_keep 43 = .ok (.aload_n 0, 1) := by decide +kernel
theorem dX0_keep_44 : decode cX0_keep 44 = .ok (.aload_n 0, 1) := by decide +kernel
theorem dX0_keep_45 : decode cX0_keep 45 = .ok (.getfield 23, 3) := by decide +kernel
theorem dX0_keep_48 : decode cX0_keep 48 = .ok (.iconst 1, 1) := by decide +kernel
theorem dX0_keep_49 : decode cX0_keep 49 = .ok (.iadd, 1) := by decide +kernel
theorem dX0_keep_50 : decode cX0_keep 50 = .ok (.bipush 24, 2) := by decide +kernel
theorem dX0_keep_52 : decode cX0_keep 52 = .ok (.invokestatic 26, 3) := by decide +kernel
theorem dX0_keep_55 : decode cX0_keep 55 = .ok (.putfield 23, 3) := by decide +kernel
theorem dX0_keep_58 : decode cX0_keep 58 = .ok (.return_, 1) := by decide +kernel
set_option maxRecDepth 20000 in
theorem ggX0_takeBack_X2_turnKnown : GoodIn wsX0_takeBack wsX2_turnKnown := goodIn_r _ [14, 15, 21, 22, 23, 24, 25, 26, 27, 28, 29, 30, 31, 32, 33] (by decide +kernel) (by decide +kernel)
set_option maxRecDepth 20000 in
theorem gX0_takeBack_X2_turnKnown : GoodIn wsX0_takeBack (wsV RX0 46 RX2 yX2_turnKnown wsX2_turnKnown) := goodIn_app (goodIn_of _ (by decide +kernel)) ggX0_takeBack_X2_turnKnown
theorem dX0_takeBack_0 : decode cX0_takeBack 0 = .ok (.aload_n 0, 1) := by decide +kernel
theorem dX0_takeBack_1 : decode cX0_takeBack 1 = .ok (.aload_n 0, 1) := by decide +kernel
theorem dX0_takeBack_2 : decode cX0_takeBack 2 = .ok (.getfield 19, 3) := by decide +kernel
theorem dX0_takeBack_5 : decode cX0_takeBack 5 = .ok (.bipush 24, 2) := by decide +kernel
theorem dX0_takeBack_7 : decode cX0_takeBack 7 = .ok (.iadd, 1) := by decide +kernel
theorem dX0_takeBack_8 : decode cX0_takeBack 8 = .ok (.iconst 1, 1) := by decide +kernel
theorem dX0_takeBack_9 : decode cX0_takeBack 9 = .ok (.isub, 1) := by decide +kernel
theorem dX0_takeBack_10 : decode cX0_takeBack 10 = .ok (.bipush 24, 2) := by decide +kernel
theorem dX0_takeBack_12 : decode cX0_takeBack 12 = .ok (.irem, 1) := by decide +kernel
theorem dX0_takeBack_13 : decode cX0_takeBack 13 = .ok (.putfield 19, 3) := by decide +kernel
theorem dX0_takeBack_16 : decode cX0_takeBack 16 = .ok (.aload_n 0, 1) := by decide +kernel
theorem dX0_takeBack_17 : decode cX0_takeBack 17 = .ok (.dup, 1) := by decide +kernel
theorem dX0_takeBack_18 : decode cX0_takeBack 18 = .ok (.getfield 23, 3) := by decide +kernel
theorem dX0_takeBack_21 : decode cX0_takeBack 21 = .ok (.iconst 1, 1) := by decide +kernel
theorem dX0_takeBack_22 : decode cX0_takeBack 22 = .ok (.isub, 1) := by decide +kernel
theorem dX0_takeBack_23 : decode cX0_takeBack 23 = .ok (.putfield 23, 3) := by decide +kernel
theorem dX0_takeBack_26 : decode cX0_takeBack 26 = .ok (.aload_n 0, 1) := by decide +kernel
theorem dX0_takeBack_27 : decode cX0_takeBack 27 = .ok (.getfield 13, 3) := by decide +kernel
theorem dX0_takeBack_30 : decode cX0_takeBack 30 = .ok (.aload_n 0, 1) := by decide +kernel
theorem dX0_takeBack_31 : decode cX0_takeBack 31 = .ok (.getfield 19, 3) := by decide +kernel
theorem dX0_takeBack_34 : decode cX0_takeBack 34 = .ok (.iaload, 1) := by decide +kernel
theorem dX0_takeBack_35 : decode cX0_takeBack 35 = .ok (.istore_n 2, 1) := by decide +kernel
theorem dX0_takeBack_36 : decode cX0_takeBack 36 = .ok (.aload_n 0, 1) := by decide +kernel
theorem dX0_takeBack_37 : decode cX0_takeBack 37 = .ok (.getfield 16, 3) := by decide +kernel
theorem dX0_takeBack_40 : decode cX0_takeBack 40 = .ok (.aload_n 0, 1) := by decide +kernel
theorem dX0_takeBack_41 : decode cX0_takeBack 41 = .ok (.getfield 19, 3) := by decide +kernel
theorem dX0_takeBack_44 : decode cX0_takeBack 44 = .ok (.iaload, 1) := by decide +kernel
theorem dX0_takeBack_45 : decode cX0_takeBack 45 = .ok (.istore_n 3, 1) := by decide +kernel
theorem dX0_takeBack_46 : decode cX0_takeBack 46 = .ok (.aload_n 0, 1) := by decide +kernel
theorem dX0_takeBack_47 : decode cX0_takeBack 47 = .ok (.getfield 9, 3) := by decide +kernel
theorem dX0_takeBack_50 : decode cX0_takeBack 50 = .ok (.aload_n 0, 1) := by decide +kernel
theorem dX0_takeBack_51 : decode cX0_takeBack 51 = .ok (.getfield 19, 3) := by decide +kernel
theorem dX0_takeBack_54 : decode cX0_takeBack 54 = .ok (.iaload, 1) := by decide +kernel
theorem dX0_takeBack_55 : decode cX0_takeBack 55 = .ok (.tableswitch 83 0 3 #[29, 52, 62, 75], 29) := by decide +kernel
theorem dX0_takeBack_84 : decode cX0_takeBack 84 = .ok (.aload_n 1, 1) := by decide +kernel
theorem dX0_takeBack_85 : decode cX0_takeBack 85 = .ok (.getfield 32, 3) := by decide +kernel
theorem dX0_takeBack_88 : decode cX0_takeBack 88 = .ok (.iload_n 2, 1) := by decide +kernel
theorem dX0_takeBack_89 : decode cX0_takeBack 89 = .ok (.dup2, 1) := by decide +kernel
theorem dX0_takeBack_90 : decode cX0_takeBack 90 = .ok (.iaload, 1) := by decide +kernel
theorem dX0_takeBack_91 : decode cX0_takeBack 91 = .ok (.iconst 1, 1) := by decide +kernel
theorem dX0_takeBack_92 : decode cX0_takeBack 92 = .ok (.isub, 1) := by decide +kernel
theorem dX0_takeBack_93 : decode cX0_takeBack 93 = .ok (.iastore, 1) := by decide +kernel
theorem dX0_takeBack_94 : decode cX0_takeBack 94 = .ok (.aload_n 1, 1) := by decide +kernel
theorem dX0_takeBack_95 : decode cX0_takeBack 95 = .ok (.dup, 1) := by decide +kernel
theorem dX0_takeBack_96 : decode cX0_takeBack 96 = .ok (.getfield 37, 3) := by decide +kernel
theorem dX0_takeBack_99 : decode cX0_takeBack 99 = .ok (.iload_n 3, 1) := by decide +kernel
theorem dX0_takeBack_100 : decode cX0_takeBack 100 = .ok (.isub, 1) := by decide +kernel
theorem dX0_takeBack_101 : decode cX0_takeBack 101 = .ok (.putfield 37, 3) := by decide +kernel
theorem dX0_takeBack_104 : decode cX0_takeBack 104 = .ok (.goto 34, 3) := by decide +kernel
theorem dX0_takeBack_107 : decode cX0_takeBack 107 = .ok (.aload_n 1, 1) := by decide +kernel
theorem dX0_takeBack_108 : decode cX0_takeBack 108 = .ok (.getfield 40, 3) := by decide +kernel
theorem dX0_takeBack_111 : decode cX0_takeBack 111 = .ok (.iload_n 2, 1) := by decide +kernel
theorem dX0_takeBack_112 : decode cX0_takeBack 112 = .ok (.iload_n 3, 1) := by decide +kernel
theorem dX0_takeBack_113 : decode cX0_takeBack 113 = .ok (.iastore, 1) := by decide +kernel
theorem dX0_takeBack_114 : decode cX0_takeBack 114 = .ok (.goto 24, 3) := by decide +kernel
theorem dX0_takeBack_117 : decode cX0_takeBack 117 = .ok (.aload_n 1, 1) := by decide +kernel
theorem dX0_takeBack_118 : decode cX0_takeBack 118 = .ok (.getfield 43, 3) := by decide +kernel
theorem dX0_takeBack_121 : decode cX0_takeBack 121 = .ok (.iload_n 2, 1) := by decide +kernel
theorem dX0_takeBack_122 : decode cX0_takeBack 122 = .ok (.dup2, 1) := by decide +kernel
theorem dX0_takeBack_123 : decode cX0_takeBack 123 = .ok (.iaload, 1) := by decide +kernel
theorem dX0_takeBack_124 : decode cX0_takeBack 124 = .ok (.iload_n 3, 1) := by decide +kernel
theorem dX0_takeBack_125 : decode cX0_takeBack 125 = .ok (.iadd, 1) := by decide +kernel
theorem dX0_takeBack_126 : decode cX0_takeBack 126 = .ok (.iastore, 1) := by decide +kernel
theorem dX0_takeBack_127 : decode cX0_takeBack 127 = .ok (.goto 11, 3) := by decide +kernel
theorem dX0_takeBack_130 : decode cX0_takeBack 130 = .ok (.aload_n 1, 1) := by decide +kernel
theorem dX0_takeBack_131 : decode cX0_takeBack 131 = .ok (.iload_n 2, 1) := by decide +kernel
theorem dX0_takeBack_132 : decode cX0_takeBack 132 = .ok (.invokevirtual 46, 3) := by decide +kernel
theorem dX0_takeBack_135 : decode cX0_takeBack 135 = .ok (.goto 3, 3) := by decide +kernel
theorem dX0_takeBack_138 : decode cX0_takeBack 138 = .ok (.return_, 1) := by decide +kernel
theorem dX1_init_0 : decode cX1_init 0 = .ok (.aload_n 0, 1) := by decide +kernel
theorem dX1_init_1 : decode cX1_init 1 = .ok (.invokespecial 3, 3) := by decide +kernel
theorem dX1_init_4 : decode cX1_init 4 = .ok (.aload_n 0, 1) := by decide +kernel
theorem dX1_init_5 : decode cX1_init 5 = .ok (.bipush 16, 2) := by decide +kernel
theorem dX1_init_7 : decode cX1_init 7 = .ok (.newarray .int, 2) := by decide +kernel
theorem dX1_init_9 : decode cX1_init 9 = .ok (.putfield 11, 3) := by decide +kernel
theorem dX1_init_12 : decode cX1_init 12 = .ok (.aload_n 0, 1) := by decide +kernel
theorem dX1_init_13 : decode cX1_init 13 = .ok (.iconst 0, 1) := by decide +kernel
theorem dX1_init_14 : decode cX1_init 14 = .ok (.putfield 15, 3) := by decide +kernel
theorem dX1_init_17 : decode cX1_init 17 = .ok (.return_, 1) := by decide +kernel
set_option maxRecDepth 20000 in
theorem ggX1_answer_X1_asked : GoodIn wsX1_answer wsX1_asked := goodIn_r _ [6, 7, 8, 9, 10, 11, 5, 12, 13, 14, 15, 16, 17, 18, 19, 20, 21, 22, 23, 24, 25, 1, 26, 27, 28, 29, 30, 31, 32, 33, 34, 2, 3, 4, 35, 36, 39, 40, 41, 42, 43, 44, 45, 46, 47, 48, 49, 50, 51, 37, 38] (by decide +kernel) (by decide +kernel)
set_option maxRecDepth 20000 in
theorem gX1_answer_X1_asked : GoodIn wsX1_answer (wsV RX1 19 RX1 yX1_asked wsX1_asked) := goodIn_app (goodIn_of _ (by decide +kernel)) ggX1_answer_X1_asked
theorem dX1_answer_0 : decode cX1_answer 0 = .ok (.aload_n 0, 1) := by decide +kernel
theorem dX1_answer_1 : decode cX1_answer 1 = .ok (.iconst 0, 1) := by decide +kernel
theorem dX1_answer_2 : decode cX1_answer 2 = .ok (.putfield 15, 3) := by decide +kernel
theorem dX1_answer_5 : decode cX1_answer 5 = .ok (.aload_n 0, 1) := by decide +kernel
theorem dX1_answer_6 : decode cX1_answer 6 = .ok (.aload_n 1, 1) := by decide +kernel
theorem dX1_answer_7 : decode cX1_answer 7 = .ok (.iload_n 2, 1) := by decide +kernel
theorem dX1_answer_8 : decode cX1_answer 8 = .ok (.iload_n 3, 1) := by decide +kernel
theorem dX1_answer_9 : decode cX1_answer 9 = .ok (.iconst 0, 1) := by decide +kernel
theorem dX1_answer_10 : decode cX1_answer 10 = .ok (.invokevirtual 19, 3) := by decide +kernel
theorem dX1_answer_13 : decode cX1_answer 13 = .ok (.ireturn, 1) := by decide +kernel
theorem dX1_numberLeft_0 : decode cX1_numberLeft 0 = .ok (.iload_n 1, 1) := by decide +kernel
theorem dX1_numberLeft_1 : decode cX1_numberLeft 1 = .ok (.ifCond .lt 20, 3) := by decide +kernel
theorem dX1_numberLeft_4 : decode cX1_numberLeft 4 = .ok (.iload_n 1, 1) := by decide +kernel
theorem dX1_numberLeft_5 : decode cX1_numberLeft 5 = .ok (.aload_n 0, 1) := by decide +kernel
theorem dX1_numberLeft_6 : decode cX1_numberLeft 6 = .ok (.getfield 15, 3) := by decide +kernel
theorem dX1_numberLeft_9 : decode cX1_numberLeft 9 = .ok (.if_icmp .ge 12, 3) := by decide +kernel
theorem dX1_numberLeft_12 : decode cX1_numberLeft 12 = .ok (.aload_n 0, 1) := by decide +kernel
theorem dX1_numberLeft_13 : decode cX1_numberLeft 13 = .ok (.getfield 11, 3) := by decide +kernel
theorem dX1_numberLeft_16 : decode cX1_numberLeft 16 = .ok (.iload_n 1, 1) := by decide +kernel
theorem dX1_numberLeft_17 : decode cX1_numberLeft 17 = .ok (.iaload, 1) := by decide +kernel
theorem dX1_numberLeft_18 : decode cX1_numberLeft 18 = .ok (.goto 5, 3) := by decide +kernel
theorem dX1_numberLeft_21 : decode cX1_numberLeft 21 = .ok (.ldc 23, 2) := by decide +kernel
theorem dX1_numberLeft_23 : decode cX1_numberLeft 23 = .ok (.ireturn, 1) := by decide +kernel
set_option maxRecDepth 20000 in
theorem ggX1_asked_X1_bodyFor : GoodIn wsX1_asked wsX1_bodyFor := goodIn_r _ [7, 8, 9, 10, 11, 12] (by decide +kernel) (by decide +kernel)
set_option maxRecDepth 20000 in
theorem gX1_asked_X1_bodyFor : GoodIn wsX1_asked (va_wsS RX1 35 yX1_bodyFor wsX1_bodyFor) := goodIn_app (goodIn_of _ (by decide +kernel)) ggX1_asked_X1_bodyFor
set_option maxRecDepth 20000 in
theorem ggX1_asked_X1_given : GoodIn wsX1_asked wsX1_given := goodIn_r _ [16, 17, 18, 19, 6, 20, 21, 22, 23, 24, 25, 26, 27, 28, 0, 1, 2, 3, 4, 5, 7, 8, 9, 10, 11, 12, 13, 14, 15, 29, 30, 31, 32, 33, 34, 35, 36, 37, 38, 39, 40, 41, 42, 43, 44, 45, 46, 47, 48, 49, 50] (by decide +kernel) (by decide +kernel)
set_option maxRecDepth 20000 in
theorem gX1_asked_X1_given : GoodIn wsX1_asked (wsV RX1 39 RX1 yX1_given wsX1_given) := goodIn_app (goodIn_of _ (by decide +kernel)) ggX1_asked_X1_given
theorem dX1_asked_0 : decode cX1_asked 0 = .ok (.iload_n 3, 1) := by decide +kernel
theorem dX1_asked_1 : decode cX1_asked 1 = .ok (.ifCond .ne 9, 3) := by decide +kernel
theorem dX1_asked_4 : decode cX1_asked 4 = .ok (.getstatic 24, 3) := by decide +kernel
theorem dX1_asked_7 : decode cX1_asked 7 = .ok (.goto 6, 3) := by decide +kernel
theorem dX1_asked_10 : decode cX1_asked 10 = .ok (.getstatic 27, 3) := by decide +kernel
theorem dX1_asked_13 : decode cX1_asked 13 = .ok (.astore 5, 2) := by decide +kernel
theorem dX1_asked_15 : decode cX1_asked 15 = .ok (.aload_n 0, 1) := by decide +kernel
theorem dX1_asked_16 : decode cX1_asked 16 = .ok (.aload 5, 2) := by decide +kernel
theorem dX1_asked_18 : decode cX1_asked 18 = .ok (.aload_n 1, 1) := by decide +kernel
theorem dX1_asked_19 : decode cX1_asked 19 = .ok (.getfield 30, 3) := by decide +kernel
theorem dX1_asked_22 : decode cX1_asked 22 = .ok (.iload_n 2, 1) := by decide +kernel
theorem dX1_asked_23 : decode cX1_asked 23 = .ok (.iaload, 1) := by decide +kernel
theorem dX1_asked_24 : decode cX1_asked 24 = .ok (.invokestatic 35, 3) := by decide +kernel
theorem dX1_asked_27 : decode cX1_asked 27 = .ok (.aload_n 1, 1) := by decide +kernel
theorem dX1_asked_28 : decode cX1_asked 28 = .ok (.iload_n 2, 1) := by decide +kernel
theorem dX1_asked_29 : decode cX1_asked 29 = .ok (.iload 4, 2) := by decide +kernel
theorem dX1_asked_31 : decode cX1_asked 31 = .ok (.invokevirtual 39, 3) := by decide +kernel
theorem dX1_asked_34 : decode cX1_asked 34 = .ok (.ireturn, 1) := by decide +kernel
set_option maxRecDepth 20000 in
theorem ggX1_bodyFor_X3_widerThan : GoodIn wsX1_bodyFor wsX3_widerThan := goodIn_r _ [4, 5] (by decide +kernel) (by decide +kernel)
set_option maxRecDepth 20000 in
theorem gX1_bodyFor_X3_widerThan : GoodIn wsX1_bodyFor (va_wsS RX1 43 yX3_widerThan wsX3_widerThan) := goodIn_app (goodIn_of _ (by decide +kernel)) ggX1_bodyFor_X3_widerThan
theorem dX1_bodyFor_0 : decode cX1_bodyFor 0 = .ok (.iload_n 1, 1) := by decide +kernel
theorem dX1_bodyFor_1 : decode cX1_bodyFor 1 = .ok (.istore_n 2, 1) := by decide +kernel
theorem dX1_bodyFor_2 : decode cX1_bodyFor 2 = .ok (.iconst 0, 1) := by decide +kernel
theorem dX1_bodyFor_3 : decode cX1_bodyFor 3 = .ok (.istore_n 3, 1) := by decide +kernel
theorem dX1_bodyFor_4 : decode cX1_bodyFor 4 = .ok (.iload_n 3, 1) := by decide +kernel
theorem dX1_bodyFor_5 : decode cX1_bodyFor 5 = .ok (.aload_n 0, 1) := by decide +kernel
theorem dX1_bodyFor_6 : decode cX1_bodyFor 6 = .ok (.arraylength, 1) := by decide +kernel
theorem dX1_bodyFor_7 : decode cX1_bodyFor 7 = .ok (.if_icmp .ge 34, 3) := by decide +kernel
theorem dX1_bodyFor_10 : decode cX1_bodyFor 10 = .ok (.iload_n 2, 1) := by decide +kernel
theorem dX1_bodyFor_11 : decode cX1_bodyFor 11 = .ok (.ifCond .lt 19, 3) := by decide +kernel
theorem dX1_bodyFor_14 : decode cX1_bodyFor 14 = .ok (.iload_n 2, 1) := by decide +kernel
theorem dX1_bodyFor_15 : decode cX1_bodyFor 15 = .ok (.aload_n 0, 1) := by decide +kernel
theorem dX1_bodyFor_16 : decode cX1_bodyFor 16 = .ok (.arraylength, 1) := by decide +kernel
theorem dX1_bodyFor_17 : decode cX1_bodyFor 17 = .ok (.if_icmp .ge 13, 3) := by decide +kernel
theorem dX1_bodyFor_20 : decode cX1_bodyFor 20 = .ok (.aload_n 0, 1) := by decide +kernel
theorem dX1_bodyFor_21 : decode cX1_bodyFor 21 = .ok (.iload_n 2, 1) := by decide +kernel
theorem dX1_bodyFor_22 : decode cX1_bodyFor 22 = .ok (.iaload, 1) := by decide +kernel
theorem dX1_bodyFor_23 : decode cX1_bodyFor 23 = .ok (.ifCond .eq 7, 3) := by decide +kernel
theorem dX1_bodyFor_26 : decode cX1_bodyFor 26 = .ok (.aload_n 0, 1) := by decide +kernel
theorem dX1_bodyFor_27 : decode cX1_bodyFor 27 = .ok (.iload_n 2, 1) := by decide +kernel
theorem dX1_bodyFor_28 : decode cX1_bodyFor 28 = .ok (.iaload, 1) := by decide +kernel
theorem dX1_bodyFor_29 : decode cX1_bodyFor 29 = .ok (.ireturn, 1) := by decide +kernel
theorem dX1_bodyFor_30 : decode cX1_bodyFor 30 = .ok (.iload_n 2, 1) := by decide +kernel
theorem dX1_bodyFor_31 : decode cX1_bodyFor 31 = .ok (.invokestatic 43, 3) := by decide +kernel
theorem dX1_bodyFor_34 : decode cX1_bodyFor 34 = .ok (.istore_n 2, 1) := by decide +kernel
theorem dX1_bodyFor_35 : decode cX1_bodyFor 35 = .ok (.iinc 3 1, 3) := by decide +kernel
theorem dX1_bodyFor_38 : decode cX1_bodyFor 38 = .ok (.goto (-34), 3) := by decide +kernel
theorem dX1_bodyFor_41 : decode cX1_bodyFor 41 = .ok (.iconst 0, 1) := by decide +kernel
theorem dX1_bodyFor_42 : decode cX1_bodyFor 42 = .ok (.ireturn, 1) := by decide +kernel
set_option maxRecDepth 20000 in
theorem ggX1_given_X1_leave : GoodIn wsX1_given wsX1_leave := goodIn_r _ [5, 6, 7, 49, 50] (by decide +kernel) (by decide +kernel)
set_option maxRecDepth 20000 in
theorem gX1_given_X1_leave : GoodIn wsX1_given (wsV RX1 49 RX1 yX1_leave wsX1_leave) := goodIn_app (goodIn_of _ (by decide +kernel)) ggX1_given_X1_leave
set_option maxRecDepth 20000 in
theorem ggX1_given_X1_sizeBy : GoodIn wsX1_given wsX1_sizeBy := goodIn_r _ [34, 35, 26, 27, 28, 4, 31, 32, 33, 14, 15, 16, 17, 18, 19, 20, 21, 22, 23, 24, 25, 0, 1, 2, 3, 5, 6, 7, 8, 9, 10, 11, 12, 13, 29, 30, 36, 37, 38, 39, 40, 41, 42, 43, 44, 45, 46, 47, 48, 49, 50] (by decide +kernel) (by decide +kernel)
set_option maxRecDepth 20000 in
theorem gX1_given_X1_sizeBy : GoodIn wsX1_given (wsV RX1 53 RX1 yX1_sizeBy wsX1_sizeBy) := goodIn_app (goodIn_of _ (by decide +kernel)) ggX1_given_X1_sizeBy
set_option maxRecDepth 20000 in
theorem ggX1_given_X1_markBy : GoodIn wsX1_given wsX1_markBy := goodIn_r _ [29, 30, 26, 27, 28, 4, 31, 32, 33, 14, 15, 16, 17, 18, 19, 20, 21, 22, 23, 24, 25, 0, 1, 2, 3, 5, 6, 7, 8, 9, 10, 11, 12, 13, 34, 35, 36, 37, 38, 39, 40, 41, 42, 43, 44, 45, 46, 47, 48, 49, 50] (by decide +kernel) (by decide +kernel)
set_option maxRecDepth 20000 in
theorem gX1_given_X1_markBy : GoodIn wsX1_given (wsV RX1 56 RX1 yX1_markBy wsX1_markBy) := goodIn_app (goodIn_of _ (by decide +kernel)) ggX1_given_X1_markBy
theorem dX1_given_0 : decode cX1_given 0 = .ok (.iload 4, 2) := by decide +kernel
theorem dX1_given_2 : decode cX1_given 2 = .ok (.bipush 16, 2) := by decide +kernel
theorem dX1_given_4 : decode cX1_given 4 = .ok (.if_icmp .lt 5, 3) := by decide +kernel
theorem dX1_given_7 : decode cX1_given 7 = .ok (.iconst 0, 1) := by decide +kernel
theorem dX1_given_8 : decode cX1_given 8 = .ok (.ireturn, 1) := by decide +kernel
theorem dX1_given_9 : decode cX1_given 9 = .ok (.aload_n 0, 1) := by decide +kernel
theorem dX1_given_10 : decode cX1_given 10 = .ok (.iload_n 1, 1) := by decide +kernel
theorem dX1_given_11 : decode cX1_given 11 = .ok (.invokevirtual 49, 3) := by decide +kernel
theorem dX1_given_14 : decode cX1_given 14 = .ok (.iload_n 1, 1) := by decide +kernel
theorem dX1_given_15 : decode cX1_given 15 = .ok (.bipush 20, 2) := by decide +kernel
theorem dX1_given_17 : decode cX1_given 17 = .ok (.if_icmp .ge 15, 3) := by decide +kernel
theorem dX1_given_20 : decode cX1_given 20 = .ok (.aload_n 0, 1) := by decide +kernel
theorem dX1_given_21 : decode cX1_given 21 = .ok (.iload_n 1, 1) := by decide +kernel
theorem dX1_given_22 : decode cX1_given 22 = .ok (.aload_n 2, 1) := by decide +kernel
theorem dX1_given_23 : decode cX1_given 23 = .ok (.iload_n 3, 1) := by decide +kernel
theorem dX1_given_24 : decode cX1_given 24 = .ok (.iload 4, 2) := by decide +kernel
theorem dX1_given_26 : decode cX1_given 26 = .ok (.iconst 1, 1) := by decide +kernel
theorem dX1_given_27 : decode cX1_given 27 = .ok (.iadd, 1) := by decide +kernel
theorem dX1_given_28 : decode cX1_given 28 = .ok (.invokevirtual 53, 3) := by decide +kernel
theorem dX1_given_31 : decode cX1_given 31 = .ok (.ireturn, 1) := by decide +kernel
theorem dX1_given_32 : decode cX1_given 32 = .ok (.aload_n 0, 1) := by decide +kernel
theorem dX1_given_33 : decode cX1_given 33 = .ok (.iload_n 1, 1) := by decide +kernel
theorem dX1_given_34 : decode cX1_given 34 = .ok (.aload_n 2, 1) := by decide +kernel
theorem dX1_given_35 : decode cX1_given 35 = .ok (.iload_n 3, 1) := by decide +kernel
theorem dX1_given_36 : decode cX1_given 36 = .ok (.iload 4, 2) := by decide +kernel
theorem dX1_given_38 : decode cX1_given 38 = .ok (.iconst 1, 1) := by decide +kernel
theorem dX1_given_39 : decode cX1_given 39 = .ok (.iadd, 1) := by decide +kernel
theorem dX1_given_40 : decode cX1_given 40 = .ok (.invokevirtual 56, 3) := by decide +kernel
theorem dX1_given_43 : decode cX1_given 43 = .ok (.ireturn, 1) := by decide +kernel
set_option maxRecDepth 20000 in
theorem ggX1_sizeBy_X1_given : GoodIn wsX1_sizeBy wsX1_given := goodIn_r _ [21, 22, 23, 24, 5, 25, 26, 27, 28, 29, 30, 31, 32, 33, 9, 10, 11, 12, 13, 14, 15, 16, 17, 18, 19, 20, 2, 3, 4, 34, 35, 6, 7, 8, 0, 1, 36, 37, 38, 39, 40, 41, 42, 43, 44, 45, 46, 47, 48, 49, 50] (by decide +kernel) (by decide +kernel)
set_option maxRecDepth 20000 in
theorem gX1_sizeBy_X1_given : GoodIn wsX1_sizeBy (wsV RX1 39 RX1 yX1_given wsX1_given) := goodIn_app (goodIn_of _ (by decide +kernel)) ggX1_sizeBy_X1_given
set_option maxRecDepth 20000 in
theorem ggX1_sizeBy_X1_asked : GoodIn wsX1_sizeBy wsX1_asked := goodIn_r _ [9, 10, 11, 12, 13, 14, 5, 15, 16, 17, 18, 19, 20, 2, 3, 4, 21, 22, 23, 24, 25, 26, 27, 28, 29, 30, 31, 32, 33, 34, 35, 6, 7, 8, 0, 1, 36, 37, 38, 39, 40, 41, 42, 43, 44, 45, 46, 47, 48, 49, 50] (by decide +kernel) (by decide +kernel)
set_option maxRecDepth 20000 in
theorem gX1_sizeBy_X1_asked : GoodIn wsX1_sizeBy (wsV RX1 19 RX1 yX1_asked wsX1_asked) := goodIn_app (goodIn_of _ (by decide +kernel)) ggX1_sizeBy_X1_asked
theorem dX1_sizeBy_0 : decode cX1_sizeBy 0 = .ok (.iload_n 1, 1) := by decide +kernel
theorem dX1_sizeBy_1 : decode cX1_sizeBy 1 = .ok (.tableswitch 102 10 14 #[35, 42, 63, 75, 89], 35) := by decide +kernel
theorem dX1_sizeBy_36 : decode cX1_sizeBy 36 = .ok (.aload_n 2, 1) := by decide +kernel
theorem dX1_sizeBy_37 : decode cX1_sizeBy 37 = .ok (.getfield 59, 3) := by decide +kernel
theorem dX1_sizeBy_40 : decode cX1_sizeBy 40 = .ok (.iload_n 3, 1) := by decide +kernel
theorem dX1_sizeBy_41 : decode cX1_sizeBy 41 = .ok (.iaload, 1) := by decide +kernel
theorem dX1_sizeBy_42 : decode cX1_sizeBy 42 = .ok (.ireturn, 1) := by decide +kernel
theorem dX1_sizeBy_43 : decode cX1_sizeBy 43 = .ok (.aload_n 0, 1) := by decide +kernel
theorem dX1_sizeBy_44 : decode cX1_sizeBy 44 = .ok (.bipush 10, 2) := by decide +kernel
theorem dX1_sizeBy_46 : decode cX1_sizeBy 46 = .ok (.aload_n 2, 1) := by decide +kernel
theorem dX1_sizeBy_47 : decode cX1_sizeBy 47 = .ok (.iload_n 3, 1) := by decide +kernel
theorem dX1_sizeBy_48 : decode cX1_sizeBy 48 = .ok (.iload 4, 2) := by decide +kernel
theorem dX1_sizeBy_50 : decode cX1_sizeBy 50 = .ok (.invokevirtual 39, 3) := by decide +kernel
theorem dX1_sizeBy_53 : decode cX1_sizeBy 53 = .ok (.aload_n 0, 1) := by decide +kernel
theorem dX1_sizeBy_54 : decode cX1_sizeBy 54 = .ok (.aload_n 2, 1) := by decide +kernel
theorem dX1_sizeBy_55 : decode cX1_sizeBy 55 = .ok (.iload_n 3, 1) := by decide +kernel
theorem dX1_sizeBy_56 : decode cX1_sizeBy 56 = .ok (.iconst 1, 1) := by decide +kernel
theorem dX1_sizeBy_57 : decode cX1_sizeBy 57 = .ok (.iload 4, 2) := by decide +kernel
theorem dX1_sizeBy_59 : decode cX1_sizeBy 59 = .ok (.invokevirtual 19, 3) := by decide +kernel
theorem dX1_sizeBy_62 : decode cX1_sizeBy 62 = .ok (.iadd, 1) := by decide +kernel
theorem dX1_sizeBy_63 : decode cX1_sizeBy 63 = .ok (.ireturn, 1) := by decide +kernel
theorem dX1_sizeBy_64 : decode cX1_sizeBy 64 = .ok (.aload_n 0, 1) := by decide +kernel
theorem dX1_sizeBy_65 : decode cX1_sizeBy 65 = .ok (.bipush 11, 2) := by decide +kernel
theorem dX1_sizeBy_67 : decode cX1_sizeBy 67 = .ok (.aload_n 2, 1) := by decide +kernel
theorem dX1_sizeBy_68 : decode cX1_sizeBy 68 = .ok (.iload_n 3, 1) := by decide +kernel
theorem dX1_sizeBy_69 : decode cX1_sizeBy 69 = .ok (.iload 4, 2) := by decide +kernel
theorem dX1_sizeBy_71 : decode cX1_sizeBy 71 = .ok (.invokevirtual 39, 3) := by decide +kernel
theorem dX1_sizeBy_74 : decode cX1_sizeBy 74 = .ok (.ineg, 1) := by decide +kernel
theorem dX1_sizeBy_75 : decode cX1_sizeBy 75 = .ok (.ireturn, 1) := by decide +kernel
theorem dX1_sizeBy_76 : decode cX1_sizeBy 76 = .ok (.aload_n 0, 1) := by decide +kernel
theorem dX1_sizeBy_77 : decode cX1_sizeBy 77 = .ok (.bipush 10, 2) := by decide +kernel
theorem dX1_sizeBy_79 : decode cX1_sizeBy 79 = .ok (.aload_n 2, 1) := by decide +kernel
theorem dX1_sizeBy_80 : decode cX1_sizeBy 80 = .ok (.iload_n 3, 1) := by decide +kernel
theorem dX1_sizeBy_81 : decode cX1_sizeBy 81 = .ok (.iload 4, 2) := by decide +kernel
theorem dX1_sizeBy_83 : decode cX1_sizeBy 83 = .ok (.invokevirtual 39, 3) := by decide +kernel
theorem dX1_sizeBy_86 : decode cX1_sizeBy 86 = .ok (.bipush 100, 2) := by decide +kernel
theorem dX1_sizeBy_88 : decode cX1_sizeBy 88 = .ok (.isub, 1) := by decide +kernel
theorem dX1_sizeBy_89 : decode cX1_sizeBy 89 = .ok (.ireturn, 1) := by decide +kernel
theorem dX1_sizeBy_90 : decode cX1_sizeBy 90 = .ok (.iconst 2, 1) := by decide +kernel
theorem dX1_sizeBy_91 : decode cX1_sizeBy 91 = .ok (.aload_n 0, 1) := by decide +kernel
theorem dX1_sizeBy_92 : decode cX1_sizeBy 92 = .ok (.bipush 13, 2) := by decide +kernel
theorem dX1_sizeBy_94 : decode cX1_sizeBy 94 = .ok (.aload_n 2, 1) := by decide +kernel
theorem dX1_sizeBy_95 : decode cX1_sizeBy 95 = .ok (.iload_n 3, 1) := by decide +kernel
theorem dX1_sizeBy_96 : decode cX1_sizeBy 96 = .ok (.iload 4, 2) := by decide +kernel
theorem dX1_sizeBy_98 : decode cX1_sizeBy 98 = .ok (.invokevirtual 39, 3) := by decide +kernel
theorem dX1_sizeBy_101 : decode cX1_sizeBy 101 = .ok (.imul, 1) := by decide +kernel
theorem dX1_sizeBy_102 : decode cX1_sizeBy 102 = .ok (.ireturn, 1) := by decide +kernel
theorem dX1_sizeBy_103 : decode cX1_sizeBy 103 = .ok (.iconst 0, 1) := by decide +kernel
theorem dX1_sizeBy_104 : decode cX1_sizeBy 104 = .ok (.ireturn, 1) := by decide +kernel
set_option maxRecDepth 20000 in
theorem ggX1_markBy_X1_given : GoodIn wsX1_markBy wsX1_given := goodIn_r _ [21, 22, 23, 24, 5, 25, 26, 27, 28, 29, 30, 31, 32, 33, 9, 10, 11, 12, 13, 14, 15, 16, 17, 18, 19, 20, 2, 3, 4, 0, 1, 6, 7, 8, 34, 35, 36, 37, 38, 39, 40, 41, 42, 43, 44, 45, 46, 47, 48, 49, 50] (by decide +kernel) (by decide +kernel)
set_option maxRecDepth 20000 in
theorem gX1_markBy_X1_given : GoodIn wsX1_markBy (wsV RX1 39 RX1 yX1_given wsX1_given) := goodIn_app (goodIn_of _ (by decide +kernel)) ggX1_markBy_X1_given
set_option maxRecDepth 20000 in
theorem ggX1_markBy_X1_asked : GoodIn wsX1_markBy wsX1_asked := goodIn_r _ [9, 10, 11, 12, 13, 14, 5, 15, 16, 17, 18, 19, 20, 2, 3, 4, 21, 22, 23, 24, 25, 26, 27, 28, 29, 30, 31, 32, 33, 0, 1, 6, 7, 8, 34, 35, 36, 37, 38, 39, 40, 41, 42, 43, 44, 45, 46, 47, 48, 49, 50] (by decide +kernel) (by decide +kernel)
set_option maxRecDepth 20000 in
theorem gX1_markBy_X1_asked : GoodIn wsX1_markBy (wsV RX1 19 RX1 yX1_asked wsX1_asked) := goodIn_app (goodIn_of _ (by decide +kernel)) ggX1_markBy_X1_asked
theorem dX1_markBy_0 : decode cX1_markBy 0 = .ok (.iload_n 1, 1) := by decide +kernel
theorem dX1_markBy_1 : decode cX1_markBy 1 = .ok (.tableswitch 104 20 24 #[35, 37, 55, 70, 91], 35) := by decide +kernel
theorem dX1_markBy_36 : decode cX1_markBy 36 = .ok (.iload_n 3, 1) := by decide +kernel
theorem dX1_markBy_37 : decode cX1_markBy 37 = .ok (.ireturn, 1) := by decide +kernel
theorem dX1_markBy_38 : decode cX1_markBy 38 = .ok (.aload_n 0, 1) := by decide +kernel
theorem dX1_markBy_39 : decode cX1_markBy 39 = .ok (.bipush 20, 2) := by decide +kernel
theorem dX1_markBy_41 : decode cX1_markBy 41 = .ok (.aload_n 2, 1) := by decide +kernel
theorem dX1_markBy_42 : decode cX1_markBy 42 = .ok (.iload_n 3, 1) := by decide +kernel
theorem dX1_markBy_43 : decode cX1_markBy 43 = .ok (.iload 4, 2) := by decide +kernel
theorem dX1_markBy_45 : decode cX1_markBy 45 = .ok (.invokevirtual 39, 3) := by decide +kernel
theorem dX1_markBy_48 : decode cX1_markBy 48 = .ok (.aload_n 2, 1) := by decide +kernel
theorem dX1_markBy_49 : decode cX1_markBy 49 = .ok (.getfield 62, 3) := by decide +kernel
theorem dX1_markBy_52 : decode cX1_markBy 52 = .ok (.iload_n 3, 1) := by decide +kernel
theorem dX1_markBy_53 : decode cX1_markBy 53 = .ok (.iaload, 1) := by decide +kernel
theorem dX1_markBy_54 : decode cX1_markBy 54 = .ok (.iadd, 1) := by decide +kernel
theorem dX1_markBy_55 : decode cX1_markBy 55 = .ok (.ireturn, 1) := by decide +kernel
theorem dX1_markBy_56 : decode cX1_markBy 56 = .ok (.aload_n 0, 1) := by decide +kernel
theorem dX1_markBy_57 : decode cX1_markBy 57 = .ok (.bipush 21, 2) := by decide +kernel
theorem dX1_markBy_59 : decode cX1_markBy 59 = .ok (.aload_n 2, 1) := by decide +kernel
theorem dX1_markBy_60 : decode cX1_markBy 60 = .ok (.iload_n 3, 1) := by decide +kernel
theorem dX1_markBy_61 : decode cX1_markBy 61 = .ok (.iload 4, 2) := by decide +kernel
theorem dX1_markBy_63 : decode cX1_markBy 63 = .ok (.invokevirtual 39, 3) := by decide +kernel
theorem dX1_markBy_66 : decode cX1_markBy 66 = .ok (.sipush 1000, 3) := by decide +kernel
theorem dX1_markBy_69 : decode cX1_markBy 69 = .ok (.isub, 1) := by decide +kernel
theorem dX1_markBy_70 : decode cX1_markBy 70 = .ok (.ireturn, 1) := by decide +kernel
theorem dX1_markBy_71 : decode cX1_markBy 71 = .ok (.aload_n 0, 1) := by decide +kernel
theorem dX1_markBy_72 : decode cX1_markBy 72 = .ok (.bipush 20, 2) := by decide +kernel
theorem dX1_markBy_74 : decode cX1_markBy 74 = .ok (.aload_n 2, 1) := by decide +kernel
theorem dX1_markBy_75 : decode cX1_markBy 75 = .ok (.iload_n 3, 1) := by decide +kernel
theorem dX1_markBy_76 : decode cX1_markBy 76 = .ok (.iload 4, 2) := by decide +kernel
theorem dX1_markBy_78 : decode cX1_markBy 78 = .ok (.invokevirtual 39, 3) := by decide +kernel
theorem dX1_markBy_81 : decode cX1_markBy 81 = .ok (.aload_n 0, 1) := by decide +kernel
theorem dX1_markBy_82 : decode cX1_markBy 82 = .ok (.aload_n 2, 1) := by decide +kernel
theorem dX1_markBy_83 : decode cX1_markBy 83 = .ok (.iload_n 3, 1) := by decide +kernel
theorem dX1_markBy_84 : decode cX1_markBy 84 = .ok (.iconst 0, 1) := by decide +kernel
theorem dX1_markBy_85 : decode cX1_markBy 85 = .ok (.iload 4, 2) := by decide +kernel
theorem dX1_markBy_87 : decode cX1_markBy 87 = .ok (.invokevirtual 19, 3) := by decide +kernel
theorem dX1_markBy_90 : decode cX1_markBy 90 = .ok (.isub, 1) := by decide +kernel
theorem dX1_markBy_91 : decode cX1_markBy 91 = .ok (.ireturn, 1) := by decide +kernel
theorem dX1_markBy_92 : decode cX1_markBy 92 = .ok (.iconst 2, 1) := by decide +kernel
theorem dX1_markBy_93 : decode cX1_markBy 93 = .ok (.aload_n 0, 1) := by decide +kernel
theorem dX1_markBy_94 : decode cX1_markBy 94 = .ok (.bipush 21, 2) := by decide +kernel
theorem dX1_markBy_96 : decode cX1_markBy 96 = .ok (.aload_n 2, 1) := by decide +kernel
theorem dX1_markBy_97 : decode cX1_markBy 97 = .ok (.iload_n 3, 1) := by decide +kernel
theorem dX1_markBy_98 : decode cX1_markBy 98 = .ok (.iload 4, 2) := by decide +kernel
theorem dX1_markBy_100 : decode cX1_markBy 100 = .ok (.invokevirtual 39, 3) := by decide +kernel
theorem dX1_markBy_103 : decode cX1_markBy 103 = .ok (.imul, 1) := by decide +kernel
theorem dX1_markBy_104 : decode cX1_markBy 104 = .ok (.ireturn, 1) := by decide +kernel
theorem dX1_markBy_105 : decode cX1_markBy 105 = .ok (.iconst 0, 1) := by decide +kernel
theorem dX1_markBy_106 : decode cX1_markBy 106 = .ok (.ireturn, 1) := by decide +kernel
theorem dX1_leave_0 : decode cX1_leave 0 = .ok (.aload_n 0, 1) := by decide +kernel
theorem dX1_leave_1 : decode cX1_leave 1 = .ok (.getfield 15, 3) := by decide +kernel
theorem dX1_leave_4 : decode cX1_leave 4 = .ok (.bipush 16, 2) := by decide +kernel
theorem dX1_leave_6 : decode cX1_leave 6 = .ok (.if_icmp .ge 23, 3) := by decide +kernel
theorem dX1_leave_9 : decode cX1_leave 9 = .ok (.aload_n 0, 1) := by decide +kernel
theorem dX1_leave_10 : decode cX1_leave 10 = .ok (.getfield 11, 3) := by decide +kernel
theorem dX1_leave_13 : decode cX1_leave 13 = .ok (.aload_n 0, 1) := by decide +kernel
theorem dX1_leave_14 : decode cX1_leave 14 = .ok (.getfield 15, 3) := by decide +kernel
theorem dX1_leave_17 : decode cX1_leave 17 = .ok (.iload_n 1, 1) := by decide +kernel
theorem dX1_leave_18 : decode cX1_leave 18 = .ok (.iastore, 1) := by decide +kernel
theorem dX1_leave_19 : decode cX1_leave 19 = .ok (.aload_n 0, 1) := by decide +kernel
theorem dX1_leave_20 : decode cX1_leave 20 = .ok (.dup, 1) := by decide +kernel
theorem dX1_leave_21 : decode cX1_leave 21 = .ok (.getfield 15, 3) := by decide +kernel
theorem dX1_leave_24 : decode cX1_leave 24 = .ok (.iconst 1, 1) := by decide +kernel
theorem dX1_leave_25 : decode cX1_leave 25 = .ok (.iadd, 1) := by decide +kernel
theorem dX1_leave_26 : decode cX1_leave 26 = .ok (.putfield 15, 3) := by decide +kernel
theorem dX1_leave_29 : decode cX1_leave 29 = .ok (.return_, 1) := by decide +kernel
theorem dX2_init_0 : decode cX2_init 0 = .ok (.aload_n 0, 1) := by decide +kernel
theorem dX2_init_1 : decode cX2_init 1 = .ok (.invokespecial 3, 3) := by decide +kernel
theorem dX2_init_4 : decode cX2_init 4 = .ok (.aload_n 0, 1) := by decide +kernel
theorem dX2_init_5 : decode cX2_init 5 = .ok (.iconst 0, 1) := by decide +kernel
theorem dX2_init_6 : decode cX2_init 6 = .ok (.putfield 9, 3) := by decide +kernel
theorem dX2_init_9 : decode cX2_init 9 = .ok (.aload_n 0, 1) := by decide +kernel
theorem dX2_init_10 : decode cX2_init 10 = .ok (.iconst 0, 1) := by decide +kernel
theorem dX2_init_11 : decode cX2_init 11 = .ok (.putfield 15, 3) := by decide +kernel
theorem dX2_init_14 : decode cX2_init 14 = .ok (.aload_n 0, 1) := by decide +kernel
theorem dX2_init_15 : decode cX2_init 15 = .ok (.iconst 0, 1) := by decide +kernel
theorem dX2_init_16 : decode cX2_init 16 = .ok (.putfield 19, 3) := by decide +kernel
theorem dX2_init_19 : decode cX2_init 19 = .ok (.aload_n 0, 1) := by decide +kernel
theorem dX2_init_20 : decode cX2_init 20 = .ok (.iconst 0, 1) := by decide +kernel
theorem dX2_init_21 : decode cX2_init 21 = .ok (.putfield 22, 3) := by decide +kernel
theorem dX2_init_24 : decode cX2_init 24 = .ok (.aload_n 0, 1) := by decide +kernel
theorem dX2_init_25 : decode cX2_init 25 = .ok (.iconst 0, 1) := by decide +kernel
theorem dX2_init_26 : decode cX2_init 26 = .ok (.putfield 25, 3) := by decide +kernel
theorem dX2_init_29 : decode cX2_init 29 = .ok (.aload_n 0, 1) := by decide +kernel
theorem dX2_init_30 : decode cX2_init 30 = .ok (.iconst 0, 1) := by decide +kernel
theorem dX2_init_31 : decode cX2_init 31 = .ok (.putfield 28, 3) := by decide +kernel
theorem dX2_init_34 : decode cX2_init 34 = .ok (.aload_n 0, 1) := by decide +kernel
theorem dX2_init_35 : decode cX2_init 35 = .ok (.bipush 7, 2) := by decide +kernel
theorem dX2_init_37 : decode cX2_init 37 = .ok (.newarray .int, 2) := by decide +kernel
theorem dX2_init_39 : decode cX2_init 39 = .ok (.putfield 31, 3) := by decide +kernel
theorem dX2_init_42 : decode cX2_init 42 = .ok (.aload_n 0, 1) := by decide +kernel
theorem dX2_init_43 : decode cX2_init 43 = .ok (.bipush 7, 2) := by decide +kernel
theorem dX2_init_45 : decode cX2_init 45 = .ok (.newarray .int, 2) := by decide +kernel
theorem dX2_init_47 : decode cX2_init 47 = .ok (.putfield 35, 3) := by decide +kernel
theorem dX2_init_50 : decode cX2_init 50 = .ok (.aload_n 0, 1) := by decide +kernel
theorem dX2_init_51 : decode cX2_init 51 = .ok (.bipush 6, 2) := by decide +kernel
theorem dX2_init_53 : decode cX2_init 53 = .ok (.newarray .int, 2) := by decide +kernel
theorem dX2_init_55 : decode cX2_init 55 = .ok (.putfield 38, 3) := by decide +kernel
theorem dX2_init_58 : decode cX2_init 58 = .ok (.aload_n 0, 1) := by decide +kernel
theorem dX2_init_59 : decode cX2_init 59 = .ok (.bipush 6, 2) := by decide +kernel
theorem dX2_init_61 : decode cX2_init 61 = .ok (.newarray .int, 2) := by decide +kernel
theorem dX2_init_63 : decode cX2_init 63 = .ok (.putfield 41, 3) := by decide +kernel
theorem dX2_init_66 : decode cX2_init 66 = .ok (.aload_n 0, 1) := by decide +kernel
theorem dX2_init_67 : decode cX2_init 67 = .ok (.bipush 6, 2) := by decide +kernel
theorem dX2_init_69 : decode cX2_init 69 = .ok (.newarray .int, 2) := by decide +kernel
theorem dX2_init_71 : decode cX2_init 71 = .ok (.putfield 44, 3) := by decide +kernel
theorem dX2_init_74 : decode cX2_init 74 = .ok (.aload_n 0, 1) := by decide +kernel
theorem dX2_init_75 : decode cX2_init 75 = .ok (.bipush 6, 2) := by decide +kernel
theorem dX2_init_77 : decode cX2_init 77 = .ok (.newarray .int, 2) := by decide +kernel
theorem dX2_init_79 : decode cX2_init 79 = .ok (.putfield 47, 3) := by decide +kernel
theorem dX2_init_82 : decode cX2_init 82 = .ok (.aload_n 0, 1) := by decide +kernel
theorem dX2_init_83 : decode cX2_init 83 = .ok (.bipush 6, 2) := by decide +kernel
theorem dX2_init_85 : decode cX2_init 85 = .ok (.newarray .int, 2) := by decide +kernel
theorem dX2_init_87 : decode cX2_init 87 = .ok (.putfield 50, 3) := by decide +kernel
theorem dX2_init_90 : decode cX2_init 90 = .ok (.return_, 1) := by decide +kernel
theorem dX2_begin_0 : decode cX2_begin 0 = .ok (.aload_n 0, 1) := by decide +kernel
theorem dX2_begin_1 : decode cX2_begin 1 = .ok (.iconst 1, 1) := by decide +kernel
theorem dX2_begin_2 : decode cX2_begin 2 = .ok (.putfield 9, 3) := by decide +kernel
theorem dX2_begin_5 : decode cX2_begin 5 = .ok (.aload_n 0, 1) := by decide +kernel
theorem dX2_begin_6 : decode cX2_begin 6 = .ok (.iload_n 1, 1) := by decide +kernel
theorem dX2_begin_7 : decode cX2_begin 7 = .ok (.putfield 15, 3) := by decide +kernel
theorem dX2_begin_10 : decode cX2_begin 10 = .ok (.aload_n 0, 1) := by decide +kernel
theorem dX2_begin_11 : decode cX2_begin 11 = .ok (.iconst 0, 1) := by decide +kernel
theorem dX2_begin_12 : decode cX2_begin 12 = .ok (.putfield 19, 3) := by decide +kernel
theorem dX2_begin_15 : decode cX2_begin 15 = .ok (.aload_n 0, 1) := by decide +kernel
theorem dX2_begin_16 : decode cX2_begin 16 = .ok (.iconst 0, 1) := by decide +kernel
theorem dX2_begin_17 : decode cX2_begin 17 = .ok (.putfield 22, 3) := by decide +kernel
theorem dX2_begin_20 : decode cX2_begin 20 = .ok (.aload_n 0, 1) := by decide +kernel
theorem dX2_begin_21 : decode cX2_begin 21 = .ok (.iconst 0, 1) := by decide +kernel
theorem dX2_begin_22 : decode cX2_begin 22 = .ok (.putfield 25, 3) := by decide +kernel
theorem dX2_begin_25 : decode cX2_begin 25 = .ok (.aload_n 0, 1) := by decide +kernel
theorem dX2_begin_26 : decode cX2_begin 26 = .ok (.iconst 0, 1) := by decide +kernel
theorem dX2_begin_27 : decode cX2_begin 27 = .ok (.putfield 28, 3) := by decide +kernel
theorem dX2_begin_30 : decode cX2_begin 30 = .ok (.return_, 1) := by decide +kernel
theorem dX2_become_0 : decode cX2_become 0 = .ok (.aload_n 0, 1) := by decide +kernel
theorem dX2_become_1 : decode cX2_become 1 = .ok (.aload_n 1, 1) := by decide +kernel
theorem dX2_become_2 : decode cX2_become 2 = .ok (.getfield 9, 3) := by decide +kernel
theorem dX2_become_5 : decode cX2_become 5 = .ok (.putfield 9, 3) := by decide +kernel
theorem dX2_become_8 : decode cX2_become 8 = .ok (.aload_n 0, 1) := by decide +kernel
theorem dX2_become_9 : decode cX2_become 9 = .ok (.aload_n 1, 1) := by decide +kernel
theorem dX2_become_10 : decode cX2_become 10 = .ok (.getfield 15, 3) := by decide +kernel
theorem dX2_become_13 : decode cX2_become 13 = .ok (.putfield 15, 3) := by decide +kernel
theorem dX2_become_16 : decode cX2_become 16 = .ok (.aload_n 0, 1) := by decide +kernel
theorem dX2_become_17 : decode cX2_become 17 = .ok (.aload_n 1, 1) := by decide +kernel
theorem dX2_become_18 : decode cX2_become 18 = .ok (.getfield 19, 3) := by decide +kernel
theorem dX2_become_21 : decode cX2_become 21 = .ok (.putfield 19, 3) := by decide +kernel
theorem dX2_become_24 : decode cX2_become 24 = .ok (.aload_n 0, 1) := by decide +kernel
theorem dX2_become_25 : decode cX2_become 25 = .ok (.aload_n 1, 1) := by decide +kernel
theorem dX2_become_26 : decode cX2_become 26 = .ok (.getfield 22, 3) := by decide +kernel
theorem dX2_become_29 : decode cX2_become 29 = .ok (.putfield 22, 3) := by decide +kernel
theorem dX2_become_32 : decode cX2_become 32 = .ok (.aload_n 0, 1) := by decide +kernel
theorem dX2_become_33 : decode cX2_become 33 = .ok (.aload_n 1, 1) := by decide +kernel
theorem dX2_become_34 : decode cX2_become 34 = .ok (.getfield 25, 3) := by decide +kernel
theorem dX2_become_37 : decode cX2_become 37 = .ok (.putfield 25, 3) := by decide +kernel
theorem dX2_become_40 : decode cX2_become 40 = .ok (.aload_n 0, 1) := by decide +kernel
theorem dX2_become_41 : decode cX2_become 41 = .ok (.aload_n 1, 1) := by decide +kernel
theorem dX2_become_42 : decode cX2_become 42 = .ok (.getfield 28, 3) := by decide +kernel
theorem dX2_become_45 : decode cX2_become 45 = .ok (.putfield 28, 3) := by decide +kernel
theorem dX2_become_48 : decode cX2_become 48 = .ok (.aload_n 1, 1) := by decide +kernel
theorem dX2_become_49 : decode cX2_become 49 = .ok (.getfield 31, 3) := by decide +kernel
theorem dX2_become_52 : decode cX2_become 52 = .ok (.iconst 0, 1) := by decide +kernel
theorem dX2_become_53 : decode cX2_become 53 = .ok (.aload_n 0, 1) := by decide +kernel
theorem dX2_become_54 : decode cX2_become 54 = .ok (.getfield 31, 3) := by decide +kernel
theorem dX2_become_57 : decode cX2_become 57 = .ok (.iconst 0, 1) := by decide +kernel
theorem dX2_become_58 : decode cX2_become 58 = .ok (.bipush 7, 2) := by decide +kernel
theorem dX2_become_60 : decode cX2_become 60 = .ok (.invokestatic 53, 3) := by decide +kernel
theorem dX2_become_63 : decode cX2_become 63 = .ok (.aload_n 1, 1) := by decide +kernel
theorem dX2_become_64 : decode cX2_become 64 = .ok (.getfield 35, 3) := by decide +kernel
theorem dX2_become_67 : decode cX2_become 67 = .ok (.iconst 0, 1) := by decide +kernel
theorem dX2_become_68 : decode cX2_become 68 = .ok (.aload_n 0, 1) := by decide +kernel
theorem dX2_become_69 : decode cX2_become 69 = .ok (.getfield 35, 3) := by decide +kernel
theorem dX2_become_72 : decode cX2_become 72 = .ok (.iconst 0, 1) := by decide +kernel
theorem dX2_become_73 : decode cX2_become 73 = .ok (.bipush 7, 2) := by decide +kernel
theorem dX2_become_75 : decode cX2_become 75 = .ok (.invokestatic 53, 3) := by decide +kernel
theorem dX2_become_78 : decode cX2_become 78 = .ok (.aload_n 1, 1) := by decide +kernel
theorem dX2_become_79 : decode cX2_become 79 = .ok (.getfield 38, 3) := by decide +kernel
theorem dX2_become_82 : decode cX2_become 82 = .ok (.iconst 0, 1) := by decide +kernel
theorem dX2_become_83 : decode cX2_become 83 = .ok (.aload_n 0, 1) := by decide +kernel
theorem dX2_become_84 : decode cX2_become 84 = .ok (.getfield 38, 3) := by decide +kernel
theorem dX2_become_87 : decode cX2_become 87 = .ok (.iconst 0, 1) := by decide +kernel
theorem dX2_become_88 : decode cX2_become 88 = .ok (.bipush 6, 2) := by decide +kernel
theorem dX2_become_90 : decode cX2_become 90 = .ok (.invokestatic 53, 3) := by decide +kernel
theorem dX2_become_93 : decode cX2_become 93 = .ok (.aload_n 1, 1) := by decide +kernel
theorem dX2_become_94 : decode cX2_become 94 = .ok (.getfield 41, 3) := by decide +kernel
theorem dX2_become_97 : decode cX2_become 97 = .ok (.iconst 0, 1) := by decide +kernel
theorem dX2_become_98 : decode cX2_become 98 = .ok (.aload_n 0, 1) := by decide +kernel
theorem dX2_become_99 : decode cX2_become 99 = .ok (.getfield 41, 3) := by decide +kernel
theorem dX2_become_102 : decode cX2_become 102 = .ok (.iconst 0, 1) := by decide +kernel
theorem dX2_become_103 : decode cX2_become 103 = .ok (.bipush 6, 2) := by decide +kernel
theorem dX2_become_105 : decode cX2_become 105 = .ok (.invokestatic 53, 3) := by decide +kernel
theorem dX2_become_108 : decode cX2_become 108 = .ok (.aload_n 1, 1) := by decide +kernel
theorem dX2_become_109 : decode cX2_become 109 = .ok (.getfield 44, 3) := by decide +kernel
theorem dX2_become_112 : decode cX2_become 112 = .ok (.iconst 0, 1) := by decide +kernel
theorem dX2_become_113 : decode cX2_become 113 = .ok (.aload_n 0, 1) := by decide +kernel
theorem dX2_become_114 : decode cX2_become 114 = .ok (.getfield 44, 3) := by decide +kernel
theorem dX2_become_117 : decode cX2_become 117 = .ok (.iconst 0, 1) := by decide +kernel
theorem dX2_become_118 : decode cX2_become 118 = .ok (.bipush 6, 2) := by decide +kernel
theorem dX2_become_120 : decode cX2_become 120 = .ok (.invokestatic 53, 3) := by decide +kernel
theorem dX2_become_123 : decode cX2_become 123 = .ok (.aload_n 1, 1) := by decide +kernel
theorem dX2_become_124 : decode cX2_become 124 = .ok (.getfield 47, 3) := by decide +kernel
theorem dX2_become_127 : decode cX2_become 127 = .ok (.iconst 0, 1) := by decide +kernel
theorem dX2_become_128 : decode cX2_become 128 = .ok (.aload_n 0, 1) := by decide +kernel
theorem dX2_become_129 : decode cX2_become 129 = .ok (.getfield 47, 3) := by decide +kernel
theorem dX2_become_132 : decode cX2_become 132 = .ok (.iconst 0, 1) := by decide +kernel
theorem dX2_become_133 : decode cX2_become 133 = .ok (.bipush 6, 2) := by decide +kernel
theorem dX2_become_135 : decode cX2_become 135 = .ok (.invokestatic 53, 3) := by decide +kernel
theorem dX2_become_138 : decode cX2_become 138 = .ok (.aload_n 1, 1) := by decide +kernel
theorem dX2_become_139 : decode cX2_become 139 = .ok (.getfield 50, 3) := by decide +kernel
theorem dX2_become_142 : decode cX2_become 142 = .ok (.iconst 0, 1) := by decide +kernel
theorem dX2_become_143 : decode cX2_become 143 = .ok (.aload_n 0, 1) := by decide +kernel
theorem dX2_become_144 : decode cX2_become 144 = .ok (.getfield 50, 3) := by decide +kernel
theorem dX2_become_147 : decode cX2_become 147 = .ok (.iconst 0, 1) := by decide +kernel
theorem dX2_become_148 : decode cX2_become 148 = .ok (.bipush 6, 2) := by decide +kernel
theorem dX2_become_150 : decode cX2_become 150 = .ok (.invokestatic 53, 3) := by decide +kernel
theorem dX2_become_153 : decode cX2_become 153 = .ok (.return_, 1) := by decide +kernel
theorem dX2_isKnown_0 : decode cX2_isKnown 0 = .ok (.aload_n 0, 1) := by decide +kernel
theorem dX2_isKnown_1 : decode cX2_isKnown 1 = .ok (.getfield 25, 3) := by decide +kernel
theorem dX2_isKnown_4 : decode cX2_isKnown 4 = .ok (.iload_n 1, 1) := by decide +kernel
theorem dX2_isKnown_5 : decode cX2_isKnown 5 = .ok (.ishr, 1) := by decide +kernel
theorem dX2_isKnown_6 : decode cX2_isKnown 6 = .ok (.iconst 1, 1) := by decide +kernel
theorem dX2_isKnown_7 : decode cX2_isKnown 7 = .ok (.iand, 1) := by decide +kernel
theorem dX2_isKnown_8 : decode cX2_isKnown 8 = .ok (.iconst 1, 1) := by decide +kernel
theorem dX2_isKnown_9 : decode cX2_isKnown 9 = .ok (.if_icmp .ne 7, 3) := by decide +kernel
theorem dX2_isKnown_12 : decode cX2_isKnown 12 = .ok (.iconst 1, 1) := by decide +kernel
theorem dX2_isKnown_13 : decode cX2_isKnown 13 = .ok (.goto 4, 3) := by decide +kernel
theorem dX2_isKnown_16 : decode cX2_isKnown 16 = .ok (.iconst 0, 1) := by decide +kernel
theorem dX2_isKnown_17 : decode cX2_isKnown 17 = .ok (.ireturn, 1) := by decide +kernel
theorem dX2_turnKnown_0 : decode cX2_turnKnown 0 = .ok (.aload_n 0, 1) := by decide +kernel
theorem dX2_turnKnown_1 : decode cX2_turnKnown 1 = .ok (.dup, 1) := by decide +kernel
theorem dX2_turnKnown_2 : decode cX2_turnKnown 2 = .ok (.getfield 25, 3) := by decide +kernel
theorem dX2_turnKnown_5 : decode cX2_turnKnown 5 = .ok (.iconst 1, 1) := by decide +kernel
theorem dX2_turnKnown_6 : decode cX2_turnKnown 6 = .ok (.iload_n 1, 1) := by decide +kernel
theorem dX2_turnKnown_7 : decode cX2_turnKnown 7 = .ok (.ishl, 1) := by decide +kernel
theorem dX2_turnKnown_8 : decode cX2_turnKnown 8 = .ok (.ixor, 1) := by decide +kernel
theorem dX2_turnKnown_9 : decode cX2_turnKnown 9 = .ok (.putfield 25, 3) := by decide +kernel
theorem dX2_turnKnown_12 : decode cX2_turnKnown 12 = .ok (.return_, 1) := by decide +kernel
set_option maxRecDepth 20000 in
theorem ggX2_owes_X2_owesSuch : GoodIn wsX2_owes wsX2_owesSuch := goodIn_r _ [7, 8, 9, 10, 6, 11, 12, 13, 14, 15, 16, 17, 18, 19, 20, 21, 22, 23, 24, 25, 26, 27, 28, 29, 30, 31, 32, 33, 34, 35] (by decide +kernel) (by decide +kernel)
set_option maxRecDepth 20000 in
theorem gX2_owes_X2_owesSuch : GoodIn wsX2_owes (wsV RX2 59 RX2 yX2_owesSuch wsX2_owesSuch) := goodIn_app (goodIn_of _ (by decide +kernel)) ggX2_owes_X2_owesSuch
theorem dX2_owes_0 : decode cX2_owes 0 = .ok (.aload_n 0, 1) := by decide +kernel
theorem dX2_owes_1 : decode cX2_owes 1 = .ok (.aload_n 0, 1) := by decide +kernel
theorem dX2_owes_2 : decode cX2_owes 2 = .ok (.getfield 38, 3) := by decide +kernel
theorem dX2_owes_5 : decode cX2_owes 5 = .ok (.iload_n 1, 1) := by decide +kernel
theorem dX2_owes_6 : decode cX2_owes 6 = .ok (.iaload, 1) := by decide +kernel
theorem dX2_owes_7 : decode cX2_owes 7 = .ok (.aload_n 0, 1) := by decide +kernel
theorem dX2_owes_8 : decode cX2_owes 8 = .ok (.getfield 41, 3) := by decide +kernel
theorem dX2_owes_11 : decode cX2_owes 11 = .ok (.iload_n 1, 1) := by decide +kernel
theorem dX2_owes_12 : decode cX2_owes 12 = .ok (.iaload, 1) := by decide +kernel
theorem dX2_owes_13 : decode cX2_owes 13 = .ok (.iload_n 2, 1) := by decide +kernel
theorem dX2_owes_14 : decode cX2_owes 14 = .ok (.invokevirtual 59, 3) := by decide +kernel
theorem dX2_owes_17 : decode cX2_owes 17 = .ok (.ireturn, 1) := by decide +kernel
set_option maxRecDepth 20000 in
theorem ggX2_owesIfKnown_X2_owesUnknown : GoodIn wsX2_owesIfKnown wsX2_owesUnknown := goodIn_r _ [7, 8, 9, 10, 11, 12, 13, 14, 15, 16, 17, 18, 19, 20, 21, 22, 23, 24, 25, 26] (by decide +kernel) (by decide +kernel)
set_option maxRecDepth 20000 in
theorem gX2_owesIfKnown_X2_owesUnknown : GoodIn wsX2_owesIfKnown (wsV RX2 63 RX2 yX2_owesUnknown wsX2_owesUnknown) := goodIn_app (goodIn_of _ (by decide +kernel)) ggX2_owesIfKnown_X2_owesUnknown
theorem dX2_owesIfKnown_0 : decode cX2_owesIfKnown 0 = .ok (.aload_n 0, 1) := by decide +kernel
theorem dX2_owesIfKnown_1 : decode cX2_owesIfKnown 1 = .ok (.aload_n 0, 1) := by decide +kernel
theorem dX2_owesIfKnown_2 : decode cX2_owesIfKnown 2 = .ok (.getfield 38, 3) := by decide +kernel
theorem dX2_owesIfKnown_5 : decode cX2_owesIfKnown 5 = .ok (.iload_n 1, 1) := by decide +kernel
theorem dX2_owesIfKnown_6 : decode cX2_owesIfKnown 6 = .ok (.iaload, 1) := by decide +kernel
theorem dX2_owesIfKnown_7 : decode cX2_owesIfKnown 7 = .ok (.aload_n 0, 1) := by decide +kernel
theorem dX2_owesIfKnown_8 : decode cX2_owesIfKnown 8 = .ok (.getfield 41, 3) := by decide +kernel
theorem dX2_owesIfKnown_11 : decode cX2_owesIfKnown 11 = .ok (.iload_n 1, 1) := by decide +kernel
theorem dX2_owesIfKnown_12 : decode cX2_owesIfKnown 12 = .ok (.iaload, 1) := by decide +kernel
theorem dX2_owesIfKnown_13 : decode cX2_owesIfKnown 13 = .ok (.iload_n 2, 1) := by decide +kernel
theorem dX2_owesIfKnown_14 : decode cX2_owesIfKnown 14 = .ok (.invokevirtual 63, 3) := by decide +kernel
theorem dX2_owesIfKnown_17 : decode cX2_owesIfKnown 17 = .ok (.iconst 2, 1) := by decide +kernel
theorem dX2_owesIfKnown_18 : decode cX2_owesIfKnown 18 = .ok (.idiv, 1) := by decide +kernel
theorem dX2_owesIfKnown_19 : decode cX2_owesIfKnown 19 = .ok (.ireturn, 1) := by decide +kernel
set_option maxRecDepth 20000 in
theorem ggX2_owesSuch_X2_owesUnknown : GoodIn wsX2_owesSuch wsX2_owesUnknown := goodIn_r _ [5, 6, 7, 8, 9, 10, 11, 17, 18, 19, 20, 21, 22, 23, 24, 25, 26, 27, 28, 29] (by decide +kernel) (by decide +kernel)
set_option maxRecDepth 20000 in
theorem gX2_owesSuch_X2_owesUnknown : GoodIn wsX2_owesSuch (wsV RX2 63 RX2 yX2_owesUnknown wsX2_owesUnknown) := goodIn_app (goodIn_of _ (by decide +kernel)) ggX2_owesSuch_X2_owesUnknown
set_option maxRecDepth 20000 in
theorem ggX2_owesSuch_X2_isKnown : GoodIn wsX2_owesSuch wsX2_isKnown := goodIn_r _ [15, 16, 17, 18, 19, 20, 21, 22, 23, 24, 25, 26, 27, 28, 29] (by decide +kernel) (by decide +kernel)
set_option maxRecDepth 20000 in
theorem gX2_owesSuch_X2_isKnown : GoodIn wsX2_owesSuch (wsV RX2 66 RX2 yX2_isKnown wsX2_isKnown) := goodIn_app (goodIn_of _ (by decide +kernel)) ggX2_owesSuch_X2_isKnown
theorem dX2_owesSuch_0 : decode cX2_owesSuch 0 = .ok (.aload_n 0, 1) := by decide +kernel
theorem dX2_owesSuch_1 : decode cX2_owesSuch 1 = .ok (.iload_n 1, 1) := by decide +kernel
theorem dX2_owesSuch_2 : decode cX2_owesSuch 2 = .ok (.iload_n 2, 1) := by decide +kernel
theorem dX2_owesSuch_3 : decode cX2_owesSuch 3 = .ok (.iload_n 3, 1) := by decide +kernel
theorem dX2_owesSuch_4 : decode cX2_owesSuch 4 = .ok (.invokevirtual 63, 3) := by decide +kernel
theorem dX2_owesSuch_7 : decode cX2_owesSuch 7 = .ok (.istore 4, 2) := by decide +kernel
theorem dX2_owesSuch_9 : decode cX2_owesSuch 9 = .ok (.aload_n 0, 1) := by decide +kernel
theorem dX2_owesSuch_10 : decode cX2_owesSuch 10 = .ok (.iload_n 3, 1) := by decide +kernel
theorem dX2_owesSuch_11 : decode cX2_owesSuch 11 = .ok (.invokevirtual 66, 3) := by decide +kernel
theorem dX2_owesSuch_14 : decode cX2_owesSuch 14 = .ok (.ifCond .eq 10, 3) := by decide +kernel
theorem dX2_owesSuch_17 : decode cX2_owesSuch 17 = .ok (.iload 4, 2) := by decide +kernel
theorem dX2_owesSuch_19 : decode cX2_owesSuch 19 = .ok (.iconst 2, 1) := by decide +kernel
theorem dX2_owesSuch_20 : decode cX2_owesSuch 20 = .ok (.idiv, 1) := by decide +kernel
theorem dX2_owesSuch_21 : decode cX2_owesSuch 21 = .ok (.goto 5, 3) := by decide +kernel
theorem dX2_owesSuch_24 : decode cX2_owesSuch 24 = .ok (.iload 4, 2) := by decide +kernel
theorem dX2_owesSuch_26 : decode cX2_owesSuch 26 = .ok (.ireturn, 1) := by decide +kernel
theorem dX2_owesUnknown_0 : decode cX2_owesUnknown 0 = .ok (.iload_n 2, 1) := by decide +kernel
theorem dX2_owesUnknown_1 : decode cX2_owesUnknown 1 = .ok (.aload_n 0, 1) := by decide +kernel
theorem dX2_owesUnknown_2 : decode cX2_owesUnknown 2 = .ok (.getfield 15, 3) := by decide +kernel
theorem dX2_owesUnknown_5 : decode cX2_owesUnknown 5 = .ok (.imul, 1) := by decide +kernel
theorem dX2_owesUnknown_6 : decode cX2_owesUnknown 6 = .ok (.iload_n 2, 1) := by decide +kernel
theorem dX2_owesUnknown_7 : decode cX2_owesUnknown 7 = .ok (.aload_n 0, 1) := by decide +kernel
theorem dX2_owesUnknown_8 : decode cX2_owesUnknown 8 = .ok (.getfield 35, 3) := by decide +kernel
theorem dX2_owesUnknown_11 : decode cX2_owesUnknown 11 = .ok (.iload_n 3, 1) := by decide +kernel
theorem dX2_owesUnknown_12 : decode cX2_owesUnknown 12 = .ok (.iaload, 1) := by decide +kernel
theorem dX2_owesUnknown_13 : decode cX2_owesUnknown 13 = .ok (.imul, 1) := by decide +kernel
theorem dX2_owesUnknown_14 : decode cX2_owesUnknown 14 = .ok (.bipush 10, 2) := by decide +kernel
theorem dX2_owesUnknown_16 : decode cX2_owesUnknown 16 = .ok (.idiv, 1) := by decide +kernel
theorem dX2_owesUnknown_17 : decode cX2_owesUnknown 17 = .ok (.iadd, 1) := by decide +kernel
theorem dX2_owesUnknown_18 : decode cX2_owesUnknown 18 = .ok (.istore 4, 2) := by decide +kernel
theorem dX2_owesUnknown_20 : decode cX2_owesUnknown 20 = .ok (.iload_n 1, 1) := by decide +kernel
theorem dX2_owesUnknown_21 : decode cX2_owesUnknown 21 = .ok (.tableswitch 77 1 5 #[35, 38, 43, 77, 60], 35) := by decide +kernel
theorem dX2_owesUnknown_56 : decode cX2_owesUnknown 56 = .ok (.iload 4, 2) := by decide +kernel
theorem dX2_owesUnknown_58 : decode cX2_owesUnknown 58 = .ok (.ireturn, 1) := by decide +kernel
theorem dX2_owesUnknown_59 : decode cX2_owesUnknown 59 = .ok (.iload 4, 2) := by decide +kernel
theorem dX2_owesUnknown_61 : decode cX2_owesUnknown 61 = .ok (.iconst 2, 1) := by decide +kernel
theorem dX2_owesUnknown_62 : decode cX2_owesUnknown 62 = .ok (.idiv, 1) := by decide +kernel
theorem dX2_owesUnknown_63 : decode cX2_owesUnknown 63 = .ok (.ireturn, 1) := by decide +kernel
theorem dX2_owesUnknown_64 : decode cX2_owesUnknown 64 = .ok (.iload 4, 2) := by decide +kernel
theorem dX2_owesUnknown_66 : decode cX2_owesUnknown 66 = .ok (.aload_n 0, 1) := by decide +kernel
theorem dX2_owesUnknown_67 : decode cX2_owesUnknown 67 = .ok (.getfield 15, 3) := by decide +kernel
theorem dX2_owesUnknown_70 : decode cX2_owesUnknown 70 = .ok (.iconst 0, 1) := by decide +kernel
theorem dX2_owesUnknown_71 : decode cX2_owesUnknown 71 = .ok (.iload_n 2, 1) := by decide +kernel
theorem dX2_owesUnknown_72 : decode cX2_owesUnknown 72 = .ok (.bipush 10, 2) := by decide +kernel
theorem dX2_owesUnknown_74 : decode cX2_owesUnknown 74 = .ok (.isub, 1) := by decide +kernel
theorem dX2_owesUnknown_75 : decode cX2_owesUnknown 75 = .ok (.invokestatic 70, 3) := by decide +kernel
theorem dX2_owesUnknown_78 : decode cX2_owesUnknown 78 = .ok (.imul, 1) := by decide +kernel
theorem dX2_owesUnknown_79 : decode cX2_owesUnknown 79 = .ok (.iadd, 1) := by decide +kernel
theorem dX2_owesUnknown_80 : decode cX2_owesUnknown 80 = .ok (.ireturn, 1) := by decide +kernel
theorem dX2_owesUnknown_81 : decode cX2_owesUnknown 81 = .ok (.aload_n 0, 1) := by decide +kernel
theorem dX2_owesUnknown_82 : decode cX2_owesUnknown 82 = .ok (.getfield 35, 3) := by decide +kernel
theorem dX2_owesUnknown_85 : decode cX2_owesUnknown 85 = .ok (.iload_n 3, 1) := by decide +kernel
theorem dX2_owesUnknown_86 : decode cX2_owesUnknown 86 = .ok (.iaload, 1) := by decide +kernel
theorem dX2_owesUnknown_87 : decode cX2_owesUnknown 87 = .ok (.iconst 5, 1) := by decide +kernel
theorem dX2_owesUnknown_88 : decode cX2_owesUnknown 88 = .ok (.if_icmp .lt 8, 3) := by decide +kernel
theorem dX2_owesUnknown_91 : decode cX2_owesUnknown 91 = .ok (.iload 4, 2) := by decide +kernel
theorem dX2_owesUnknown_93 : decode cX2_owesUnknown 93 = .ok (.goto 4, 3) := by decide +kernel
theorem dX2_owesUnknown_96 : decode cX2_owesUnknown 96 = .ok (.iconst 1, 1) := by decide +kernel
theorem dX2_owesUnknown_97 : decode cX2_owesUnknown 97 = .ok (.ireturn, 1) := by decide +kernel
theorem dX2_owesUnknown_98 : decode cX2_owesUnknown 98 = .ok (.iconst 1, 1) := by decide +kernel
theorem dX2_owesUnknown_99 : decode cX2_owesUnknown 99 = .ok (.ireturn, 1) := by decide +kernel
theorem dX2_isSeen_0 : decode cX2_isSeen 0 = .ok (.aload_n 0, 1) := by decide +kernel
theorem dX2_isSeen_1 : decode cX2_isSeen 1 = .ok (.getfield 38, 3) := by decide +kernel
theorem dX2_isSeen_4 : decode cX2_isSeen 4 = .ok (.iload_n 1, 1) := by decide +kernel
theorem dX2_isSeen_5 : decode cX2_isSeen 5 = .ok (.iaload, 1) := by decide +kernel
theorem dX2_isSeen_6 : decode cX2_isSeen 6 = .ok (.iconst 4, 1) := by decide +kernel
theorem dX2_isSeen_7 : decode cX2_isSeen 7 = .ok (.if_icmp .eq 13, 3) := by decide +kernel
theorem dX2_isSeen_10 : decode cX2_isSeen 10 = .ok (.aload_n 0, 1) := by decide +kernel
theorem dX2_isSeen_11 : decode cX2_isSeen 11 = .ok (.getfield 38, 3) := by decide +kernel
theorem dX2_isSeen_14 : decode cX2_isSeen 14 = .ok (.iload_n 1, 1) := by decide +kernel
theorem dX2_isSeen_15 : decode cX2_isSeen 15 = .ok (.iaload, 1) := by decide +kernel
theorem dX2_isSeen_16 : decode cX2_isSeen 16 = .ok (.iconst 5, 1) := by decide +kernel
theorem dX2_isSeen_17 : decode cX2_isSeen 17 = .ok (.if_icmp .ne 7, 3) := by decide +kernel
theorem dX2_isSeen_20 : decode cX2_isSeen 20 = .ok (.iconst 1, 1) := by decide +kernel
theorem dX2_isSeen_21 : decode cX2_isSeen 21 = .ok (.goto 4, 3) := by decide +kernel
theorem dX2_isSeen_24 : decode cX2_isSeen 24 = .ok (.iconst 0, 1) := by decide +kernel
theorem dX2_isSeen_25 : decode cX2_isSeen 25 = .ok (.istore_n 3, 1) := by decide +kernel
theorem dX2_isSeen_26 : decode cX2_isSeen 26 = .ok (.aload_n 0, 1) := by decide +kernel
theorem dX2_isSeen_27 : decode cX2_isSeen 27 = .ok (.getfield 41, 3) := by decide +kernel
theorem dX2_isSeen_30 : decode cX2_isSeen 30 = .ok (.iload_n 1, 1) := by decide +kernel
theorem dX2_isSeen_31 : decode cX2_isSeen 31 = .ok (.iaload, 1) := by decide +kernel
theorem dX2_isSeen_32 : decode cX2_isSeen 32 = .ok (.iload_n 3, 1) := by decide +kernel
theorem dX2_isSeen_33 : decode cX2_isSeen 33 = .ok (.ifCond .eq 7, 3) := by decide +kernel
theorem dX2_isSeen_36 : decode cX2_isSeen 36 = .ok (.iconst 5, 1) := by decide +kernel
theorem dX2_isSeen_37 : decode cX2_isSeen 37 = .ok (.goto 4, 3) := by decide +kernel
theorem dX2_isSeen_40 : decode cX2_isSeen 40 = .ok (.iconst 0, 1) := by decide +kernel
theorem dX2_isSeen_41 : decode cX2_isSeen 41 = .ok (.iadd, 1) := by decide +kernel
theorem dX2_isSeen_42 : decode cX2_isSeen 42 = .ok (.aload_n 0, 1) := by decide +kernel
theorem dX2_isSeen_43 : decode cX2_isSeen 43 = .ok (.getfield 31, 3) := by decide +kernel
theorem dX2_isSeen_46 : decode cX2_isSeen 46 = .ok (.iload_n 2, 1) := by decide +kernel
theorem dX2_isSeen_47 : decode cX2_isSeen 47 = .ok (.iaload, 1) := by decide +kernel
theorem dX2_isSeen_48 : decode cX2_isSeen 48 = .ok (.if_icmp .lt 7, 3) := by decide +kernel
theorem dX2_isSeen_51 : decode cX2_isSeen 51 = .ok (.iconst 1, 1) := by decide +kernel
theorem dX2_isSeen_52 : decode cX2_isSeen 52 = .ok (.goto 4, 3) := by decide +kernel
theorem dX2_isSeen_55 : decode cX2_isSeen 55 = .ok (.iconst 0, 1) := by decide +kernel
theorem dX2_isSeen_56 : decode cX2_isSeen 56 = .ok (.ireturn, 1) := by decide +kernel
set_option maxRecDepth 20000 in
theorem ggX2_tells_X2_isSeen : GoodIn wsX2_tells wsX2_isSeen := goodIn_r _ [6, 7, 8, 9, 10, 11, 12, 13, 14, 15, 16, 17, 18, 19, 20, 21, 22] (by decide +kernel) (by decide +kernel)
set_option maxRecDepth 20000 in
theorem gX2_tells_X2_isSeen : GoodIn wsX2_tells (wsV RX2 78 RX2 yX2_isSeen wsX2_isSeen) := goodIn_app (goodIn_of _ (by decide +kernel)) ggX2_tells_X2_isSeen
theorem dX2_tells_0 : decode cX2_tells 0 = .ok (.aload_n 0, 1) := by decide +kernel
theorem dX2_tells_1 : decode cX2_tells 1 = .ok (.getfield 44, 3) := by decide +kernel
theorem dX2_tells_4 : decode cX2_tells 4 = .ok (.iload_n 1, 1) := by decide +kernel
theorem dX2_tells_5 : decode cX2_tells 5 = .ok (.iaload, 1) := by decide +kernel
theorem dX2_tells_6 : decode cX2_tells 6 = .ok (.iload_n 2, 1) := by decide +kernel
theorem dX2_tells_7 : decode cX2_tells 7 = .ok (.if_icmp .ne 16, 3) := by decide +kernel
theorem dX2_tells_10 : decode cX2_tells 10 = .ok (.aload_n 0, 1) := by decide +kernel
theorem dX2_tells_11 : decode cX2_tells 11 = .ok (.iload_n 1, 1) := by decide +kernel
theorem dX2_tells_12 : decode cX2_tells 12 = .ok (.iload_n 3, 1) := by decide +kernel
theorem dX2_tells_13 : decode cX2_tells 13 = .ok (.invokevirtual 78, 3) := by decide +kernel
theorem dX2_tells_16 : decode cX2_tells 16 = .ok (.ifCond .eq 7, 3) := by decide +kernel
theorem dX2_tells_19 : decode cX2_tells 19 = .ok (.iconst 1, 1) := by decide +kernel
theorem dX2_tells_20 : decode cX2_tells 20 = .ok (.goto 4, 3) := by decide +kernel
theorem dX2_tells_23 : decode cX2_tells 23 = .ok (.iconst 0, 1) := by decide +kernel
theorem dX2_tells_24 : decode cX2_tells 24 = .ok (.ireturn, 1) := by decide +kernel
set_option maxRecDepth 20000 in
theorem ggX2_streetsThatSee_X2_isSeen : GoodIn wsX2_streetsThatSee wsX2_isSeen := goodIn_r _ [6, 7, 8, 9, 10, 11, 12, 13, 14, 15, 16, 17, 18, 19, 20, 21, 22] (by decide +kernel) (by decide +kernel)
set_option maxRecDepth 20000 in
theorem gX2_streetsThatSee_X2_isSeen : GoodIn wsX2_streetsThatSee (wsV RX2 78 RX2 yX2_isSeen wsX2_isSeen) := goodIn_app (goodIn_of _ (by decide +kernel)) ggX2_streetsThatSee_X2_isSeen
theorem dX2_streetsThatSee_0 : decode cX2_streetsThatSee 0 = .ok (.iconst 0, 1) := by decide +kernel
theorem dX2_streetsThatSee_1 : decode cX2_streetsThatSee 1 = .ok (.istore_n 2, 1) := by decide +kernel
theorem dX2_streetsThatSee_2 : decode cX2_streetsThatSee 2 = .ok (.iconst 0, 1) := by decide +kernel
theorem dX2_streetsThatSee_3 : decode cX2_streetsThatSee 3 = .ok (.istore_n 3, 1) := by decide +kernel
theorem dX2_streetsThatSee_4 : decode cX2_streetsThatSee 4 = .ok (.iload_n 3, 1) := by decide +kernel
theorem dX2_streetsThatSee_5 : decode cX2_streetsThatSee 5 = .ok (.aload_n 0, 1) := by decide +kernel
theorem dX2_streetsThatSee_6 : decode cX2_streetsThatSee 6 = .ok (.getfield 22, 3) := by decide +kernel
theorem dX2_streetsThatSee_9 : decode cX2_streetsThatSee 9 = .ok (.if_icmp .ge 28, 3) := by decide +kernel
theorem dX2_streetsThatSee_12 : decode cX2_streetsThatSee 12 = .ok (.iload_n 2, 1) := by decide +kernel
theorem dX2_streetsThatSee_13 : decode cX2_streetsThatSee 13 = .ok (.aload_n 0, 1) := by decide +kernel
theorem dX2_streetsThatSee_14 : decode cX2_streetsThatSee 14 = .ok (.iload_n 1, 1) := by decide +kernel
theorem dX2_streetsThatSee_15 : decode cX2_streetsThatSee 15 = .ok (.iload_n 3, 1) := by decide +kernel
theorem dX2_streetsThatSee_16 : decode cX2_streetsThatSee 16 = .ok (.invokevirtual 78, 3) := by decide +kernel
theorem dX2_streetsThatSee_19 : decode cX2_streetsThatSee 19 = .ok (.ifCond .eq 9, 3) := by decide +kernel
theorem dX2_streetsThatSee_22 : decode cX2_streetsThatSee 22 = .ok (.iconst 1, 1) := by decide +kernel
theorem dX2_streetsThatSee_23 : decode cX2_streetsThatSee 23 = .ok (.iload_n 3, 1) := by decide +kernel
theorem dX2_streetsThatSee_24 : decode cX2_streetsThatSee 24 = .ok (.ishl, 1) := by decide +kernel
theorem dX2_streetsThatSee_25 : decode cX2_streetsThatSee 25 = .ok (.goto 4, 3) := by decide +kernel
theorem dX2_streetsThatSee_28 : decode cX2_streetsThatSee 28 = .ok (.iconst 0, 1) := by decide +kernel
theorem dX2_streetsThatSee_29 : decode cX2_streetsThatSee 29 = .ok (.ior, 1) := by decide +kernel
theorem dX2_streetsThatSee_30 : decode cX2_streetsThatSee 30 = .ok (.istore_n 2, 1) := by decide +kernel
theorem dX2_streetsThatSee_31 : decode cX2_streetsThatSee 31 = .ok (.iinc 3 1, 3) := by decide +kernel
theorem dX2_streetsThatSee_34 : decode cX2_streetsThatSee 34 = .ok (.goto (-30), 3) := by decide +kernel
theorem dX2_streetsThatSee_37 : decode cX2_streetsThatSee 37 = .ok (.iload_n 2, 1) := by decide +kernel
theorem dX2_streetsThatSee_38 : decode cX2_streetsThatSee 38 = .ok (.ireturn, 1) := by decide +kernel
set_option maxRecDepth 20000 in
theorem ggX2_gesturesSeenIn_X2_isSeen : GoodIn wsX2_gesturesSeenIn wsX2_isSeen := goodIn_r _ [6, 7, 8, 9, 10, 11, 12, 13, 14, 15, 16, 17, 18, 19, 20, 21, 22] (by decide +kernel) (by decide +kernel)
set_option maxRecDepth 20000 in
theorem gX2_gesturesSeenIn_X2_isSeen : GoodIn wsX2_gesturesSeenIn (wsV RX2 78 RX2 yX2_isSeen wsX2_isSeen) := goodIn_app (goodIn_of _ (by decide +kernel)) ggX2_gesturesSeenIn_X2_isSeen
theorem dX2_gesturesSeenIn_0 : decode cX2_gesturesSeenIn 0 = .ok (.iconst 0, 1) := by decide +kernel
theorem dX2_gesturesSeenIn_1 : decode cX2_gesturesSeenIn 1 = .ok (.istore_n 2, 1) := by decide +kernel
theorem dX2_gesturesSeenIn_2 : decode cX2_gesturesSeenIn 2 = .ok (.iconst 0, 1) := by decide +kernel
theorem dX2_gesturesSeenIn_3 : decode cX2_gesturesSeenIn 3 = .ok (.istore_n 3, 1) := by decide +kernel
theorem dX2_gesturesSeenIn_4 : decode cX2_gesturesSeenIn 4 = .ok (.iload_n 3, 1) := by decide +kernel
theorem dX2_gesturesSeenIn_5 : decode cX2_gesturesSeenIn 5 = .ok (.aload_n 0, 1) := by decide +kernel
theorem dX2_gesturesSeenIn_6 : decode cX2_gesturesSeenIn 6 = .ok (.getfield 28, 3) := by decide +kernel
theorem dX2_gesturesSeenIn_9 : decode cX2_gesturesSeenIn 9 = .ok (.if_icmp .ge 28, 3) := by decide +kernel
theorem dX2_gesturesSeenIn_12 : decode cX2_gesturesSeenIn 12 = .ok (.iload_n 2, 1) := by decide +kernel
theorem dX2_gesturesSeenIn_13 : decode cX2_gesturesSeenIn 13 = .ok (.aload_n 0, 1) := by decide +kernel
theorem dX2_gesturesSeenIn_14 : decode cX2_gesturesSeenIn 14 = .ok (.iload_n 3, 1) := by decide +kernel
theorem dX2_gesturesSeenIn_15 : decode cX2_gesturesSeenIn 15 = .ok (.iload_n 1, 1) := by decide +kernel
theorem dX2_gesturesSeenIn_16 : decode cX2_gesturesSeenIn 16 = .ok (.invokevirtual 78, 3) := by decide +kernel
theorem dX2_gesturesSeenIn_19 : decode cX2_gesturesSeenIn 19 = .ok (.ifCond .eq 9, 3) := by decide +kernel
theorem dX2_gesturesSeenIn_22 : decode cX2_gesturesSeenIn 22 = .ok (.iconst 1, 1) := by decide +kernel
theorem dX2_gesturesSeenIn_23 : decode cX2_gesturesSeenIn 23 = .ok (.iload_n 3, 1) := by decide +kernel
theorem dX2_gesturesSeenIn_24 : decode cX2_gesturesSeenIn 24 = .ok (.ishl, 1) := by decide +kernel
theorem dX2_gesturesSeenIn_25 : decode cX2_gesturesSeenIn 25 = .ok (.goto 4, 3) := by decide +kernel
theorem dX2_gesturesSeenIn_28 : decode cX2_gesturesSeenIn 28 = .ok (.iconst 0, 1) := by decide +kernel
theorem dX2_gesturesSeenIn_29 : decode cX2_gesturesSeenIn 29 = .ok (.ior, 1) := by decide +kernel
theorem dX2_gesturesSeenIn_30 : decode cX2_gesturesSeenIn 30 = .ok (.istore_n 2, 1) := by decide +kernel
theorem dX2_gesturesSeenIn_31 : decode cX2_gesturesSeenIn 31 = .ok (.iinc 3 1, 3) := by decide +kernel
theorem dX2_gesturesSeenIn_34 : decode cX2_gesturesSeenIn 34 = .ok (.goto (-30), 3) := by decide +kernel
theorem dX2_gesturesSeenIn_37 : decode cX2_gesturesSeenIn 37 = .ok (.iload_n 2, 1) := by decide +kernel
theorem dX2_gesturesSeenIn_38 : decode cX2_gesturesSeenIn 38 = .ok (.ireturn, 1) := by decide +kernel
set_option maxRecDepth 20000 in
theorem ggX2_streetsWithout_X2_leastTime : GoodIn wsX2_streetsWithout wsX2_leastTime := goodIn_r _ [7, 2, 8, 9, 10, 11, 12, 6, 13, 14, 15, 16, 17, 18, 19, 20, 21, 22, 23, 24, 25, 26, 27, 28, 29, 30, 31, 32, 33, 34] (by decide +kernel) (by decide +kernel)
set_option maxRecDepth 20000 in
theorem gX2_streetsWithout_X2_leastTime : GoodIn wsX2_streetsWithout (wsV RX2 82 RX2 yX2_leastTime wsX2_leastTime) := goodIn_app (goodIn_of _ (by decide +kernel)) ggX2_streetsWithout_X2_leastTime
theorem dX2_streetsWithout_0 : decode cX2_streetsWithout 0 = .ok (.iconst 0, 1) := by decide +kernel
theorem dX2_streetsWithout_1 : decode cX2_streetsWithout 1 = .ok (.istore_n 2, 1) := by decide +kernel
theorem dX2_streetsWithout_2 : decode cX2_streetsWithout 2 = .ok (.iconst 0, 1) := by decide +kernel
theorem dX2_streetsWithout_3 : decode cX2_streetsWithout 3 = .ok (.istore_n 3, 1) := by decide +kernel
theorem dX2_streetsWithout_4 : decode cX2_streetsWithout 4 = .ok (.iload_n 3, 1) := by decide +kernel
theorem dX2_streetsWithout_5 : decode cX2_streetsWithout 5 = .ok (.aload_n 0, 1) := by decide +kernel
theorem dX2_streetsWithout_6 : decode cX2_streetsWithout 6 = .ok (.getfield 22, 3) := by decide +kernel
theorem dX2_streetsWithout_9 : decode cX2_streetsWithout 9 = .ok (.if_icmp .ge 30, 3) := by decide +kernel
theorem dX2_streetsWithout_12 : decode cX2_streetsWithout 12 = .ok (.iload_n 2, 1) := by decide +kernel
theorem dX2_streetsWithout_13 : decode cX2_streetsWithout 13 = .ok (.aload_n 0, 1) := by decide +kernel
theorem dX2_streetsWithout_14 : decode cX2_streetsWithout 14 = .ok (.iload_n 1, 1) := by decide +kernel
theorem dX2_streetsWithout_15 : decode cX2_streetsWithout 15 = .ok (.iload_n 3, 1) := by decide +kernel
theorem dX2_streetsWithout_16 : decode cX2_streetsWithout 16 = .ok (.invokevirtual 82, 3) := by decide +kernel
theorem dX2_streetsWithout_19 : decode cX2_streetsWithout 19 = .ok (.ldc 85, 2) := by decide +kernel
theorem dX2_streetsWithout_21 : decode cX2_streetsWithout 21 = .ok (.if_icmp .ne 9, 3) := by decide +kernel
theorem dX2_streetsWithout_24 : decode cX2_streetsWithout 24 = .ok (.iconst 1, 1) := by decide +kernel
theorem dX2_streetsWithout_25 : decode cX2_streetsWithout 25 = .ok (.iload_n 3, 1) := by decide +kernel
theorem dX2_streetsWithout_26 : decode cX2_streetsWithout 26 = .ok (.ishl, 1) := by decide +kernel
theorem dX2_streetsWithout_27 : decode cX2_streetsWithout 27 = .ok (.goto 4, 3) := by decide +kernel
theorem dX2_streetsWithout_30 : decode cX2_streetsWithout 30 = .ok (.iconst 0, 1) := by decide +kernel
theorem dX2_streetsWithout_31 : decode cX2_streetsWithout 31 = .ok (.ior, 1) := by decide +kernel
theorem dX2_streetsWithout_32 : decode cX2_streetsWithout 32 = .ok (.istore_n 2, 1) := by decide +kernel
theorem dX2_streetsWithout_33 : decode cX2_streetsWithout 33 = .ok (.iinc 3 1, 3) := by decide +kernel
theorem dX2_streetsWithout_36 : decode cX2_streetsWithout 36 = .ok (.goto (-32), 3) := by decide +kernel
theorem dX2_streetsWithout_39 : decode cX2_streetsWithout 39 = .ok (.iload_n 2, 1) := by decide +kernel
theorem dX2_streetsWithout_40 : decode cX2_streetsWithout 40 = .ok (.ireturn, 1) := by decide +kernel
set_option maxRecDepth 20000 in
theorem ggX2_leastTime_X2_tells : GoodIn wsX2_leastTime wsX2_tells := goodIn_r _ [8, 9, 10, 11, 12, 7, 13, 14, 15, 16, 17, 18, 19, 20, 21, 22, 23, 24, 25, 26, 27, 28, 29] (by decide +kernel) (by decide +kernel)
set_option maxRecDepth 20000 in
theorem gX2_leastTime_X2_tells : GoodIn wsX2_leastTime (wsV RX2 86 RX2 yX2_tells wsX2_tells) := goodIn_app (goodIn_of _ (by decide +kernel)) ggX2_leastTime_X2_tells
theorem dX2_leastTime_0 : decode cX2_leastTime 0 = .ok (.ldc 85, 2) := by decide +kernel
theorem dX2_leastTime_2 : decode cX2_leastTime 2 = .ok (.istore_n 3, 1) := by decide +kernel
theorem dX2_leastTime_3 : decode cX2_leastTime 3 = .ok (.iconst 0, 1) := by decide +kernel
theorem dX2_leastTime_4 : decode cX2_leastTime 4 = .ok (.istore 4, 2) := by decide +kernel
theorem dX2_leastTime_6 : decode cX2_leastTime 6 = .ok (.iload 4, 2) := by decide +kernel
theorem dX2_leastTime_8 : decode cX2_leastTime 8 = .ok (.aload_n 0, 1) := by decide +kernel
theorem dX2_leastTime_9 : decode cX2_leastTime 9 = .ok (.getfield 28, 3) := by decide +kernel
theorem dX2_leastTime_12 : decode cX2_leastTime 12 = .ok (.if_icmp .ge 45, 3) := by decide +kernel
theorem dX2_leastTime_15 : decode cX2_leastTime 15 = .ok (.aload_n 0, 1) := by decide +kernel
theorem dX2_leastTime_16 : decode cX2_leastTime 16 = .ok (.iload 4, 2) := by decide +kernel
theorem dX2_leastTime_18 : decode cX2_leastTime 18 = .ok (.iload_n 1, 1) := by decide +kernel
theorem dX2_leastTime_19 : decode cX2_leastTime 19 = .ok (.iload_n 2, 1) := by decide +kernel
theorem dX2_leastTime_20 : decode cX2_leastTime 20 = .ok (.invokevirtual 86, 3) := by decide +kernel
theorem dX2_leastTime_23 : decode cX2_leastTime 23 = .ok (.ifCond .eq 28, 3) := by decide +kernel
theorem dX2_leastTime_26 : decode cX2_leastTime 26 = .ok (.iload_n 3, 1) := by decide +kernel
theorem dX2_leastTime_27 : decode cX2_leastTime 27 = .ok (.ldc 85, 2) := by decide +kernel
theorem dX2_leastTime_29 : decode cX2_leastTime 29 = .ok (.if_icmp .eq 14, 3) := by decide +kernel
theorem dX2_leastTime_32 : decode cX2_leastTime 32 = .ok (.aload_n 0, 1) := by decide +kernel
theorem dX2_leastTime_33 : decode cX2_leastTime 33 = .ok (.getfield 47, 3) := by decide +kernel
theorem dX2_leastTime_36 : decode cX2_leastTime 36 = .ok (.iload 4, 2) := by decide +kernel
theorem dX2_leastTime_38 : decode cX2_leastTime 38 = .ok (.iaload, 1) := by decide +kernel
theorem dX2_leastTime_39 : decode cX2_leastTime 39 = .ok (.iload_n 3, 1) := by decide +kernel
theorem dX2_leastTime_40 : decode cX2_leastTime 40 = .ok (.if_icmp .ge 11, 3) := by decide +kernel
theorem dX2_leastTime_43 : decode cX2_leastTime 43 = .ok (.aload_n 0, 1) := by decide +kernel
theorem dX2_leastTime_44 : decode cX2_leastTime 44 = .ok (.getfield 47, 3) := by decide +kernel
theorem dX2_leastTime_47 : decode cX2_leastTime 47 = .ok (.iload 4, 2) := by decide +kernel
theorem dX2_leastTime_49 : decode cX2_leastTime 49 = .ok (.iaload, 1) := by decide +kernel
theorem dX2_leastTime_50 : decode cX2_leastTime 50 = .ok (.istore_n 3, 1) := by decide +kernel
theorem dX2_leastTime_51 : decode cX2_leastTime 51 = .ok (.iinc 4 1, 3) := by decide +kernel
theorem dX2_leastTime_54 : decode cX2_leastTime 54 = .ok (.goto (-48), 3) := by decide +kernel
theorem dX2_leastTime_57 : decode cX2_leastTime 57 = .ok (.iload_n 3, 1) := by decide +kernel
theorem dX2_leastTime_58 : decode cX2_leastTime 58 = .ok (.ireturn, 1) := by decide +kernel
set_option maxRecDepth 20000 in
theorem ggX2_dearestStreet_X2_owes : GoodIn wsX2_dearestStreet wsX2_owes := goodIn_r _ [6, 7, 8, 9, 10, 11, 5, 12, 13, 14, 15, 16, 17, 18, 19, 20, 21, 22, 23, 24, 25, 26, 27, 28, 29, 30, 31, 32, 33, 34, 35, 36, 37, 38, 39, 40] (by decide +kernel) (by decide +kernel)
set_option maxRecDepth 20000 in
theorem gX2_dearestStreet_X2_owes : GoodIn wsX2_dearestStreet (wsV RX2 90 RX2 yX2_owes wsX2_owes) := goodIn_app (goodIn_of _ (by decide +kernel)) ggX2_dearestStreet_X2_owes
theorem dX2_dearestStreet_0 : decode cX2_dearestStreet 0 = .ok (.iconst 0, 1) := by decide +kernel
theorem dX2_dearestStreet_1 : decode cX2_dearestStreet 1 = .ok (.istore_n 2, 1) := by decide +kernel
theorem dX2_dearestStreet_2 : decode cX2_dearestStreet 2 = .ok (.iconst 1, 1) := by decide +kernel
theorem dX2_dearestStreet_3 : decode cX2_dearestStreet 3 = .ok (.istore_n 3, 1) := by decide +kernel
theorem dX2_dearestStreet_4 : decode cX2_dearestStreet 4 = .ok (.iload_n 3, 1) := by decide +kernel
theorem dX2_dearestStreet_5 : decode cX2_dearestStreet 5 = .ok (.aload_n 0, 1) := by decide +kernel
theorem dX2_dearestStreet_6 : decode cX2_dearestStreet 6 = .ok (.getfield 22, 3) := by decide +kernel
theorem dX2_dearestStreet_9 : decode cX2_dearestStreet 9 = .ok (.if_icmp .ge 26, 3) := by decide +kernel
theorem dX2_dearestStreet_12 : decode cX2_dearestStreet 12 = .ok (.aload_n 0, 1) := by decide +kernel
theorem dX2_dearestStreet_13 : decode cX2_dearestStreet 13 = .ok (.iload_n 1, 1) := by decide +kernel
theorem dX2_dearestStreet_14 : decode cX2_dearestStreet 14 = .ok (.iload_n 3, 1) := by decide +kernel
theorem dX2_dearestStreet_15 : decode cX2_dearestStreet 15 = .ok (.invokevirtual 90, 3) := by decide +kernel
theorem dX2_dearestStreet_18 : decode cX2_dearestStreet 18 = .ok (.aload_n 0, 1) := by decide +kernel
theorem dX2_dearestStreet_19 : decode cX2_dearestStreet 19 = .ok (.iload_n 1, 1) := by decide +kernel
theorem dX2_dearestStreet_20 : decode cX2_dearestStreet 20 = .ok (.iload_n 2, 1) := by decide +kernel
theorem dX2_dearestStreet_21 : decode cX2_dearestStreet 21 = .ok (.invokevirtual 90, 3) := by decide +kernel
theorem dX2_dearestStreet_24 : decode cX2_dearestStreet 24 = .ok (.if_icmp .le 5, 3) := by decide +kernel
theorem dX2_dearestStreet_27 : decode cX2_dearestStreet 27 = .ok (.iload_n 3, 1) := by decide +kernel
theorem dX2_dearestStreet_28 : decode cX2_dearestStreet 28 = .ok (.istore_n 2, 1) := by decide +kernel
theorem dX2_dearestStreet_29 : decode cX2_dearestStreet 29 = .ok (.iinc 3 1, 3) := by decide +kernel
theorem dX2_dearestStreet_32 : decode cX2_dearestStreet 32 = .ok (.goto (-28), 3) := by decide +kernel
theorem dX2_dearestStreet_35 : decode cX2_dearestStreet 35 = .ok (.iload_n 2, 1) := by decide +kernel
theorem dX2_dearestStreet_36 : decode cX2_dearestStreet 36 = .ok (.ireturn, 1) := by decide +kernel
theorem dX3_widerThan_0 : decode cX3_widerThan 0 = .ok (.iload_n 0, 1) := by decide +kernel
theorem dX3_widerThan_1 : decode cX3_widerThan 1 = .ok (.ifCond .lt 19, 3) := by decide +kernel
theorem dX3_widerThan_4 : decode cX3_widerThan 4 = .ok (.iload_n 0, 1) := by decide +kernel
theorem dX3_widerThan_5 : decode cX3_widerThan 5 = .ok (.getstatic 7, 3) := by decide +kernel
theorem dX3_widerThan_8 : decode cX3_widerThan 8 = .ok (.arraylength, 1) := by decide +kernel
theorem dX3_widerThan_9 : decode cX3_widerThan 9 = .ok (.if_icmp .ge 11, 3) := by decide +kernel
theorem dX3_widerThan_12 : decode cX3_widerThan 12 = .ok (.getstatic 7, 3) := by decide +kernel
theorem dX3_widerThan_15 : decode cX3_widerThan 15 = .ok (.iload_n 0, 1) := by decide +kernel
theorem dX3_widerThan_16 : decode cX3_widerThan 16 = .ok (.iaload, 1) := by decide +kernel
theorem dX3_widerThan_17 : decode cX3_widerThan 17 = .ok (.goto 4, 3) := by decide +kernel
theorem dX3_widerThan_20 : decode cX3_widerThan 20 = .ok (.iconst 0, 1) := by decide +kernel
theorem dX3_widerThan_21 : decode cX3_widerThan 21 = .ok (.ireturn, 1) := by decide +kernel
set_option maxRecDepth 20000 in
theorem ggX3_isOneOf_X3_widerThan : GoodIn wsX3_isOneOf wsX3_widerThan := goodIn_r _ [5, 1] (by decide +kernel) (by decide +kernel)
set_option maxRecDepth 20000 in
theorem gX3_isOneOf_X3_widerThan : GoodIn wsX3_isOneOf (va_wsS RX3 13 yX3_widerThan wsX3_widerThan) := goodIn_app (goodIn_of _ (by decide +kernel)) ggX3_isOneOf_X3_widerThan
theorem dX3_isOneOf_0 : decode cX3_isOneOf 0 = .ok (.iload_n 0, 1) := by decide +kernel
theorem dX3_isOneOf_1 : decode cX3_isOneOf 1 = .ok (.istore_n 2, 1) := by decide +kernel
theorem dX3_isOneOf_2 : decode cX3_isOneOf 2 = .ok (.iconst 0, 1) := by decide +kernel
theorem dX3_isOneOf_3 : decode cX3_isOneOf 3 = .ok (.istore_n 3, 1) := by decide +kernel
theorem dX3_isOneOf_4 : decode cX3_isOneOf 4 = .ok (.iload_n 3, 1) := by decide +kernel
theorem dX3_isOneOf_5 : decode cX3_isOneOf 5 = .ok (.getstatic 7, 3) := by decide +kernel
theorem dX3_isOneOf_8 : decode cX3_isOneOf 8 = .ok (.arraylength, 1) := by decide +kernel
theorem dX3_isOneOf_9 : decode cX3_isOneOf 9 = .ok (.if_icmp .ge 19, 3) := by decide +kernel
theorem dX3_isOneOf_12 : decode cX3_isOneOf 12 = .ok (.iload_n 2, 1) := by decide +kernel
theorem dX3_isOneOf_13 : decode cX3_isOneOf 13 = .ok (.iload_n 1, 1) := by decide +kernel
theorem dX3_isOneOf_14 : decode cX3_isOneOf 14 = .ok (.if_icmp .eq 14, 3) := by decide +kernel
theorem dX3_isOneOf_17 : decode cX3_isOneOf 17 = .ok (.iload_n 2, 1) := by decide +kernel
theorem dX3_isOneOf_18 : decode cX3_isOneOf 18 = .ok (.invokestatic 13, 3) := by decide +kernel
theorem dX3_isOneOf_21 : decode cX3_isOneOf 21 = .ok (.istore_n 2, 1) := by decide +kernel
theorem dX3_isOneOf_22 : decode cX3_isOneOf 22 = .ok (.iinc 3 1, 3) := by decide +kernel
theorem dX3_isOneOf_25 : decode cX3_isOneOf 25 = .ok (.goto (-21), 3) := by decide +kernel
theorem dX3_isOneOf_28 : decode cX3_isOneOf 28 = .ok (.iload_n 2, 1) := by decide +kernel
theorem dX3_isOneOf_29 : decode cX3_isOneOf 29 = .ok (.iload_n 1, 1) := by decide +kernel
theorem dX3_isOneOf_30 : decode cX3_isOneOf 30 = .ok (.if_icmp .ne 7, 3) := by decide +kernel
theorem dX3_isOneOf_33 : decode cX3_isOneOf 33 = .ok (.iconst 1, 1) := by decide +kernel
theorem dX3_isOneOf_34 : decode cX3_isOneOf 34 = .ok (.goto 4, 3) := by decide +kernel
theorem dX3_isOneOf_37 : decode cX3_isOneOf 37 = .ok (.iconst 0, 1) := by decide +kernel
theorem dX3_isOneOf_38 : decode cX3_isOneOf 38 = .ok (.ireturn, 1) := by decide +kernel
theorem dX3_ofLetter_0 : decode cX3_ofLetter 0 = .ok (.iload_n 0, 1) := by decide +kernel
theorem dX3_ofLetter_1 : decode cX3_ofLetter 1 = .ok (.lookupswitch 61 #[(98, 55), (107, 57), (110, 53), (115, 59), (119, 51)], 51) := by decide +kernel
theorem dX3_ofLetter_52 : decode cX3_ofLetter 52 = .ok (.iconst 1, 1) := by decide +kernel
theorem dX3_ofLetter_53 : decode cX3_ofLetter 53 = .ok (.ireturn, 1) := by decide +kernel
theorem dX3_ofLetter_54 : decode cX3_ofLetter 54 = .ok (.iconst 2, 1) := by decide +kernel
theorem dX3_ofLetter_55 : decode cX3_ofLetter 55 = .ok (.ireturn, 1) := by decide +kernel
theorem dX3_ofLetter_56 : decode cX3_ofLetter 56 = .ok (.iconst 3, 1) := by decide +kernel
theorem dX3_ofLetter_57 : decode cX3_ofLetter 57 = .ok (.ireturn, 1) := by decide +kernel
theorem dX3_ofLetter_58 : decode cX3_ofLetter 58 = .ok (.iconst 4, 1) := by decide +kernel
theorem dX3_ofLetter_59 : decode cX3_ofLetter 59 = .ok (.ireturn, 1) := by decide +kernel
theorem dX3_ofLetter_60 : decode cX3_ofLetter 60 = .ok (.iconst 5, 1) := by decide +kernel
theorem dX3_ofLetter_61 : decode cX3_ofLetter 61 = .ok (.ireturn, 1) := by decide +kernel
theorem dX3_ofLetter_62 : decode cX3_ofLetter 62 = .ok (.iconst 0, 1) := by decide +kernel
theorem dX3_ofLetter_63 : decode cX3_ofLetter 63 = .ok (.ireturn, 1) := by decide +kernel
theorem dX4_init_0 : decode cX4_init 0 = .ok (.aload_n 0, 1) := by decide +kernel
theorem dX4_init_1 : decode cX4_init 1 = .ok (.invokespecial 3, 3) := by decide +kernel
theorem dX4_init_4 : decode cX4_init 4 = .ok (.aload_n 0, 1) := by decide +kernel
theorem dX4_init_5 : decode cX4_init 5 = .ok (.bipush 120, 2) := by decide +kernel
theorem dX4_init_7 : decode cX4_init 7 = .ok (.newarray .int, 2) := by decide +kernel
theorem dX4_init_9 : decode cX4_init 9 = .ok (.putfield 11, 3) := by decide +kernel
theorem dX4_init_12 : decode cX4_init 12 = .ok (.aload_n 0, 1) := by decide +kernel
theorem dX4_init_13 : decode cX4_init 13 = .ok (.iconst 0, 1) := by decide +kernel
theorem dX4_init_14 : decode cX4_init 14 = .ok (.putfield 15, 3) := by decide +kernel
theorem dX4_init_17 : decode cX4_init 17 = .ok (.aload_n 0, 1) := by decide +kernel
theorem dX4_init_18 : decode cX4_init 18 = .ok (.iconst 0, 1) := by decide +kernel
theorem dX4_init_19 : decode cX4_init 19 = .ok (.putfield 19, 3) := by decide +kernel
theorem dX4_init_22 : decode cX4_init 22 = .ok (.aload_n 0, 1) := by decide +kernel
theorem dX4_init_23 : decode cX4_init 23 = .ok (.iconst 0, 1) := by decide +kernel
theorem dX4_init_24 : decode cX4_init 24 = .ok (.putfield 22, 3) := by decide +kernel
theorem dX4_init_27 : decode cX4_init 27 = .ok (.aload_n 0, 1) := by decide +kernel
theorem dX4_init_28 : decode cX4_init 28 = .ok (.iconst 0, 1) := by decide +kernel
theorem dX4_init_29 : decode cX4_init 29 = .ok (.putfield 25, 3) := by decide +kernel
theorem dX4_init_32 : decode cX4_init 32 = .ok (.aload_n 0, 1) := by decide +kernel
theorem dX4_init_33 : decode cX4_init 33 = .ok (.iconst 0, 1) := by decide +kernel
theorem dX4_init_34 : decode cX4_init 34 = .ok (.putfield 28, 3) := by decide +kernel
theorem dX4_init_37 : decode cX4_init 37 = .ok (.return_, 1) := by decide +kernel
theorem dX4_isFull_0 : decode cX4_isFull 0 = .ok (.aload_n 0, 1) := by decide +kernel
theorem dX4_isFull_1 : decode cX4_isFull 1 = .ok (.getfield 15, 3) := by decide +kernel
theorem dX4_isFull_4 : decode cX4_isFull 4 = .ok (.bipush 120, 2) := by decide +kernel
theorem dX4_isFull_6 : decode cX4_isFull 6 = .ok (.if_icmp .lt 7, 3) := by decide +kernel
theorem dX4_isFull_9 : decode cX4_isFull 9 = .ok (.iconst 1, 1) := by decide +kernel
theorem dX4_isFull_10 : decode cX4_isFull 10 = .ok (.goto 4, 3) := by decide +kernel
theorem dX4_isFull_13 : decode cX4_isFull 13 = .ok (.iconst 0, 1) := by decide +kernel
theorem dX4_isFull_14 : decode cX4_isFull 14 = .ok (.ireturn, 1) := by decide +kernel
set_option maxRecDepth 20000 in
theorem ggX4_append_X4_isFull : GoodIn wsX4_append wsX4_isFull := goodIn_r _ [7, 2, 8, 9, 10, 11, 12, 13] (by decide +kernel) (by decide +kernel)
set_option maxRecDepth 20000 in
theorem gX4_append_X4_isFull : GoodIn wsX4_append (wsV RX4 31 RX4 yX4_isFull wsX4_isFull) := goodIn_app (goodIn_of _ (by decide +kernel)) ggX4_append_X4_isFull
theorem dX4_append_0 : decode cX4_append 0 = .ok (.aload_n 0, 1) := by decide +kernel
theorem dX4_append_1 : decode cX4_append 1 = .ok (.invokevirtual 31, 3) := by decide +kernel
theorem dX4_append_4 : decode cX4_append 4 = .ok (.ifCond .ne 23, 3) := by decide +kernel
theorem dX4_append_7 : decode cX4_append 7 = .ok (.aload_n 0, 1) := by decide +kernel
theorem dX4_append_8 : decode cX4_append 8 = .ok (.getfield 11, 3) := by decide +kernel
theorem dX4_append_11 : decode cX4_append 11 = .ok (.aload_n 0, 1) := by decide +kernel
theorem dX4_append_12 : decode cX4_append 12 = .ok (.getfield 15, 3) := by decide +kernel
theorem dX4_append_15 : decode cX4_append 15 = .ok (.iload_n 1, 1) := by decide +kernel
theorem dX4_append_16 : decode cX4_append 16 = .ok (.iastore, 1) := by decide +kernel
theorem dX4_append_17 : decode cX4_append 17 = .ok (.aload_n 0, 1) := by decide +kernel
theorem dX4_append_18 : decode cX4_append 18 = .ok (.dup, 1) := by decide +kernel
theorem dX4_append_19 : decode cX4_append 19 = .ok (.getfield 15, 3) := by decide +kernel
theorem dX4_append_22 : decode cX4_append 22 = .ok (.iconst 1, 1) := by decide +kernel
theorem dX4_append_23 : decode cX4_append 23 = .ok (.iadd, 1) := by decide +kernel
theorem dX4_append_24 : decode cX4_append 24 = .ok (.putfield 15, 3) := by decide +kernel
theorem dX4_append_27 : decode cX4_append 27 = .ok (.aload_n 0, 1) := by decide +kernel
theorem dX4_append_28 : decode cX4_append 28 = .ok (.getfield 15, 3) := by decide +kernel
theorem dX4_append_31 : decode cX4_append 31 = .ok (.ireturn, 1) := by decide +kernel
set_option maxRecDepth 20000 in
theorem ggX4_reads_X4_readLaw : GoodIn wsX4_reads wsX4_readLaw := goodIn_r _ [8, 9, 10, 11, 7, 12, 2, 13, 14, 15, 16, 3, 17, 18, 19, 20, 21, 22, 23, 24, 25, 1, 26, 27, 28, 29, 30, 31, 32, 33, 34, 35, 36, 37, 38, 39, 40, 41, 42, 43, 44, 45, 67, 68, 69, 70, 71, 72, 73, 74, 75, 76, 77, 78, 79, 80, 81, 82, 83, 84, 85] (by decide +kernel) (by decide +kernel)
set_option maxRecDepth 20000 in
theorem gX4_reads_X4_readLaw : GoodIn wsX4_reads (wsV RX4 35 RX4 yX4_readLaw wsX4_readLaw) := goodIn_app (goodIn_of _ (by decide +kernel)) ggX4_reads_X4_readLaw
set_option maxRecDepth 20000 in
theorem ggX4_reads_X4_next : GoodIn wsX4_reads wsX4_next := goodIn_r _ [16, 2, 3, 17, 67, 68, 69, 70, 71, 72] (by decide +kernel) (by decide +kernel)
set_option maxRecDepth 20000 in
theorem gX4_reads_X4_next : GoodIn wsX4_reads (wsV RX4 39 RX4 yX4_next wsX4_next) := goodIn_app (goodIn_of _ (by decide +kernel)) ggX4_reads_X4_next
set_option maxRecDepth 20000 in
theorem ggX4_reads_X4_readStreet : GoodIn wsX4_reads wsX4_readStreet := goodIn_r _ [49, 50, 51, 52, 18, 19, 20, 7, 21, 2, 22, 23, 24, 25, 1, 26, 27, 9, 10, 11, 12, 13, 14, 15, 16, 3, 17, 28, 29, 30, 31, 32, 33, 34, 73, 74, 75, 76, 77, 78, 79, 80, 81, 82, 83, 84, 85, 67, 68, 69, 70, 71, 72] (by decide +kernel) (by decide +kernel)
set_option maxRecDepth 20000 in
theorem gX4_reads_X4_readStreet : GoodIn wsX4_reads (wsV RX4 43 RX4 yX4_readStreet wsX4_readStreet) := goodIn_app (goodIn_of _ (by decide +kernel)) ggX4_reads_X4_readStreet
set_option maxRecDepth 20000 in
theorem ggX4_reads_X3_ofLetter : GoodIn wsX4_reads wsX3_ofLetter := goodIn_r _ [56] (by decide +kernel) (by decide +kernel)
set_option maxRecDepth 20000 in
theorem gX4_reads_X3_ofLetter : GoodIn wsX4_reads (va_wsS RX4 46 yX3_ofLetter wsX3_ofLetter) := goodIn_app (goodIn_of _ (by decide +kernel)) ggX4_reads_X3_ofLetter
set_option maxRecDepth 20000 in
theorem ggX4_reads_X4_readGesture : GoodIn wsX4_reads wsX4_readGesture := goodIn_r _ [60, 61, 62, 2, 63, 64, 65, 66, 18, 19, 20, 7, 21, 22, 23, 24, 25, 1, 26, 27, 13, 14, 15, 16, 3, 17, 53, 54, 55, 56, 28, 29, 30, 31, 32, 33, 34, 9, 10, 11, 12, 73, 74, 75, 76, 77, 78, 79, 80, 81, 82, 83, 84, 85, 67, 68, 69, 70, 71, 72] (by decide +kernel) (by decide +kernel)
set_option maxRecDepth 20000 in
theorem gX4_reads_X4_readGesture : GoodIn wsX4_reads (wsV RX4 52 RX4 yX4_readGesture wsX4_readGesture) := goodIn_app (goodIn_of _ (by decide +kernel)) ggX4_reads_X4_readGesture
set_option maxRecDepth 20000 in
theorem ggX4_reads_X4_fail : GoodIn wsX4_reads wsX4_fail := goodIn_r _ [21, 2, 22, 23, 24, 7, 25, 1, 26, 27, 67, 68, 69, 70, 71, 72] (by decide +kernel) (by decide +kernel)
set_option maxRecDepth 20000 in
theorem gX4_reads_X4_fail : GoodIn wsX4_reads (wsV RX4 55 RX4 yX4_fail wsX4_fail) := goodIn_app (goodIn_of _ (by decide +kernel)) ggX4_reads_X4_fail
theorem dX4_reads_0 : decode cX4_reads 0 = .ok (.aload_n 0, 1) := by decide +kernel
theorem dX4_reads_1 : decode cX4_reads 1 = .ok (.iconst 0, 1) := by decide +kernel
theorem dX4_reads_2 : decode cX4_reads 2 = .ok (.putfield 25, 3) := by decide +kernel
theorem dX4_reads_5 : decode cX4_reads 5 = .ok (.aload_n 0, 1) := by decide +kernel
theorem dX4_reads_6 : decode cX4_reads 6 = .ok (.iconst 0, 1) := by decide +kernel
theorem dX4_reads_7 : decode cX4_reads 7 = .ok (.putfield 28, 3) := by decide +kernel
theorem dX4_reads_10 : decode cX4_reads 10 = .ok (.aload_n 0, 1) := by decide +kernel
theorem dX4_reads_11 : decode cX4_reads 11 = .ok (.aload_n 1, 1) := by decide +kernel
theorem dX4_reads_12 : decode cX4_reads 12 = .ok (.invokevirtual 35, 3) := by decide +kernel
theorem dX4_reads_15 : decode cX4_reads 15 = .ok (.iconst 0, 1) := by decide +kernel
theorem dX4_reads_16 : decode cX4_reads 16 = .ok (.istore_n 2, 1) := by decide +kernel
theorem dX4_reads_17 : decode cX4_reads 17 = .ok (.iload_n 2, 1) := by decide +kernel
theorem dX4_reads_18 : decode cX4_reads 18 = .ok (.bipush 120, 2) := by decide +kernel
theorem dX4_reads_20 : decode cX4_reads 20 = .ok (.if_icmp .ge 30, 3) := by decide +kernel
theorem dX4_reads_23 : decode cX4_reads 23 = .ok (.aload_n 0, 1) := by decide +kernel
theorem dX4_reads_24 : decode cX4_reads 24 = .ok (.getfield 25, 3) := by decide +kernel
theorem dX4_reads_27 : decode cX4_reads 27 = .ok (.ifCond .ne 23, 3) := by decide +kernel
theorem dX4_reads_30 : decode cX4_reads 30 = .ok (.aload_n 0, 1) := by decide +kernel
theorem dX4_reads_31 : decode cX4_reads 31 = .ok (.invokevirtual 39, 3) := by decide +kernel
theorem dX4_reads_34 : decode cX4_reads 34 = .ok (.bipush 114, 2) := by decide +kernel
theorem dX4_reads_36 : decode cX4_reads 36 = .ok (.if_icmp .ne 14, 3) := by decide +kernel
theorem dX4_reads_39 : decode cX4_reads 39 = .ok (.aload_n 0, 1) := by decide +kernel
theorem dX4_reads_40 : decode cX4_reads 40 = .ok (.aload_n 1, 1) := by decide +kernel
theorem dX4_reads_41 : decode cX4_reads 41 = .ok (.invokevirtual 43, 3) := by decide +kernel
theorem dX4_reads_44 : decode cX4_reads 44 = .ok (.iinc 2 1, 3) := by decide +kernel
theorem dX4_reads_47 : decode cX4_reads 47 = .ok (.goto (-30), 3) := by decide +kernel
theorem dX4_reads_50 : decode cX4_reads 50 = .ok (.iconst 0, 1) := by decide +kernel
theorem dX4_reads_51 : decode cX4_reads 51 = .ok (.istore_n 2, 1) := by decide +kernel
theorem dX4_reads_52 : decode cX4_reads 52 = .ok (.iload_n 2, 1) := by decide +kernel
theorem dX4_reads_53 : decode cX4_reads 53 = .ok (.bipush 120, 2) := by decide +kernel
theorem dX4_reads_55 : decode cX4_reads 55 = .ok (.if_icmp .ge 31, 3) := by decide +kernel
theorem dX4_reads_58 : decode cX4_reads 58 = .ok (.aload_n 0, 1) := by decide +kernel
theorem dX4_reads_59 : decode cX4_reads 59 = .ok (.getfield 25, 3) := by decide +kernel
theorem dX4_reads_62 : decode cX4_reads 62 = .ok (.ifCond .ne 24, 3) := by decide +kernel
theorem dX4_reads_65 : decode cX4_reads 65 = .ok (.aload_n 0, 1) := by decide +kernel
theorem dX4_reads_66 : decode cX4_reads 66 = .ok (.invokevirtual 39, 3) := by decide +kernel
theorem dX4_reads_69 : decode cX4_reads 69 = .ok (.invokestatic 46, 3) := by decide +kernel
theorem dX4_reads_72 : decode cX4_reads 72 = .ok (.ifCond .eq 14, 3) := by decide +kernel
theorem dX4_reads_75 : decode cX4_reads 75 = .ok (.aload_n 0, 1) := by decide +kernel
theorem dX4_reads_76 : decode cX4_reads 76 = .ok (.aload_n 1, 1) := by decide +kernel
theorem dX4_reads_77 : decode cX4_reads 77 = .ok (.invokevirtual 52, 3) := by decide +kernel
theorem dX4_reads_80 : decode cX4_reads 80 = .ok (.iinc 2 1, 3) := by decide +kernel
theorem dX4_reads_83 : decode cX4_reads 83 = .ok (.goto (-31), 3) := by decide +kernel
theorem dX4_reads_86 : decode cX4_reads 86 = .ok (.aload_n 0, 1) := by decide +kernel
theorem dX4_reads_87 : decode cX4_reads 87 = .ok (.getfield 28, 3) := by decide +kernel
theorem dX4_reads_90 : decode cX4_reads 90 = .ok (.aload_n 0, 1) := by decide +kernel
theorem dX4_reads_91 : decode cX4_reads 91 = .ok (.getfield 15, 3) := by decide +kernel
theorem dX4_reads_94 : decode cX4_reads 94 = .ok (.if_icmp .ge 8, 3) := by decide +kernel
theorem dX4_reads_97 : decode cX4_reads 97 = .ok (.aload_n 0, 1) := by decide +kernel
theorem dX4_reads_98 : decode cX4_reads 98 = .ok (.iconst 1, 1) := by decide +kernel
theorem dX4_reads_99 : decode cX4_reads 99 = .ok (.invokevirtual 55, 3) := by decide +kernel
theorem dX4_reads_102 : decode cX4_reads 102 = .ok (.aload_n 0, 1) := by decide +kernel
theorem dX4_reads_103 : decode cX4_reads 103 = .ok (.iconst 0, 1) := by decide +kernel
theorem dX4_reads_104 : decode cX4_reads 104 = .ok (.putfield 15, 3) := by decide +kernel
theorem dX4_reads_107 : decode cX4_reads 107 = .ok (.aload_n 0, 1) := by decide +kernel
theorem dX4_reads_108 : decode cX4_reads 108 = .ok (.getfield 25, 3) := by decide +kernel
theorem dX4_reads_111 : decode cX4_reads 111 = .ok (.ifCond .ne 7, 3) := by decide +kernel
theorem dX4_reads_114 : decode cX4_reads 114 = .ok (.iconst 1, 1) := by decide +kernel
theorem dX4_reads_115 : decode cX4_reads 115 = .ok (.goto 4, 3) := by decide +kernel
theorem dX4_reads_118 : decode cX4_reads 118 = .ok (.iconst 0, 1) := by decide +kernel
theorem dX4_reads_119 : decode cX4_reads 119 = .ok (.ireturn, 1) := by decide +kernel
set_option maxRecDepth 20000 in
theorem ggX4_readLaw_X4_readSign : GoodIn wsX4_readLaw wsX4_readSign := goodIn_r _ [5, 6, 7, 8, 9, 4, 10, 11, 12, 13, 14, 15, 16, 17, 18, 19, 20, 21, 22, 23, 42, 43, 44, 45, 46, 47] (by decide +kernel) (by decide +kernel)
set_option maxRecDepth 20000 in
theorem gX4_readLaw_X4_readSign : GoodIn wsX4_readLaw (wsV RX4 59 RX4 yX4_readSign wsX4_readSign) := goodIn_app (goodIn_of _ (by decide +kernel)) ggX4_readLaw_X4_readSign
set_option maxRecDepth 20000 in
theorem ggX4_readLaw_X4_readNumber : GoodIn wsX4_readLaw wsX4_readNumber := goodIn_r _ [27, 6, 7, 8, 9, 4, 10, 11, 12, 28, 29, 30, 17, 18, 19, 20, 21, 22, 23, 42, 43, 44, 45, 46, 47] (by decide +kernel) (by decide +kernel)
set_option maxRecDepth 20000 in
theorem gX4_readLaw_X4_readNumber : GoodIn wsX4_readLaw (wsV RX4 62 RX4 yX4_readNumber wsX4_readNumber) := goodIn_app (goodIn_of _ (by decide +kernel)) ggX4_readLaw_X4_readNumber
set_option maxRecDepth 20000 in
theorem ggX4_readLaw_X2_begin : GoodIn wsX4_readLaw wsX2_begin := goodIn_r _ [35, 36, 37, 38, 39, 40, 41, 48, 49, 50, 51, 52, 53, 54, 55, 56, 57, 58, 59, 60] (by decide +kernel) (by decide +kernel)
set_option maxRecDepth 20000 in
theorem gX4_readLaw_X2_begin : GoodIn wsX4_readLaw (wsV RX4 66 RX2 yX2_begin wsX2_begin) := goodIn_app (goodIn_of _ (by decide +kernel)) ggX4_readLaw_X2_begin
theorem dX4_readLaw_0 : decode cX4_readLaw 0 = .ok (.aload_n 0, 1) := by decide +kernel
theorem dX4_readLaw_1 : decode cX4_readLaw 1 = .ok (.bipush 100, 2) := by decide +kernel
theorem dX4_readLaw_3 : decode cX4_readLaw 3 = .ok (.invokevirtual 59, 3) := by decide +kernel
theorem dX4_readLaw_6 : decode cX4_readLaw 6 = .ok (.aload_n 1, 1) := by decide +kernel
theorem dX4_readLaw_7 : decode cX4_readLaw 7 = .ok (.aload_n 0, 1) := by decide +kernel
theorem dX4_readLaw_8 : decode cX4_readLaw 8 = .ok (.iconst 1, 1) := by decide +kernel
theorem dX4_readLaw_9 : decode cX4_readLaw 9 = .ok (.bipush 9, 2) := by decide +kernel
theorem dX4_readLaw_11 : decode cX4_readLaw 11 = .ok (.invokevirtual 62, 3) := by decide +kernel
theorem dX4_readLaw_14 : decode cX4_readLaw 14 = .ok (.invokevirtual 66, 3) := by decide +kernel
theorem dX4_readLaw_17 : decode cX4_readLaw 17 = .ok (.aload_n 0, 1) := by decide +kernel
theorem dX4_readLaw_18 : decode cX4_readLaw 18 = .ok (.bipush 59, 2) := by decide +kernel
theorem dX4_readLaw_20 : decode cX4_readLaw 20 = .ok (.invokevirtual 59, 3) := by decide +kernel
theorem dX4_readLaw_23 : decode cX4_readLaw 23 = .ok (.return_, 1) := by decide +kernel
set_option maxRecDepth 20000 in
theorem ggX4_readStreet_X4_fail : GoodIn wsX4_readStreet wsX4_fail := goodIn_r _ [8, 9, 10, 11, 12, 7, 13, 14, 15, 16, 47, 48, 49, 50, 51, 52] (by decide +kernel) (by decide +kernel)
set_option maxRecDepth 20000 in
theorem gX4_readStreet_X4_fail : GoodIn wsX4_readStreet (wsV RX4 55 RX4 yX4_fail wsX4_fail) := goodIn_app (goodIn_of _ (by decide +kernel)) ggX4_readStreet_X4_fail
set_option maxRecDepth 20000 in
theorem ggX4_readStreet_X4_readSign : GoodIn wsX4_readStreet wsX4_readSign := goodIn_r _ [20, 9, 21, 22, 23, 7, 24, 25, 26, 4, 5, 6, 8, 10, 11, 12, 13, 14, 15, 16, 47, 48, 49, 50, 51, 52] (by decide +kernel) (by decide +kernel)
set_option maxRecDepth 20000 in
theorem gX4_readStreet_X4_readSign : GoodIn wsX4_readStreet (wsV RX4 59 RX4 yX4_readSign wsX4_readSign) := goodIn_app (goodIn_of _ (by decide +kernel)) ggX4_readStreet_X4_readSign
set_option maxRecDepth 20000 in
theorem ggX4_readStreet_X4_readNumber : GoodIn wsX4_readStreet wsX4_readNumber := goodIn_r _ [30, 9, 21, 22, 23, 7, 24, 25, 26, 31, 32, 33, 10, 11, 12, 13, 14, 15, 16, 47, 48, 49, 50, 51, 52] (by decide +kernel) (by decide +kernel)
set_option maxRecDepth 20000 in
theorem gX4_readStreet_X4_readNumber : GoodIn wsX4_readStreet (wsV RX4 62 RX4 yX4_readNumber wsX4_readNumber) := goodIn_app (goodIn_of _ (by decide +kernel)) ggX4_readStreet_X4_readNumber
theorem dX4_readStreet_0 : decode cX4_readStreet 0 = .ok (.aload_n 1, 1) := by decide +kernel
theorem dX4_readStreet_1 : decode cX4_readStreet 1 = .ok (.getfield 71, 3) := by decide +kernel
theorem dX4_readStreet_4 : decode cX4_readStreet 4 = .ok (.bipush 7, 2) := by decide +kernel
theorem dX4_readStreet_6 : decode cX4_readStreet 6 = .ok (.if_icmp .lt 9, 3) := by decide +kernel
theorem dX4_readStreet_9 : decode cX4_readStreet 9 = .ok (.aload_n 0, 1) := by decide +kernel
theorem dX4_readStreet_10 : decode cX4_readStreet 10 = .ok (.iconst 3, 1) := by decide +kernel
theorem dX4_readStreet_11 : decode cX4_readStreet 11 = .ok (.invokevirtual 55, 3) := by decide +kernel
theorem dX4_readStreet_14 : decode cX4_readStreet 14 = .ok (.return_, 1) := by decide +kernel
theorem dX4_readStreet_15 : decode cX4_readStreet 15 = .ok (.aload_n 1, 1) := by decide +kernel
theorem dX4_readStreet_16 : decode cX4_readStreet 16 = .ok (.getfield 71, 3) := by decide +kernel
theorem dX4_readStreet_19 : decode cX4_readStreet 19 = .ok (.istore_n 2, 1) := by decide +kernel
theorem dX4_readStreet_20 : decode cX4_readStreet 20 = .ok (.aload_n 0, 1) := by decide +kernel
theorem dX4_readStreet_21 : decode cX4_readStreet 21 = .ok (.bipush 114, 2) := by decide +kernel
theorem dX4_readStreet_23 : decode cX4_readStreet 23 = .ok (.invokevirtual 59, 3) := by decide +kernel
theorem dX4_readStreet_26 : decode cX4_readStreet 26 = .ok (.aload_n 1, 1) := by decide +kernel
theorem dX4_readStreet_27 : decode cX4_readStreet 27 = .ok (.getfield 74, 3) := by decide +kernel
theorem dX4_readStreet_30 : decode cX4_readStreet 30 = .ok (.iload_n 2, 1) := by decide +kernel
theorem dX4_readStreet_31 : decode cX4_readStreet 31 = .ok (.aload_n 0, 1) := by decide +kernel
theorem dX4_readStreet_32 : decode cX4_readStreet 32 = .ok (.iconst 0, 1) := by decide +kernel
theorem dX4_readStreet_33 : decode cX4_readStreet 33 = .ok (.bipush 30, 2) := by decide +kernel
theorem dX4_readStreet_35 : decode cX4_readStreet 35 = .ok (.invokevirtual 62, 3) := by decide +kernel
theorem dX4_readStreet_38 : decode cX4_readStreet 38 = .ok (.iastore, 1) := by decide +kernel
theorem dX4_readStreet_39 : decode cX4_readStreet 39 = .ok (.aload_n 0, 1) := by decide +kernel
theorem dX4_readStreet_40 : decode cX4_readStreet 40 = .ok (.bipush 44, 2) := by decide +kernel
theorem dX4_readStreet_42 : decode cX4_readStreet 42 = .ok (.invokevirtual 59, 3) := by decide +kernel
theorem dX4_readStreet_45 : decode cX4_readStreet 45 = .ok (.aload_n 1, 1) := by decide +kernel
theorem dX4_readStreet_46 : decode cX4_readStreet 46 = .ok (.getfield 77, 3) := by decide +kernel
theorem dX4_readStreet_49 : decode cX4_readStreet 49 = .ok (.iload_n 2, 1) := by decide +kernel
theorem dX4_readStreet_50 : decode cX4_readStreet 50 = .ok (.aload_n 0, 1) := by decide +kernel
theorem dX4_readStreet_51 : decode cX4_readStreet 51 = .ok (.iconst 0, 1) := by decide +kernel
theorem dX4_readStreet_52 : decode cX4_readStreet 52 = .ok (.bipush 9, 2) := by decide +kernel
theorem dX4_readStreet_54 : decode cX4_readStreet 54 = .ok (.invokevirtual 62, 3) := by decide +kernel
theorem dX4_readStreet_57 : decode cX4_readStreet 57 = .ok (.iastore, 1) := by decide +kernel
theorem dX4_readStreet_58 : decode cX4_readStreet 58 = .ok (.aload_n 0, 1) := by decide +kernel
theorem dX4_readStreet_59 : decode cX4_readStreet 59 = .ok (.bipush 59, 2) := by decide +kernel
theorem dX4_readStreet_61 : decode cX4_readStreet 61 = .ok (.invokevirtual 59, 3) := by decide +kernel
theorem dX4_readStreet_64 : decode cX4_readStreet 64 = .ok (.aload_n 1, 1) := by decide +kernel
theorem dX4_readStreet_65 : decode cX4_readStreet 65 = .ok (.dup, 1) := by decide +kernel
theorem dX4_readStreet_66 : decode cX4_readStreet 66 = .ok (.getfield 71, 3) := by decide +kernel
theorem dX4_readStreet_69 : decode cX4_readStreet 69 = .ok (.iconst 1, 1) := by decide +kernel
theorem dX4_readStreet_70 : decode cX4_readStreet 70 = .ok (.iadd, 1) := by decide +kernel
theorem dX4_readStreet_71 : decode cX4_readStreet 71 = .ok (.putfield 71, 3) := by decide +kernel
theorem dX4_readStreet_74 : decode cX4_readStreet 74 = .ok (.return_, 1) := by decide +kernel
set_option maxRecDepth 20000 in
theorem ggX4_readGesture_X4_fail : GoodIn wsX4_readGesture wsX4_fail := goodIn_r _ [12, 3, 13, 14, 15, 11, 16, 17, 18, 19, 54, 55, 56, 57, 58, 59] (by decide +kernel) (by decide +kernel)
set_option maxRecDepth 20000 in
theorem gX4_readGesture_X4_fail : GoodIn wsX4_readGesture (wsV RX4 55 RX4 yX4_fail wsX4_fail) := goodIn_app (goodIn_of _ (by decide +kernel)) ggX4_readGesture_X4_fail
set_option maxRecDepth 20000 in
theorem ggX4_readGesture_X4_next : GoodIn wsX4_readGesture wsX4_next := goodIn_r _ [23, 3, 24, 25, 54, 55, 56, 57, 58, 59] (by decide +kernel) (by decide +kernel)
set_option maxRecDepth 20000 in
theorem gX4_readGesture_X4_next : GoodIn wsX4_readGesture (wsV RX4 39 RX4 yX4_next wsX4_next) := goodIn_app (goodIn_of _ (by decide +kernel)) ggX4_readGesture_X4_next
set_option maxRecDepth 20000 in
theorem ggX4_readGesture_X3_ofLetter : GoodIn wsX4_readGesture wsX3_ofLetter := goodIn_r _ [29] (by decide +kernel) (by decide +kernel)
set_option maxRecDepth 20000 in
theorem gX4_readGesture_X3_ofLetter : GoodIn wsX4_readGesture (va_wsS RX4 46 yX3_ofLetter wsX3_ofLetter) := goodIn_app (goodIn_of _ (by decide +kernel)) ggX4_readGesture_X3_ofLetter
set_option maxRecDepth 20000 in
theorem ggX4_readGesture_X4_readNumber : GoodIn wsX4_readGesture wsX4_readNumber := goodIn_r _ [33, 3, 20, 21, 22, 11, 23, 24, 25, 34, 35, 36, 13, 14, 15, 16, 17, 18, 19, 54, 55, 56, 57, 58, 59] (by decide +kernel) (by decide +kernel)
set_option maxRecDepth 20000 in
theorem gX4_readGesture_X4_readNumber : GoodIn wsX4_readGesture (wsV RX4 62 RX4 yX4_readNumber wsX4_readNumber) := goodIn_app (goodIn_of _ (by decide +kernel)) ggX4_readGesture_X4_readNumber
set_option maxRecDepth 20000 in
theorem ggX4_readGesture_X4_readSign : GoodIn wsX4_readGesture wsX4_readSign := goodIn_r _ [40, 3, 20, 21, 22, 11, 23, 24, 25, 8, 9, 10, 12, 13, 14, 15, 16, 17, 18, 19, 54, 55, 56, 57, 58, 59] (by decide +kernel) (by decide +kernel)
set_option maxRecDepth 20000 in
theorem gX4_readGesture_X4_readSign : GoodIn wsX4_readGesture (wsV RX4 59 RX4 yX4_readSign wsX4_readSign) := goodIn_app (goodIn_of _ (by decide +kernel)) ggX4_readGesture_X4_readSign
theorem dX4_readGesture_0 : decode cX4_readGesture 0 = .ok (.aload_n 1, 1) := by decide +kernel
theorem dX4_readGesture_1 : decode cX4_readGesture 1 = .ok (.getfield 80, 3) := by decide +kernel
theorem dX4_readGesture_4 : decode cX4_readGesture 4 = .ok (.bipush 6, 2) := by decide +kernel
theorem dX4_readGesture_6 : decode cX4_readGesture 6 = .ok (.if_icmp .lt 9, 3) := by decide +kernel
theorem dX4_readGesture_9 : decode cX4_readGesture 9 = .ok (.aload_n 0, 1) := by decide +kernel
theorem dX4_readGesture_10 : decode cX4_readGesture 10 = .ok (.iconst 3, 1) := by decide +kernel
theorem dX4_readGesture_11 : decode cX4_readGesture 11 = .ok (.invokevirtual 55, 3) := by decide +kernel
theorem dX4_readGesture_14 : decode cX4_readGesture 14 = .ok (.return_, 1) := by decide +kernel
theorem dX4_readGesture_15 : decode cX4_readGesture 15 = .ok (.aload_n 1, 1) := by decide +kernel
theorem dX4_readGesture_16 : decode cX4_readGesture 16 = .ok (.getfield 80, 3) := by decide +kernel
theorem dX4_readGesture_19 : decode cX4_readGesture 19 = .ok (.istore_n 2, 1) := by decide +kernel
theorem dX4_readGesture_20 : decode cX4_readGesture 20 = .ok (.aload_n 1, 1) := by decide +kernel
theorem dX4_readGesture_21 : decode cX4_readGesture 21 = .ok (.getfield 83, 3) := by decide +kernel
theorem dX4_readGesture_24 : decode cX4_readGesture 24 = .ok (.iload_n 2, 1) := by decide +kernel
theorem dX4_readGesture_25 : decode cX4_readGesture 25 = .ok (.aload_n 0, 1) := by decide +kernel
theorem dX4_readGesture_26 : decode cX4_readGesture 26 = .ok (.invokevirtual 39, 3) := by decide +kernel
theorem dX4_readGesture_29 : decode cX4_readGesture 29 = .ok (.invokestatic 46, 3) := by decide +kernel
theorem dX4_readGesture_32 : decode cX4_readGesture 32 = .ok (.iastore, 1) := by decide +kernel
theorem dX4_readGesture_33 : decode cX4_readGesture 33 = .ok (.aload_n 0, 1) := by decide +kernel
theorem dX4_readGesture_34 : decode cX4_readGesture 34 = .ok (.dup, 1) := by decide +kernel
theorem dX4_readGesture_35 : decode cX4_readGesture 35 = .ok (.getfield 28, 3) := by decide +kernel
theorem dX4_readGesture_38 : decode cX4_readGesture 38 = .ok (.iconst 1, 1) := by decide +kernel
theorem dX4_readGesture_39 : decode cX4_readGesture 39 = .ok (.iadd, 1) := by decide +kernel
theorem dX4_readGesture_40 : decode cX4_readGesture 40 = .ok (.putfield 28, 3) := by decide +kernel
theorem dX4_readGesture_43 : decode cX4_readGesture 43 = .ok (.aload_n 1, 1) := by decide +kernel
theorem dX4_readGesture_44 : decode cX4_readGesture 44 = .ok (.getfield 86, 3) := by decide +kernel
theorem dX4_readGesture_47 : decode cX4_readGesture 47 = .ok (.iload_n 2, 1) := by decide +kernel
theorem dX4_readGesture_48 : decode cX4_readGesture 48 = .ok (.aload_n 0, 1) := by decide +kernel
theorem dX4_readGesture_49 : decode cX4_readGesture 49 = .ok (.iconst 1, 1) := by decide +kernel
theorem dX4_readGesture_50 : decode cX4_readGesture 50 = .ok (.bipush 30, 2) := by decide +kernel
theorem dX4_readGesture_52 : decode cX4_readGesture 52 = .ok (.invokevirtual 62, 3) := by decide +kernel
theorem dX4_readGesture_55 : decode cX4_readGesture 55 = .ok (.iastore, 1) := by decide +kernel
theorem dX4_readGesture_56 : decode cX4_readGesture 56 = .ok (.aload_n 0, 1) := by decide +kernel
theorem dX4_readGesture_57 : decode cX4_readGesture 57 = .ok (.bipush 44, 2) := by decide +kernel
theorem dX4_readGesture_59 : decode cX4_readGesture 59 = .ok (.invokevirtual 59, 3) := by decide +kernel
theorem dX4_readGesture_62 : decode cX4_readGesture 62 = .ok (.aload_n 1, 1) := by decide +kernel
theorem dX4_readGesture_63 : decode cX4_readGesture 63 = .ok (.getfield 89, 3) := by decide +kernel
theorem dX4_readGesture_66 : decode cX4_readGesture 66 = .ok (.iload_n 2, 1) := by decide +kernel
theorem dX4_readGesture_67 : decode cX4_readGesture 67 = .ok (.aload_n 0, 1) := by decide +kernel
theorem dX4_readGesture_68 : decode cX4_readGesture 68 = .ok (.iconst 0, 1) := by decide +kernel
theorem dX4_readGesture_69 : decode cX4_readGesture 69 = .ok (.iconst 3, 1) := by decide +kernel
theorem dX4_readGesture_70 : decode cX4_readGesture 70 = .ok (.invokevirtual 62, 3) := by decide +kernel
theorem dX4_readGesture_73 : decode cX4_readGesture 73 = .ok (.iastore, 1) := by decide +kernel
theorem dX4_readGesture_74 : decode cX4_readGesture 74 = .ok (.aload_n 0, 1) := by decide +kernel
theorem dX4_readGesture_75 : decode cX4_readGesture 75 = .ok (.bipush 44, 2) := by decide +kernel
theorem dX4_readGesture_77 : decode cX4_readGesture 77 = .ok (.invokevirtual 59, 3) := by decide +kernel
theorem dX4_readGesture_80 : decode cX4_readGesture 80 = .ok (.aload_n 1, 1) := by decide +kernel
theorem dX4_readGesture_81 : decode cX4_readGesture 81 = .ok (.getfield 92, 3) := by decide +kernel
theorem dX4_readGesture_84 : decode cX4_readGesture 84 = .ok (.iload_n 2, 1) := by decide +kernel
theorem dX4_readGesture_85 : decode cX4_readGesture 85 = .ok (.aload_n 0, 1) := by decide +kernel
theorem dX4_readGesture_86 : decode cX4_readGesture 86 = .ok (.iconst 1, 1) := by decide +kernel
theorem dX4_readGesture_87 : decode cX4_readGesture 87 = .ok (.bipush 9, 2) := by decide +kernel
theorem dX4_readGesture_89 : decode cX4_readGesture 89 = .ok (.invokevirtual 62, 3) := by decide +kernel
theorem dX4_readGesture_92 : decode cX4_readGesture 92 = .ok (.iastore, 1) := by decide +kernel
theorem dX4_readGesture_93 : decode cX4_readGesture 93 = .ok (.aload_n 0, 1) := by decide +kernel
theorem dX4_readGesture_94 : decode cX4_readGesture 94 = .ok (.bipush 59, 2) := by decide +kernel
theorem dX4_readGesture_96 : decode cX4_readGesture 96 = .ok (.invokevirtual 59, 3) := by decide +kernel
theorem dX4_readGesture_99 : decode cX4_readGesture 99 = .ok (.aload_n 1, 1) := by decide +kernel
theorem dX4_readGesture_100 : decode cX4_readGesture 100 = .ok (.getfield 95, 3) := by decide +kernel
theorem dX4_readGesture_103 : decode cX4_readGesture 103 = .ok (.iload_n 2, 1) := by decide +kernel
theorem dX4_readGesture_104 : decode cX4_readGesture 104 = .ok (.iconst 0, 1) := by decide +kernel
theorem dX4_readGesture_105 : decode cX4_readGesture 105 = .ok (.iastore, 1) := by decide +kernel
theorem dX4_readGesture_106 : decode cX4_readGesture 106 = .ok (.aload_n 1, 1) := by decide +kernel
theorem dX4_readGesture_107 : decode cX4_readGesture 107 = .ok (.dup, 1) := by decide +kernel
theorem dX4_readGesture_108 : decode cX4_readGesture 108 = .ok (.getfield 80, 3) := by decide +kernel
theorem dX4_readGesture_111 : decode cX4_readGesture 111 = .ok (.iconst 1, 1) := by decide +kernel
theorem dX4_readGesture_112 : decode cX4_readGesture 112 = .ok (.iadd, 1) := by decide +kernel
theorem dX4_readGesture_113 : decode cX4_readGesture 113 = .ok (.putfield 80, 3) := by decide +kernel
theorem dX4_readGesture_116 : decode cX4_readGesture 116 = .ok (.return_, 1) := by decide +kernel
theorem dX4_next_0 : decode cX4_next 0 = .ok (.aload_n 0, 1) := by decide +kernel
theorem dX4_next_1 : decode cX4_next 1 = .ok (.getfield 28, 3) := by decide +kernel
theorem dX4_next_4 : decode cX4_next 4 = .ok (.ifCond .lt 35, 3) := by decide +kernel
theorem dX4_next_7 : decode cX4_next 7 = .ok (.aload_n 0, 1) := by decide +kernel
theorem dX4_next_8 : decode cX4_next 8 = .ok (.getfield 28, 3) := by decide +kernel
theorem dX4_next_11 : decode cX4_next 11 = .ok (.aload_n 0, 1) := by decide +kernel
theorem dX4_next_12 : decode cX4_next 12 = .ok (.getfield 15, 3) := by decide +kernel
theorem dX4_next_15 : decode cX4_next 15 = .ok (.if_icmp .ge 24, 3) := by decide +kernel
theorem dX4_next_18 : decode cX4_next 18 = .ok (.aload_n 0, 1) := by decide +kernel
theorem dX4_next_19 : decode cX4_next 19 = .ok (.getfield 28, 3) := by decide +kernel
theorem dX4_next_22 : decode cX4_next 22 = .ok (.bipush 120, 2) := by decide +kernel
theorem dX4_next_24 : decode cX4_next 24 = .ok (.if_icmp .ge 15, 3) := by decide +kernel
theorem dX4_next_27 : decode cX4_next 27 = .ok (.aload_n 0, 1) := by decide +kernel
theorem dX4_next_28 : decode cX4_next 28 = .ok (.getfield 11, 3) := by decide +kernel
theorem dX4_next_31 : decode cX4_next 31 = .ok (.aload_n 0, 1) := by decide +kernel
theorem dX4_next_32 : decode cX4_next 32 = .ok (.getfield 28, 3) := by decide +kernel
theorem dX4_next_35 : decode cX4_next 35 = .ok (.iaload, 1) := by decide +kernel
theorem dX4_next_36 : decode cX4_next 36 = .ok (.goto 4, 3) := by decide +kernel
theorem dX4_next_39 : decode cX4_next 39 = .ok (.iconst (-1), 1) := by decide +kernel
theorem dX4_next_40 : decode cX4_next 40 = .ok (.ireturn, 1) := by decide +kernel
set_option maxRecDepth 20000 in
theorem ggX4_readSign_X4_next : GoodIn wsX4_readSign wsX4_next := goodIn_r _ [6, 1, 7, 8, 20, 21, 22, 23, 24, 25] (by decide +kernel) (by decide +kernel)
set_option maxRecDepth 20000 in
theorem gX4_readSign_X4_next : GoodIn wsX4_readSign (wsV RX4 39 RX4 yX4_next wsX4_next) := goodIn_app (goodIn_of _ (by decide +kernel)) ggX4_readSign_X4_next
set_option maxRecDepth 20000 in
theorem ggX4_readSign_X4_fail : GoodIn wsX4_readSign wsX4_fail := goodIn_r _ [12, 1, 13, 14, 15, 5, 16, 17, 18, 19, 20, 21, 22, 23, 24, 25] (by decide +kernel) (by decide +kernel)
set_option maxRecDepth 20000 in
theorem gX4_readSign_X4_fail : GoodIn wsX4_readSign (wsV RX4 55 RX4 yX4_fail wsX4_fail) := goodIn_app (goodIn_of _ (by decide +kernel)) ggX4_readSign_X4_fail
theorem dX4_readSign_0 : decode cX4_readSign 0 = .ok (.aload_n 0, 1) := by decide +kernel
theorem dX4_readSign_1 : decode cX4_readSign 1 = .ok (.invokevirtual 39, 3) := by decide +kernel
theorem dX4_readSign_4 : decode cX4_readSign 4 = .ok (.iload_n 1, 1) := by decide +kernel
theorem dX4_readSign_5 : decode cX4_readSign 5 = .ok (.if_icmp .eq 8, 3) := by decide +kernel
theorem dX4_readSign_8 : decode cX4_readSign 8 = .ok (.aload_n 0, 1) := by decide +kernel
theorem dX4_readSign_9 : decode cX4_readSign 9 = .ok (.iconst 1, 1) := by decide +kernel
theorem dX4_readSign_10 : decode cX4_readSign 10 = .ok (.invokevirtual 55, 3) := by decide +kernel
theorem dX4_readSign_13 : decode cX4_readSign 13 = .ok (.aload_n 0, 1) := by decide +kernel
theorem dX4_readSign_14 : decode cX4_readSign 14 = .ok (.dup, 1) := by decide +kernel
theorem dX4_readSign_15 : decode cX4_readSign 15 = .ok (.getfield 28, 3) := by decide +kernel
theorem dX4_readSign_18 : decode cX4_readSign 18 = .ok (.iconst 1, 1) := by decide +kernel
theorem dX4_readSign_19 : decode cX4_readSign 19 = .ok (.iadd, 1) := by decide +kernel
theorem dX4_readSign_20 : decode cX4_readSign 20 = .ok (.putfield 28, 3) := by decide +kernel
theorem dX4_readSign_23 : decode cX4_readSign 23 = .ok (.return_, 1) := by decide +kernel
set_option maxRecDepth 20000 in
theorem ggX4_readNumber_X4_next : GoodIn wsX4_readNumber wsX4_next := goodIn_r _ [6, 1, 7, 8, 19, 20, 21, 22, 23, 24] (by decide +kernel) (by decide +kernel)
set_option maxRecDepth 20000 in
theorem gX4_readNumber_X4_next : GoodIn wsX4_readNumber (wsV RX4 39 RX4 yX4_next wsX4_next) := goodIn_app (goodIn_of _ (by decide +kernel)) ggX4_readNumber_X4_next
set_option maxRecDepth 20000 in
theorem ggX4_readNumber_X7_isWithin : GoodIn wsX4_readNumber wsX7_isWithin := goodIn_r _ [11] (by decide +kernel) (by decide +kernel)
set_option maxRecDepth 20000 in
theorem gX4_readNumber_X7_isWithin_n98 : GoodIn wsX4_readNumber (wsX7_isWithin) := ggX4_readNumber_X7_isWithin
set_option maxRecDepth 20000 in
theorem ggX4_readNumber_X4_failAt : GoodIn wsX4_readNumber wsX4_failAt := goodIn_r _ [15, 16, 17, 18, 19, 20, 21, 22, 23, 24] (by decide +kernel) (by decide +kernel)
set_option maxRecDepth 20000 in
theorem gX4_readNumber_X4_failAt : GoodIn wsX4_readNumber (wsV RX4 102 RX4 yX4_failAt wsX4_failAt) := goodIn_app (goodIn_of _ (by decide +kernel)) ggX4_readNumber_X4_failAt
theorem dX4_readNumber_0 : decode cX4_readNumber 0 = .ok (.iconst 0, 1) := by decide +kernel
theorem dX4_readNumber_1 : decode cX4_readNumber 1 = .ok (.istore_n 3, 1) := by decide +kernel
theorem dX4_readNumber_2 : decode cX4_readNumber 2 = .ok (.iconst 0, 1) := by decide +kernel
theorem dX4_readNumber_3 : decode cX4_readNumber 3 = .ok (.istore 4, 2) := by decide +kernel
theorem dX4_readNumber_5 : decode cX4_readNumber 5 = .ok (.aload_n 0, 1) := by decide +kernel
theorem dX4_readNumber_6 : decode cX4_readNumber 6 = .ok (.getfield 28, 3) := by decide +kernel
theorem dX4_readNumber_9 : decode cX4_readNumber 9 = .ok (.istore 5, 2) := by decide +kernel
theorem dX4_readNumber_11 : decode cX4_readNumber 11 = .ok (.iconst 0, 1) := by decide +kernel
theorem dX4_readNumber_12 : decode cX4_readNumber 12 = .ok (.istore 6, 2) := by decide +kernel
theorem dX4_readNumber_14 : decode cX4_readNumber 14 = .ok (.iload 6, 2) := by decide +kernel
theorem dX4_readNumber_16 : decode cX4_readNumber 16 = .ok (.bipush 120, 2) := by decide +kernel
theorem dX4_readNumber_18 : decode cX4_readNumber 18 = .ok (.if_icmp .ge 61, 3) := by decide +kernel
theorem dX4_readNumber_21 : decode cX4_readNumber 21 = .ok (.aload_n 0, 1) := by decide +kernel
theorem dX4_readNumber_22 : decode cX4_readNumber 22 = .ok (.invokevirtual 39, 3) := by decide +kernel
theorem dX4_readNumber_25 : decode cX4_readNumber 25 = .ok (.bipush 48, 2) := by decide +kernel
theorem dX4_readNumber_27 : decode cX4_readNumber 27 = .ok (.bipush 57, 2) := by decide +kernel
theorem dX4_readNumber_29 : decode cX4_readNumber 29 = .ok (.invokestatic 98, 3) := by decide +kernel
theorem dX4_readNumber_32 : decode cX4_readNumber 32 = .ok (.ifCond .eq 47, 3) := by decide +kernel
theorem dX4_readNumber_35 : decode cX4_readNumber 35 = .ok (.iload_n 3, 1) := by decide +kernel
theorem dX4_readNumber_36 : decode cX4_readNumber 36 = .ok (.iconst 2, 1) := by decide +kernel
theorem dX4_readNumber_37 : decode cX4_readNumber 37 = .ok (.if_icmp .ge 19, 3) := by decide +kernel
theorem dX4_readNumber_40 : decode cX4_readNumber 40 = .ok (.iload 4, 2) := by decide +kernel
theorem dX4_readNumber_42 : decode cX4_readNumber 42 = .ok (.bipush 10, 2) := by decide +kernel
theorem dX4_readNumber_44 : decode cX4_readNumber 44 = .ok (.imul, 1) := by decide +kernel
theorem dX4_readNumber_45 : decode cX4_readNumber 45 = .ok (.aload_n 0, 1) := by decide +kernel
theorem dX4_readNumber_46 : decode cX4_readNumber 46 = .ok (.invokevirtual 39, 3) := by decide +kernel
theorem dX4_readNumber_49 : decode cX4_readNumber 49 = .ok (.iadd, 1) := by decide +kernel
theorem dX4_readNumber_50 : decode cX4_readNumber 50 = .ok (.bipush 48, 2) := by decide +kernel
theorem dX4_readNumber_52 : decode cX4_readNumber 52 = .ok (.isub, 1) := by decide +kernel
theorem dX4_readNumber_53 : decode cX4_readNumber 53 = .ok (.goto 5, 3) := by decide +kernel
theorem dX4_readNumber_56 : decode cX4_readNumber 56 = .ok (.iload 4, 2) := by decide +kernel
theorem dX4_readNumber_58 : decode cX4_readNumber 58 = .ok (.istore 4, 2) := by decide +kernel
theorem dX4_readNumber_60 : decode cX4_readNumber 60 = .ok (.iinc 3 1, 3) := by decide +kernel
theorem dX4_readNumber_63 : decode cX4_readNumber 63 = .ok (.aload_n 0, 1) := by decide +kernel
theorem dX4_readNumber_64 : decode cX4_readNumber 64 = .ok (.dup, 1) := by decide +kernel
theorem dX4_readNumber_65 : decode cX4_readNumber 65 = .ok (.getfield 28, 3) := by decide +kernel
theorem dX4_readNumber_68 : decode cX4_readNumber 68 = .ok (.iconst 1, 1) := by decide +kernel
theorem dX4_readNumber_69 : decode cX4_readNumber 69 = .ok (.iadd, 1) := by decide +kernel
theorem dX4_readNumber_70 : decode cX4_readNumber 70 = .ok (.putfield 28, 3) := by decide +kernel
theorem dX4_readNumber_73 : decode cX4_readNumber 73 = .ok (.iinc 6 1, 3) := by decide +kernel
theorem dX4_readNumber_76 : decode cX4_readNumber 76 = .ok (.goto (-62), 3) := by decide +kernel
theorem dX4_readNumber_79 : decode cX4_readNumber 79 = .ok (.iload_n 3, 1) := by decide +kernel
theorem dX4_readNumber_80 : decode cX4_readNumber 80 = .ok (.ifCond .eq 8, 3) := by decide +kernel
theorem dX4_readNumber_83 : decode cX4_readNumber 83 = .ok (.iload_n 3, 1) := by decide +kernel
theorem dX4_readNumber_84 : decode cX4_readNumber 84 = .ok (.iconst 2, 1) := by decide +kernel
theorem dX4_readNumber_85 : decode cX4_readNumber 85 = .ok (.if_icmp .le 13, 3) := by decide +kernel
theorem dX4_readNumber_88 : decode cX4_readNumber 88 = .ok (.aload_n 0, 1) := by decide +kernel
theorem dX4_readNumber_89 : decode cX4_readNumber 89 = .ok (.iload 5, 2) := by decide +kernel
theorem dX4_readNumber_91 : decode cX4_readNumber 91 = .ok (.iconst 1, 1) := by decide +kernel
theorem dX4_readNumber_92 : decode cX4_readNumber 92 = .ok (.invokevirtual 102, 3) := by decide +kernel
theorem dX4_readNumber_95 : decode cX4_readNumber 95 = .ok (.goto 20, 3) := by decide +kernel
theorem dX4_readNumber_98 : decode cX4_readNumber 98 = .ok (.iload 4, 2) := by decide +kernel
theorem dX4_readNumber_100 : decode cX4_readNumber 100 = .ok (.iload_n 1, 1) := by decide +kernel
theorem dX4_readNumber_101 : decode cX4_readNumber 101 = .ok (.iload_n 2, 1) := by decide +kernel
theorem dX4_readNumber_102 : decode cX4_readNumber 102 = .ok (.invokestatic 98, 3) := by decide +kernel
theorem dX4_readNumber_105 : decode cX4_readNumber 105 = .ok (.ifCond .ne 10, 3) := by decide +kernel
theorem dX4_readNumber_108 : decode cX4_readNumber 108 = .ok (.aload_n 0, 1) := by decide +kernel
theorem dX4_readNumber_109 : decode cX4_readNumber 109 = .ok (.iload 5, 2) := by decide +kernel
theorem dX4_readNumber_111 : decode cX4_readNumber 111 = .ok (.iconst 2, 1) := by decide +kernel
theorem dX4_readNumber_112 : decode cX4_readNumber 112 = .ok (.invokevirtual 102, 3) := by decide +kernel
theorem dX4_readNumber_115 : decode cX4_readNumber 115 = .ok (.iload 4, 2) := by decide +kernel
theorem dX4_readNumber_117 : decode cX4_readNumber 117 = .ok (.ireturn, 1) := by decide +kernel
set_option maxRecDepth 20000 in
theorem ggX4_fail_X4_failAt : GoodIn wsX4_fail wsX4_failAt := goodIn_r _ [6, 7, 8, 9, 10, 11, 12, 13, 14, 15] (by decide +kernel) (by decide +kernel)
set_option maxRecDepth 20000 in
theorem gX4_fail_X4_failAt : GoodIn wsX4_fail (wsV RX4 102 RX4 yX4_failAt wsX4_failAt) := goodIn_app (goodIn_of _ (by decide +kernel)) ggX4_fail_X4_failAt
theorem dX4_fail_0 : decode cX4_fail 0 = .ok (.aload_n 0, 1) := by decide +kernel
theorem dX4_fail_1 : decode cX4_fail 1 = .ok (.aload_n 0, 1) := by decide +kernel
theorem dX4_fail_2 : decode cX4_fail 2 = .ok (.getfield 28, 3) := by decide +kernel
theorem dX4_fail_5 : decode cX4_fail 5 = .ok (.iload_n 1, 1) := by decide +kernel
theorem dX4_fail_6 : decode cX4_fail 6 = .ok (.invokevirtual 102, 3) := by decide +kernel
theorem dX4_fail_9 : decode cX4_fail 9 = .ok (.return_, 1) := by decide +kernel
theorem dX4_failAt_0 : decode cX4_failAt 0 = .ok (.aload_n 0, 1) := by decide +kernel
theorem dX4_failAt_1 : decode cX4_failAt 1 = .ok (.getfield 25, 3) := by decide +kernel
theorem dX4_failAt_4 : decode cX4_failAt 4 = .ok (.ifCond .ne 18, 3) := by decide +kernel
theorem dX4_failAt_7 : decode cX4_failAt 7 = .ok (.aload_n 0, 1) := by decide +kernel
theorem dX4_failAt_8 : decode cX4_failAt 8 = .ok (.iload_n 2, 1) := by decide +kernel
theorem dX4_failAt_9 : decode cX4_failAt 9 = .ok (.putfield 25, 3) := by decide +kernel
theorem dX4_failAt_12 : decode cX4_failAt 12 = .ok (.aload_n 0, 1) := by decide +kernel
theorem dX4_failAt_13 : decode cX4_failAt 13 = .ok (.iload_n 2, 1) := by decide +kernel
theorem dX4_failAt_14 : decode cX4_failAt 14 = .ok (.putfield 19, 3) := by decide +kernel
theorem dX4_failAt_17 : decode cX4_failAt 17 = .ok (.aload_n 0, 1) := by decide +kernel
theorem dX4_failAt_18 : decode cX4_failAt 18 = .ok (.iload_n 1, 1) := by decide +kernel
theorem dX4_failAt_19 : decode cX4_failAt 19 = .ok (.putfield 22, 3) := by decide +kernel
theorem dX4_failAt_22 : decode cX4_failAt 22 = .ok (.return_, 1) := by decide +kernel
theorem dX5_init_0 : decode cX5_init 0 = .ok (.aload_n 0, 1) := by decide +kernel
theorem dX5_init_1 : decode cX5_init 1 = .ok (.invokespecial 3, 3) := by decide +kernel
theorem dX5_init_4 : decode cX5_init 4 = .ok (.aload_n 0, 1) := by decide +kernel
theorem dX5_init_5 : decode cX5_init 5 = .ok (.bipush 8, 2) := by decide +kernel
theorem dX5_init_7 : decode cX5_init 7 = .ok (.bipush 40, 2) := by decide +kernel
theorem dX5_init_9 : decode cX5_init 9 = .ok (.multianewarray 11 2, 4) := by decide +kernel
theorem dX5_init_13 : decode cX5_init 13 = .ok (.putfield 13, 3) := by decide +kernel
theorem dX5_init_16 : decode cX5_init 16 = .ok (.aload_n 0, 1) := by decide +kernel
theorem dX5_init_17 : decode cX5_init 17 = .ok (.bipush 8, 2) := by decide +kernel
theorem dX5_init_19 : decode cX5_init 19 = .ok (.newarray .int, 2) := by decide +kernel
theorem dX5_init_21 : decode cX5_init 21 = .ok (.dup, 1) := by decide +kernel
theorem dX5_init_22 : decode cX5_init 22 = .ok (.iconst 0, 1) := by decide +kernel
theorem dX5_init_23 : decode cX5_init 23 = .ok (.iconst (-1), 1) := by decide +kernel
theorem dX5_init_24 : decode cX5_init 24 = .ok (.iastore, 1) := by decide +kernel
theorem dX5_init_25 : decode cX5_init 25 = .ok (.dup, 1) := by decide +kernel
theorem dX5_init_26 : decode cX5_init 26 = .ok (.iconst 1, 1) := by decide +kernel
theorem dX5_init_27 : decode cX5_init 27 = .ok (.iconst (-1), 1) := by decide +kernel
theorem dX5_init_28 : decode cX5_init 28 = .ok (.iastore, 1) := by decide +kernel
theorem dX5_init_29 : decode cX5_init 29 = .ok (.dup, 1) := by decide +kernel
theorem dX5_init_30 : decode cX5_init 30 = .ok (.iconst 2, 1) := by decide +kernel
theorem dX5_init_31 : decode cX5_init 31 = .ok (.iconst (-1), 1) := by decide +kernel
theorem dX5_init_32 : decode cX5_init 32 = .ok (.iastore, 1) := by decide +kernel
theorem dX5_init_33 : decode cX5_init 33 = .ok (.dup, 1) := by decide +kernel
theorem dX5_init_34 : decode cX5_init 34 = .ok (.iconst 3, 1) := by decide +kernel
theorem dX5_init_35 : decode cX5_init 35 = .ok (.iconst (-1), 1) := by decide +kernel
theorem dX5_init_36 : decode cX5_init 36 = .ok (.iastore, 1) := by decide +kernel
theorem dX5_init_37 : decode cX5_init 37 = .ok (.dup, 1) := by decide +kernel
theorem dX5_init_38 : decode cX5_init 38 = .ok (.iconst 4, 1) := by decide +kernel
theorem dX5_init_39 : decode cX5_init 39 = .ok (.iconst (-1), 1) := by decide +kernel
theorem dX5_init_40 : decode cX5_init 40 = .ok (.iastore, 1) := by decide +kernel
theorem dX5_init_41 : decode cX5_init 41 = .ok (.dup, 1) := by decide +kernel
theorem dX5_init_42 : decode cX5_init 42 = .ok (.iconst 5, 1) := by decide +kernel
theorem dX5_init_43 : decode cX5_init 43 = .ok (.iconst (-1), 1) := by decide +kernel
theorem dX5_init_44 : decode cX5_init 44 = .ok (.iastore, 1) := by decide +kernel
theorem dX5_init_45 : decode cX5_init 45 = .ok (.dup, 1) := by decide +kernel
theorem dX5_init_46 : decode cX5_init 46 = .ok (.bipush 6, 2) := by decide +kernel
theorem dX5_init_48 : decode cX5_init 48 = .ok (.iconst (-1), 1) := by decide +kernel
theorem dX5_init_49 : decode cX5_init 49 = .ok (.iastore, 1) := by decide +kernel
theorem dX5_init_50 : decode cX5_init 50 = .ok (.dup, 1) := by decide +kernel
theorem dX5_init_51 : decode cX5_init 51 = .ok (.bipush 7, 2) := by decide +kernel
theorem dX5_init_53 : decode cX5_init 53 = .ok (.iconst (-1), 1) := by decide +kernel
theorem dX5_init_54 : decode cX5_init 54 = .ok (.iastore, 1) := by decide +kernel
theorem dX5_init_55 : decode cX5_init 55 = .ok (.putfield 16, 3) := by decide +kernel
theorem dX5_init_58 : decode cX5_init 58 = .ok (.aload_n 0, 1) := by decide +kernel
theorem dX5_init_59 : decode cX5_init 59 = .ok (.bipush 8, 2) := by decide +kernel
theorem dX5_init_61 : decode cX5_init 61 = .ok (.newarray .int, 2) := by decide +kernel
theorem dX5_init_63 : decode cX5_init 63 = .ok (.putfield 20, 3) := by decide +kernel
theorem dX5_init_66 : decode cX5_init 66 = .ok (.return_, 1) := by decide +kernel
theorem dX5_isRow_0 : decode cX5_isRow 0 = .ok (.iload_n 0, 1) := by decide +kernel
theorem dX5_isRow_1 : decode cX5_isRow 1 = .ok (.ifCond .lt 13, 3) := by decide +kernel
theorem dX5_isRow_4 : decode cX5_isRow 4 = .ok (.iload_n 0, 1) := by decide +kernel
theorem dX5_isRow_5 : decode cX5_isRow 5 = .ok (.bipush 8, 2) := by decide +kernel
theorem dX5_isRow_7 : decode cX5_isRow 7 = .ok (.if_icmp .ge 7, 3) := by decide +kernel
theorem dX5_isRow_10 : decode cX5_isRow 10 = .ok (.iconst 1, 1) := by decide +kernel
theorem dX5_isRow_11 : decode cX5_isRow 11 = .ok (.goto 4, 3) := by decide +kernel
theorem dX5_isRow_14 : decode cX5_isRow 14 = .ok (.iconst 0, 1) := by decide +kernel
theorem dX5_isRow_15 : decode cX5_isRow 15 = .ok (.ireturn, 1) := by decide +kernel
theorem dX5_isMissing_0 : decode cX5_isMissing 0 = .ok (.aload_n 0, 1) := by decide +kernel
theorem dX5_isMissing_1 : decode cX5_isMissing 1 = .ok (.getfield 16, 3) := by decide +kernel
theorem dX5_isMissing_4 : decode cX5_isMissing 4 = .ok (.iload_n 1, 1) := by decide +kernel
theorem dX5_isMissing_5 : decode cX5_isMissing 5 = .ok (.iaload, 1) := by decide +kernel
theorem dX5_isMissing_6 : decode cX5_isMissing 6 = .ok (.iconst (-1), 1) := by decide +kernel
theorem dX5_isMissing_7 : decode cX5_isMissing 7 = .ok (.if_icmp .ne 7, 3) := by decide +kernel
theorem dX5_isMissing_10 : decode cX5_isMissing 10 = .ok (.iconst 1, 1) := by decide +kernel
theorem dX5_isMissing_11 : decode cX5_isMissing 11 = .ok (.goto 4, 3) := by decide +kernel
theorem dX5_isMissing_14 : decode cX5_isMissing 14 = .ok (.iconst 0, 1) := by decide +kernel
theorem dX5_isMissing_15 : decode cX5_isMissing 15 = .ok (.ireturn, 1) := by decide +kernel
theorem dX5_areAlike_0 : decode cX5_areAlike 0 = .ok (.aload_n 0, 1) := by decide +kernel
theorem dX5_areAlike_1 : decode cX5_areAlike 1 = .ok (.getfield 20, 3) := by decide +kernel
theorem dX5_areAlike_4 : decode cX5_areAlike 4 = .ok (.iload_n 1, 1) := by decide +kernel
theorem dX5_areAlike_5 : decode cX5_areAlike 5 = .ok (.iaload, 1) := by decide +kernel
theorem dX5_areAlike_6 : decode cX5_areAlike 6 = .ok (.aload_n 0, 1) := by decide +kernel
theorem dX5_areAlike_7 : decode cX5_areAlike 7 = .ok (.getfield 20, 3) := by decide +kernel
theorem dX5_areAlike_10 : decode cX5_areAlike 10 = .ok (.iload_n 2, 1) := by decide +kernel
theorem dX5_areAlike_11 : decode cX5_areAlike 11 = .ok (.iaload, 1) := by decide +kernel
theorem dX5_areAlike_12 : decode cX5_areAlike 12 = .ok (.if_icmp .ne 7, 3) := by decide +kernel
theorem dX5_areAlike_15 : decode cX5_areAlike 15 = .ok (.iconst 1, 1) := by decide +kernel
theorem dX5_areAlike_16 : decode cX5_areAlike 16 = .ok (.goto 4, 3) := by decide +kernel
theorem dX5_areAlike_19 : decode cX5_areAlike 19 = .ok (.iconst 0, 1) := by decide +kernel
theorem dX5_areAlike_20 : decode cX5_areAlike 20 = .ok (.ireturn, 1) := by decide +kernel
theorem dX5_reaches_0 : decode cX5_reaches 0 = .ok (.iload_n 2, 1) := by decide +kernel
theorem dX5_reaches_1 : decode cX5_reaches 1 = .ok (.ifCond .lt 33, 3) := by decide +kernel
theorem dX5_reaches_4 : decode cX5_reaches 4 = .ok (.iload_n 3, 1) := by decide +kernel
theorem dX5_reaches_5 : decode cX5_reaches 5 = .ok (.ifCond .lt 29, 3) := by decide +kernel
theorem dX5_reaches_8 : decode cX5_reaches 8 = .ok (.iload_n 3, 1) := by decide +kernel
theorem dX5_reaches_9 : decode cX5_reaches 9 = .ok (.aload_n 0, 1) := by decide +kernel
theorem dX5_reaches_10 : decode cX5_reaches 10 = .ok (.getfield 16, 3) := by decide +kernel
theorem dX5_reaches_13 : decode cX5_reaches 13 = .ok (.iload_n 1, 1) := by decide +kernel
theorem dX5_reaches_14 : decode cX5_reaches 14 = .ok (.iaload, 1) := by decide +kernel
theorem dX5_reaches_15 : decode cX5_reaches 15 = .ok (.if_icmp .gt 19, 3) := by decide +kernel
theorem dX5_reaches_18 : decode cX5_reaches 18 = .ok (.iload_n 2, 1) := by decide +kernel
theorem dX5_reaches_19 : decode cX5_reaches 19 = .ok (.aload_n 0, 1) := by decide +kernel
theorem dX5_reaches_20 : decode cX5_reaches 20 = .ok (.getfield 16, 3) := by decide +kernel
theorem dX5_reaches_23 : decode cX5_reaches 23 = .ok (.iload_n 1, 1) := by decide +kernel
theorem dX5_reaches_24 : decode cX5_reaches 24 = .ok (.iaload, 1) := by decide +kernel
theorem dX5_reaches_25 : decode cX5_reaches 25 = .ok (.iload_n 3, 1) := by decide +kernel
theorem dX5_reaches_26 : decode cX5_reaches 26 = .ok (.isub, 1) := by decide +kernel
theorem dX5_reaches_27 : decode cX5_reaches 27 = .ok (.if_icmp .gt 7, 3) := by decide +kernel
theorem dX5_reaches_30 : decode cX5_reaches 30 = .ok (.iconst 1, 1) := by decide +kernel
theorem dX5_reaches_31 : decode cX5_reaches 31 = .ok (.goto 4, 3) := by decide +kernel
theorem dX5_reaches_34 : decode cX5_reaches 34 = .ok (.iconst 0, 1) := by decide +kernel
theorem dX5_reaches_35 : decode cX5_reaches 35 = .ok (.ireturn, 1) := by decide +kernel
set_option maxRecDepth 20000 in
theorem ggX5_findingOf_X5_isMissing : GoodIn wsX5_findingOf wsX5_isMissing := goodIn_r _ [5, 6, 11, 12, 13] (by decide +kernel) (by decide +kernel)
set_option maxRecDepth 20000 in
theorem gX5_findingOf_X5_isMissing : GoodIn wsX5_findingOf (wsV RX5 23 RX5 yX5_isMissing wsX5_isMissing) := goodIn_app (goodIn_of _ (by decide +kernel)) ggX5_findingOf_X5_isMissing
set_option maxRecDepth 20000 in
theorem ggX5_findingOf_X5_reaches : GoodIn wsX5_findingOf wsX5_reaches := goodIn_r _ [10, 6, 11, 12, 13] (by decide +kernel) (by decide +kernel)
set_option maxRecDepth 20000 in
theorem gX5_findingOf_X5_reaches : GoodIn wsX5_findingOf (wsV RX5 27 RX5 yX5_reaches wsX5_reaches) := goodIn_app (goodIn_of _ (by decide +kernel)) ggX5_findingOf_X5_reaches
theorem dX5_findingOf_0 : decode cX5_findingOf 0 = .ok (.aload_n 0, 1) := by decide +kernel
theorem dX5_findingOf_1 : decode cX5_findingOf 1 = .ok (.iload_n 1, 1) := by decide +kernel
theorem dX5_findingOf_2 : decode cX5_findingOf 2 = .ok (.invokevirtual 23, 3) := by decide +kernel
theorem dX5_findingOf_5 : decode cX5_findingOf 5 = .ok (.ifCond .eq 5, 3) := by decide +kernel
theorem dX5_findingOf_8 : decode cX5_findingOf 8 = .ok (.iconst 1, 1) := by decide +kernel
theorem dX5_findingOf_9 : decode cX5_findingOf 9 = .ok (.ireturn, 1) := by decide +kernel
theorem dX5_findingOf_10 : decode cX5_findingOf 10 = .ok (.aload_n 0, 1) := by decide +kernel
theorem dX5_findingOf_11 : decode cX5_findingOf 11 = .ok (.iload_n 1, 1) := by decide +kernel
theorem dX5_findingOf_12 : decode cX5_findingOf 12 = .ok (.iload_n 2, 1) := by decide +kernel
theorem dX5_findingOf_13 : decode cX5_findingOf 13 = .ok (.iload_n 3, 1) := by decide +kernel
theorem dX5_findingOf_14 : decode cX5_findingOf 14 = .ok (.invokevirtual 27, 3) := by decide +kernel
theorem dX5_findingOf_17 : decode cX5_findingOf 17 = .ok (.ifCond .eq 7, 3) := by decide +kernel
theorem dX5_findingOf_20 : decode cX5_findingOf 20 = .ok (.iconst 0, 1) := by decide +kernel
theorem dX5_findingOf_21 : decode cX5_findingOf 21 = .ok (.goto 4, 3) := by decide +kernel
theorem dX5_findingOf_24 : decode cX5_findingOf 24 = .ok (.iconst 2, 1) := by decide +kernel
theorem dX5_findingOf_25 : decode cX5_findingOf 25 = .ok (.ireturn, 1) := by decide +kernel
theorem dX5_lay_0 : decode cX5_lay 0 = .ok (.aload_n 0, 1) := by decide +kernel
theorem dX5_lay_1 : decode cX5_lay 1 = .ok (.getfield 16, 3) := by decide +kernel
theorem dX5_lay_4 : decode cX5_lay 4 = .ok (.iload_n 1, 1) := by decide +kernel
theorem dX5_lay_5 : decode cX5_lay 5 = .ok (.iload_n 3, 1) := by decide +kernel
theorem dX5_lay_6 : decode cX5_lay 6 = .ok (.iastore, 1) := by decide +kernel
theorem dX5_lay_7 : decode cX5_lay 7 = .ok (.aload_n 0, 1) := by decide +kernel
theorem dX5_lay_8 : decode cX5_lay 8 = .ok (.getfield 20, 3) := by decide +kernel
theorem dX5_lay_11 : decode cX5_lay 11 = .ok (.iload_n 1, 1) := by decide +kernel
theorem dX5_lay_12 : decode cX5_lay 12 = .ok (.iload_n 2, 1) := by decide +kernel
theorem dX5_lay_13 : decode cX5_lay 13 = .ok (.iastore, 1) := by decide +kernel
theorem dX5_lay_14 : decode cX5_lay 14 = .ok (.iconst 0, 1) := by decide +kernel
theorem dX5_lay_15 : decode cX5_lay 15 = .ok (.istore 4, 2) := by decide +kernel
theorem dX5_lay_17 : decode cX5_lay 17 = .ok (.iload 4, 2) := by decide +kernel
theorem dX5_lay_19 : decode cX5_lay 19 = .ok (.bipush 40, 2) := by decide +kernel
theorem dX5_lay_21 : decode cX5_lay 21 = .ok (.if_icmp .ge 19, 3) := by decide +kernel
theorem dX5_lay_24 : decode cX5_lay 24 = .ok (.aload_n 0, 1) := by decide +kernel
theorem dX5_lay_25 : decode cX5_lay 25 = .ok (.getfield 13, 3) := by decide +kernel
theorem dX5_lay_28 : decode cX5_lay 28 = .ok (.iload_n 1, 1) := by decide +kernel
theorem dX5_lay_29 : decode cX5_lay 29 = .ok (.aaload, 1) := by decide +kernel
theorem dX5_lay_30 : decode cX5_lay 30 = .ok (.iload 4, 2) := by decide +kernel
theorem dX5_lay_32 : decode cX5_lay 32 = .ok (.iconst 0, 1) := by decide +kernel
theorem dX5_lay_33 : decode cX5_lay 33 = .ok (.iastore, 1) := by decide +kernel
theorem dX5_lay_34 : decode cX5_lay 34 = .ok (.iinc 4 1, 3) := by decide +kernel
theorem dX5_lay_37 : decode cX5_lay 37 = .ok (.goto (-20), 3) := by decide +kernel
theorem dX5_lay_40 : decode cX5_lay 40 = .ok (.return_, 1) := by decide +kernel
set_option maxRecDepth 20000 in
theorem ggX5_put_X5_lowestBits : GoodIn wsX5_put wsX5_lowestBits := goodIn_r _ [6] (by decide +kernel) (by decide +kernel)
set_option maxRecDepth 20000 in
theorem gX5_put_X5_lowestBits : GoodIn wsX5_put (va_wsS RX5 31 yX5_lowestBits wsX5_lowestBits) := goodIn_app (goodIn_of _ (by decide +kernel)) ggX5_put_X5_lowestBits
theorem dX5_put_0 : decode cX5_put 0 = .ok (.aload_n 0, 1) := by decide +kernel
theorem dX5_put_1 : decode cX5_put 1 = .ok (.getfield 13, 3) := by decide +kernel
theorem dX5_put_4 : decode cX5_put 4 = .ok (.iload_n 1, 1) := by decide +kernel
theorem dX5_put_5 : decode cX5_put 5 = .ok (.aaload, 1) := by decide +kernel
theorem dX5_put_6 : decode cX5_put 6 = .ok (.iload_n 2, 1) := by decide +kernel
theorem dX5_put_7 : decode cX5_put 7 = .ok (.iload_n 3, 1) := by decide +kernel
theorem dX5_put_8 : decode cX5_put 8 = .ok (.aload_n 0, 1) := by decide +kernel
theorem dX5_put_9 : decode cX5_put 9 = .ok (.getfield 20, 3) := by decide +kernel
theorem dX5_put_12 : decode cX5_put 12 = .ok (.iload_n 1, 1) := by decide +kernel
theorem dX5_put_13 : decode cX5_put 13 = .ok (.iaload, 1) := by decide +kernel
theorem dX5_put_14 : decode cX5_put 14 = .ok (.invokestatic 31, 3) := by decide +kernel
theorem dX5_put_17 : decode cX5_put 17 = .ok (.iastore, 1) := by decide +kernel
theorem dX5_put_18 : decode cX5_put 18 = .ok (.aload_n 0, 1) := by decide +kernel
theorem dX5_put_19 : decode cX5_put 19 = .ok (.getfield 13, 3) := by decide +kernel
theorem dX5_put_22 : decode cX5_put 22 = .ok (.iload_n 1, 1) := by decide +kernel
theorem dX5_put_23 : decode cX5_put 23 = .ok (.aaload, 1) := by decide +kernel
theorem dX5_put_24 : decode cX5_put 24 = .ok (.iload_n 2, 1) := by decide +kernel
theorem dX5_put_25 : decode cX5_put 25 = .ok (.iaload, 1) := by decide +kernel
theorem dX5_put_26 : decode cX5_put 26 = .ok (.ireturn, 1) := by decide +kernel
theorem dX5_at_0 : decode cX5_at 0 = .ok (.aload_n 0, 1) := by decide +kernel
theorem dX5_at_1 : decode cX5_at 1 = .ok (.getfield 13, 3) := by decide +kernel
theorem dX5_at_4 : decode cX5_at 4 = .ok (.iload_n 1, 1) := by decide +kernel
theorem dX5_at_5 : decode cX5_at 5 = .ok (.aaload, 1) := by decide +kernel
theorem dX5_at_6 : decode cX5_at 6 = .ok (.iload_n 2, 1) := by decide +kernel
theorem dX5_at_7 : decode cX5_at 7 = .ok (.iaload, 1) := by decide +kernel
theorem dX5_at_8 : decode cX5_at 8 = .ok (.ireturn, 1) := by decide +kernel
theorem dX5_carry_0 : decode cX5_carry 0 = .ok (.aload_n 0, 1) := by decide +kernel
theorem dX5_carry_1 : decode cX5_carry 1 = .ok (.getfield 13, 3) := by decide +kernel
theorem dX5_carry_4 : decode cX5_carry 4 = .ok (.iload_n 1, 1) := by decide +kernel
theorem dX5_carry_5 : decode cX5_carry 5 = .ok (.aaload, 1) := by decide +kernel
theorem dX5_carry_6 : decode cX5_carry 6 = .ok (.iload_n 2, 1) := by decide +kernel
theorem dX5_carry_7 : decode cX5_carry 7 = .ok (.aload_n 0, 1) := by decide +kernel
theorem dX5_carry_8 : decode cX5_carry 8 = .ok (.getfield 13, 3) := by decide +kernel
theorem dX5_carry_11 : decode cX5_carry 11 = .ok (.iload_n 3, 1) := by decide +kernel
theorem dX5_carry_12 : decode cX5_carry 12 = .ok (.aaload, 1) := by decide +kernel
theorem dX5_carry_13 : decode cX5_carry 13 = .ok (.iload 4, 2) := by decide +kernel
theorem dX5_carry_15 : decode cX5_carry 15 = .ok (.iload 5, 2) := by decide +kernel
theorem dX5_carry_17 : decode cX5_carry 17 = .ok (.invokestatic 35, 3) := by decide +kernel
theorem dX5_carry_20 : decode cX5_carry 20 = .ok (.return_, 1) := by decide +kernel
theorem dX5_takeAway_0 : decode cX5_takeAway 0 = .ok (.aload_n 0, 1) := by decide +kernel
theorem dX5_takeAway_1 : decode cX5_takeAway 1 = .ok (.getfield 16, 3) := by decide +kernel
theorem dX5_takeAway_4 : decode cX5_takeAway 4 = .ok (.iload_n 1, 1) := by decide +kernel
theorem dX5_takeAway_5 : decode cX5_takeAway 5 = .ok (.iaload, 1) := by decide +kernel
theorem dX5_takeAway_6 : decode cX5_takeAway 6 = .ok (.istore_n 2, 1) := by decide +kernel
theorem dX5_takeAway_7 : decode cX5_takeAway 7 = .ok (.aload_n 0, 1) := by decide +kernel
theorem dX5_takeAway_8 : decode cX5_takeAway 8 = .ok (.getfield 16, 3) := by decide +kernel
theorem dX5_takeAway_11 : decode cX5_takeAway 11 = .ok (.iload_n 1, 1) := by decide +kernel
theorem dX5_takeAway_12 : decode cX5_takeAway 12 = .ok (.iconst (-1), 1) := by decide +kernel
theorem dX5_takeAway_13 : decode cX5_takeAway 13 = .ok (.iastore, 1) := by decide +kernel
theorem dX5_takeAway_14 : decode cX5_takeAway 14 = .ok (.iload_n 2, 1) := by decide +kernel
theorem dX5_takeAway_15 : decode cX5_takeAway 15 = .ok (.ireturn, 1) := by decide +kernel
set_option maxRecDepth 20000 in
theorem ggX5_howMany_X5_isMissing : GoodIn wsX5_howMany wsX5_isMissing := goodIn_r _ [5, 6, 7, 8, 9] (by decide +kernel) (by decide +kernel)
set_option maxRecDepth 20000 in
theorem gX5_howMany_X5_isMissing : GoodIn wsX5_howMany (wsV RX5 23 RX5 yX5_isMissing wsX5_isMissing) := goodIn_app (goodIn_of _ (by decide +kernel)) ggX5_howMany_X5_isMissing
theorem dX5_howMany_0 : decode cX5_howMany 0 = .ok (.iconst 0, 1) := by decide +kernel
theorem dX5_howMany_1 : decode cX5_howMany 1 = .ok (.istore_n 1, 1) := by decide +kernel
theorem dX5_howMany_2 : decode cX5_howMany 2 = .ok (.iconst 0, 1) := by decide +kernel
theorem dX5_howMany_3 : decode cX5_howMany 3 = .ok (.istore_n 2, 1) := by decide +kernel
theorem dX5_howMany_4 : decode cX5_howMany 4 = .ok (.iload_n 2, 1) := by decide +kernel
theorem dX5_howMany_5 : decode cX5_howMany 5 = .ok (.bipush 8, 2) := by decide +kernel
theorem dX5_howMany_7 : decode cX5_howMany 7 = .ok (.if_icmp .ge 25, 3) := by decide +kernel
theorem dX5_howMany_10 : decode cX5_howMany 10 = .ok (.iload_n 1, 1) := by decide +kernel
theorem dX5_howMany_11 : decode cX5_howMany 11 = .ok (.aload_n 0, 1) := by decide +kernel
theorem dX5_howMany_12 : decode cX5_howMany 12 = .ok (.iload_n 2, 1) := by decide +kernel
theorem dX5_howMany_13 : decode cX5_howMany 13 = .ok (.invokevirtual 23, 3) := by decide +kernel
theorem dX5_howMany_16 : decode cX5_howMany 16 = .ok (.ifCond .eq 7, 3) := by decide +kernel
theorem dX5_howMany_19 : decode cX5_howMany 19 = .ok (.iconst 0, 1) := by decide +kernel
theorem dX5_howMany_20 : decode cX5_howMany 20 = .ok (.goto 4, 3) := by decide +kernel
theorem dX5_howMany_23 : decode cX5_howMany 23 = .ok (.iconst 1, 1) := by decide +kernel
theorem dX5_howMany_24 : decode cX5_howMany 24 = .ok (.iadd, 1) := by decide +kernel
theorem dX5_howMany_25 : decode cX5_howMany 25 = .ok (.istore_n 1, 1) := by decide +kernel
theorem dX5_howMany_26 : decode cX5_howMany 26 = .ok (.iinc 2 1, 3) := by decide +kernel
theorem dX5_howMany_29 : decode cX5_howMany 29 = .ok (.goto (-25), 3) := by decide +kernel
theorem dX5_howMany_32 : decode cX5_howMany 32 = .ok (.iload_n 1, 1) := by decide +kernel
theorem dX5_howMany_33 : decode cX5_howMany 33 = .ok (.ireturn, 1) := by decide +kernel
theorem dX5_lowestBits_0 : decode cX5_lowestBits 0 = .ok (.iload_n 1, 1) := by decide +kernel
theorem dX5_lowestBits_1 : decode cX5_lowestBits 1 = .ok (.ifCond .ne 6, 3) := by decide +kernel
theorem dX5_lowestBits_4 : decode cX5_lowestBits 4 = .ok (.iload_n 0, 1) := by decide +kernel
theorem dX5_lowestBits_5 : decode cX5_lowestBits 5 = .ok (.i2b, 1) := by decide +kernel
theorem dX5_lowestBits_6 : decode cX5_lowestBits 6 = .ok (.ireturn, 1) := by decide +kernel
theorem dX5_lowestBits_7 : decode cX5_lowestBits 7 = .ok (.iload_n 1, 1) := by decide +kernel
theorem dX5_lowestBits_8 : decode cX5_lowestBits 8 = .ok (.iconst 1, 1) := by decide +kernel
theorem dX5_lowestBits_9 : decode cX5_lowestBits 9 = .ok (.if_icmp .ne 8, 3) := by decide +kernel
theorem dX5_lowestBits_12 : decode cX5_lowestBits 12 = .ok (.iload_n 0, 1) := by decide +kernel
theorem dX5_lowestBits_13 : decode cX5_lowestBits 13 = .ok (.i2s, 1) := by decide +kernel
theorem dX5_lowestBits_14 : decode cX5_lowestBits 14 = .ok (.goto 4, 3) := by decide +kernel
theorem dX5_lowestBits_17 : decode cX5_lowestBits 17 = .ok (.iload_n 0, 1) := by decide +kernel
theorem dX5_lowestBits_18 : decode cX5_lowestBits 18 = .ok (.ireturn, 1) := by decide +kernel
theorem dX6_init_0 : decode cX6_init 0 = .ok (.aload_n 0, 1) := by decide +kernel
theorem dX6_init_1 : decode cX6_init 1 = .ok (.invokespecial 3, 3) := by decide +kernel
theorem dX6_init_4 : decode cX6_init 4 = .ok (.aload_n 0, 1) := by decide +kernel
theorem dX6_init_5 : decode cX6_init 5 = .ok (.bipush 8, 2) := by decide +kernel
theorem dX6_init_7 : decode cX6_init 7 = .ok (.bipush 100, 2) := by decide +kernel
theorem dX6_init_9 : decode cX6_init 9 = .ok (.multianewarray 9 2, 4) := by decide +kernel
theorem dX6_init_13 : decode cX6_init 13 = .ok (.putfield 11, 3) := by decide +kernel
theorem dX6_init_16 : decode cX6_init 16 = .ok (.return_, 1) := by decide +kernel
set_option maxRecDepth 20000 in
theorem ggX6_leastDuty_X6_fill : GoodIn wsX6_leastDuty wsX6_fill := goodIn_r _ [8, 1, 2, 9, 10, 11, 12, 13, 14, 15, 16, 17, 18, 19, 20, 21, 22, 23, 24, 25, 26, 27, 28, 29, 30, 31, 32, 33, 34, 35, 36, 37, 38, 39, 40, 41, 42, 43, 44, 45, 46, 47, 48, 49, 7, 50, 51, 52, 53, 54, 55, 56, 57, 58, 59, 60, 61, 62, 63, 64, 65, 66, 67] (by decide +kernel) (by decide +kernel)
set_option maxRecDepth 20000 in
theorem gX6_leastDuty_X6_fill : GoodIn wsX6_leastDuty (wsV RX6 16 RX6 yX6_fill wsX6_fill) := goodIn_app (goodIn_of _ (by decide +kernel)) ggX6_leastDuty_X6_fill
theorem dX6_leastDuty_0 : decode cX6_leastDuty 0 = .ok (.aload_n 0, 1) := by decide +kernel
theorem dX6_leastDuty_1 : decode cX6_leastDuty 1 = .ok (.aload_n 1, 1) := by decide +kernel
theorem dX6_leastDuty_2 : decode cX6_leastDuty 2 = .ok (.iload_n 2, 1) := by decide +kernel
theorem dX6_leastDuty_3 : decode cX6_leastDuty 3 = .ok (.iload_n 3, 1) := by decide +kernel
theorem dX6_leastDuty_4 : decode cX6_leastDuty 4 = .ok (.iload 4, 2) := by decide +kernel
theorem dX6_leastDuty_6 : decode cX6_leastDuty 6 = .ok (.iload 5, 2) := by decide +kernel
theorem dX6_leastDuty_8 : decode cX6_leastDuty 8 = .ok (.invokevirtual 16, 3) := by decide +kernel
theorem dX6_leastDuty_11 : decode cX6_leastDuty 11 = .ok (.aload_n 0, 1) := by decide +kernel
theorem dX6_leastDuty_12 : decode cX6_leastDuty 12 = .ok (.getfield 11, 3) := by decide +kernel
theorem dX6_leastDuty_15 : decode cX6_leastDuty 15 = .ok (.iload_n 3, 1) := by decide +kernel
theorem dX6_leastDuty_16 : decode cX6_leastDuty 16 = .ok (.aaload, 1) := by decide +kernel
theorem dX6_leastDuty_17 : decode cX6_leastDuty 17 = .ok (.iload 5, 2) := by decide +kernel
theorem dX6_leastDuty_19 : decode cX6_leastDuty 19 = .ok (.iaload, 1) := by decide +kernel
theorem dX6_leastDuty_20 : decode cX6_leastDuty 20 = .ok (.ldc 20, 2) := by decide +kernel
theorem dX6_leastDuty_22 : decode cX6_leastDuty 22 = .ok (.if_icmp .ge 15, 3) := by decide +kernel
theorem dX6_leastDuty_25 : decode cX6_leastDuty 25 = .ok (.aload_n 0, 1) := by decide +kernel
theorem dX6_leastDuty_26 : decode cX6_leastDuty 26 = .ok (.getfield 11, 3) := by decide +kernel
theorem dX6_leastDuty_29 : decode cX6_leastDuty 29 = .ok (.iload_n 3, 1) := by decide +kernel
theorem dX6_leastDuty_30 : decode cX6_leastDuty 30 = .ok (.aaload, 1) := by decide +kernel
theorem dX6_leastDuty_31 : decode cX6_leastDuty 31 = .ok (.iload 5, 2) := by decide +kernel
theorem dX6_leastDuty_33 : decode cX6_leastDuty 33 = .ok (.iaload, 1) := by decide +kernel
theorem dX6_leastDuty_34 : decode cX6_leastDuty 34 = .ok (.goto 5, 3) := by decide +kernel
theorem dX6_leastDuty_37 : decode cX6_leastDuty 37 = .ok (.ldc 21, 2) := by decide +kernel
theorem dX6_leastDuty_39 : decode cX6_leastDuty 39 = .ok (.ireturn, 1) := by decide +kernel
set_option maxRecDepth 20000 in
theorem ggX6_gestureOfCheapest_X6_fill : GoodIn wsX6_gestureOfCheapest wsX6_fill := goodIn_r _ [9, 1, 2, 10, 4, 11, 12, 13, 14, 15, 16, 17, 18, 19, 20, 21, 22, 23, 24, 25, 26, 27, 28, 29, 30, 31, 32, 33, 34, 35, 36, 37, 38, 39, 40, 41, 42, 43, 44, 45, 46, 47, 48, 49, 8, 50, 51, 52, 53, 58, 59, 60, 61, 62, 63, 64, 65, 66, 67, 68, 69, 70, 71] (by decide +kernel) (by decide +kernel)
set_option maxRecDepth 20000 in
theorem gX6_gestureOfCheapest_X6_fill : GoodIn wsX6_gestureOfCheapest (wsV RX6 16 RX6 yX6_fill wsX6_fill) := goodIn_app (goodIn_of _ (by decide +kernel)) ggX6_gestureOfCheapest_X6_fill
set_option maxRecDepth 20000 in
theorem ggX6_gestureOfCheapest_X6_firstOfCheapest : GoodIn wsX6_gestureOfCheapest wsX6_firstOfCheapest := goodIn_r _ [57, 10, 4, 1, 3, 11, 12, 13, 14, 15, 16, 17, 18, 19, 20, 21, 22, 23, 24, 25, 26, 27, 28, 29, 30, 31, 32, 33, 34, 35, 36, 37, 38, 39, 40, 41, 42, 43, 44, 45, 46, 59, 60, 61, 62, 63, 64, 65, 66, 67, 68, 69, 70, 71, 58] (by decide +kernel) (by decide +kernel)
set_option maxRecDepth 20000 in
theorem gX6_gestureOfCheapest_X6_firstOfCheapest : GoodIn wsX6_gestureOfCheapest (wsV RX6 22 RX6 yX6_firstOfCheapest wsX6_firstOfCheapest) := goodIn_app (goodIn_of _ (by decide +kernel)) ggX6_gestureOfCheapest_X6_firstOfCheapest
theorem dX6_gestureOfCheapest_0 : decode cX6_gestureOfCheapest 0 = .ok (.aload_n 0, 1) := by decide +kernel
theorem dX6_gestureOfCheapest_1 : decode cX6_gestureOfCheapest 1 = .ok (.aload_n 1, 1) := by decide +kernel
theorem dX6_gestureOfCheapest_2 : decode cX6_gestureOfCheapest 2 = .ok (.iload_n 2, 1) := by decide +kernel
theorem dX6_gestureOfCheapest_3 : decode cX6_gestureOfCheapest 3 = .ok (.iload_n 3, 1) := by decide +kernel
theorem dX6_gestureOfCheapest_4 : decode cX6_gestureOfCheapest 4 = .ok (.iload 4, 2) := by decide +kernel
theorem dX6_gestureOfCheapest_6 : decode cX6_gestureOfCheapest 6 = .ok (.iload 5, 2) := by decide +kernel
theorem dX6_gestureOfCheapest_8 : decode cX6_gestureOfCheapest 8 = .ok (.invokevirtual 16, 3) := by decide +kernel
theorem dX6_gestureOfCheapest_11 : decode cX6_gestureOfCheapest 11 = .ok (.iload 6, 2) := by decide +kernel
theorem dX6_gestureOfCheapest_13 : decode cX6_gestureOfCheapest 13 = .ok (.iload 4, 2) := by decide +kernel
theorem dX6_gestureOfCheapest_15 : decode cX6_gestureOfCheapest 15 = .ok (.iload_n 3, 1) := by decide +kernel
theorem dX6_gestureOfCheapest_16 : decode cX6_gestureOfCheapest 16 = .ok (.isub, 1) := by decide +kernel
theorem dX6_gestureOfCheapest_17 : decode cX6_gestureOfCheapest 17 = .ok (.if_icmp .gt 17, 3) := by decide +kernel
theorem dX6_gestureOfCheapest_20 : decode cX6_gestureOfCheapest 20 = .ok (.aload_n 0, 1) := by decide +kernel
theorem dX6_gestureOfCheapest_21 : decode cX6_gestureOfCheapest 21 = .ok (.getfield 11, 3) := by decide +kernel
theorem dX6_gestureOfCheapest_24 : decode cX6_gestureOfCheapest 24 = .ok (.iload_n 3, 1) := by decide +kernel
theorem dX6_gestureOfCheapest_25 : decode cX6_gestureOfCheapest 25 = .ok (.aaload, 1) := by decide +kernel
theorem dX6_gestureOfCheapest_26 : decode cX6_gestureOfCheapest 26 = .ok (.iload 5, 2) := by decide +kernel
theorem dX6_gestureOfCheapest_28 : decode cX6_gestureOfCheapest 28 = .ok (.iaload, 1) := by decide +kernel
theorem dX6_gestureOfCheapest_29 : decode cX6_gestureOfCheapest 29 = .ok (.ldc 20, 2) := by decide +kernel
theorem dX6_gestureOfCheapest_31 : decode cX6_gestureOfCheapest 31 = .ok (.if_icmp .lt 6, 3) := by decide +kernel
theorem dX6_gestureOfCheapest_34 : decode cX6_gestureOfCheapest 34 = .ok (.ldc 21, 2) := by decide +kernel
theorem dX6_gestureOfCheapest_36 : decode cX6_gestureOfCheapest 36 = .ok (.ireturn, 1) := by decide +kernel
theorem dX6_gestureOfCheapest_37 : decode cX6_gestureOfCheapest 37 = .ok (.iload 5, 2) := by decide +kernel
theorem dX6_gestureOfCheapest_39 : decode cX6_gestureOfCheapest 39 = .ok (.istore 7, 2) := by decide +kernel
theorem dX6_gestureOfCheapest_41 : decode cX6_gestureOfCheapest 41 = .ok (.ldc 21, 2) := by decide +kernel
theorem dX6_gestureOfCheapest_43 : decode cX6_gestureOfCheapest 43 = .ok (.istore 8, 2) := by decide +kernel
theorem dX6_gestureOfCheapest_45 : decode cX6_gestureOfCheapest 45 = .ok (.iload_n 3, 1) := by decide +kernel
theorem dX6_gestureOfCheapest_46 : decode cX6_gestureOfCheapest 46 = .ok (.istore 9, 2) := by decide +kernel
theorem dX6_gestureOfCheapest_48 : decode cX6_gestureOfCheapest 48 = .ok (.iload 9, 2) := by decide +kernel
theorem dX6_gestureOfCheapest_50 : decode cX6_gestureOfCheapest 50 = .ok (.iload_n 3, 1) := by decide +kernel
theorem dX6_gestureOfCheapest_51 : decode cX6_gestureOfCheapest 51 = .ok (.iload 6, 2) := by decide +kernel
theorem dX6_gestureOfCheapest_53 : decode cX6_gestureOfCheapest 53 = .ok (.iadd, 1) := by decide +kernel
theorem dX6_gestureOfCheapest_54 : decode cX6_gestureOfCheapest 54 = .ok (.if_icmp .gt 43, 3) := by decide +kernel
theorem dX6_gestureOfCheapest_57 : decode cX6_gestureOfCheapest 57 = .ok (.aload_n 0, 1) := by decide +kernel
theorem dX6_gestureOfCheapest_58 : decode cX6_gestureOfCheapest 58 = .ok (.aload_n 1, 1) := by decide +kernel
theorem dX6_gestureOfCheapest_59 : decode cX6_gestureOfCheapest 59 = .ok (.iload_n 2, 1) := by decide +kernel
theorem dX6_gestureOfCheapest_60 : decode cX6_gestureOfCheapest 60 = .ok (.iload 9, 2) := by decide +kernel
theorem dX6_gestureOfCheapest_62 : decode cX6_gestureOfCheapest 62 = .ok (.iload 7, 2) := by decide +kernel
theorem dX6_gestureOfCheapest_64 : decode cX6_gestureOfCheapest 64 = .ok (.invokevirtual 22, 3) := by decide +kernel
theorem dX6_gestureOfCheapest_67 : decode cX6_gestureOfCheapest 67 = .ok (.istore 8, 2) := by decide +kernel
theorem dX6_gestureOfCheapest_69 : decode cX6_gestureOfCheapest 69 = .ok (.iload 8, 2) := by decide +kernel
theorem dX6_gestureOfCheapest_71 : decode cX6_gestureOfCheapest 71 = .ok (.ldc 21, 2) := by decide +kernel
theorem dX6_gestureOfCheapest_73 : decode cX6_gestureOfCheapest 73 = .ok (.if_icmp .ne 6, 3) := by decide +kernel
theorem dX6_gestureOfCheapest_76 : decode cX6_gestureOfCheapest 76 = .ok (.ldc 21, 2) := by decide +kernel
theorem dX6_gestureOfCheapest_78 : decode cX6_gestureOfCheapest 78 = .ok (.ireturn, 1) := by decide +kernel
theorem dX6_gestureOfCheapest_79 : decode cX6_gestureOfCheapest 79 = .ok (.iload 7, 2) := by decide +kernel
theorem dX6_gestureOfCheapest_81 : decode cX6_gestureOfCheapest 81 = .ok (.aload_n 1, 1) := by decide +kernel
theorem dX6_gestureOfCheapest_82 : decode cX6_gestureOfCheapest 82 = .ok (.getfield 26, 3) := by decide +kernel
theorem dX6_gestureOfCheapest_85 : decode cX6_gestureOfCheapest 85 = .ok (.iload 8, 2) := by decide +kernel
theorem dX6_gestureOfCheapest_87 : decode cX6_gestureOfCheapest 87 = .ok (.iaload, 1) := by decide +kernel
theorem dX6_gestureOfCheapest_88 : decode cX6_gestureOfCheapest 88 = .ok (.isub, 1) := by decide +kernel
theorem dX6_gestureOfCheapest_89 : decode cX6_gestureOfCheapest 89 = .ok (.istore 7, 2) := by decide +kernel
theorem dX6_gestureOfCheapest_91 : decode cX6_gestureOfCheapest 91 = .ok (.iinc 9 1, 3) := by decide +kernel
theorem dX6_gestureOfCheapest_94 : decode cX6_gestureOfCheapest 94 = .ok (.goto (-46), 3) := by decide +kernel
theorem dX6_gestureOfCheapest_97 : decode cX6_gestureOfCheapest 97 = .ok (.iload 8, 2) := by decide +kernel
theorem dX6_gestureOfCheapest_99 : decode cX6_gestureOfCheapest 99 = .ok (.ireturn, 1) := by decide +kernel
set_option maxRecDepth 20000 in
theorem ggX6_fill_X2_tells : GoodIn wsX6_fill wsX2_tells := goodIn_r _ [9, 10, 11, 12, 13, 8, 14, 15, 16, 17, 50, 51, 52, 53, 54, 55, 56, 57, 58, 59, 60, 61, 62] (by decide +kernel) (by decide +kernel)
set_option maxRecDepth 20000 in
theorem gX6_fill_X2_tells : GoodIn wsX6_fill (wsV RX6 36 RX2 yX2_tells wsX2_tells) := goodIn_app (goodIn_of _ (by decide +kernel)) ggX6_fill_X2_tells
set_option maxRecDepth 20000 in
theorem ggX6_fill_X2_owes : GoodIn wsX6_fill wsX2_owes := goodIn_r _ [21, 15, 16, 22, 23, 24, 8, 25, 26, 27, 28, 29, 30, 31, 32, 33, 34, 35, 36, 37, 38, 39, 40, 50, 51, 52, 53, 54, 55, 56, 57, 58, 59, 60, 61, 62] (by decide +kernel) (by decide +kernel)
set_option maxRecDepth 20000 in
theorem gX6_fill_X2_owes : GoodIn wsX6_fill (wsV RX6 40 RX2 yX2_owes wsX2_owes) := goodIn_app (goodIn_of _ (by decide +kernel)) ggX6_fill_X2_owes
set_option maxRecDepth 20000 in
theorem ggX6_fill_X6_offer : GoodIn wsX6_fill wsX6_offer := goodIn_r _ [45, 1, 46, 47, 34, 48, 49] (by decide +kernel) (by decide +kernel)
set_option maxRecDepth 20000 in
theorem gX6_fill_X6_offer : GoodIn wsX6_fill (wsV RX6 44 RX6 yX6_offer wsX6_offer) := goodIn_app (goodIn_of _ (by decide +kernel)) ggX6_fill_X6_offer
theorem dX6_fill_0 : decode cX6_fill 0 = .ok (.iconst 0, 1) := by decide +kernel
theorem dX6_fill_1 : decode cX6_fill 1 = .ok (.istore 6, 2) := by decide +kernel
theorem dX6_fill_3 : decode cX6_fill 3 = .ok (.iload 6, 2) := by decide +kernel
theorem dX6_fill_5 : decode cX6_fill 5 = .ok (.iload 5, 2) := by decide +kernel
theorem dX6_fill_7 : decode cX6_fill 7 = .ok (.if_icmp .gt 22, 3) := by decide +kernel
theorem dX6_fill_10 : decode cX6_fill 10 = .ok (.aload_n 0, 1) := by decide +kernel
theorem dX6_fill_11 : decode cX6_fill 11 = .ok (.getfield 11, 3) := by decide +kernel
theorem dX6_fill_14 : decode cX6_fill 14 = .ok (.iload 4, 2) := by decide +kernel
theorem dX6_fill_16 : decode cX6_fill 16 = .ok (.iconst 1, 1) := by decide +kernel
theorem dX6_fill_17 : decode cX6_fill 17 = .ok (.iadd, 1) := by decide +kernel
theorem dX6_fill_18 : decode cX6_fill 18 = .ok (.aaload, 1) := by decide +kernel
theorem dX6_fill_19 : decode cX6_fill 19 = .ok (.iload 6, 2) := by decide +kernel
theorem dX6_fill_21 : decode cX6_fill 21 = .ok (.iconst 0, 1) := by decide +kernel
theorem dX6_fill_22 : decode cX6_fill 22 = .ok (.iastore, 1) := by decide +kernel
theorem dX6_fill_23 : decode cX6_fill 23 = .ok (.iinc 6 1, 3) := by decide +kernel
theorem dX6_fill_26 : decode cX6_fill 26 = .ok (.goto (-23), 3) := by decide +kernel
theorem dX6_fill_29 : decode cX6_fill 29 = .ok (.iload 4, 2) := by decide +kernel
theorem dX6_fill_31 : decode cX6_fill 31 = .ok (.istore 6, 2) := by decide +kernel
theorem dX6_fill_33 : decode cX6_fill 33 = .ok (.iload 6, 2) := by decide +kernel
theorem dX6_fill_35 : decode cX6_fill 35 = .ok (.iload_n 3, 1) := by decide +kernel
theorem dX6_fill_36 : decode cX6_fill 36 = .ok (.if_icmp .lt 90, 3) := by decide +kernel
theorem dX6_fill_39 : decode cX6_fill 39 = .ok (.iconst 0, 1) := by decide +kernel
theorem dX6_fill_40 : decode cX6_fill 40 = .ok (.istore 7, 2) := by decide +kernel
theorem dX6_fill_42 : decode cX6_fill 42 = .ok (.iload 7, 2) := by decide +kernel
theorem dX6_fill_44 : decode cX6_fill 44 = .ok (.iload 5, 2) := by decide +kernel
theorem dX6_fill_46 : decode cX6_fill 46 = .ok (.if_icmp .gt 21, 3) := by decide +kernel
theorem dX6_fill_49 : decode cX6_fill 49 = .ok (.aload_n 0, 1) := by decide +kernel
theorem dX6_fill_50 : decode cX6_fill 50 = .ok (.getfield 11, 3) := by decide +kernel
theorem dX6_fill_53 : decode cX6_fill 53 = .ok (.iload 6, 2) := by decide +kernel
theorem dX6_fill_55 : decode cX6_fill 55 = .ok (.aaload, 1) := by decide +kernel
theorem dX6_fill_56 : decode cX6_fill 56 = .ok (.iload 7, 2) := by decide +kernel
theorem dX6_fill_58 : decode cX6_fill 58 = .ok (.ldc 20, 2) := by decide +kernel
theorem dX6_fill_60 : decode cX6_fill 60 = .ok (.iastore, 1) := by decide +kernel
theorem dX6_fill_61 : decode cX6_fill 61 = .ok (.iinc 7 1, 3) := by decide +kernel
theorem dX6_fill_64 : decode cX6_fill 64 = .ok (.goto (-22), 3) := by decide +kernel
theorem dX6_fill_67 : decode cX6_fill 67 = .ok (.iconst 0, 1) := by decide +kernel
theorem dX6_fill_68 : decode cX6_fill 68 = .ok (.istore 7, 2) := by decide +kernel
theorem dX6_fill_70 : decode cX6_fill 70 = .ok (.iload 7, 2) := by decide +kernel
theorem dX6_fill_72 : decode cX6_fill 72 = .ok (.aload_n 1, 1) := by decide +kernel
theorem dX6_fill_73 : decode cX6_fill 73 = .ok (.getfield 32, 3) := by decide +kernel
theorem dX6_fill_76 : decode cX6_fill 76 = .ok (.if_icmp .ge 44, 3) := by decide +kernel
theorem dX6_fill_79 : decode cX6_fill 79 = .ok (.aload_n 1, 1) := by decide +kernel
theorem dX6_fill_80 : decode cX6_fill 80 = .ok (.iload 7, 2) := by decide +kernel
theorem dX6_fill_82 : decode cX6_fill 82 = .ok (.iload_n 2, 1) := by decide +kernel
theorem dX6_fill_83 : decode cX6_fill 83 = .ok (.iload 6, 2) := by decide +kernel
theorem dX6_fill_85 : decode cX6_fill 85 = .ok (.invokevirtual 36, 3) := by decide +kernel
theorem dX6_fill_88 : decode cX6_fill 88 = .ok (.ifCond .eq 26, 3) := by decide +kernel
theorem dX6_fill_91 : decode cX6_fill 91 = .ok (.aload_n 0, 1) := by decide +kernel
theorem dX6_fill_92 : decode cX6_fill 92 = .ok (.aload_n 1, 1) := by decide +kernel
theorem dX6_fill_93 : decode cX6_fill 93 = .ok (.iload 7, 2) := by decide +kernel
theorem dX6_fill_95 : decode cX6_fill 95 = .ok (.iload 6, 2) := by decide +kernel
theorem dX6_fill_97 : decode cX6_fill 97 = .ok (.invokevirtual 40, 3) := by decide +kernel
theorem dX6_fill_100 : decode cX6_fill 100 = .ok (.aload_n 1, 1) := by decide +kernel
theorem dX6_fill_101 : decode cX6_fill 101 = .ok (.getfield 26, 3) := by decide +kernel
theorem dX6_fill_104 : decode cX6_fill 104 = .ok (.iload 7, 2) := by decide +kernel
theorem dX6_fill_106 : decode cX6_fill 106 = .ok (.iaload, 1) := by decide +kernel
theorem dX6_fill_107 : decode cX6_fill 107 = .ok (.iload 6, 2) := by decide +kernel
theorem dX6_fill_109 : decode cX6_fill 109 = .ok (.iload 5, 2) := by decide +kernel
theorem dX6_fill_111 : decode cX6_fill 111 = .ok (.invokevirtual 44, 3) := by decide +kernel
theorem dX6_fill_114 : decode cX6_fill 114 = .ok (.iinc 7 1, 3) := by decide +kernel
theorem dX6_fill_117 : decode cX6_fill 117 = .ok (.goto (-47), 3) := by decide +kernel
theorem dX6_fill_120 : decode cX6_fill 120 = .ok (.iinc 6 (-1), 3) := by decide +kernel
theorem dX6_fill_123 : decode cX6_fill 123 = .ok (.goto (-90), 3) := by decide +kernel
theorem dX6_fill_126 : decode cX6_fill 126 = .ok (.return_, 1) := by decide +kernel
theorem dX6_offer_0 : decode cX6_offer 0 = .ok (.iload_n 2, 1) := by decide +kernel
theorem dX6_offer_1 : decode cX6_offer 1 = .ok (.istore 5, 2) := by decide +kernel
theorem dX6_offer_3 : decode cX6_offer 3 = .ok (.iload 5, 2) := by decide +kernel
theorem dX6_offer_5 : decode cX6_offer 5 = .ok (.iload 4, 2) := by decide +kernel
theorem dX6_offer_7 : decode cX6_offer 7 = .ok (.if_icmp .gt 45, 3) := by decide +kernel
theorem dX6_offer_10 : decode cX6_offer 10 = .ok (.aload_n 0, 1) := by decide +kernel
theorem dX6_offer_11 : decode cX6_offer 11 = .ok (.getfield 11, 3) := by decide +kernel
theorem dX6_offer_14 : decode cX6_offer 14 = .ok (.iload_n 3, 1) := by decide +kernel
theorem dX6_offer_15 : decode cX6_offer 15 = .ok (.aaload, 1) := by decide +kernel
theorem dX6_offer_16 : decode cX6_offer 16 = .ok (.iload 5, 2) := by decide +kernel
theorem dX6_offer_18 : decode cX6_offer 18 = .ok (.aload_n 0, 1) := by decide +kernel
theorem dX6_offer_19 : decode cX6_offer 19 = .ok (.getfield 11, 3) := by decide +kernel
theorem dX6_offer_22 : decode cX6_offer 22 = .ok (.iload_n 3, 1) := by decide +kernel
theorem dX6_offer_23 : decode cX6_offer 23 = .ok (.aaload, 1) := by decide +kernel
theorem dX6_offer_24 : decode cX6_offer 24 = .ok (.iload 5, 2) := by decide +kernel
theorem dX6_offer_26 : decode cX6_offer 26 = .ok (.iaload, 1) := by decide +kernel
theorem dX6_offer_27 : decode cX6_offer 27 = .ok (.iload_n 1, 1) := by decide +kernel
theorem dX6_offer_28 : decode cX6_offer 28 = .ok (.aload_n 0, 1) := by decide +kernel
theorem dX6_offer_29 : decode cX6_offer 29 = .ok (.getfield 11, 3) := by decide +kernel
theorem dX6_offer_32 : decode cX6_offer 32 = .ok (.iload_n 3, 1) := by decide +kernel
theorem dX6_offer_33 : decode cX6_offer 33 = .ok (.iconst 1, 1) := by decide +kernel
theorem dX6_offer_34 : decode cX6_offer 34 = .ok (.iadd, 1) := by decide +kernel
theorem dX6_offer_35 : decode cX6_offer 35 = .ok (.aaload, 1) := by decide +kernel
theorem dX6_offer_36 : decode cX6_offer 36 = .ok (.iload 5, 2) := by decide +kernel
theorem dX6_offer_38 : decode cX6_offer 38 = .ok (.iload_n 2, 1) := by decide +kernel
theorem dX6_offer_39 : decode cX6_offer 39 = .ok (.isub, 1) := by decide +kernel
theorem dX6_offer_40 : decode cX6_offer 40 = .ok (.iaload, 1) := by decide +kernel
theorem dX6_offer_41 : decode cX6_offer 41 = .ok (.iadd, 1) := by decide +kernel
theorem dX6_offer_42 : decode cX6_offer 42 = .ok (.invokestatic 48, 3) := by decide +kernel
theorem dX6_offer_45 : decode cX6_offer 45 = .ok (.iastore, 1) := by decide +kernel
theorem dX6_offer_46 : decode cX6_offer 46 = .ok (.iinc 5 1, 3) := by decide +kernel
theorem dX6_offer_49 : decode cX6_offer 49 = .ok (.goto (-46), 3) := by decide +kernel
theorem dX6_offer_52 : decode cX6_offer 52 = .ok (.return_, 1) := by decide +kernel
set_option maxRecDepth 20000 in
theorem ggX6_firstOfCheapest_X2_tells : GoodIn wsX6_firstOfCheapest wsX2_tells := goodIn_r _ [9, 10, 11, 12, 13, 8, 14, 15, 16, 17, 41, 42, 43, 44, 45, 46, 47, 48, 49, 50, 51, 52, 53] (by decide +kernel) (by decide +kernel)
set_option maxRecDepth 20000 in
theorem gX6_firstOfCheapest_X2_tells : GoodIn wsX6_firstOfCheapest (wsV RX6 36 RX2 yX2_tells wsX2_tells) := goodIn_app (goodIn_of _ (by decide +kernel)) ggX6_firstOfCheapest_X2_tells
set_option maxRecDepth 20000 in
theorem ggX6_firstOfCheapest_X2_owes : GoodIn wsX6_firstOfCheapest wsX2_owes := goodIn_r _ [21, 15, 16, 22, 23, 24, 8, 25, 26, 27, 28, 29, 30, 31, 32, 33, 34, 35, 36, 37, 38, 39, 40, 41, 42, 43, 44, 45, 46, 47, 48, 49, 50, 51, 52, 53] (by decide +kernel) (by decide +kernel)
set_option maxRecDepth 20000 in
theorem gX6_firstOfCheapest_X2_owes : GoodIn wsX6_firstOfCheapest (wsV RX6 40 RX2 yX2_owes wsX2_owes) := goodIn_app (goodIn_of _ (by decide +kernel)) ggX6_firstOfCheapest_X2_owes
theorem dX6_firstOfCheapest_0 : decode cX6_firstOfCheapest 0 = .ok (.iconst 0, 1) := by decide +kernel
theorem dX6_firstOfCheapest_1 : decode cX6_firstOfCheapest 1 = .ok (.istore 5, 2) := by decide +kernel
theorem dX6_firstOfCheapest_3 : decode cX6_firstOfCheapest 3 = .ok (.iload 5, 2) := by decide +kernel
theorem dX6_firstOfCheapest_5 : decode cX6_firstOfCheapest 5 = .ok (.aload_n 1, 1) := by decide +kernel
theorem dX6_firstOfCheapest_6 : decode cX6_firstOfCheapest 6 = .ok (.getfield 32, 3) := by decide +kernel
theorem dX6_firstOfCheapest_9 : decode cX6_firstOfCheapest 9 = .ok (.if_icmp .ge 71, 3) := by decide +kernel
theorem dX6_firstOfCheapest_12 : decode cX6_firstOfCheapest 12 = .ok (.iload 4, 2) := by decide +kernel
theorem dX6_firstOfCheapest_14 : decode cX6_firstOfCheapest 14 = .ok (.aload_n 1, 1) := by decide +kernel
theorem dX6_firstOfCheapest_15 : decode cX6_firstOfCheapest 15 = .ok (.getfield 26, 3) := by decide +kernel
theorem dX6_firstOfCheapest_18 : decode cX6_firstOfCheapest 18 = .ok (.iload 5, 2) := by decide +kernel
theorem dX6_firstOfCheapest_20 : decode cX6_firstOfCheapest 20 = .ok (.iaload, 1) := by decide +kernel
theorem dX6_firstOfCheapest_21 : decode cX6_firstOfCheapest 21 = .ok (.isub, 1) := by decide +kernel
theorem dX6_firstOfCheapest_22 : decode cX6_firstOfCheapest 22 = .ok (.istore 6, 2) := by decide +kernel
theorem dX6_firstOfCheapest_24 : decode cX6_firstOfCheapest 24 = .ok (.iload 6, 2) := by decide +kernel
theorem dX6_firstOfCheapest_26 : decode cX6_firstOfCheapest 26 = .ok (.ifCond .lt 48, 3) := by decide +kernel
theorem dX6_firstOfCheapest_29 : decode cX6_firstOfCheapest 29 = .ok (.aload_n 1, 1) := by decide +kernel
theorem dX6_firstOfCheapest_30 : decode cX6_firstOfCheapest 30 = .ok (.iload 5, 2) := by decide +kernel
theorem dX6_firstOfCheapest_32 : decode cX6_firstOfCheapest 32 = .ok (.iload_n 2, 1) := by decide +kernel
theorem dX6_firstOfCheapest_33 : decode cX6_firstOfCheapest 33 = .ok (.iload_n 3, 1) := by decide +kernel
theorem dX6_firstOfCheapest_34 : decode cX6_firstOfCheapest 34 = .ok (.invokevirtual 36, 3) := by decide +kernel
theorem dX6_firstOfCheapest_37 : decode cX6_firstOfCheapest 37 = .ok (.ifCond .eq 37, 3) := by decide +kernel
theorem dX6_firstOfCheapest_40 : decode cX6_firstOfCheapest 40 = .ok (.aload_n 1, 1) := by decide +kernel
theorem dX6_firstOfCheapest_41 : decode cX6_firstOfCheapest 41 = .ok (.iload 5, 2) := by decide +kernel
theorem dX6_firstOfCheapest_43 : decode cX6_firstOfCheapest 43 = .ok (.iload_n 3, 1) := by decide +kernel
theorem dX6_firstOfCheapest_44 : decode cX6_firstOfCheapest 44 = .ok (.invokevirtual 40, 3) := by decide +kernel
theorem dX6_firstOfCheapest_47 : decode cX6_firstOfCheapest 47 = .ok (.aload_n 0, 1) := by decide +kernel
theorem dX6_firstOfCheapest_48 : decode cX6_firstOfCheapest 48 = .ok (.getfield 11, 3) := by decide +kernel
theorem dX6_firstOfCheapest_51 : decode cX6_firstOfCheapest 51 = .ok (.iload_n 3, 1) := by decide +kernel
theorem dX6_firstOfCheapest_52 : decode cX6_firstOfCheapest 52 = .ok (.iconst 1, 1) := by decide +kernel
theorem dX6_firstOfCheapest_53 : decode cX6_firstOfCheapest 53 = .ok (.iadd, 1) := by decide +kernel
theorem dX6_firstOfCheapest_54 : decode cX6_firstOfCheapest 54 = .ok (.aaload, 1) := by decide +kernel
theorem dX6_firstOfCheapest_55 : decode cX6_firstOfCheapest 55 = .ok (.iload 6, 2) := by decide +kernel
theorem dX6_firstOfCheapest_57 : decode cX6_firstOfCheapest 57 = .ok (.iaload, 1) := by decide +kernel
theorem dX6_firstOfCheapest_58 : decode cX6_firstOfCheapest 58 = .ok (.iadd, 1) := by decide +kernel
theorem dX6_firstOfCheapest_59 : decode cX6_firstOfCheapest 59 = .ok (.aload_n 0, 1) := by decide +kernel
theorem dX6_firstOfCheapest_60 : decode cX6_firstOfCheapest 60 = .ok (.getfield 11, 3) := by decide +kernel
theorem dX6_firstOfCheapest_63 : decode cX6_firstOfCheapest 63 = .ok (.iload_n 3, 1) := by decide +kernel
theorem dX6_firstOfCheapest_64 : decode cX6_firstOfCheapest 64 = .ok (.aaload, 1) := by decide +kernel
theorem dX6_firstOfCheapest_65 : decode cX6_firstOfCheapest 65 = .ok (.iload 4, 2) := by decide +kernel
theorem dX6_firstOfCheapest_67 : decode cX6_firstOfCheapest 67 = .ok (.iaload, 1) := by decide +kernel
theorem dX6_firstOfCheapest_68 : decode cX6_firstOfCheapest 68 = .ok (.if_icmp .ne 6, 3) := by decide +kernel
theorem dX6_firstOfCheapest_71 : decode cX6_firstOfCheapest 71 = .ok (.iload 5, 2) := by decide +kernel
theorem dX6_firstOfCheapest_73 : decode cX6_firstOfCheapest 73 = .ok (.ireturn, 1) := by decide +kernel
theorem dX6_firstOfCheapest_74 : decode cX6_firstOfCheapest 74 = .ok (.iinc 5 1, 3) := by decide +kernel
theorem dX6_firstOfCheapest_77 : decode cX6_firstOfCheapest 77 = .ok (.goto (-74), 3) := by decide +kernel
theorem dX6_firstOfCheapest_80 : decode cX6_firstOfCheapest 80 = .ok (.ldc 21, 2) := by decide +kernel
theorem dX6_firstOfCheapest_82 : decode cX6_firstOfCheapest 82 = .ok (.ireturn, 1) := by decide +kernel
set_option maxRecDepth 20000 in
theorem ggX7_init_X5_init : GoodIn wsX7_init wsX5_init := goodIn_r _ [32, 33, 2, 3, 34, 35, 36, 37, 38, 82, 83, 84] (by decide +kernel) (by decide +kernel)
set_option maxRecDepth 20000 in
theorem gX7_init_X5_init_n9 : GoodIn wsX7_init (wsX5_init) := ggX7_init_X5_init
set_option maxRecDepth 20000 in
theorem ggX7_init_X4_init : GoodIn wsX7_init wsX4_init := goodIn_r _ [40, 41, 2, 3, 35, 42, 43, 44, 45, 46, 47, 94, 95, 96, 97, 98, 99] (by decide +kernel) (by decide +kernel)
set_option maxRecDepth 20000 in
theorem gX7_init_X4_init_n18 : GoodIn wsX7_init (wsX4_init) := ggX7_init_X4_init
set_option maxRecDepth 20000 in
theorem ggX7_init_X2_init : GoodIn wsX7_init wsX2_init := goodIn_r _ [49, 50, 2, 3, 51, 52, 53, 54, 55, 56, 35, 57, 58, 59, 60, 61, 62, 63, 100, 101, 102, 103, 104, 105, 106, 107, 108, 109, 110, 111, 112] (by decide +kernel) (by decide +kernel)
set_option maxRecDepth 20000 in
theorem gX7_init_X2_init_n25 : GoodIn wsX7_init (wsX2_init) := ggX7_init_X2_init
set_option maxRecDepth 20000 in
theorem ggX7_init_X0_init : GoodIn wsX7_init wsX0_init := goodIn_r _ [65, 66, 2, 3, 35, 67, 68, 69, 70, 71, 113, 114, 115, 116, 117] (by decide +kernel) (by decide +kernel)
set_option maxRecDepth 20000 in
theorem gX7_init_X0_init_n39 : GoodIn wsX7_init (wsX0_init) := ggX7_init_X0_init
set_option maxRecDepth 20000 in
theorem ggX7_init_X6_init : GoodIn wsX7_init wsX6_init := goodIn_r _ [73, 74, 2, 3, 75, 35, 76, 118] (by decide +kernel) (by decide +kernel)
set_option maxRecDepth 20000 in
theorem gX7_init_X6_init_n46 : GoodIn wsX7_init (wsX6_init) := ggX7_init_X6_init
set_option maxRecDepth 20000 in
theorem ggX7_init_X1_init : GoodIn wsX7_init wsX1_init := goodIn_r _ [78, 79, 2, 3, 35, 80, 81, 119, 120] (by decide +kernel) (by decide +kernel)
set_option maxRecDepth 20000 in
theorem gX7_init_X1_init_n53 : GoodIn wsX7_init (wsX1_init) := ggX7_init_X1_init
