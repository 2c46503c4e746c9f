theorem dX8_isStreet_1 : decode cX8_isStreet 1 = .ok (.i2l, 1) := by decide +kernel
theorem dX8_isStreet_2 : decode cX8_isStreet 2 = .ok (.lconst 0, 1) := by decide +kernel
theorem dX8_isStreet_3 : decode cX8_isStreet 3 = .ok (.aload_n 0, 1) := by decide +kernel
theorem dX8_isStreet_4 : decode cX8_isStreet 4 = .ok (.getfield 7, 3) := by decide +kernel
theorem dX8_isStreet_7 : decode cX8_isStreet 7 = .ok (.iconst 1, 1) := by decide +kernel
theorem dX8_isStreet_8 : decode cX8_isStreet 8 = .ok (.iaload, 1) := by decide +kernel
theorem dX8_isStreet_9 : decode cX8_isStreet 9 = .ok (.iconst 1, 1) := by decide +kernel
theorem dX8_isStreet_10 : decode cX8_isStreet 10 = .ok (.isub, 1) := by decide +kernel
theorem dX8_isStreet_11 : decode cX8_isStreet 11 = .ok (.i2l, 1) := by decide +kernel
theorem dX8_isStreet_12 : decode cX8_isStreet 12 = .ok (.invokestatic 42, 3) := by decide +kernel
theorem dX8_isStreet_15 : decode cX8_isStreet 15 = .ok (.ireturn, 1) := by decide +kernel
theorem dX8_wave_0 : decode cX8_wave 0 = .ok (.iload_n 1, 1) := by decide +kernel
theorem dX8_wave_1 : decode cX8_wave 1 = .ok (.aload_n 0, 1) := by decide +kernel
theorem dX8_wave_2 : decode cX8_wave 2 = .ok (.getfield 7, 3) := by decide +kernel
theorem dX8_wave_5 : decode cX8_wave 5 = .ok (.iconst 0, 1) := by decide +kernel
theorem dX8_wave_6 : decode cX8_wave 6 = .ok (.iaload, 1) := by decide +kernel
theorem dX8_wave_7 : decode cX8_wave 7 = .ok (.imul, 1) := by decide +kernel
theorem dX8_wave_8 : decode cX8_wave 8 = .ok (.iload_n 1, 1) := by decide +kernel
theorem dX8_wave_9 : decode cX8_wave 9 = .ok (.aload_n 0, 1) := by decide +kernel
theorem dX8_wave_10 : decode cX8_wave 10 = .ok (.getfield 7, 3) := by decide +kernel
theorem dX8_wave_13 : decode cX8_wave 13 = .ok (.bipush 12, 2) := by decide +kernel
theorem dX8_wave_15 : decode cX8_wave 15 = .ok (.iload_n 2, 1) := by decide +kernel
theorem dX8_wave_16 : decode cX8_wave 16 = .ok (.iadd, 1) := by decide +kernel
theorem dX8_wave_17 : decode cX8_wave 17 = .ok (.iaload, 1) := by decide +kernel
theorem dX8_wave_18 : decode cX8_wave 18 = .ok (.imul, 1) := by decide +kernel
theorem dX8_wave_19 : decode cX8_wave 19 = .ok (.bipush 10, 2) := by decide +kernel
theorem dX8_wave_21 : decode cX8_wave 21 = .ok (.idiv, 1) := by decide +kernel
theorem dX8_wave_22 : decode cX8_wave 22 = .ok (.iadd, 1) := by decide +kernel
theorem dX8_wave_23 : decode cX8_wave 23 = .ok (.ireturn, 1) := by decide +kernel
set_option maxRecDepth 20000 in
theorem ggX8_plainDuty_X8_wave : GoodIn wsX8_plainDuty wsX8_wave := goodIn_r _ [6, 1, 7, 8, 9, 10, 11, 12, 13, 14, 15, 16, 17, 18, 19, 20, 21, 22, 23] (by decide +kernel) (by decide +kernel)
set_option maxRecDepth 20000 in
theorem gX8_plainDuty_X8_wave : GoodIn wsX8_plainDuty (wsV RX8 135 RX8 yX8_wave wsX8_wave) := goodIn_app (goodIn_of _ (by decide +kernel)) ggX8_plainDuty_X8_wave
theorem dX8_plainDuty_0 : decode cX8_plainDuty 0 = .ok (.iload_n 1, 1) := by decide +kernel
theorem dX8_plainDuty_1 : decode cX8_plainDuty 1 = .ok (.tableswitch 95 2 5 #[31, 40, 69, 71], 31) := by decide +kernel
theorem dX8_plainDuty_32 : decode cX8_plainDuty 32 = .ok (.aload_n 0, 1) := by decide +kernel
theorem dX8_plainDuty_33 : decode cX8_plainDuty 33 = .ok (.iload_n 2, 1) := by decide +kernel
theorem dX8_plainDuty_34 : decode cX8_plainDuty 34 = .ok (.iload_n 3, 1) := by decide +kernel
theorem dX8_plainDuty_35 : decode cX8_plainDuty 35 = .ok (.invokevirtual 135, 3) := by decide +kernel
theorem dX8_plainDuty_38 : decode cX8_plainDuty 38 = .ok (.iconst 2, 1) := by decide +kernel
theorem dX8_plainDuty_39 : decode cX8_plainDuty 39 = .ok (.idiv, 1) := by decide +kernel
theorem dX8_plainDuty_40 : decode cX8_plainDuty 40 = .ok (.ireturn, 1) := by decide +kernel
theorem dX8_plainDuty_41 : decode cX8_plainDuty 41 = .ok (.aload_n 0, 1) := by decide +kernel
theorem dX8_plainDuty_42 : decode cX8_plainDuty 42 = .ok (.iload_n 2, 1) := by decide +kernel
theorem dX8_plainDuty_43 : decode cX8_plainDuty 43 = .ok (.iload_n 3, 1) := by decide +kernel
theorem dX8_plainDuty_44 : decode cX8_plainDuty 44 = .ok (.invokevirtual 135, 3) := by decide +kernel
theorem dX8_plainDuty_47 : decode cX8_plainDuty 47 = .ok (.iload_n 2, 1) := by decide +kernel
theorem dX8_plainDuty_48 : decode cX8_plainDuty 48 = .ok (.bipush 10, 2) := by decide +kernel
theorem dX8_plainDuty_50 : decode cX8_plainDuty 50 = .ok (.if_icmp .le 17, 3) := by decide +kernel
theorem dX8_plainDuty_53 : decode cX8_plainDuty 53 = .ok (.aload_n 0, 1) := by decide +kernel
theorem dX8_plainDuty_54 : decode cX8_plainDuty 54 = .ok (.getfield 7, 3) := by decide +kernel
theorem dX8_plainDuty_57 : decode cX8_plainDuty 57 = .ok (.iconst 0, 1) := by decide +kernel
theorem dX8_plainDuty_58 : decode cX8_plainDuty 58 = .ok (.iaload, 1) := by decide +kernel
theorem dX8_plainDuty_59 : decode cX8_plainDuty 59 = .ok (.iload_n 2, 1) := by decide +kernel
theorem dX8_plainDuty_60 : decode cX8_plainDuty 60 = .ok (.bipush 10, 2) := by decide +kernel
theorem dX8_plainDuty_62 : decode cX8_plainDuty 62 = .ok (.isub, 1) := by decide +kernel
theorem dX8_plainDuty_63 : decode cX8_plainDuty 63 = .ok (.imul, 1) := by decide +kernel
theorem dX8_plainDuty_64 : decode cX8_plainDuty 64 = .ok (.goto 4, 3) := by decide +kernel
theorem dX8_plainDuty_67 : decode cX8_plainDuty 67 = .ok (.iconst 0, 1) := by decide +kernel
theorem dX8_plainDuty_68 : decode cX8_plainDuty 68 = .ok (.iadd, 1) := by decide +kernel
theorem dX8_plainDuty_69 : decode cX8_plainDuty 69 = .ok (.ireturn, 1) := by decide +kernel
theorem dX8_plainDuty_70 : decode cX8_plainDuty 70 = .ok (.iconst 1, 1) := by decide +kernel
theorem dX8_plainDuty_71 : decode cX8_plainDuty 71 = .ok (.ireturn, 1) := by decide +kernel
theorem dX8_plainDuty_72 : decode cX8_plainDuty 72 = .ok (.aload_n 0, 1) := by decide +kernel
theorem dX8_plainDuty_73 : decode cX8_plainDuty 73 = .ok (.getfield 7, 3) := by decide +kernel
theorem dX8_plainDuty_76 : decode cX8_plainDuty 76 = .ok (.bipush 12, 2) := by decide +kernel
theorem dX8_plainDuty_78 : decode cX8_plainDuty 78 = .ok (.iload_n 3, 1) := by decide +kernel
theorem dX8_plainDuty_79 : decode cX8_plainDuty 79 = .ok (.iadd, 1) := by decide +kernel
theorem dX8_plainDuty_80 : decode cX8_plainDuty 80 = .ok (.iaload, 1) := by decide +kernel
theorem dX8_plainDuty_81 : decode cX8_plainDuty 81 = .ok (.iconst 5, 1) := by decide +kernel
theorem dX8_plainDuty_82 : decode cX8_plainDuty 82 = .ok (.if_icmp .ge 7, 3) := by decide +kernel
theorem dX8_plainDuty_85 : decode cX8_plainDuty 85 = .ok (.iconst 1, 1) := by decide +kernel
theorem dX8_plainDuty_86 : decode cX8_plainDuty 86 = .ok (.goto 9, 3) := by decide +kernel
theorem dX8_plainDuty_89 : decode cX8_plainDuty 89 = .ok (.aload_n 0, 1) := by decide +kernel
theorem dX8_plainDuty_90 : decode cX8_plainDuty 90 = .ok (.iload_n 2, 1) := by decide +kernel
theorem dX8_plainDuty_91 : decode cX8_plainDuty 91 = .ok (.iload_n 3, 1) := by decide +kernel
theorem dX8_plainDuty_92 : decode cX8_plainDuty 92 = .ok (.invokevirtual 135, 3) := by decide +kernel
theorem dX8_plainDuty_95 : decode cX8_plainDuty 95 = .ok (.ireturn, 1) := by decide +kernel
theorem dX8_plainDuty_96 : decode cX8_plainDuty 96 = .ok (.aload_n 0, 1) := by decide +kernel
theorem dX8_plainDuty_97 : decode cX8_plainDuty 97 = .ok (.iload_n 2, 1) := by decide +kernel
theorem dX8_plainDuty_98 : decode cX8_plainDuty 98 = .ok (.iload_n 3, 1) := by decide +kernel
theorem dX8_plainDuty_99 : decode cX8_plainDuty 99 = .ok (.invokevirtual 135, 3) := by decide +kernel
theorem dX8_plainDuty_102 : decode cX8_plainDuty 102 = .ok (.ireturn, 1) := by decide +kernel
set_option maxRecDepth 20000 in
theorem ggX8_owes_X8_plainDuty : GoodIn wsX8_owes wsX8_plainDuty := goodIn_r _ [6, 1, 7, 8, 9, 5, 10, 14, 15, 16, 17, 18, 19, 20, 21, 22, 23, 24, 25, 26, 27, 28, 29, 30] (by decide +kernel) (by decide +kernel)
set_option maxRecDepth 20000 in
theorem gX8_owes_X8_plainDuty : GoodIn wsX8_owes (wsV RX8 138 RX8 yX8_plainDuty wsX8_plainDuty) := goodIn_app (goodIn_of _ (by decide +kernel)) ggX8_owes_X8_plainDuty
set_option maxRecDepth 20000 in
theorem ggX8_owes_X8_has : GoodIn wsX8_owes wsX8_has := goodIn_r _ [13] (by decide +kernel) (by decide +kernel)
set_option maxRecDepth 20000 in
theorem gX8_owes_X8_has : GoodIn wsX8_owes (va_wsS RX8 142 yX8_has wsX8_has) := goodIn_app (goodIn_of _ (by decide +kernel)) ggX8_owes_X8_has
theorem dX8_owes_0 : decode cX8_owes 0 = .ok (.aload_n 0, 1) := by decide +kernel
theorem dX8_owes_1 : decode cX8_owes 1 = .ok (.iload_n 1, 1) := by decide +kernel
theorem dX8_owes_2 : decode cX8_owes 2 = .ok (.iload_n 2, 1) := by decide +kernel
theorem dX8_owes_3 : decode cX8_owes 3 = .ok (.iload_n 3, 1) := by decide +kernel
theorem dX8_owes_4 : decode cX8_owes 4 = .ok (.invokevirtual 138, 3) := by decide +kernel
theorem dX8_owes_7 : decode cX8_owes 7 = .ok (.istore 4, 2) := by decide +kernel
theorem dX8_owes_9 : decode cX8_owes 9 = .ok (.aload_n 0, 1) := by decide +kernel
theorem dX8_owes_10 : decode cX8_owes 10 = .ok (.getfield 7, 3) := by decide +kernel
theorem dX8_owes_13 : decode cX8_owes 13 = .ok (.iconst 4, 1) := by decide +kernel
theorem dX8_owes_14 : decode cX8_owes 14 = .ok (.iaload, 1) := by decide +kernel
theorem dX8_owes_15 : decode cX8_owes 15 = .ok (.iload_n 3, 1) := by decide +kernel
theorem dX8_owes_16 : decode cX8_owes 16 = .ok (.invokestatic 142, 3) := by decide +kernel
theorem dX8_owes_19 : decode cX8_owes 19 = .ok (.ifCond .eq 10, 3) := by decide +kernel
theorem dX8_owes_22 : decode cX8_owes 22 = .ok (.iload 4, 2) := by decide +kernel
theorem dX8_owes_24 : decode cX8_owes 24 = .ok (.iconst 2, 1) := by decide +kernel
theorem dX8_owes_25 : decode cX8_owes 25 = .ok (.idiv, 1) := by decide +kernel
theorem dX8_owes_26 : decode cX8_owes 26 = .ok (.goto 5, 3) := by decide +kernel
theorem dX8_owes_29 : decode cX8_owes 29 = .ok (.iload 4, 2) := by decide +kernel
theorem dX8_owes_31 : decode cX8_owes 31 = .ok (.ireturn, 1) := by decide +kernel
set_option maxRecDepth 20000 in
theorem ggX8_dutyOf_X8_owes : GoodIn wsX8_dutyOf wsX8_owes := goodIn_r _ [6, 1, 7, 8, 9, 5, 10, 11, 12, 13, 14, 15, 16, 17, 18, 19, 20, 21, 22, 23, 24, 25, 26, 27, 28, 29, 30, 31, 32, 33, 34] (by decide +kernel) (by decide +kernel)
set_option maxRecDepth 20000 in
theorem gX8_dutyOf_X8_owes : GoodIn wsX8_dutyOf (wsV RX8 145 RX8 yX8_owes wsX8_owes) := goodIn_app (goodIn_of _ (by decide +kernel)) ggX8_dutyOf_X8_owes
theorem dX8_dutyOf_0 : decode cX8_dutyOf 0 = .ok (.aload_n 0, 1) := by decide +kernel
theorem dX8_dutyOf_1 : decode cX8_dutyOf 1 = .ok (.aload_n 0, 1) := by decide +kernel
theorem dX8_dutyOf_2 : decode cX8_dutyOf 2 = .ok (.getfield 7, 3) := by decide +kernel
theorem dX8_dutyOf_5 : decode cX8_dutyOf 5 = .ok (.bipush 19, 2) := by decide +kernel
theorem dX8_dutyOf_7 : decode cX8_dutyOf 7 = .ok (.iload_n 1, 1) := by decide +kernel
theorem dX8_dutyOf_8 : decode cX8_dutyOf 8 = .ok (.iadd, 1) := by decide +kernel
theorem dX8_dutyOf_9 : decode cX8_dutyOf 9 = .ok (.iaload, 1) := by decide +kernel
theorem dX8_dutyOf_10 : decode cX8_dutyOf 10 = .ok (.aload_n 0, 1) := by decide +kernel
theorem dX8_dutyOf_11 : decode cX8_dutyOf 11 = .ok (.getfield 7, 3) := by decide +kernel
theorem dX8_dutyOf_14 : decode cX8_dutyOf 14 = .ok (.bipush 25, 2) := by decide +kernel
theorem dX8_dutyOf_16 : decode cX8_dutyOf 16 = .ok (.iload_n 1, 1) := by decide +kernel
theorem dX8_dutyOf_17 : decode cX8_dutyOf 17 = .ok (.iadd, 1) := by decide +kernel
theorem dX8_dutyOf_18 : decode cX8_dutyOf 18 = .ok (.iaload, 1) := by decide +kernel
theorem dX8_dutyOf_19 : decode cX8_dutyOf 19 = .ok (.iload_n 2, 1) := by decide +kernel
theorem dX8_dutyOf_20 : decode cX8_dutyOf 20 = .ok (.invokevirtual 145, 3) := by decide +kernel
theorem dX8_dutyOf_23 : decode cX8_dutyOf 23 = .ok (.ireturn, 1) := by decide +kernel
theorem dX8_isSeen_0 : decode cX8_isSeen 0 = .ok (.aload_n 0, 1) := by decide +kernel
theorem dX8_isSeen_1 : decode cX8_isSeen 1 = .ok (.getfield 7, 3) := by decide +kernel
theorem dX8_isSeen_4 : decode cX8_isSeen 4 = .ok (.bipush 19, 2) := by decide +kernel
theorem dX8_isSeen_6 : decode cX8_isSeen 6 = .ok (.iload_n 1, 1) := by decide +kernel
theorem dX8_isSeen_7 : decode cX8_isSeen 7 = .ok (.iadd, 1) := by decide +kernel
theorem dX8_isSeen_8 : decode cX8_isSeen 8 = .ok (.iaload, 1) := by decide +kernel
theorem dX8_isSeen_9 : decode cX8_isSeen 9 = .ok (.iconst 3, 1) := by decide +kernel
theorem dX8_isSeen_10 : decode cX8_isSeen 10 = .ok (.if_icmp .le 7, 3) := by decide +kernel
theorem dX8_isSeen_13 : decode cX8_isSeen 13 = .ok (.iconst 5, 1) := by decide +kernel
theorem dX8_isSeen_14 : decode cX8_isSeen 14 = .ok (.goto 4, 3) := by decide +kernel
theorem dX8_isSeen_17 : decode cX8_isSeen 17 = .ok (.iconst 0, 1) := by decide +kernel
theorem dX8_isSeen_18 : decode cX8_isSeen 18 = .ok (.istore_n 3, 1) := by decide +kernel
theorem dX8_isSeen_19 : decode cX8_isSeen 19 = .ok (.aload_n 0, 1) := by decide +kernel
theorem dX8_isSeen_20 : decode cX8_isSeen 20 = .ok (.getfield 7, 3) := by decide +kernel
theorem dX8_isSeen_23 : decode cX8_isSeen 23 = .ok (.bipush 25, 2) := by decide +kernel
theorem dX8_isSeen_25 : decode cX8_isSeen 25 = .ok (.iload_n 1, 1) := by decide +kernel
theorem dX8_isSeen_26 : decode cX8_isSeen 26 = .ok (.iadd, 1) := by decide +kernel
theorem dX8_isSeen_27 : decode cX8_isSeen 27 = .ok (.iaload, 1) := by decide +kernel
theorem dX8_isSeen_28 : decode cX8_isSeen 28 = .ok (.iload_n 3, 1) := by decide +kernel
theorem dX8_isSeen_29 : decode cX8_isSeen 29 = .ok (.iadd, 1) := by decide +kernel
theorem dX8_isSeen_30 : decode cX8_isSeen 30 = .ok (.aload_n 0, 1) := by decide +kernel
theorem dX8_isSeen_31 : decode cX8_isSeen 31 = .ok (.getfield 7, 3) := by decide +kernel
theorem dX8_isSeen_34 : decode cX8_isSeen 34 = .ok (.iconst 5, 1) := by decide +kernel
theorem dX8_isSeen_35 : decode cX8_isSeen 35 = .ok (.iload_n 2, 1) := by decide +kernel
theorem dX8_isSeen_36 : decode cX8_isSeen 36 = .ok (.iadd, 1) := by decide +kernel
theorem dX8_isSeen_37 : decode cX8_isSeen 37 = .ok (.iaload, 1) := by decide +kernel
theorem dX8_isSeen_38 : decode cX8_isSeen 38 = .ok (.if_icmp .lt 7, 3) := by decide +kernel
theorem dX8_isSeen_41 : decode cX8_isSeen 41 = .ok (.iconst 1, 1) := by decide +kernel
theorem dX8_isSeen_42 : decode cX8_isSeen 42 = .ok (.goto 4, 3) := by decide +kernel
theorem dX8_isSeen_45 : decode cX8_isSeen 45 = .ok (.iconst 0, 1) := by decide +kernel
theorem dX8_isSeen_46 : decode cX8_isSeen 46 = .ok (.ireturn, 1) := by decide +kernel
set_option maxRecDepth 20000 in
theorem ggX8_make_X8_isGesture : GoodIn wsX8_make wsX8_isGesture := goodIn_r _ [10, 3, 11, 12, 9, 13, 50, 51, 52, 53, 54, 55, 56, 57, 58, 59, 60, 61, 62, 63, 64, 65, 66] (by decide +kernel) (by decide +kernel)
set_option maxRecDepth 20000 in
theorem gX8_make_X8_isGesture : GoodIn wsX8_make (wsV RX8 148 RX8 yX8_isGesture wsX8_isGesture) := goodIn_app (goodIn_of _ (by decide +kernel)) ggX8_make_X8_isGesture
set_option maxRecDepth 20000 in
theorem ggX8_make_X8_isStreet : GoodIn wsX8_make wsX8_isStreet := goodIn_r _ [17, 3, 11, 12, 9, 13, 50, 51, 52, 53, 54, 55, 56, 57, 58, 59, 60, 61, 62, 63, 64, 65, 66] (by decide +kernel) (by decide +kernel)
set_option maxRecDepth 20000 in
theorem gX8_make_X8_isStreet : GoodIn wsX8_make (wsV RX8 151 RX8 yX8_isStreet wsX8_isStreet) := goodIn_app (goodIn_of _ (by decide +kernel)) ggX8_make_X8_isStreet
set_option maxRecDepth 20000 in
theorem ggX8_make_X8_isSeen : GoodIn wsX8_make wsX8_isSeen := goodIn_r _ [21, 3, 50, 51, 52, 53, 54, 55, 56, 57, 58, 59, 60, 61, 62, 63, 64, 65, 66] (by decide +kernel) (by decide +kernel)
set_option maxRecDepth 20000 in
theorem gX8_make_X8_isSeen : GoodIn wsX8_make (wsV RX8 154 RX8 yX8_isSeen wsX8_isSeen) := goodIn_app (goodIn_of _ (by decide +kernel)) ggX8_make_X8_isSeen
set_option maxRecDepth 20000 in
theorem ggX8_make_X8_dutyOf : GoodIn wsX8_make wsX8_dutyOf := goodIn_r _ [25, 3, 26, 27, 28, 9, 29, 30, 31, 32, 33, 34, 35, 36, 37, 38, 39, 40, 50, 51, 52, 53, 54, 55, 56, 57, 58, 59, 60, 61, 62, 63, 64, 65, 66] (by decide +kernel) (by decide +kernel)
set_option maxRecDepth 20000 in
theorem gX8_make_X8_dutyOf : GoodIn wsX8_make (wsV RX8 157 RX8 yX8_dutyOf wsX8_dutyOf) := goodIn_app (goodIn_of _ (by decide +kernel)) ggX8_make_X8_dutyOf
set_option maxRecDepth 20000 in
theorem ggX8_make_X8_keepPast : GoodIn wsX8_make wsX8_keepPast := goodIn_r _ [44, 45, 3, 46, 47, 48, 9, 49, 50, 51, 52, 53, 54, 55, 56, 57, 58, 59, 60, 61, 62, 63, 64, 65, 66] (by decide +kernel) (by decide +kernel)
set_option maxRecDepth 20000 in
theorem gX8_make_X8_keepPast : GoodIn wsX8_make (wsV RX8 161 RX8 yX8_keepPast wsX8_keepPast) := goodIn_app (goodIn_of _ (by decide +kernel)) ggX8_make_X8_keepPast
theorem dX8_make_0 : decode cX8_make 0 = .ok (.aload_n 0, 1) := by decide +kernel
theorem dX8_make_1 : decode cX8_make 1 = .ok (.iload_n 1, 1) := by decide +kernel
theorem dX8_make_2 : decode cX8_make 2 = .ok (.invokevirtual 148, 3) := by decide +kernel
theorem dX8_make_5 : decode cX8_make 5 = .ok (.ifCond .eq 11, 3) := by decide +kernel
theorem dX8_make_8 : decode cX8_make 8 = .ok (.aload_n 0, 1) := by decide +kernel
theorem dX8_make_9 : decode cX8_make 9 = .ok (.iload_n 2, 1) := by decide +kernel
theorem dX8_make_10 : decode cX8_make 10 = .ok (.invokevirtual 151, 3) := by decide +kernel
theorem dX8_make_13 : decode cX8_make 13 = .ok (.ifCond .ne 6, 3) := by decide +kernel
theorem dX8_make_16 : decode cX8_make 16 = .ok (.ldc 52, 2) := by decide +kernel
theorem dX8_make_18 : decode cX8_make 18 = .ok (.ireturn, 1) := by decide +kernel
theorem dX8_make_19 : decode cX8_make 19 = .ok (.aload_n 0, 1) := by decide +kernel
theorem dX8_make_20 : decode cX8_make 20 = .ok (.iload_n 1, 1) := by decide +kernel
theorem dX8_make_21 : decode cX8_make 21 = .ok (.iload_n 2, 1) := by decide +kernel
theorem dX8_make_22 : decode cX8_make 22 = .ok (.invokevirtual 154, 3) := by decide +kernel
theorem dX8_make_25 : decode cX8_make 25 = .ok (.ifCond .ne 6, 3) := by decide +kernel
theorem dX8_make_28 : decode cX8_make 28 = .ok (.ldc 134, 2) := by decide +kernel
theorem dX8_make_30 : decode cX8_make 30 = .ok (.ireturn, 1) := by decide +kernel
theorem dX8_make_31 : decode cX8_make 31 = .ok (.aload_n 0, 1) := by decide +kernel
theorem dX8_make_32 : decode cX8_make 32 = .ok (.getfield 7, 3) := by decide +kernel
theorem dX8_make_35 : decode cX8_make 35 = .ok (.iconst 3, 1) := by decide +kernel
theorem dX8_make_36 : decode cX8_make 36 = .ok (.iaload, 1) := by decide +kernel
theorem dX8_make_37 : decode cX8_make 37 = .ok (.aload_n 0, 1) := by decide +kernel
theorem dX8_make_38 : decode cX8_make 38 = .ok (.iload_n 1, 1) := by decide +kernel
theorem dX8_make_39 : decode cX8_make 39 = .ok (.iload_n 2, 1) := by decide +kernel
theorem dX8_make_40 : decode cX8_make 40 = .ok (.invokevirtual 157, 3) := by decide +kernel
theorem dX8_make_43 : decode cX8_make 43 = .ok (.iadd, 1) := by decide +kernel
theorem dX8_make_44 : decode cX8_make 44 = .ok (.istore_n 3, 1) := by decide +kernel
theorem dX8_make_45 : decode cX8_make 45 = .ok (.iload_n 3, 1) := by decide +kernel
theorem dX8_make_46 : decode cX8_make 46 = .ok (.ldc 160, 2) := by decide +kernel
theorem dX8_make_48 : decode cX8_make 48 = .ok (.if_icmp .le 6, 3) := by decide +kernel
theorem dX8_make_51 : decode cX8_make 51 = .ok (.ldc 73, 2) := by decide +kernel
theorem dX8_make_53 : decode cX8_make 53 = .ok (.ireturn, 1) := by decide +kernel
theorem dX8_make_54 : decode cX8_make 54 = .ok (.aload_n 0, 1) := by decide +kernel
theorem dX8_make_55 : decode cX8_make 55 = .ok (.invokevirtual 161, 3) := by decide +kernel
theorem dX8_make_58 : decode cX8_make 58 = .ok (.aload_n 0, 1) := by decide +kernel
theorem dX8_make_59 : decode cX8_make 59 = .ok (.getfield 7, 3) := by decide +kernel
theorem dX8_make_62 : decode cX8_make 62 = .ok (.iconst 3, 1) := by decide +kernel
theorem dX8_make_63 : decode cX8_make 63 = .ok (.iload_n 3, 1) := by decide +kernel
theorem dX8_make_64 : decode cX8_make 64 = .ok (.iastore, 1) := by decide +kernel
theorem dX8_make_65 : decode cX8_make 65 = .ok (.aload_n 0, 1) := by decide +kernel
theorem dX8_make_66 : decode cX8_make 66 = .ok (.getfield 7, 3) := by decide +kernel
theorem dX8_make_69 : decode cX8_make 69 = .ok (.bipush 43, 2) := by decide +kernel
theorem dX8_make_71 : decode cX8_make 71 = .ok (.iload_n 1, 1) := by decide +kernel
theorem dX8_make_72 : decode cX8_make 72 = .ok (.iadd, 1) := by decide +kernel
theorem dX8_make_73 : decode cX8_make 73 = .ok (.dup2, 1) := by decide +kernel
theorem dX8_make_74 : decode cX8_make 74 = .ok (.iaload, 1) := by decide +kernel
theorem dX8_make_75 : decode cX8_make 75 = .ok (.iconst 1, 1) := by decide +kernel
theorem dX8_make_76 : decode cX8_make 76 = .ok (.iadd, 1) := by decide +kernel
theorem dX8_make_77 : decode cX8_make 77 = .ok (.iastore, 1) := by decide +kernel
theorem dX8_make_78 : decode cX8_make 78 = .ok (.iload_n 3, 1) := by decide +kernel
theorem dX8_make_79 : decode cX8_make 79 = .ok (.ireturn, 1) := by decide +kernel
set_option maxRecDepth 20000 in
theorem ggX8_dim_X8_isStreet : GoodIn wsX8_dim wsX8_isStreet := goodIn_r _ [8, 3, 9, 10, 7, 11, 21, 22, 23, 24, 25, 26, 27, 28, 29, 30, 31, 32, 33, 34, 35, 36, 37] (by decide +kernel) (by decide +kernel)
set_option maxRecDepth 20000 in
theorem gX8_dim_X8_isStreet : GoodIn wsX8_dim (wsV RX8 151 RX8 yX8_isStreet wsX8_isStreet) := goodIn_app (goodIn_of _ (by decide +kernel)) ggX8_dim_X8_isStreet
set_option maxRecDepth 20000 in
theorem ggX8_dim_X8_in : GoodIn wsX8_dim wsX8_in := goodIn_r _ [11] (by decide +kernel) (by decide +kernel)
set_option maxRecDepth 20000 in
theorem gX8_dim_X8_in : GoodIn wsX8_dim (va_wsS RX8 42 yX8_in wsX8_in) := goodIn_app (goodIn_of _ (by decide +kernel)) ggX8_dim_X8_in
set_option maxRecDepth 20000 in
theorem ggX8_dim_X8_keepPast : GoodIn wsX8_dim wsX8_keepPast := goodIn_r _ [15, 16, 3, 17, 18, 19, 7, 20, 21, 22, 23, 24, 25, 26, 27, 28, 29, 30, 31, 32, 33, 34, 35, 36, 37] (by decide +kernel) (by decide +kernel)
set_option maxRecDepth 20000 in
theorem gX8_dim_X8_keepPast : GoodIn wsX8_dim (wsV RX8 161 RX8 yX8_keepPast wsX8_keepPast) := goodIn_app (goodIn_of _ (by decide +kernel)) ggX8_dim_X8_keepPast
theorem dX8_dim_0 : decode cX8_dim 0 = .ok (.aload_n 0, 1) := by decide +kernel
theorem dX8_dim_1 : decode cX8_dim 1 = .ok (.iload_n 1, 1) := by decide +kernel
theorem dX8_dim_2 : decode cX8_dim 2 = .ok (.invokevirtual 151, 3) := by decide +kernel
theorem dX8_dim_5 : decode cX8_dim 5 = .ok (.ifCond .eq 15, 3) := by decide +kernel
theorem dX8_dim_8 : decode cX8_dim 8 = .ok (.iload_n 2, 1) := by decide +kernel
theorem dX8_dim_9 : decode cX8_dim 9 = .ok (.i2l, 1) := by decide +kernel
theorem dX8_dim_10 : decode cX8_dim 10 = .ok (.lconst 0, 1) := by decide +kernel
theorem dX8_dim_11 : decode cX8_dim 11 = .ok (.ldc2_w 164, 3) := by decide +kernel
theorem dX8_dim_14 : decode cX8_dim 14 = .ok (.invokestatic 42, 3) := by decide +kernel
theorem dX8_dim_17 : decode cX8_dim 17 = .ok (.ifCond .ne 6, 3) := by decide +kernel
theorem dX8_dim_20 : decode cX8_dim 20 = .ok (.ldc 52, 2) := by decide +kernel
theorem dX8_dim_22 : decode cX8_dim 22 = .ok (.ireturn, 1) := by decide +kernel
theorem dX8_dim_23 : decode cX8_dim 23 = .ok (.aload_n 0, 1) := by decide +kernel
theorem dX8_dim_24 : decode cX8_dim 24 = .ok (.invokevirtual 161, 3) := by decide +kernel
theorem dX8_dim_27 : decode cX8_dim 27 = .ok (.aload_n 0, 1) := by decide +kernel
theorem dX8_dim_28 : decode cX8_dim 28 = .ok (.getfield 7, 3) := by decide +kernel
theorem dX8_dim_31 : decode cX8_dim 31 = .ok (.iconst 5, 1) := by decide +kernel
theorem dX8_dim_32 : decode cX8_dim 32 = .ok (.iload_n 1, 1) := by decide +kernel
theorem dX8_dim_33 : decode cX8_dim 33 = .ok (.iadd, 1) := by decide +kernel
theorem dX8_dim_34 : decode cX8_dim 34 = .ok (.iaload, 1) := by decide +kernel
theorem dX8_dim_35 : decode cX8_dim 35 = .ok (.istore_n 3, 1) := by decide +kernel
theorem dX8_dim_36 : decode cX8_dim 36 = .ok (.aload_n 0, 1) := by decide +kernel
theorem dX8_dim_37 : decode cX8_dim 37 = .ok (.getfield 7, 3) := by decide +kernel
theorem dX8_dim_40 : decode cX8_dim 40 = .ok (.iconst 5, 1) := by decide +kernel
theorem dX8_dim_41 : decode cX8_dim 41 = .ok (.iload_n 1, 1) := by decide +kernel
theorem dX8_dim_42 : decode cX8_dim 42 = .ok (.iadd, 1) := by decide +kernel
theorem dX8_dim_43 : decode cX8_dim 43 = .ok (.iload_n 2, 1) := by decide +kernel
theorem dX8_dim_44 : decode cX8_dim 44 = .ok (.iastore, 1) := by decide +kernel
theorem dX8_dim_45 : decode cX8_dim 45 = .ok (.iload_n 3, 1) := by decide +kernel
theorem dX8_dim_46 : decode cX8_dim 46 = .ok (.ireturn, 1) := by decide +kernel
set_option maxRecDepth 20000 in
theorem ggX8_train_X8_isGesture : GoodIn wsX8_train wsX8_isGesture := goodIn_r _ [9, 3, 10, 11, 8, 12, 22, 23, 24, 25, 26, 27, 28, 29, 30, 31, 32, 33, 34, 35, 36, 37, 38] (by decide +kernel) (by decide +kernel)
set_option maxRecDepth 20000 in
theorem gX8_train_X8_isGesture : GoodIn wsX8_train (wsV RX8 148 RX8 yX8_isGesture wsX8_isGesture) := goodIn_app (goodIn_of _ (by decide +kernel)) ggX8_train_X8_isGesture
set_option maxRecDepth 20000 in
theorem ggX8_train_X8_in : GoodIn wsX8_train wsX8_in := goodIn_r _ [12] (by decide +kernel) (by decide +kernel)
set_option maxRecDepth 20000 in
theorem gX8_train_X8_in : GoodIn wsX8_train (va_wsS RX8 42 yX8_in wsX8_in) := goodIn_app (goodIn_of _ (by decide +kernel)) ggX8_train_X8_in
set_option maxRecDepth 20000 in
theorem ggX8_train_X8_keepPast : GoodIn wsX8_train wsX8_keepPast := goodIn_r _ [16, 17, 3, 18, 19, 20, 8, 21, 22, 23, 24, 25, 26, 27, 28, 29, 30, 31, 32, 33, 34, 35, 36, 37, 38] (by decide +kernel) (by decide +kernel)
set_option maxRecDepth 20000 in
theorem gX8_train_X8_keepPast : GoodIn wsX8_train (wsV RX8 161 RX8 yX8_keepPast wsX8_keepPast) := goodIn_app (goodIn_of _ (by decide +kernel)) ggX8_train_X8_keepPast
theorem dX8_train_0 : decode cX8_train 0 = .ok (.aload_n 0, 1) := by decide +kernel
theorem dX8_train_1 : decode cX8_train 1 = .ok (.iload_n 1, 1) := by decide +kernel
theorem dX8_train_2 : decode cX8_train 2 = .ok (.invokevirtual 148, 3) := by decide +kernel
theorem dX8_train_5 : decode cX8_train 5 = .ok (.ifCond .eq 15, 3) := by decide +kernel
theorem dX8_train_8 : decode cX8_train 8 = .ok (.iload_n 2, 1) := by decide +kernel
theorem dX8_train_9 : decode cX8_train 9 = .ok (.i2l, 1) := by decide +kernel
theorem dX8_train_10 : decode cX8_train 10 = .ok (.lconst 1, 1) := by decide +kernel
theorem dX8_train_11 : decode cX8_train 11 = .ok (.ldc2_w 166, 3) := by decide +kernel
theorem dX8_train_14 : decode cX8_train 14 = .ok (.invokestatic 42, 3) := by decide +kernel
theorem dX8_train_17 : decode cX8_train 17 = .ok (.ifCond .ne 6, 3) := by decide +kernel
theorem dX8_train_20 : decode cX8_train 20 = .ok (.ldc 52, 2) := by decide +kernel
theorem dX8_train_22 : decode cX8_train 22 = .ok (.ireturn, 1) := by decide +kernel
theorem dX8_train_23 : decode cX8_train 23 = .ok (.aload_n 0, 1) := by decide +kernel
theorem dX8_train_24 : decode cX8_train 24 = .ok (.getfield 7, 3) := by decide +kernel
theorem dX8_train_27 : decode cX8_train 27 = .ok (.bipush 25, 2) := by decide +kernel
theorem dX8_train_29 : decode cX8_train 29 = .ok (.iload_n 1, 1) := by decide +kernel
theorem dX8_train_30 : decode cX8_train 30 = .ok (.iadd, 1) := by decide +kernel
theorem dX8_train_31 : decode cX8_train 31 = .ok (.iaload, 1) := by decide +kernel
theorem dX8_train_32 : decode cX8_train 32 = .ok (.iload_n 2, 1) := by decide +kernel
theorem dX8_train_33 : decode cX8_train 33 = .ok (.isub, 1) := by decide +kernel
theorem dX8_train_34 : decode cX8_train 34 = .ok (.iconst 1, 1) := by decide +kernel
theorem dX8_train_35 : decode cX8_train 35 = .ok (.if_icmp .ge 6, 3) := by decide +kernel
theorem dX8_train_38 : decode cX8_train 38 = .ok (.ldc 134, 2) := by decide +kernel
theorem dX8_train_40 : decode cX8_train 40 = .ok (.ireturn, 1) := by decide +kernel
theorem dX8_train_41 : decode cX8_train 41 = .ok (.aload_n 0, 1) := by decide +kernel
theorem dX8_train_42 : decode cX8_train 42 = .ok (.invokevirtual 161, 3) := by decide +kernel
theorem dX8_train_45 : decode cX8_train 45 = .ok (.aload_n 0, 1) := by decide +kernel
theorem dX8_train_46 : decode cX8_train 46 = .ok (.getfield 7, 3) := by decide +kernel
theorem dX8_train_49 : decode cX8_train 49 = .ok (.bipush 25, 2) := by decide +kernel
theorem dX8_train_51 : decode cX8_train 51 = .ok (.iload_n 1, 1) := by decide +kernel
theorem dX8_train_52 : decode cX8_train 52 = .ok (.iadd, 1) := by decide +kernel
theorem dX8_train_53 : decode cX8_train 53 = .ok (.dup2, 1) := by decide +kernel
theorem dX8_train_54 : decode cX8_train 54 = .ok (.iaload, 1) := by decide +kernel
theorem dX8_train_55 : decode cX8_train 55 = .ok (.iload_n 2, 1) := by decide +kernel
theorem dX8_train_56 : decode cX8_train 56 = .ok (.isub, 1) := by decide +kernel
theorem dX8_train_57 : decode cX8_train 57 = .ok (.iastore, 1) := by decide +kernel
theorem dX8_train_58 : decode cX8_train 58 = .ok (.aload_n 0, 1) := by decide +kernel
theorem dX8_train_59 : decode cX8_train 59 = .ok (.getfield 7, 3) := by decide +kernel
theorem dX8_train_62 : decode cX8_train 62 = .ok (.bipush 25, 2) := by decide +kernel
theorem dX8_train_64 : decode cX8_train 64 = .ok (.iload_n 1, 1) := by decide +kernel
theorem dX8_train_65 : decode cX8_train 65 = .ok (.iadd, 1) := by decide +kernel
theorem dX8_train_66 : decode cX8_train 66 = .ok (.iaload, 1) := by decide +kernel
theorem dX8_train_67 : decode cX8_train 67 = .ok (.ireturn, 1) := by decide +kernel
set_option maxRecDepth 20000 in
theorem ggX8_know_X8_isStreet : GoodIn wsX8_know wsX8_isStreet := goodIn_r _ [8, 2, 9, 10, 7, 11, 24, 25, 26, 27, 28, 29, 30, 31, 32, 33, 34, 35, 36, 37, 38, 39, 40] (by decide +kernel) (by decide +kernel)
set_option maxRecDepth 20000 in
theorem gX8_know_X8_isStreet : GoodIn wsX8_know (wsV RX8 151 RX8 yX8_isStreet wsX8_isStreet) := goodIn_app (goodIn_of _ (by decide +kernel)) ggX8_know_X8_isStreet
set_option maxRecDepth 20000 in
theorem ggX8_know_X8_in : GoodIn wsX8_know wsX8_in := goodIn_r _ [11] (by decide +kernel) (by decide +kernel)
set_option maxRecDepth 20000 in
theorem gX8_know_X8_in : GoodIn wsX8_know (va_wsS RX8 42 yX8_in wsX8_in) := goodIn_app (goodIn_of _ (by decide +kernel)) ggX8_know_X8_in
set_option maxRecDepth 20000 in
theorem ggX8_know_X8_has : GoodIn wsX8_know wsX8_has := goodIn_r _ [14] (by decide +kernel) (by decide +kernel)
set_option maxRecDepth 20000 in
theorem gX8_know_X8_has : GoodIn wsX8_know (va_wsS RX8 142 yX8_has wsX8_has) := goodIn_app (goodIn_of _ (by decide +kernel)) ggX8_know_X8_has
set_option maxRecDepth 20000 in
theorem ggX8_know_X8_keepPast : GoodIn wsX8_know wsX8_keepPast := goodIn_r _ [18, 19, 2, 20, 21, 22, 7, 23, 24, 25, 26, 27, 28, 29, 30, 31, 32, 33, 34, 35, 36, 37, 38, 39, 40] (by decide +kernel) (by decide +kernel)
set_option maxRecDepth 20000 in
theorem gX8_know_X8_keepPast : GoodIn wsX8_know (wsV RX8 161 RX8 yX8_keepPast wsX8_keepPast) := goodIn_app (goodIn_of _ (by decide +kernel)) ggX8_know_X8_keepPast
theorem dX8_know_0 : decode cX8_know 0 = .ok (.aload_n 0, 1) := by decide +kernel
theorem dX8_know_1 : decode cX8_know 1 = .ok (.iload_n 1, 1) := by decide +kernel
theorem dX8_know_2 : decode cX8_know 2 = .ok (.invokevirtual 151, 3) := by decide +kernel
theorem dX8_know_5 : decode cX8_know 5 = .ok (.ifCond .eq 13, 3) := by decide +kernel
theorem dX8_know_8 : decode cX8_know 8 = .ok (.iload_n 2, 1) := by decide +kernel
theorem dX8_know_9 : decode cX8_know 9 = .ok (.i2l, 1) := by decide +kernel
theorem dX8_know_10 : decode cX8_know 10 = .ok (.lconst 0, 1) := by decide +kernel
theorem dX8_know_11 : decode cX8_know 11 = .ok (.lconst 1, 1) := by decide +kernel
theorem dX8_know_12 : decode cX8_know 12 = .ok (.invokestatic 42, 3) := by decide +kernel
theorem dX8_know_15 : decode cX8_know 15 = .ok (.ifCond .ne 6, 3) := by decide +kernel
theorem dX8_know_18 : decode cX8_know 18 = .ok (.ldc 52, 2) := by decide +kernel
theorem dX8_know_20 : decode cX8_know 20 = .ok (.ireturn, 1) := by decide +kernel
theorem dX8_know_21 : decode cX8_know 21 = .ok (.aload_n 0, 1) := by decide +kernel
theorem dX8_know_22 : decode cX8_know 22 = .ok (.getfield 7, 3) := by decide +kernel
theorem dX8_know_25 : decode cX8_know 25 = .ok (.iconst 4, 1) := by decide +kernel
theorem dX8_know_26 : decode cX8_know 26 = .ok (.iaload, 1) := by decide +kernel
theorem dX8_know_27 : decode cX8_know 27 = .ok (.iload_n 1, 1) := by decide +kernel
theorem dX8_know_28 : decode cX8_know 28 = .ok (.invokestatic 142, 3) := by decide +kernel
theorem dX8_know_31 : decode cX8_know 31 = .ok (.iload_n 2, 1) := by decide +kernel
theorem dX8_know_32 : decode cX8_know 32 = .ok (.iconst 1, 1) := by decide +kernel
theorem dX8_know_33 : decode cX8_know 33 = .ok (.if_icmp .ne 7, 3) := by decide +kernel
theorem dX8_know_36 : decode cX8_know 36 = .ok (.iconst 1, 1) := by decide +kernel
theorem dX8_know_37 : decode cX8_know 37 = .ok (.goto 4, 3) := by decide +kernel
theorem dX8_know_40 : decode cX8_know 40 = .ok (.iconst 0, 1) := by decide +kernel
theorem dX8_know_41 : decode cX8_know 41 = .ok (.if_icmp .ne 6, 3) := by decide +kernel
theorem dX8_know_44 : decode cX8_know 44 = .ok (.ldc 134, 2) := by decide +kernel
theorem dX8_know_46 : decode cX8_know 46 = .ok (.ireturn, 1) := by decide +kernel
theorem dX8_know_47 : decode cX8_know 47 = .ok (.aload_n 0, 1) := by decide +kernel
theorem dX8_know_48 : decode cX8_know 48 = .ok (.invokevirtual 161, 3) := by decide +kernel
theorem dX8_know_51 : decode cX8_know 51 = .ok (.aload_n 0, 1) := by decide +kernel
theorem dX8_know_52 : decode cX8_know 52 = .ok (.getfield 7, 3) := by decide +kernel
theorem dX8_know_55 : decode cX8_know 55 = .ok (.iconst 4, 1) := by decide +kernel
theorem dX8_know_56 : decode cX8_know 56 = .ok (.dup2, 1) := by decide +kernel
theorem dX8_know_57 : decode cX8_know 57 = .ok (.iaload, 1) := by decide +kernel
theorem dX8_know_58 : decode cX8_know 58 = .ok (.iconst 1, 1) := by decide +kernel
theorem dX8_know_59 : decode cX8_know 59 = .ok (.iload_n 1, 1) := by decide +kernel
theorem dX8_know_60 : decode cX8_know 60 = .ok (.ishl, 1) := by decide +kernel
theorem dX8_know_61 : decode cX8_know 61 = .ok (.ixor, 1) := by decide +kernel
theorem dX8_know_62 : decode cX8_know 62 = .ok (.iastore, 1) := by decide +kernel
theorem dX8_know_63 : decode cX8_know 63 = .ok (.aload_n 0, 1) := by decide +kernel
theorem dX8_know_64 : decode cX8_know 64 = .ok (.getfield 7, 3) := by decide +kernel
theorem dX8_know_67 : decode cX8_know 67 = .ok (.iconst 4, 1) := by decide +kernel
theorem dX8_know_68 : decode cX8_know 68 = .ok (.iaload, 1) := by decide +kernel
theorem dX8_know_69 : decode cX8_know 69 = .ok (.ireturn, 1) := by decide +kernel
set_option maxRecDepth 20000 in
theorem ggX8_seenStreets_X8_isSeen : GoodIn wsX8_seenStreets wsX8_isSeen := goodIn_r _ [6, 1, 7, 8, 9, 10, 11, 12, 13, 14, 15, 16, 17, 18, 19, 20, 21, 22, 23] (by decide +kernel) (by decide +kernel)
set_option maxRecDepth 20000 in
theorem gX8_seenStreets_X8_isSeen : GoodIn wsX8_seenStreets (wsV RX8 154 RX8 yX8_isSeen wsX8_isSeen) := goodIn_app (goodIn_of _ (by decide +kernel)) ggX8_seenStreets_X8_isSeen
theorem dX8_seenStreets_0 : decode cX8_seenStreets 0 = .ok (.iconst 0, 1) := by decide +kernel
theorem dX8_seenStreets_1 : decode cX8_seenStreets 1 = .ok (.istore_n 2, 1) := by decide +kernel
theorem dX8_seenStreets_2 : decode cX8_seenStreets 2 = .ok (.iconst 0, 1) := by decide +kernel
theorem dX8_seenStreets_3 : decode cX8_seenStreets 3 = .ok (.istore_n 3, 1) := by decide +kernel
theorem dX8_seenStreets_4 : decode cX8_seenStreets 4 = .ok (.iload_n 3, 1) := by decide +kernel
theorem dX8_seenStreets_5 : decode cX8_seenStreets 5 = .ok (.aload_n 0, 1) := by decide +kernel
theorem dX8_seenStreets_6 : decode cX8_seenStreets 6 = .ok (.getfield 7, 3) := by decide +kernel
theorem dX8_seenStreets_9 : decode cX8_seenStreets 9 = .ok (.iconst 1, 1) := by decide +kernel
theorem dX8_seenStreets_10 : decode cX8_seenStreets 10 = .ok (.iaload, 1) := by decide +kernel
theorem dX8_seenStreets_11 : decode cX8_seenStreets 11 = .ok (.if_icmp .ge 28, 3) := by decide +kernel
theorem dX8_seenStreets_14 : decode cX8_seenStreets 14 = .ok (.iload_n 2, 1) := by decide +kernel
theorem dX8_seenStreets_15 : decode cX8_seenStreets 15 = .ok (.aload_n 0, 1) := by decide +kernel
theorem dX8_seenStreets_16 : decode cX8_seenStreets 16 = .ok (.iload_n 1, 1) := by decide +kernel
theorem dX8_seenStreets_17 : decode cX8_seenStreets 17 = .ok (.iload_n 3, 1) := by decide +kernel
theorem dX8_seenStreets_18 : decode cX8_seenStreets 18 = .ok (.invokevirtual 154, 3) := by decide +kernel
theorem dX8_seenStreets_21 : decode cX8_seenStreets 21 = .ok (.ifCond .eq 9, 3) := by decide +kernel
theorem dX8_seenStreets_24 : decode cX8_seenStreets 24 = .ok (.iconst 1, 1) := by decide +kernel
theorem dX8_seenStreets_25 : decode cX8_seenStreets 25 = .ok (.iload_n 3, 1) := by decide +kernel
theorem dX8_seenStreets_26 : decode cX8_seenStreets 26 = .ok (.ishl, 1) := by decide +kernel
theorem dX8_seenStreets_27 : decode cX8_seenStreets 27 = .ok (.goto 4, 3) := by decide +kernel
theorem dX8_seenStreets_30 : decode cX8_seenStreets 30 = .ok (.iconst 0, 1) := by decide +kernel
theorem dX8_seenStreets_31 : decode cX8_seenStreets 31 = .ok (.ior, 1) := by decide +kernel
theorem dX8_seenStreets_32 : decode cX8_seenStreets 32 = .ok (.istore_n 2, 1) := by decide +kernel
theorem dX8_seenStreets_33 : decode cX8_seenStreets 33 = .ok (.iinc 3 1, 3) := by decide +kernel
theorem dX8_seenStreets_36 : decode cX8_seenStreets 36 = .ok (.goto (-32), 3) := by decide +kernel
theorem dX8_seenStreets_39 : decode cX8_seenStreets 39 = .ok (.iload_n 2, 1) := by decide +kernel
theorem dX8_seenStreets_40 : decode cX8_seenStreets 40 = .ok (.ireturn, 1) := by decide +kernel
set_option maxRecDepth 20000 in
theorem ggX8_seenGestures_X8_isSeen : GoodIn wsX8_seenGestures wsX8_isSeen := goodIn_r _ [6, 1, 7, 8, 9, 10, 11, 12, 13, 14, 15, 16, 17, 18, 19, 20, 21, 22, 23] (by decide +kernel) (by decide +kernel)
set_option maxRecDepth 20000 in
theorem gX8_seenGestures_X8_isSeen : GoodIn wsX8_seenGestures (wsV RX8 154 RX8 yX8_isSeen wsX8_isSeen) := goodIn_app (goodIn_of _ (by decide +kernel)) ggX8_seenGestures_X8_isSeen
theorem dX8_seenGestures_0 : decode cX8_seenGestures 0 = .ok (.iconst 0, 1) := by decide +kernel
theorem dX8_seenGestures_1 : decode cX8_seenGestures 1 = .ok (.istore_n 2, 1) := by decide +kernel
theorem dX8_seenGestures_2 : decode cX8_seenGestures 2 = .ok (.iconst 0, 1) := by decide +kernel
theorem dX8_seenGestures_3 : decode cX8_seenGestures 3 = .ok (.istore_n 3, 1) := by decide +kernel
theorem dX8_seenGestures_4 : decode cX8_seenGestures 4 = .ok (.iload_n 3, 1) := by decide +kernel
theorem dX8_seenGestures_5 : decode cX8_seenGestures 5 = .ok (.aload_n 0, 1) := by decide +kernel
theorem dX8_seenGestures_6 : decode cX8_seenGestures 6 = .ok (.getfield 7, 3) := by decide +kernel
theorem dX8_seenGestures_9 : decode cX8_seenGestures 9 = .ok (.iconst 2, 1) := by decide +kernel
theorem dX8_seenGestures_10 : decode cX8_seenGestures 10 = .ok (.iaload, 1) := by decide +kernel
theorem dX8_seenGestures_11 : decode cX8_seenGestures 11 = .ok (.if_icmp .ge 28, 3) := by decide +kernel
theorem dX8_seenGestures_14 : decode cX8_seenGestures 14 = .ok (.iload_n 2, 1) := by decide +kernel
theorem dX8_seenGestures_15 : decode cX8_seenGestures 15 = .ok (.aload_n 0, 1) := by decide +kernel
theorem dX8_seenGestures_16 : decode cX8_seenGestures 16 = .ok (.iload_n 3, 1) := by decide +kernel
theorem dX8_seenGestures_17 : decode cX8_seenGestures 17 = .ok (.iload_n 1, 1) := by decide +kernel
theorem dX8_seenGestures_18 : decode cX8_seenGestures 18 = .ok (.invokevirtual 154, 3) := by decide +kernel
theorem dX8_seenGestures_21 : decode cX8_seenGestures 21 = .ok (.ifCond .eq 9, 3) := by decide +kernel
theorem dX8_seenGestures_24 : decode cX8_seenGestures 24 = .ok (.iconst 1, 1) := by decide +kernel
theorem dX8_seenGestures_25 : decode cX8_seenGestures 25 = .ok (.iload_n 3, 1) := by decide +kernel
theorem dX8_seenGestures_26 : decode cX8_seenGestures 26 = .ok (.ishl, 1) := by decide +kernel
theorem dX8_seenGestures_27 : decode cX8_seenGestures 27 = .ok (.goto 4, 3) := by decide +kernel
theorem dX8_seenGestures_30 : decode cX8_seenGestures 30 = .ok (.iconst 0, 1) := by decide +kernel
theorem dX8_seenGestures_31 : decode cX8_seenGestures 31 = .ok (.ior, 1) := by decide +kernel
theorem dX8_seenGestures_32 : decode cX8_seenGestures 32 = .ok (.istore_n 2, 1) := by decide +kernel
theorem dX8_seenGestures_33 : decode cX8_seenGestures 33 = .ok (.iinc 3 1, 3) := by decide +kernel
theorem dX8_seenGestures_36 : decode cX8_seenGestures 36 = .ok (.goto (-32), 3) := by decide +kernel
theorem dX8_seenGestures_39 : decode cX8_seenGestures 39 = .ok (.iload_n 2, 1) := by decide +kernel
theorem dX8_seenGestures_40 : decode cX8_seenGestures 40 = .ok (.ireturn, 1) := by decide +kernel
set_option maxRecDepth 20000 in
theorem ggX8_gesture_X8_isGesture : GoodIn wsX8_gesture wsX8_isGesture := goodIn_r _ [7, 2, 8, 9, 6, 10, 19, 20, 21, 22, 23, 24, 25, 26, 27, 28, 29, 30, 31, 32, 33, 34, 35] (by decide +kernel) (by decide +kernel)
set_option maxRecDepth 20000 in
theorem gX8_gesture_X8_isGesture : GoodIn wsX8_gesture (wsV RX8 148 RX8 yX8_isGesture wsX8_isGesture) := goodIn_app (goodIn_of _ (by decide +kernel)) ggX8_gesture_X8_isGesture
set_option maxRecDepth 20000 in
theorem ggX8_gesture_X8_seenStreets : GoodIn wsX8_gesture wsX8_seenStreets := goodIn_r _ [14, 2, 15, 16, 17, 6, 18, 19, 20, 21, 22, 23, 24, 25, 26, 27, 28, 29, 30, 31, 32, 33, 34, 35] (by decide +kernel) (by decide +kernel)
set_option maxRecDepth 20000 in
theorem gX8_gesture_X8_seenStreets : GoodIn wsX8_gesture (wsV RX8 168 RX8 yX8_seenStreets wsX8_seenStreets) := goodIn_app (goodIn_of _ (by decide +kernel)) ggX8_gesture_X8_seenStreets
theorem dX8_gesture_0 : decode cX8_gesture 0 = .ok (.aload_n 0, 1) := by decide +kernel
theorem dX8_gesture_1 : decode cX8_gesture 1 = .ok (.iload_n 1, 1) := by decide +kernel
theorem dX8_gesture_2 : decode cX8_gesture 2 = .ok (.invokevirtual 148, 3) := by decide +kernel
theorem dX8_gesture_5 : decode cX8_gesture 5 = .ok (.ifCond .ne 6, 3) := by decide +kernel
theorem dX8_gesture_8 : decode cX8_gesture 8 = .ok (.ldc 52, 2) := by decide +kernel
theorem dX8_gesture_10 : decode cX8_gesture 10 = .ok (.ireturn, 1) := by decide +kernel
theorem dX8_gesture_11 : decode cX8_gesture 11 = .ok (.iload_n 2, 1) := by decide +kernel
theorem dX8_gesture_12 : decode cX8_gesture 12 = .ok (.tableswitch 82 0 4 #[36, 46, 56, 66, 72], 36) := by decide +kernel
theorem dX8_gesture_48 : decode cX8_gesture 48 = .ok (.aload_n 0, 1) := by decide +kernel
theorem dX8_gesture_49 : decode cX8_gesture 49 = .ok (.getfield 7, 3) := by decide +kernel
theorem dX8_gesture_52 : decode cX8_gesture 52 = .ok (.bipush 25, 2) := by decide +kernel
theorem dX8_gesture_54 : decode cX8_gesture 54 = .ok (.iload_n 1, 1) := by decide +kernel
theorem dX8_gesture_55 : decode cX8_gesture 55 = .ok (.iadd, 1) := by decide +kernel
theorem dX8_gesture_56 : decode cX8_gesture 56 = .ok (.iaload, 1) := by decide +kernel
theorem dX8_gesture_57 : decode cX8_gesture 57 = .ok (.ireturn, 1) := by decide +kernel
theorem dX8_gesture_58 : decode cX8_gesture 58 = .ok (.aload_n 0, 1) := by decide +kernel
theorem dX8_gesture_59 : decode cX8_gesture 59 = .ok (.getfield 7, 3) := by decide +kernel
theorem dX8_gesture_62 : decode cX8_gesture 62 = .ok (.bipush 31, 2) := by decide +kernel
theorem dX8_gesture_64 : decode cX8_gesture 64 = .ok (.iload_n 1, 1) := by decide +kernel
theorem dX8_gesture_65 : decode cX8_gesture 65 = .ok (.iadd, 1) := by decide +kernel
theorem dX8_gesture_66 : decode cX8_gesture 66 = .ok (.iaload, 1) := by decide +kernel
theorem dX8_gesture_67 : decode cX8_gesture 67 = .ok (.ireturn, 1) := by decide +kernel
theorem dX8_gesture_68 : decode cX8_gesture 68 = .ok (.aload_n 0, 1) := by decide +kernel
theorem dX8_gesture_69 : decode cX8_gesture 69 = .ok (.getfield 7, 3) := by decide +kernel
theorem dX8_gesture_72 : decode cX8_gesture 72 = .ok (.bipush 37, 2) := by decide +kernel
theorem dX8_gesture_74 : decode cX8_gesture 74 = .ok (.iload_n 1, 1) := by decide +kernel
theorem dX8_gesture_75 : decode cX8_gesture 75 = .ok (.iadd, 1) := by decide +kernel
theorem dX8_gesture_76 : decode cX8_gesture 76 = .ok (.iaload, 1) := by decide +kernel
theorem dX8_gesture_77 : decode cX8_gesture 77 = .ok (.ireturn, 1) := by decide +kernel
theorem dX8_gesture_78 : decode cX8_gesture 78 = .ok (.aload_n 0, 1) := by decide +kernel
theorem dX8_gesture_79 : decode cX8_gesture 79 = .ok (.iload_n 1, 1) := by decide +kernel
theorem dX8_gesture_80 : decode cX8_gesture 80 = .ok (.invokevirtual 168, 3) := by decide +kernel
theorem dX8_gesture_83 : decode cX8_gesture 83 = .ok (.ireturn, 1) := by decide +kernel
theorem dX8_gesture_84 : decode cX8_gesture 84 = .ok (.aload_n 0, 1) := by decide +kernel
theorem dX8_gesture_85 : decode cX8_gesture 85 = .ok (.getfield 7, 3) := by decide +kernel
theorem dX8_gesture_88 : decode cX8_gesture 88 = .ok (.bipush 43, 2) := by decide +kernel
theorem dX8_gesture_90 : decode cX8_gesture 90 = .ok (.iload_n 1, 1) := by decide +kernel
theorem dX8_gesture_91 : decode cX8_gesture 91 = .ok (.iadd, 1) := by decide +kernel
theorem dX8_gesture_92 : decode cX8_gesture 92 = .ok (.iaload, 1) := by decide +kernel
theorem dX8_gesture_93 : decode cX8_gesture 93 = .ok (.ireturn, 1) := by decide +kernel
theorem dX8_gesture_94 : decode cX8_gesture 94 = .ok (.ldc 52, 2) := by decide +kernel
theorem dX8_gesture_96 : decode cX8_gesture 96 = .ok (.ireturn, 1) := by decide +kernel
set_option maxRecDepth 20000 in
theorem ggX8_street_X8_isStreet : GoodIn wsX8_street wsX8_isStreet := goodIn_r _ [7, 2, 8, 9, 6, 10, 19, 20, 21, 22, 23, 24, 25, 26, 27, 28, 29, 30, 31, 32, 33, 34, 35] (by decide +kernel) (by decide +kernel)
set_option maxRecDepth 20000 in
theorem gX8_street_X8_isStreet : GoodIn wsX8_street (wsV RX8 151 RX8 yX8_isStreet wsX8_isStreet) := goodIn_app (goodIn_of _ (by decide +kernel)) ggX8_street_X8_isStreet
set_option maxRecDepth 20000 in
theorem ggX8_street_X8_seenGestures : GoodIn wsX8_street wsX8_seenGestures := goodIn_r _ [14, 2, 15, 16, 17, 6, 18, 19, 20, 21, 22, 23, 24, 25, 26, 27, 28, 29, 30, 31, 32, 33, 34, 35] (by decide +kernel) (by decide +kernel)
set_option maxRecDepth 20000 in
theorem gX8_street_X8_seenGestures : GoodIn wsX8_street (wsV RX8 171 RX8 yX8_seenGestures wsX8_seenGestures) := goodIn_app (goodIn_of _ (by decide +kernel)) ggX8_street_X8_seenGestures
theorem dX8_street_0 : decode cX8_street 0 = .ok (.aload_n 0, 1) := by decide +kernel
theorem dX8_street_1 : decode cX8_street 1 = .ok (.iload_n 1, 1) := by decide +kernel
theorem dX8_street_2 : decode cX8_street 2 = .ok (.invokevirtual 151, 3) := by decide +kernel
theorem dX8_street_5 : decode cX8_street 5 = .ok (.ifCond .ne 6, 3) := by decide +kernel
theorem dX8_street_8 : decode cX8_street 8 = .ok (.ldc 52, 2) := by decide +kernel
theorem dX8_street_10 : decode cX8_street 10 = .ok (.ireturn, 1) := by decide +kernel
theorem dX8_street_11 : decode cX8_street 11 = .ok (.iload_n 2, 1) := by decide +kernel
theorem dX8_street_12 : decode cX8_street 12 = .ok (.tableswitch 68 0 3 #[32, 41, 51, 62], 32) := by decide +kernel
theorem dX8_street_44 : decode cX8_street 44 = .ok (.aload_n 0, 1) := by decide +kernel
theorem dX8_street_45 : decode cX8_street 45 = .ok (.getfield 7, 3) := by decide +kernel
theorem dX8_street_48 : decode cX8_street 48 = .ok (.iconst 5, 1) := by decide +kernel
theorem dX8_street_49 : decode cX8_street 49 = .ok (.iload_n 1, 1) := by decide +kernel
theorem dX8_street_50 : decode cX8_street 50 = .ok (.iadd, 1) := by decide +kernel
theorem dX8_street_51 : decode cX8_street 51 = .ok (.iaload, 1) := by decide +kernel
theorem dX8_street_52 : decode cX8_street 52 = .ok (.ireturn, 1) := by decide +kernel
theorem dX8_street_53 : decode cX8_street 53 = .ok (.aload_n 0, 1) := by decide +kernel
theorem dX8_street_54 : decode cX8_street 54 = .ok (.getfield 7, 3) := by decide +kernel
theorem dX8_street_57 : decode cX8_street 57 = .ok (.bipush 12, 2) := by decide +kernel
theorem dX8_street_59 : decode cX8_street 59 = .ok (.iload_n 1, 1) := by decide +kernel
theorem dX8_street_60 : decode cX8_street 60 = .ok (.iadd, 1) := by decide +kernel
theorem dX8_street_61 : decode cX8_street 61 = .ok (.iaload, 1) := by decide +kernel
theorem dX8_street_62 : decode cX8_street 62 = .ok (.ireturn, 1) := by decide +kernel
theorem dX8_street_63 : decode cX8_street 63 = .ok (.aload_n 0, 1) := by decide +kernel
theorem dX8_street_64 : decode cX8_street 64 = .ok (.getfield 7, 3) := by decide +kernel
theorem dX8_street_67 : decode cX8_street 67 = .ok (.iconst 4, 1) := by decide +kernel
theorem dX8_street_68 : decode cX8_street 68 = .ok (.iaload, 1) := by decide +kernel
theorem dX8_street_69 : decode cX8_street 69 = .ok (.iload_n 1, 1) := by decide +kernel
theorem dX8_street_70 : decode cX8_street 70 = .ok (.ishr, 1) := by decide +kernel
theorem dX8_street_71 : decode cX8_street 71 = .ok (.iconst 1, 1) := by decide +kernel
theorem dX8_street_72 : decode cX8_street 72 = .ok (.iand, 1) := by decide +kernel
theorem dX8_street_73 : decode cX8_street 73 = .ok (.ireturn, 1) := by decide +kernel
theorem dX8_street_74 : decode cX8_street 74 = .ok (.aload_n 0, 1) := by decide +kernel
theorem dX8_street_75 : decode cX8_street 75 = .ok (.iload_n 1, 1) := by decide +kernel
theorem dX8_street_76 : decode cX8_street 76 = .ok (.invokevirtual 171, 3) := by decide +kernel
theorem dX8_street_79 : decode cX8_street 79 = .ok (.ireturn, 1) := by decide +kernel
theorem dX8_street_80 : decode cX8_street 80 = .ok (.ldc 52, 2) := by decide +kernel
theorem dX8_street_82 : decode cX8_street 82 = .ok (.ireturn, 1) := by decide +kernel
set_option maxRecDepth 20000 in
theorem ggX8_duty_X8_isGesture : GoodIn wsX8_duty wsX8_isGesture := goodIn_r _ [6, 7, 8, 9, 5, 10, 34, 35, 36, 37, 38, 39, 40, 41, 42, 43, 44, 45, 46, 47, 48, 49, 50] (by decide +kernel) (by decide +kernel)
set_option maxRecDepth 20000 in
theorem gX8_duty_X8_isGesture : GoodIn wsX8_duty (wsV RX8 148 RX8 yX8_isGesture wsX8_isGesture) := goodIn_app (goodIn_of _ (by decide +kernel)) ggX8_duty_X8_isGesture
set_option maxRecDepth 20000 in
theorem ggX8_duty_X8_isStreet : GoodIn wsX8_duty wsX8_isStreet := goodIn_r _ [14, 7, 8, 9, 5, 10, 34, 35, 36, 37, 38, 39, 40, 41, 42, 43, 44, 45, 46, 47, 48, 49, 50] (by decide +kernel) (by decide +kernel)
set_option maxRecDepth 20000 in
theorem gX8_duty_X8_isStreet : GoodIn wsX8_duty (wsV RX8 151 RX8 yX8_isStreet wsX8_isStreet) := goodIn_app (goodIn_of _ (by decide +kernel)) ggX8_duty_X8_isStreet
set_option maxRecDepth 20000 in
theorem ggX8_duty_X8_dutyOf : GoodIn wsX8_duty wsX8_dutyOf := goodIn_r _ [18, 7, 19, 20, 21, 5, 22, 23, 24, 25, 26, 27, 28, 29, 30, 31, 32, 33, 34, 35, 36, 37, 38, 39, 40, 41, 42, 43, 44, 45, 46, 47, 48, 49, 50] (by decide +kernel) (by decide +kernel)
set_option maxRecDepth 20000 in
theorem gX8_duty_X8_dutyOf : GoodIn wsX8_duty (wsV RX8 157 RX8 yX8_dutyOf wsX8_dutyOf) := goodIn_app (goodIn_of _ (by decide +kernel)) ggX8_duty_X8_dutyOf
theorem dX8_duty_0 : decode cX8_duty 0 = .ok (.aload_n 0, 1) := by decide +kernel
theorem dX8_duty_1 : decode cX8_duty 1 = .ok (.iload_n 1, 1) := by decide +kernel
theorem dX8_duty_2 : decode cX8_duty 2 = .ok (.invokevirtual 148, 3) := by decide +kernel
theorem dX8_duty_5 : decode cX8_duty 5 = .ok (.ifCond .eq 20, 3) := by decide +kernel
theorem dX8_duty_8 : decode cX8_duty 8 = .ok (.aload_n 0, 1) := by decide +kernel
theorem dX8_duty_9 : decode cX8_duty 9 = .ok (.iload_n 2, 1) := by decide +kernel
theorem dX8_duty_10 : decode cX8_duty 10 = .ok (.invokevirtual 151, 3) := by decide +kernel
theorem dX8_duty_13 : decode cX8_duty 13 = .ok (.ifCond .eq 12, 3) := by decide +kernel
theorem dX8_duty_16 : decode cX8_duty 16 = .ok (.aload_n 0, 1) := by decide +kernel
theorem dX8_duty_17 : decode cX8_duty 17 = .ok (.iload_n 1, 1) := by decide +kernel
theorem dX8_duty_18 : decode cX8_duty 18 = .ok (.iload_n 2, 1) := by decide +kernel
theorem dX8_duty_19 : decode cX8_duty 19 = .ok (.invokevirtual 157, 3) := by decide +kernel
theorem dX8_duty_22 : decode cX8_duty 22 = .ok (.goto 5, 3) := by decide +kernel
theorem dX8_duty_25 : decode cX8_duty 25 = .ok (.ldc 52, 2) := by decide +kernel
theorem dX8_duty_27 : decode cX8_duty 27 = .ok (.ireturn, 1) := by decide +kernel
set_option maxRecDepth 20000 in
theorem ggX8_tells_X8_isSeen : GoodIn wsX8_tells wsX8_isSeen := goodIn_r _ [6, 1, 7, 8, 9, 10, 11, 12, 13, 14, 15, 16, 17, 18, 19, 20, 21, 22, 23] (by decide +kernel) (by decide +kernel)
set_option maxRecDepth 20000 in
theorem gX8_tells_X8_isSeen : GoodIn wsX8_tells (wsV RX8 154 RX8 yX8_isSeen wsX8_isSeen) := goodIn_app (goodIn_of _ (by decide +kernel)) ggX8_tells_X8_isSeen
theorem dX8_tells_0 : decode cX8_tells 0 = .ok (.aload_n 0, 1) := by decide +kernel
theorem dX8_tells_1 : decode cX8_tells 1 = .ok (.getfield 7, 3) := by decide +kernel
theorem dX8_tells_4 : decode cX8_tells 4 = .ok (.bipush 31, 2) := by decide +kernel
theorem dX8_tells_6 : decode cX8_tells 6 = .ok (.iload_n 1, 1) := by decide +kernel
theorem dX8_tells_7 : decode cX8_tells 7 = .ok (.iadd, 1) := by decide +kernel
theorem dX8_tells_8 : decode cX8_tells 8 = .ok (.iaload, 1) := by decide +kernel
theorem dX8_tells_9 : decode cX8_tells 9 = .ok (.iload_n 2, 1) := by decide +kernel
theorem dX8_tells_10 : decode cX8_tells 10 = .ok (.if_icmp .ne 16, 3) := by decide +kernel
theorem dX8_tells_13 : decode cX8_tells 13 = .ok (.aload_n 0, 1) := by decide +kernel
theorem dX8_tells_14 : decode cX8_tells 14 = .ok (.iload_n 1, 1) := by decide +kernel
theorem dX8_tells_15 : decode cX8_tells 15 = .ok (.iload_n 3, 1) := by decide +kernel
theorem dX8_tells_16 : decode cX8_tells 16 = .ok (.invokevirtual 154, 3) := by decide +kernel
theorem dX8_tells_19 : decode cX8_tells 19 = .ok (.ifCond .eq 7, 3) := by decide +kernel
theorem dX8_tells_22 : decode cX8_tells 22 = .ok (.iconst 1, 1) := by decide +kernel
theorem dX8_tells_23 : decode cX8_tells 23 = .ok (.goto 4, 3) := by decide +kernel
theorem dX8_tells_26 : decode cX8_tells 26 = .ok (.iconst 0, 1) := by decide +kernel
theorem dX8_tells_27 : decode cX8_tells 27 = .ok (.ireturn, 1) := by decide +kernel
set_option maxRecDepth 20000 in
theorem ggX8_onBy_X8_tells : GoodIn wsX8_onBy wsX8_tells := goodIn_r _ [8, 1, 9, 10, 11, 7, 12, 32, 33, 34, 35, 36, 37, 38, 39, 40, 41, 42, 43, 44, 45, 46, 47, 48] (by decide +kernel) (by decide +kernel)
set_option maxRecDepth 20000 in
theorem gX8_onBy_X8_tells : GoodIn wsX8_onBy (wsV RX8 174 RX8 yX8_tells wsX8_tells) := goodIn_app (goodIn_of _ (by decide +kernel)) ggX8_onBy_X8_tells
set_option maxRecDepth 20000 in
theorem ggX8_onBy_X8_dutyOf : GoodIn wsX8_onBy wsX8_dutyOf := goodIn_r _ [16, 1, 17, 18, 19, 7, 20, 21, 22, 23, 24, 25, 26, 27, 28, 29, 30, 31, 32, 33, 34, 35, 36, 37, 38, 39, 40, 41, 42, 43, 44, 45, 46, 47, 48] (by decide +kernel) (by decide +kernel)
set_option maxRecDepth 20000 in
theorem gX8_onBy_X8_dutyOf : GoodIn wsX8_onBy (wsV RX8 157 RX8 yX8_dutyOf wsX8_dutyOf) := goodIn_app (goodIn_of _ (by decide +kernel)) ggX8_onBy_X8_dutyOf
theorem dX8_onBy_0 : decode cX8_onBy 0 = .ok (.aload_n 0, 1) := by decide +kernel
theorem dX8_onBy_1 : decode cX8_onBy 1 = .ok (.iload_n 1, 1) := by decide +kernel
theorem dX8_onBy_2 : decode cX8_onBy 2 = .ok (.iload_n 2, 1) := by decide +kernel
theorem dX8_onBy_3 : decode cX8_onBy 3 = .ok (.iload_n 3, 1) := by decide +kernel
theorem dX8_onBy_4 : decode cX8_onBy 4 = .ok (.invokevirtual 174, 3) := by decide +kernel
theorem dX8_onBy_7 : decode cX8_onBy 7 = .ok (.ifCond .eq 21, 3) := by decide +kernel
theorem dX8_onBy_10 : decode cX8_onBy 10 = .ok (.aload_n 0, 1) := by decide +kernel
theorem dX8_onBy_11 : decode cX8_onBy 11 = .ok (.getfield 7, 3) := by decide +kernel
theorem dX8_onBy_14 : decode cX8_onBy 14 = .ok (.bipush 37, 2) := by decide +kernel
theorem dX8_onBy_16 : decode cX8_onBy 16 = .ok (.iload_n 1, 1) := by decide +kernel
theorem dX8_onBy_17 : decode cX8_onBy 17 = .ok (.iadd, 1) := by decide +kernel
theorem dX8_onBy_18 : decode cX8_onBy 18 = .ok (.iaload, 1) := by decide +kernel
theorem dX8_onBy_19 : decode cX8_onBy 19 = .ok (.iload 4, 2) := by decide +kernel
theorem dX8_onBy_21 : decode cX8_onBy 21 = .ok (.if_icmp .gt 7, 3) := by decide +kernel
theorem dX8_onBy_24 : decode cX8_onBy 24 = .ok (.iconst 1, 1) := by decide +kernel
theorem dX8_onBy_25 : decode cX8_onBy 25 = .ok (.goto 4, 3) := by decide +kernel
theorem dX8_onBy_28 : decode cX8_onBy 28 = .ok (.iconst 0, 1) := by decide +kernel
theorem dX8_onBy_29 : decode cX8_onBy 29 = .ok (.istore 5, 2) := by decide +kernel
theorem dX8_onBy_31 : decode cX8_onBy 31 = .ok (.iload 5, 2) := by decide +kernel
theorem dX8_onBy_33 : decode cX8_onBy 33 = .ok (.ifCond .eq 37, 3) := by decide +kernel
theorem dX8_onBy_36 : decode cX8_onBy 36 = .ok (.aload_n 0, 1) := by decide +kernel
theorem dX8_onBy_37 : decode cX8_onBy 37 = .ok (.iload_n 1, 1) := by decide +kernel
theorem dX8_onBy_38 : decode cX8_onBy 38 = .ok (.iload_n 3, 1) := by decide +kernel
theorem dX8_onBy_39 : decode cX8_onBy 39 = .ok (.invokevirtual 157, 3) := by decide +kernel
theorem dX8_onBy_42 : decode cX8_onBy 42 = .ok (.aload_n 0, 1) := by decide +kernel
theorem dX8_onBy_43 : decode cX8_onBy 43 = .ok (.getfield 32, 3) := by decide +kernel
theorem dX8_onBy_46 : decode cX8_onBy 46 = .ok (.bipush 100, 2) := by decide +kernel
theorem dX8_onBy_48 : decode cX8_onBy 48 = .ok (.iload_n 3, 1) := by decide +kernel
theorem dX8_onBy_49 : decode cX8_onBy 49 = .ok (.iconst 1, 1) := by decide +kernel
theorem dX8_onBy_50 : decode cX8_onBy 50 = .ok (.iadd, 1) := by decide +kernel
theorem dX8_onBy_51 : decode cX8_onBy 51 = .ok (.imul, 1) := by decide +kernel
theorem dX8_onBy_52 : decode cX8_onBy 52 = .ok (.iload 4, 2) := by decide +kernel
theorem dX8_onBy_54 : decode cX8_onBy 54 = .ok (.iadd, 1) := by decide +kernel
theorem dX8_onBy_55 : decode cX8_onBy 55 = .ok (.aload_n 0, 1) := by decide +kernel
theorem dX8_onBy_56 : decode cX8_onBy 56 = .ok (.getfield 7, 3) := by decide +kernel
theorem dX8_onBy_59 : decode cX8_onBy 59 = .ok (.bipush 37, 2) := by decide +kernel
theorem dX8_onBy_61 : decode cX8_onBy 61 = .ok (.iload_n 1, 1) := by decide +kernel
theorem dX8_onBy_62 : decode cX8_onBy 62 = .ok (.iadd, 1) := by decide +kernel
theorem dX8_onBy_63 : decode cX8_onBy 63 = .ok (.iaload, 1) := by decide +kernel
theorem dX8_onBy_64 : decode cX8_onBy 64 = .ok (.isub, 1) := by decide +kernel
theorem dX8_onBy_65 : decode cX8_onBy 65 = .ok (.iaload, 1) := by decide +kernel
theorem dX8_onBy_66 : decode cX8_onBy 66 = .ok (.iadd, 1) := by decide +kernel
theorem dX8_onBy_67 : decode cX8_onBy 67 = .ok (.goto 5, 3) := by decide +kernel
theorem dX8_onBy_70 : decode cX8_onBy 70 = .ok (.ldc 177, 2) := by decide +kernel
theorem dX8_onBy_72 : decode cX8_onBy 72 = .ok (.ireturn, 1) := by decide +kernel
set_option maxRecDepth 20000 in
theorem ggX8_layCosts_X8_onBy : GoodIn wsX8_layCosts wsX8_onBy := goodIn_r _ [8, 3, 1, 2, 9, 10, 11, 7, 12, 13, 14, 15, 16, 17, 18, 19, 20, 21, 22, 23, 24, 25, 26, 27, 28, 29, 30, 31, 32, 33, 34, 35, 36, 37, 38, 39, 40, 41, 42, 43, 44, 45, 46, 47, 48, 49, 50, 51, 52] (by decide +kernel) (by decide +kernel)
set_option maxRecDepth 20000 in
theorem gX8_layCosts_X8_onBy : GoodIn wsX8_layCosts (wsV RX8 178 RX8 yX8_onBy wsX8_onBy) := goodIn_app (goodIn_of _ (by decide +kernel)) ggX8_layCosts_X8_onBy
theorem dX8_layCosts_0 : decode cX8_layCosts 0 = .ok (.iconst 0, 1) := by decide +kernel
theorem dX8_layCosts_1 : decode cX8_layCosts 1 = .ok (.istore 4, 2) := by decide +kernel
theorem dX8_layCosts_3 : decode cX8_layCosts 3 = .ok (.iload 4, 2) := by decide +kernel
theorem dX8_layCosts_5 : decode cX8_layCosts 5 = .ok (.bipush 100, 2) := by decide +kernel
theorem dX8_layCosts_7 : decode cX8_layCosts 7 = .ok (.if_icmp .ge 24, 3) := by decide +kernel
theorem dX8_layCosts_10 : decode cX8_layCosts 10 = .ok (.aload_n 0, 1) := by decide +kernel
theorem dX8_layCosts_11 : decode cX8_layCosts 11 = .ok (.getfield 32, 3) := by decide +kernel
theorem dX8_layCosts_14 : decode cX8_layCosts 14 = .ok (.bipush 100, 2) := by decide +kernel
theorem dX8_layCosts_16 : decode cX8_layCosts 16 = .ok (.iload_n 3, 1) := by decide +kernel
theorem dX8_layCosts_17 : decode cX8_layCosts 17 = .ok (.iconst 1, 1) := by decide +kernel
theorem dX8_layCosts_18 : decode cX8_layCosts 18 = .ok (.iadd, 1) := by decide +kernel
theorem dX8_layCosts_19 : decode cX8_layCosts 19 = .ok (.imul, 1) := by decide +kernel
theorem dX8_layCosts_20 : decode cX8_layCosts 20 = .ok (.iload 4, 2) := by decide +kernel
theorem dX8_layCosts_22 : decode cX8_layCosts 22 = .ok (.iadd, 1) := by decide +kernel
theorem dX8_layCosts_23 : decode cX8_layCosts 23 = .ok (.iconst 0, 1) := by decide +kernel
theorem dX8_layCosts_24 : decode cX8_layCosts 24 = .ok (.iastore, 1) := by decide +kernel
theorem dX8_layCosts_25 : decode cX8_layCosts 25 = .ok (.iinc 4 1, 3) := by decide +kernel
theorem dX8_layCosts_28 : decode cX8_layCosts 28 = .ok (.goto (-25), 3) := by decide +kernel
theorem dX8_layCosts_31 : decode cX8_layCosts 31 = .ok (.iload_n 3, 1) := by decide +kernel
theorem dX8_layCosts_32 : decode cX8_layCosts 32 = .ok (.istore 4, 2) := by decide +kernel
theorem dX8_layCosts_34 : decode cX8_layCosts 34 = .ok (.iload 4, 2) := by decide +kernel
theorem dX8_layCosts_36 : decode cX8_layCosts 36 = .ok (.iload_n 2, 1) := by decide +kernel
theorem dX8_layCosts_37 : decode cX8_layCosts 37 = .ok (.if_icmp .lt 122, 3) := by decide +kernel
theorem dX8_layCosts_40 : decode cX8_layCosts 40 = .ok (.iconst 0, 1) := by decide +kernel
theorem dX8_layCosts_41 : decode cX8_layCosts 41 = .ok (.istore 5, 2) := by decide +kernel
theorem dX8_layCosts_43 : decode cX8_layCosts 43 = .ok (.iload 5, 2) := by decide +kernel
theorem dX8_layCosts_45 : decode cX8_layCosts 45 = .ok (.bipush 100, 2) := by decide +kernel
theorem dX8_layCosts_47 : decode cX8_layCosts 47 = .ok (.if_icmp .ge 106, 3) := by decide +kernel
theorem dX8_layCosts_50 : decode cX8_layCosts 50 = .ok (.aload_n 0, 1) := by decide +kernel
theorem dX8_layCosts_51 : decode cX8_layCosts 51 = .ok (.getfield 32, 3) := by decide +kernel
theorem dX8_layCosts_54 : decode cX8_layCosts 54 = .ok (.bipush 100, 2) := by decide +kernel
theorem dX8_layCosts_56 : decode cX8_layCosts 56 = .ok (.iload 4, 2) := by decide +kernel
theorem dX8_layCosts_58 : decode cX8_layCosts 58 = .ok (.imul, 1) := by decide +kernel
theorem dX8_layCosts_59 : decode cX8_layCosts 59 = .ok (.iload 5, 2) := by decide +kernel
theorem dX8_layCosts_61 : decode cX8_layCosts 61 = .ok (.iadd, 1) := by decide +kernel
theorem dX8_layCosts_62 : decode cX8_layCosts 62 = .ok (.ldc 177, 2) := by decide +kernel
theorem dX8_layCosts_64 : decode cX8_layCosts 64 = .ok (.iastore, 1) := by decide +kernel
theorem dX8_layCosts_65 : decode cX8_layCosts 65 = .ok (.iconst 0, 1) := by decide +kernel
theorem dX8_layCosts_66 : decode cX8_layCosts 66 = .ok (.istore 6, 2) := by decide +kernel
theorem dX8_layCosts_68 : decode cX8_layCosts 68 = .ok (.iload 6, 2) := by decide +kernel
theorem dX8_layCosts_70 : decode cX8_layCosts 70 = .ok (.aload_n 0, 1) := by decide +kernel
theorem dX8_layCosts_71 : decode cX8_layCosts 71 = .ok (.getfield 7, 3) := by decide +kernel
theorem dX8_layCosts_74 : decode cX8_layCosts 74 = .ok (.iconst 2, 1) := by decide +kernel
theorem dX8_layCosts_75 : decode cX8_layCosts 75 = .ok (.iaload, 1) := by decide +kernel
theorem dX8_layCosts_76 : decode cX8_layCosts 76 = .ok (.if_icmp .ge 71, 3) := by decide +kernel
theorem dX8_layCosts_79 : decode cX8_layCosts 79 = .ok (.aload_n 0, 1) := by decide +kernel
theorem dX8_layCosts_80 : decode cX8_layCosts 80 = .ok (.iload 6, 2) := by decide +kernel
theorem dX8_layCosts_82 : decode cX8_layCosts 82 = .ok (.iload_n 1, 1) := by decide +kernel
theorem dX8_layCosts_83 : decode cX8_layCosts 83 = .ok (.iload 4, 2) := by decide +kernel
theorem dX8_layCosts_85 : decode cX8_layCosts 85 = .ok (.iload 5, 2) := by decide +kernel
theorem dX8_layCosts_87 : decode cX8_layCosts 87 = .ok (.invokevirtual 178, 3) := by decide +kernel
theorem dX8_layCosts_90 : decode cX8_layCosts 90 = .ok (.istore 7, 2) := by decide +kernel
theorem dX8_layCosts_92 : decode cX8_layCosts 92 = .ok (.aload_n 0, 1) := by decide +kernel
theorem dX8_layCosts_93 : decode cX8_layCosts 93 = .ok (.getfield 32, 3) := by decide +kernel
theorem dX8_layCosts_96 : decode cX8_layCosts 96 = .ok (.bipush 100, 2) := by decide +kernel
theorem dX8_layCosts_98 : decode cX8_layCosts 98 = .ok (.iload 4, 2) := by decide +kernel
theorem dX8_layCosts_100 : decode cX8_layCosts 100 = .ok (.imul, 1) := by decide +kernel
theorem dX8_layCosts_101 : decode cX8_layCosts 101 = .ok (.iload 5, 2) := by decide +kernel
theorem dX8_layCosts_103 : decode cX8_layCosts 103 = .ok (.iadd, 1) := by decide +kernel
theorem dX8_layCosts_104 : decode cX8_layCosts 104 = .ok (.iload 7, 2) := by decide +kernel
theorem dX8_layCosts_106 : decode cX8_layCosts 106 = .ok (.aload_n 0, 1) := by decide +kernel
theorem dX8_layCosts_107 : decode cX8_layCosts 107 = .ok (.getfield 32, 3) := by decide +kernel
theorem dX8_layCosts_110 : decode cX8_layCosts 110 = .ok (.bipush 100, 2) := by decide +kernel
theorem dX8_layCosts_112 : decode cX8_layCosts 112 = .ok (.iload 4, 2) := by decide +kernel
theorem dX8_layCosts_114 : decode cX8_layCosts 114 = .ok (.imul, 1) := by decide +kernel
theorem dX8_layCosts_115 : decode cX8_layCosts 115 = .ok (.iload 5, 2) := by decide +kernel
theorem dX8_layCosts_117 : decode cX8_layCosts 117 = .ok (.iadd, 1) := by decide +kernel
theorem dX8_layCosts_118 : decode cX8_layCosts 118 = .ok (.iaload, 1) := by decide +kernel
theorem dX8_layCosts_119 : decode cX8_layCosts 119 = .ok (.if_icmp .ge 8, 3) := by decide +kernel
theorem dX8_layCosts_122 : decode cX8_layCosts 122 = .ok (.iload 7, 2) := by decide +kernel
theorem dX8_layCosts_124 : decode cX8_layCosts 124 = .ok (.goto 16, 3) := by decide +kernel
theorem dX8_layCosts_127 : decode cX8_layCosts 127 = .ok (.aload_n 0, 1) := by decide +kernel
theorem dX8_layCosts_128 : decode cX8_layCosts 128 = .ok (.getfield 32, 3) := by decide +kernel
theorem dX8_layCosts_131 : decode cX8_layCosts 131 = .ok (.bipush 100, 2) := by decide +kernel
theorem dX8_layCosts_133 : decode cX8_layCosts 133 = .ok (.iload 4, 2) := by decide +kernel
theorem dX8_layCosts_135 : decode cX8_layCosts 135 = .ok (.imul, 1) := by decide +kernel
theorem dX8_layCosts_136 : decode cX8_layCosts 136 = .ok (.iload 5, 2) := by decide +kernel
theorem dX8_layCosts_138 : decode cX8_layCosts 138 = .ok (.iadd, 1) := by decide +kernel
theorem dX8_layCosts_139 : decode cX8_layCosts 139 = .ok (.iaload, 1) := by decide +kernel
theorem dX8_layCosts_140 : decode cX8_layCosts 140 = .ok (.iastore, 1) := by decide +kernel
theorem dX8_layCosts_141 : decode cX8_layCosts 141 = .ok (.iinc 6 1, 3) := by decide +kernel
theorem dX8_layCosts_144 : decode cX8_layCosts 144 = .ok (.goto (-76), 3) := by decide +kernel
theorem dX8_layCosts_147 : decode cX8_layCosts 147 = .ok (.iinc 5 1, 3) := by decide +kernel
theorem dX8_layCosts_150 : decode cX8_layCosts 150 = .ok (.goto (-107), 3) := by decide +kernel
theorem dX8_layCosts_153 : decode cX8_layCosts 153 = .ok (.iinc 4 (-1), 3) := by decide +kernel
theorem dX8_layCosts_156 : decode cX8_layCosts 156 = .ok (.goto (-122), 3) := by decide +kernel
theorem dX8_layCosts_159 : decode cX8_layCosts 159 = .ok (.return_, 1) := by decide +kernel
set_option maxRecDepth 20000 in
theorem ggX8_isMeans_X8_in : GoodIn wsX8_isMeans wsX8_in := goodIn_r _ [5] (by decide +kernel) (by decide +kernel)
set_option maxRecDepth 20000 in
theorem gX8_isMeans_X8_in : GoodIn wsX8_isMeans (va_wsS RX8 42 yX8_in wsX8_in) := goodIn_app (goodIn_of _ (by decide +kernel)) ggX8_isMeans_X8_in
theorem dX8_isMeans_0 : decode cX8_isMeans 0 = .ok (.iload_n 0, 1) := by decide +kernel
theorem dX8_isMeans_1 : decode cX8_isMeans 1 = .ok (.i2l, 1) := by decide +kernel
theorem dX8_isMeans_2 : decode cX8_isMeans 2 = .ok (.lconst 0, 1) := by decide +kernel
theorem dX8_isMeans_3 : decode cX8_isMeans 3 = .ok (.ldc2_w 182, 3) := by decide +kernel
theorem dX8_isMeans_6 : decode cX8_isMeans 6 = .ok (.invokestatic 42, 3) := by decide +kernel
theorem dX8_isMeans_9 : decode cX8_isMeans 9 = .ok (.ireturn, 1) := by decide +kernel
set_option maxRecDepth 20000 in
theorem ggX8_areStreets_X8_isStreet : GoodIn wsX8_areStreets wsX8_isStreet := goodIn_r _ [5, 6, 7, 8, 4, 9, 10, 11, 12, 13, 14, 15, 16, 17, 18, 19, 20, 21, 22, 23, 24, 25, 26] (by decide +kernel) (by decide +kernel)
set_option maxRecDepth 20000 in
theorem gX8_areStreets_X8_isStreet : GoodIn wsX8_areStreets (wsV RX8 151 RX8 yX8_isStreet wsX8_isStreet) := goodIn_app (goodIn_of _ (by decide +kernel)) ggX8_areStreets_X8_isStreet
theorem dX8_areStreets_0 : decode cX8_areStreets 0 = .ok (.aload_n 0, 1) := by decide +kernel
theorem dX8_areStreets_1 : decode cX8_areStreets 1 = .ok (.iload_n 1, 1) := by decide +kernel
theorem dX8_areStreets_2 : decode cX8_areStreets 2 = .ok (.invokevirtual 151, 3) := by decide +kernel
theorem dX8_areStreets_5 : decode cX8_areStreets 5 = .ok (.ifCond .eq 20, 3) := by decide +kernel
theorem dX8_areStreets_8 : decode cX8_areStreets 8 = .ok (.aload_n 0, 1) := by decide +kernel
theorem dX8_areStreets_9 : decode cX8_areStreets 9 = .ok (.iload_n 2, 1) := by decide +kernel
theorem dX8_areStreets_10 : decode cX8_areStreets 10 = .ok (.invokevirtual 151, 3) := by decide +kernel
theorem dX8_areStreets_13 : decode cX8_areStreets 13 = .ok (.ifCond .eq 12, 3) := by decide +kernel
theorem dX8_areStreets_16 : decode cX8_areStreets 16 = .ok (.iload_n 1, 1) := by decide +kernel
theorem dX8_areStreets_17 : decode cX8_areStreets 17 = .ok (.iload_n 2, 1) := by decide +kernel
theorem dX8_areStreets_18 : decode cX8_areStreets 18 = .ok (.if_icmp .gt 7, 3) := by decide +kernel
theorem dX8_areStreets_21 : decode cX8_areStreets 21 = .ok (.iconst 1, 1) := by decide +kernel
theorem dX8_areStreets_22 : decode cX8_areStreets 22 = .ok (.goto 4, 3) := by decide +kernel
theorem dX8_areStreets_25 : decode cX8_areStreets 25 = .ok (.iconst 0, 1) := by decide +kernel
theorem dX8_areStreets_26 : decode cX8_areStreets 26 = .ok (.ireturn, 1) := by decide +kernel
set_option maxRecDepth 20000 in
theorem ggX8_tell_X8_isMeans : GoodIn wsX8_tell wsX8_isMeans := goodIn_r _ [12, 13, 14, 15, 11, 16] (by decide +kernel) (by decide +kernel)
set_option maxRecDepth 20000 in
theorem gX8_tell_X8_isMeans : GoodIn wsX8_tell (va_wsS RX8 184 yX8_isMeans wsX8_isMeans) := goodIn_app (goodIn_of _ (by decide +kernel)) ggX8_tell_X8_isMeans
set_option maxRecDepth 20000 in
theorem ggX8_tell_X8_areStreets : GoodIn wsX8_tell wsX8_areStreets := goodIn_r _ [20, 21, 22, 23, 11, 24, 8, 14, 15, 16, 60, 61, 62, 63, 64, 65, 66, 67, 68, 69, 70, 71, 72, 73, 74, 75, 76] (by decide +kernel) (by decide +kernel)
set_option maxRecDepth 20000 in
theorem gX8_tell_X8_areStreets : GoodIn wsX8_tell (wsV RX8 187 RX8 yX8_areStreets wsX8_areStreets) := goodIn_app (goodIn_of _ (by decide +kernel)) ggX8_tell_X8_areStreets
set_option maxRecDepth 20000 in
theorem ggX8_tell_X8_in : GoodIn wsX8_tell wsX8_in := goodIn_r _ [16] (by decide +kernel) (by decide +kernel)
set_option maxRecDepth 20000 in
theorem gX8_tell_X8_in : GoodIn wsX8_tell (va_wsS RX8 42 yX8_in wsX8_in) := goodIn_app (goodIn_of _ (by decide +kernel)) ggX8_tell_X8_in
set_option maxRecDepth 20000 in
theorem ggX8_tell_X8_layCosts : GoodIn wsX8_tell wsX8_layCosts := goodIn_r _ [28, 5, 6, 8, 29, 30, 31, 11, 32, 33, 34, 35, 36, 37, 38, 39, 40, 41, 42, 43, 44, 45, 46, 47, 48, 49, 50, 51, 52, 53, 54, 55, 56, 57, 58, 59, 60, 61, 62, 63, 64, 65, 66, 67, 68, 69, 70, 71, 72, 73, 74, 75, 76] (by decide +kernel) (by decide +kernel)
set_option maxRecDepth 20000 in
theorem gX8_tell_X8_layCosts : GoodIn wsX8_tell (wsV RX8 196 RX8 yX8_layCosts wsX8_layCosts) := goodIn_app (goodIn_of _ (by decide +kernel)) ggX8_tell_X8_layCosts
set_option maxRecDepth 20000 in
theorem ggX8_tell_X8_onBy : GoodIn wsX8_tell wsX8_onBy := goodIn_r _ [32, 8, 5, 6, 33, 34, 35, 11, 36, 37, 38, 39, 40, 41, 42, 43, 44, 45, 46, 47, 48, 49, 50, 51, 52, 53, 54, 55, 56, 57, 58, 59, 60, 61, 62, 63, 64, 65, 66, 67, 68, 69, 70, 71, 72, 73, 74, 75, 76] (by decide +kernel) (by decide +kernel)
set_option maxRecDepth 20000 in
theorem gX8_tell_X8_onBy : GoodIn wsX8_tell (wsV RX8 178 RX8 yX8_onBy wsX8_onBy) := goodIn_app (goodIn_of _ (by decide +kernel)) ggX8_tell_X8_onBy
theorem dX8_tell_0 : decode cX8_tell 0 = .ok (.iload_n 1, 1) := by decide +kernel
theorem dX8_tell_1 : decode cX8_tell 1 = .ok (.invokestatic 184, 3) := by decide +kernel
theorem dX8_tell_4 : decode cX8_tell 4 = .ok (.ifCond .eq 40, 3) := by decide +kernel
theorem dX8_tell_7 : decode cX8_tell 7 = .ok (.aload_n 0, 1) := by decide +kernel
theorem dX8_tell_8 : decode cX8_tell 8 = .ok (.iload_n 2, 1) := by decide +kernel
theorem dX8_tell_9 : decode cX8_tell 9 = .ok (.iload_n 3, 1) := by decide +kernel
theorem dX8_tell_10 : decode cX8_tell 10 = .ok (.invokevirtual 187, 3) := by decide +kernel
theorem dX8_tell_13 : decode cX8_tell 13 = .ok (.ifCond .eq 31, 3) := by decide +kernel
theorem dX8_tell_16 : decode cX8_tell 16 = .ok (.iload 4, 2) := by decide +kernel
theorem dX8_tell_18 : decode cX8_tell 18 = .ok (.i2l, 1) := by decide +kernel
theorem dX8_tell_19 : decode cX8_tell 19 = .ok (.lconst 0, 1) := by decide +kernel
theorem dX8_tell_20 : decode cX8_tell 20 = .ok (.ldc2_w 190, 3) := by decide +kernel
theorem dX8_tell_23 : decode cX8_tell 23 = .ok (.invokestatic 42, 3) := by decide +kernel
theorem dX8_tell_26 : decode cX8_tell 26 = .ok (.ifCond .eq 18, 3) := by decide +kernel
theorem dX8_tell_29 : decode cX8_tell 29 = .ok (.iload 5, 2) := by decide +kernel
theorem dX8_tell_31 : decode cX8_tell 31 = .ok (.i2l, 1) := by decide +kernel
theorem dX8_tell_32 : decode cX8_tell 32 = .ok (.ldc2_w 192, 3) := by decide +kernel
theorem dX8_tell_35 : decode cX8_tell 35 = .ok (.ldc2_w 194, 3) := by decide +kernel
theorem dX8_tell_38 : decode cX8_tell 38 = .ok (.invokestatic 42, 3) := by decide +kernel
theorem dX8_tell_41 : decode cX8_tell 41 = .ok (.ifCond .ne 6, 3) := by decide +kernel
theorem dX8_tell_44 : decode cX8_tell 44 = .ok (.ldc 52, 2) := by decide +kernel
theorem dX8_tell_46 : decode cX8_tell 46 = .ok (.ireturn, 1) := by decide +kernel
theorem dX8_tell_47 : decode cX8_tell 47 = .ok (.aload_n 0, 1) := by decide +kernel
theorem dX8_tell_48 : decode cX8_tell 48 = .ok (.iload_n 1, 1) := by decide +kernel
theorem dX8_tell_49 : decode cX8_tell 49 = .ok (.iload_n 2, 1) := by decide +kernel
theorem dX8_tell_50 : decode cX8_tell 50 = .ok (.iload_n 3, 1) := by decide +kernel
theorem dX8_tell_51 : decode cX8_tell 51 = .ok (.invokevirtual 196, 3) := by decide +kernel
theorem dX8_tell_54 : decode cX8_tell 54 = .ok (.aload_n 0, 1) := by decide +kernel
theorem dX8_tell_55 : decode cX8_tell 55 = .ok (.getfield 32, 3) := by decide +kernel
theorem dX8_tell_58 : decode cX8_tell 58 = .ok (.bipush 100, 2) := by decide +kernel
theorem dX8_tell_60 : decode cX8_tell 60 = .ok (.iload_n 2, 1) := by decide +kernel
theorem dX8_tell_61 : decode cX8_tell 61 = .ok (.imul, 1) := by decide +kernel
theorem dX8_tell_62 : decode cX8_tell 62 = .ok (.iload 4, 2) := by decide +kernel
theorem dX8_tell_64 : decode cX8_tell 64 = .ok (.iadd, 1) := by decide +kernel
theorem dX8_tell_65 : decode cX8_tell 65 = .ok (.iaload, 1) := by decide +kernel
theorem dX8_tell_66 : decode cX8_tell 66 = .ok (.istore 6, 2) := by decide +kernel
theorem dX8_tell_68 : decode cX8_tell 68 = .ok (.iload 6, 2) := by decide +kernel
theorem dX8_tell_70 : decode cX8_tell 70 = .ok (.ldc 177, 2) := by decide +kernel
theorem dX8_tell_72 : decode cX8_tell 72 = .ok (.if_icmp .ge 11, 3) := by decide +kernel
theorem dX8_tell_75 : decode cX8_tell 75 = .ok (.iload 5, 2) := by decide +kernel
theorem dX8_tell_77 : decode cX8_tell 77 = .ok (.iload_n 3, 1) := by decide +kernel
theorem dX8_tell_78 : decode cX8_tell 78 = .ok (.iload_n 2, 1) := by decide +kernel
theorem dX8_tell_79 : decode cX8_tell 79 = .ok (.isub, 1) := by decide +kernel
theorem dX8_tell_80 : decode cX8_tell 80 = .ok (.if_icmp .le 6, 3) := by decide +kernel
theorem dX8_tell_83 : decode cX8_tell 83 = .ok (.ldc 200, 2) := by decide +kernel
theorem dX8_tell_85 : decode cX8_tell 85 = .ok (.ireturn, 1) := by decide +kernel
theorem dX8_tell_86 : decode cX8_tell 86 = .ok (.iload 4, 2) := by decide +kernel
theorem dX8_tell_88 : decode cX8_tell 88 = .ok (.istore 7, 2) := by decide +kernel
theorem dX8_tell_90 : decode cX8_tell 90 = .ok (.ldc 200, 2) := by decide +kernel
theorem dX8_tell_92 : decode cX8_tell 92 = .ok (.istore 8, 2) := by decide +kernel
theorem dX8_tell_94 : decode cX8_tell 94 = .ok (.iload_n 2, 1) := by decide +kernel
theorem dX8_tell_95 : decode cX8_tell 95 = .ok (.istore 9, 2) := by decide +kernel
theorem dX8_tell_97 : decode cX8_tell 97 = .ok (.iload 9, 2) := by decide +kernel
theorem dX8_tell_99 : decode cX8_tell 99 = .ok (.iload_n 2, 1) := by decide +kernel
theorem dX8_tell_100 : decode cX8_tell 100 = .ok (.iload 5, 2) := by decide +kernel
theorem dX8_tell_102 : decode cX8_tell 102 = .ok (.iadd, 1) := by decide +kernel
theorem dX8_tell_103 : decode cX8_tell 103 = .ok (.if_icmp .gt 60, 3) := by decide +kernel
theorem dX8_tell_106 : decode cX8_tell 106 = .ok (.iconst 0, 1) := by decide +kernel
theorem dX8_tell_107 : decode cX8_tell 107 = .ok (.istore 8, 2) := by decide +kernel
theorem dX8_tell_109 : decode cX8_tell 109 = .ok (.aload_n 0, 1) := by decide +kernel
theorem dX8_tell_110 : decode cX8_tell 110 = .ok (.iload 8, 2) := by decide +kernel
theorem dX8_tell_112 : decode cX8_tell 112 = .ok (.iload_n 1, 1) := by decide +kernel
theorem dX8_tell_113 : decode cX8_tell 113 = .ok (.iload 9, 2) := by decide +kernel
theorem dX8_tell_115 : decode cX8_tell 115 = .ok (.iload 7, 2) := by decide +kernel
theorem dX8_tell_117 : decode cX8_tell 117 = .ok (.invokevirtual 178, 3) := by decide +kernel
theorem dX8_tell_120 : decode cX8_tell 120 = .ok (.aload_n 0, 1) := by decide +kernel
theorem dX8_tell_121 : decode cX8_tell 121 = .ok (.getfield 32, 3) := by decide +kernel
theorem dX8_tell_124 : decode cX8_tell 124 = .ok (.bipush 100, 2) := by decide +kernel
theorem dX8_tell_126 : decode cX8_tell 126 = .ok (.iload 9, 2) := by decide +kernel
theorem dX8_tell_128 : decode cX8_tell 128 = .ok (.imul, 1) := by decide +kernel
theorem dX8_tell_129 : decode cX8_tell 129 = .ok (.iload 7, 2) := by decide +kernel
theorem dX8_tell_131 : decode cX8_tell 131 = .ok (.iadd, 1) := by decide +kernel
theorem dX8_tell_132 : decode cX8_tell 132 = .ok (.iaload, 1) := by decide +kernel
theorem dX8_tell_133 : decode cX8_tell 133 = .ok (.if_icmp .eq 9, 3) := by decide +kernel
theorem dX8_tell_136 : decode cX8_tell 136 = .ok (.iinc 8 1, 3) := by decide +kernel
theorem dX8_tell_139 : decode cX8_tell 139 = .ok (.goto (-30), 3) := by decide +kernel
theorem dX8_tell_142 : decode cX8_tell 142 = .ok (.iload 7, 2) := by decide +kernel
theorem dX8_tell_144 : decode cX8_tell 144 = .ok (.aload_n 0, 1) := by decide +kernel
theorem dX8_tell_145 : decode cX8_tell 145 = .ok (.getfield 7, 3) := by decide +kernel
theorem dX8_tell_148 : decode cX8_tell 148 = .ok (.bipush 37, 2) := by decide +kernel
theorem dX8_tell_150 : decode cX8_tell 150 = .ok (.iload 8, 2) := by decide +kernel
theorem dX8_tell_152 : decode cX8_tell 152 = .ok (.iadd, 1) := by decide +kernel
theorem dX8_tell_153 : decode cX8_tell 153 = .ok (.iaload, 1) := by decide +kernel
theorem dX8_tell_154 : decode cX8_tell 154 = .ok (.isub, 1) := by decide +kernel
theorem dX8_tell_155 : decode cX8_tell 155 = .ok (.istore 7, 2) := by decide +kernel
theorem dX8_tell_157 : decode cX8_tell 157 = .ok (.iinc 9 1, 3) := by decide +kernel
theorem dX8_tell_160 : decode cX8_tell 160 = .ok (.goto (-63), 3) := by decide +kernel
theorem dX8_tell_163 : decode cX8_tell 163 = .ok (.iload 5, 2) := by decide +kernel
theorem dX8_tell_165 : decode cX8_tell 165 = .ok (.ifCond .ge 8, 3) := by decide +kernel
theorem dX8_tell_168 : decode cX8_tell 168 = .ok (.iload 6, 2) := by decide +kernel
theorem dX8_tell_170 : decode cX8_tell 170 = .ok (.goto 5, 3) := by decide +kernel
theorem dX8_tell_173 : decode cX8_tell 173 = .ok (.iload 8, 2) := by decide +kernel
theorem dX8_tell_175 : decode cX8_tell 175 = .ok (.ireturn, 1) := by decide +kernel
set_option maxRecDepth 20000 in
theorem ggX8_soonest_X8_tells : GoodIn wsX8_soonest wsX8_tells := goodIn_r _ [7, 2, 8, 9, 10, 6, 11, 12, 13, 14, 15, 16, 17, 18, 19, 20, 21, 22, 23, 24, 25, 26, 27, 28] (by decide +kernel) (by decide +kernel)
set_option maxRecDepth 20000 in
theorem gX8_soonest_X8_tells : GoodIn wsX8_soonest (wsV RX8 174 RX8 yX8_tells wsX8_tells) := goodIn_app (goodIn_of _ (by decide +kernel)) ggX8_soonest_X8_tells
theorem dX8_soonest_0 : decode cX8_soonest 0 = .ok (.ldc 200, 2) := by decide +kernel
theorem dX8_soonest_2 : decode cX8_soonest 2 = .ok (.istore_n 3, 1) := by decide +kernel
theorem dX8_soonest_3 : decode cX8_soonest 3 = .ok (.iconst 0, 1) := by decide +kernel
theorem dX8_soonest_4 : decode cX8_soonest 4 = .ok (.istore 4, 2) := by decide +kernel
theorem dX8_soonest_6 : decode cX8_soonest 6 = .ok (.iload 4, 2) := by decide +kernel
theorem dX8_soonest_8 : decode cX8_soonest 8 = .ok (.aload_n 0, 1) := by decide +kernel
theorem dX8_soonest_9 : decode cX8_soonest 9 = .ok (.getfield 7, 3) := by decide +kernel
theorem dX8_soonest_12 : decode cX8_soonest 12 = .ok (.iconst 2, 1) := by decide +kernel
theorem dX8_soonest_13 : decode cX8_soonest 13 = .ok (.iaload, 1) := by decide +kernel
theorem dX8_soonest_14 : decode cX8_soonest 14 = .ok (.if_icmp .ge 67, 3) := by decide +kernel
theorem dX8_soonest_17 : decode cX8_soonest 17 = .ok (.aload_n 0, 1) := by decide +kernel
theorem dX8_soonest_18 : decode cX8_soonest 18 = .ok (.iload 4, 2) := by decide +kernel
theorem dX8_soonest_20 : decode cX8_soonest 20 = .ok (.iload_n 1, 1) := by decide +kernel
theorem dX8_soonest_21 : decode cX8_soonest 21 = .ok (.iload_n 2, 1) := by decide +kernel
theorem dX8_soonest_22 : decode cX8_soonest 22 = .ok (.invokevirtual 174, 3) := by decide +kernel
theorem dX8_soonest_25 : decode cX8_soonest 25 = .ok (.ifCond .eq 27, 3) := by decide +kernel
theorem dX8_soonest_28 : decode cX8_soonest 28 = .ok (.iload_n 3, 1) := by decide +kernel
theorem dX8_soonest_29 : decode cX8_soonest 29 = .ok (.ldc 200, 2) := by decide +kernel
theorem dX8_soonest_31 : decode cX8_soonest 31 = .ok (.if_icmp .eq 17, 3) := by decide +kernel
theorem dX8_soonest_34 : decode cX8_soonest 34 = .ok (.aload_n 0, 1) := by decide +kernel
theorem dX8_soonest_35 : decode cX8_soonest 35 = .ok (.getfield 7, 3) := by decide +kernel
theorem dX8_soonest_38 : decode cX8_soonest 38 = .ok (.bipush 37, 2) := by decide +kernel
theorem dX8_soonest_40 : decode cX8_soonest 40 = .ok (.iload 4, 2) := by decide +kernel
theorem dX8_soonest_42 : decode cX8_soonest 42 = .ok (.iadd, 1) := by decide +kernel
theorem dX8_soonest_43 : decode cX8_soonest 43 = .ok (.iaload, 1) := by decide +kernel
theorem dX8_soonest_44 : decode cX8_soonest 44 = .ok (.iload_n 3, 1) := by decide +kernel
theorem dX8_soonest_45 : decode cX8_soonest 45 = .ok (.if_icmp .ge 7, 3) := by decide +kernel
theorem dX8_soonest_48 : decode cX8_soonest 48 = .ok (.iconst 1, 1) := by decide +kernel
theorem dX8_soonest_49 : decode cX8_soonest 49 = .ok (.goto 4, 3) := by decide +kernel
theorem dX8_soonest_52 : decode cX8_soonest 52 = .ok (.iconst 0, 1) := by decide +kernel
theorem dX8_soonest_53 : decode cX8_soonest 53 = .ok (.istore 5, 2) := by decide +kernel
theorem dX8_soonest_55 : decode cX8_soonest 55 = .ok (.iload 5, 2) := by decide +kernel
theorem dX8_soonest_57 : decode cX8_soonest 57 = .ok (.ifCond .eq 16, 3) := by decide +kernel
theorem dX8_soonest_60 : decode cX8_soonest 60 = .ok (.aload_n 0, 1) := by decide +kernel
theorem dX8_soonest_61 : decode cX8_soonest 61 = .ok (.getfield 7, 3) := by decide +kernel
theorem dX8_soonest_64 : decode cX8_soonest 64 = .ok (.bipush 37, 2) := by decide +kernel
theorem dX8_soonest_66 : decode cX8_soonest 66 = .ok (.iload 4, 2) := by decide +kernel
theorem dX8_soonest_68 : decode cX8_soonest 68 = .ok (.iadd, 1) := by decide +kernel
theorem dX8_soonest_69 : decode cX8_soonest 69 = .ok (.iaload, 1) := by decide +kernel
theorem dX8_soonest_70 : decode cX8_soonest 70 = .ok (.goto 4, 3) := by decide +kernel
theorem dX8_soonest_73 : decode cX8_soonest 73 = .ok (.iload_n 3, 1) := by decide +kernel
theorem dX8_soonest_74 : decode cX8_soonest 74 = .ok (.istore_n 3, 1) := by decide +kernel
theorem dX8_soonest_75 : decode cX8_soonest 75 = .ok (.iinc 4 1, 3) := by decide +kernel
theorem dX8_soonest_78 : decode cX8_soonest 78 = .ok (.goto (-72), 3) := by decide +kernel
theorem dX8_soonest_81 : decode cX8_soonest 81 = .ok (.iload_n 3, 1) := by decide +kernel
theorem dX8_soonest_82 : decode cX8_soonest 82 = .ok (.ireturn, 1) := by decide +kernel
set_option maxRecDepth 20000 in
theorem ggX8_shut_X8_isMeans : GoodIn wsX8_shut wsX8_isMeans := goodIn_r _ [9, 10, 11, 12, 8, 13] (by decide +kernel) (by decide +kernel)
set_option maxRecDepth 20000 in
theorem gX8_shut_X8_isMeans : GoodIn wsX8_shut (va_wsS RX8 184 yX8_isMeans wsX8_isMeans) := goodIn_app (goodIn_of _ (by decide +kernel)) ggX8_shut_X8_isMeans
set_option maxRecDepth 20000 in
theorem ggX8_shut_X8_soonest : GoodIn wsX8_shut wsX8_soonest := goodIn_r _ [17, 5, 4, 18, 19, 20, 8, 21, 22, 23, 24, 25, 26, 27, 28, 29, 30, 31, 32, 33, 34, 35, 36, 37, 38, 39, 40, 41, 42] (by decide +kernel) (by decide +kernel)
set_option maxRecDepth 20000 in
theorem gX8_shut_X8_soonest : GoodIn wsX8_shut (wsV RX8 201 RX8 yX8_soonest wsX8_soonest) := goodIn_app (goodIn_of _ (by decide +kernel)) ggX8_shut_X8_soonest
theorem dX8_shut_0 : decode cX8_shut 0 = .ok (.aload_n 0, 1) := by decide +kernel
theorem dX8_shut_1 : decode cX8_shut 1 = .ok (.getfield 127, 3) := by decide +kernel
theorem dX8_shut_4 : decode cX8_shut 4 = .ok (.ifCond .ne 6, 3) := by decide +kernel
theorem dX8_shut_7 : decode cX8_shut 7 = .ok (.ldc 134, 2) := by decide +kernel
theorem dX8_shut_9 : decode cX8_shut 9 = .ok (.ireturn, 1) := by decide +kernel
theorem dX8_shut_10 : decode cX8_shut 10 = .ok (.iload_n 1, 1) := by decide +kernel
theorem dX8_shut_11 : decode cX8_shut 11 = .ok (.invokestatic 184, 3) := by decide +kernel
theorem dX8_shut_14 : decode cX8_shut 14 = .ok (.ifCond .ne 6, 3) := by decide +kernel
theorem dX8_shut_17 : decode cX8_shut 17 = .ok (.ldc 52, 2) := by decide +kernel
theorem dX8_shut_19 : decode cX8_shut 19 = .ok (.ireturn, 1) := by decide +kernel
theorem dX8_shut_20 : decode cX8_shut 20 = .ok (.iconst 0, 1) := by decide +kernel
theorem dX8_shut_21 : decode cX8_shut 21 = .ok (.istore_n 2, 1) := by decide +kernel
theorem dX8_shut_22 : decode cX8_shut 22 = .ok (.iconst 0, 1) := by decide +kernel
theorem dX8_shut_23 : decode cX8_shut 23 = .ok (.istore_n 3, 1) := by decide +kernel
theorem dX8_shut_24 : decode cX8_shut 24 = .ok (.iload_n 3, 1) := by decide +kernel
theorem dX8_shut_25 : decode cX8_shut 25 = .ok (.aload_n 0, 1) := by decide +kernel
theorem dX8_shut_26 : decode cX8_shut 26 = .ok (.getfield 7, 3) := by decide +kernel
theorem dX8_shut_29 : decode cX8_shut 29 = .ok (.iconst 1, 1) := by decide +kernel
theorem dX8_shut_30 : decode cX8_shut 30 = .ok (.iaload, 1) := by decide +kernel
theorem dX8_shut_31 : decode cX8_shut 31 = .ok (.if_icmp .ge 30, 3) := by decide +kernel
theorem dX8_shut_34 : decode cX8_shut 34 = .ok (.iload_n 2, 1) := by decide +kernel
theorem dX8_shut_35 : decode cX8_shut 35 = .ok (.aload_n 0, 1) := by decide +kernel
theorem dX8_shut_36 : decode cX8_shut 36 = .ok (.iload_n 1, 1) := by decide +kernel
theorem dX8_shut_37 : decode cX8_shut 37 = .ok (.iload_n 3, 1) := by decide +kernel
theorem dX8_shut_38 : decode cX8_shut 38 = .ok (.invokevirtual 201, 3) := by decide +kernel
theorem dX8_shut_41 : decode cX8_shut 41 = .ok (.ldc 200, 2) := by decide +kernel
theorem dX8_shut_43 : decode cX8_shut 43 = .ok (.if_icmp .ne 9, 3) := by decide +kernel
theorem dX8_shut_46 : decode cX8_shut 46 = .ok (.iconst 1, 1) := by decide +kernel
theorem dX8_shut_47 : decode cX8_shut 47 = .ok (.iload_n 3, 1) := by decide +kernel
theorem dX8_shut_48 : decode cX8_shut 48 = .ok (.ishl, 1) := by decide +kernel
theorem dX8_shut_49 : decode cX8_shut 49 = .ok (.goto 4, 3) := by decide +kernel
theorem dX8_shut_52 : decode cX8_shut 52 = .ok (.iconst 0, 1) := by decide +kernel
theorem dX8_shut_53 : decode cX8_shut 53 = .ok (.ior, 1) := by decide +kernel
theorem dX8_shut_54 : decode cX8_shut 54 = .ok (.istore_n 2, 1) := by decide +kernel
theorem dX8_shut_55 : decode cX8_shut 55 = .ok (.iinc 3 1, 3) := by decide +kernel
theorem dX8_shut_58 : decode cX8_shut 58 = .ok (.goto (-34), 3) := by decide +kernel
theorem dX8_shut_61 : decode cX8_shut 61 = .ok (.iload_n 2, 1) := by decide +kernel
theorem dX8_shut_62 : decode cX8_shut 62 = .ok (.ireturn, 1) := by decide +kernel
set_option maxRecDepth 20000 in
theorem ggX8_quick_X8_isMeans : GoodIn wsX8_quick wsX8_isMeans := goodIn_r _ [6, 7, 8, 9, 5, 10] (by decide +kernel) (by decide +kernel)
set_option maxRecDepth 20000 in
theorem gX8_quick_X8_isMeans : GoodIn wsX8_quick (va_wsS RX8 184 yX8_isMeans wsX8_isMeans) := goodIn_app (goodIn_of _ (by decide +kernel)) ggX8_quick_X8_isMeans
set_option maxRecDepth 20000 in
theorem ggX8_quick_X8_areStreets : GoodIn wsX8_quick wsX8_areStreets := goodIn_r _ [14, 15, 16, 17, 5, 18, 19, 8, 9, 10, 32, 33, 34, 35, 36, 37, 38, 39, 40, 41, 42, 43, 44, 45, 46, 47, 48] (by decide +kernel) (by decide +kernel)
set_option maxRecDepth 20000 in
theorem gX8_quick_X8_areStreets : GoodIn wsX8_quick (wsV RX8 187 RX8 yX8_areStreets wsX8_areStreets) := goodIn_app (goodIn_of _ (by decide +kernel)) ggX8_quick_X8_areStreets
set_option maxRecDepth 20000 in
theorem ggX8_quick_X8_soonest : GoodIn wsX8_quick wsX8_soonest := goodIn_r _ [23, 2, 19, 24, 25, 26, 5, 27, 28, 29, 30, 31, 32, 33, 34, 35, 36, 37, 38, 39, 40, 41, 42, 43, 44, 45, 46, 47, 48] (by decide +kernel) (by decide +kernel)
set_option maxRecDepth 20000 in
theorem gX8_quick_X8_soonest : GoodIn wsX8_quick (wsV RX8 201 RX8 yX8_soonest wsX8_soonest) := goodIn_app (goodIn_of _ (by decide +kernel)) ggX8_quick_X8_soonest
theorem dX8_quick_0 : decode cX8_quick 0 = .ok (.iload_n 1, 1) := by decide +kernel
theorem dX8_quick_1 : decode cX8_quick 1 = .ok (.invokestatic 184, 3) := by decide +kernel
theorem dX8_quick_4 : decode cX8_quick 4 = .ok (.ifCond .eq 12, 3) := by decide +kernel
theorem dX8_quick_7 : decode cX8_quick 7 = .ok (.aload_n 0, 1) := by decide +kernel
theorem dX8_quick_8 : decode cX8_quick 8 = .ok (.iload_n 2, 1) := by decide +kernel
theorem dX8_quick_9 : decode cX8_quick 9 = .ok (.iload_n 3, 1) := by decide +kernel
theorem dX8_quick_10 : decode cX8_quick 10 = .ok (.invokevirtual 187, 3) := by decide +kernel
theorem dX8_quick_13 : decode cX8_quick 13 = .ok (.ifCond .ne 6, 3) := by decide +kernel
theorem dX8_quick_16 : decode cX8_quick 16 = .ok (.ldc 52, 2) := by decide +kernel
theorem dX8_quick_18 : decode cX8_quick 18 = .ok (.ireturn, 1) := by decide +kernel
theorem dX8_quick_19 : decode cX8_quick 19 = .ok (.iconst 0, 1) := by decide +kernel
theorem dX8_quick_20 : decode cX8_quick 20 = .ok (.istore 4, 2) := by decide +kernel
theorem dX8_quick_22 : decode cX8_quick 22 = .ok (.iload_n 2, 1) := by decide +kernel
theorem dX8_quick_23 : decode cX8_quick 23 = .ok (.istore 5, 2) := by decide +kernel
theorem dX8_quick_25 : decode cX8_quick 25 = .ok (.iload 5, 2) := by decide +kernel
theorem dX8_quick_27 : decode cX8_quick 27 = .ok (.iload_n 3, 1) := by decide +kernel
theorem dX8_quick_28 : decode cX8_quick 28 = .ok (.if_icmp .gt 36, 3) := by decide +kernel
theorem dX8_quick_31 : decode cX8_quick 31 = .ok (.aload_n 0, 1) := by decide +kernel
theorem dX8_quick_32 : decode cX8_quick 32 = .ok (.iload_n 1, 1) := by decide +kernel
theorem dX8_quick_33 : decode cX8_quick 33 = .ok (.iload 5, 2) := by decide +kernel
theorem dX8_quick_35 : decode cX8_quick 35 = .ok (.invokevirtual 201, 3) := by decide +kernel
theorem dX8_quick_38 : decode cX8_quick 38 = .ok (.ldc 200, 2) := by decide +kernel
theorem dX8_quick_40 : decode cX8_quick 40 = .ok (.if_icmp .ne 6, 3) := by decide +kernel
theorem dX8_quick_43 : decode cX8_quick 43 = .ok (.ldc 200, 2) := by decide +kernel
theorem dX8_quick_45 : decode cX8_quick 45 = .ok (.ireturn, 1) := by decide +kernel
theorem dX8_quick_46 : decode cX8_quick 46 = .ok (.iload 4, 2) := by decide +kernel
theorem dX8_quick_48 : decode cX8_quick 48 = .ok (.aload_n 0, 1) := by decide +kernel
theorem dX8_quick_49 : decode cX8_quick 49 = .ok (.iload_n 1, 1) := by decide +kernel
theorem dX8_quick_50 : decode cX8_quick 50 = .ok (.iload 5, 2) := by decide +kernel
theorem dX8_quick_52 : decode cX8_quick 52 = .ok (.invokevirtual 201, 3) := by decide +kernel
theorem dX8_quick_55 : decode cX8_quick 55 = .ok (.iadd, 1) := by decide +kernel
theorem dX8_quick_56 : decode cX8_quick 56 = .ok (.istore 4, 2) := by decide +kernel
theorem dX8_quick_58 : decode cX8_quick 58 = .ok (.iinc 5 1, 3) := by decide +kernel
theorem dX8_quick_61 : decode cX8_quick 61 = .ok (.goto (-36), 3) := by decide +kernel
theorem dX8_quick_64 : decode cX8_quick 64 = .ok (.iload 4, 2) := by decide +kernel
theorem dX8_quick_66 : decode cX8_quick 66 = .ok (.ireturn, 1) := by decide +kernel
set_option maxRecDepth 20000 in
theorem ggX8_noPairs_X8_find : GoodIn wsX8_noPairs wsX8_find := goodIn_r _ [8, 9, 10, 23, 24, 25, 26, 27, 28, 29, 30, 31, 32, 33, 34, 35, 36, 37, 38, 39] (by decide +kernel) (by decide +kernel)
set_option maxRecDepth 20000 in
theorem gX8_noPairs_X8_find : GoodIn wsX8_noPairs (wsV RX8 53 RX8 yX8_find wsX8_find) := goodIn_app (goodIn_of _ (by decide +kernel)) ggX8_noPairs_X8_find
set_option maxRecDepth 20000 in
theorem ggX8_noPairs_X8_isSpan : GoodIn wsX8_noPairs wsX8_isSpan := goodIn_r _ [14, 1, 23, 24, 25, 26, 27, 28, 29, 30, 31, 32, 33, 34, 35, 36, 37, 38, 39] (by decide +kernel) (by decide +kernel)
set_option maxRecDepth 20000 in
theorem gX8_noPairs_X8_isSpan : GoodIn wsX8_noPairs (wsV RX8 64 RX8 yX8_isSpan wsX8_isSpan) := goodIn_app (goodIn_of _ (by decide +kernel)) ggX8_noPairs_X8_isSpan
set_option maxRecDepth 20000 in
theorem ggX8_noPairs_X8_isStreet : GoodIn wsX8_noPairs wsX8_isStreet := goodIn_r _ [18, 19, 20, 21, 7, 22, 23, 24, 25, 26, 27, 28, 29, 30, 31, 32, 33, 34, 35, 36, 37, 38, 39] (by decide +kernel) (by decide +kernel)
set_option maxRecDepth 20000 in
theorem gX8_noPairs_X8_isStreet : GoodIn wsX8_noPairs (wsV RX8 151 RX8 yX8_isStreet wsX8_isStreet) := goodIn_app (goodIn_of _ (by decide +kernel)) ggX8_noPairs_X8_isStreet
theorem dX8_noPairs_0 : decode cX8_noPairs 0 = .ok (.aload_n 0, 1) := by decide +kernel
theorem dX8_noPairs_1 : decode cX8_noPairs 1 = .ok (.getfield 20, 3) := by decide +kernel
theorem dX8_noPairs_4 : decode cX8_noPairs 4 = .ok (.iload_n 1, 1) := by decide +kernel
theorem dX8_noPairs_5 : decode cX8_noPairs 5 = .ok (.iaload, 1) := by decide +kernel
theorem dX8_noPairs_6 : decode cX8_noPairs 6 = .ok (.ifCond .ge 9, 3) := by decide +kernel
theorem dX8_noPairs_9 : decode cX8_noPairs 9 = .ok (.aload_n 0, 1) := by decide +kernel
theorem dX8_noPairs_10 : decode cX8_noPairs 10 = .ok (.iconst 1, 1) := by decide +kernel
theorem dX8_noPairs_11 : decode cX8_noPairs 11 = .ok (.invokevirtual 53, 3) := by decide +kernel
theorem dX8_noPairs_14 : decode cX8_noPairs 14 = .ok (.ireturn, 1) := by decide +kernel
theorem dX8_noPairs_15 : decode cX8_noPairs 15 = .ok (.aload_n 0, 1) := by decide +kernel
theorem dX8_noPairs_16 : decode cX8_noPairs 16 = .ok (.iload_n 1, 1) := by decide +kernel
theorem dX8_noPairs_17 : decode cX8_noPairs 17 = .ok (.iload_n 2, 1) := by decide +kernel
theorem dX8_noPairs_18 : decode cX8_noPairs 18 = .ok (.iconst 2, 1) := by decide +kernel
theorem dX8_noPairs_19 : decode cX8_noPairs 19 = .ok (.iload_n 3, 1) := by decide +kernel
theorem dX8_noPairs_20 : decode cX8_noPairs 20 = .ok (.imul, 1) := by decide +kernel
theorem dX8_noPairs_21 : decode cX8_noPairs 21 = .ok (.invokevirtual 64, 3) := by decide +kernel
theorem dX8_noPairs_24 : decode cX8_noPairs 24 = .ok (.ifCond .ne 9, 3) := by decide +kernel
theorem dX8_noPairs_27 : decode cX8_noPairs 27 = .ok (.aload_n 0, 1) := by decide +kernel
theorem dX8_noPairs_28 : decode cX8_noPairs 28 = .ok (.iconst 2, 1) := by decide +kernel
theorem dX8_noPairs_29 : decode cX8_noPairs 29 = .ok (.invokevirtual 53, 3) := by decide +kernel
theorem dX8_noPairs_32 : decode cX8_noPairs 32 = .ok (.ireturn, 1) := by decide +kernel
theorem dX8_noPairs_33 : decode cX8_noPairs 33 = .ok (.iconst 1, 1) := by decide +kernel
theorem dX8_noPairs_34 : decode cX8_noPairs 34 = .ok (.istore 4, 2) := by decide +kernel
theorem dX8_noPairs_36 : decode cX8_noPairs 36 = .ok (.iconst 0, 1) := by decide +kernel
theorem dX8_noPairs_37 : decode cX8_noPairs 37 = .ok (.istore 5, 2) := by decide +kernel
theorem dX8_noPairs_39 : decode cX8_noPairs 39 = .ok (.iload 5, 2) := by decide +kernel
theorem dX8_noPairs_41 : decode cX8_noPairs 41 = .ok (.iload_n 3, 1) := by decide +kernel
theorem dX8_noPairs_42 : decode cX8_noPairs 42 = .ok (.if_icmp .ge 44, 3) := by decide +kernel
theorem dX8_noPairs_45 : decode cX8_noPairs 45 = .ok (.iload 4, 2) := by decide +kernel
theorem dX8_noPairs_47 : decode cX8_noPairs 47 = .ok (.ifCond .eq 30, 3) := by decide +kernel
theorem dX8_noPairs_50 : decode cX8_noPairs 50 = .ok (.aload_n 0, 1) := by decide +kernel
theorem dX8_noPairs_51 : decode cX8_noPairs 51 = .ok (.aload_n 0, 1) := by decide +kernel
theorem dX8_noPairs_52 : decode cX8_noPairs 52 = .ok (.getfield 23, 3) := by decide +kernel
theorem dX8_noPairs_55 : decode cX8_noPairs 55 = .ok (.bipush 40, 2) := by decide +kernel
theorem dX8_noPairs_57 : decode cX8_noPairs 57 = .ok (.iload_n 1, 1) := by decide +kernel
theorem dX8_noPairs_58 : decode cX8_noPairs 58 = .ok (.imul, 1) := by decide +kernel
theorem dX8_noPairs_59 : decode cX8_noPairs 59 = .ok (.iload_n 2, 1) := by decide +kernel
theorem dX8_noPairs_60 : decode cX8_noPairs 60 = .ok (.iadd, 1) := by decide +kernel
theorem dX8_noPairs_61 : decode cX8_noPairs 61 = .ok (.iconst 2, 1) := by decide +kernel
theorem dX8_noPairs_62 : decode cX8_noPairs 62 = .ok (.iload 5, 2) := by decide +kernel
theorem dX8_noPairs_64 : decode cX8_noPairs 64 = .ok (.imul, 1) := by decide +kernel
theorem dX8_noPairs_65 : decode cX8_noPairs 65 = .ok (.iadd, 1) := by decide +kernel
theorem dX8_noPairs_66 : decode cX8_noPairs 66 = .ok (.iaload, 1) := by decide +kernel
theorem dX8_noPairs_67 : decode cX8_noPairs 67 = .ok (.invokevirtual 151, 3) := by decide +kernel
theorem dX8_noPairs_70 : decode cX8_noPairs 70 = .ok (.ifCond .eq 7, 3) := by decide +kernel
theorem dX8_noPairs_73 : decode cX8_noPairs 73 = .ok (.iconst 1, 1) := by decide +kernel
theorem dX8_noPairs_74 : decode cX8_noPairs 74 = .ok (.goto 4, 3) := by decide +kernel
theorem dX8_noPairs_77 : decode cX8_noPairs 77 = .ok (.iconst 0, 1) := by decide +kernel
theorem dX8_noPairs_78 : decode cX8_noPairs 78 = .ok (.istore 4, 2) := by decide +kernel
theorem dX8_noPairs_80 : decode cX8_noPairs 80 = .ok (.iinc 5 1, 3) := by decide +kernel
theorem dX8_noPairs_83 : decode cX8_noPairs 83 = .ok (.goto (-44), 3) := by decide +kernel
theorem dX8_noPairs_86 : decode cX8_noPairs 86 = .ok (.iload 4, 2) := by decide +kernel
theorem dX8_noPairs_88 : decode cX8_noPairs 88 = .ok (.ifCond .eq 7, 3) := by decide +kernel
theorem dX8_noPairs_91 : decode cX8_noPairs 91 = .ok (.iconst 0, 1) := by decide +kernel
theorem dX8_noPairs_92 : decode cX8_noPairs 92 = .ok (.goto 5, 3) := by decide +kernel
theorem dX8_noPairs_95 : decode cX8_noPairs 95 = .ok (.ldc 52, 2) := by decide +kernel
theorem dX8_noPairs_97 : decode cX8_noPairs 97 = .ok (.ireturn, 1) := by decide +kernel
set_option maxRecDepth 20000 in
theorem ggX8_owesSo_X8_owes : GoodIn wsX8_owesSo wsX8_owes := goodIn_r _ [6, 7, 8, 9, 10, 5, 11, 12, 13, 14, 15, 16, 17, 18, 19, 20, 21, 22, 23, 24, 25, 26, 27, 28, 29, 30, 31, 32, 33, 34, 35] (by decide +kernel) (by decide +kernel)
set_option maxRecDepth 20000 in
theorem gX8_owesSo_X8_owes : GoodIn wsX8_owesSo (wsV RX8 145 RX8 yX8_owes wsX8_owes) := goodIn_app (goodIn_of _ (by decide +kernel)) ggX8_owesSo_X8_owes
theorem dX8_owesSo_0 : decode cX8_owesSo 0 = .ok (.iconst 1, 1) := by decide +kernel
theorem dX8_owesSo_1 : decode cX8_owesSo 1 = .ok (.istore 6, 2) := by decide +kernel
theorem dX8_owesSo_3 : decode cX8_owesSo 3 = .ok (.bipush 40, 2) := by decide +kernel
