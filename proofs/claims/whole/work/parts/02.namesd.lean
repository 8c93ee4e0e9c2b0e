theorem dX12_levelAt_0 : decode cX12_levelAt 0 = .ok (.iload_n 1, 1) := by decide +kernel
theorem dX12_levelAt_1 : decode cX12_levelAt 1 = .ok (.i2l, 1) := by decide +kernel
theorem dX12_levelAt_2 : decode cX12_levelAt 2 = .ok (.lconst 0, 1) := by decide +kernel
theorem dX12_levelAt_3 : decode cX12_levelAt 3 = .ok (.ldc2_w 99, 3) := by decide +kernel
theorem dX12_levelAt_6 : decode cX12_levelAt 6 = .ok (.invokestatic 78, 3) := by decide +kernel
theorem dX12_levelAt_9 : decode cX12_levelAt 9 = .ok (.ifCond .eq 11, 3) := by decide +kernel
theorem dX12_levelAt_12 : decode cX12_levelAt 12 = .ok (.aload_n 0, 1) := by decide +kernel
theorem dX12_levelAt_13 : decode cX12_levelAt 13 = .ok (.iload_n 1, 1) := by decide +kernel
theorem dX12_levelAt_14 : decode cX12_levelAt 14 = .ok (.invokevirtual 119, 3) := by decide +kernel
theorem dX12_levelAt_17 : decode cX12_levelAt 17 = .ok (.goto 6, 3) := by decide +kernel
theorem dX12_levelAt_20 : decode cX12_levelAt 20 = .ok (.sipush (-1002), 3) := by decide +kernel
theorem dX12_levelAt_23 : decode cX12_levelAt 23 = .ok (.ireturn, 1) := by decide +kernel
set_option maxRecDepth 20000 in
theorem ggX12_time_X12_floor : GoodIn wsX12_time wsX12_floor := goodIn_r _ [9] (by decide +kernel) (by decide +kernel)
set_option maxRecDepth 20000 in
theorem gX12_time_X12_floor : GoodIn wsX12_time (va_wsS RX12 115 yX12_floor wsX12_floor) := goodIn_app (goodIn_of _ (by decide +kernel)) ggX12_time_X12_floor
theorem dX12_time_0 : decode cX12_time 0 = .ok (.iconst 0, 1) := by decide +kernel
theorem dX12_time_1 : decode cX12_time 1 = .ok (.istore_n 2, 1) := by decide +kernel
theorem dX12_time_2 : decode cX12_time 2 = .ok (.iconst 0, 1) := by decide +kernel
theorem dX12_time_3 : decode cX12_time 3 = .ok (.istore_n 3, 1) := by decide +kernel
theorem dX12_time_4 : decode cX12_time 4 = .ok (.iload_n 3, 1) := by decide +kernel
theorem dX12_time_5 : decode cX12_time 5 = .ok (.aload_n 0, 1) := by decide +kernel
theorem dX12_time_6 : decode cX12_time 6 = .ok (.getfield 108, 3) := by decide +kernel
theorem dX12_time_9 : decode cX12_time 9 = .ok (.if_icmp .ge 86, 3) := by decide +kernel
theorem dX12_time_12 : decode cX12_time 12 = .ok (.iload_n 1, 1) := by decide +kernel
theorem dX12_time_13 : decode cX12_time 13 = .ok (.aload_n 0, 1) := by decide +kernel
theorem dX12_time_14 : decode cX12_time 14 = .ok (.getfield 42, 3) := by decide +kernel
theorem dX12_time_17 : decode cX12_time 17 = .ok (.iload_n 3, 1) := by decide +kernel
theorem dX12_time_18 : decode cX12_time 18 = .ok (.iaload, 1) := by decide +kernel
theorem dX12_time_19 : decode cX12_time 19 = .ok (.if_icmp .le 70, 3) := by decide +kernel
theorem dX12_time_22 : decode cX12_time 22 = .ok (.iload_n 1, 1) := by decide +kernel
theorem dX12_time_23 : decode cX12_time 23 = .ok (.aload_n 0, 1) := by decide +kernel
theorem dX12_time_24 : decode cX12_time 24 = .ok (.getfield 45, 3) := by decide +kernel
theorem dX12_time_27 : decode cX12_time 27 = .ok (.iload_n 3, 1) := by decide +kernel
theorem dX12_time_28 : decode cX12_time 28 = .ok (.iaload, 1) := by decide +kernel
theorem dX12_time_29 : decode cX12_time 29 = .ok (.if_icmp .ge 60, 3) := by decide +kernel
theorem dX12_time_32 : decode cX12_time 32 = .ok (.aload_n 0, 1) := by decide +kernel
theorem dX12_time_33 : decode cX12_time 33 = .ok (.getfield 45, 3) := by decide +kernel
theorem dX12_time_36 : decode cX12_time 36 = .ok (.iload_n 3, 1) := by decide +kernel
theorem dX12_time_37 : decode cX12_time 37 = .ok (.iaload, 1) := by decide +kernel
theorem dX12_time_38 : decode cX12_time 38 = .ok (.aload_n 0, 1) := by decide +kernel
theorem dX12_time_39 : decode cX12_time 39 = .ok (.getfield 42, 3) := by decide +kernel
theorem dX12_time_42 : decode cX12_time 42 = .ok (.iload_n 3, 1) := by decide +kernel
theorem dX12_time_43 : decode cX12_time 43 = .ok (.iaload, 1) := by decide +kernel
theorem dX12_time_44 : decode cX12_time 44 = .ok (.isub, 1) := by decide +kernel
theorem dX12_time_45 : decode cX12_time 45 = .ok (.i2l, 1) := by decide +kernel
theorem dX12_time_46 : decode cX12_time 46 = .ok (.lstore 4, 2) := by decide +kernel
theorem dX12_time_48 : decode cX12_time 48 = .ok (.ldc2_w 123, 3) := by decide +kernel
theorem dX12_time_51 : decode cX12_time 51 = .ok (.aload_n 0, 1) := by decide +kernel
theorem dX12_time_52 : decode cX12_time 52 = .ok (.getfield 48, 3) := by decide +kernel
theorem dX12_time_55 : decode cX12_time 55 = .ok (.iload_n 3, 1) := by decide +kernel
theorem dX12_time_56 : decode cX12_time 56 = .ok (.iaload, 1) := by decide +kernel
theorem dX12_time_57 : decode cX12_time 57 = .ok (.i2l, 1) := by decide +kernel
theorem dX12_time_58 : decode cX12_time 58 = .ok (.lmul, 1) := by decide +kernel
theorem dX12_time_59 : decode cX12_time 59 = .ok (.iload_n 1, 1) := by decide +kernel
theorem dX12_time_60 : decode cX12_time 60 = .ok (.aload_n 0, 1) := by decide +kernel
theorem dX12_time_61 : decode cX12_time 61 = .ok (.getfield 42, 3) := by decide +kernel
theorem dX12_time_64 : decode cX12_time 64 = .ok (.iload_n 3, 1) := by decide +kernel
theorem dX12_time_65 : decode cX12_time 65 = .ok (.iaload, 1) := by decide +kernel
theorem dX12_time_66 : decode cX12_time 66 = .ok (.isub, 1) := by decide +kernel
theorem dX12_time_67 : decode cX12_time 67 = .ok (.i2l, 1) := by decide +kernel
theorem dX12_time_68 : decode cX12_time 68 = .ok (.lmul, 1) := by decide +kernel
theorem dX12_time_69 : decode cX12_time 69 = .ok (.aload_n 0, 1) := by decide +kernel
theorem dX12_time_70 : decode cX12_time 70 = .ok (.getfield 45, 3) := by decide +kernel
theorem dX12_time_73 : decode cX12_time 73 = .ok (.iload_n 3, 1) := by decide +kernel
theorem dX12_time_74 : decode cX12_time 74 = .ok (.iaload, 1) := by decide +kernel
theorem dX12_time_75 : decode cX12_time 75 = .ok (.iload_n 1, 1) := by decide +kernel
theorem dX12_time_76 : decode cX12_time 76 = .ok (.isub, 1) := by decide +kernel
theorem dX12_time_77 : decode cX12_time 77 = .ok (.i2l, 1) := by decide +kernel
theorem dX12_time_78 : decode cX12_time 78 = .ok (.lmul, 1) := by decide +kernel
theorem dX12_time_79 : decode cX12_time 79 = .ok (.lload 4, 2) := by decide +kernel
theorem dX12_time_81 : decode cX12_time 81 = .ok (.lload 4, 2) := by decide +kernel
theorem dX12_time_83 : decode cX12_time 83 = .ok (.lmul, 1) := by decide +kernel
theorem dX12_time_84 : decode cX12_time 84 = .ok (.invokestatic 115, 3) := by decide +kernel
theorem dX12_time_87 : decode cX12_time 87 = .ok (.l2i, 1) := by decide +kernel
theorem dX12_time_88 : decode cX12_time 88 = .ok (.istore_n 2, 1) := by decide +kernel
theorem dX12_time_89 : decode cX12_time 89 = .ok (.iinc 3 1, 3) := by decide +kernel
theorem dX12_time_92 : decode cX12_time 92 = .ok (.goto (-88), 3) := by decide +kernel
theorem dX12_time_95 : decode cX12_time 95 = .ok (.iload_n 1, 1) := by decide +kernel
theorem dX12_time_96 : decode cX12_time 96 = .ok (.iload_n 2, 1) := by decide +kernel
theorem dX12_time_97 : decode cX12_time 97 = .ok (.iadd, 1) := by decide +kernel
theorem dX12_time_98 : decode cX12_time 98 = .ok (.ireturn, 1) := by decide +kernel
set_option maxRecDepth 20000 in
theorem ggX12_timeOf_X12_in : GoodIn wsX12_timeOf wsX12_in := goodIn_r _ [5] (by decide +kernel) (by decide +kernel)
set_option maxRecDepth 20000 in
theorem gX12_timeOf_X12_in : GoodIn wsX12_timeOf (va_wsS RX12 78 yX12_in wsX12_in) := goodIn_app (goodIn_of _ (by decide +kernel)) ggX12_timeOf_X12_in
set_option maxRecDepth 20000 in
theorem ggX12_timeOf_X12_time : GoodIn wsX12_timeOf wsX12_time := goodIn_r _ [9, 10, 11, 12, 13, 14, 15, 16, 4, 17, 18, 19, 20, 21, 22, 23, 24, 25, 26, 27, 28, 29, 30, 31, 32, 33, 34, 35, 36, 37, 38, 39, 40, 41, 42, 43, 44, 45, 46, 47, 48, 49, 50, 51, 52] (by decide +kernel) (by decide +kernel)
set_option maxRecDepth 20000 in
theorem gX12_timeOf_X12_time : GoodIn wsX12_timeOf (wsV RX12 125 RX12 yX12_time wsX12_time) := goodIn_app (goodIn_of _ (by decide +kernel)) ggX12_timeOf_X12_time
theorem dX12_timeOf_0 : decode cX12_timeOf 0 = .ok (.iload_n 1, 1) := by decide +kernel
theorem dX12_timeOf_1 : decode cX12_timeOf 1 = .ok (.i2l, 1) := by decide +kernel
theorem dX12_timeOf_2 : decode cX12_timeOf 2 = .ok (.lconst 0, 1) := by decide +kernel
theorem dX12_timeOf_3 : decode cX12_timeOf 3 = .ok (.ldc2_w 99, 3) := by decide +kernel
theorem dX12_timeOf_6 : decode cX12_timeOf 6 = .ok (.invokestatic 78, 3) := by decide +kernel
theorem dX12_timeOf_9 : decode cX12_timeOf 9 = .ok (.ifCond .eq 11, 3) := by decide +kernel
theorem dX12_timeOf_12 : decode cX12_timeOf 12 = .ok (.aload_n 0, 1) := by decide +kernel
theorem dX12_timeOf_13 : decode cX12_timeOf 13 = .ok (.iload_n 1, 1) := by decide +kernel
theorem dX12_timeOf_14 : decode cX12_timeOf 14 = .ok (.invokevirtual 125, 3) := by decide +kernel
theorem dX12_timeOf_17 : decode cX12_timeOf 17 = .ok (.goto 6, 3) := by decide +kernel
theorem dX12_timeOf_20 : decode cX12_timeOf 20 = .ok (.sipush (-1002), 3) := by decide +kernel
theorem dX12_timeOf_23 : decode cX12_timeOf 23 = .ok (.ireturn, 1) := by decide +kernel
set_option maxRecDepth 20000 in
theorem ggX12_feed_X12_in : GoodIn wsX12_feed wsX12_in := goodIn_r _ [8] (by decide +kernel) (by decide +kernel)
set_option maxRecDepth 20000 in
theorem gX12_feed_X12_in : GoodIn wsX12_feed (va_wsS RX12 78 yX12_in wsX12_in) := goodIn_app (goodIn_of _ (by decide +kernel)) ggX12_feed_X12_in
theorem dX12_feed_0 : decode cX12_feed 0 = .ok (.iload_n 1, 1) := by decide +kernel
theorem dX12_feed_1 : decode cX12_feed 1 = .ok (.i2l, 1) := by decide +kernel
theorem dX12_feed_2 : decode cX12_feed 2 = .ok (.lconst 1, 1) := by decide +kernel
theorem dX12_feed_3 : decode cX12_feed 3 = .ok (.ldc2_w 128, 3) := by decide +kernel
theorem dX12_feed_6 : decode cX12_feed 6 = .ok (.invokestatic 78, 3) := by decide +kernel
theorem dX12_feed_9 : decode cX12_feed 9 = .ok (.ifCond .ne 7, 3) := by decide +kernel
theorem dX12_feed_12 : decode cX12_feed 12 = .ok (.sipush (-1002), 3) := by decide +kernel
theorem dX12_feed_15 : decode cX12_feed 15 = .ok (.ireturn, 1) := by decide +kernel
theorem dX12_feed_16 : decode cX12_feed 16 = .ok (.aload_n 0, 1) := by decide +kernel
theorem dX12_feed_17 : decode cX12_feed 17 = .ok (.getfield 130, 3) := by decide +kernel
theorem dX12_feed_20 : decode cX12_feed 20 = .ok (.iload_n 1, 1) := by decide +kernel
theorem dX12_feed_21 : decode cX12_feed 21 = .ok (.iadd, 1) := by decide +kernel
theorem dX12_feed_22 : decode cX12_feed 22 = .ok (.sipush 400, 3) := by decide +kernel
theorem dX12_feed_25 : decode cX12_feed 25 = .ok (.if_icmp .le 7, 3) := by decide +kernel
theorem dX12_feed_28 : decode cX12_feed 28 = .ok (.sipush (-1004), 3) := by decide +kernel
theorem dX12_feed_31 : decode cX12_feed 31 = .ok (.ireturn, 1) := by decide +kernel
theorem dX12_feed_32 : decode cX12_feed 32 = .ok (.iload_n 1, 1) := by decide +kernel
theorem dX12_feed_33 : decode cX12_feed 33 = .ok (.iconst 1, 1) := by decide +kernel
theorem dX12_feed_34 : decode cX12_feed 34 = .ok (.isub, 1) := by decide +kernel
theorem dX12_feed_35 : decode cX12_feed 35 = .ok (.istore 4, 2) := by decide +kernel
theorem dX12_feed_37 : decode cX12_feed 37 = .ok (.iload 4, 2) := by decide +kernel
theorem dX12_feed_39 : decode cX12_feed 39 = .ok (.ifCond .lt 40, 3) := by decide +kernel
theorem dX12_feed_42 : decode cX12_feed 42 = .ok (.aload_n 0, 1) := by decide +kernel
theorem dX12_feed_43 : decode cX12_feed 43 = .ok (.getfield 63, 3) := by decide +kernel
theorem dX12_feed_46 : decode cX12_feed 46 = .ok (.aload_n 0, 1) := by decide +kernel
theorem dX12_feed_47 : decode cX12_feed 47 = .ok (.getfield 130, 3) := by decide +kernel
theorem dX12_feed_50 : decode cX12_feed 50 = .ok (.lload_n 2, 1) := by decide +kernel
theorem dX12_feed_51 : decode cX12_feed 51 = .ok (.bipush 8, 2) := by decide +kernel
theorem dX12_feed_53 : decode cX12_feed 53 = .ok (.iload 4, 2) := by decide +kernel
theorem dX12_feed_55 : decode cX12_feed 55 = .ok (.imul, 1) := by decide +kernel
theorem dX12_feed_56 : decode cX12_feed 56 = .ok (.lshr, 1) := by decide +kernel
theorem dX12_feed_57 : decode cX12_feed 57 = .ok (.ldc2_w 133, 3) := by decide +kernel
theorem dX12_feed_60 : decode cX12_feed 60 = .ok (.land, 1) := by decide +kernel
theorem dX12_feed_61 : decode cX12_feed 61 = .ok (.l2i, 1) := by decide +kernel
theorem dX12_feed_62 : decode cX12_feed 62 = .ok (.iastore, 1) := by decide +kernel
theorem dX12_feed_63 : decode cX12_feed 63 = .ok (.aload_n 0, 1) := by decide +kernel
theorem dX12_feed_64 : decode cX12_feed 64 = .ok (.dup, 1) := by decide +kernel
theorem dX12_feed_65 : decode cX12_feed 65 = .ok (.getfield 130, 3) := by decide +kernel
theorem dX12_feed_68 : decode cX12_feed 68 = .ok (.iconst 1, 1) := by decide +kernel
theorem dX12_feed_69 : decode cX12_feed 69 = .ok (.iadd, 1) := by decide +kernel
theorem dX12_feed_70 : decode cX12_feed 70 = .ok (.putfield 130, 3) := by decide +kernel
theorem dX12_feed_73 : decode cX12_feed 73 = .ok (.iinc 4 (-1), 3) := by decide +kernel
theorem dX12_feed_76 : decode cX12_feed 76 = .ok (.goto (-39), 3) := by decide +kernel
theorem dX12_feed_79 : decode cX12_feed 79 = .ok (.aload_n 0, 1) := by decide +kernel
theorem dX12_feed_80 : decode cX12_feed 80 = .ok (.getfield 130, 3) := by decide +kernel
theorem dX12_feed_83 : decode cX12_feed 83 = .ok (.ireturn, 1) := by decide +kernel
theorem dX12_at_0 : decode cX12_at 0 = .ok (.iload_n 1, 1) := by decide +kernel
theorem dX12_at_1 : decode cX12_at 1 = .ok (.aload_n 0, 1) := by decide +kernel
theorem dX12_at_2 : decode cX12_at 2 = .ok (.getfield 130, 3) := by decide +kernel
theorem dX12_at_5 : decode cX12_at 5 = .ok (.if_icmp .ge 12, 3) := by decide +kernel
theorem dX12_at_8 : decode cX12_at 8 = .ok (.aload_n 0, 1) := by decide +kernel
theorem dX12_at_9 : decode cX12_at 9 = .ok (.getfield 63, 3) := by decide +kernel
theorem dX12_at_12 : decode cX12_at 12 = .ok (.iload_n 1, 1) := by decide +kernel
theorem dX12_at_13 : decode cX12_at 13 = .ok (.iaload, 1) := by decide +kernel
theorem dX12_at_14 : decode cX12_at 14 = .ok (.goto 4, 3) := by decide +kernel
theorem dX12_at_17 : decode cX12_at 17 = .ok (.iconst (-1), 1) := by decide +kernel
theorem dX12_at_18 : decode cX12_at 18 = .ok (.ireturn, 1) := by decide +kernel
set_option maxRecDepth 20000 in
theorem ggX12_take_X12_at : GoodIn wsX12_take wsX12_at := goodIn_r _ [18, 19, 20, 24, 25, 26, 27, 28, 29, 30, 31, 32, 33, 34, 35, 36, 37, 38, 39, 40, 41, 42, 43, 44, 45, 46, 47, 48, 49, 50, 51, 52, 53, 54, 55, 56, 57, 58] (by decide +kernel) (by decide +kernel)
set_option maxRecDepth 20000 in
theorem gX12_take_X12_at : GoodIn wsX12_take (wsV RX12 138 RX12 yX12_at wsX12_at) := goodIn_app (goodIn_of _ (by decide +kernel)) ggX12_take_X12_at
set_option maxRecDepth 20000 in
theorem ggX12_take_X12_in : GoodIn wsX12_take wsX12_in := goodIn_r _ [23] (by decide +kernel) (by decide +kernel)
set_option maxRecDepth 20000 in
theorem gX12_take_X12_in : GoodIn wsX12_take (va_wsS RX12 78 yX12_in wsX12_in) := goodIn_app (goodIn_of _ (by decide +kernel)) ggX12_take_X12_in
theorem dX12_take_0 : decode cX12_take 0 = .ok (.aload_n 0, 1) := by decide +kernel
theorem dX12_take_1 : decode cX12_take 1 = .ok (.aload_n 0, 1) := by decide +kernel
theorem dX12_take_2 : decode cX12_take 2 = .ok (.getfield 135, 3) := by decide +kernel
theorem dX12_take_5 : decode cX12_take 5 = .ok (.invokevirtual 138, 3) := by decide +kernel
theorem dX12_take_8 : decode cX12_take 8 = .ok (.bipush 32, 2) := by decide +kernel
theorem dX12_take_10 : decode cX12_take 10 = .ok (.if_icmp .eq 16, 3) := by decide +kernel
theorem dX12_take_13 : decode cX12_take 13 = .ok (.aload_n 0, 1) := by decide +kernel
theorem dX12_take_14 : decode cX12_take 14 = .ok (.aload_n 0, 1) := by decide +kernel
theorem dX12_take_15 : decode cX12_take 15 = .ok (.getfield 135, 3) := by decide +kernel
theorem dX12_take_18 : decode cX12_take 18 = .ok (.invokevirtual 138, 3) := by decide +kernel
theorem dX12_take_21 : decode cX12_take 21 = .ok (.bipush 10, 2) := by decide +kernel
theorem dX12_take_23 : decode cX12_take 23 = .ok (.if_icmp .ne 16, 3) := by decide +kernel
theorem dX12_take_26 : decode cX12_take 26 = .ok (.aload_n 0, 1) := by decide +kernel
theorem dX12_take_27 : decode cX12_take 27 = .ok (.dup, 1) := by decide +kernel
theorem dX12_take_28 : decode cX12_take 28 = .ok (.getfield 135, 3) := by decide +kernel
theorem dX12_take_31 : decode cX12_take 31 = .ok (.iconst 1, 1) := by decide +kernel
theorem dX12_take_32 : decode cX12_take 32 = .ok (.iadd, 1) := by decide +kernel
theorem dX12_take_33 : decode cX12_take 33 = .ok (.putfield 135, 3) := by decide +kernel
theorem dX12_take_36 : decode cX12_take 36 = .ok (.goto (-36), 3) := by decide +kernel
theorem dX12_take_39 : decode cX12_take 39 = .ok (.aload_n 0, 1) := by decide +kernel
theorem dX12_take_40 : decode cX12_take 40 = .ok (.aload_n 0, 1) := by decide +kernel
theorem dX12_take_41 : decode cX12_take 41 = .ok (.getfield 135, 3) := by decide +kernel
theorem dX12_take_44 : decode cX12_take 44 = .ok (.putfield 141, 3) := by decide +kernel
theorem dX12_take_47 : decode cX12_take 47 = .ok (.aload_n 0, 1) := by decide +kernel
theorem dX12_take_48 : decode cX12_take 48 = .ok (.lconst 0, 1) := by decide +kernel
theorem dX12_take_49 : decode cX12_take 49 = .ok (.putfield 144, 3) := by decide +kernel
theorem dX12_take_52 : decode cX12_take 52 = .ok (.aload_n 0, 1) := by decide +kernel
theorem dX12_take_53 : decode cX12_take 53 = .ok (.aload_n 0, 1) := by decide +kernel
theorem dX12_take_54 : decode cX12_take 54 = .ok (.getfield 135, 3) := by decide +kernel
theorem dX12_take_57 : decode cX12_take 57 = .ok (.invokevirtual 138, 3) := by decide +kernel
theorem dX12_take_60 : decode cX12_take 60 = .ok (.i2l, 1) := by decide +kernel
theorem dX12_take_61 : decode cX12_take 61 = .ok (.ldc2_w 147, 3) := by decide +kernel
theorem dX12_take_64 : decode cX12_take 64 = .ok (.ldc2_w 149, 3) := by decide +kernel
theorem dX12_take_67 : decode cX12_take 67 = .ok (.invokestatic 78, 3) := by decide +kernel
theorem dX12_take_70 : decode cX12_take 70 = .ok (.ifCond .eq 88, 3) := by decide +kernel
theorem dX12_take_73 : decode cX12_take 73 = .ok (.aload_n 0, 1) := by decide +kernel
theorem dX12_take_74 : decode cX12_take 74 = .ok (.iconst 1, 1) := by decide +kernel
theorem dX12_take_75 : decode cX12_take 75 = .ok (.putfield 151, 3) := by decide +kernel
theorem dX12_take_78 : decode cX12_take 78 = .ok (.aload_n 0, 1) := by decide +kernel
theorem dX12_take_79 : decode cX12_take 79 = .ok (.aload_n 0, 1) := by decide +kernel
theorem dX12_take_80 : decode cX12_take 80 = .ok (.getfield 135, 3) := by decide +kernel
theorem dX12_take_83 : decode cX12_take 83 = .ok (.invokevirtual 138, 3) := by decide +kernel
theorem dX12_take_86 : decode cX12_take 86 = .ok (.i2l, 1) := by decide +kernel
theorem dX12_take_87 : decode cX12_take 87 = .ok (.ldc2_w 147, 3) := by decide +kernel
theorem dX12_take_90 : decode cX12_take 90 = .ok (.ldc2_w 149, 3) := by decide +kernel
theorem dX12_take_93 : decode cX12_take 93 = .ok (.invokestatic 78, 3) := by decide +kernel
theorem dX12_take_96 : decode cX12_take 96 = .ok (.ifCond .eq 214, 3) := by decide +kernel
theorem dX12_take_99 : decode cX12_take 99 = .ok (.aload_n 0, 1) := by decide +kernel
theorem dX12_take_100 : decode cX12_take 100 = .ok (.aload_n 0, 1) := by decide +kernel
theorem dX12_take_101 : decode cX12_take 101 = .ok (.getfield 135, 3) := by decide +kernel
theorem dX12_take_104 : decode cX12_take 104 = .ok (.aload_n 0, 1) := by decide +kernel
theorem dX12_take_105 : decode cX12_take 105 = .ok (.getfield 141, 3) := by decide +kernel
theorem dX12_take_108 : decode cX12_take 108 = .ok (.isub, 1) := by decide +kernel
theorem dX12_take_109 : decode cX12_take 109 = .ok (.bipush 6, 2) := by decide +kernel
theorem dX12_take_111 : decode cX12_take 111 = .ok (.if_icmp .ge 28, 3) := by decide +kernel
theorem dX12_take_114 : decode cX12_take 114 = .ok (.aload_n 0, 1) := by decide +kernel
theorem dX12_take_115 : decode cX12_take 115 = .ok (.getfield 144, 3) := by decide +kernel
theorem dX12_take_118 : decode cX12_take 118 = .ok (.ldc2_w 154, 3) := by decide +kernel
theorem dX12_take_121 : decode cX12_take 121 = .ok (.lmul, 1) := by decide +kernel
theorem dX12_take_122 : decode cX12_take 122 = .ok (.aload_n 0, 1) := by decide +kernel
theorem dX12_take_123 : decode cX12_take 123 = .ok (.aload_n 0, 1) := by decide +kernel
theorem dX12_take_124 : decode cX12_take 124 = .ok (.getfield 135, 3) := by decide +kernel
theorem dX12_take_127 : decode cX12_take 127 = .ok (.invokevirtual 138, 3) := by decide +kernel
theorem dX12_take_130 : decode cX12_take 130 = .ok (.i2l, 1) := by decide +kernel
theorem dX12_take_131 : decode cX12_take 131 = .ok (.ladd, 1) := by decide +kernel
theorem dX12_take_132 : decode cX12_take 132 = .ok (.ldc2_w 156, 3) := by decide +kernel
theorem dX12_take_135 : decode cX12_take 135 = .ok (.lsub, 1) := by decide +kernel
theorem dX12_take_136 : decode cX12_take 136 = .ok (.goto 6, 3) := by decide +kernel
theorem dX12_take_139 : decode cX12_take 139 = .ok (.ldc2_w 158, 3) := by decide +kernel
theorem dX12_take_142 : decode cX12_take 142 = .ok (.putfield 144, 3) := by decide +kernel
theorem dX12_take_145 : decode cX12_take 145 = .ok (.aload_n 0, 1) := by decide +kernel
theorem dX12_take_146 : decode cX12_take 146 = .ok (.dup, 1) := by decide +kernel
theorem dX12_take_147 : decode cX12_take 147 = .ok (.getfield 135, 3) := by decide +kernel
theorem dX12_take_150 : decode cX12_take 150 = .ok (.iconst 1, 1) := by decide +kernel
theorem dX12_take_151 : decode cX12_take 151 = .ok (.iadd, 1) := by decide +kernel
theorem dX12_take_152 : decode cX12_take 152 = .ok (.putfield 135, 3) := by decide +kernel
theorem dX12_take_155 : decode cX12_take 155 = .ok (.goto (-77), 3) := by decide +kernel
theorem dX12_take_158 : decode cX12_take 158 = .ok (.aload_n 0, 1) := by decide +kernel
theorem dX12_take_159 : decode cX12_take 159 = .ok (.aload_n 0, 1) := by decide +kernel
theorem dX12_take_160 : decode cX12_take 160 = .ok (.getfield 135, 3) := by decide +kernel
theorem dX12_take_163 : decode cX12_take 163 = .ok (.invokevirtual 138, 3) := by decide +kernel
theorem dX12_take_166 : decode cX12_take 166 = .ok (.i2l, 1) := by decide +kernel
theorem dX12_take_167 : decode cX12_take 167 = .ok (.ldc2_w 160, 3) := by decide +kernel
theorem dX12_take_170 : decode cX12_take 170 = .ok (.ldc2_w 162, 3) := by decide +kernel
theorem dX12_take_173 : decode cX12_take 173 = .ok (.invokestatic 78, 3) := by decide +kernel
theorem dX12_take_176 : decode cX12_take 176 = .ok (.ifCond .eq 86, 3) := by decide +kernel
theorem dX12_take_179 : decode cX12_take 179 = .ok (.aload_n 0, 1) := by decide +kernel
theorem dX12_take_180 : decode cX12_take 180 = .ok (.iconst 2, 1) := by decide +kernel
theorem dX12_take_181 : decode cX12_take 181 = .ok (.putfield 151, 3) := by decide +kernel
theorem dX12_take_184 : decode cX12_take 184 = .ok (.aload_n 0, 1) := by decide +kernel
theorem dX12_take_185 : decode cX12_take 185 = .ok (.aload_n 0, 1) := by decide +kernel
theorem dX12_take_186 : decode cX12_take 186 = .ok (.getfield 135, 3) := by decide +kernel
theorem dX12_take_189 : decode cX12_take 189 = .ok (.invokevirtual 138, 3) := by decide +kernel
theorem dX12_take_192 : decode cX12_take 192 = .ok (.i2l, 1) := by decide +kernel
theorem dX12_take_193 : decode cX12_take 193 = .ok (.ldc2_w 160, 3) := by decide +kernel
theorem dX12_take_196 : decode cX12_take 196 = .ok (.ldc2_w 162, 3) := by decide +kernel
theorem dX12_take_199 : decode cX12_take 199 = .ok (.invokestatic 78, 3) := by decide +kernel
theorem dX12_take_202 : decode cX12_take 202 = .ok (.ifCond .eq 108, 3) := by decide +kernel
theorem dX12_take_205 : decode cX12_take 205 = .ok (.aload_n 0, 1) := by decide +kernel
theorem dX12_take_206 : decode cX12_take 206 = .ok (.aload_n 0, 1) := by decide +kernel
theorem dX12_take_207 : decode cX12_take 207 = .ok (.getfield 144, 3) := by decide +kernel
theorem dX12_take_210 : decode cX12_take 210 = .ok (.ldc2_w 164, 3) := by decide +kernel
theorem dX12_take_213 : decode cX12_take 213 = .ok (.lcmp, 1) := by decide +kernel
theorem dX12_take_214 : decode cX12_take 214 = .ok (.ifCond .le 10, 3) := by decide +kernel
theorem dX12_take_217 : decode cX12_take 217 = .ok (.aload_n 0, 1) := by decide +kernel
theorem dX12_take_218 : decode cX12_take 218 = .ok (.getfield 144, 3) := by decide +kernel
theorem dX12_take_221 : decode cX12_take 221 = .ok (.goto 25, 3) := by decide +kernel
theorem dX12_take_224 : decode cX12_take 224 = .ok (.aload_n 0, 1) := by decide +kernel
theorem dX12_take_225 : decode cX12_take 225 = .ok (.getfield 144, 3) := by decide +kernel
theorem dX12_take_228 : decode cX12_take 228 = .ok (.ldc2_w 166, 3) := by decide +kernel
theorem dX12_take_231 : decode cX12_take 231 = .ok (.lmul, 1) := by decide +kernel
theorem dX12_take_232 : decode cX12_take 232 = .ok (.aload_n 0, 1) := by decide +kernel
theorem dX12_take_233 : decode cX12_take 233 = .ok (.aload_n 0, 1) := by decide +kernel
theorem dX12_take_234 : decode cX12_take 234 = .ok (.getfield 135, 3) := by decide +kernel
theorem dX12_take_237 : decode cX12_take 237 = .ok (.invokevirtual 138, 3) := by decide +kernel
theorem dX12_take_240 : decode cX12_take 240 = .ok (.i2l, 1) := by decide +kernel
theorem dX12_take_241 : decode cX12_take 241 = .ok (.ladd, 1) := by decide +kernel
theorem dX12_take_242 : decode cX12_take 242 = .ok (.ldc2_w 160, 3) := by decide +kernel
theorem dX12_take_245 : decode cX12_take 245 = .ok (.lsub, 1) := by decide +kernel
theorem dX12_take_246 : decode cX12_take 246 = .ok (.putfield 144, 3) := by decide +kernel
theorem dX12_take_249 : decode cX12_take 249 = .ok (.aload_n 0, 1) := by decide +kernel
theorem dX12_take_250 : decode cX12_take 250 = .ok (.dup, 1) := by decide +kernel
theorem dX12_take_251 : decode cX12_take 251 = .ok (.getfield 135, 3) := by decide +kernel
theorem dX12_take_254 : decode cX12_take 254 = .ok (.iconst 1, 1) := by decide +kernel
theorem dX12_take_255 : decode cX12_take 255 = .ok (.iadd, 1) := by decide +kernel
theorem dX12_take_256 : decode cX12_take 256 = .ok (.putfield 135, 3) := by decide +kernel
theorem dX12_take_259 : decode cX12_take 259 = .ok (.goto (-75), 3) := by decide +kernel
theorem dX12_take_262 : decode cX12_take 262 = .ok (.aload_n 0, 1) := by decide +kernel
theorem dX12_take_263 : decode cX12_take 263 = .ok (.aload_n 0, 1) := by decide +kernel
theorem dX12_take_264 : decode cX12_take 264 = .ok (.aload_n 0, 1) := by decide +kernel
theorem dX12_take_265 : decode cX12_take 265 = .ok (.getfield 135, 3) := by decide +kernel
theorem dX12_take_268 : decode cX12_take 268 = .ok (.invokevirtual 138, 3) := by decide +kernel
theorem dX12_take_271 : decode cX12_take 271 = .ok (.iconst (-1), 1) := by decide +kernel
theorem dX12_take_272 : decode cX12_take 272 = .ok (.if_icmp .ne 7, 3) := by decide +kernel
theorem dX12_take_275 : decode cX12_take 275 = .ok (.iconst 0, 1) := by decide +kernel
theorem dX12_take_276 : decode cX12_take 276 = .ok (.goto 21, 3) := by decide +kernel
theorem dX12_take_279 : decode cX12_take 279 = .ok (.aload_n 0, 1) := by decide +kernel
theorem dX12_take_280 : decode cX12_take 280 = .ok (.aload_n 0, 1) := by decide +kernel
theorem dX12_take_281 : decode cX12_take 281 = .ok (.getfield 135, 3) := by decide +kernel
theorem dX12_take_284 : decode cX12_take 284 = .ok (.invokevirtual 138, 3) := by decide +kernel
theorem dX12_take_287 : decode cX12_take 287 = .ok (.bipush 59, 2) := by decide +kernel
theorem dX12_take_289 : decode cX12_take 289 = .ok (.if_icmp .ne 7, 3) := by decide +kernel
theorem dX12_take_292 : decode cX12_take 292 = .ok (.iconst 3, 1) := by decide +kernel
theorem dX12_take_293 : decode cX12_take 293 = .ok (.goto 4, 3) := by decide +kernel
theorem dX12_take_296 : decode cX12_take 296 = .ok (.iconst 4, 1) := by decide +kernel
theorem dX12_take_297 : decode cX12_take 297 = .ok (.putfield 151, 3) := by decide +kernel
theorem dX12_take_300 : decode cX12_take 300 = .ok (.aload_n 0, 1) := by decide +kernel
theorem dX12_take_301 : decode cX12_take 301 = .ok (.dup, 1) := by decide +kernel
theorem dX12_take_302 : decode cX12_take 302 = .ok (.getfield 135, 3) := by decide +kernel
theorem dX12_take_305 : decode cX12_take 305 = .ok (.iconst 1, 1) := by decide +kernel
theorem dX12_take_306 : decode cX12_take 306 = .ok (.iadd, 1) := by decide +kernel
theorem dX12_take_307 : decode cX12_take 307 = .ok (.putfield 135, 3) := by decide +kernel
theorem dX12_take_310 : decode cX12_take 310 = .ok (.return_, 1) := by decide +kernel
theorem dX12_word_0 : decode cX12_word 0 = .ok (.iload_n 0, 1) := by decide +kernel
theorem dX12_word_1 : decode cX12_word 1 = .ok (.i2l, 1) := by decide +kernel
theorem dX12_word_2 : decode cX12_word 2 = .ok (.ldc2_w 156, 3) := by decide +kernel
theorem dX12_word_5 : decode cX12_word 5 = .ok (.lsub, 1) := by decide +kernel
theorem dX12_word_6 : decode cX12_word 6 = .ok (.ldc2_w 154, 3) := by decide +kernel
theorem dX12_word_9 : decode cX12_word 9 = .ok (.lmul, 1) := by decide +kernel
theorem dX12_word_10 : decode cX12_word 10 = .ok (.iload_n 1, 1) := by decide +kernel
theorem dX12_word_11 : decode cX12_word 11 = .ok (.i2l, 1) := by decide +kernel
theorem dX12_word_12 : decode cX12_word 12 = .ok (.ladd, 1) := by decide +kernel
theorem dX12_word_13 : decode cX12_word 13 = .ok (.ldc2_w 156, 3) := by decide +kernel
theorem dX12_word_16 : decode cX12_word 16 = .ok (.lsub, 1) := by decide +kernel
theorem dX12_word_17 : decode cX12_word 17 = .ok (.ldc2_w 154, 3) := by decide +kernel
theorem dX12_word_20 : decode cX12_word 20 = .ok (.lmul, 1) := by decide +kernel
theorem dX12_word_21 : decode cX12_word 21 = .ok (.iload_n 2, 1) := by decide +kernel
theorem dX12_word_22 : decode cX12_word 22 = .ok (.i2l, 1) := by decide +kernel
theorem dX12_word_23 : decode cX12_word 23 = .ok (.ladd, 1) := by decide +kernel
theorem dX12_word_24 : decode cX12_word 24 = .ok (.ldc2_w 156, 3) := by decide +kernel
theorem dX12_word_27 : decode cX12_word 27 = .ok (.lsub, 1) := by decide +kernel
theorem dX12_word_28 : decode cX12_word 28 = .ok (.lstore 6, 2) := by decide +kernel
theorem dX12_word_30 : decode cX12_word 30 = .ok (.lload 6, 2) := by decide +kernel
theorem dX12_word_32 : decode cX12_word 32 = .ok (.ldc2_w 154, 3) := by decide +kernel
theorem dX12_word_35 : decode cX12_word 35 = .ok (.lmul, 1) := by decide +kernel
theorem dX12_word_36 : decode cX12_word 36 = .ok (.iload_n 3, 1) := by decide +kernel
theorem dX12_word_37 : decode cX12_word 37 = .ok (.i2l, 1) := by decide +kernel
theorem dX12_word_38 : decode cX12_word 38 = .ok (.ladd, 1) := by decide +kernel
theorem dX12_word_39 : decode cX12_word 39 = .ok (.ldc2_w 156, 3) := by decide +kernel
theorem dX12_word_42 : decode cX12_word 42 = .ok (.lsub, 1) := by decide +kernel
theorem dX12_word_43 : decode cX12_word 43 = .ok (.lstore 6, 2) := by decide +kernel
theorem dX12_word_45 : decode cX12_word 45 = .ok (.iload 4, 2) := by decide +kernel
theorem dX12_word_47 : decode cX12_word 47 = .ok (.ifCond .le 20, 3) := by decide +kernel
theorem dX12_word_50 : decode cX12_word 50 = .ok (.lload 6, 2) := by decide +kernel
theorem dX12_word_52 : decode cX12_word 52 = .ok (.ldc2_w 154, 3) := by decide +kernel
theorem dX12_word_55 : decode cX12_word 55 = .ok (.lmul, 1) := by decide +kernel
theorem dX12_word_56 : decode cX12_word 56 = .ok (.iload 4, 2) := by decide +kernel
theorem dX12_word_58 : decode cX12_word 58 = .ok (.i2l, 1) := by decide +kernel
theorem dX12_word_59 : decode cX12_word 59 = .ok (.ladd, 1) := by decide +kernel
theorem dX12_word_60 : decode cX12_word 60 = .ok (.ldc2_w 156, 3) := by decide +kernel
theorem dX12_word_63 : decode cX12_word 63 = .ok (.lsub, 1) := by decide +kernel
theorem dX12_word_64 : decode cX12_word 64 = .ok (.goto 5, 3) := by decide +kernel
theorem dX12_word_67 : decode cX12_word 67 = .ok (.lload 6, 2) := by decide +kernel
theorem dX12_word_69 : decode cX12_word 69 = .ok (.lstore 6, 2) := by decide +kernel
theorem dX12_word_71 : decode cX12_word 71 = .ok (.iload 5, 2) := by decide +kernel
theorem dX12_word_73 : decode cX12_word 73 = .ok (.ifCond .le 20, 3) := by decide +kernel
theorem dX12_word_76 : decode cX12_word 76 = .ok (.lload 6, 2) := by decide +kernel
theorem dX12_word_78 : decode cX12_word 78 = .ok (.ldc2_w 154, 3) := by decide +kernel
theorem dX12_word_81 : decode cX12_word 81 = .ok (.lmul, 1) := by decide +kernel
theorem dX12_word_82 : decode cX12_word 82 = .ok (.iload 5, 2) := by decide +kernel
theorem dX12_word_84 : decode cX12_word 84 = .ok (.i2l, 1) := by decide +kernel
theorem dX12_word_85 : decode cX12_word 85 = .ok (.ladd, 1) := by decide +kernel
theorem dX12_word_86 : decode cX12_word 86 = .ok (.ldc2_w 156, 3) := by decide +kernel
theorem dX12_word_89 : decode cX12_word 89 = .ok (.lsub, 1) := by decide +kernel
theorem dX12_word_90 : decode cX12_word 90 = .ok (.goto 5, 3) := by decide +kernel
theorem dX12_word_93 : decode cX12_word 93 = .ok (.lload 6, 2) := by decide +kernel
theorem dX12_word_95 : decode cX12_word 95 = .ok (.lreturn, 1) := by decide +kernel
set_option maxRecDepth 20000 in
theorem ggX12_wordOf_X12_word : GoodIn wsX12_wordOf wsX12_word := goodIn_r _ [4, 5, 6] (by decide +kernel) (by decide +kernel)
set_option maxRecDepth 20000 in
theorem gX12_wordOf_X12_word : GoodIn wsX12_wordOf (va_wsS RX12 168 yX12_word wsX12_word) := goodIn_app (goodIn_of _ (by decide +kernel)) ggX12_wordOf_X12_word
theorem dX12_wordOf_0 : decode cX12_wordOf 0 = .ok (.iload_n 0, 1) := by decide +kernel
theorem dX12_wordOf_1 : decode cX12_wordOf 1 = .ok (.tableswitch 239 0 11 #[63, 78, 93, 107, 122, 138, 153, 167, 182, 197, 211, 225], 63) := by decide +kernel
theorem dX12_wordOf_64 : decode cX12_wordOf 64 = .ok (.bipush 115, 2) := by decide +kernel
theorem dX12_wordOf_66 : decode cX12_wordOf 66 = .ok (.bipush 104, 2) := by decide +kernel
theorem dX12_wordOf_68 : decode cX12_wordOf 68 = .ok (.bipush 111, 2) := by decide +kernel
theorem dX12_wordOf_70 : decode cX12_wordOf 70 = .ok (.bipush 114, 2) := by decide +kernel
theorem dX12_wordOf_72 : decode cX12_wordOf 72 = .ok (.bipush 116, 2) := by decide +kernel
theorem dX12_wordOf_74 : decode cX12_wordOf 74 = .ok (.iconst 0, 1) := by decide +kernel
theorem dX12_wordOf_75 : decode cX12_wordOf 75 = .ok (.invokestatic 168, 3) := by decide +kernel
theorem dX12_wordOf_78 : decode cX12_wordOf 78 = .ok (.lreturn, 1) := by decide +kernel
theorem dX12_wordOf_79 : decode cX12_wordOf 79 = .ok (.bipush 112, 2) := by decide +kernel
theorem dX12_wordOf_81 : decode cX12_wordOf 81 = .ok (.bipush 108, 2) := by decide +kernel
theorem dX12_wordOf_83 : decode cX12_wordOf 83 = .ok (.bipush 97, 2) := by decide +kernel
theorem dX12_wordOf_85 : decode cX12_wordOf 85 = .ok (.bipush 105, 2) := by decide +kernel
theorem dX12_wordOf_87 : decode cX12_wordOf 87 = .ok (.bipush 110, 2) := by decide +kernel
theorem dX12_wordOf_89 : decode cX12_wordOf 89 = .ok (.iconst 0, 1) := by decide +kernel
theorem dX12_wordOf_90 : decode cX12_wordOf 90 = .ok (.invokestatic 168, 3) := by decide +kernel
theorem dX12_wordOf_93 : decode cX12_wordOf 93 = .ok (.lreturn, 1) := by decide +kernel
theorem dX12_wordOf_94 : decode cX12_wordOf 94 = .ok (.bipush 104, 2) := by decide +kernel
theorem dX12_wordOf_96 : decode cX12_wordOf 96 = .ok (.bipush 101, 2) := by decide +kernel
theorem dX12_wordOf_98 : decode cX12_wordOf 98 = .ok (.bipush 108, 2) := by decide +kernel
theorem dX12_wordOf_100 : decode cX12_wordOf 100 = .ok (.bipush 100, 2) := by decide +kernel
theorem dX12_wordOf_102 : decode cX12_wordOf 102 = .ok (.iconst 0, 1) := by decide +kernel
theorem dX12_wordOf_103 : decode cX12_wordOf 103 = .ok (.iconst 0, 1) := by decide +kernel
theorem dX12_wordOf_104 : decode cX12_wordOf 104 = .ok (.invokestatic 168, 3) := by decide +kernel
theorem dX12_wordOf_107 : decode cX12_wordOf 107 = .ok (.lreturn, 1) := by decide +kernel
theorem dX12_wordOf_108 : decode cX12_wordOf 108 = .ok (.bipush 108, 2) := by decide +kernel
theorem dX12_wordOf_110 : decode cX12_wordOf 110 = .ok (.bipush 101, 2) := by decide +kernel
theorem dX12_wordOf_112 : decode cX12_wordOf 112 = .ok (.bipush 97, 2) := by decide +kernel
theorem dX12_wordOf_114 : decode cX12_wordOf 114 = .ok (.bipush 115, 2) := by decide +kernel
theorem dX12_wordOf_116 : decode cX12_wordOf 116 = .ok (.bipush 116, 2) := by decide +kernel
theorem dX12_wordOf_118 : decode cX12_wordOf 118 = .ok (.iconst 0, 1) := by decide +kernel
theorem dX12_wordOf_119 : decode cX12_wordOf 119 = .ok (.invokestatic 168, 3) := by decide +kernel
theorem dX12_wordOf_122 : decode cX12_wordOf 122 = .ok (.lreturn, 1) := by decide +kernel
theorem dX12_wordOf_123 : decode cX12_wordOf 123 = .ok (.bipush 97, 2) := by decide +kernel
theorem dX12_wordOf_125 : decode cX12_wordOf 125 = .ok (.bipush 99, 2) := by decide +kernel
theorem dX12_wordOf_127 : decode cX12_wordOf 127 = .ok (.bipush 99, 2) := by decide +kernel
theorem dX12_wordOf_129 : decode cX12_wordOf 129 = .ok (.bipush 101, 2) := by decide +kernel
theorem dX12_wordOf_131 : decode cX12_wordOf 131 = .ok (.bipush 110, 2) := by decide +kernel
theorem dX12_wordOf_133 : decode cX12_wordOf 133 = .ok (.bipush 116, 2) := by decide +kernel
theorem dX12_wordOf_135 : decode cX12_wordOf 135 = .ok (.invokestatic 168, 3) := by decide +kernel
theorem dX12_wordOf_138 : decode cX12_wordOf 138 = .ok (.lreturn, 1) := by decide +kernel
theorem dX12_wordOf_139 : decode cX12_wordOf 139 = .ok (.bipush 102, 2) := by decide +kernel
theorem dX12_wordOf_141 : decode cX12_wordOf 141 = .ok (.bipush 105, 2) := by decide +kernel
theorem dX12_wordOf_143 : decode cX12_wordOf 143 = .ok (.bipush 114, 2) := by decide +kernel
theorem dX12_wordOf_145 : decode cX12_wordOf 145 = .ok (.bipush 115, 2) := by decide +kernel
theorem dX12_wordOf_147 : decode cX12_wordOf 147 = .ok (.bipush 116, 2) := by decide +kernel
theorem dX12_wordOf_149 : decode cX12_wordOf 149 = .ok (.iconst 0, 1) := by decide +kernel
theorem dX12_wordOf_150 : decode cX12_wordOf 150 = .ok (.invokestatic 168, 3) := by decide +kernel
theorem dX12_wordOf_153 : decode cX12_wordOf 153 = .ok (.lreturn, 1) := by decide +kernel
theorem dX12_wordOf_154 : decode cX12_wordOf 154 = .ok (.bipush 98, 2) := by decide +kernel
theorem dX12_wordOf_156 : decode cX12_wordOf 156 = .ok (.bipush 101, 2) := by decide +kernel
theorem dX12_wordOf_158 : decode cX12_wordOf 158 = .ok (.bipush 97, 2) := by decide +kernel
theorem dX12_wordOf_160 : decode cX12_wordOf 160 = .ok (.bipush 116, 2) := by decide +kernel
theorem dX12_wordOf_162 : decode cX12_wordOf 162 = .ok (.iconst 0, 1) := by decide +kernel
theorem dX12_wordOf_163 : decode cX12_wordOf 163 = .ok (.iconst 0, 1) := by decide +kernel
theorem dX12_wordOf_164 : decode cX12_wordOf 164 = .ok (.invokestatic 168, 3) := by decide +kernel
theorem dX12_wordOf_167 : decode cX12_wordOf 167 = .ok (.lreturn, 1) := by decide +kernel
theorem dX12_wordOf_168 : decode cX12_wordOf 168 = .ok (.bipush 116, 2) := by decide +kernel
theorem dX12_wordOf_170 : decode cX12_wordOf 170 = .ok (.bipush 114, 2) := by decide +kernel
theorem dX12_wordOf_172 : decode cX12_wordOf 172 = .ok (.bipush 105, 2) := by decide +kernel
theorem dX12_wordOf_174 : decode cX12_wordOf 174 = .ok (.bipush 108, 2) := by decide +kernel
theorem dX12_wordOf_176 : decode cX12_wordOf 176 = .ok (.bipush 108, 2) := by decide +kernel
theorem dX12_wordOf_178 : decode cX12_wordOf 178 = .ok (.iconst 0, 1) := by decide +kernel
theorem dX12_wordOf_179 : decode cX12_wordOf 179 = .ok (.invokestatic 168, 3) := by decide +kernel
theorem dX12_wordOf_182 : decode cX12_wordOf 182 = .ok (.lreturn, 1) := by decide +kernel
theorem dX12_wordOf_183 : decode cX12_wordOf 183 = .ok (.bipush 117, 2) := by decide +kernel
theorem dX12_wordOf_185 : decode cX12_wordOf 185 = .ok (.bipush 112, 2) := by decide +kernel
theorem dX12_wordOf_187 : decode cX12_wordOf 187 = .ok (.bipush 112, 2) := by decide +kernel
theorem dX12_wordOf_189 : decode cX12_wordOf 189 = .ok (.bipush 101, 2) := by decide +kernel
theorem dX12_wordOf_191 : decode cX12_wordOf 191 = .ok (.bipush 114, 2) := by decide +kernel
theorem dX12_wordOf_193 : decode cX12_wordOf 193 = .ok (.iconst 0, 1) := by decide +kernel
theorem dX12_wordOf_194 : decode cX12_wordOf 194 = .ok (.invokestatic 168, 3) := by decide +kernel
theorem dX12_wordOf_197 : decode cX12_wordOf 197 = .ok (.lreturn, 1) := by decide +kernel
theorem dX12_wordOf_198 : decode cX12_wordOf 198 = .ok (.bipush 116, 2) := by decide +kernel
theorem dX12_wordOf_200 : decode cX12_wordOf 200 = .ok (.bipush 117, 2) := by decide +kernel
theorem dX12_wordOf_202 : decode cX12_wordOf 202 = .ok (.bipush 114, 2) := by decide +kernel
theorem dX12_wordOf_204 : decode cX12_wordOf 204 = .ok (.bipush 110, 2) := by decide +kernel
theorem dX12_wordOf_206 : decode cX12_wordOf 206 = .ok (.iconst 0, 1) := by decide +kernel
theorem dX12_wordOf_207 : decode cX12_wordOf 207 = .ok (.iconst 0, 1) := by decide +kernel
theorem dX12_wordOf_208 : decode cX12_wordOf 208 = .ok (.invokestatic 168, 3) := by decide +kernel
theorem dX12_wordOf_211 : decode cX12_wordOf 211 = .ok (.lreturn, 1) := by decide +kernel
theorem dX12_wordOf_212 : decode cX12_wordOf 212 = .ok (.bipush 108, 2) := by decide +kernel
theorem dX12_wordOf_214 : decode cX12_wordOf 214 = .ok (.bipush 101, 2) := by decide +kernel
theorem dX12_wordOf_216 : decode cX12_wordOf 216 = .ok (.bipush 97, 2) := by decide +kernel
theorem dX12_wordOf_218 : decode cX12_wordOf 218 = .ok (.bipush 110, 2) := by decide +kernel
theorem dX12_wordOf_220 : decode cX12_wordOf 220 = .ok (.iconst 0, 1) := by decide +kernel
theorem dX12_wordOf_221 : decode cX12_wordOf 221 = .ok (.iconst 0, 1) := by decide +kernel
theorem dX12_wordOf_222 : decode cX12_wordOf 222 = .ok (.invokestatic 168, 3) := by decide +kernel
theorem dX12_wordOf_225 : decode cX12_wordOf 225 = .ok (.lreturn, 1) := by decide +kernel
theorem dX12_wordOf_226 : decode cX12_wordOf 226 = .ok (.bipush 114, 2) := by decide +kernel
theorem dX12_wordOf_228 : decode cX12_wordOf 228 = .ok (.bipush 111, 2) := by decide +kernel
theorem dX12_wordOf_230 : decode cX12_wordOf 230 = .ok (.bipush 108, 2) := by decide +kernel
theorem dX12_wordOf_232 : decode cX12_wordOf 232 = .ok (.bipush 108, 2) := by decide +kernel
theorem dX12_wordOf_234 : decode cX12_wordOf 234 = .ok (.iconst 0, 1) := by decide +kernel
theorem dX12_wordOf_235 : decode cX12_wordOf 235 = .ok (.iconst 0, 1) := by decide +kernel
theorem dX12_wordOf_236 : decode cX12_wordOf 236 = .ok (.invokestatic 168, 3) := by decide +kernel
theorem dX12_wordOf_239 : decode cX12_wordOf 239 = .ok (.lreturn, 1) := by decide +kernel
theorem dX12_wordOf_240 : decode cX12_wordOf 240 = .ok (.bipush 108, 2) := by decide +kernel
theorem dX12_wordOf_242 : decode cX12_wordOf 242 = .ok (.bipush 111, 2) := by decide +kernel
theorem dX12_wordOf_244 : decode cX12_wordOf 244 = .ok (.bipush 111, 2) := by decide +kernel
theorem dX12_wordOf_246 : decode cX12_wordOf 246 = .ok (.bipush 115, 2) := by decide +kernel
theorem dX12_wordOf_248 : decode cX12_wordOf 248 = .ok (.bipush 101, 2) := by decide +kernel
theorem dX12_wordOf_250 : decode cX12_wordOf 250 = .ok (.iconst 0, 1) := by decide +kernel
theorem dX12_wordOf_251 : decode cX12_wordOf 251 = .ok (.invokestatic 168, 3) := by decide +kernel
theorem dX12_wordOf_254 : decode cX12_wordOf 254 = .ok (.lreturn, 1) := by decide +kernel
theorem dX12_usual_0 : decode cX12_usual 0 = .ok (.iload_n 0, 1) := by decide +kernel
theorem dX12_usual_1 : decode cX12_usual 1 = .ok (.tableswitch 95 0 11 #[63, 66, 69, 72, 75, 78, 81, 83, 95, 86, 89, 92], 63) := by decide +kernel
theorem dX12_usual_64 : decode cX12_usual 64 = .ok (.bipush 50, 2) := by decide +kernel
theorem dX12_usual_66 : decode cX12_usual 66 = .ok (.ireturn, 1) := by decide +kernel
theorem dX12_usual_67 : decode cX12_usual 67 = .ok (.bipush 90, 2) := by decide +kernel
theorem dX12_usual_69 : decode cX12_usual 69 = .ok (.ireturn, 1) := by decide +kernel
theorem dX12_usual_70 : decode cX12_usual 70 = .ok (.bipush 100, 2) := by decide +kernel
theorem dX12_usual_72 : decode cX12_usual 72 = .ok (.ireturn, 1) := by decide +kernel
theorem dX12_usual_73 : decode cX12_usual 73 = .ok (.bipush 10, 2) := by decide +kernel
theorem dX12_usual_75 : decode cX12_usual 75 = .ok (.ireturn, 1) := by decide +kernel
theorem dX12_usual_76 : decode cX12_usual 76 = .ok (.bipush 16, 2) := by decide +kernel
theorem dX12_usual_78 : decode cX12_usual 78 = .ok (.ireturn, 1) := by decide +kernel
theorem dX12_usual_79 : decode cX12_usual 79 = .ok (.bipush 8, 2) := by decide +kernel
theorem dX12_usual_81 : decode cX12_usual 81 = .ok (.ireturn, 1) := by decide +kernel
theorem dX12_usual_82 : decode cX12_usual 82 = .ok (.iconst 4, 1) := by decide +kernel
theorem dX12_usual_83 : decode cX12_usual 83 = .ok (.ireturn, 1) := by decide +kernel
theorem dX12_usual_84 : decode cX12_usual 84 = .ok (.bipush 30, 2) := by decide +kernel
theorem dX12_usual_86 : decode cX12_usual 86 = .ok (.ireturn, 1) := by decide +kernel
theorem dX12_usual_87 : decode cX12_usual 87 = .ok (.bipush 20, 2) := by decide +kernel
theorem dX12_usual_89 : decode cX12_usual 89 = .ok (.ireturn, 1) := by decide +kernel
theorem dX12_usual_90 : decode cX12_usual 90 = .ok (.bipush 40, 2) := by decide +kernel
theorem dX12_usual_92 : decode cX12_usual 92 = .ok (.ireturn, 1) := by decide +kernel
theorem dX12_usual_93 : decode cX12_usual 93 = .ok (.bipush 12, 2) := by decide +kernel
theorem dX12_usual_95 : decode cX12_usual 95 = .ok (.ireturn, 1) := by decide +kernel
theorem dX12_usual_96 : decode cX12_usual 96 = .ok (.iconst 0, 1) := by decide +kernel
theorem dX12_usual_97 : decode cX12_usual 97 = .ok (.ireturn, 1) := by decide +kernel
theorem dX12_lowest_0 : decode cX12_lowest 0 = .ok (.iload_n 0, 1) := by decide +kernel
theorem dX12_lowest_1 : decode cX12_lowest 1 = .ok (.iconst 3, 1) := by decide +kernel
theorem dX12_lowest_2 : decode cX12_lowest 2 = .ok (.if_icmp .le 15, 3) := by decide +kernel
theorem dX12_lowest_5 : decode cX12_lowest 5 = .ok (.iload_n 0, 1) := by decide +kernel
theorem dX12_lowest_6 : decode cX12_lowest 6 = .ok (.bipush 7, 2) := by decide +kernel
theorem dX12_lowest_8 : decode cX12_lowest 8 = .ok (.if_icmp .eq 9, 3) := by decide +kernel
theorem dX12_lowest_11 : decode cX12_lowest 11 = .ok (.iload_n 0, 1) := by decide +kernel
theorem dX12_lowest_12 : decode cX12_lowest 12 = .ok (.bipush 9, 2) := by decide +kernel
theorem dX12_lowest_14 : decode cX12_lowest 14 = .ok (.if_icmp .ne 7, 3) := by decide +kernel
theorem dX12_lowest_17 : decode cX12_lowest 17 = .ok (.iconst 1, 1) := by decide +kernel
theorem dX12_lowest_18 : decode cX12_lowest 18 = .ok (.goto 4, 3) := by decide +kernel
theorem dX12_lowest_21 : decode cX12_lowest 21 = .ok (.iconst 0, 1) := by decide +kernel
theorem dX12_lowest_22 : decode cX12_lowest 22 = .ok (.ireturn, 1) := by decide +kernel
theorem dX12_highest_0 : decode cX12_highest 0 = .ok (.iload_n 0, 1) := by decide +kernel
theorem dX12_highest_1 : decode cX12_highest 1 = .ok (.iconst 2, 1) := by decide +kernel
theorem dX12_highest_2 : decode cX12_highest 2 = .ok (.if_icmp .gt 8, 3) := by decide +kernel
theorem dX12_highest_5 : decode cX12_highest 5 = .ok (.bipush 100, 2) := by decide +kernel
theorem dX12_highest_7 : decode cX12_highest 7 = .ok (.goto 43, 3) := by decide +kernel
theorem dX12_highest_10 : decode cX12_highest 10 = .ok (.iload_n 0, 1) := by decide +kernel
theorem dX12_highest_11 : decode cX12_highest 11 = .ok (.iconst 4, 1) := by decide +kernel
theorem dX12_highest_12 : decode cX12_highest 12 = .ok (.if_icmp .lt 14, 3) := by decide +kernel
theorem dX12_highest_15 : decode cX12_highest 15 = .ok (.iload_n 0, 1) := by decide +kernel
theorem dX12_highest_16 : decode cX12_highest 16 = .ok (.bipush 6, 2) := by decide +kernel
theorem dX12_highest_18 : decode cX12_highest 18 = .ok (.if_icmp .gt 8, 3) := by decide +kernel
theorem dX12_highest_21 : decode cX12_highest 21 = .ok (.bipush 127, 2) := by decide +kernel
theorem dX12_highest_23 : decode cX12_highest 23 = .ok (.goto 27, 3) := by decide +kernel
theorem dX12_highest_26 : decode cX12_highest 26 = .ok (.iload_n 0, 1) := by decide +kernel
theorem dX12_highest_27 : decode cX12_highest 27 = .ok (.bipush 8, 2) := by decide +kernel
theorem dX12_highest_29 : decode cX12_highest 29 = .ok (.if_icmp .ne 7, 3) := by decide +kernel
theorem dX12_highest_32 : decode cX12_highest 32 = .ok (.iconst 1, 1) := by decide +kernel
theorem dX12_highest_33 : decode cX12_highest 33 = .ok (.goto 17, 3) := by decide +kernel
theorem dX12_highest_36 : decode cX12_highest 36 = .ok (.iload_n 0, 1) := by decide +kernel
theorem dX12_highest_37 : decode cX12_highest 37 = .ok (.bipush 12, 2) := by decide +kernel
theorem dX12_highest_39 : decode cX12_highest 39 = .ok (.if_icmp .ne 8, 3) := by decide +kernel
theorem dX12_highest_42 : decode cX12_highest 42 = .ok (.bipush 99, 2) := by decide +kernel
theorem dX12_highest_44 : decode cX12_highest 44 = .ok (.goto 6, 3) := by decide +kernel
theorem dX12_highest_47 : decode cX12_highest 47 = .ok (.sipush 960, 3) := by decide +kernel
theorem dX12_highest_50 : decode cX12_highest 50 = .ok (.ireturn, 1) := by decide +kernel
set_option maxRecDepth 20000 in
theorem ggX12_named_X12_wordOf : GoodIn wsX12_named wsX12_wordOf := goodIn_r _ [5, 6, 7, 4, 8, 9, 10] (by decide +kernel) (by decide +kernel)
set_option maxRecDepth 20000 in
theorem gX12_named_X12_wordOf : GoodIn wsX12_named (va_wsS RX12 172 yX12_wordOf wsX12_wordOf) := goodIn_app (goodIn_of _ (by decide +kernel)) ggX12_named_X12_wordOf
theorem dX12_named_0 : decode cX12_named 0 = .ok (.iconst 0, 1) := by decide +kernel
theorem dX12_named_1 : decode cX12_named 1 = .ok (.istore_n 1, 1) := by decide +kernel
theorem dX12_named_2 : decode cX12_named 2 = .ok (.iload_n 1, 1) := by decide +kernel
theorem dX12_named_3 : decode cX12_named 3 = .ok (.bipush 13, 2) := by decide +kernel
theorem dX12_named_5 : decode cX12_named 5 = .ok (.if_icmp .ge 23, 3) := by decide +kernel
theorem dX12_named_8 : decode cX12_named 8 = .ok (.aload_n 0, 1) := by decide +kernel
theorem dX12_named_9 : decode cX12_named 9 = .ok (.getfield 144, 3) := by decide +kernel
theorem dX12_named_12 : decode cX12_named 12 = .ok (.iload_n 1, 1) := by decide +kernel
theorem dX12_named_13 : decode cX12_named 13 = .ok (.invokestatic 172, 3) := by decide +kernel
theorem dX12_named_16 : decode cX12_named 16 = .ok (.lcmp, 1) := by decide +kernel
theorem dX12_named_17 : decode cX12_named 17 = .ok (.ifCond .ne 5, 3) := by decide +kernel
theorem dX12_named_20 : decode cX12_named 20 = .ok (.iload_n 1, 1) := by decide +kernel
theorem dX12_named_21 : decode cX12_named 21 = .ok (.ireturn, 1) := by decide +kernel
theorem dX12_named_22 : decode cX12_named 22 = .ok (.iinc 1 1, 3) := by decide +kernel
theorem dX12_named_25 : decode cX12_named 25 = .ok (.goto (-23), 3) := by decide +kernel
theorem dX12_named_28 : decode cX12_named 28 = .ok (.iconst (-1), 1) := by decide +kernel
theorem dX12_named_29 : decode cX12_named 29 = .ok (.ireturn, 1) := by decide +kernel
set_option maxRecDepth 20000 in
theorem ggX12_isNumber_X12_in : GoodIn wsX12_isNumber wsX12_in := goodIn_r _ [6] (by decide +kernel) (by decide +kernel)
set_option maxRecDepth 20000 in
theorem gX12_isNumber_X12_in : GoodIn wsX12_isNumber (va_wsS RX12 78 yX12_in wsX12_in) := goodIn_app (goodIn_of _ (by decide +kernel)) ggX12_isNumber_X12_in
theorem dX12_isNumber_0 : decode cX12_isNumber 0 = .ok (.aload_n 0, 1) := by decide +kernel
theorem dX12_isNumber_1 : decode cX12_isNumber 1 = .ok (.getfield 151, 3) := by decide +kernel
theorem dX12_isNumber_4 : decode cX12_isNumber 4 = .ok (.iconst 2, 1) := by decide +kernel
theorem dX12_isNumber_5 : decode cX12_isNumber 5 = .ok (.if_icmp .ne 21, 3) := by decide +kernel
theorem dX12_isNumber_8 : decode cX12_isNumber 8 = .ok (.aload_n 0, 1) := by decide +kernel
theorem dX12_isNumber_9 : decode cX12_isNumber 9 = .ok (.getfield 144, 3) := by decide +kernel
theorem dX12_isNumber_12 : decode cX12_isNumber 12 = .ok (.iload_n 1, 1) := by decide +kernel
theorem dX12_isNumber_13 : decode cX12_isNumber 13 = .ok (.i2l, 1) := by decide +kernel
theorem dX12_isNumber_14 : decode cX12_isNumber 14 = .ok (.iload_n 2, 1) := by decide +kernel
theorem dX12_isNumber_15 : decode cX12_isNumber 15 = .ok (.i2l, 1) := by decide +kernel
theorem dX12_isNumber_16 : decode cX12_isNumber 16 = .ok (.invokestatic 78, 3) := by decide +kernel
theorem dX12_isNumber_19 : decode cX12_isNumber 19 = .ok (.ifCond .eq 7, 3) := by decide +kernel
theorem dX12_isNumber_22 : decode cX12_isNumber 22 = .ok (.iconst 1, 1) := by decide +kernel
theorem dX12_isNumber_23 : decode cX12_isNumber 23 = .ok (.goto 4, 3) := by decide +kernel
theorem dX12_isNumber_26 : decode cX12_isNumber 26 = .ok (.iconst 0, 1) := by decide +kernel
theorem dX12_isNumber_27 : decode cX12_isNumber 27 = .ok (.ireturn, 1) := by decide +kernel
set_option maxRecDepth 20000 in
theorem ggX12_takeRule_X12_word : GoodIn wsX12_takeRule wsX12_word := goodIn_r _ [10, 11, 12] (by decide +kernel) (by decide +kernel)
set_option maxRecDepth 20000 in
theorem gX12_takeRule_X12_word : GoodIn wsX12_takeRule (va_wsS RX12 168 yX12_word wsX12_word) := goodIn_app (goodIn_of _ (by decide +kernel)) ggX12_takeRule_X12_word
set_option maxRecDepth 20000 in
theorem ggX12_takeRule_X12_take : GoodIn wsX12_takeRule wsX12_take := goodIn_r _ [16, 17, 18, 4, 19, 20, 1, 12, 11, 21, 22, 23, 24, 25, 26, 27, 28, 9, 29, 30, 31, 32, 33, 34, 52, 53, 54, 55, 56, 57, 58, 59, 60, 61, 62, 63, 64, 65, 66, 67, 68, 69, 70, 71, 72, 73, 74, 75, 76, 77, 78, 79, 80, 81, 82, 83, 84, 85, 86] (by decide +kernel) (by decide +kernel)
set_option maxRecDepth 20000 in
theorem gX12_takeRule_X12_take : GoodIn wsX12_takeRule (wsV RX12 176 RX12 yX12_take wsX12_take) := goodIn_app (goodIn_of _ (by decide +kernel)) ggX12_takeRule_X12_take
set_option maxRecDepth 20000 in
theorem ggX12_takeRule_X12_isNumber : GoodIn wsX12_takeRule wsX12_isNumber := goodIn_r _ [38, 1, 4, 32, 33, 9, 34, 52, 53, 54, 55, 56, 57, 58, 59, 60, 61, 62, 63, 64, 65, 66, 67, 68, 69, 70, 71, 72, 73, 74, 75, 76, 77, 78, 79, 80, 81, 82, 83, 84, 85, 86] (by decide +kernel) (by decide +kernel)
set_option maxRecDepth 20000 in
theorem gX12_takeRule_X12_isNumber : GoodIn wsX12_takeRule (wsV RX12 179 RX12 yX12_isNumber wsX12_isNumber) := goodIn_app (goodIn_of _ (by decide +kernel)) ggX12_takeRule_X12_isNumber
set_option maxRecDepth 20000 in
theorem ggX12_takeRule_X12_named : GoodIn wsX12_takeRule wsX12_named := goodIn_r _ [42, 4, 43, 44, 9, 45, 7, 8, 10, 11, 12, 52, 53, 54, 55, 56, 57, 58, 59, 60, 61, 62, 63, 64, 65, 66, 67, 68, 69, 70, 71, 72, 73, 74, 75, 76, 77, 78, 79, 80, 81, 82, 83, 84, 85, 86] (by decide +kernel) (by decide +kernel)
set_option maxRecDepth 20000 in
theorem gX12_takeRule_X12_named : GoodIn wsX12_takeRule (wsV RX12 183 RX12 yX12_named wsX12_named) := goodIn_app (goodIn_of _ (by decide +kernel)) ggX12_takeRule_X12_named
set_option maxRecDepth 20000 in
theorem ggX12_takeRule_X12_lowest : GoodIn wsX12_takeRule wsX12_lowest := goodIn_r _ [48] (by decide +kernel) (by decide +kernel)
set_option maxRecDepth 20000 in
theorem gX12_takeRule_X12_lowest : GoodIn wsX12_takeRule (va_wsS RX12 187 yX12_lowest wsX12_lowest) := goodIn_app (goodIn_of _ (by decide +kernel)) ggX12_takeRule_X12_lowest
set_option maxRecDepth 20000 in
theorem ggX12_takeRule_X12_highest : GoodIn wsX12_takeRule wsX12_highest := goodIn_r _ [51] (by decide +kernel) (by decide +kernel)
set_option maxRecDepth 20000 in
theorem gX12_takeRule_X12_highest : GoodIn wsX12_takeRule (va_wsS RX12 190 yX12_highest wsX12_highest) := goodIn_app (goodIn_of _ (by decide +kernel)) ggX12_takeRule_X12_highest
theorem dX12_takeRule_0 : decode cX12_takeRule 0 = .ok (.iload_n 1, 1) := by decide +kernel
theorem dX12_takeRule_1 : decode cX12_takeRule 1 = .ok (.bipush 24, 2) := by decide +kernel
theorem dX12_takeRule_3 : decode cX12_takeRule 3 = .ok (.if_icmp .eq 11, 3) := by decide +kernel
theorem dX12_takeRule_6 : decode cX12_takeRule 6 = .ok (.aload_n 0, 1) := by decide +kernel
theorem dX12_takeRule_7 : decode cX12_takeRule 7 = .ok (.getfield 151, 3) := by decide +kernel
theorem dX12_takeRule_10 : decode cX12_takeRule 10 = .ok (.iconst 1, 1) := by decide +kernel
theorem dX12_takeRule_11 : decode cX12_takeRule 11 = .ok (.if_icmp .eq 5, 3) := by decide +kernel
theorem dX12_takeRule_14 : decode cX12_takeRule 14 = .ok (.iconst 0, 1) := by decide +kernel
theorem dX12_takeRule_15 : decode cX12_takeRule 15 = .ok (.ireturn, 1) := by decide +kernel
theorem dX12_takeRule_16 : decode cX12_takeRule 16 = .ok (.aload_n 0, 1) := by decide +kernel
theorem dX12_takeRule_17 : decode cX12_takeRule 17 = .ok (.getfield 51, 3) := by decide +kernel
theorem dX12_takeRule_20 : decode cX12_takeRule 20 = .ok (.iload_n 1, 1) := by decide +kernel
theorem dX12_takeRule_21 : decode cX12_takeRule 21 = .ok (.iconst (-1), 1) := by decide +kernel
theorem dX12_takeRule_22 : decode cX12_takeRule 22 = .ok (.iastore, 1) := by decide +kernel
theorem dX12_takeRule_23 : decode cX12_takeRule 23 = .ok (.aload_n 0, 1) := by decide +kernel
theorem dX12_takeRule_24 : decode cX12_takeRule 24 = .ok (.getfield 60, 3) := by decide +kernel
theorem dX12_takeRule_27 : decode cX12_takeRule 27 = .ok (.iload_n 1, 1) := by decide +kernel
theorem dX12_takeRule_28 : decode cX12_takeRule 28 = .ok (.iconst 0, 1) := by decide +kernel
theorem dX12_takeRule_29 : decode cX12_takeRule 29 = .ok (.iastore, 1) := by decide +kernel
theorem dX12_takeRule_30 : decode cX12_takeRule 30 = .ok (.aload_n 0, 1) := by decide +kernel
theorem dX12_takeRule_31 : decode cX12_takeRule 31 = .ok (.getfield 144, 3) := by decide +kernel
theorem dX12_takeRule_34 : decode cX12_takeRule 34 = .ok (.bipush 118, 2) := by decide +kernel
theorem dX12_takeRule_36 : decode cX12_takeRule 36 = .ok (.bipush 111, 2) := by decide +kernel
theorem dX12_takeRule_38 : decode cX12_takeRule 38 = .ok (.bipush 105, 2) := by decide +kernel
theorem dX12_takeRule_40 : decode cX12_takeRule 40 = .ok (.bipush 99, 2) := by decide +kernel
theorem dX12_takeRule_42 : decode cX12_takeRule 42 = .ok (.bipush 101, 2) := by decide +kernel
theorem dX12_takeRule_44 : decode cX12_takeRule 44 = .ok (.iconst 0, 1) := by decide +kernel
theorem dX12_takeRule_45 : decode cX12_takeRule 45 = .ok (.invokestatic 168, 3) := by decide +kernel
theorem dX12_takeRule_48 : decode cX12_takeRule 48 = .ok (.lcmp, 1) := by decide +kernel
theorem dX12_takeRule_49 : decode cX12_takeRule 49 = .ok (.ifCond .ne 33, 3) := by decide +kernel
theorem dX12_takeRule_52 : decode cX12_takeRule 52 = .ok (.aload_n 0, 1) := by decide +kernel
theorem dX12_takeRule_53 : decode cX12_takeRule 53 = .ok (.invokevirtual 176, 3) := by decide +kernel
theorem dX12_takeRule_56 : decode cX12_takeRule 56 = .ok (.aload_n 0, 1) := by decide +kernel
theorem dX12_takeRule_57 : decode cX12_takeRule 57 = .ok (.iconst 0, 1) := by decide +kernel
theorem dX12_takeRule_58 : decode cX12_takeRule 58 = .ok (.iconst 3, 1) := by decide +kernel
theorem dX12_takeRule_59 : decode cX12_takeRule 59 = .ok (.invokevirtual 179, 3) := by decide +kernel
theorem dX12_takeRule_62 : decode cX12_takeRule 62 = .ok (.ifCond .ne 5, 3) := by decide +kernel
theorem dX12_takeRule_65 : decode cX12_takeRule 65 = .ok (.iconst 0, 1) := by decide +kernel
theorem dX12_takeRule_66 : decode cX12_takeRule 66 = .ok (.ireturn, 1) := by decide +kernel
theorem dX12_takeRule_67 : decode cX12_takeRule 67 = .ok (.aload_n 0, 1) := by decide +kernel
theorem dX12_takeRule_68 : decode cX12_takeRule 68 = .ok (.getfield 51, 3) := by decide +kernel
theorem dX12_takeRule_71 : decode cX12_takeRule 71 = .ok (.iload_n 1, 1) := by decide +kernel
theorem dX12_takeRule_72 : decode cX12_takeRule 72 = .ok (.aload_n 0, 1) := by decide +kernel
theorem dX12_takeRule_73 : decode cX12_takeRule 73 = .ok (.getfield 144, 3) := by decide +kernel
theorem dX12_takeRule_76 : decode cX12_takeRule 76 = .ok (.l2i, 1) := by decide +kernel
theorem dX12_takeRule_77 : decode cX12_takeRule 77 = .ok (.iastore, 1) := by decide +kernel
theorem dX12_takeRule_78 : decode cX12_takeRule 78 = .ok (.aload_n 0, 1) := by decide +kernel
theorem dX12_takeRule_79 : decode cX12_takeRule 79 = .ok (.invokevirtual 176, 3) := by decide +kernel
theorem dX12_takeRule_82 : decode cX12_takeRule 82 = .ok (.aload_n 0, 1) := by decide +kernel
theorem dX12_takeRule_83 : decode cX12_takeRule 83 = .ok (.getfield 151, 3) := by decide +kernel
theorem dX12_takeRule_86 : decode cX12_takeRule 86 = .ok (.iconst 1, 1) := by decide +kernel
theorem dX12_takeRule_87 : decode cX12_takeRule 87 = .ok (.if_icmp .ne 10, 3) := by decide +kernel
theorem dX12_takeRule_90 : decode cX12_takeRule 90 = .ok (.aload_n 0, 1) := by decide +kernel
theorem dX12_takeRule_91 : decode cX12_takeRule 91 = .ok (.invokevirtual 183, 3) := by decide +kernel
theorem dX12_takeRule_94 : decode cX12_takeRule 94 = .ok (.goto 4, 3) := by decide +kernel
theorem dX12_takeRule_97 : decode cX12_takeRule 97 = .ok (.iconst (-1), 1) := by decide +kernel
theorem dX12_takeRule_98 : decode cX12_takeRule 98 = .ok (.istore_n 2, 1) := by decide +kernel
theorem dX12_takeRule_99 : decode cX12_takeRule 99 = .ok (.iload_n 2, 1) := by decide +kernel
theorem dX12_takeRule_100 : decode cX12_takeRule 100 = .ok (.iconst (-1), 1) := by decide +kernel
theorem dX12_takeRule_101 : decode cX12_takeRule 101 = .ok (.if_icmp .ne 5, 3) := by decide +kernel
theorem dX12_takeRule_104 : decode cX12_takeRule 104 = .ok (.iconst 0, 1) := by decide +kernel
theorem dX12_takeRule_105 : decode cX12_takeRule 105 = .ok (.ireturn, 1) := by decide +kernel
theorem dX12_takeRule_106 : decode cX12_takeRule 106 = .ok (.aload_n 0, 1) := by decide +kernel
theorem dX12_takeRule_107 : decode cX12_takeRule 107 = .ok (.getfield 54, 3) := by decide +kernel
theorem dX12_takeRule_110 : decode cX12_takeRule 110 = .ok (.iload_n 1, 1) := by decide +kernel
theorem dX12_takeRule_111 : decode cX12_takeRule 111 = .ok (.iload_n 2, 1) := by decide +kernel
theorem dX12_takeRule_112 : decode cX12_takeRule 112 = .ok (.iastore, 1) := by decide +kernel
theorem dX12_takeRule_113 : decode cX12_takeRule 113 = .ok (.aload_n 0, 1) := by decide +kernel
theorem dX12_takeRule_114 : decode cX12_takeRule 114 = .ok (.invokevirtual 176, 3) := by decide +kernel
theorem dX12_takeRule_117 : decode cX12_takeRule 117 = .ok (.aload_n 0, 1) := by decide +kernel
theorem dX12_takeRule_118 : decode cX12_takeRule 118 = .ok (.iload_n 2, 1) := by decide +kernel
theorem dX12_takeRule_119 : decode cX12_takeRule 119 = .ok (.invokestatic 187, 3) := by decide +kernel
theorem dX12_takeRule_122 : decode cX12_takeRule 122 = .ok (.iload_n 2, 1) := by decide +kernel
theorem dX12_takeRule_123 : decode cX12_takeRule 123 = .ok (.invokestatic 190, 3) := by decide +kernel
theorem dX12_takeRule_126 : decode cX12_takeRule 126 = .ok (.invokevirtual 179, 3) := by decide +kernel
theorem dX12_takeRule_129 : decode cX12_takeRule 129 = .ok (.ifCond .ne 5, 3) := by decide +kernel
theorem dX12_takeRule_132 : decode cX12_takeRule 132 = .ok (.iconst 0, 1) := by decide +kernel
theorem dX12_takeRule_133 : decode cX12_takeRule 133 = .ok (.ireturn, 1) := by decide +kernel
theorem dX12_takeRule_134 : decode cX12_takeRule 134 = .ok (.aload_n 0, 1) := by decide +kernel
theorem dX12_takeRule_135 : decode cX12_takeRule 135 = .ok (.getfield 57, 3) := by decide +kernel
theorem dX12_takeRule_138 : decode cX12_takeRule 138 = .ok (.iload_n 1, 1) := by decide +kernel
theorem dX12_takeRule_139 : decode cX12_takeRule 139 = .ok (.aload_n 0, 1) := by decide +kernel
theorem dX12_takeRule_140 : decode cX12_takeRule 140 = .ok (.getfield 144, 3) := by decide +kernel
theorem dX12_takeRule_143 : decode cX12_takeRule 143 = .ok (.l2i, 1) := by decide +kernel
theorem dX12_takeRule_144 : decode cX12_takeRule 144 = .ok (.iastore, 1) := by decide +kernel
theorem dX12_takeRule_145 : decode cX12_takeRule 145 = .ok (.aload_n 0, 1) := by decide +kernel
theorem dX12_takeRule_146 : decode cX12_takeRule 146 = .ok (.invokevirtual 176, 3) := by decide +kernel
theorem dX12_takeRule_149 : decode cX12_takeRule 149 = .ok (.aload_n 0, 1) := by decide +kernel
theorem dX12_takeRule_150 : decode cX12_takeRule 150 = .ok (.getfield 151, 3) := by decide +kernel
theorem dX12_takeRule_153 : decode cX12_takeRule 153 = .ok (.iconst 1, 1) := by decide +kernel
theorem dX12_takeRule_154 : decode cX12_takeRule 154 = .ok (.if_icmp .ne 55, 3) := by decide +kernel
theorem dX12_takeRule_157 : decode cX12_takeRule 157 = .ok (.aload_n 0, 1) := by decide +kernel
theorem dX12_takeRule_158 : decode cX12_takeRule 158 = .ok (.getfield 144, 3) := by decide +kernel
theorem dX12_takeRule_161 : decode cX12_takeRule 161 = .ok (.bipush 114, 2) := by decide +kernel
theorem dX12_takeRule_163 : decode cX12_takeRule 163 = .ok (.bipush 97, 2) := by decide +kernel
theorem dX12_takeRule_165 : decode cX12_takeRule 165 = .ok (.bipush 110, 2) := by decide +kernel
theorem dX12_takeRule_167 : decode cX12_takeRule 167 = .ok (.bipush 107, 2) := by decide +kernel
theorem dX12_takeRule_169 : decode cX12_takeRule 169 = .ok (.iconst 0, 1) := by decide +kernel
theorem dX12_takeRule_170 : decode cX12_takeRule 170 = .ok (.iconst 0, 1) := by decide +kernel
theorem dX12_takeRule_171 : decode cX12_takeRule 171 = .ok (.invokestatic 168, 3) := by decide +kernel
theorem dX12_takeRule_174 : decode cX12_takeRule 174 = .ok (.lcmp, 1) := by decide +kernel
theorem dX12_takeRule_175 : decode cX12_takeRule 175 = .ok (.ifCond .ne 34, 3) := by decide +kernel
theorem dX12_takeRule_178 : decode cX12_takeRule 178 = .ok (.aload_n 0, 1) := by decide +kernel
theorem dX12_takeRule_179 : decode cX12_takeRule 179 = .ok (.invokevirtual 176, 3) := by decide +kernel
theorem dX12_takeRule_182 : decode cX12_takeRule 182 = .ok (.aload_n 0, 1) := by decide +kernel
theorem dX12_takeRule_183 : decode cX12_takeRule 183 = .ok (.iconst 0, 1) := by decide +kernel
theorem dX12_takeRule_184 : decode cX12_takeRule 184 = .ok (.bipush 9, 2) := by decide +kernel
theorem dX12_takeRule_186 : decode cX12_takeRule 186 = .ok (.invokevirtual 179, 3) := by decide +kernel
theorem dX12_takeRule_189 : decode cX12_takeRule 189 = .ok (.ifCond .ne 5, 3) := by decide +kernel
theorem dX12_takeRule_192 : decode cX12_takeRule 192 = .ok (.iconst 0, 1) := by decide +kernel
theorem dX12_takeRule_193 : decode cX12_takeRule 193 = .ok (.ireturn, 1) := by decide +kernel
theorem dX12_takeRule_194 : decode cX12_takeRule 194 = .ok (.aload_n 0, 1) := by decide +kernel
theorem dX12_takeRule_195 : decode cX12_takeRule 195 = .ok (.getfield 60, 3) := by decide +kernel
theorem dX12_takeRule_198 : decode cX12_takeRule 198 = .ok (.iload_n 1, 1) := by decide +kernel
theorem dX12_takeRule_199 : decode cX12_takeRule 199 = .ok (.aload_n 0, 1) := by decide +kernel
theorem dX12_takeRule_200 : decode cX12_takeRule 200 = .ok (.getfield 144, 3) := by decide +kernel
theorem dX12_takeRule_203 : decode cX12_takeRule 203 = .ok (.l2i, 1) := by decide +kernel
theorem dX12_takeRule_204 : decode cX12_takeRule 204 = .ok (.iastore, 1) := by decide +kernel
theorem dX12_takeRule_205 : decode cX12_takeRule 205 = .ok (.aload_n 0, 1) := by decide +kernel
theorem dX12_takeRule_206 : decode cX12_takeRule 206 = .ok (.invokevirtual 176, 3) := by decide +kernel
theorem dX12_takeRule_209 : decode cX12_takeRule 209 = .ok (.aload_n 0, 1) := by decide +kernel
theorem dX12_takeRule_210 : decode cX12_takeRule 210 = .ok (.getfield 151, 3) := by decide +kernel
theorem dX12_takeRule_213 : decode cX12_takeRule 213 = .ok (.iconst 3, 1) := by decide +kernel
theorem dX12_takeRule_214 : decode cX12_takeRule 214 = .ok (.if_icmp .ne 7, 3) := by decide +kernel
theorem dX12_takeRule_217 : decode cX12_takeRule 217 = .ok (.iconst 1, 1) := by decide +kernel
theorem dX12_takeRule_218 : decode cX12_takeRule 218 = .ok (.goto 4, 3) := by decide +kernel
theorem dX12_takeRule_221 : decode cX12_takeRule 221 = .ok (.iconst 0, 1) := by decide +kernel
theorem dX12_takeRule_222 : decode cX12_takeRule 222 = .ok (.ireturn, 1) := by decide +kernel
set_option maxRecDepth 20000 in
theorem ggX12_read_X12_take : GoodIn wsX12_read wsX12_take := goodIn_r _ [10, 2, 4, 11, 12, 13, 3, 14, 15, 16, 17, 18, 19, 20, 21, 22, 23, 9, 24, 5, 25, 26, 27, 28, 57, 58, 59, 60, 61, 62, 63, 64, 65, 66, 67, 68, 69, 70, 71, 72, 73, 74, 75, 76, 77, 78, 79, 80, 81, 82, 83, 84, 85, 86, 87, 88, 89, 90, 91] (by decide +kernel) (by decide +kernel)
set_option maxRecDepth 20000 in
theorem gX12_read_X12_take : GoodIn wsX12_read (wsV RX12 176 RX12 yX12_take wsX12_take) := goodIn_app (goodIn_of _ (by decide +kernel)) ggX12_read_X12_take
set_option maxRecDepth 20000 in
theorem ggX12_read_X12_takeRule : GoodIn wsX12_read wsX12_takeRule := goodIn_r _ [32, 3, 33, 34, 11, 35, 36, 37, 38, 9, 39, 15, 14, 6, 7, 8, 10, 2, 4, 12, 13, 16, 17, 18, 19, 20, 21, 22, 23, 24, 5, 25, 26, 27, 28, 40, 41, 42, 43, 44, 45, 46, 47, 48, 49, 50, 51, 52, 53, 54, 55, 56, 57, 58, 59, 60, 61, 62, 63, 64, 65, 66, 67, 68, 69, 70, 71, 72, 73, 74, 75, 76, 77, 78, 79, 80, 81, 82, 83, 84, 85, 86, 87, 88, 89, 90, 91] (by decide +kernel) (by decide +kernel)
set_option maxRecDepth 20000 in
theorem gX12_read_X12_takeRule : GoodIn wsX12_read (wsV RX12 196 RX12 yX12_takeRule wsX12_takeRule) := goodIn_app (goodIn_of _ (by decide +kernel)) ggX12_read_X12_takeRule
theorem dX12_read_0 : decode cX12_read 0 = .ok (.aload_n 0, 1) := by decide +kernel
theorem dX12_read_1 : decode cX12_read 1 = .ok (.getfield 193, 3) := by decide +kernel
theorem dX12_read_4 : decode cX12_read 4 = .ok (.istore_n 1, 1) := by decide +kernel
theorem dX12_read_5 : decode cX12_read 5 = .ok (.aload_n 0, 1) := by decide +kernel
theorem dX12_read_6 : decode cX12_read 6 = .ok (.iconst 0, 1) := by decide +kernel
theorem dX12_read_7 : decode cX12_read 7 = .ok (.putfield 135, 3) := by decide +kernel
theorem dX12_read_10 : decode cX12_read 10 = .ok (.aload_n 0, 1) := by decide +kernel
theorem dX12_read_11 : decode cX12_read 11 = .ok (.invokevirtual 176, 3) := by decide +kernel
theorem dX12_read_14 : decode cX12_read 14 = .ok (.iconst 1, 1) := by decide +kernel
theorem dX12_read_15 : decode cX12_read 15 = .ok (.istore_n 2, 1) := by decide +kernel
theorem dX12_read_16 : decode cX12_read 16 = .ok (.iload_n 2, 1) := by decide +kernel
theorem dX12_read_17 : decode cX12_read 17 = .ok (.ifCond .eq 30, 3) := by decide +kernel
theorem dX12_read_20 : decode cX12_read 20 = .ok (.aload_n 0, 1) := by decide +kernel
theorem dX12_read_21 : decode cX12_read 21 = .ok (.getfield 151, 3) := by decide +kernel
theorem dX12_read_24 : decode cX12_read 24 = .ok (.ifCond .eq 23, 3) := by decide +kernel
theorem dX12_read_27 : decode cX12_read 27 = .ok (.aload_n 0, 1) := by decide +kernel
theorem dX12_read_28 : decode cX12_read 28 = .ok (.iload_n 1, 1) := by decide +kernel
theorem dX12_read_29 : decode cX12_read 29 = .ok (.invokevirtual 196, 3) := by decide +kernel
theorem dX12_read_32 : decode cX12_read 32 = .ok (.istore_n 2, 1) := by decide +kernel
theorem dX12_read_33 : decode cX12_read 33 = .ok (.iload_n 2, 1) := by decide +kernel
theorem dX12_read_34 : decode cX12_read 34 = .ok (.ifCond .eq (-18), 3) := by decide +kernel
theorem dX12_read_37 : decode cX12_read 37 = .ok (.iinc 1 1, 3) := by decide +kernel
theorem dX12_read_40 : decode cX12_read 40 = .ok (.aload_n 0, 1) := by decide +kernel
theorem dX12_read_41 : decode cX12_read 41 = .ok (.invokevirtual 176, 3) := by decide +kernel
theorem dX12_read_44 : decode cX12_read 44 = .ok (.goto (-28), 3) := by decide +kernel
theorem dX12_read_47 : decode cX12_read 47 = .ok (.aload_n 0, 1) := by decide +kernel
theorem dX12_read_48 : decode cX12_read 48 = .ok (.getfield 141, 3) := by decide +kernel
theorem dX12_read_51 : decode cX12_read 51 = .ok (.istore_n 3, 1) := by decide +kernel
theorem dX12_read_52 : decode cX12_read 52 = .ok (.aload_n 0, 1) := by decide +kernel
theorem dX12_read_53 : decode cX12_read 53 = .ok (.iconst 0, 1) := by decide +kernel
theorem dX12_read_54 : decode cX12_read 54 = .ok (.putfield 130, 3) := by decide +kernel
theorem dX12_read_57 : decode cX12_read 57 = .ok (.iload_n 2, 1) := by decide +kernel
theorem dX12_read_58 : decode cX12_read 58 = .ok (.ifCond .ne 8, 3) := by decide +kernel
theorem dX12_read_61 : decode cX12_read 61 = .ok (.bipush (-10), 2) := by decide +kernel
theorem dX12_read_63 : decode cX12_read 63 = .ok (.iload_n 3, 1) := by decide +kernel
theorem dX12_read_64 : decode cX12_read 64 = .ok (.isub, 1) := by decide +kernel
theorem dX12_read_65 : decode cX12_read 65 = .ok (.ireturn, 1) := by decide +kernel
theorem dX12_read_66 : decode cX12_read 66 = .ok (.aload_n 0, 1) := by decide +kernel
theorem dX12_read_67 : decode cX12_read 67 = .ok (.iload_n 1, 1) := by decide +kernel
theorem dX12_read_68 : decode cX12_read 68 = .ok (.putfield 193, 3) := by decide +kernel
theorem dX12_read_71 : decode cX12_read 71 = .ok (.aload_n 0, 1) := by decide +kernel
theorem dX12_read_72 : decode cX12_read 72 = .ok (.getfield 193, 3) := by decide +kernel
theorem dX12_read_75 : decode cX12_read 75 = .ok (.ireturn, 1) := by decide +kernel
theorem dX12_plain_0 : decode cX12_plain 0 = .ok (.aload_n 0, 1) := by decide +kernel
theorem dX12_plain_1 : decode cX12_plain 1 = .ok (.getfield 193, 3) := by decide +kernel
theorem dX12_plain_4 : decode cX12_plain 4 = .ok (.istore_n 1, 1) := by decide +kernel
theorem dX12_plain_5 : decode cX12_plain 5 = .ok (.aload_n 0, 1) := by decide +kernel
theorem dX12_plain_6 : decode cX12_plain 6 = .ok (.iconst 0, 1) := by decide +kernel
theorem dX12_plain_7 : decode cX12_plain 7 = .ok (.putfield 193, 3) := by decide +kernel
theorem dX12_plain_10 : decode cX12_plain 10 = .ok (.iload_n 1, 1) := by decide +kernel
theorem dX12_plain_11 : decode cX12_plain 11 = .ok (.ireturn, 1) := by decide +kernel
set_option maxRecDepth 20000 in
theorem ggX12_rule_X12_in : GoodIn wsX12_rule wsX12_in := goodIn_r _ [9] (by decide +kernel) (by decide +kernel)
set_option maxRecDepth 20000 in
theorem gX12_rule_X12_in : GoodIn wsX12_rule (va_wsS RX12 78 yX12_in wsX12_in) := goodIn_app (goodIn_of _ (by decide +kernel)) ggX12_rule_X12_in
theorem dX12_rule_0 : decode cX12_rule 0 = .ok (.iload_n 1, 1) := by decide +kernel
theorem dX12_rule_1 : decode cX12_rule 1 = .ok (.i2l, 1) := by decide +kernel
theorem dX12_rule_2 : decode cX12_rule 2 = .ok (.lconst 0, 1) := by decide +kernel
theorem dX12_rule_3 : decode cX12_rule 3 = .ok (.aload_n 0, 1) := by decide +kernel
theorem dX12_rule_4 : decode cX12_rule 4 = .ok (.getfield 193, 3) := by decide +kernel
theorem dX12_rule_7 : decode cX12_rule 7 = .ok (.iconst 1, 1) := by decide +kernel
theorem dX12_rule_8 : decode cX12_rule 8 = .ok (.isub, 1) := by decide +kernel
theorem dX12_rule_9 : decode cX12_rule 9 = .ok (.i2l, 1) := by decide +kernel
theorem dX12_rule_10 : decode cX12_rule 10 = .ok (.invokestatic 78, 3) := by decide +kernel
theorem dX12_rule_13 : decode cX12_rule 13 = .ok (.ifCond .ne 7, 3) := by decide +kernel
theorem dX12_rule_16 : decode cX12_rule 16 = .ok (.sipush (-1001), 3) := by decide +kernel
theorem dX12_rule_19 : decode cX12_rule 19 = .ok (.ireturn, 1) := by decide +kernel
theorem dX12_rule_20 : decode cX12_rule 20 = .ok (.iload_n 2, 1) := by decide +kernel
theorem dX12_rule_21 : decode cX12_rule 21 = .ok (.ifCond .ne 12, 3) := by decide +kernel
theorem dX12_rule_24 : decode cX12_rule 24 = .ok (.aload_n 0, 1) := by decide +kernel
theorem dX12_rule_25 : decode cX12_rule 25 = .ok (.getfield 51, 3) := by decide +kernel
theorem dX12_rule_28 : decode cX12_rule 28 = .ok (.iload_n 1, 1) := by decide +kernel
theorem dX12_rule_29 : decode cX12_rule 29 = .ok (.iaload, 1) := by decide +kernel
theorem dX12_rule_30 : decode cX12_rule 30 = .ok (.goto 48, 3) := by decide +kernel
theorem dX12_rule_33 : decode cX12_rule 33 = .ok (.iload_n 2, 1) := by decide +kernel
theorem dX12_rule_34 : decode cX12_rule 34 = .ok (.iconst 1, 1) := by decide +kernel
theorem dX12_rule_35 : decode cX12_rule 35 = .ok (.if_icmp .ne 12, 3) := by decide +kernel
theorem dX12_rule_38 : decode cX12_rule 38 = .ok (.aload_n 0, 1) := by decide +kernel
theorem dX12_rule_39 : decode cX12_rule 39 = .ok (.getfield 54, 3) := by decide +kernel
theorem dX12_rule_42 : decode cX12_rule 42 = .ok (.iload_n 1, 1) := by decide +kernel
theorem dX12_rule_43 : decode cX12_rule 43 = .ok (.iaload, 1) := by decide +kernel
theorem dX12_rule_44 : decode cX12_rule 44 = .ok (.goto 34, 3) := by decide +kernel
theorem dX12_rule_47 : decode cX12_rule 47 = .ok (.iload_n 2, 1) := by decide +kernel
theorem dX12_rule_48 : decode cX12_rule 48 = .ok (.iconst 2, 1) := by decide +kernel
theorem dX12_rule_49 : decode cX12_rule 49 = .ok (.if_icmp .ne 12, 3) := by decide +kernel
theorem dX12_rule_52 : decode cX12_rule 52 = .ok (.aload_n 0, 1) := by decide +kernel
theorem dX12_rule_53 : decode cX12_rule 53 = .ok (.getfield 57, 3) := by decide +kernel
theorem dX12_rule_56 : decode cX12_rule 56 = .ok (.iload_n 1, 1) := by decide +kernel
theorem dX12_rule_57 : decode cX12_rule 57 = .ok (.iaload, 1) := by decide +kernel
theorem dX12_rule_58 : decode cX12_rule 58 = .ok (.goto 20, 3) := by decide +kernel
theorem dX12_rule_61 : decode cX12_rule 61 = .ok (.iload_n 2, 1) := by decide +kernel
theorem dX12_rule_62 : decode cX12_rule 62 = .ok (.iconst 3, 1) := by decide +kernel
theorem dX12_rule_63 : decode cX12_rule 63 = .ok (.if_icmp .ne 12, 3) := by decide +kernel
theorem dX12_rule_66 : decode cX12_rule 66 = .ok (.aload_n 0, 1) := by decide +kernel
theorem dX12_rule_67 : decode cX12_rule 67 = .ok (.getfield 60, 3) := by decide +kernel
theorem dX12_rule_70 : decode cX12_rule 70 = .ok (.iload_n 1, 1) := by decide +kernel
theorem dX12_rule_71 : decode cX12_rule 71 = .ok (.iaload, 1) := by decide +kernel
theorem dX12_rule_72 : decode cX12_rule 72 = .ok (.goto 6, 3) := by decide +kernel
theorem dX12_rule_75 : decode cX12_rule 75 = .ok (.sipush (-1001), 3) := by decide +kernel
theorem dX12_rule_78 : decode cX12_rule 78 = .ok (.ireturn, 1) := by decide +kernel
theorem dX12_counts_0 : decode cX12_counts 0 = .ok (.iconst (-1), 1) := by decide +kernel
theorem dX12_counts_1 : decode cX12_counts 1 = .ok (.istore_n 3, 1) := by decide +kernel
theorem dX12_counts_2 : decode cX12_counts 2 = .ok (.iconst 0, 1) := by decide +kernel
theorem dX12_counts_3 : decode cX12_counts 3 = .ok (.istore 4, 2) := by decide +kernel
theorem dX12_counts_5 : decode cX12_counts 5 = .ok (.iload 4, 2) := by decide +kernel
theorem dX12_counts_7 : decode cX12_counts 7 = .ok (.aload_n 0, 1) := by decide +kernel
theorem dX12_counts_8 : decode cX12_counts 8 = .ok (.getfield 193, 3) := by decide +kernel
theorem dX12_counts_11 : decode cX12_counts 11 = .ok (.if_icmp .ge 82, 3) := by decide +kernel
theorem dX12_counts_14 : decode cX12_counts 14 = .ok (.aload_n 0, 1) := by decide +kernel
theorem dX12_counts_15 : decode cX12_counts 15 = .ok (.getfield 54, 3) := by decide +kernel
theorem dX12_counts_18 : decode cX12_counts 18 = .ok (.iload 4, 2) := by decide +kernel
theorem dX12_counts_20 : decode cX12_counts 20 = .ok (.iaload, 1) := by decide +kernel
theorem dX12_counts_21 : decode cX12_counts 21 = .ok (.iload_n 2, 1) := by decide +kernel
theorem dX12_counts_22 : decode cX12_counts 22 = .ok (.if_icmp .ne 29, 3) := by decide +kernel
theorem dX12_counts_25 : decode cX12_counts 25 = .ok (.aload_n 0, 1) := by decide +kernel
theorem dX12_counts_26 : decode cX12_counts 26 = .ok (.getfield 51, 3) := by decide +kernel
theorem dX12_counts_29 : decode cX12_counts 29 = .ok (.iload 4, 2) := by decide +kernel
theorem dX12_counts_31 : decode cX12_counts 31 = .ok (.iaload, 1) := by decide +kernel
theorem dX12_counts_32 : decode cX12_counts 32 = .ok (.iconst (-1), 1) := by decide +kernel
theorem dX12_counts_33 : decode cX12_counts 33 = .ok (.if_icmp .eq 14, 3) := by decide +kernel
theorem dX12_counts_36 : decode cX12_counts 36 = .ok (.aload_n 0, 1) := by decide +kernel
theorem dX12_counts_37 : decode cX12_counts 37 = .ok (.getfield 51, 3) := by decide +kernel
theorem dX12_counts_40 : decode cX12_counts 40 = .ok (.iload 4, 2) := by decide +kernel
theorem dX12_counts_42 : decode cX12_counts 42 = .ok (.iaload, 1) := by decide +kernel
theorem dX12_counts_43 : decode cX12_counts 43 = .ok (.iload_n 1, 1) := by decide +kernel
theorem dX12_counts_44 : decode cX12_counts 44 = .ok (.if_icmp .ne 7, 3) := by decide +kernel
theorem dX12_counts_47 : decode cX12_counts 47 = .ok (.iconst 1, 1) := by decide +kernel
theorem dX12_counts_48 : decode cX12_counts 48 = .ok (.goto 4, 3) := by decide +kernel
theorem dX12_counts_51 : decode cX12_counts 51 = .ok (.iconst 0, 1) := by decide +kernel
theorem dX12_counts_52 : decode cX12_counts 52 = .ok (.istore 5, 2) := by decide +kernel
theorem dX12_counts_54 : decode cX12_counts 54 = .ok (.iload 5, 2) := by decide +kernel
theorem dX12_counts_56 : decode cX12_counts 56 = .ok (.ifCond .eq 29, 3) := by decide +kernel
theorem dX12_counts_59 : decode cX12_counts 59 = .ok (.iload_n 3, 1) := by decide +kernel
theorem dX12_counts_60 : decode cX12_counts 60 = .ok (.iconst (-1), 1) := by decide +kernel
theorem dX12_counts_61 : decode cX12_counts 61 = .ok (.if_icmp .eq 19, 3) := by decide +kernel
theorem dX12_counts_64 : decode cX12_counts 64 = .ok (.aload_n 0, 1) := by decide +kernel
theorem dX12_counts_65 : decode cX12_counts 65 = .ok (.getfield 60, 3) := by decide +kernel
theorem dX12_counts_68 : decode cX12_counts 68 = .ok (.iload 4, 2) := by decide +kernel
theorem dX12_counts_70 : decode cX12_counts 70 = .ok (.iaload, 1) := by decide +kernel
theorem dX12_counts_71 : decode cX12_counts 71 = .ok (.aload_n 0, 1) := by decide +kernel
theorem dX12_counts_72 : decode cX12_counts 72 = .ok (.getfield 60, 3) := by decide +kernel
theorem dX12_counts_75 : decode cX12_counts 75 = .ok (.iload_n 3, 1) := by decide +kernel
theorem dX12_counts_76 : decode cX12_counts 76 = .ok (.iaload, 1) := by decide +kernel
theorem dX12_counts_77 : decode cX12_counts 77 = .ok (.if_icmp .lt 8, 3) := by decide +kernel
theorem dX12_counts_80 : decode cX12_counts 80 = .ok (.iload 4, 2) := by decide +kernel
theorem dX12_counts_82 : decode cX12_counts 82 = .ok (.goto 4, 3) := by decide +kernel
theorem dX12_counts_85 : decode cX12_counts 85 = .ok (.iload_n 3, 1) := by decide +kernel
theorem dX12_counts_86 : decode cX12_counts 86 = .ok (.istore_n 3, 1) := by decide +kernel
theorem dX12_counts_87 : decode cX12_counts 87 = .ok (.iinc 4 1, 3) := by decide +kernel
theorem dX12_counts_90 : decode cX12_counts 90 = .ok (.goto (-85), 3) := by decide +kernel
theorem dX12_counts_93 : decode cX12_counts 93 = .ok (.iload_n 3, 1) := by decide +kernel
theorem dX12_counts_94 : decode cX12_counts 94 = .ok (.ireturn, 1) := by decide +kernel
set_option maxRecDepth 20000 in
theorem ggX12_number_X12_counts : GoodIn wsX12_number wsX12_counts := goodIn_r _ [6, 7, 8, 9, 10, 14, 15, 16, 17, 18, 19, 20, 21, 22, 23, 24, 25, 26, 27, 28, 29, 30, 31, 32, 33, 34, 35, 36, 37, 38, 39, 40, 41, 42, 43, 44, 45, 46, 47, 48] (by decide +kernel) (by decide +kernel)
set_option maxRecDepth 20000 in
theorem gX12_number_X12_counts : GoodIn wsX12_number (wsV RX12 199 RX12 yX12_counts wsX12_counts) := goodIn_app (goodIn_of _ (by decide +kernel)) ggX12_number_X12_counts
set_option maxRecDepth 20000 in
theorem ggX12_number_X12_usual : GoodIn wsX12_number wsX12_usual := goodIn_r _ [13] (by decide +kernel) (by decide +kernel)
set_option maxRecDepth 20000 in
theorem gX12_number_X12_usual : GoodIn wsX12_number (va_wsS RX12 203 yX12_usual wsX12_usual) := goodIn_app (goodIn_of _ (by decide +kernel)) ggX12_number_X12_usual
theorem dX12_number_0 : decode cX12_number 0 = .ok (.aload_n 0, 1) := by decide +kernel
theorem dX12_number_1 : decode cX12_number 1 = .ok (.iload_n 1, 1) := by decide +kernel
theorem dX12_number_2 : decode cX12_number 2 = .ok (.iload_n 2, 1) := by decide +kernel
theorem dX12_number_3 : decode cX12_number 3 = .ok (.invokevirtual 199, 3) := by decide +kernel
theorem dX12_number_6 : decode cX12_number 6 = .ok (.istore_n 3, 1) := by decide +kernel
theorem dX12_number_7 : decode cX12_number 7 = .ok (.iload_n 3, 1) := by decide +kernel
theorem dX12_number_8 : decode cX12_number 8 = .ok (.iconst (-1), 1) := by decide +kernel
theorem dX12_number_9 : decode cX12_number 9 = .ok (.if_icmp .ne 10, 3) := by decide +kernel
theorem dX12_number_12 : decode cX12_number 12 = .ok (.iload_n 2, 1) := by decide +kernel
theorem dX12_number_13 : decode cX12_number 13 = .ok (.invokestatic 203, 3) := by decide +kernel
theorem dX12_number_16 : decode cX12_number 16 = .ok (.goto 9, 3) := by decide +kernel
theorem dX12_number_19 : decode cX12_number 19 = .ok (.aload_n 0, 1) := by decide +kernel
theorem dX12_number_20 : decode cX12_number 20 = .ok (.getfield 57, 3) := by decide +kernel
theorem dX12_number_23 : decode cX12_number 23 = .ok (.iload_n 3, 1) := by decide +kernel
theorem dX12_number_24 : decode cX12_number 24 = .ok (.iaload, 1) := by decide +kernel
theorem dX12_number_25 : decode cX12_number 25 = .ok (.ireturn, 1) := by decide +kernel
set_option maxRecDepth 20000 in
theorem ggX12_value_X12_in : GoodIn wsX12_value wsX12_in := goodIn_r _ [6] (by decide +kernel) (by decide +kernel)
set_option maxRecDepth 20000 in
theorem gX12_value_X12_in : GoodIn wsX12_value (va_wsS RX12 78 yX12_in wsX12_in) := goodIn_app (goodIn_of _ (by decide +kernel)) ggX12_value_X12_in
set_option maxRecDepth 20000 in
theorem ggX12_value_X12_number : GoodIn wsX12_value wsX12_number := goodIn_r _ [10, 11, 12, 13, 14, 5, 15, 16, 17, 18, 19, 20, 21, 22, 23, 24, 25, 26, 27, 28, 29, 30, 31, 32, 33, 34, 35, 36, 37, 38, 39, 40, 41, 42, 43, 44, 45, 46, 47, 48, 49, 50, 51, 52, 53, 54, 55, 56, 57] (by decide +kernel) (by decide +kernel)
set_option maxRecDepth 20000 in
theorem gX12_value_X12_number : GoodIn wsX12_value (wsV RX12 206 RX12 yX12_number wsX12_number) := goodIn_app (goodIn_of _ (by decide +kernel)) ggX12_value_X12_number
theorem dX12_value_0 : decode cX12_value 0 = .ok (.iload_n 1, 1) := by decide +kernel
theorem dX12_value_1 : decode cX12_value 1 = .ok (.i2l, 1) := by decide +kernel
theorem dX12_value_2 : decode cX12_value 2 = .ok (.lconst 0, 1) := by decide +kernel
theorem dX12_value_3 : decode cX12_value 3 = .ok (.ldc2_w 76, 3) := by decide +kernel
theorem dX12_value_6 : decode cX12_value 6 = .ok (.invokestatic 78, 3) := by decide +kernel
theorem dX12_value_9 : decode cX12_value 9 = .ok (.ifCond .eq 24, 3) := by decide +kernel
theorem dX12_value_12 : decode cX12_value 12 = .ok (.iload_n 2, 1) := by decide +kernel
theorem dX12_value_13 : decode cX12_value 13 = .ok (.i2l, 1) := by decide +kernel
theorem dX12_value_14 : decode cX12_value 14 = .ok (.lconst 0, 1) := by decide +kernel
theorem dX12_value_15 : decode cX12_value 15 = .ok (.ldc2_w 86, 3) := by decide +kernel
theorem dX12_value_18 : decode cX12_value 18 = .ok (.invokestatic 78, 3) := by decide +kernel
theorem dX12_value_21 : decode cX12_value 21 = .ok (.ifCond .eq 12, 3) := by decide +kernel
theorem dX12_value_24 : decode cX12_value 24 = .ok (.aload_n 0, 1) := by decide +kernel
theorem dX12_value_25 : decode cX12_value 25 = .ok (.iload_n 1, 1) := by decide +kernel
theorem dX12_value_26 : decode cX12_value 26 = .ok (.iload_n 2, 1) := by decide +kernel
theorem dX12_value_27 : decode cX12_value 27 = .ok (.invokevirtual 206, 3) := by decide +kernel
theorem dX12_value_30 : decode cX12_value 30 = .ok (.goto 6, 3) := by decide +kernel
theorem dX12_value_33 : decode cX12_value 33 = .ok (.sipush (-1001), 3) := by decide +kernel
theorem dX12_value_36 : decode cX12_value 36 = .ok (.ireturn, 1) := by decide +kernel
set_option maxRecDepth 20000 in
theorem ggX12_why_X12_in : GoodIn wsX12_why wsX12_in := goodIn_r _ [6] (by decide +kernel) (by decide +kernel)
set_option maxRecDepth 20000 in
theorem gX12_why_X12_in : GoodIn wsX12_why (va_wsS RX12 78 yX12_in wsX12_in) := goodIn_app (goodIn_of _ (by decide +kernel)) ggX12_why_X12_in
set_option maxRecDepth 20000 in
theorem ggX12_why_X12_counts : GoodIn wsX12_why wsX12_counts := goodIn_r _ [10, 11, 12, 13, 14, 15, 16, 17, 18, 19, 20, 21, 22, 23, 24, 25, 26, 27, 28, 29, 30, 31, 32, 33, 34, 35, 36, 37, 38, 39, 40, 41, 42, 43, 44, 45, 46, 47, 48, 49] (by decide +kernel) (by decide +kernel)
set_option maxRecDepth 20000 in
theorem gX12_why_X12_counts : GoodIn wsX12_why (wsV RX12 199 RX12 yX12_counts wsX12_counts) := goodIn_app (goodIn_of _ (by decide +kernel)) ggX12_why_X12_counts
theorem dX12_why_0 : decode cX12_why 0 = .ok (.iload_n 1, 1) := by decide +kernel
theorem dX12_why_1 : decode cX12_why 1 = .ok (.i2l, 1) := by decide +kernel
theorem dX12_why_2 : decode cX12_why 2 = .ok (.lconst 0, 1) := by decide +kernel
theorem dX12_why_3 : decode cX12_why 3 = .ok (.ldc2_w 76, 3) := by decide +kernel
theorem dX12_why_6 : decode cX12_why 6 = .ok (.invokestatic 78, 3) := by decide +kernel
theorem dX12_why_9 : decode cX12_why 9 = .ok (.ifCond .eq 24, 3) := by decide +kernel
theorem dX12_why_12 : decode cX12_why 12 = .ok (.iload_n 2, 1) := by decide +kernel
theorem dX12_why_13 : decode cX12_why 13 = .ok (.i2l, 1) := by decide +kernel
theorem dX12_why_14 : decode cX12_why 14 = .ok (.lconst 0, 1) := by decide +kernel
theorem dX12_why_15 : decode cX12_why 15 = .ok (.ldc2_w 86, 3) := by decide +kernel
theorem dX12_why_18 : decode cX12_why 18 = .ok (.invokestatic 78, 3) := by decide +kernel
theorem dX12_why_21 : decode cX12_why 21 = .ok (.ifCond .eq 12, 3) := by decide +kernel
theorem dX12_why_24 : decode cX12_why 24 = .ok (.aload_n 0, 1) := by decide +kernel
theorem dX12_why_25 : decode cX12_why 25 = .ok (.iload_n 1, 1) := by decide +kernel
theorem dX12_why_26 : decode cX12_why 26 = .ok (.iload_n 2, 1) := by decide +kernel
theorem dX12_why_27 : decode cX12_why 27 = .ok (.invokevirtual 199, 3) := by decide +kernel
theorem dX12_why_30 : decode cX12_why 30 = .ok (.goto 6, 3) := by decide +kernel
theorem dX12_why_33 : decode cX12_why 33 = .ok (.sipush (-1001), 3) := by decide +kernel
theorem dX12_why_36 : decode cX12_why 36 = .ok (.ireturn, 1) := by decide +kernel
theorem dX12_has_0 : decode cX12_has 0 = .ok (.aload_n 0, 1) := by decide +kernel
theorem dX12_has_1 : decode cX12_has 1 = .ok (.getfield 22, 3) := by decide +kernel
theorem dX12_has_4 : decode cX12_has 4 = .ok (.iload_n 1, 1) := by decide +kernel
theorem dX12_has_5 : decode cX12_has 5 = .ok (.iaload, 1) := by decide +kernel
theorem dX12_has_6 : decode cX12_has 6 = .ok (.iload_n 2, 1) := by decide +kernel
theorem dX12_has_7 : decode cX12_has 7 = .ok (.iand, 1) := by decide +kernel
theorem dX12_has_8 : decode cX12_has 8 = .ok (.ifCond .eq 7, 3) := by decide +kernel
theorem dX12_has_11 : decode cX12_has 11 = .ok (.iconst 1, 1) := by decide +kernel
theorem dX12_has_12 : decode cX12_has 12 = .ok (.goto 4, 3) := by decide +kernel
theorem dX12_has_15 : decode cX12_has 15 = .ok (.iconst 0, 1) := by decide +kernel
theorem dX12_has_16 : decode cX12_has 16 = .ok (.ireturn, 1) := by decide +kernel
set_option maxRecDepth 20000 in
theorem ggX12_sounds_X12_time : GoodIn wsX12_sounds wsX12_time := goodIn_r _ [10, 11, 12, 13, 14, 15, 16, 17, 9, 18, 19, 20, 21, 22, 23, 24, 25, 26, 27, 28, 29, 30, 31, 32, 33, 34, 35, 36, 37, 38, 39, 40, 41, 42, 43, 44, 45, 46, 47, 48, 49, 50, 51, 52, 53] (by decide +kernel) (by decide +kernel)
set_option maxRecDepth 20000 in
theorem gX12_sounds_X12_time : GoodIn wsX12_sounds (wsV RX12 125 RX12 yX12_time wsX12_time) := goodIn_app (goodIn_of _ (by decide +kernel)) ggX12_sounds_X12_time
theorem dX12_sounds_0 : decode cX12_sounds 0 = .ok (.aload_n 0, 1) := by decide +kernel
theorem dX12_sounds_1 : decode cX12_sounds 1 = .ok (.getfield 209, 3) := by decide +kernel
theorem dX12_sounds_4 : decode cX12_sounds 4 = .ok (.sipush 400, 3) := by decide +kernel
theorem dX12_sounds_7 : decode cX12_sounds 7 = .ok (.if_icmp .ge 139, 3) := by decide +kernel
theorem dX12_sounds_10 : decode cX12_sounds 10 = .ok (.aload_n 0, 1) := by decide +kernel
theorem dX12_sounds_11 : decode cX12_sounds 11 = .ok (.aload_n 0, 1) := by decide +kernel
theorem dX12_sounds_12 : decode cX12_sounds 12 = .ok (.getfield 212, 3) := by decide +kernel
theorem dX12_sounds_15 : decode cX12_sounds 15 = .ok (.invokevirtual 125, 3) := by decide +kernel
theorem dX12_sounds_18 : decode cX12_sounds 18 = .ok (.istore 6, 2) := by decide +kernel
theorem dX12_sounds_20 : decode cX12_sounds 20 = .ok (.aload_n 0, 1) := by decide +kernel
theorem dX12_sounds_21 : decode cX12_sounds 21 = .ok (.aload_n 0, 1) := by decide +kernel
theorem dX12_sounds_22 : decode cX12_sounds 22 = .ok (.getfield 212, 3) := by decide +kernel
theorem dX12_sounds_25 : decode cX12_sounds 25 = .ok (.iload 5, 2) := by decide +kernel
theorem dX12_sounds_27 : decode cX12_sounds 27 = .ok (.iadd, 1) := by decide +kernel
theorem dX12_sounds_28 : decode cX12_sounds 28 = .ok (.invokevirtual 125, 3) := by decide +kernel
theorem dX12_sounds_31 : decode cX12_sounds 31 = .ok (.iload 6, 2) := by decide +kernel
theorem dX12_sounds_33 : decode cX12_sounds 33 = .ok (.isub, 1) := by decide +kernel
theorem dX12_sounds_34 : decode cX12_sounds 34 = .ok (.istore 7, 2) := by decide +kernel
theorem dX12_sounds_36 : decode cX12_sounds 36 = .ok (.aload_n 0, 1) := by decide +kernel
theorem dX12_sounds_37 : decode cX12_sounds 37 = .ok (.getfield 66, 3) := by decide +kernel
theorem dX12_sounds_40 : decode cX12_sounds 40 = .ok (.bipush 6, 2) := by decide +kernel
theorem dX12_sounds_42 : decode cX12_sounds 42 = .ok (.aload_n 0, 1) := by decide +kernel
theorem dX12_sounds_43 : decode cX12_sounds 43 = .ok (.getfield 209, 3) := by decide +kernel
theorem dX12_sounds_46 : decode cX12_sounds 46 = .ok (.imul, 1) := by decide +kernel
theorem dX12_sounds_47 : decode cX12_sounds 47 = .ok (.iconst 0, 1) := by decide +kernel
theorem dX12_sounds_48 : decode cX12_sounds 48 = .ok (.iadd, 1) := by decide +kernel
theorem dX12_sounds_49 : decode cX12_sounds 49 = .ok (.iload 6, 2) := by decide +kernel
theorem dX12_sounds_51 : decode cX12_sounds 51 = .ok (.iastore, 1) := by decide +kernel
theorem dX12_sounds_52 : decode cX12_sounds 52 = .ok (.aload_n 0, 1) := by decide +kernel
theorem dX12_sounds_53 : decode cX12_sounds 53 = .ok (.getfield 66, 3) := by decide +kernel
theorem dX12_sounds_56 : decode cX12_sounds 56 = .ok (.bipush 6, 2) := by decide +kernel
theorem dX12_sounds_58 : decode cX12_sounds 58 = .ok (.aload_n 0, 1) := by decide +kernel
theorem dX12_sounds_59 : decode cX12_sounds 59 = .ok (.getfield 209, 3) := by decide +kernel
theorem dX12_sounds_62 : decode cX12_sounds 62 = .ok (.imul, 1) := by decide +kernel
theorem dX12_sounds_63 : decode cX12_sounds 63 = .ok (.iconst 1, 1) := by decide +kernel
theorem dX12_sounds_64 : decode cX12_sounds 64 = .ok (.iadd, 1) := by decide +kernel
theorem dX12_sounds_65 : decode cX12_sounds 65 = .ok (.iload 7, 2) := by decide +kernel
theorem dX12_sounds_67 : decode cX12_sounds 67 = .ok (.iconst 1, 1) := by decide +kernel
theorem dX12_sounds_68 : decode cX12_sounds 68 = .ok (.if_icmp .ge 7, 3) := by decide +kernel
theorem dX12_sounds_71 : decode cX12_sounds 71 = .ok (.iconst 1, 1) := by decide +kernel
theorem dX12_sounds_72 : decode cX12_sounds 72 = .ok (.goto 5, 3) := by decide +kernel
theorem dX12_sounds_75 : decode cX12_sounds 75 = .ok (.iload 7, 2) := by decide +kernel
theorem dX12_sounds_77 : decode cX12_sounds 77 = .ok (.iastore, 1) := by decide +kernel
theorem dX12_sounds_78 : decode cX12_sounds 78 = .ok (.aload_n 0, 1) := by decide +kernel
theorem dX12_sounds_79 : decode cX12_sounds 79 = .ok (.getfield 66, 3) := by decide +kernel
theorem dX12_sounds_82 : decode cX12_sounds 82 = .ok (.bipush 6, 2) := by decide +kernel
theorem dX12_sounds_84 : decode cX12_sounds 84 = .ok (.aload_n 0, 1) := by decide +kernel
theorem dX12_sounds_85 : decode cX12_sounds 85 = .ok (.getfield 209, 3) := by decide +kernel
theorem dX12_sounds_88 : decode cX12_sounds 88 = .ok (.imul, 1) := by decide +kernel
theorem dX12_sounds_89 : decode cX12_sounds 89 = .ok (.iconst 2, 1) := by decide +kernel
theorem dX12_sounds_90 : decode cX12_sounds 90 = .ok (.iadd, 1) := by decide +kernel
theorem dX12_sounds_91 : decode cX12_sounds 91 = .ok (.aload_n 0, 1) := by decide +kernel
theorem dX12_sounds_92 : decode cX12_sounds 92 = .ok (.getfield 19, 3) := by decide +kernel
theorem dX12_sounds_95 : decode cX12_sounds 95 = .ok (.iload_n 1, 1) := by decide +kernel
theorem dX12_sounds_96 : decode cX12_sounds 96 = .ok (.iaload, 1) := by decide +kernel
theorem dX12_sounds_97 : decode cX12_sounds 97 = .ok (.iload_n 3, 1) := by decide +kernel
theorem dX12_sounds_98 : decode cX12_sounds 98 = .ok (.iadd, 1) := by decide +kernel
theorem dX12_sounds_99 : decode cX12_sounds 99 = .ok (.iastore, 1) := by decide +kernel
theorem dX12_sounds_100 : decode cX12_sounds 100 = .ok (.aload_n 0, 1) := by decide +kernel
theorem dX12_sounds_101 : decode cX12_sounds 101 = .ok (.getfield 66, 3) := by decide +kernel
theorem dX12_sounds_104 : decode cX12_sounds 104 = .ok (.bipush 6, 2) := by decide +kernel
theorem dX12_sounds_106 : decode cX12_sounds 106 = .ok (.aload_n 0, 1) := by decide +kernel
theorem dX12_sounds_107 : decode cX12_sounds 107 = .ok (.getfield 209, 3) := by decide +kernel
theorem dX12_sounds_110 : decode cX12_sounds 110 = .ok (.imul, 1) := by decide +kernel
theorem dX12_sounds_111 : decode cX12_sounds 111 = .ok (.iconst 3, 1) := by decide +kernel
theorem dX12_sounds_112 : decode cX12_sounds 112 = .ok (.iadd, 1) := by decide +kernel
theorem dX12_sounds_113 : decode cX12_sounds 113 = .ok (.iload 4, 2) := by decide +kernel
theorem dX12_sounds_115 : decode cX12_sounds 115 = .ok (.iastore, 1) := by decide +kernel
theorem dX12_sounds_116 : decode cX12_sounds 116 = .ok (.aload_n 0, 1) := by decide +kernel
theorem dX12_sounds_117 : decode cX12_sounds 117 = .ok (.getfield 66, 3) := by decide +kernel
theorem dX12_sounds_120 : decode cX12_sounds 120 = .ok (.bipush 6, 2) := by decide +kernel
theorem dX12_sounds_122 : decode cX12_sounds 122 = .ok (.aload_n 0, 1) := by decide +kernel
theorem dX12_sounds_123 : decode cX12_sounds 123 = .ok (.getfield 209, 3) := by decide +kernel
theorem dX12_sounds_126 : decode cX12_sounds 126 = .ok (.imul, 1) := by decide +kernel
theorem dX12_sounds_127 : decode cX12_sounds 127 = .ok (.iconst 4, 1) := by decide +kernel
theorem dX12_sounds_128 : decode cX12_sounds 128 = .ok (.iadd, 1) := by decide +kernel
theorem dX12_sounds_129 : decode cX12_sounds 129 = .ok (.iload_n 1, 1) := by decide +kernel
theorem dX12_sounds_130 : decode cX12_sounds 130 = .ok (.iastore, 1) := by decide +kernel
theorem dX12_sounds_131 : decode cX12_sounds 131 = .ok (.aload_n 0, 1) := by decide +kernel
theorem dX12_sounds_132 : decode cX12_sounds 132 = .ok (.getfield 66, 3) := by decide +kernel
theorem dX12_sounds_135 : decode cX12_sounds 135 = .ok (.bipush 6, 2) := by decide +kernel
theorem dX12_sounds_137 : decode cX12_sounds 137 = .ok (.aload_n 0, 1) := by decide +kernel
theorem dX12_sounds_138 : decode cX12_sounds 138 = .ok (.getfield 209, 3) := by decide +kernel
theorem dX12_sounds_141 : decode cX12_sounds 141 = .ok (.imul, 1) := by decide +kernel
theorem dX12_sounds_142 : decode cX12_sounds 142 = .ok (.iconst 5, 1) := by decide +kernel
theorem dX12_sounds_143 : decode cX12_sounds 143 = .ok (.iadd, 1) := by decide +kernel
theorem dX12_sounds_144 : decode cX12_sounds 144 = .ok (.iload_n 2, 1) := by decide +kernel
theorem dX12_sounds_145 : decode cX12_sounds 145 = .ok (.iastore, 1) := by decide +kernel
theorem dX12_sounds_146 : decode cX12_sounds 146 = .ok (.aload_n 0, 1) := by decide +kernel
theorem dX12_sounds_147 : decode cX12_sounds 147 = .ok (.dup, 1) := by decide +kernel
theorem dX12_sounds_148 : decode cX12_sounds 148 = .ok (.getfield 209, 3) := by decide +kernel
theorem dX12_sounds_151 : decode cX12_sounds 151 = .ok (.iconst 1, 1) := by decide +kernel
theorem dX12_sounds_152 : decode cX12_sounds 152 = .ok (.iadd, 1) := by decide +kernel
theorem dX12_sounds_153 : decode cX12_sounds 153 = .ok (.putfield 209, 3) := by decide +kernel
theorem dX12_sounds_156 : decode cX12_sounds 156 = .ok (.aload_n 0, 1) := by decide +kernel
theorem dX12_sounds_157 : decode cX12_sounds 157 = .ok (.dup, 1) := by decide +kernel
theorem dX12_sounds_158 : decode cX12_sounds 158 = .ok (.getfield 212, 3) := by decide +kernel
theorem dX12_sounds_161 : decode cX12_sounds 161 = .ok (.iload 5, 2) := by decide +kernel
theorem dX12_sounds_163 : decode cX12_sounds 163 = .ok (.iadd, 1) := by decide +kernel
theorem dX12_sounds_164 : decode cX12_sounds 164 = .ok (.putfield 212, 3) := by decide +kernel
theorem dX12_sounds_167 : decode cX12_sounds 167 = .ok (.aload_n 0, 1) := by decide +kernel
theorem dX12_sounds_168 : decode cX12_sounds 168 = .ok (.dup, 1) := by decide +kernel
theorem dX12_sounds_169 : decode cX12_sounds 169 = .ok (.getfield 215, 3) := by decide +kernel
theorem dX12_sounds_172 : decode cX12_sounds 172 = .ok (.iload 5, 2) := by decide +kernel
theorem dX12_sounds_174 : decode cX12_sounds 174 = .ok (.isub, 1) := by decide +kernel
theorem dX12_sounds_175 : decode cX12_sounds 175 = .ok (.putfield 215, 3) := by decide +kernel
theorem dX12_sounds_178 : decode cX12_sounds 178 = .ok (.return_, 1) := by decide +kernel
set_option maxRecDepth 20000 in
theorem ggX12_longOf_X12_has : GoodIn wsX12_longOf wsX12_has := goodIn_r _ [7, 8, 28, 29, 30, 31, 32, 33, 34, 35, 36, 37, 38, 39, 40, 41, 42, 43, 44, 45, 46, 47, 48, 49, 50, 51, 52, 53, 54, 55, 56, 57, 58, 59, 60, 61, 62] (by decide +kernel) (by decide +kernel)
set_option maxRecDepth 20000 in
theorem gX12_longOf_X12_has : GoodIn wsX12_longOf (wsV RX12 218 RX12 yX12_has wsX12_has) := goodIn_app (goodIn_of _ (by decide +kernel)) ggX12_longOf_X12_has
set_option maxRecDepth 20000 in
theorem ggX12_longOf_X12_number : GoodIn wsX12_longOf wsX12_number := goodIn_r _ [12, 13, 14, 15, 16, 6, 17, 18, 19, 20, 21, 22, 23, 24, 28, 29, 30, 31, 32, 33, 34, 35, 36, 37, 38, 39, 40, 41, 42, 43, 44, 45, 46, 47, 48, 49, 50, 51, 52, 53, 54, 55, 56, 57, 58, 59, 60, 61, 62] (by decide +kernel) (by decide +kernel)
set_option maxRecDepth 20000 in
theorem gX12_longOf_X12_number : GoodIn wsX12_longOf (wsV RX12 206 RX12 yX12_number wsX12_number) := goodIn_app (goodIn_of _ (by decide +kernel)) ggX12_longOf_X12_number
set_option maxRecDepth 20000 in
theorem ggX12_longOf_X12_lesser : GoodIn wsX12_longOf wsX12_lesser := goodIn_r _ [27] (by decide +kernel) (by decide +kernel)
set_option maxRecDepth 20000 in
theorem gX12_longOf_X12_lesser : GoodIn wsX12_longOf (va_wsS RX12 221 yX12_lesser wsX12_lesser) := goodIn_app (goodIn_of _ (by decide +kernel)) ggX12_longOf_X12_lesser
theorem dX12_longOf_0 : decode cX12_longOf 0 = .ok (.aload_n 0, 1) := by decide +kernel
theorem dX12_longOf_1 : decode cX12_longOf 1 = .ok (.aload_n 0, 1) := by decide +kernel
theorem dX12_longOf_2 : decode cX12_longOf 2 = .ok (.getfield 7, 3) := by decide +kernel
theorem dX12_longOf_5 : decode cX12_longOf 5 = .ok (.iload_n 1, 1) := by decide +kernel
theorem dX12_longOf_6 : decode cX12_longOf 6 = .ok (.iaload, 1) := by decide +kernel
theorem dX12_longOf_7 : decode cX12_longOf 7 = .ok (.aload_n 0, 1) := by decide +kernel
theorem dX12_longOf_8 : decode cX12_longOf 8 = .ok (.iload_n 1, 1) := by decide +kernel
theorem dX12_longOf_9 : decode cX12_longOf 9 = .ok (.iconst 1, 1) := by decide +kernel
theorem dX12_longOf_10 : decode cX12_longOf 10 = .ok (.invokevirtual 218, 3) := by decide +kernel
theorem dX12_longOf_13 : decode cX12_longOf 13 = .ok (.ifCond .eq 7, 3) := by decide +kernel
theorem dX12_longOf_16 : decode cX12_longOf 16 = .ok (.iconst 0, 1) := by decide +kernel
theorem dX12_longOf_17 : decode cX12_longOf 17 = .ok (.goto 17, 3) := by decide +kernel
theorem dX12_longOf_20 : decode cX12_longOf 20 = .ok (.aload_n 0, 1) := by decide +kernel
theorem dX12_longOf_21 : decode cX12_longOf 21 = .ok (.iload_n 1, 1) := by decide +kernel
theorem dX12_longOf_22 : decode cX12_longOf 22 = .ok (.iconst 2, 1) := by decide +kernel
theorem dX12_longOf_23 : decode cX12_longOf 23 = .ok (.invokevirtual 218, 3) := by decide +kernel
theorem dX12_longOf_26 : decode cX12_longOf 26 = .ok (.ifCond .eq 7, 3) := by decide +kernel
theorem dX12_longOf_29 : decode cX12_longOf 29 = .ok (.iconst 2, 1) := by decide +kernel
theorem dX12_longOf_30 : decode cX12_longOf 30 = .ok (.goto 4, 3) := by decide +kernel
theorem dX12_longOf_33 : decode cX12_longOf 33 = .ok (.iconst 1, 1) := by decide +kernel
theorem dX12_longOf_34 : decode cX12_longOf 34 = .ok (.invokevirtual 206, 3) := by decide +kernel
theorem dX12_longOf_37 : decode cX12_longOf 37 = .ok (.istore_n 2, 1) := by decide +kernel
theorem dX12_longOf_38 : decode cX12_longOf 38 = .ok (.aload_n 0, 1) := by decide +kernel
theorem dX12_longOf_39 : decode cX12_longOf 39 = .ok (.getfield 16, 3) := by decide +kernel
theorem dX12_longOf_42 : decode cX12_longOf 42 = .ok (.iload_n 1, 1) := by decide +kernel
theorem dX12_longOf_43 : decode cX12_longOf 43 = .ok (.iaload, 1) := by decide +kernel
theorem dX12_longOf_44 : decode cX12_longOf 44 = .ok (.iload_n 2, 1) := by decide +kernel
theorem dX12_longOf_45 : decode cX12_longOf 45 = .ok (.imul, 1) := by decide +kernel
theorem dX12_longOf_46 : decode cX12_longOf 46 = .ok (.bipush 100, 2) := by decide +kernel
theorem dX12_longOf_48 : decode cX12_longOf 48 = .ok (.idiv, 1) := by decide +kernel
theorem dX12_longOf_49 : decode cX12_longOf 49 = .ok (.istore_n 3, 1) := by decide +kernel
theorem dX12_longOf_50 : decode cX12_longOf 50 = .ok (.aload_n 0, 1) := by decide +kernel
theorem dX12_longOf_51 : decode cX12_longOf 51 = .ok (.aload_n 0, 1) := by decide +kernel
theorem dX12_longOf_52 : decode cX12_longOf 52 = .ok (.getfield 7, 3) := by decide +kernel
theorem dX12_longOf_55 : decode cX12_longOf 55 = .ok (.iload_n 1, 1) := by decide +kernel
theorem dX12_longOf_56 : decode cX12_longOf 56 = .ok (.iaload, 1) := by decide +kernel
theorem dX12_longOf_57 : decode cX12_longOf 57 = .ok (.iconst 3, 1) := by decide +kernel
theorem dX12_longOf_58 : decode cX12_longOf 58 = .ok (.invokevirtual 206, 3) := by decide +kernel
theorem dX12_longOf_61 : decode cX12_longOf 61 = .ok (.aload_n 0, 1) := by decide +kernel
theorem dX12_longOf_62 : decode cX12_longOf 62 = .ok (.getfield 16, 3) := by decide +kernel
theorem dX12_longOf_65 : decode cX12_longOf 65 = .ok (.iload_n 1, 1) := by decide +kernel
theorem dX12_longOf_66 : decode cX12_longOf 66 = .ok (.iaload, 1) := by decide +kernel
theorem dX12_longOf_67 : decode cX12_longOf 67 = .ok (.invokestatic 221, 3) := by decide +kernel
theorem dX12_longOf_70 : decode cX12_longOf 70 = .ok (.istore 4, 2) := by decide +kernel
theorem dX12_longOf_72 : decode cX12_longOf 72 = .ok (.iload_n 3, 1) := by decide +kernel
theorem dX12_longOf_73 : decode cX12_longOf 73 = .ok (.iload 4, 2) := by decide +kernel
theorem dX12_longOf_75 : decode cX12_longOf 75 = .ok (.if_icmp .ge 8, 3) := by decide +kernel
theorem dX12_longOf_78 : decode cX12_longOf 78 = .ok (.iload 4, 2) := by decide +kernel
theorem dX12_longOf_80 : decode cX12_longOf 80 = .ok (.goto 4, 3) := by decide +kernel
theorem dX12_longOf_83 : decode cX12_longOf 83 = .ok (.iload_n 3, 1) := by decide +kernel
theorem dX12_longOf_84 : decode cX12_longOf 84 = .ok (.ireturn, 1) := by decide +kernel
set_option maxRecDepth 20000 in
theorem ggX12_loudOf_X12_highAt : GoodIn wsX12_loudOf wsX12_highAt := goodIn_r _ [9, 10, 11, 12, 13, 14, 15, 8, 16, 17, 18, 19, 20, 45, 46, 47, 48, 49, 50, 51, 52, 53, 54, 55, 56, 57, 58, 59, 60, 61, 62, 63, 64, 65, 66, 67, 68, 69, 70, 71, 72, 73, 74, 75, 76, 77, 78, 79] (by decide +kernel) (by decide +kernel)
set_option maxRecDepth 20000 in
theorem gX12_loudOf_X12_highAt : GoodIn wsX12_loudOf (wsV RX12 119 RX12 yX12_highAt wsX12_highAt) := goodIn_app (goodIn_of _ (by decide +kernel)) ggX12_loudOf_X12_highAt
set_option maxRecDepth 20000 in
theorem ggX12_loudOf_X12_has : GoodIn wsX12_loudOf wsX12_has := goodIn_r _ [24, 25, 45, 46, 47, 48, 49, 50, 51, 52, 53, 54, 55, 56, 57, 58, 59, 60, 61, 62, 63, 64, 65, 66, 67, 68, 69, 70, 71, 72, 73, 74, 75, 76, 77, 78, 79] (by decide +kernel) (by decide +kernel)
set_option maxRecDepth 20000 in
theorem gX12_loudOf_X12_has : GoodIn wsX12_loudOf (wsV RX12 218 RX12 yX12_has wsX12_has) := goodIn_app (goodIn_of _ (by decide +kernel)) ggX12_loudOf_X12_has
set_option maxRecDepth 20000 in
theorem ggX12_loudOf_X12_number : GoodIn wsX12_loudOf wsX12_number := goodIn_r _ [29, 30, 31, 32, 33, 8, 34, 35, 36, 37, 38, 39, 40, 41, 45, 46, 47, 48, 49, 50, 51, 52, 53, 54, 55, 56, 57, 58, 59, 60, 61, 62, 63, 64, 65, 66, 67, 68, 69, 70, 71, 72, 73, 74, 75, 76, 77, 78, 79] (by decide +kernel) (by decide +kernel)
set_option maxRecDepth 20000 in
theorem gX12_loudOf_X12_number : GoodIn wsX12_loudOf (wsV RX12 206 RX12 yX12_number wsX12_number) := goodIn_app (goodIn_of _ (by decide +kernel)) ggX12_loudOf_X12_number
set_option maxRecDepth 20000 in
theorem ggX12_loudOf_X12_lesser : GoodIn wsX12_loudOf wsX12_lesser := goodIn_r _ [44] (by decide +kernel) (by decide +kernel)
set_option maxRecDepth 20000 in
theorem gX12_loudOf_X12_lesser : GoodIn wsX12_loudOf (va_wsS RX12 221 yX12_lesser wsX12_lesser) := goodIn_app (goodIn_of _ (by decide +kernel)) ggX12_loudOf_X12_lesser
theorem dX12_loudOf_0 : decode cX12_loudOf 0 = .ok (.aload_n 0, 1) := by decide +kernel
theorem dX12_loudOf_1 : decode cX12_loudOf 1 = .ok (.aload_n 0, 1) := by decide +kernel
theorem dX12_loudOf_2 : decode cX12_loudOf 2 = .ok (.getfield 13, 3) := by decide +kernel
theorem dX12_loudOf_5 : decode cX12_loudOf 5 = .ok (.iload_n 1, 1) := by decide +kernel
theorem dX12_loudOf_6 : decode cX12_loudOf 6 = .ok (.iaload, 1) := by decide +kernel
theorem dX12_loudOf_7 : decode cX12_loudOf 7 = .ok (.invokevirtual 119, 3) := by decide +kernel
theorem dX12_loudOf_10 : decode cX12_loudOf 10 = .ok (.istore_n 2, 1) := by decide +kernel
theorem dX12_loudOf_11 : decode cX12_loudOf 11 = .ok (.iload_n 2, 1) := by decide +kernel
theorem dX12_loudOf_12 : decode cX12_loudOf 12 = .ok (.aload_n 0, 1) := by decide +kernel
theorem dX12_loudOf_13 : decode cX12_loudOf 13 = .ok (.iload_n 1, 1) := by decide +kernel
theorem dX12_loudOf_14 : decode cX12_loudOf 14 = .ok (.iconst 4, 1) := by decide +kernel
theorem dX12_loudOf_15 : decode cX12_loudOf 15 = .ok (.invokevirtual 218, 3) := by decide +kernel
theorem dX12_loudOf_18 : decode cX12_loudOf 18 = .ok (.ifCond .eq 17, 3) := by decide +kernel
theorem dX12_loudOf_21 : decode cX12_loudOf 21 = .ok (.aload_n 0, 1) := by decide +kernel
theorem dX12_loudOf_22 : decode cX12_loudOf 22 = .ok (.aload_n 0, 1) := by decide +kernel
theorem dX12_loudOf_23 : decode cX12_loudOf 23 = .ok (.getfield 7, 3) := by decide +kernel
theorem dX12_loudOf_26 : decode cX12_loudOf 26 = .ok (.iload_n 1, 1) := by decide +kernel
theorem dX12_loudOf_27 : decode cX12_loudOf 27 = .ok (.iaload, 1) := by decide +kernel
theorem dX12_loudOf_28 : decode cX12_loudOf 28 = .ok (.iconst 4, 1) := by decide +kernel
theorem dX12_loudOf_29 : decode cX12_loudOf 29 = .ok (.invokevirtual 206, 3) := by decide +kernel
theorem dX12_loudOf_32 : decode cX12_loudOf 32 = .ok (.goto 4, 3) := by decide +kernel
theorem dX12_loudOf_35 : decode cX12_loudOf 35 = .ok (.iconst 0, 1) := by decide +kernel
theorem dX12_loudOf_36 : decode cX12_loudOf 36 = .ok (.iadd, 1) := by decide +kernel
theorem dX12_loudOf_37 : decode cX12_loudOf 37 = .ok (.istore_n 2, 1) := by decide +kernel
theorem dX12_loudOf_38 : decode cX12_loudOf 38 = .ok (.iload_n 2, 1) := by decide +kernel
theorem dX12_loudOf_39 : decode cX12_loudOf 39 = .ok (.aload_n 0, 1) := by decide +kernel
theorem dX12_loudOf_40 : decode cX12_loudOf 40 = .ok (.getfield 13, 3) := by decide +kernel
theorem dX12_loudOf_43 : decode cX12_loudOf 43 = .ok (.iload_n 1, 1) := by decide +kernel
theorem dX12_loudOf_44 : decode cX12_loudOf 44 = .ok (.iaload, 1) := by decide +kernel
theorem dX12_loudOf_45 : decode cX12_loudOf 45 = .ok (.aload_n 0, 1) := by decide +kernel
theorem dX12_loudOf_46 : decode cX12_loudOf 46 = .ok (.getfield 35, 3) := by decide +kernel
theorem dX12_loudOf_49 : decode cX12_loudOf 49 = .ok (.aload_n 0, 1) := by decide +kernel
theorem dX12_loudOf_50 : decode cX12_loudOf 50 = .ok (.getfield 39, 3) := by decide +kernel
theorem dX12_loudOf_53 : decode cX12_loudOf 53 = .ok (.imul, 1) := by decide +kernel
theorem dX12_loudOf_54 : decode cX12_loudOf 54 = .ok (.irem, 1) := by decide +kernel
theorem dX12_loudOf_55 : decode cX12_loudOf 55 = .ok (.ifCond .ne 17, 3) := by decide +kernel
theorem dX12_loudOf_58 : decode cX12_loudOf 58 = .ok (.aload_n 0, 1) := by decide +kernel
theorem dX12_loudOf_59 : decode cX12_loudOf 59 = .ok (.aload_n 0, 1) := by decide +kernel
theorem dX12_loudOf_60 : decode cX12_loudOf 60 = .ok (.getfield 7, 3) := by decide +kernel
theorem dX12_loudOf_63 : decode cX12_loudOf 63 = .ok (.iload_n 1, 1) := by decide +kernel
theorem dX12_loudOf_64 : decode cX12_loudOf 64 = .ok (.iaload, 1) := by decide +kernel
theorem dX12_loudOf_65 : decode cX12_loudOf 65 = .ok (.iconst 5, 1) := by decide +kernel
theorem dX12_loudOf_66 : decode cX12_loudOf 66 = .ok (.invokevirtual 206, 3) := by decide +kernel
theorem dX12_loudOf_69 : decode cX12_loudOf 69 = .ok (.goto 33, 3) := by decide +kernel
theorem dX12_loudOf_72 : decode cX12_loudOf 72 = .ok (.aload_n 0, 1) := by decide +kernel
theorem dX12_loudOf_73 : decode cX12_loudOf 73 = .ok (.getfield 13, 3) := by decide +kernel
theorem dX12_loudOf_76 : decode cX12_loudOf 76 = .ok (.iload_n 1, 1) := by decide +kernel
theorem dX12_loudOf_77 : decode cX12_loudOf 77 = .ok (.iaload, 1) := by decide +kernel
theorem dX12_loudOf_78 : decode cX12_loudOf 78 = .ok (.aload_n 0, 1) := by decide +kernel
theorem dX12_loudOf_79 : decode cX12_loudOf 79 = .ok (.getfield 39, 3) := by decide +kernel
theorem dX12_loudOf_82 : decode cX12_loudOf 82 = .ok (.irem, 1) := by decide +kernel
theorem dX12_loudOf_83 : decode cX12_loudOf 83 = .ok (.ifCond .ne 18, 3) := by decide +kernel
theorem dX12_loudOf_86 : decode cX12_loudOf 86 = .ok (.aload_n 0, 1) := by decide +kernel
theorem dX12_loudOf_87 : decode cX12_loudOf 87 = .ok (.aload_n 0, 1) := by decide +kernel
theorem dX12_loudOf_88 : decode cX12_loudOf 88 = .ok (.getfield 7, 3) := by decide +kernel
theorem dX12_loudOf_91 : decode cX12_loudOf 91 = .ok (.iload_n 1, 1) := by decide +kernel
theorem dX12_loudOf_92 : decode cX12_loudOf 92 = .ok (.iaload, 1) := by decide +kernel
theorem dX12_loudOf_93 : decode cX12_loudOf 93 = .ok (.bipush 6, 2) := by decide +kernel
theorem dX12_loudOf_95 : decode cX12_loudOf 95 = .ok (.invokevirtual 206, 3) := by decide +kernel
theorem dX12_loudOf_98 : decode cX12_loudOf 98 = .ok (.goto 4, 3) := by decide +kernel
theorem dX12_loudOf_101 : decode cX12_loudOf 101 = .ok (.iconst 0, 1) := by decide +kernel
theorem dX12_loudOf_102 : decode cX12_loudOf 102 = .ok (.iadd, 1) := by decide +kernel
theorem dX12_loudOf_103 : decode cX12_loudOf 103 = .ok (.istore_n 2, 1) := by decide +kernel
theorem dX12_loudOf_104 : decode cX12_loudOf 104 = .ok (.iload_n 2, 1) := by decide +kernel
theorem dX12_loudOf_105 : decode cX12_loudOf 105 = .ok (.iconst 1, 1) := by decide +kernel
theorem dX12_loudOf_106 : decode cX12_loudOf 106 = .ok (.if_icmp .ge 7, 3) := by decide +kernel
theorem dX12_loudOf_109 : decode cX12_loudOf 109 = .ok (.iconst 1, 1) := by decide +kernel
theorem dX12_loudOf_110 : decode cX12_loudOf 110 = .ok (.goto 9, 3) := by decide +kernel
theorem dX12_loudOf_113 : decode cX12_loudOf 113 = .ok (.iload_n 2, 1) := by decide +kernel
theorem dX12_loudOf_114 : decode cX12_loudOf 114 = .ok (.bipush 127, 2) := by decide +kernel
theorem dX12_loudOf_116 : decode cX12_loudOf 116 = .ok (.invokestatic 221, 3) := by decide +kernel
theorem dX12_loudOf_119 : decode cX12_loudOf 119 = .ok (.ireturn, 1) := by decide +kernel
set_option maxRecDepth 20000 in
theorem ggX12_onOf_X12_number : GoodIn wsX12_onOf wsX12_number := goodIn_r _ [11, 12, 13, 14, 15, 10, 16, 17, 18, 19, 20, 21, 22, 23, 24, 25, 26, 27, 28, 29, 30, 31, 32, 33, 34, 35, 36, 37, 38, 39, 40, 41, 42, 43, 44, 45, 46, 47, 48, 49, 50, 51, 52, 53, 54, 55, 56, 57, 58] (by decide +kernel) (by decide +kernel)
set_option maxRecDepth 20000 in
theorem gX12_onOf_X12_number : GoodIn wsX12_onOf (wsV RX12 206 RX12 yX12_number wsX12_number) := goodIn_app (goodIn_of _ (by decide +kernel)) ggX12_onOf_X12_number
theorem dX12_onOf_0 : decode cX12_onOf 0 = .ok (.aload_n 0, 1) := by decide +kernel
theorem dX12_onOf_1 : decode cX12_onOf 1 = .ok (.aload_n 0, 1) := by decide +kernel
theorem dX12_onOf_2 : decode cX12_onOf 2 = .ok (.getfield 7, 3) := by decide +kernel
theorem dX12_onOf_5 : decode cX12_onOf 5 = .ok (.iload_n 1, 1) := by decide +kernel
theorem dX12_onOf_6 : decode cX12_onOf 6 = .ok (.iaload, 1) := by decide +kernel
theorem dX12_onOf_7 : decode cX12_onOf 7 = .ok (.bipush 12, 2) := by decide +kernel
theorem dX12_onOf_9 : decode cX12_onOf 9 = .ok (.invokevirtual 206, 3) := by decide +kernel
theorem dX12_onOf_12 : decode cX12_onOf 12 = .ok (.istore_n 2, 1) := by decide +kernel
theorem dX12_onOf_13 : decode cX12_onOf 13 = .ok (.iload_n 2, 1) := by decide +kernel
theorem dX12_onOf_14 : decode cX12_onOf 14 = .ok (.ifCond .ne 10, 3) := by decide +kernel
theorem dX12_onOf_17 : decode cX12_onOf 17 = .ok (.aload_n 0, 1) := by decide +kernel
theorem dX12_onOf_18 : decode cX12_onOf 18 = .ok (.getfield 13, 3) := by decide +kernel
theorem dX12_onOf_21 : decode cX12_onOf 21 = .ok (.iload_n 1, 1) := by decide +kernel
theorem dX12_onOf_22 : decode cX12_onOf 22 = .ok (.iaload, 1) := by decide +kernel
theorem dX12_onOf_23 : decode cX12_onOf 23 = .ok (.ireturn, 1) := by decide +kernel
theorem dX12_onOf_24 : decode cX12_onOf 24 = .ok (.aload_n 0, 1) := by decide +kernel
theorem dX12_onOf_25 : decode cX12_onOf 25 = .ok (.getfield 72, 3) := by decide +kernel
theorem dX12_onOf_28 : decode cX12_onOf 28 = .ok (.iload_n 1, 1) := by decide +kernel
theorem dX12_onOf_29 : decode cX12_onOf 29 = .ok (.i2l, 1) := by decide +kernel
theorem dX12_onOf_30 : decode cX12_onOf 30 = .ok (.lconst 1, 1) := by decide +kernel
theorem dX12_onOf_31 : decode cX12_onOf 31 = .ok (.ladd, 1) := by decide +kernel
theorem dX12_onOf_32 : decode cX12_onOf 32 = .ok (.ldc2_w 224, 3) := by decide +kernel
theorem dX12_onOf_35 : decode cX12_onOf 35 = .ok (.lmul, 1) := by decide +kernel
theorem dX12_onOf_36 : decode cX12_onOf 36 = .ok (.ladd, 1) := by decide +kernel
theorem dX12_onOf_37 : decode cX12_onOf 37 = .ok (.lstore_n 3, 1) := by decide +kernel
theorem dX12_onOf_38 : decode cX12_onOf 38 = .ok (.lload_n 3, 1) := by decide +kernel
theorem dX12_onOf_39 : decode cX12_onOf 39 = .ok (.lload_n 3, 1) := by decide +kernel
theorem dX12_onOf_40 : decode cX12_onOf 40 = .ok (.bipush 30, 2) := by decide +kernel
theorem dX12_onOf_42 : decode cX12_onOf 42 = .ok (.lushr, 1) := by decide +kernel
theorem dX12_onOf_43 : decode cX12_onOf 43 = .ok (.lxor, 1) := by decide +kernel
theorem dX12_onOf_44 : decode cX12_onOf 44 = .ok (.ldc2_w 226, 3) := by decide +kernel
theorem dX12_onOf_47 : decode cX12_onOf 47 = .ok (.lmul, 1) := by decide +kernel
theorem dX12_onOf_48 : decode cX12_onOf 48 = .ok (.lstore_n 3, 1) := by decide +kernel
theorem dX12_onOf_49 : decode cX12_onOf 49 = .ok (.lload_n 3, 1) := by decide +kernel
theorem dX12_onOf_50 : decode cX12_onOf 50 = .ok (.lload_n 3, 1) := by decide +kernel
theorem dX12_onOf_51 : decode cX12_onOf 51 = .ok (.bipush 27, 2) := by decide +kernel
theorem dX12_onOf_53 : decode cX12_onOf 53 = .ok (.lushr, 1) := by decide +kernel
theorem dX12_onOf_54 : decode cX12_onOf 54 = .ok (.lxor, 1) := by decide +kernel
theorem dX12_onOf_55 : decode cX12_onOf 55 = .ok (.lstore_n 3, 1) := by decide +kernel
theorem dX12_onOf_56 : decode cX12_onOf 56 = .ok (.aload_n 0, 1) := by decide +kernel
theorem dX12_onOf_57 : decode cX12_onOf 57 = .ok (.getfield 13, 3) := by decide +kernel
theorem dX12_onOf_60 : decode cX12_onOf 60 = .ok (.iload_n 1, 1) := by decide +kernel
theorem dX12_onOf_61 : decode cX12_onOf 61 = .ok (.iaload, 1) := by decide +kernel
theorem dX12_onOf_62 : decode cX12_onOf 62 = .ok (.lload_n 3, 1) := by decide +kernel
theorem dX12_onOf_63 : decode cX12_onOf 63 = .ok (.bipush 33, 2) := by decide +kernel
theorem dX12_onOf_65 : decode cX12_onOf 65 = .ok (.lushr, 1) := by decide +kernel
theorem dX12_onOf_66 : decode cX12_onOf 66 = .ok (.ldc2_w 228, 3) := by decide +kernel
theorem dX12_onOf_69 : decode cX12_onOf 69 = .ok (.iload_n 2, 1) := by decide +kernel
theorem dX12_onOf_70 : decode cX12_onOf 70 = .ok (.i2l, 1) := by decide +kernel
theorem dX12_onOf_71 : decode cX12_onOf 71 = .ok (.lmul, 1) := by decide +kernel
theorem dX12_onOf_72 : decode cX12_onOf 72 = .ok (.lconst 1, 1) := by decide +kernel
theorem dX12_onOf_73 : decode cX12_onOf 73 = .ok (.ladd, 1) := by decide +kernel
theorem dX12_onOf_74 : decode cX12_onOf 74 = .ok (.lrem, 1) := by decide +kernel
theorem dX12_onOf_75 : decode cX12_onOf 75 = .ok (.l2i, 1) := by decide +kernel
theorem dX12_onOf_76 : decode cX12_onOf 76 = .ok (.iadd, 1) := by decide +kernel
theorem dX12_onOf_77 : decode cX12_onOf 77 = .ok (.iload_n 2, 1) := by decide +kernel
theorem dX12_onOf_78 : decode cX12_onOf 78 = .ok (.isub, 1) := by decide +kernel
theorem dX12_onOf_79 : decode cX12_onOf 79 = .ok (.istore 5, 2) := by decide +kernel
theorem dX12_onOf_81 : decode cX12_onOf 81 = .ok (.iload 5, 2) := by decide +kernel
theorem dX12_onOf_83 : decode cX12_onOf 83 = .ok (.ifCond .ge 7, 3) := by decide +kernel
theorem dX12_onOf_86 : decode cX12_onOf 86 = .ok (.iconst 0, 1) := by decide +kernel
theorem dX12_onOf_87 : decode cX12_onOf 87 = .ok (.goto 5, 3) := by decide +kernel
theorem dX12_onOf_90 : decode cX12_onOf 90 = .ok (.iload 5, 2) := by decide +kernel
theorem dX12_onOf_92 : decode cX12_onOf 92 = .ok (.ireturn, 1) := by decide +kernel
set_option maxRecDepth 20000 in
theorem ggX12_rolledAhead_X12_has : GoodIn wsX12_rolledAhead wsX12_has := goodIn_r _ [9, 10, 11, 12, 13, 14, 15, 16, 17, 18, 19, 20, 21, 22, 23, 24, 25, 26, 27, 28, 29, 30, 31, 32, 33, 34, 35, 36, 37, 38, 39, 40, 41, 42, 43, 44, 45] (by decide +kernel) (by decide +kernel)
set_option maxRecDepth 20000 in
theorem gX12_rolledAhead_X12_has : GoodIn wsX12_rolledAhead (wsV RX12 218 RX12 yX12_has wsX12_has) := goodIn_app (goodIn_of _ (by decide +kernel)) ggX12_rolledAhead_X12_has
theorem dX12_rolledAhead_0 : decode cX12_rolledAhead 0 = .ok (.iconst 0, 1) := by decide +kernel
theorem dX12_rolledAhead_1 : decode cX12_rolledAhead 1 = .ok (.istore_n 2, 1) := by decide +kernel
theorem dX12_rolledAhead_2 : decode cX12_rolledAhead 2 = .ok (.iconst 0, 1) := by decide +kernel
theorem dX12_rolledAhead_3 : decode cX12_rolledAhead 3 = .ok (.istore_n 3, 1) := by decide +kernel
theorem dX12_rolledAhead_4 : decode cX12_rolledAhead 4 = .ok (.iload_n 3, 1) := by decide +kernel
theorem dX12_rolledAhead_5 : decode cX12_rolledAhead 5 = .ok (.aload_n 0, 1) := by decide +kernel
theorem dX12_rolledAhead_6 : decode cX12_rolledAhead 6 = .ok (.getfield 92, 3) := by decide +kernel
theorem dX12_rolledAhead_9 : decode cX12_rolledAhead 9 = .ok (.if_icmp .ge 109, 3) := by decide +kernel
theorem dX12_rolledAhead_12 : decode cX12_rolledAhead 12 = .ok (.iload_n 3, 1) := by decide +kernel
theorem dX12_rolledAhead_13 : decode cX12_rolledAhead 13 = .ok (.iload_n 1, 1) := by decide +kernel
theorem dX12_rolledAhead_14 : decode cX12_rolledAhead 14 = .ok (.if_icmp .eq 47, 3) := by decide +kernel
theorem dX12_rolledAhead_17 : decode cX12_rolledAhead 17 = .ok (.aload_n 0, 1) := by decide +kernel
theorem dX12_rolledAhead_18 : decode cX12_rolledAhead 18 = .ok (.iload_n 3, 1) := by decide +kernel
theorem dX12_rolledAhead_19 : decode cX12_rolledAhead 19 = .ok (.bipush 64, 2) := by decide +kernel
theorem dX12_rolledAhead_21 : decode cX12_rolledAhead 21 = .ok (.invokevirtual 218, 3) := by decide +kernel
theorem dX12_rolledAhead_24 : decode cX12_rolledAhead 24 = .ok (.ifCond .eq 37, 3) := by decide +kernel
theorem dX12_rolledAhead_27 : decode cX12_rolledAhead 27 = .ok (.aload_n 0, 1) := by decide +kernel
theorem dX12_rolledAhead_28 : decode cX12_rolledAhead 28 = .ok (.getfield 7, 3) := by decide +kernel
theorem dX12_rolledAhead_31 : decode cX12_rolledAhead 31 = .ok (.iload_n 3, 1) := by decide +kernel
theorem dX12_rolledAhead_32 : decode cX12_rolledAhead 32 = .ok (.iaload, 1) := by decide +kernel
theorem dX12_rolledAhead_33 : decode cX12_rolledAhead 33 = .ok (.aload_n 0, 1) := by decide +kernel
theorem dX12_rolledAhead_34 : decode cX12_rolledAhead 34 = .ok (.getfield 7, 3) := by decide +kernel
theorem dX12_rolledAhead_37 : decode cX12_rolledAhead 37 = .ok (.iload_n 1, 1) := by decide +kernel
theorem dX12_rolledAhead_38 : decode cX12_rolledAhead 38 = .ok (.iaload, 1) := by decide +kernel
theorem dX12_rolledAhead_39 : decode cX12_rolledAhead 39 = .ok (.if_icmp .ne 22, 3) := by decide +kernel
theorem dX12_rolledAhead_42 : decode cX12_rolledAhead 42 = .ok (.aload_n 0, 1) := by decide +kernel
theorem dX12_rolledAhead_43 : decode cX12_rolledAhead 43 = .ok (.getfield 13, 3) := by decide +kernel
theorem dX12_rolledAhead_46 : decode cX12_rolledAhead 46 = .ok (.iload_n 3, 1) := by decide +kernel
theorem dX12_rolledAhead_47 : decode cX12_rolledAhead 47 = .ok (.iaload, 1) := by decide +kernel
theorem dX12_rolledAhead_48 : decode cX12_rolledAhead 48 = .ok (.aload_n 0, 1) := by decide +kernel
theorem dX12_rolledAhead_49 : decode cX12_rolledAhead 49 = .ok (.getfield 13, 3) := by decide +kernel
theorem dX12_rolledAhead_52 : decode cX12_rolledAhead 52 = .ok (.iload_n 1, 1) := by decide +kernel
theorem dX12_rolledAhead_53 : decode cX12_rolledAhead 53 = .ok (.iaload, 1) := by decide +kernel
theorem dX12_rolledAhead_54 : decode cX12_rolledAhead 54 = .ok (.if_icmp .ne 7, 3) := by decide +kernel
theorem dX12_rolledAhead_57 : decode cX12_rolledAhead 57 = .ok (.iconst 1, 1) := by decide +kernel
theorem dX12_rolledAhead_58 : decode cX12_rolledAhead 58 = .ok (.goto 4, 3) := by decide +kernel
theorem dX12_rolledAhead_61 : decode cX12_rolledAhead 61 = .ok (.iconst 0, 1) := by decide +kernel
theorem dX12_rolledAhead_62 : decode cX12_rolledAhead 62 = .ok (.istore 4, 2) := by decide +kernel
theorem dX12_rolledAhead_64 : decode cX12_rolledAhead 64 = .ok (.iload_n 2, 1) := by decide +kernel
theorem dX12_rolledAhead_65 : decode cX12_rolledAhead 65 = .ok (.iload 4, 2) := by decide +kernel
theorem dX12_rolledAhead_67 : decode cX12_rolledAhead 67 = .ok (.ifCond .eq 42, 3) := by decide +kernel
theorem dX12_rolledAhead_70 : decode cX12_rolledAhead 70 = .ok (.aload_n 0, 1) := by decide +kernel
theorem dX12_rolledAhead_71 : decode cX12_rolledAhead 71 = .ok (.getfield 19, 3) := by decide +kernel
theorem dX12_rolledAhead_74 : decode cX12_rolledAhead 74 = .ok (.iload_n 3, 1) := by decide +kernel
theorem dX12_rolledAhead_75 : decode cX12_rolledAhead 75 = .ok (.iaload, 1) := by decide +kernel
theorem dX12_rolledAhead_76 : decode cX12_rolledAhead 76 = .ok (.aload_n 0, 1) := by decide +kernel
theorem dX12_rolledAhead_77 : decode cX12_rolledAhead 77 = .ok (.getfield 19, 3) := by decide +kernel
theorem dX12_rolledAhead_80 : decode cX12_rolledAhead 80 = .ok (.iload_n 1, 1) := by decide +kernel
theorem dX12_rolledAhead_81 : decode cX12_rolledAhead 81 = .ok (.iaload, 1) := by decide +kernel
theorem dX12_rolledAhead_82 : decode cX12_rolledAhead 82 = .ok (.if_icmp .lt 23, 3) := by decide +kernel
theorem dX12_rolledAhead_85 : decode cX12_rolledAhead 85 = .ok (.aload_n 0, 1) := by decide +kernel
theorem dX12_rolledAhead_86 : decode cX12_rolledAhead 86 = .ok (.getfield 19, 3) := by decide +kernel
theorem dX12_rolledAhead_89 : decode cX12_rolledAhead 89 = .ok (.iload_n 3, 1) := by decide +kernel
theorem dX12_rolledAhead_90 : decode cX12_rolledAhead 90 = .ok (.iaload, 1) := by decide +kernel
theorem dX12_rolledAhead_91 : decode cX12_rolledAhead 91 = .ok (.aload_n 0, 1) := by decide +kernel
theorem dX12_rolledAhead_92 : decode cX12_rolledAhead 92 = .ok (.getfield 19, 3) := by decide +kernel
theorem dX12_rolledAhead_95 : decode cX12_rolledAhead 95 = .ok (.iload_n 1, 1) := by decide +kernel
theorem dX12_rolledAhead_96 : decode cX12_rolledAhead 96 = .ok (.iaload, 1) := by decide +kernel
theorem dX12_rolledAhead_97 : decode cX12_rolledAhead 97 = .ok (.if_icmp .ne 12, 3) := by decide +kernel
theorem dX12_rolledAhead_100 : decode cX12_rolledAhead 100 = .ok (.iload_n 3, 1) := by decide +kernel
theorem dX12_rolledAhead_101 : decode cX12_rolledAhead 101 = .ok (.iload_n 1, 1) := by decide +kernel
theorem dX12_rolledAhead_102 : decode cX12_rolledAhead 102 = .ok (.if_icmp .ge 7, 3) := by decide +kernel
theorem dX12_rolledAhead_105 : decode cX12_rolledAhead 105 = .ok (.iconst 1, 1) := by decide +kernel
theorem dX12_rolledAhead_106 : decode cX12_rolledAhead 106 = .ok (.goto 4, 3) := by decide +kernel
theorem dX12_rolledAhead_109 : decode cX12_rolledAhead 109 = .ok (.iconst 0, 1) := by decide +kernel
theorem dX12_rolledAhead_110 : decode cX12_rolledAhead 110 = .ok (.iadd, 1) := by decide +kernel
theorem dX12_rolledAhead_111 : decode cX12_rolledAhead 111 = .ok (.istore_n 2, 1) := by decide +kernel
theorem dX12_rolledAhead_112 : decode cX12_rolledAhead 112 = .ok (.iinc 3 1, 3) := by decide +kernel
theorem dX12_rolledAhead_115 : decode cX12_rolledAhead 115 = .ok (.goto (-111), 3) := by decide +kernel
theorem dX12_rolledAhead_118 : decode cX12_rolledAhead 118 = .ok (.iload_n 2, 1) := by decide +kernel
theorem dX12_rolledAhead_119 : decode cX12_rolledAhead 119 = .ok (.ireturn, 1) := by decide +kernel
set_option maxRecDepth 20000 in
theorem ggX12_trill_X12_number : GoodIn wsX12_trill wsX12_number := goodIn_r _ [8, 9, 10, 11, 12, 7, 13, 14, 15, 16, 17, 18, 19, 20, 41, 42, 43, 44, 45, 46, 47, 48, 49, 50, 51, 52, 53, 54, 55, 56, 57, 58, 59, 60, 61, 62, 63, 64, 65, 66, 67, 68, 69, 70, 71, 72, 73, 74, 75] (by decide +kernel) (by decide +kernel)
set_option maxRecDepth 20000 in
theorem gX12_trill_X12_number : GoodIn wsX12_trill (wsV RX12 206 RX12 yX12_number wsX12_number) := goodIn_app (goodIn_of _ (by decide +kernel)) ggX12_trill_X12_number
set_option maxRecDepth 20000 in
theorem ggX12_trill_X12_sounds : GoodIn wsX12_trill wsX12_sounds := goodIn_r _ [24, 25, 26, 27, 28, 3, 29, 30, 31, 7, 32, 33, 34, 35, 36, 37, 38, 39, 40, 41, 42, 43, 44, 45, 46, 47, 48, 49, 50, 51, 52, 53, 54, 55, 56, 57, 58, 59, 60, 61, 62, 63, 64, 65, 66, 67, 68, 69, 70, 71, 72, 73, 74, 75] (by decide +kernel) (by decide +kernel)
set_option maxRecDepth 20000 in
theorem gX12_trill_X12_sounds : GoodIn wsX12_trill (wsV RX12 233 RX12 yX12_sounds wsX12_sounds) := goodIn_app (goodIn_of _ (by decide +kernel)) ggX12_trill_X12_sounds
theorem dX12_trill_0 : decode cX12_trill 0 = .ok (.aload_n 0, 1) := by decide +kernel
theorem dX12_trill_1 : decode cX12_trill 1 = .ok (.aload_n 0, 1) := by decide +kernel
theorem dX12_trill_2 : decode cX12_trill 2 = .ok (.getfield 7, 3) := by decide +kernel
theorem dX12_trill_5 : decode cX12_trill 5 = .ok (.iload_n 1, 1) := by decide +kernel
theorem dX12_trill_6 : decode cX12_trill 6 = .ok (.iaload, 1) := by decide +kernel
theorem dX12_trill_7 : decode cX12_trill 7 = .ok (.bipush 8, 2) := by decide +kernel
theorem dX12_trill_9 : decode cX12_trill 9 = .ok (.invokevirtual 206, 3) := by decide +kernel
theorem dX12_trill_12 : decode cX12_trill 12 = .ok (.istore 4, 2) := by decide +kernel
theorem dX12_trill_14 : decode cX12_trill 14 = .ok (.iload_n 3, 1) := by decide +kernel
theorem dX12_trill_15 : decode cX12_trill 15 = .ok (.iconst 1, 1) := by decide +kernel
theorem dX12_trill_16 : decode cX12_trill 16 = .ok (.isub, 1) := by decide +kernel
theorem dX12_trill_17 : decode cX12_trill 17 = .ok (.iload 4, 2) := by decide +kernel
theorem dX12_trill_19 : decode cX12_trill 19 = .ok (.iadd, 1) := by decide +kernel
theorem dX12_trill_20 : decode cX12_trill 20 = .ok (.iconst 2, 1) := by decide +kernel
theorem dX12_trill_21 : decode cX12_trill 21 = .ok (.irem, 1) := by decide +kernel
theorem dX12_trill_22 : decode cX12_trill 22 = .ok (.iconst 1, 1) := by decide +kernel
theorem dX12_trill_23 : decode cX12_trill 23 = .ok (.if_icmp .ne 9, 3) := by decide +kernel
