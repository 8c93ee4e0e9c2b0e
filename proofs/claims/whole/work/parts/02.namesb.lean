set_option maxRecDepth 20000 in
theorem gX6_onOf_X6_drawOf : GoodIn wsX6_onOf (wsV RX6 127 RX6 yX6_drawOf wsX6_drawOf) := goodIn_app (goodIn_of _ (by decide +kernel)) ggX6_onOf_X6_drawOf
theorem dX6_onOf_0 : decode cX6_onOf 0 = .ok (.aload_n 2, 1) := by decide +kernel
theorem dX6_onOf_1 : decode cX6_onOf 1 = .ok (.aload_n 0, 1) := by decide +kernel
theorem dX6_onOf_2 : decode cX6_onOf 2 = .ok (.getfield 77, 3) := by decide +kernel
theorem dX6_onOf_5 : decode cX6_onOf 5 = .ok (.bipush 12, 2) := by decide +kernel
theorem dX6_onOf_7 : decode cX6_onOf 7 = .ok (.invokevirtual 97, 3) := by decide +kernel
theorem dX6_onOf_10 : decode cX6_onOf 10 = .ok (.istore 5, 2) := by decide +kernel
theorem dX6_onOf_12 : decode cX6_onOf 12 = .ok (.iload 5, 2) := by decide +kernel
theorem dX6_onOf_14 : decode cX6_onOf 14 = .ok (.ifCond .le 19, 3) := by decide +kernel
theorem dX6_onOf_17 : decode cX6_onOf 17 = .ok (.iconst 0, 1) := by decide +kernel
theorem dX6_onOf_18 : decode cX6_onOf 18 = .ok (.iload_n 1, 1) := by decide +kernel
theorem dX6_onOf_19 : decode cX6_onOf 19 = .ok (.aload_n 0, 1) := by decide +kernel
theorem dX6_onOf_20 : decode cX6_onOf 20 = .ok (.iload 5, 2) := by decide +kernel
theorem dX6_onOf_22 : decode cX6_onOf 22 = .ok (.lload_n 3, 1) := by decide +kernel
theorem dX6_onOf_23 : decode cX6_onOf 23 = .ok (.invokevirtual 127, 3) := by decide +kernel
theorem dX6_onOf_26 : decode cX6_onOf 26 = .ok (.iadd, 1) := by decide +kernel
theorem dX6_onOf_27 : decode cX6_onOf 27 = .ok (.invokestatic 108, 3) := by decide +kernel
theorem dX6_onOf_30 : decode cX6_onOf 30 = .ok (.goto 4, 3) := by decide +kernel
theorem dX6_onOf_33 : decode cX6_onOf 33 = .ok (.iload_n 1, 1) := by decide +kernel
theorem dX6_onOf_34 : decode cX6_onOf 34 = .ok (.ireturn, 1) := by decide +kernel
set_option maxRecDepth 20000 in
theorem ggX6_drawOf_J9_floorMod_f86c9 : GoodIn wsX6_drawOf wsJ9_floorMod_f86c9 := goodIn_r _ [12] (by decide +kernel) (by decide +kernel)
set_option maxRecDepth 20000 in
theorem gX6_drawOf_J9_floorMod_f86c9 : GoodIn wsX6_drawOf (va_wsS RX6 137 yJ9_floorMod_f86c9 wsJ9_floorMod_f86c9) := goodIn_app (goodIn_of _ (by decide +kernel)) ggX6_drawOf_J9_floorMod_f86c9
theorem dX6_drawOf_0 : decode cX6_drawOf 0 = .ok (.lload_n 2, 1) := by decide +kernel
theorem dX6_drawOf_1 : decode cX6_drawOf 1 = .ok (.aload_n 0, 1) := by decide +kernel
theorem dX6_drawOf_2 : decode cX6_drawOf 2 = .ok (.getfield 71, 3) := by decide +kernel
theorem dX6_drawOf_5 : decode cX6_drawOf 5 = .ok (.i2l, 1) := by decide +kernel
theorem dX6_drawOf_6 : decode cX6_drawOf 6 = .ok (.lconst 1, 1) := by decide +kernel
theorem dX6_drawOf_7 : decode cX6_drawOf 7 = .ok (.ladd, 1) := by decide +kernel
theorem dX6_drawOf_8 : decode cX6_drawOf 8 = .ok (.ldc2_w 131, 3) := by decide +kernel
theorem dX6_drawOf_11 : decode cX6_drawOf 11 = .ok (.lmul, 1) := by decide +kernel
theorem dX6_drawOf_12 : decode cX6_drawOf 12 = .ok (.ladd, 1) := by decide +kernel
theorem dX6_drawOf_13 : decode cX6_drawOf 13 = .ok (.lstore 4, 2) := by decide +kernel
theorem dX6_drawOf_15 : decode cX6_drawOf 15 = .ok (.lload 4, 2) := by decide +kernel
theorem dX6_drawOf_17 : decode cX6_drawOf 17 = .ok (.lload 4, 2) := by decide +kernel
theorem dX6_drawOf_19 : decode cX6_drawOf 19 = .ok (.bipush 30, 2) := by decide +kernel
theorem dX6_drawOf_21 : decode cX6_drawOf 21 = .ok (.lushr, 1) := by decide +kernel
theorem dX6_drawOf_22 : decode cX6_drawOf 22 = .ok (.lxor, 1) := by decide +kernel
theorem dX6_drawOf_23 : decode cX6_drawOf 23 = .ok (.ldc2_w 133, 3) := by decide +kernel
theorem dX6_drawOf_26 : decode cX6_drawOf 26 = .ok (.lmul, 1) := by decide +kernel
theorem dX6_drawOf_27 : decode cX6_drawOf 27 = .ok (.lstore 4, 2) := by decide +kernel
theorem dX6_drawOf_29 : decode cX6_drawOf 29 = .ok (.lload 4, 2) := by decide +kernel
theorem dX6_drawOf_31 : decode cX6_drawOf 31 = .ok (.lload 4, 2) := by decide +kernel
theorem dX6_drawOf_33 : decode cX6_drawOf 33 = .ok (.bipush 27, 2) := by decide +kernel
theorem dX6_drawOf_35 : decode cX6_drawOf 35 = .ok (.lushr, 1) := by decide +kernel
theorem dX6_drawOf_36 : decode cX6_drawOf 36 = .ok (.lxor, 1) := by decide +kernel
theorem dX6_drawOf_37 : decode cX6_drawOf 37 = .ok (.lstore 4, 2) := by decide +kernel
theorem dX6_drawOf_39 : decode cX6_drawOf 39 = .ok (.lload 4, 2) := by decide +kernel
theorem dX6_drawOf_41 : decode cX6_drawOf 41 = .ok (.bipush 33, 2) := by decide +kernel
theorem dX6_drawOf_43 : decode cX6_drawOf 43 = .ok (.lushr, 1) := by decide +kernel
theorem dX6_drawOf_44 : decode cX6_drawOf 44 = .ok (.ldc2_w 135, 3) := by decide +kernel
theorem dX6_drawOf_47 : decode cX6_drawOf 47 = .ok (.iconst 0, 1) := by decide +kernel
theorem dX6_drawOf_48 : decode cX6_drawOf 48 = .ok (.iload_n 1, 1) := by decide +kernel
theorem dX6_drawOf_49 : decode cX6_drawOf 49 = .ok (.invokestatic 108, 3) := by decide +kernel
theorem dX6_drawOf_52 : decode cX6_drawOf 52 = .ok (.i2l, 1) := by decide +kernel
theorem dX6_drawOf_53 : decode cX6_drawOf 53 = .ok (.lmul, 1) := by decide +kernel
theorem dX6_drawOf_54 : decode cX6_drawOf 54 = .ok (.lconst 1, 1) := by decide +kernel
theorem dX6_drawOf_55 : decode cX6_drawOf 55 = .ok (.ladd, 1) := by decide +kernel
theorem dX6_drawOf_56 : decode cX6_drawOf 56 = .ok (.invokestatic 137, 3) := by decide +kernel
theorem dX6_drawOf_59 : decode cX6_drawOf 59 = .ok (.l2i, 1) := by decide +kernel
theorem dX6_drawOf_60 : decode cX6_drawOf 60 = .ok (.iload_n 1, 1) := by decide +kernel
theorem dX6_drawOf_61 : decode cX6_drawOf 61 = .ok (.isub, 1) := by decide +kernel
theorem dX6_drawOf_62 : decode cX6_drawOf 62 = .ok (.ireturn, 1) := by decide +kernel
set_option maxRecDepth 20000 in
theorem ggX6_addParts_X6_isMarked : GoodIn wsX6_addParts wsX6_isMarked := goodIn_r _ [8, 9, 85, 86, 87, 88, 89, 90, 91, 92] (by decide +kernel) (by decide +kernel)
set_option maxRecDepth 20000 in
theorem gX6_addParts_X6_isMarked : GoodIn wsX6_addParts (wsV RX6 91 RX6 yX6_isMarked wsX6_isMarked) := goodIn_app (goodIn_of _ (by decide +kernel)) ggX6_addParts_X6_isMarked
set_option maxRecDepth 20000 in
theorem ggX6_addParts_X6_roll : GoodIn wsX6_addParts wsX6_roll := goodIn_r _ [13, 14, 15, 3, 16, 17, 18, 19, 20, 21, 22, 23, 24, 25, 26, 27, 28, 29, 30, 31, 32, 33, 34, 35, 36, 37, 38, 39, 40, 41, 42, 43, 44, 45, 46, 47, 48, 49, 85, 86, 87, 88, 89, 90, 91, 92, 93, 94, 95, 96, 97, 98, 99, 100, 101, 102] (by decide +kernel) (by decide +kernel)
set_option maxRecDepth 20000 in
theorem gX6_addParts_X6_roll : GoodIn wsX6_addParts (wsV RX6 141 RX6 yX6_roll wsX6_roll) := goodIn_app (goodIn_of _ (by decide +kernel)) ggX6_addParts_X6_roll
set_option maxRecDepth 20000 in
theorem ggX6_addParts_X6_addLean : GoodIn wsX6_addParts wsX6_addLean := goodIn_r _ [53, 15, 3, 16, 17, 18, 19, 1, 2, 54, 55, 56, 39, 40, 41, 42, 43, 44, 45, 46, 47, 48, 49, 57, 58, 59, 7, 60, 61, 20, 14, 62, 63, 64, 65, 66, 67, 68, 69, 85, 86, 87, 88, 89, 90, 91, 92, 99, 100, 101, 102, 103, 104, 105] (by decide +kernel) (by decide +kernel)
set_option maxRecDepth 20000 in
theorem gX6_addParts_X6_addLean : GoodIn wsX6_addParts (wsV RX6 144 RX6 yX6_addLean wsX6_addLean) := goodIn_app (goodIn_of _ (by decide +kernel)) ggX6_addParts_X6_addLean
set_option maxRecDepth 20000 in
theorem ggX6_addParts_X6_addTrill : GoodIn wsX6_addParts wsX6_addTrill := goodIn_r _ [73, 15, 3, 1, 2, 39, 40, 41, 42, 43, 44, 45, 46, 47, 48, 49, 74, 75, 76, 77, 78, 79, 80, 57, 58, 59, 7, 60, 61, 20, 14, 62, 63, 64, 65, 66, 67, 68, 69, 85, 86, 87, 88, 89, 90, 91, 92, 99, 100, 101, 102, 103, 104, 105] (by decide +kernel) (by decide +kernel)
set_option maxRecDepth 20000 in
theorem gX6_addParts_X6_addTrill : GoodIn wsX6_addParts (wsV RX6 148 RX6 yX6_addTrill wsX6_addTrill) := goodIn_app (goodIn_of _ (by decide +kernel)) ggX6_addParts_X6_addTrill
set_option maxRecDepth 20000 in
theorem ggX6_addParts_X6_addTurn : GoodIn wsX6_addParts wsX6_addTurn := goodIn_r _ [84, 3, 15, 16, 17, 18, 19, 1, 2, 39, 40, 41, 42, 43, 44, 45, 46, 47, 48, 49, 57, 58, 59, 7, 60, 61, 20, 14, 62, 63, 64, 65, 66, 67, 68, 69, 85, 86, 87, 88, 89, 90, 91, 92, 99, 100, 101, 102, 103, 104, 105] (by decide +kernel) (by decide +kernel)
set_option maxRecDepth 20000 in
theorem gX6_addParts_X6_addTurn : GoodIn wsX6_addParts (wsV RX6 152 RX6 yX6_addTurn wsX6_addTurn) := goodIn_app (goodIn_of _ (by decide +kernel)) ggX6_addParts_X6_addTurn
set_option maxRecDepth 20000 in
theorem ggX6_addParts_X6_addPart : GoodIn wsX6_addParts wsX6_addPart := goodIn_r _ [60, 61, 20, 14, 15, 3, 62, 63, 64, 65, 66, 67, 68, 69, 85, 86, 87, 88, 89, 90, 91, 92, 103, 104, 105] (by decide +kernel) (by decide +kernel)
set_option maxRecDepth 20000 in
theorem gX6_addParts_X6_addPart : GoodIn wsX6_addParts (wsV RX6 155 RX6 yX6_addPart wsX6_addPart) := goodIn_app (goodIn_of _ (by decide +kernel)) ggX6_addParts_X6_addPart
theorem dX6_addParts_0 : decode cX6_addParts 0 = .ok (.aload_n 0, 1) := by decide +kernel
theorem dX6_addParts_1 : decode cX6_addParts 1 = .ok (.bipush 64, 2) := by decide +kernel
theorem dX6_addParts_3 : decode cX6_addParts 3 = .ok (.invokevirtual 91, 3) := by decide +kernel
theorem dX6_addParts_6 : decode cX6_addParts 6 = .ok (.ifCond .eq 9, 3) := by decide +kernel
theorem dX6_addParts_9 : decode cX6_addParts 9 = .ok (.aload_n 0, 1) := by decide +kernel
theorem dX6_addParts_10 : decode cX6_addParts 10 = .ok (.aload_n 1, 1) := by decide +kernel
theorem dX6_addParts_11 : decode cX6_addParts 11 = .ok (.aload_n 2, 1) := by decide +kernel
theorem dX6_addParts_12 : decode cX6_addParts 12 = .ok (.invokevirtual 141, 3) := by decide +kernel
theorem dX6_addParts_15 : decode cX6_addParts 15 = .ok (.aload_n 0, 1) := by decide +kernel
theorem dX6_addParts_16 : decode cX6_addParts 16 = .ok (.bipush 32, 2) := by decide +kernel
theorem dX6_addParts_18 : decode cX6_addParts 18 = .ok (.invokevirtual 91, 3) := by decide +kernel
theorem dX6_addParts_21 : decode cX6_addParts 21 = .ok (.ifCond .eq 8, 3) := by decide +kernel
theorem dX6_addParts_24 : decode cX6_addParts 24 = .ok (.aload_n 0, 1) := by decide +kernel
theorem dX6_addParts_25 : decode cX6_addParts 25 = .ok (.aload_n 2, 1) := by decide +kernel
theorem dX6_addParts_26 : decode cX6_addParts 26 = .ok (.invokevirtual 144, 3) := by decide +kernel
theorem dX6_addParts_29 : decode cX6_addParts 29 = .ok (.aload_n 0, 1) := by decide +kernel
theorem dX6_addParts_30 : decode cX6_addParts 30 = .ok (.bipush 8, 2) := by decide +kernel
theorem dX6_addParts_32 : decode cX6_addParts 32 = .ok (.invokevirtual 91, 3) := by decide +kernel
theorem dX6_addParts_35 : decode cX6_addParts 35 = .ok (.ifCond .eq 12, 3) := by decide +kernel
theorem dX6_addParts_38 : decode cX6_addParts 38 = .ok (.aload_n 0, 1) := by decide +kernel
theorem dX6_addParts_39 : decode cX6_addParts 39 = .ok (.aload_n 2, 1) := by decide +kernel
theorem dX6_addParts_40 : decode cX6_addParts 40 = .ok (.invokevirtual 148, 3) := by decide +kernel
theorem dX6_addParts_43 : decode cX6_addParts 43 = .ok (.ifCond .eq 4, 3) := by decide +kernel
theorem dX6_addParts_46 : decode cX6_addParts 46 = .ok (.return_, 1) := by decide +kernel
theorem dX6_addParts_47 : decode cX6_addParts 47 = .ok (.aload_n 0, 1) := by decide +kernel
theorem dX6_addParts_48 : decode cX6_addParts 48 = .ok (.bipush 16, 2) := by decide +kernel
theorem dX6_addParts_50 : decode cX6_addParts 50 = .ok (.invokevirtual 91, 3) := by decide +kernel
theorem dX6_addParts_53 : decode cX6_addParts 53 = .ok (.ifCond .eq 12, 3) := by decide +kernel
theorem dX6_addParts_56 : decode cX6_addParts 56 = .ok (.aload_n 0, 1) := by decide +kernel
theorem dX6_addParts_57 : decode cX6_addParts 57 = .ok (.aload_n 2, 1) := by decide +kernel
theorem dX6_addParts_58 : decode cX6_addParts 58 = .ok (.invokevirtual 152, 3) := by decide +kernel
theorem dX6_addParts_61 : decode cX6_addParts 61 = .ok (.ifCond .eq 4, 3) := by decide +kernel
theorem dX6_addParts_64 : decode cX6_addParts 64 = .ok (.return_, 1) := by decide +kernel
theorem dX6_addParts_65 : decode cX6_addParts 65 = .ok (.aload_n 0, 1) := by decide +kernel
theorem dX6_addParts_66 : decode cX6_addParts 66 = .ok (.iconst 0, 1) := by decide +kernel
theorem dX6_addParts_67 : decode cX6_addParts 67 = .ok (.aload_n 0, 1) := by decide +kernel
theorem dX6_addParts_68 : decode cX6_addParts 68 = .ok (.getfield 83, 3) := by decide +kernel
theorem dX6_addParts_71 : decode cX6_addParts 71 = .ok (.aload_n 0, 1) := by decide +kernel
theorem dX6_addParts_72 : decode cX6_addParts 72 = .ok (.getfield 57, 3) := by decide +kernel
theorem dX6_addParts_75 : decode cX6_addParts 75 = .ok (.aload_n 0, 1) := by decide +kernel
theorem dX6_addParts_76 : decode cX6_addParts 76 = .ok (.getfield 47, 3) := by decide +kernel
theorem dX6_addParts_79 : decode cX6_addParts 79 = .ok (.invokevirtual 155, 3) := by decide +kernel
theorem dX6_addParts_82 : decode cX6_addParts 82 = .ok (.return_, 1) := by decide +kernel
set_option maxRecDepth 20000 in
theorem ggX6_roll_X4_rolledAhead : GoodIn wsX6_roll wsX4_rolledAhead := goodIn_r _ [13, 14, 15, 16, 17, 12, 18, 19, 20, 21, 22, 23, 24, 25, 26, 46, 47, 48, 49, 50, 51] (by decide +kernel) (by decide +kernel)
set_option maxRecDepth 20000 in
theorem gX6_roll_X4_rolledAhead : GoodIn wsX6_roll (wsV RX6 159 RX4 yX4_rolledAhead wsX4_rolledAhead) := goodIn_app (goodIn_of _ (by decide +kernel)) ggX6_roll_X4_rolledAhead
set_option maxRecDepth 20000 in
theorem ggX6_roll_X8_numberFor : GoodIn wsX6_roll wsX8_numberFor := goodIn_r _ [31, 32, 33, 34, 35, 30, 36, 37, 52, 53, 54, 55] (by decide +kernel) (by decide +kernel)
set_option maxRecDepth 20000 in
theorem gX6_roll_X8_numberFor : GoodIn wsX6_roll (wsV RX6 97 RX8 yX8_numberFor wsX8_numberFor) := goodIn_app (goodIn_of _ (by decide +kernel)) ggX6_roll_X8_numberFor
theorem dX6_roll_0 : decode cX6_roll 0 = .ok (.aload_n 1, 1) := by decide +kernel
theorem dX6_roll_1 : decode cX6_roll 1 = .ok (.aload_n 0, 1) := by decide +kernel
theorem dX6_roll_2 : decode cX6_roll 2 = .ok (.getfield 71, 3) := by decide +kernel
theorem dX6_roll_5 : decode cX6_roll 5 = .ok (.invokevirtual 159, 3) := by decide +kernel
theorem dX6_roll_8 : decode cX6_roll 8 = .ok (.aload_n 2, 1) := by decide +kernel
theorem dX6_roll_9 : decode cX6_roll 9 = .ok (.aload_n 0, 1) := by decide +kernel
theorem dX6_roll_10 : decode cX6_roll 10 = .ok (.getfield 77, 3) := by decide +kernel
theorem dX6_roll_13 : decode cX6_roll 13 = .ok (.bipush 11, 2) := by decide +kernel
theorem dX6_roll_15 : decode cX6_roll 15 = .ok (.invokevirtual 97, 3) := by decide +kernel
theorem dX6_roll_18 : decode cX6_roll 18 = .ok (.imul, 1) := by decide +kernel
theorem dX6_roll_19 : decode cX6_roll 19 = .ok (.aload_n 0, 1) := by decide +kernel
theorem dX6_roll_20 : decode cX6_roll 20 = .ok (.getfield 47, 3) := by decide +kernel
theorem dX6_roll_23 : decode cX6_roll 23 = .ok (.iconst 1, 1) := by decide +kernel
theorem dX6_roll_24 : decode cX6_roll 24 = .ok (.isub, 1) := by decide +kernel
theorem dX6_roll_25 : decode cX6_roll 25 = .ok (.invokestatic 103, 3) := by decide +kernel
theorem dX6_roll_28 : decode cX6_roll 28 = .ok (.istore_n 3, 1) := by decide +kernel
theorem dX6_roll_29 : decode cX6_roll 29 = .ok (.aload_n 0, 1) := by decide +kernel
theorem dX6_roll_30 : decode cX6_roll 30 = .ok (.dup, 1) := by decide +kernel
theorem dX6_roll_31 : decode cX6_roll 31 = .ok (.getfield 64, 3) := by decide +kernel
theorem dX6_roll_34 : decode cX6_roll 34 = .ok (.iload_n 3, 1) := by decide +kernel
theorem dX6_roll_35 : decode cX6_roll 35 = .ok (.iadd, 1) := by decide +kernel
theorem dX6_roll_36 : decode cX6_roll 36 = .ok (.putfield 64, 3) := by decide +kernel
theorem dX6_roll_39 : decode cX6_roll 39 = .ok (.aload_n 0, 1) := by decide +kernel
theorem dX6_roll_40 : decode cX6_roll 40 = .ok (.dup, 1) := by decide +kernel
theorem dX6_roll_41 : decode cX6_roll 41 = .ok (.getfield 47, 3) := by decide +kernel
theorem dX6_roll_44 : decode cX6_roll 44 = .ok (.iload_n 3, 1) := by decide +kernel
theorem dX6_roll_45 : decode cX6_roll 45 = .ok (.isub, 1) := by decide +kernel
theorem dX6_roll_46 : decode cX6_roll 46 = .ok (.putfield 47, 3) := by decide +kernel
theorem dX6_roll_49 : decode cX6_roll 49 = .ok (.return_, 1) := by decide +kernel
set_option maxRecDepth 20000 in
theorem ggX6_addLean_X8_numberFor : GoodIn wsX6_addLean wsX8_numberFor := goodIn_r _ [16, 17, 18, 19, 20, 15, 21, 22, 47, 48, 49, 50] (by decide +kernel) (by decide +kernel)
set_option maxRecDepth 20000 in
theorem gX6_addLean_X8_numberFor : GoodIn wsX6_addLean (wsV RX6 97 RX8 yX8_numberFor wsX8_numberFor) := goodIn_app (goodIn_of _ (by decide +kernel)) ggX6_addLean_X8_numberFor
set_option maxRecDepth 20000 in
theorem ggX6_addLean_X6_addPart : GoodIn wsX6_addLean wsX6_addPart := goodIn_r _ [27, 28, 29, 30, 1, 2, 31, 32, 33, 34, 35, 36, 37, 38, 39, 40, 41, 42, 43, 44, 45, 46, 51, 52, 53] (by decide +kernel) (by decide +kernel)
set_option maxRecDepth 20000 in
theorem gX6_addLean_X6_addPart : GoodIn wsX6_addLean (wsV RX6 155 RX6 yX6_addPart wsX6_addPart) := goodIn_app (goodIn_of _ (by decide +kernel)) ggX6_addLean_X6_addPart
theorem dX6_addLean_0 : decode cX6_addLean 0 = .ok (.aload_n 1, 1) := by decide +kernel
theorem dX6_addLean_1 : decode cX6_addLean 1 = .ok (.aload_n 0, 1) := by decide +kernel
theorem dX6_addLean_2 : decode cX6_addLean 2 = .ok (.getfield 77, 3) := by decide +kernel
theorem dX6_addLean_5 : decode cX6_addLean 5 = .ok (.bipush 10, 2) := by decide +kernel
theorem dX6_addLean_7 : decode cX6_addLean 7 = .ok (.invokevirtual 97, 3) := by decide +kernel
theorem dX6_addLean_10 : decode cX6_addLean 10 = .ok (.aload_n 0, 1) := by decide +kernel
theorem dX6_addLean_11 : decode cX6_addLean 11 = .ok (.getfield 47, 3) := by decide +kernel
theorem dX6_addLean_14 : decode cX6_addLean 14 = .ok (.iconst 2, 1) := by decide +kernel
theorem dX6_addLean_15 : decode cX6_addLean 15 = .ok (.idiv, 1) := by decide +kernel
theorem dX6_addLean_16 : decode cX6_addLean 16 = .ok (.invokestatic 103, 3) := by decide +kernel
theorem dX6_addLean_19 : decode cX6_addLean 19 = .ok (.istore_n 2, 1) := by decide +kernel
theorem dX6_addLean_20 : decode cX6_addLean 20 = .ok (.iload_n 2, 1) := by decide +kernel
theorem dX6_addLean_21 : decode cX6_addLean 21 = .ok (.ifCond .le 27, 3) := by decide +kernel
theorem dX6_addLean_24 : decode cX6_addLean 24 = .ok (.aload_n 0, 1) := by decide +kernel
theorem dX6_addLean_25 : decode cX6_addLean 25 = .ok (.iconst 1, 1) := by decide +kernel
theorem dX6_addLean_26 : decode cX6_addLean 26 = .ok (.aload_n 0, 1) := by decide +kernel
theorem dX6_addLean_27 : decode cX6_addLean 27 = .ok (.getfield 83, 3) := by decide +kernel
theorem dX6_addLean_30 : decode cX6_addLean 30 = .ok (.iconst 2, 1) := by decide +kernel
theorem dX6_addLean_31 : decode cX6_addLean 31 = .ok (.iadd, 1) := by decide +kernel
theorem dX6_addLean_32 : decode cX6_addLean 32 = .ok (.iconst 1, 1) := by decide +kernel
theorem dX6_addLean_33 : decode cX6_addLean 33 = .ok (.aload_n 0, 1) := by decide +kernel
theorem dX6_addLean_34 : decode cX6_addLean 34 = .ok (.getfield 57, 3) := by decide +kernel
theorem dX6_addLean_37 : decode cX6_addLean 37 = .ok (.iconst 3, 1) := by decide +kernel
theorem dX6_addLean_38 : decode cX6_addLean 38 = .ok (.imul, 1) := by decide +kernel
theorem dX6_addLean_39 : decode cX6_addLean 39 = .ok (.iconst 4, 1) := by decide +kernel
theorem dX6_addLean_40 : decode cX6_addLean 40 = .ok (.idiv, 1) := by decide +kernel
theorem dX6_addLean_41 : decode cX6_addLean 41 = .ok (.invokestatic 108, 3) := by decide +kernel
theorem dX6_addLean_44 : decode cX6_addLean 44 = .ok (.iload_n 2, 1) := by decide +kernel
theorem dX6_addLean_45 : decode cX6_addLean 45 = .ok (.invokevirtual 155, 3) := by decide +kernel
theorem dX6_addLean_48 : decode cX6_addLean 48 = .ok (.return_, 1) := by decide +kernel
set_option maxRecDepth 20000 in
theorem ggX6_addTrill_X8_numberFor : GoodIn wsX6_addTrill wsX8_numberFor := goodIn_r _ [9, 10, 11, 12, 13, 8, 14, 15, 47, 48, 49, 50] (by decide +kernel) (by decide +kernel)
set_option maxRecDepth 20000 in
theorem gX6_addTrill_X8_numberFor : GoodIn wsX6_addTrill (wsV RX6 97 RX8 yX8_numberFor wsX8_numberFor) := goodIn_app (goodIn_of _ (by decide +kernel)) ggX6_addTrill_X8_numberFor
set_option maxRecDepth 20000 in
theorem ggX6_addTrill_X11_quotient : GoodIn wsX6_addTrill wsX11_quotient := goodIn_r _ [18, 19, 20, 21, 22] (by decide +kernel) (by decide +kernel)
set_option maxRecDepth 20000 in
theorem gX6_addTrill_X11_quotient_n162 : GoodIn wsX6_addTrill (wsX11_quotient) := ggX6_addTrill_X11_quotient
set_option maxRecDepth 20000 in
theorem ggX6_addTrill_X6_addPart : GoodIn wsX6_addTrill wsX6_addPart := goodIn_r _ [27, 28, 29, 30, 1, 2, 31, 32, 33, 34, 35, 36, 37, 38, 39, 40, 41, 42, 43, 44, 45, 46, 51, 52, 53] (by decide +kernel) (by decide +kernel)
set_option maxRecDepth 20000 in
theorem gX6_addTrill_X6_addPart : GoodIn wsX6_addTrill (wsV RX6 155 RX6 yX6_addPart wsX6_addPart) := goodIn_app (goodIn_of _ (by decide +kernel)) ggX6_addTrill_X6_addPart
theorem dX6_addTrill_0 : decode cX6_addTrill 0 = .ok (.aload_n 1, 1) := by decide +kernel
theorem dX6_addTrill_1 : decode cX6_addTrill 1 = .ok (.aload_n 0, 1) := by decide +kernel
theorem dX6_addTrill_2 : decode cX6_addTrill 2 = .ok (.getfield 77, 3) := by decide +kernel
theorem dX6_addTrill_5 : decode cX6_addTrill 5 = .ok (.bipush 7, 2) := by decide +kernel
theorem dX6_addTrill_7 : decode cX6_addTrill 7 = .ok (.invokevirtual 97, 3) := by decide +kernel
theorem dX6_addTrill_10 : decode cX6_addTrill 10 = .ok (.istore_n 2, 1) := by decide +kernel
theorem dX6_addTrill_11 : decode cX6_addTrill 11 = .ok (.aload_n 0, 1) := by decide +kernel
theorem dX6_addTrill_12 : decode cX6_addTrill 12 = .ok (.getfield 47, 3) := by decide +kernel
theorem dX6_addTrill_15 : decode cX6_addTrill 15 = .ok (.i2l, 1) := by decide +kernel
theorem dX6_addTrill_16 : decode cX6_addTrill 16 = .ok (.iload_n 2, 1) := by decide +kernel
theorem dX6_addTrill_17 : decode cX6_addTrill 17 = .ok (.i2l, 1) := by decide +kernel
theorem dX6_addTrill_18 : decode cX6_addTrill 18 = .ok (.invokestatic 162, 3) := by decide +kernel
theorem dX6_addTrill_21 : decode cX6_addTrill 21 = .ok (.istore_n 3, 1) := by decide +kernel
theorem dX6_addTrill_22 : decode cX6_addTrill 22 = .ok (.iload_n 3, 1) := by decide +kernel
theorem dX6_addTrill_23 : decode cX6_addTrill 23 = .ok (.iconst 2, 1) := by decide +kernel
theorem dX6_addTrill_24 : decode cX6_addTrill 24 = .ok (.if_icmp .ge 5, 3) := by decide +kernel
theorem dX6_addTrill_27 : decode cX6_addTrill 27 = .ok (.iconst 0, 1) := by decide +kernel
theorem dX6_addTrill_28 : decode cX6_addTrill 28 = .ok (.ireturn, 1) := by decide +kernel
theorem dX6_addTrill_29 : decode cX6_addTrill 29 = .ok (.aload_n 1, 1) := by decide +kernel
theorem dX6_addTrill_30 : decode cX6_addTrill 30 = .ok (.aload_n 0, 1) := by decide +kernel
theorem dX6_addTrill_31 : decode cX6_addTrill 31 = .ok (.getfield 77, 3) := by decide +kernel
theorem dX6_addTrill_34 : decode cX6_addTrill 34 = .ok (.bipush 8, 2) := by decide +kernel
theorem dX6_addTrill_36 : decode cX6_addTrill 36 = .ok (.invokevirtual 97, 3) := by decide +kernel
theorem dX6_addTrill_39 : decode cX6_addTrill 39 = .ok (.iconst 1, 1) := by decide +kernel
theorem dX6_addTrill_40 : decode cX6_addTrill 40 = .ok (.if_icmp .ne 7, 3) := by decide +kernel
theorem dX6_addTrill_43 : decode cX6_addTrill 43 = .ok (.iconst 1, 1) := by decide +kernel
theorem dX6_addTrill_44 : decode cX6_addTrill 44 = .ok (.goto 4, 3) := by decide +kernel
theorem dX6_addTrill_47 : decode cX6_addTrill 47 = .ok (.iconst 0, 1) := by decide +kernel
theorem dX6_addTrill_48 : decode cX6_addTrill 48 = .ok (.istore 4, 2) := by decide +kernel
theorem dX6_addTrill_50 : decode cX6_addTrill 50 = .ok (.iload_n 3, 1) := by decide +kernel
theorem dX6_addTrill_51 : decode cX6_addTrill 51 = .ok (.iconst 2, 1) := by decide +kernel
theorem dX6_addTrill_52 : decode cX6_addTrill 52 = .ok (.irem, 1) := by decide +kernel
theorem dX6_addTrill_53 : decode cX6_addTrill 53 = .ok (.iconst 1, 1) := by decide +kernel
theorem dX6_addTrill_54 : decode cX6_addTrill 54 = .ok (.if_icmp .ne 7, 3) := by decide +kernel
theorem dX6_addTrill_57 : decode cX6_addTrill 57 = .ok (.iconst 1, 1) := by decide +kernel
theorem dX6_addTrill_58 : decode cX6_addTrill 58 = .ok (.goto 4, 3) := by decide +kernel
theorem dX6_addTrill_61 : decode cX6_addTrill 61 = .ok (.iconst 0, 1) := by decide +kernel
theorem dX6_addTrill_62 : decode cX6_addTrill 62 = .ok (.iload 4, 2) := by decide +kernel
theorem dX6_addTrill_64 : decode cX6_addTrill 64 = .ok (.if_icmp .ne 7, 3) := by decide +kernel
theorem dX6_addTrill_67 : decode cX6_addTrill 67 = .ok (.iconst 1, 1) := by decide +kernel
theorem dX6_addTrill_68 : decode cX6_addTrill 68 = .ok (.goto 4, 3) := by decide +kernel
theorem dX6_addTrill_71 : decode cX6_addTrill 71 = .ok (.iconst 0, 1) := by decide +kernel
theorem dX6_addTrill_72 : decode cX6_addTrill 72 = .ok (.istore 5, 2) := by decide +kernel
theorem dX6_addTrill_74 : decode cX6_addTrill 74 = .ok (.iload 5, 2) := by decide +kernel
theorem dX6_addTrill_76 : decode cX6_addTrill 76 = .ok (.ifCond .eq 6, 3) := by decide +kernel
theorem dX6_addTrill_79 : decode cX6_addTrill 79 = .ok (.iinc 3 (-1), 3) := by decide +kernel
theorem dX6_addTrill_82 : decode cX6_addTrill 82 = .ok (.iconst 1, 1) := by decide +kernel
theorem dX6_addTrill_83 : decode cX6_addTrill 83 = .ok (.istore 6, 2) := by decide +kernel
theorem dX6_addTrill_85 : decode cX6_addTrill 85 = .ok (.iload 6, 2) := by decide +kernel
theorem dX6_addTrill_87 : decode cX6_addTrill 87 = .ok (.iload_n 3, 1) := by decide +kernel
theorem dX6_addTrill_88 : decode cX6_addTrill 88 = .ok (.if_icmp .ge 49, 3) := by decide +kernel
theorem dX6_addTrill_91 : decode cX6_addTrill 91 = .ok (.aload_n 0, 1) := by decide +kernel
theorem dX6_addTrill_92 : decode cX6_addTrill 92 = .ok (.iconst 2, 1) := by decide +kernel
theorem dX6_addTrill_93 : decode cX6_addTrill 93 = .ok (.iload 4, 2) := by decide +kernel
theorem dX6_addTrill_95 : decode cX6_addTrill 95 = .ok (.ifCond .eq 12, 3) := by decide +kernel
theorem dX6_addTrill_98 : decode cX6_addTrill 98 = .ok (.aload_n 0, 1) := by decide +kernel
theorem dX6_addTrill_99 : decode cX6_addTrill 99 = .ok (.getfield 83, 3) := by decide +kernel
theorem dX6_addTrill_102 : decode cX6_addTrill 102 = .ok (.iconst 2, 1) := by decide +kernel
theorem dX6_addTrill_103 : decode cX6_addTrill 103 = .ok (.iadd, 1) := by decide +kernel
theorem dX6_addTrill_104 : decode cX6_addTrill 104 = .ok (.goto 7, 3) := by decide +kernel
theorem dX6_addTrill_107 : decode cX6_addTrill 107 = .ok (.aload_n 0, 1) := by decide +kernel
theorem dX6_addTrill_108 : decode cX6_addTrill 108 = .ok (.getfield 83, 3) := by decide +kernel
theorem dX6_addTrill_111 : decode cX6_addTrill 111 = .ok (.aload_n 0, 1) := by decide +kernel
theorem dX6_addTrill_112 : decode cX6_addTrill 112 = .ok (.getfield 57, 3) := by decide +kernel
theorem dX6_addTrill_115 : decode cX6_addTrill 115 = .ok (.iload_n 2, 1) := by decide +kernel
theorem dX6_addTrill_116 : decode cX6_addTrill 116 = .ok (.invokevirtual 155, 3) := by decide +kernel
theorem dX6_addTrill_119 : decode cX6_addTrill 119 = .ok (.iload 4, 2) := by decide +kernel
theorem dX6_addTrill_121 : decode cX6_addTrill 121 = .ok (.ifCond .ne 7, 3) := by decide +kernel
theorem dX6_addTrill_124 : decode cX6_addTrill 124 = .ok (.iconst 1, 1) := by decide +kernel
theorem dX6_addTrill_125 : decode cX6_addTrill 125 = .ok (.goto 4, 3) := by decide +kernel
theorem dX6_addTrill_128 : decode cX6_addTrill 128 = .ok (.iconst 0, 1) := by decide +kernel
theorem dX6_addTrill_129 : decode cX6_addTrill 129 = .ok (.istore 4, 2) := by decide +kernel
theorem dX6_addTrill_131 : decode cX6_addTrill 131 = .ok (.iinc 6 1, 3) := by decide +kernel
theorem dX6_addTrill_134 : decode cX6_addTrill 134 = .ok (.goto (-49), 3) := by decide +kernel
theorem dX6_addTrill_137 : decode cX6_addTrill 137 = .ok (.aload_n 0, 1) := by decide +kernel
theorem dX6_addTrill_138 : decode cX6_addTrill 138 = .ok (.iconst 2, 1) := by decide +kernel
theorem dX6_addTrill_139 : decode cX6_addTrill 139 = .ok (.aload_n 0, 1) := by decide +kernel
theorem dX6_addTrill_140 : decode cX6_addTrill 140 = .ok (.getfield 83, 3) := by decide +kernel
theorem dX6_addTrill_143 : decode cX6_addTrill 143 = .ok (.aload_n 0, 1) := by decide +kernel
theorem dX6_addTrill_144 : decode cX6_addTrill 144 = .ok (.getfield 57, 3) := by decide +kernel
theorem dX6_addTrill_147 : decode cX6_addTrill 147 = .ok (.aload_n 0, 1) := by decide +kernel
theorem dX6_addTrill_148 : decode cX6_addTrill 148 = .ok (.getfield 47, 3) := by decide +kernel
theorem dX6_addTrill_151 : decode cX6_addTrill 151 = .ok (.invokevirtual 155, 3) := by decide +kernel
theorem dX6_addTrill_154 : decode cX6_addTrill 154 = .ok (.iconst 1, 1) := by decide +kernel
theorem dX6_addTrill_155 : decode cX6_addTrill 155 = .ok (.ireturn, 1) := by decide +kernel
set_option maxRecDepth 20000 in
theorem ggX6_addTurn_X8_numberFor : GoodIn wsX6_addTurn wsX8_numberFor := goodIn_r _ [13, 14, 15, 16, 17, 12, 18, 19, 44, 45, 46, 47] (by decide +kernel) (by decide +kernel)
set_option maxRecDepth 20000 in
theorem gX6_addTurn_X8_numberFor : GoodIn wsX6_addTurn (wsV RX6 97 RX8 yX8_numberFor wsX8_numberFor) := goodIn_app (goodIn_of _ (by decide +kernel)) ggX6_addTurn_X8_numberFor
set_option maxRecDepth 20000 in
theorem ggX6_addTurn_X6_addPart : GoodIn wsX6_addTurn wsX6_addPart := goodIn_r _ [24, 25, 26, 27, 2, 1, 28, 29, 30, 31, 32, 33, 34, 35, 36, 37, 38, 39, 40, 41, 42, 43, 48, 49, 50] (by decide +kernel) (by decide +kernel)
set_option maxRecDepth 20000 in
theorem gX6_addTurn_X6_addPart : GoodIn wsX6_addTurn (wsV RX6 155 RX6 yX6_addPart wsX6_addPart) := goodIn_app (goodIn_of _ (by decide +kernel)) ggX6_addTurn_X6_addPart
theorem dX6_addTurn_0 : decode cX6_addTurn 0 = .ok (.aload_n 0, 1) := by decide +kernel
theorem dX6_addTurn_1 : decode cX6_addTurn 1 = .ok (.getfield 47, 3) := by decide +kernel
theorem dX6_addTurn_4 : decode cX6_addTurn 4 = .ok (.iconst 3, 1) := by decide +kernel
theorem dX6_addTurn_5 : decode cX6_addTurn 5 = .ok (.if_icmp .ge 5, 3) := by decide +kernel
theorem dX6_addTurn_8 : decode cX6_addTurn 8 = .ok (.iconst 0, 1) := by decide +kernel
theorem dX6_addTurn_9 : decode cX6_addTurn 9 = .ok (.ireturn, 1) := by decide +kernel
theorem dX6_addTurn_10 : decode cX6_addTurn 10 = .ok (.aload_n 1, 1) := by decide +kernel
theorem dX6_addTurn_11 : decode cX6_addTurn 11 = .ok (.aload_n 0, 1) := by decide +kernel
theorem dX6_addTurn_12 : decode cX6_addTurn 12 = .ok (.getfield 77, 3) := by decide +kernel
theorem dX6_addTurn_15 : decode cX6_addTurn 15 = .ok (.bipush 9, 2) := by decide +kernel
theorem dX6_addTurn_17 : decode cX6_addTurn 17 = .ok (.invokevirtual 97, 3) := by decide +kernel
theorem dX6_addTurn_20 : decode cX6_addTurn 20 = .ok (.aload_n 0, 1) := by decide +kernel
theorem dX6_addTurn_21 : decode cX6_addTurn 21 = .ok (.getfield 47, 3) := by decide +kernel
theorem dX6_addTurn_24 : decode cX6_addTurn 24 = .ok (.iconst 3, 1) := by decide +kernel
theorem dX6_addTurn_25 : decode cX6_addTurn 25 = .ok (.idiv, 1) := by decide +kernel
theorem dX6_addTurn_26 : decode cX6_addTurn 26 = .ok (.invokestatic 103, 3) := by decide +kernel
theorem dX6_addTurn_29 : decode cX6_addTurn 29 = .ok (.istore_n 2, 1) := by decide +kernel
theorem dX6_addTurn_30 : decode cX6_addTurn 30 = .ok (.aload_n 0, 1) := by decide +kernel
theorem dX6_addTurn_31 : decode cX6_addTurn 31 = .ok (.iconst 3, 1) := by decide +kernel
theorem dX6_addTurn_32 : decode cX6_addTurn 32 = .ok (.aload_n 0, 1) := by decide +kernel
theorem dX6_addTurn_33 : decode cX6_addTurn 33 = .ok (.getfield 83, 3) := by decide +kernel
theorem dX6_addTurn_36 : decode cX6_addTurn 36 = .ok (.aload_n 0, 1) := by decide +kernel
theorem dX6_addTurn_37 : decode cX6_addTurn 37 = .ok (.getfield 57, 3) := by decide +kernel
theorem dX6_addTurn_40 : decode cX6_addTurn 40 = .ok (.iload_n 2, 1) := by decide +kernel
theorem dX6_addTurn_41 : decode cX6_addTurn 41 = .ok (.invokevirtual 155, 3) := by decide +kernel
theorem dX6_addTurn_44 : decode cX6_addTurn 44 = .ok (.aload_n 0, 1) := by decide +kernel
theorem dX6_addTurn_45 : decode cX6_addTurn 45 = .ok (.iconst 3, 1) := by decide +kernel
theorem dX6_addTurn_46 : decode cX6_addTurn 46 = .ok (.aload_n 0, 1) := by decide +kernel
theorem dX6_addTurn_47 : decode cX6_addTurn 47 = .ok (.getfield 83, 3) := by decide +kernel
theorem dX6_addTurn_50 : decode cX6_addTurn 50 = .ok (.iconst 2, 1) := by decide +kernel
theorem dX6_addTurn_51 : decode cX6_addTurn 51 = .ok (.isub, 1) := by decide +kernel
theorem dX6_addTurn_52 : decode cX6_addTurn 52 = .ok (.aload_n 0, 1) := by decide +kernel
theorem dX6_addTurn_53 : decode cX6_addTurn 53 = .ok (.getfield 57, 3) := by decide +kernel
theorem dX6_addTurn_56 : decode cX6_addTurn 56 = .ok (.iload_n 2, 1) := by decide +kernel
theorem dX6_addTurn_57 : decode cX6_addTurn 57 = .ok (.invokevirtual 155, 3) := by decide +kernel
theorem dX6_addTurn_60 : decode cX6_addTurn 60 = .ok (.aload_n 0, 1) := by decide +kernel
theorem dX6_addTurn_61 : decode cX6_addTurn 61 = .ok (.iconst 3, 1) := by decide +kernel
theorem dX6_addTurn_62 : decode cX6_addTurn 62 = .ok (.aload_n 0, 1) := by decide +kernel
theorem dX6_addTurn_63 : decode cX6_addTurn 63 = .ok (.getfield 83, 3) := by decide +kernel
theorem dX6_addTurn_66 : decode cX6_addTurn 66 = .ok (.aload_n 0, 1) := by decide +kernel
theorem dX6_addTurn_67 : decode cX6_addTurn 67 = .ok (.getfield 57, 3) := by decide +kernel
theorem dX6_addTurn_70 : decode cX6_addTurn 70 = .ok (.aload_n 0, 1) := by decide +kernel
theorem dX6_addTurn_71 : decode cX6_addTurn 71 = .ok (.getfield 47, 3) := by decide +kernel
theorem dX6_addTurn_74 : decode cX6_addTurn 74 = .ok (.invokevirtual 155, 3) := by decide +kernel
theorem dX6_addTurn_77 : decode cX6_addTurn 77 = .ok (.iconst 1, 1) := by decide +kernel
theorem dX6_addTurn_78 : decode cX6_addTurn 78 = .ok (.ireturn, 1) := by decide +kernel
set_option maxRecDepth 20000 in
theorem ggX6_addPart_X1_add : GoodIn wsX6_addPart wsX1_add := goodIn_r _ [10, 11, 12, 13, 22, 23, 24] (by decide +kernel) (by decide +kernel)
set_option maxRecDepth 20000 in
theorem gX6_addPart_X1_add : GoodIn wsX6_addPart (wsV RX6 168 RX1 yX1_add wsX1_add) := goodIn_app (goodIn_of _ (by decide +kernel)) ggX6_addPart_X1_add
theorem dX6_addPart_0 : decode cX6_addPart 0 = .ok (.aload_n 0, 1) := by decide +kernel
theorem dX6_addPart_1 : decode cX6_addPart 1 = .ok (.getfield 10, 3) := by decide +kernel
theorem dX6_addPart_4 : decode cX6_addPart 4 = .ok (.aload_n 0, 1) := by decide +kernel
theorem dX6_addPart_5 : decode cX6_addPart 5 = .ok (.getfield 64, 3) := by decide +kernel
theorem dX6_addPart_8 : decode cX6_addPart 8 = .ok (.iload 4, 2) := by decide +kernel
theorem dX6_addPart_10 : decode cX6_addPart 10 = .ok (.iload_n 2, 1) := by decide +kernel
theorem dX6_addPart_11 : decode cX6_addPart 11 = .ok (.iload_n 3, 1) := by decide +kernel
theorem dX6_addPart_12 : decode cX6_addPart 12 = .ok (.aload_n 0, 1) := by decide +kernel
theorem dX6_addPart_13 : decode cX6_addPart 13 = .ok (.getfield 71, 3) := by decide +kernel
theorem dX6_addPart_16 : decode cX6_addPart 16 = .ok (.iload_n 1, 1) := by decide +kernel
theorem dX6_addPart_17 : decode cX6_addPart 17 = .ok (.aload_n 0, 1) := by decide +kernel
theorem dX6_addPart_18 : decode cX6_addPart 18 = .ok (.getfield 77, 3) := by decide +kernel
theorem dX6_addPart_21 : decode cX6_addPart 21 = .ok (.invokevirtual 168, 3) := by decide +kernel
theorem dX6_addPart_24 : decode cX6_addPart 24 = .ok (.aload_n 0, 1) := by decide +kernel
theorem dX6_addPart_25 : decode cX6_addPart 25 = .ok (.dup, 1) := by decide +kernel
theorem dX6_addPart_26 : decode cX6_addPart 26 = .ok (.getfield 64, 3) := by decide +kernel
theorem dX6_addPart_29 : decode cX6_addPart 29 = .ok (.iload 4, 2) := by decide +kernel
theorem dX6_addPart_31 : decode cX6_addPart 31 = .ok (.iadd, 1) := by decide +kernel
theorem dX6_addPart_32 : decode cX6_addPart 32 = .ok (.putfield 64, 3) := by decide +kernel
theorem dX6_addPart_35 : decode cX6_addPart 35 = .ok (.aload_n 0, 1) := by decide +kernel
theorem dX6_addPart_36 : decode cX6_addPart 36 = .ok (.dup, 1) := by decide +kernel
theorem dX6_addPart_37 : decode cX6_addPart 37 = .ok (.getfield 47, 3) := by decide +kernel
theorem dX6_addPart_40 : decode cX6_addPart 40 = .ok (.iload 4, 2) := by decide +kernel
theorem dX6_addPart_42 : decode cX6_addPart 42 = .ok (.isub, 1) := by decide +kernel
theorem dX6_addPart_43 : decode cX6_addPart 43 = .ok (.putfield 47, 3) := by decide +kernel
theorem dX6_addPart_46 : decode cX6_addPart 46 = .ok (.return_, 1) := by decide +kernel
theorem dX7_init_0 : decode cX7_init 0 = .ok (.aload_n 0, 1) := by decide +kernel
theorem dX7_init_1 : decode cX7_init 1 = .ok (.invokespecial 3, 3) := by decide +kernel
theorem dX7_init_4 : decode cX7_init 4 = .ok (.return_, 1) := by decide +kernel
set_option maxRecDepth 20000 in
theorem ggX7_findFault_X8_dropStaged : GoodIn wsX7_findFault wsX8_dropStaged := goodIn_r _ [8, 9, 10, 118, 119, 120, 121] (by decide +kernel) (by decide +kernel)
set_option maxRecDepth 20000 in
theorem gX7_findFault_X8_dropStaged : GoodIn wsX7_findFault (wsV RX7 9 RX8 yX8_dropStaged wsX8_dropStaged) := goodIn_app (goodIn_of _ (by decide +kernel)) ggX7_findFault_X8_dropStaged
set_option maxRecDepth 20000 in
theorem ggX7_findFault_X7_takePiece : GoodIn wsX7_findFault wsX7_takePiece := goodIn_r _ [15, 1, 3, 2, 16, 17, 14, 18, 19, 20, 21, 22, 23, 24, 25, 26, 27, 28, 114, 115, 116, 117, 122, 123] (by decide +kernel) (by decide +kernel)
set_option maxRecDepth 20000 in
theorem gX7_findFault_X7_takePiece : GoodIn wsX7_findFault (wsV RX7 20 RX7 yX7_takePiece wsX7_takePiece) := goodIn_app (goodIn_of _ (by decide +kernel)) ggX7_findFault_X7_takePiece
set_option maxRecDepth 20000 in
theorem ggX7_findFault_X7_takeRule : GoodIn wsX7_findFault wsX7_takeRule := goodIn_r _ [32, 33, 3, 34, 35, 36, 7, 37, 10, 38, 39, 40, 14, 41, 2, 1, 42, 43, 44, 45, 46, 47, 48, 49, 50, 51, 52, 53, 19, 20, 21, 22, 23, 24, 25, 54, 55, 56, 57, 58, 59, 60, 61, 62, 63, 64, 65, 66, 67, 68, 69, 70, 71, 72, 73, 74, 75, 76, 77, 78, 79, 80, 81, 82, 83, 84, 85, 86, 87, 88, 89, 90, 11, 12, 13, 15, 16, 17, 18, 26, 27, 28, 91, 92, 93, 94, 95, 96, 97, 98, 99, 100, 101, 102, 103, 104, 105, 106, 107, 108, 109, 110, 111, 112, 113, 114, 115, 116, 117, 118, 119, 120, 121, 122, 123] (by decide +kernel) (by decide +kernel)
set_option maxRecDepth 20000 in
theorem gX7_findFault_X7_takeRule : GoodIn wsX7_findFault (wsV RX7 27 RX7 yX7_takeRule wsX7_takeRule) := goodIn_app (goodIn_of _ (by decide +kernel)) ggX7_findFault_X7_takeRule
theorem dX7_findFault_0 : decode cX7_findFault 0 = .ok (.aload_n 2, 1) := by decide +kernel
theorem dX7_findFault_1 : decode cX7_findFault 1 = .ok (.invokevirtual 9, 3) := by decide +kernel
theorem dX7_findFault_4 : decode cX7_findFault 4 = .ok (.aload_n 0, 1) := by decide +kernel
theorem dX7_findFault_5 : decode cX7_findFault 5 = .ok (.iconst 0, 1) := by decide +kernel
theorem dX7_findFault_6 : decode cX7_findFault 6 = .ok (.putfield 14, 3) := by decide +kernel
theorem dX7_findFault_9 : decode cX7_findFault 9 = .ok (.aload_n 0, 1) := by decide +kernel
theorem dX7_findFault_10 : decode cX7_findFault 10 = .ok (.aload_n 1, 1) := by decide +kernel
theorem dX7_findFault_11 : decode cX7_findFault 11 = .ok (.invokevirtual 20, 3) := by decide +kernel
theorem dX7_findFault_14 : decode cX7_findFault 14 = .ok (.iconst 0, 1) := by decide +kernel
theorem dX7_findFault_15 : decode cX7_findFault 15 = .ok (.istore_n 3, 1) := by decide +kernel
theorem dX7_findFault_16 : decode cX7_findFault 16 = .ok (.iload_n 3, 1) := by decide +kernel
theorem dX7_findFault_17 : decode cX7_findFault 17 = .ok (.bipush 24, 2) := by decide +kernel
theorem dX7_findFault_19 : decode cX7_findFault 19 = .ok (.if_icmp .gt 32, 3) := by decide +kernel
theorem dX7_findFault_22 : decode cX7_findFault 22 = .ok (.aload_n 0, 1) := by decide +kernel
theorem dX7_findFault_23 : decode cX7_findFault 23 = .ok (.getfield 24, 3) := by decide +kernel
theorem dX7_findFault_26 : decode cX7_findFault 26 = .ok (.ifCond .ne 5, 3) := by decide +kernel
theorem dX7_findFault_29 : decode cX7_findFault 29 = .ok (.iconst (-1), 1) := by decide +kernel
theorem dX7_findFault_30 : decode cX7_findFault 30 = .ok (.ireturn, 1) := by decide +kernel
theorem dX7_findFault_31 : decode cX7_findFault 31 = .ok (.aload_n 0, 1) := by decide +kernel
theorem dX7_findFault_32 : decode cX7_findFault 32 = .ok (.aload_n 1, 1) := by decide +kernel
theorem dX7_findFault_33 : decode cX7_findFault 33 = .ok (.aload_n 2, 1) := by decide +kernel
theorem dX7_findFault_34 : decode cX7_findFault 34 = .ok (.invokevirtual 27, 3) := by decide +kernel
theorem dX7_findFault_37 : decode cX7_findFault 37 = .ok (.ifCond .ne 8, 3) := by decide +kernel
theorem dX7_findFault_40 : decode cX7_findFault 40 = .ok (.aload_n 0, 1) := by decide +kernel
theorem dX7_findFault_41 : decode cX7_findFault 41 = .ok (.getfield 31, 3) := by decide +kernel
theorem dX7_findFault_44 : decode cX7_findFault 44 = .ok (.ireturn, 1) := by decide +kernel
theorem dX7_findFault_45 : decode cX7_findFault 45 = .ok (.iinc 3 1, 3) := by decide +kernel
theorem dX7_findFault_48 : decode cX7_findFault 48 = .ok (.goto (-32), 3) := by decide +kernel
theorem dX7_findFault_51 : decode cX7_findFault 51 = .ok (.aload_n 0, 1) := by decide +kernel
theorem dX7_findFault_52 : decode cX7_findFault 52 = .ok (.getfield 31, 3) := by decide +kernel
theorem dX7_findFault_55 : decode cX7_findFault 55 = .ok (.ireturn, 1) := by decide +kernel
set_option maxRecDepth 20000 in
theorem ggX7_takeRule_X8_areFull : GoodIn wsX7_takeRule wsX8_areFull := goodIn_r _ [7, 8, 109, 110, 111, 112] (by decide +kernel) (by decide +kernel)
set_option maxRecDepth 20000 in
theorem gX7_takeRule_X8_areFull : GoodIn wsX7_takeRule (wsV RX7 34 RX8 yX8_areFull wsX8_areFull) := goodIn_app (goodIn_of _ (by decide +kernel)) ggX7_takeRule_X8_areFull
set_option maxRecDepth 20000 in
theorem ggX7_takeRule_X7_isWord : GoodIn wsX7_takeRule wsX7_isWord := goodIn_r _ [13, 14, 15, 2, 16, 17, 18, 19, 20, 21, 22, 23, 24, 25, 26, 27, 28, 29, 30, 31, 32, 33, 34, 35, 36, 37, 38, 39, 40, 41, 42, 43, 44, 45, 46, 47, 48, 49, 50, 51, 52, 53, 54, 55, 56, 57, 58, 59, 60, 61, 62, 63, 64, 65, 66, 67, 68, 69, 70, 71, 105, 106, 107, 108, 113, 114] (by decide +kernel) (by decide +kernel)
set_option maxRecDepth 20000 in
theorem gX7_takeRule_X7_isWord : GoodIn wsX7_takeRule (wsV RX7 40 RX7 yX7_isWord wsX7_isWord) := goodIn_app (goodIn_of _ (by decide +kernel)) ggX7_takeRule_X7_isWord
set_option maxRecDepth 20000 in
theorem ggX7_takeRule_X7_takePiece : GoodIn wsX7_takeRule wsX7_takePiece := goodIn_r _ [75, 15, 2, 14, 76, 77, 12, 78, 28, 29, 30, 31, 32, 33, 34, 79, 80, 81, 105, 106, 107, 108, 113, 114] (by decide +kernel) (by decide +kernel)
set_option maxRecDepth 20000 in
theorem gX7_takeRule_X7_takePiece : GoodIn wsX7_takeRule (wsV RX7 20 RX7 yX7_takePiece wsX7_takePiece) := goodIn_app (goodIn_of _ (by decide +kernel)) ggX7_takeRule_X7_takePiece
set_option maxRecDepth 20000 in
theorem ggX7_takeRule_X7_takeNumber : GoodIn wsX7_takeRule wsX7_takeNumber := goodIn_r _ [85, 14, 1, 2, 15, 86, 87, 88, 89, 90, 28, 29, 30, 31, 32, 33, 34, 79, 80, 81, 72, 73, 74, 12, 75, 76, 77, 78, 105, 106, 107, 108, 113, 114] (by decide +kernel) (by decide +kernel)
set_option maxRecDepth 20000 in
theorem gX7_takeRule_X7_takeNumber : GoodIn wsX7_takeRule (wsV RX7 44 RX7 yX7_takeNumber wsX7_takeNumber) := goodIn_app (goodIn_of _ (by decide +kernel)) ggX7_takeRule_X7_takeNumber
set_option maxRecDepth 20000 in
theorem ggX7_takeRule_X7_nameThere : GoodIn wsX7_takeRule wsX7_nameThere := goodIn_r _ [94, 95, 96, 97, 98, 9, 10, 11, 12, 13, 14, 15, 2, 16, 17, 18, 19, 20, 21, 22, 23, 24, 25, 26, 27, 28, 29, 30, 31, 32, 33, 34, 35, 36, 37, 38, 39, 40, 41, 42, 43, 44, 45, 46, 47, 48, 49, 50, 51, 52, 53, 54, 55, 56, 57, 58, 59, 60, 61, 62, 63, 64, 65, 66, 67, 68, 69, 70, 71, 105, 106, 107, 108, 113, 114] (by decide +kernel) (by decide +kernel)
set_option maxRecDepth 20000 in
theorem gX7_takeRule_X7_nameThere : GoodIn wsX7_takeRule (wsV RX7 51 RX7 yX7_nameThere wsX7_nameThere) := goodIn_app (goodIn_of _ (by decide +kernel)) ggX7_takeRule_X7_nameThere
set_option maxRecDepth 20000 in
theorem ggX7_takeRule_X10_at : GoodIn wsX7_takeRule wsX10_at := goodIn_r _ [32, 33, 34, 113, 114] (by decide +kernel) (by decide +kernel)
set_option maxRecDepth 20000 in
theorem gX7_takeRule_X10_at : GoodIn wsX7_takeRule (wsV RX7 66 RX10 yX10_at wsX10_at) := goodIn_app (goodIn_of _ (by decide +kernel)) ggX7_takeRule_X10_at
set_option maxRecDepth 20000 in
theorem ggX7_takeRule_X8_stage : GoodIn wsX7_takeRule wsX8_stage := goodIn_r _ [102, 103, 8, 104, 4, 5, 6, 7, 109, 110, 111, 112] (by decide +kernel) (by decide +kernel)
set_option maxRecDepth 20000 in
theorem gX7_takeRule_X8_stage : GoodIn wsX7_takeRule (wsV RX7 72 RX8 yX8_stage wsX8_stage) := goodIn_app (goodIn_of _ (by decide +kernel)) ggX7_takeRule_X8_stage
theorem dX7_takeRule_0 : decode cX7_takeRule 0 = .ok (.iconst (-1), 1) := by decide +kernel
theorem dX7_takeRule_1 : decode cX7_takeRule 1 = .ok (.istore_n 3, 1) := by decide +kernel
theorem dX7_takeRule_2 : decode cX7_takeRule 2 = .ok (.iconst 0, 1) := by decide +kernel
theorem dX7_takeRule_3 : decode cX7_takeRule 3 = .ok (.istore 4, 2) := by decide +kernel
theorem dX7_takeRule_5 : decode cX7_takeRule 5 = .ok (.aload_n 2, 1) := by decide +kernel
theorem dX7_takeRule_6 : decode cX7_takeRule 6 = .ok (.invokevirtual 34, 3) := by decide +kernel
theorem dX7_takeRule_9 : decode cX7_takeRule 9 = .ok (.ifCond .eq 5, 3) := by decide +kernel
theorem dX7_takeRule_12 : decode cX7_takeRule 12 = .ok (.iconst 0, 1) := by decide +kernel
theorem dX7_takeRule_13 : decode cX7_takeRule 13 = .ok (.ireturn, 1) := by decide +kernel
theorem dX7_takeRule_14 : decode cX7_takeRule 14 = .ok (.aload_n 0, 1) := by decide +kernel
theorem dX7_takeRule_15 : decode cX7_takeRule 15 = .ok (.aload_n 1, 1) := by decide +kernel
theorem dX7_takeRule_16 : decode cX7_takeRule 16 = .ok (.ldc 38, 2) := by decide +kernel
theorem dX7_takeRule_18 : decode cX7_takeRule 18 = .ok (.invokevirtual 40, 3) := by decide +kernel
theorem dX7_takeRule_21 : decode cX7_takeRule 21 = .ok (.ifCond .eq 25, 3) := by decide +kernel
theorem dX7_takeRule_24 : decode cX7_takeRule 24 = .ok (.aload_n 0, 1) := by decide +kernel
theorem dX7_takeRule_25 : decode cX7_takeRule 25 = .ok (.aload_n 1, 1) := by decide +kernel
theorem dX7_takeRule_26 : decode cX7_takeRule 26 = .ok (.invokevirtual 20, 3) := by decide +kernel
theorem dX7_takeRule_29 : decode cX7_takeRule 29 = .ok (.aload_n 0, 1) := by decide +kernel
theorem dX7_takeRule_30 : decode cX7_takeRule 30 = .ok (.aload_n 1, 1) := by decide +kernel
theorem dX7_takeRule_31 : decode cX7_takeRule 31 = .ok (.iconst 0, 1) := by decide +kernel
theorem dX7_takeRule_32 : decode cX7_takeRule 32 = .ok (.iconst 3, 1) := by decide +kernel
theorem dX7_takeRule_33 : decode cX7_takeRule 33 = .ok (.invokevirtual 44, 3) := by decide +kernel
theorem dX7_takeRule_36 : decode cX7_takeRule 36 = .ok (.ifCond .ne 5, 3) := by decide +kernel
theorem dX7_takeRule_39 : decode cX7_takeRule 39 = .ok (.iconst 0, 1) := by decide +kernel
theorem dX7_takeRule_40 : decode cX7_takeRule 40 = .ok (.ireturn, 1) := by decide +kernel
theorem dX7_takeRule_41 : decode cX7_takeRule 41 = .ok (.aload_n 0, 1) := by decide +kernel
theorem dX7_takeRule_42 : decode cX7_takeRule 42 = .ok (.getfield 48, 3) := by decide +kernel
theorem dX7_takeRule_45 : decode cX7_takeRule 45 = .ok (.istore_n 3, 1) := by decide +kernel
theorem dX7_takeRule_46 : decode cX7_takeRule 46 = .ok (.aload_n 0, 1) := by decide +kernel
theorem dX7_takeRule_47 : decode cX7_takeRule 47 = .ok (.aload_n 1, 1) := by decide +kernel
theorem dX7_takeRule_48 : decode cX7_takeRule 48 = .ok (.invokevirtual 51, 3) := by decide +kernel
theorem dX7_takeRule_51 : decode cX7_takeRule 51 = .ok (.istore 5, 2) := by decide +kernel
theorem dX7_takeRule_53 : decode cX7_takeRule 53 = .ok (.iload 5, 2) := by decide +kernel
theorem dX7_takeRule_55 : decode cX7_takeRule 55 = .ok (.iconst (-1), 1) := by decide +kernel
theorem dX7_takeRule_56 : decode cX7_takeRule 56 = .ok (.if_icmp .ne 5, 3) := by decide +kernel
theorem dX7_takeRule_59 : decode cX7_takeRule 59 = .ok (.iconst 0, 1) := by decide +kernel
theorem dX7_takeRule_60 : decode cX7_takeRule 60 = .ok (.ireturn, 1) := by decide +kernel
theorem dX7_takeRule_61 : decode cX7_takeRule 61 = .ok (.aload_n 0, 1) := by decide +kernel
theorem dX7_takeRule_62 : decode cX7_takeRule 62 = .ok (.aload_n 1, 1) := by decide +kernel
theorem dX7_takeRule_63 : decode cX7_takeRule 63 = .ok (.invokevirtual 20, 3) := by decide +kernel
theorem dX7_takeRule_66 : decode cX7_takeRule 66 = .ok (.aload_n 0, 1) := by decide +kernel
theorem dX7_takeRule_67 : decode cX7_takeRule 67 = .ok (.aload_n 1, 1) := by decide +kernel
theorem dX7_takeRule_68 : decode cX7_takeRule 68 = .ok (.getstatic 55, 3) := by decide +kernel
theorem dX7_takeRule_71 : decode cX7_takeRule 71 = .ok (.iload 5, 2) := by decide +kernel
theorem dX7_takeRule_73 : decode cX7_takeRule 73 = .ok (.iaload, 1) := by decide +kernel
theorem dX7_takeRule_74 : decode cX7_takeRule 74 = .ok (.getstatic 61, 3) := by decide +kernel
theorem dX7_takeRule_77 : decode cX7_takeRule 77 = .ok (.iload 5, 2) := by decide +kernel
theorem dX7_takeRule_79 : decode cX7_takeRule 79 = .ok (.iaload, 1) := by decide +kernel
theorem dX7_takeRule_80 : decode cX7_takeRule 80 = .ok (.invokevirtual 44, 3) := by decide +kernel
theorem dX7_takeRule_83 : decode cX7_takeRule 83 = .ok (.ifCond .ne 5, 3) := by decide +kernel
theorem dX7_takeRule_86 : decode cX7_takeRule 86 = .ok (.iconst 0, 1) := by decide +kernel
theorem dX7_takeRule_87 : decode cX7_takeRule 87 = .ok (.ireturn, 1) := by decide +kernel
theorem dX7_takeRule_88 : decode cX7_takeRule 88 = .ok (.aload_n 0, 1) := by decide +kernel
theorem dX7_takeRule_89 : decode cX7_takeRule 89 = .ok (.getfield 48, 3) := by decide +kernel
theorem dX7_takeRule_92 : decode cX7_takeRule 92 = .ok (.istore 6, 2) := by decide +kernel
theorem dX7_takeRule_94 : decode cX7_takeRule 94 = .ok (.aload_n 0, 1) := by decide +kernel
theorem dX7_takeRule_95 : decode cX7_takeRule 95 = .ok (.aload_n 1, 1) := by decide +kernel
theorem dX7_takeRule_96 : decode cX7_takeRule 96 = .ok (.ldc 64, 2) := by decide +kernel
theorem dX7_takeRule_98 : decode cX7_takeRule 98 = .ok (.invokevirtual 40, 3) := by decide +kernel
theorem dX7_takeRule_101 : decode cX7_takeRule 101 = .ok (.ifCond .eq 27, 3) := by decide +kernel
theorem dX7_takeRule_104 : decode cX7_takeRule 104 = .ok (.aload_n 0, 1) := by decide +kernel
theorem dX7_takeRule_105 : decode cX7_takeRule 105 = .ok (.aload_n 1, 1) := by decide +kernel
theorem dX7_takeRule_106 : decode cX7_takeRule 106 = .ok (.invokevirtual 20, 3) := by decide +kernel
theorem dX7_takeRule_109 : decode cX7_takeRule 109 = .ok (.aload_n 0, 1) := by decide +kernel
theorem dX7_takeRule_110 : decode cX7_takeRule 110 = .ok (.aload_n 1, 1) := by decide +kernel
theorem dX7_takeRule_111 : decode cX7_takeRule 111 = .ok (.iconst 0, 1) := by decide +kernel
theorem dX7_takeRule_112 : decode cX7_takeRule 112 = .ok (.bipush 9, 2) := by decide +kernel
theorem dX7_takeRule_114 : decode cX7_takeRule 114 = .ok (.invokevirtual 44, 3) := by decide +kernel
theorem dX7_takeRule_117 : decode cX7_takeRule 117 = .ok (.ifCond .ne 5, 3) := by decide +kernel
theorem dX7_takeRule_120 : decode cX7_takeRule 120 = .ok (.iconst 0, 1) := by decide +kernel
theorem dX7_takeRule_121 : decode cX7_takeRule 121 = .ok (.ireturn, 1) := by decide +kernel
theorem dX7_takeRule_122 : decode cX7_takeRule 122 = .ok (.aload_n 0, 1) := by decide +kernel
theorem dX7_takeRule_123 : decode cX7_takeRule 123 = .ok (.getfield 48, 3) := by decide +kernel
theorem dX7_takeRule_126 : decode cX7_takeRule 126 = .ok (.istore 4, 2) := by decide +kernel
theorem dX7_takeRule_128 : decode cX7_takeRule 128 = .ok (.aload_n 1, 1) := by decide +kernel
theorem dX7_takeRule_129 : decode cX7_takeRule 129 = .ok (.aload_n 0, 1) := by decide +kernel
theorem dX7_takeRule_130 : decode cX7_takeRule 130 = .ok (.getfield 31, 3) := by decide +kernel
theorem dX7_takeRule_133 : decode cX7_takeRule 133 = .ok (.invokevirtual 66, 3) := by decide +kernel
theorem dX7_takeRule_136 : decode cX7_takeRule 136 = .ok (.bipush 59, 2) := by decide +kernel
theorem dX7_takeRule_138 : decode cX7_takeRule 138 = .ok (.if_icmp .eq 5, 3) := by decide +kernel
theorem dX7_takeRule_141 : decode cX7_takeRule 141 = .ok (.iconst 0, 1) := by decide +kernel
theorem dX7_takeRule_142 : decode cX7_takeRule 142 = .ok (.ireturn, 1) := by decide +kernel
theorem dX7_takeRule_143 : decode cX7_takeRule 143 = .ok (.aload_n 0, 1) := by decide +kernel
theorem dX7_takeRule_144 : decode cX7_takeRule 144 = .ok (.aload_n 1, 1) := by decide +kernel
theorem dX7_takeRule_145 : decode cX7_takeRule 145 = .ok (.invokevirtual 20, 3) := by decide +kernel
theorem dX7_takeRule_148 : decode cX7_takeRule 148 = .ok (.aload_n 2, 1) := by decide +kernel
theorem dX7_takeRule_149 : decode cX7_takeRule 149 = .ok (.iload_n 3, 1) := by decide +kernel
theorem dX7_takeRule_150 : decode cX7_takeRule 150 = .ok (.iload 5, 2) := by decide +kernel
theorem dX7_takeRule_152 : decode cX7_takeRule 152 = .ok (.iload 6, 2) := by decide +kernel
theorem dX7_takeRule_154 : decode cX7_takeRule 154 = .ok (.iload 4, 2) := by decide +kernel
theorem dX7_takeRule_156 : decode cX7_takeRule 156 = .ok (.invokevirtual 72, 3) := by decide +kernel
theorem dX7_takeRule_159 : decode cX7_takeRule 159 = .ok (.iconst 1, 1) := by decide +kernel
theorem dX7_takeRule_160 : decode cX7_takeRule 160 = .ok (.ireturn, 1) := by decide +kernel
set_option maxRecDepth 20000 in
theorem ggX7_takeNumber_X10_at : GoodIn wsX7_takeNumber wsX10_at := goodIn_r _ [14, 15, 16, 32, 33] (by decide +kernel) (by decide +kernel)
set_option maxRecDepth 20000 in
theorem gX7_takeNumber_X10_at : GoodIn wsX7_takeNumber (wsV RX7 66 RX10 yX10_at wsX10_at) := goodIn_app (goodIn_of _ (by decide +kernel)) ggX7_takeNumber_X10_at
set_option maxRecDepth 20000 in
theorem ggX7_takeNumber_X11_isWithin : GoodIn wsX7_takeNumber wsX11_isWithin := goodIn_r _ [19] (by decide +kernel) (by decide +kernel)
set_option maxRecDepth 20000 in
theorem gX7_takeNumber_X11_isWithin_n83 : GoodIn wsX7_takeNumber (wsX11_isWithin) := ggX7_takeNumber_X11_isWithin
set_option maxRecDepth 20000 in
theorem ggX7_takeNumber_X7_takePiece : GoodIn wsX7_takeNumber wsX7_takePiece := goodIn_r _ [24, 4, 3, 1, 25, 26, 23, 27, 10, 11, 12, 13, 14, 15, 16, 17, 18, 19, 28, 29, 30, 31, 32, 33] (by decide +kernel) (by decide +kernel)
set_option maxRecDepth 20000 in
theorem gX7_takeNumber_X7_takePiece : GoodIn wsX7_takeNumber (wsV RX7 20 RX7 yX7_takePiece wsX7_takePiece) := goodIn_app (goodIn_of _ (by decide +kernel)) ggX7_takeNumber_X7_takePiece
theorem dX7_takeNumber_0 : decode cX7_takeNumber 0 = .ok (.aload_n 0, 1) := by decide +kernel
theorem dX7_takeNumber_1 : decode cX7_takeNumber 1 = .ok (.getfield 24, 3) := by decide +kernel
theorem dX7_takeNumber_4 : decode cX7_takeNumber 4 = .ok (.iconst 3, 1) := by decide +kernel
theorem dX7_takeNumber_5 : decode cX7_takeNumber 5 = .ok (.if_icmp .eq 5, 3) := by decide +kernel
theorem dX7_takeNumber_8 : decode cX7_takeNumber 8 = .ok (.iconst 0, 1) := by decide +kernel
theorem dX7_takeNumber_9 : decode cX7_takeNumber 9 = .ok (.ireturn, 1) := by decide +kernel
theorem dX7_takeNumber_10 : decode cX7_takeNumber 10 = .ok (.aload_n 0, 1) := by decide +kernel
theorem dX7_takeNumber_11 : decode cX7_takeNumber 11 = .ok (.iconst 0, 1) := by decide +kernel
theorem dX7_takeNumber_12 : decode cX7_takeNumber 12 = .ok (.putfield 48, 3) := by decide +kernel
theorem dX7_takeNumber_15 : decode cX7_takeNumber 15 = .ok (.aload_n 0, 1) := by decide +kernel
theorem dX7_takeNumber_16 : decode cX7_takeNumber 16 = .ok (.getfield 31, 3) := by decide +kernel
theorem dX7_takeNumber_19 : decode cX7_takeNumber 19 = .ok (.istore 4, 2) := by decide +kernel
theorem dX7_takeNumber_21 : decode cX7_takeNumber 21 = .ok (.iload 4, 2) := by decide +kernel
theorem dX7_takeNumber_23 : decode cX7_takeNumber 23 = .ok (.aload_n 0, 1) := by decide +kernel
theorem dX7_takeNumber_24 : decode cX7_takeNumber 24 = .ok (.getfield 14, 3) := by decide +kernel
theorem dX7_takeNumber_27 : decode cX7_takeNumber 27 = .ok (.if_icmp .ge 35, 3) := by decide +kernel
theorem dX7_takeNumber_30 : decode cX7_takeNumber 30 = .ok (.aload_n 0, 1) := by decide +kernel
theorem dX7_takeNumber_31 : decode cX7_takeNumber 31 = .ok (.ldc 76, 2) := by decide +kernel
theorem dX7_takeNumber_33 : decode cX7_takeNumber 33 = .ok (.aload_n 0, 1) := by decide +kernel
theorem dX7_takeNumber_34 : decode cX7_takeNumber 34 = .ok (.getfield 48, 3) := by decide +kernel
theorem dX7_takeNumber_37 : decode cX7_takeNumber 37 = .ok (.bipush 10, 2) := by decide +kernel
theorem dX7_takeNumber_39 : decode cX7_takeNumber 39 = .ok (.imul, 1) := by decide +kernel
theorem dX7_takeNumber_40 : decode cX7_takeNumber 40 = .ok (.aload_n 1, 1) := by decide +kernel
theorem dX7_takeNumber_41 : decode cX7_takeNumber 41 = .ok (.iload 4, 2) := by decide +kernel
theorem dX7_takeNumber_43 : decode cX7_takeNumber 43 = .ok (.invokevirtual 66, 3) := by decide +kernel
theorem dX7_takeNumber_46 : decode cX7_takeNumber 46 = .ok (.iadd, 1) := by decide +kernel
theorem dX7_takeNumber_47 : decode cX7_takeNumber 47 = .ok (.bipush 48, 2) := by decide +kernel
theorem dX7_takeNumber_49 : decode cX7_takeNumber 49 = .ok (.isub, 1) := by decide +kernel
theorem dX7_takeNumber_50 : decode cX7_takeNumber 50 = .ok (.invokestatic 77, 3) := by decide +kernel
theorem dX7_takeNumber_53 : decode cX7_takeNumber 53 = .ok (.putfield 48, 3) := by decide +kernel
theorem dX7_takeNumber_56 : decode cX7_takeNumber 56 = .ok (.iinc 4 1, 3) := by decide +kernel
theorem dX7_takeNumber_59 : decode cX7_takeNumber 59 = .ok (.goto (-38), 3) := by decide +kernel
theorem dX7_takeNumber_62 : decode cX7_takeNumber 62 = .ok (.aload_n 0, 1) := by decide +kernel
theorem dX7_takeNumber_63 : decode cX7_takeNumber 63 = .ok (.getfield 48, 3) := by decide +kernel
theorem dX7_takeNumber_66 : decode cX7_takeNumber 66 = .ok (.iload_n 2, 1) := by decide +kernel
theorem dX7_takeNumber_67 : decode cX7_takeNumber 67 = .ok (.iload_n 3, 1) := by decide +kernel
theorem dX7_takeNumber_68 : decode cX7_takeNumber 68 = .ok (.invokestatic 83, 3) := by decide +kernel
theorem dX7_takeNumber_71 : decode cX7_takeNumber 71 = .ok (.ifCond .ne 5, 3) := by decide +kernel
theorem dX7_takeNumber_74 : decode cX7_takeNumber 74 = .ok (.iconst 0, 1) := by decide +kernel
theorem dX7_takeNumber_75 : decode cX7_takeNumber 75 = .ok (.ireturn, 1) := by decide +kernel
theorem dX7_takeNumber_76 : decode cX7_takeNumber 76 = .ok (.aload_n 0, 1) := by decide +kernel
theorem dX7_takeNumber_77 : decode cX7_takeNumber 77 = .ok (.aload_n 1, 1) := by decide +kernel
theorem dX7_takeNumber_78 : decode cX7_takeNumber 78 = .ok (.invokevirtual 20, 3) := by decide +kernel
theorem dX7_takeNumber_81 : decode cX7_takeNumber 81 = .ok (.iconst 1, 1) := by decide +kernel
theorem dX7_takeNumber_82 : decode cX7_takeNumber 82 = .ok (.ireturn, 1) := by decide +kernel
set_option maxRecDepth 20000 in
theorem ggX7_nameThere_X3_wordOf : GoodIn wsX7_nameThere wsX3_wordOf := goodIn_r _ [4] (by decide +kernel) (by decide +kernel)
set_option maxRecDepth 20000 in
theorem gX7_nameThere_X3_wordOf : GoodIn wsX7_nameThere (va_wsS RX7 87 yX3_wordOf wsX3_wordOf) := goodIn_app (goodIn_of _ (by decide +kernel)) ggX7_nameThere_X3_wordOf
set_option maxRecDepth 20000 in
theorem ggX7_nameThere_X7_isWord : GoodIn wsX7_nameThere wsX7_isWord := goodIn_r _ [9, 10, 11, 12, 13, 14, 15, 16, 17, 18, 19, 20, 21, 22, 23, 24, 25, 26, 27, 28, 29, 30, 31, 32, 33, 34, 35, 36, 37, 38, 39, 40, 41, 42, 43, 44, 45, 46, 47, 48, 49, 50, 51, 52, 53, 54, 55, 56, 57, 58, 59, 60, 61, 62, 63, 64, 65, 66, 67, 68, 69, 70, 71, 72, 73, 74] (by decide +kernel) (by decide +kernel)
set_option maxRecDepth 20000 in
theorem gX7_nameThere_X7_isWord : GoodIn wsX7_nameThere (wsV RX7 40 RX7 yX7_isWord wsX7_isWord) := goodIn_app (goodIn_of _ (by decide +kernel)) ggX7_nameThere_X7_isWord
theorem dX7_nameThere_0 : decode cX7_nameThere 0 = .ok (.iconst 0, 1) := by decide +kernel
theorem dX7_nameThere_1 : decode cX7_nameThere 1 = .ok (.istore_n 2, 1) := by decide +kernel
theorem dX7_nameThere_2 : decode cX7_nameThere 2 = .ok (.iload_n 2, 1) := by decide +kernel
theorem dX7_nameThere_3 : decode cX7_nameThere 3 = .ok (.bipush 13, 2) := by decide +kernel
theorem dX7_nameThere_5 : decode cX7_nameThere 5 = .ok (.if_icmp .ge 23, 3) := by decide +kernel
theorem dX7_nameThere_8 : decode cX7_nameThere 8 = .ok (.aload_n 0, 1) := by decide +kernel
theorem dX7_nameThere_9 : decode cX7_nameThere 9 = .ok (.aload_n 1, 1) := by decide +kernel
theorem dX7_nameThere_10 : decode cX7_nameThere 10 = .ok (.iload_n 2, 1) := by decide +kernel
theorem dX7_nameThere_11 : decode cX7_nameThere 11 = .ok (.invokestatic 87, 3) := by decide +kernel
theorem dX7_nameThere_14 : decode cX7_nameThere 14 = .ok (.invokevirtual 40, 3) := by decide +kernel
theorem dX7_nameThere_17 : decode cX7_nameThere 17 = .ok (.ifCond .eq 5, 3) := by decide +kernel
theorem dX7_nameThere_20 : decode cX7_nameThere 20 = .ok (.iload_n 2, 1) := by decide +kernel
theorem dX7_nameThere_21 : decode cX7_nameThere 21 = .ok (.ireturn, 1) := by decide +kernel
theorem dX7_nameThere_22 : decode cX7_nameThere 22 = .ok (.iinc 2 1, 3) := by decide +kernel
theorem dX7_nameThere_25 : decode cX7_nameThere 25 = .ok (.goto (-23), 3) := by decide +kernel
theorem dX7_nameThere_28 : decode cX7_nameThere 28 = .ok (.iconst (-1), 1) := by decide +kernel
theorem dX7_nameThere_29 : decode cX7_nameThere 29 = .ok (.ireturn, 1) := by decide +kernel
set_option maxRecDepth 20000 in
theorem ggX7_isWord_J0_length_8abf5 : GoodIn wsX7_isWord wsJ0_length_8abf5 := goodIn_r _ [8, 9, 10, 11, 12, 7, 13, 14, 15] (by decide +kernel) (by decide +kernel)
set_option maxRecDepth 20000 in
theorem gX7_isWord_J0_length_8abf5 : GoodIn wsX7_isWord (wsV RX7 91 RJ0 yJ0_length_8abf5 wsJ0_length_8abf5) := goodIn_app (goodIn_of _ (by decide +kernel)) ggX7_isWord_J0_length_8abf5
set_option maxRecDepth 20000 in
theorem ggX7_isWord_X10_at : GoodIn wsX7_isWord wsX10_at := goodIn_r _ [20, 21, 22, 64, 65] (by decide +kernel) (by decide +kernel)
set_option maxRecDepth 20000 in
theorem gX7_isWord_X10_at : GoodIn wsX7_isWord (wsV RX7 66 RX10 yX10_at wsX10_at) := goodIn_app (goodIn_of _ (by decide +kernel)) ggX7_isWord_X10_at
set_option maxRecDepth 20000 in
theorem ggX7_isWord_J0_charAt_5068e : GoodIn wsX7_isWord wsJ0_charAt_5068e := goodIn_r _ [26, 9, 27, 28, 29, 7, 30, 14, 15, 31, 32, 33, 34, 35, 36, 37, 38, 39, 40, 41, 42, 43, 44, 45, 46, 47, 48, 49, 50, 51, 52, 53, 54, 55, 56, 57, 58, 59] (by decide +kernel) (by decide +kernel)
set_option maxRecDepth 20000 in
theorem gX7_isWord_J0_charAt_5068e : GoodIn wsX7_isWord (wsV RX7 97 RJ0 yJ0_charAt_5068e wsJ0_charAt_5068e) := goodIn_app (goodIn_of _ (by decide +kernel)) ggX7_isWord_J0_charAt_5068e
theorem dX7_isWord_0 : decode cX7_isWord 0 = .ok (.aload_n 0, 1) := by decide +kernel
theorem dX7_isWord_1 : decode cX7_isWord 1 = .ok (.getfield 24, 3) := by decide +kernel
theorem dX7_isWord_4 : decode cX7_isWord 4 = .ok (.iconst 2, 1) := by decide +kernel
theorem dX7_isWord_5 : decode cX7_isWord 5 = .ok (.if_icmp .ne 19, 3) := by decide +kernel
theorem dX7_isWord_8 : decode cX7_isWord 8 = .ok (.aload_n 0, 1) := by decide +kernel
theorem dX7_isWord_9 : decode cX7_isWord 9 = .ok (.getfield 14, 3) := by decide +kernel
theorem dX7_isWord_12 : decode cX7_isWord 12 = .ok (.aload_n 0, 1) := by decide +kernel
theorem dX7_isWord_13 : decode cX7_isWord 13 = .ok (.getfield 31, 3) := by decide +kernel
theorem dX7_isWord_16 : decode cX7_isWord 16 = .ok (.isub, 1) := by decide +kernel
theorem dX7_isWord_17 : decode cX7_isWord 17 = .ok (.aload_n 2, 1) := by decide +kernel
theorem dX7_isWord_18 : decode cX7_isWord 18 = .ok (.invokevirtual 91, 3) := by decide +kernel
theorem dX7_isWord_21 : decode cX7_isWord 21 = .ok (.if_icmp .eq 5, 3) := by decide +kernel
theorem dX7_isWord_24 : decode cX7_isWord 24 = .ok (.iconst 0, 1) := by decide +kernel
theorem dX7_isWord_25 : decode cX7_isWord 25 = .ok (.ireturn, 1) := by decide +kernel
theorem dX7_isWord_26 : decode cX7_isWord 26 = .ok (.iconst 0, 1) := by decide +kernel
theorem dX7_isWord_27 : decode cX7_isWord 27 = .ok (.istore_n 3, 1) := by decide +kernel
theorem dX7_isWord_28 : decode cX7_isWord 28 = .ok (.iload_n 3, 1) := by decide +kernel
theorem dX7_isWord_29 : decode cX7_isWord 29 = .ok (.aload_n 2, 1) := by decide +kernel
theorem dX7_isWord_30 : decode cX7_isWord 30 = .ok (.invokevirtual 91, 3) := by decide +kernel
theorem dX7_isWord_33 : decode cX7_isWord 33 = .ok (.if_icmp .ge 29, 3) := by decide +kernel
theorem dX7_isWord_36 : decode cX7_isWord 36 = .ok (.aload_n 1, 1) := by decide +kernel
theorem dX7_isWord_37 : decode cX7_isWord 37 = .ok (.aload_n 0, 1) := by decide +kernel
theorem dX7_isWord_38 : decode cX7_isWord 38 = .ok (.getfield 31, 3) := by decide +kernel
theorem dX7_isWord_41 : decode cX7_isWord 41 = .ok (.iload_n 3, 1) := by decide +kernel
theorem dX7_isWord_42 : decode cX7_isWord 42 = .ok (.iadd, 1) := by decide +kernel
theorem dX7_isWord_43 : decode cX7_isWord 43 = .ok (.invokevirtual 66, 3) := by decide +kernel
theorem dX7_isWord_46 : decode cX7_isWord 46 = .ok (.aload_n 2, 1) := by decide +kernel
theorem dX7_isWord_47 : decode cX7_isWord 47 = .ok (.iload_n 3, 1) := by decide +kernel
theorem dX7_isWord_48 : decode cX7_isWord 48 = .ok (.invokevirtual 97, 3) := by decide +kernel
theorem dX7_isWord_51 : decode cX7_isWord 51 = .ok (.if_icmp .eq 5, 3) := by decide +kernel
theorem dX7_isWord_54 : decode cX7_isWord 54 = .ok (.iconst 0, 1) := by decide +kernel
theorem dX7_isWord_55 : decode cX7_isWord 55 = .ok (.ireturn, 1) := by decide +kernel
theorem dX7_isWord_56 : decode cX7_isWord 56 = .ok (.iinc 3 1, 3) := by decide +kernel
theorem dX7_isWord_59 : decode cX7_isWord 59 = .ok (.goto (-31), 3) := by decide +kernel
theorem dX7_isWord_62 : decode cX7_isWord 62 = .ok (.iconst 1, 1) := by decide +kernel
theorem dX7_isWord_63 : decode cX7_isWord 63 = .ok (.ireturn, 1) := by decide +kernel
set_option maxRecDepth 20000 in
theorem ggX7_takePiece_X7_kindAt : GoodIn wsX7_takePiece wsX7_kindAt := goodIn_r _ [7, 8, 9, 10, 11, 12, 13, 14, 15, 16, 17, 22, 23] (by decide +kernel) (by decide +kernel)
set_option maxRecDepth 20000 in
theorem gX7_takePiece_X7_kindAt : GoodIn wsX7_takePiece (va_wsS RX7 103 yX7_kindAt wsX7_kindAt) := goodIn_app (goodIn_of _ (by decide +kernel)) ggX7_takePiece_X7_kindAt
theorem dX7_takePiece_0 : decode cX7_takePiece 0 = .ok (.aload_n 0, 1) := by decide +kernel
theorem dX7_takePiece_1 : decode cX7_takePiece 1 = .ok (.aload_n 0, 1) := by decide +kernel
theorem dX7_takePiece_2 : decode cX7_takePiece 2 = .ok (.getfield 14, 3) := by decide +kernel
theorem dX7_takePiece_5 : decode cX7_takePiece 5 = .ok (.putfield 31, 3) := by decide +kernel
theorem dX7_takePiece_8 : decode cX7_takePiece 8 = .ok (.aload_n 0, 1) := by decide +kernel
theorem dX7_takePiece_9 : decode cX7_takePiece 9 = .ok (.getfield 31, 3) := by decide +kernel
theorem dX7_takePiece_12 : decode cX7_takePiece 12 = .ok (.aload_n 1, 1) := by decide +kernel
theorem dX7_takePiece_13 : decode cX7_takePiece 13 = .ok (.getfield 101, 3) := by decide +kernel
theorem dX7_takePiece_16 : decode cX7_takePiece 16 = .ok (.if_icmp .ge 28, 3) := by decide +kernel
theorem dX7_takePiece_19 : decode cX7_takePiece 19 = .ok (.aload_n 1, 1) := by decide +kernel
theorem dX7_takePiece_20 : decode cX7_takePiece 20 = .ok (.aload_n 0, 1) := by decide +kernel
theorem dX7_takePiece_21 : decode cX7_takePiece 21 = .ok (.getfield 31, 3) := by decide +kernel
theorem dX7_takePiece_24 : decode cX7_takePiece 24 = .ok (.invokestatic 103, 3) := by decide +kernel
theorem dX7_takePiece_27 : decode cX7_takePiece 27 = .ok (.iconst 1, 1) := by decide +kernel
theorem dX7_takePiece_28 : decode cX7_takePiece 28 = .ok (.if_icmp .ne 16, 3) := by decide +kernel
theorem dX7_takePiece_31 : decode cX7_takePiece 31 = .ok (.aload_n 0, 1) := by decide +kernel
theorem dX7_takePiece_32 : decode cX7_takePiece 32 = .ok (.dup, 1) := by decide +kernel
theorem dX7_takePiece_33 : decode cX7_takePiece 33 = .ok (.getfield 31, 3) := by decide +kernel
theorem dX7_takePiece_36 : decode cX7_takePiece 36 = .ok (.iconst 1, 1) := by decide +kernel
theorem dX7_takePiece_37 : decode cX7_takePiece 37 = .ok (.iadd, 1) := by decide +kernel
theorem dX7_takePiece_38 : decode cX7_takePiece 38 = .ok (.putfield 31, 3) := by decide +kernel
theorem dX7_takePiece_41 : decode cX7_takePiece 41 = .ok (.goto (-33), 3) := by decide +kernel
theorem dX7_takePiece_44 : decode cX7_takePiece 44 = .ok (.aload_n 0, 1) := by decide +kernel
theorem dX7_takePiece_45 : decode cX7_takePiece 45 = .ok (.aload_n 1, 1) := by decide +kernel
theorem dX7_takePiece_46 : decode cX7_takePiece 46 = .ok (.aload_n 0, 1) := by decide +kernel
theorem dX7_takePiece_47 : decode cX7_takePiece 47 = .ok (.getfield 31, 3) := by decide +kernel
theorem dX7_takePiece_50 : decode cX7_takePiece 50 = .ok (.invokestatic 103, 3) := by decide +kernel
theorem dX7_takePiece_53 : decode cX7_takePiece 53 = .ok (.putfield 24, 3) := by decide +kernel
theorem dX7_takePiece_56 : decode cX7_takePiece 56 = .ok (.aload_n 0, 1) := by decide +kernel
theorem dX7_takePiece_57 : decode cX7_takePiece 57 = .ok (.aload_n 0, 1) := by decide +kernel
theorem dX7_takePiece_58 : decode cX7_takePiece 58 = .ok (.getfield 24, 3) := by decide +kernel
theorem dX7_takePiece_61 : decode cX7_takePiece 61 = .ok (.ifCond .ne 10, 3) := by decide +kernel
theorem dX7_takePiece_64 : decode cX7_takePiece 64 = .ok (.aload_n 0, 1) := by decide +kernel
theorem dX7_takePiece_65 : decode cX7_takePiece 65 = .ok (.getfield 31, 3) := by decide +kernel
theorem dX7_takePiece_68 : decode cX7_takePiece 68 = .ok (.goto 9, 3) := by decide +kernel
theorem dX7_takePiece_71 : decode cX7_takePiece 71 = .ok (.aload_n 0, 1) := by decide +kernel
theorem dX7_takePiece_72 : decode cX7_takePiece 72 = .ok (.getfield 31, 3) := by decide +kernel
theorem dX7_takePiece_75 : decode cX7_takePiece 75 = .ok (.iconst 1, 1) := by decide +kernel
theorem dX7_takePiece_76 : decode cX7_takePiece 76 = .ok (.iadd, 1) := by decide +kernel
theorem dX7_takePiece_77 : decode cX7_takePiece 77 = .ok (.putfield 14, 3) := by decide +kernel
theorem dX7_takePiece_80 : decode cX7_takePiece 80 = .ok (.aload_n 0, 1) := by decide +kernel
theorem dX7_takePiece_81 : decode cX7_takePiece 81 = .ok (.getfield 24, 3) := by decide +kernel
theorem dX7_takePiece_84 : decode cX7_takePiece 84 = .ok (.iconst 2, 1) := by decide +kernel
theorem dX7_takePiece_85 : decode cX7_takePiece 85 = .ok (.if_icmp .eq 12, 3) := by decide +kernel
theorem dX7_takePiece_88 : decode cX7_takePiece 88 = .ok (.aload_n 0, 1) := by decide +kernel
theorem dX7_takePiece_89 : decode cX7_takePiece 89 = .ok (.getfield 24, 3) := by decide +kernel
theorem dX7_takePiece_92 : decode cX7_takePiece 92 = .ok (.iconst 3, 1) := by decide +kernel
theorem dX7_takePiece_93 : decode cX7_takePiece 93 = .ok (.if_icmp .eq 4, 3) := by decide +kernel
theorem dX7_takePiece_96 : decode cX7_takePiece 96 = .ok (.return_, 1) := by decide +kernel
theorem dX7_takePiece_97 : decode cX7_takePiece 97 = .ok (.aload_n 0, 1) := by decide +kernel
theorem dX7_takePiece_98 : decode cX7_takePiece 98 = .ok (.getfield 14, 3) := by decide +kernel
theorem dX7_takePiece_101 : decode cX7_takePiece 101 = .ok (.aload_n 1, 1) := by decide +kernel
theorem dX7_takePiece_102 : decode cX7_takePiece 102 = .ok (.getfield 101, 3) := by decide +kernel
theorem dX7_takePiece_105 : decode cX7_takePiece 105 = .ok (.if_icmp .ge 31, 3) := by decide +kernel
theorem dX7_takePiece_108 : decode cX7_takePiece 108 = .ok (.aload_n 1, 1) := by decide +kernel
theorem dX7_takePiece_109 : decode cX7_takePiece 109 = .ok (.aload_n 0, 1) := by decide +kernel
theorem dX7_takePiece_110 : decode cX7_takePiece 110 = .ok (.getfield 14, 3) := by decide +kernel
theorem dX7_takePiece_113 : decode cX7_takePiece 113 = .ok (.invokestatic 103, 3) := by decide +kernel
theorem dX7_takePiece_116 : decode cX7_takePiece 116 = .ok (.aload_n 0, 1) := by decide +kernel
theorem dX7_takePiece_117 : decode cX7_takePiece 117 = .ok (.getfield 24, 3) := by decide +kernel
theorem dX7_takePiece_120 : decode cX7_takePiece 120 = .ok (.if_icmp .ne 16, 3) := by decide +kernel
theorem dX7_takePiece_123 : decode cX7_takePiece 123 = .ok (.aload_n 0, 1) := by decide +kernel
theorem dX7_takePiece_124 : decode cX7_takePiece 124 = .ok (.dup, 1) := by decide +kernel
theorem dX7_takePiece_125 : decode cX7_takePiece 125 = .ok (.getfield 14, 3) := by decide +kernel
theorem dX7_takePiece_128 : decode cX7_takePiece 128 = .ok (.iconst 1, 1) := by decide +kernel
theorem dX7_takePiece_129 : decode cX7_takePiece 129 = .ok (.iadd, 1) := by decide +kernel
theorem dX7_takePiece_130 : decode cX7_takePiece 130 = .ok (.putfield 14, 3) := by decide +kernel
theorem dX7_takePiece_133 : decode cX7_takePiece 133 = .ok (.goto (-36), 3) := by decide +kernel
theorem dX7_takePiece_136 : decode cX7_takePiece 136 = .ok (.return_, 1) := by decide +kernel
set_option maxRecDepth 20000 in
theorem ggX7_kindAt_X10_at : GoodIn wsX7_kindAt wsX10_at := goodIn_r _ [5, 6, 7, 11, 12] (by decide +kernel) (by decide +kernel)
set_option maxRecDepth 20000 in
theorem gX7_kindAt_X10_at : GoodIn wsX7_kindAt (wsV RX7 66 RX10 yX10_at wsX10_at) := goodIn_app (goodIn_of _ (by decide +kernel)) ggX7_kindAt_X10_at
set_option maxRecDepth 20000 in
theorem ggX7_kindAt_X11_isWithin : GoodIn wsX7_kindAt wsX11_isWithin := goodIn_r _ [10] (by decide +kernel) (by decide +kernel)
set_option maxRecDepth 20000 in
theorem gX7_kindAt_X11_isWithin_n83 : GoodIn wsX7_kindAt (wsX11_isWithin) := ggX7_kindAt_X11_isWithin
theorem dX7_kindAt_0 : decode cX7_kindAt 0 = .ok (.aload_n 0, 1) := by decide +kernel
theorem dX7_kindAt_1 : decode cX7_kindAt 1 = .ok (.iload_n 1, 1) := by decide +kernel
theorem dX7_kindAt_2 : decode cX7_kindAt 2 = .ok (.invokevirtual 66, 3) := by decide +kernel
theorem dX7_kindAt_5 : decode cX7_kindAt 5 = .ok (.istore_n 2, 1) := by decide +kernel
theorem dX7_kindAt_6 : decode cX7_kindAt 6 = .ok (.iload_n 2, 1) := by decide +kernel
theorem dX7_kindAt_7 : decode cX7_kindAt 7 = .ok (.iconst (-1), 1) := by decide +kernel
theorem dX7_kindAt_8 : decode cX7_kindAt 8 = .ok (.if_icmp .ne 5, 3) := by decide +kernel
theorem dX7_kindAt_11 : decode cX7_kindAt 11 = .ok (.iconst 0, 1) := by decide +kernel
theorem dX7_kindAt_12 : decode cX7_kindAt 12 = .ok (.ireturn, 1) := by decide +kernel
theorem dX7_kindAt_13 : decode cX7_kindAt 13 = .ok (.iload_n 2, 1) := by decide +kernel
theorem dX7_kindAt_14 : decode cX7_kindAt 14 = .ok (.bipush 32, 2) := by decide +kernel
theorem dX7_kindAt_16 : decode cX7_kindAt 16 = .ok (.if_icmp .eq 9, 3) := by decide +kernel
theorem dX7_kindAt_19 : decode cX7_kindAt 19 = .ok (.iload_n 2, 1) := by decide +kernel
theorem dX7_kindAt_20 : decode cX7_kindAt 20 = .ok (.bipush 10, 2) := by decide +kernel
theorem dX7_kindAt_22 : decode cX7_kindAt 22 = .ok (.if_icmp .ne 5, 3) := by decide +kernel
theorem dX7_kindAt_25 : decode cX7_kindAt 25 = .ok (.iconst 1, 1) := by decide +kernel
theorem dX7_kindAt_26 : decode cX7_kindAt 26 = .ok (.ireturn, 1) := by decide +kernel
theorem dX7_kindAt_27 : decode cX7_kindAt 27 = .ok (.iload_n 2, 1) := by decide +kernel
theorem dX7_kindAt_28 : decode cX7_kindAt 28 = .ok (.bipush 97, 2) := by decide +kernel
theorem dX7_kindAt_30 : decode cX7_kindAt 30 = .ok (.bipush 122, 2) := by decide +kernel
theorem dX7_kindAt_32 : decode cX7_kindAt 32 = .ok (.invokestatic 83, 3) := by decide +kernel
theorem dX7_kindAt_35 : decode cX7_kindAt 35 = .ok (.ifCond .eq 5, 3) := by decide +kernel
theorem dX7_kindAt_38 : decode cX7_kindAt 38 = .ok (.iconst 2, 1) := by decide +kernel
theorem dX7_kindAt_39 : decode cX7_kindAt 39 = .ok (.ireturn, 1) := by decide +kernel
theorem dX7_kindAt_40 : decode cX7_kindAt 40 = .ok (.iload_n 2, 1) := by decide +kernel
theorem dX7_kindAt_41 : decode cX7_kindAt 41 = .ok (.bipush 48, 2) := by decide +kernel
theorem dX7_kindAt_43 : decode cX7_kindAt 43 = .ok (.bipush 57, 2) := by decide +kernel
theorem dX7_kindAt_45 : decode cX7_kindAt 45 = .ok (.invokestatic 83, 3) := by decide +kernel
theorem dX7_kindAt_48 : decode cX7_kindAt 48 = .ok (.ifCond .eq 7, 3) := by decide +kernel
theorem dX7_kindAt_51 : decode cX7_kindAt 51 = .ok (.iconst 3, 1) := by decide +kernel
theorem dX7_kindAt_52 : decode cX7_kindAt 52 = .ok (.goto 4, 3) := by decide +kernel
theorem dX7_kindAt_55 : decode cX7_kindAt 55 = .ok (.iconst 4, 1) := by decide +kernel
theorem dX7_kindAt_56 : decode cX7_kindAt 56 = .ok (.ireturn, 1) := by decide +kernel
set_option maxRecDepth 20000 in
theorem ggX8_init_X8_clear : GoodIn wsX8_init wsX8_clear := goodIn_r _ [12, 13, 14, 7, 15, 16, 17, 18] (by decide +kernel) (by decide +kernel)
set_option maxRecDepth 20000 in
theorem gX8_init_X8_clear : GoodIn wsX8_init (wsV RX8 22 RX8 yX8_clear wsX8_clear) := goodIn_app (goodIn_of _ (by decide +kernel)) ggX8_init_X8_clear
theorem dX8_init_0 : decode cX8_init 0 = .ok (.aload_n 0, 1) := by decide +kernel
theorem dX8_init_1 : decode cX8_init 1 = .ok (.invokespecial 3, 3) := by decide +kernel
theorem dX8_init_4 : decode cX8_init 4 = .ok (.aload_n 0, 1) := by decide +kernel
theorem dX8_init_5 : decode cX8_init 5 = .ok (.iconst 4, 1) := by decide +kernel
theorem dX8_init_6 : decode cX8_init 6 = .ok (.bipush 24, 2) := by decide +kernel
theorem dX8_init_8 : decode cX8_init 8 = .ok (.multianewarray 11 2, 4) := by decide +kernel
theorem dX8_init_12 : decode cX8_init 12 = .ok (.putfield 13, 3) := by decide +kernel
theorem dX8_init_15 : decode cX8_init 15 = .ok (.aload_n 0, 1) := by decide +kernel
theorem dX8_init_16 : decode cX8_init 16 = .ok (.bipush 52, 2) := by decide +kernel
theorem dX8_init_18 : decode cX8_init 18 = .ok (.newarray .int, 2) := by decide +kernel
theorem dX8_init_20 : decode cX8_init 20 = .ok (.putfield 18, 3) := by decide +kernel
theorem dX8_init_23 : decode cX8_init 23 = .ok (.aload_n 0, 1) := by decide +kernel
theorem dX8_init_24 : decode cX8_init 24 = .ok (.invokevirtual 22, 3) := by decide +kernel
theorem dX8_init_27 : decode cX8_init 27 = .ok (.pop, 1) := by decide +kernel
theorem dX8_init_28 : decode cX8_init 28 = .ok (.return_, 1) := by decide +kernel
theorem dX8_clear_0 : decode cX8_clear 0 = .ok (.aload_n 0, 1) := by decide +kernel
theorem dX8_clear_1 : decode cX8_clear 1 = .ok (.getfield 26, 3) := by decide +kernel
theorem dX8_clear_4 : decode cX8_clear 4 = .ok (.istore_n 1, 1) := by decide +kernel
theorem dX8_clear_5 : decode cX8_clear 5 = .ok (.aload_n 0, 1) := by decide +kernel
theorem dX8_clear_6 : decode cX8_clear 6 = .ok (.iconst 0, 1) := by decide +kernel
theorem dX8_clear_7 : decode cX8_clear 7 = .ok (.putfield 26, 3) := by decide +kernel
theorem dX8_clear_10 : decode cX8_clear 10 = .ok (.aload_n 0, 1) := by decide +kernel
theorem dX8_clear_11 : decode cX8_clear 11 = .ok (.iconst 0, 1) := by decide +kernel
theorem dX8_clear_12 : decode cX8_clear 12 = .ok (.putfield 30, 3) := by decide +kernel
theorem dX8_clear_15 : decode cX8_clear 15 = .ok (.iconst 0, 1) := by decide +kernel
theorem dX8_clear_16 : decode cX8_clear 16 = .ok (.istore_n 2, 1) := by decide +kernel
theorem dX8_clear_17 : decode cX8_clear 17 = .ok (.iload_n 2, 1) := by decide +kernel
theorem dX8_clear_18 : decode cX8_clear 18 = .ok (.aload_n 0, 1) := by decide +kernel
theorem dX8_clear_19 : decode cX8_clear 19 = .ok (.getfield 18, 3) := by decide +kernel
theorem dX8_clear_22 : decode cX8_clear 22 = .ok (.arraylength, 1) := by decide +kernel
theorem dX8_clear_23 : decode cX8_clear 23 = .ok (.if_icmp .ge 16, 3) := by decide +kernel
theorem dX8_clear_26 : decode cX8_clear 26 = .ok (.aload_n 0, 1) := by decide +kernel
theorem dX8_clear_27 : decode cX8_clear 27 = .ok (.getfield 18, 3) := by decide +kernel
theorem dX8_clear_30 : decode cX8_clear 30 = .ok (.iload_n 2, 1) := by decide +kernel
theorem dX8_clear_31 : decode cX8_clear 31 = .ok (.iconst (-1), 1) := by decide +kernel
theorem dX8_clear_32 : decode cX8_clear 32 = .ok (.iastore, 1) := by decide +kernel
theorem dX8_clear_33 : decode cX8_clear 33 = .ok (.iinc 2 1, 3) := by decide +kernel
theorem dX8_clear_36 : decode cX8_clear 36 = .ok (.goto (-19), 3) := by decide +kernel
theorem dX8_clear_39 : decode cX8_clear 39 = .ok (.iload_n 1, 1) := by decide +kernel
theorem dX8_clear_40 : decode cX8_clear 40 = .ok (.ireturn, 1) := by decide +kernel
set_option maxRecDepth 20000 in
theorem ggX8_has_X11_isWithin : GoodIn wsX8_has wsX11_isWithin := goodIn_r _ [4] (by decide +kernel) (by decide +kernel)
set_option maxRecDepth 20000 in
theorem gX8_has_X11_isWithin_n33 : GoodIn wsX8_has (wsX11_isWithin) := ggX8_has_X11_isWithin
theorem dX8_has_0 : decode cX8_has 0 = .ok (.iload_n 1, 1) := by decide +kernel
theorem dX8_has_1 : decode cX8_has 1 = .ok (.iconst 0, 1) := by decide +kernel
theorem dX8_has_2 : decode cX8_has 2 = .ok (.aload_n 0, 1) := by decide +kernel
theorem dX8_has_3 : decode cX8_has 3 = .ok (.getfield 26, 3) := by decide +kernel
theorem dX8_has_6 : decode cX8_has 6 = .ok (.iconst 1, 1) := by decide +kernel
theorem dX8_has_7 : decode cX8_has 7 = .ok (.isub, 1) := by decide +kernel
theorem dX8_has_8 : decode cX8_has 8 = .ok (.invokestatic 33, 3) := by decide +kernel
theorem dX8_has_11 : decode cX8_has 11 = .ok (.ireturn, 1) := by decide +kernel
theorem dX8_countingFor_0 : decode cX8_countingFor 0 = .ok (.aload_n 0, 1) := by decide +kernel
theorem dX8_countingFor_1 : decode cX8_countingFor 1 = .ok (.getfield 18, 3) := by decide +kernel
theorem dX8_countingFor_4 : decode cX8_countingFor 4 = .ok (.iload_n 1, 1) := by decide +kernel
theorem dX8_countingFor_5 : decode cX8_countingFor 5 = .ok (.bipush 13, 2) := by decide +kernel
theorem dX8_countingFor_7 : decode cX8_countingFor 7 = .ok (.imul, 1) := by decide +kernel
theorem dX8_countingFor_8 : decode cX8_countingFor 8 = .ok (.iload_n 2, 1) := by decide +kernel
theorem dX8_countingFor_9 : decode cX8_countingFor 9 = .ok (.iadd, 1) := by decide +kernel
theorem dX8_countingFor_10 : decode cX8_countingFor 10 = .ok (.iaload, 1) := by decide +kernel
theorem dX8_countingFor_11 : decode cX8_countingFor 11 = .ok (.ireturn, 1) := by decide +kernel
set_option maxRecDepth 20000 in
theorem ggX8_numberFor_X8_countingFor : GoodIn wsX8_numberFor wsX8_countingFor := goodIn_r _ [6, 7, 8, 9, 10, 11] (by decide +kernel) (by decide +kernel)
set_option maxRecDepth 20000 in
theorem gX8_numberFor_X8_countingFor : GoodIn wsX8_numberFor (wsV RX8 37 RX8 yX8_countingFor wsX8_countingFor) := goodIn_app (goodIn_of _ (by decide +kernel)) ggX8_numberFor_X8_countingFor
theorem dX8_numberFor_0 : decode cX8_numberFor 0 = .ok (.aload_n 0, 1) := by decide +kernel
theorem dX8_numberFor_1 : decode cX8_numberFor 1 = .ok (.iload_n 1, 1) := by decide +kernel
theorem dX8_numberFor_2 : decode cX8_numberFor 2 = .ok (.iload_n 2, 1) := by decide +kernel
theorem dX8_numberFor_3 : decode cX8_numberFor 3 = .ok (.invokevirtual 37, 3) := by decide +kernel
theorem dX8_numberFor_6 : decode cX8_numberFor 6 = .ok (.istore_n 3, 1) := by decide +kernel
theorem dX8_numberFor_7 : decode cX8_numberFor 7 = .ok (.iload_n 3, 1) := by decide +kernel
theorem dX8_numberFor_8 : decode cX8_numberFor 8 = .ok (.iconst (-1), 1) := by decide +kernel
theorem dX8_numberFor_9 : decode cX8_numberFor 9 = .ok (.if_icmp .ne 11, 3) := by decide +kernel
theorem dX8_numberFor_12 : decode cX8_numberFor 12 = .ok (.getstatic 41, 3) := by decide +kernel
theorem dX8_numberFor_15 : decode cX8_numberFor 15 = .ok (.iload_n 2, 1) := by decide +kernel
theorem dX8_numberFor_16 : decode cX8_numberFor 16 = .ok (.iaload, 1) := by decide +kernel
theorem dX8_numberFor_17 : decode cX8_numberFor 17 = .ok (.goto 11, 3) := by decide +kernel
theorem dX8_numberFor_20 : decode cX8_numberFor 20 = .ok (.aload_n 0, 1) := by decide +kernel
theorem dX8_numberFor_21 : decode cX8_numberFor 21 = .ok (.getfield 13, 3) := by decide +kernel
theorem dX8_numberFor_24 : decode cX8_numberFor 24 = .ok (.iconst 2, 1) := by decide +kernel
theorem dX8_numberFor_25 : decode cX8_numberFor 25 = .ok (.aaload, 1) := by decide +kernel
theorem dX8_numberFor_26 : decode cX8_numberFor 26 = .ok (.iload_n 3, 1) := by decide +kernel
theorem dX8_numberFor_27 : decode cX8_numberFor 27 = .ok (.iaload, 1) := by decide +kernel
theorem dX8_numberFor_28 : decode cX8_numberFor 28 = .ok (.ireturn, 1) := by decide +kernel
theorem dX8_dropStaged_0 : decode cX8_dropStaged 0 = .ok (.aload_n 0, 1) := by decide +kernel
theorem dX8_dropStaged_1 : decode cX8_dropStaged 1 = .ok (.aload_n 0, 1) := by decide +kernel
theorem dX8_dropStaged_2 : decode cX8_dropStaged 2 = .ok (.getfield 26, 3) := by decide +kernel
theorem dX8_dropStaged_5 : decode cX8_dropStaged 5 = .ok (.putfield 30, 3) := by decide +kernel
theorem dX8_dropStaged_8 : decode cX8_dropStaged 8 = .ok (.return_, 1) := by decide +kernel
theorem dX8_areFull_0 : decode cX8_areFull 0 = .ok (.aload_n 0, 1) := by decide +kernel
theorem dX8_areFull_1 : decode cX8_areFull 1 = .ok (.getfield 30, 3) := by decide +kernel
theorem dX8_areFull_4 : decode cX8_areFull 4 = .ok (.bipush 24, 2) := by decide +kernel
theorem dX8_areFull_6 : decode cX8_areFull 6 = .ok (.if_icmp .lt 7, 3) := by decide +kernel
theorem dX8_areFull_9 : decode cX8_areFull 9 = .ok (.iconst 1, 1) := by decide +kernel
theorem dX8_areFull_10 : decode cX8_areFull 10 = .ok (.goto 4, 3) := by decide +kernel
theorem dX8_areFull_13 : decode cX8_areFull 13 = .ok (.iconst 0, 1) := by decide +kernel
theorem dX8_areFull_14 : decode cX8_areFull 14 = .ok (.ireturn, 1) := by decide +kernel
set_option maxRecDepth 20000 in
theorem ggX8_stage_X8_areFull : GoodIn wsX8_stage wsX8_areFull := goodIn_r _ [7, 2, 8, 9, 10, 11] (by decide +kernel) (by decide +kernel)
set_option maxRecDepth 20000 in
theorem gX8_stage_X8_areFull : GoodIn wsX8_stage (wsV RX8 44 RX8 yX8_areFull wsX8_areFull) := goodIn_app (goodIn_of _ (by decide +kernel)) ggX8_stage_X8_areFull
theorem dX8_stage_0 : decode cX8_stage 0 = .ok (.aload_n 0, 1) := by decide +kernel
theorem dX8_stage_1 : decode cX8_stage 1 = .ok (.invokevirtual 44, 3) := by decide +kernel
theorem dX8_stage_4 : decode cX8_stage 4 = .ok (.ifCond .eq 4, 3) := by decide +kernel
theorem dX8_stage_7 : decode cX8_stage 7 = .ok (.return_, 1) := by decide +kernel
theorem dX8_stage_8 : decode cX8_stage 8 = .ok (.aload_n 0, 1) := by decide +kernel
theorem dX8_stage_9 : decode cX8_stage 9 = .ok (.getfield 13, 3) := by decide +kernel
theorem dX8_stage_12 : decode cX8_stage 12 = .ok (.iconst 0, 1) := by decide +kernel
theorem dX8_stage_13 : decode cX8_stage 13 = .ok (.aaload, 1) := by decide +kernel
theorem dX8_stage_14 : decode cX8_stage 14 = .ok (.aload_n 0, 1) := by decide +kernel
theorem dX8_stage_15 : decode cX8_stage 15 = .ok (.getfield 30, 3) := by decide +kernel
theorem dX8_stage_18 : decode cX8_stage 18 = .ok (.iload_n 1, 1) := by decide +kernel
theorem dX8_stage_19 : decode cX8_stage 19 = .ok (.iastore, 1) := by decide +kernel
theorem dX8_stage_20 : decode cX8_stage 20 = .ok (.aload_n 0, 1) := by decide +kernel
theorem dX8_stage_21 : decode cX8_stage 21 = .ok (.getfield 13, 3) := by decide +kernel
theorem dX8_stage_24 : decode cX8_stage 24 = .ok (.iconst 1, 1) := by decide +kernel
theorem dX8_stage_25 : decode cX8_stage 25 = .ok (.aaload, 1) := by decide +kernel
theorem dX8_stage_26 : decode cX8_stage 26 = .ok (.aload_n 0, 1) := by decide +kernel
theorem dX8_stage_27 : decode cX8_stage 27 = .ok (.getfield 30, 3) := by decide +kernel
theorem dX8_stage_30 : decode cX8_stage 30 = .ok (.iload_n 2, 1) := by decide +kernel
theorem dX8_stage_31 : decode cX8_stage 31 = .ok (.iastore, 1) := by decide +kernel
theorem dX8_stage_32 : decode cX8_stage 32 = .ok (.aload_n 0, 1) := by decide +kernel
theorem dX8_stage_33 : decode cX8_stage 33 = .ok (.getfield 13, 3) := by decide +kernel
theorem dX8_stage_36 : decode cX8_stage 36 = .ok (.iconst 2, 1) := by decide +kernel
theorem dX8_stage_37 : decode cX8_stage 37 = .ok (.aaload, 1) := by decide +kernel
theorem dX8_stage_38 : decode cX8_stage 38 = .ok (.aload_n 0, 1) := by decide +kernel
theorem dX8_stage_39 : decode cX8_stage 39 = .ok (.getfield 30, 3) := by decide +kernel
theorem dX8_stage_42 : decode cX8_stage 42 = .ok (.iload_n 3, 1) := by decide +kernel
theorem dX8_stage_43 : decode cX8_stage 43 = .ok (.iastore, 1) := by decide +kernel
theorem dX8_stage_44 : decode cX8_stage 44 = .ok (.aload_n 0, 1) := by decide +kernel
theorem dX8_stage_45 : decode cX8_stage 45 = .ok (.getfield 13, 3) := by decide +kernel
theorem dX8_stage_48 : decode cX8_stage 48 = .ok (.iconst 3, 1) := by decide +kernel
theorem dX8_stage_49 : decode cX8_stage 49 = .ok (.aaload, 1) := by decide +kernel
theorem dX8_stage_50 : decode cX8_stage 50 = .ok (.aload_n 0, 1) := by decide +kernel
theorem dX8_stage_51 : decode cX8_stage 51 = .ok (.getfield 30, 3) := by decide +kernel
theorem dX8_stage_54 : decode cX8_stage 54 = .ok (.iload 4, 2) := by decide +kernel
theorem dX8_stage_56 : decode cX8_stage 56 = .ok (.iastore, 1) := by decide +kernel
theorem dX8_stage_57 : decode cX8_stage 57 = .ok (.aload_n 0, 1) := by decide +kernel
theorem dX8_stage_58 : decode cX8_stage 58 = .ok (.dup, 1) := by decide +kernel
theorem dX8_stage_59 : decode cX8_stage 59 = .ok (.getfield 30, 3) := by decide +kernel
theorem dX8_stage_62 : decode cX8_stage 62 = .ok (.iconst 1, 1) := by decide +kernel
theorem dX8_stage_63 : decode cX8_stage 63 = .ok (.iadd, 1) := by decide +kernel
theorem dX8_stage_64 : decode cX8_stage 64 = .ok (.putfield 30, 3) := by decide +kernel
theorem dX8_stage_67 : decode cX8_stage 67 = .ok (.return_, 1) := by decide +kernel
set_option maxRecDepth 20000 in
theorem ggX8_keepStaged_X8_letCount : GoodIn wsX8_keepStaged wsX8_letCount := goodIn_r _ [7, 8, 9, 10, 11, 12, 6, 13, 14, 15, 16, 17] (by decide +kernel) (by decide +kernel)
set_option maxRecDepth 20000 in
theorem gX8_keepStaged_X8_letCount : GoodIn wsX8_keepStaged (wsV RX8 48 RX8 yX8_letCount wsX8_letCount) := goodIn_app (goodIn_of _ (by decide +kernel)) ggX8_keepStaged_X8_letCount
theorem dX8_keepStaged_0 : decode cX8_keepStaged 0 = .ok (.aload_n 0, 1) := by decide +kernel
theorem dX8_keepStaged_1 : decode cX8_keepStaged 1 = .ok (.getfield 26, 3) := by decide +kernel
theorem dX8_keepStaged_4 : decode cX8_keepStaged 4 = .ok (.istore_n 1, 1) := by decide +kernel
theorem dX8_keepStaged_5 : decode cX8_keepStaged 5 = .ok (.iload_n 1, 1) := by decide +kernel
theorem dX8_keepStaged_6 : decode cX8_keepStaged 6 = .ok (.aload_n 0, 1) := by decide +kernel
theorem dX8_keepStaged_7 : decode cX8_keepStaged 7 = .ok (.getfield 30, 3) := by decide +kernel
theorem dX8_keepStaged_10 : decode cX8_keepStaged 10 = .ok (.if_icmp .ge 14, 3) := by decide +kernel
theorem dX8_keepStaged_13 : decode cX8_keepStaged 13 = .ok (.aload_n 0, 1) := by decide +kernel
theorem dX8_keepStaged_14 : decode cX8_keepStaged 14 = .ok (.iload_n 1, 1) := by decide +kernel
theorem dX8_keepStaged_15 : decode cX8_keepStaged 15 = .ok (.invokevirtual 48, 3) := by decide +kernel
theorem dX8_keepStaged_18 : decode cX8_keepStaged 18 = .ok (.iinc 1 1, 3) := by decide +kernel
theorem dX8_keepStaged_21 : decode cX8_keepStaged 21 = .ok (.goto (-16), 3) := by decide +kernel
theorem dX8_keepStaged_24 : decode cX8_keepStaged 24 = .ok (.aload_n 0, 1) := by decide +kernel
theorem dX8_keepStaged_25 : decode cX8_keepStaged 25 = .ok (.aload_n 0, 1) := by decide +kernel
theorem dX8_keepStaged_26 : decode cX8_keepStaged 26 = .ok (.getfield 30, 3) := by decide +kernel
theorem dX8_keepStaged_29 : decode cX8_keepStaged 29 = .ok (.putfield 26, 3) := by decide +kernel
theorem dX8_keepStaged_32 : decode cX8_keepStaged 32 = .ok (.aload_n 0, 1) := by decide +kernel
theorem dX8_keepStaged_33 : decode cX8_keepStaged 33 = .ok (.getfield 26, 3) := by decide +kernel
theorem dX8_keepStaged_36 : decode cX8_keepStaged 36 = .ok (.ireturn, 1) := by decide +kernel
set_option maxRecDepth 20000 in
theorem ggX8_letCount_X8_isOutrankedBy : GoodIn wsX8_letCount wsX8_isOutrankedBy := goodIn_r _ [7, 1, 8, 9, 10, 11] (by decide +kernel) (by decide +kernel)
set_option maxRecDepth 20000 in
theorem gX8_letCount_X8_isOutrankedBy : GoodIn wsX8_letCount (wsV RX8 52 RX8 yX8_isOutrankedBy wsX8_isOutrankedBy) := goodIn_app (goodIn_of _ (by decide +kernel)) ggX8_letCount_X8_isOutrankedBy
theorem dX8_letCount_0 : decode cX8_letCount 0 = .ok (.iconst 0, 1) := by decide +kernel
theorem dX8_letCount_1 : decode cX8_letCount 1 = .ok (.istore_n 2, 1) := by decide +kernel
theorem dX8_letCount_2 : decode cX8_letCount 2 = .ok (.iload_n 2, 1) := by decide +kernel
theorem dX8_letCount_3 : decode cX8_letCount 3 = .ok (.iconst 4, 1) := by decide +kernel
theorem dX8_letCount_4 : decode cX8_letCount 4 = .ok (.if_icmp .ge 66, 3) := by decide +kernel
theorem dX8_letCount_7 : decode cX8_letCount 7 = .ok (.aload_n 0, 1) := by decide +kernel
theorem dX8_letCount_8 : decode cX8_letCount 8 = .ok (.getfield 13, 3) := by decide +kernel
theorem dX8_letCount_11 : decode cX8_letCount 11 = .ok (.iconst 0, 1) := by decide +kernel
theorem dX8_letCount_12 : decode cX8_letCount 12 = .ok (.aaload, 1) := by decide +kernel
theorem dX8_letCount_13 : decode cX8_letCount 13 = .ok (.iload_n 1, 1) := by decide +kernel
theorem dX8_letCount_14 : decode cX8_letCount 14 = .ok (.iaload, 1) := by decide +kernel
theorem dX8_letCount_15 : decode cX8_letCount 15 = .ok (.istore_n 3, 1) := by decide +kernel
theorem dX8_letCount_16 : decode cX8_letCount 16 = .ok (.iload_n 2, 1) := by decide +kernel
theorem dX8_letCount_17 : decode cX8_letCount 17 = .ok (.bipush 13, 2) := by decide +kernel
theorem dX8_letCount_19 : decode cX8_letCount 19 = .ok (.imul, 1) := by decide +kernel
theorem dX8_letCount_20 : decode cX8_letCount 20 = .ok (.aload_n 0, 1) := by decide +kernel
theorem dX8_letCount_21 : decode cX8_letCount 21 = .ok (.getfield 13, 3) := by decide +kernel
theorem dX8_letCount_24 : decode cX8_letCount 24 = .ok (.iconst 1, 1) := by decide +kernel
theorem dX8_letCount_25 : decode cX8_letCount 25 = .ok (.aaload, 1) := by decide +kernel
theorem dX8_letCount_26 : decode cX8_letCount 26 = .ok (.iload_n 1, 1) := by decide +kernel
theorem dX8_letCount_27 : decode cX8_letCount 27 = .ok (.iaload, 1) := by decide +kernel
theorem dX8_letCount_28 : decode cX8_letCount 28 = .ok (.iadd, 1) := by decide +kernel
theorem dX8_letCount_29 : decode cX8_letCount 29 = .ok (.istore 4, 2) := by decide +kernel
theorem dX8_letCount_31 : decode cX8_letCount 31 = .ok (.iload_n 3, 1) := by decide +kernel
theorem dX8_letCount_32 : decode cX8_letCount 32 = .ok (.iconst (-1), 1) := by decide +kernel
theorem dX8_letCount_33 : decode cX8_letCount 33 = .ok (.if_icmp .eq 8, 3) := by decide +kernel
theorem dX8_letCount_36 : decode cX8_letCount 36 = .ok (.iload_n 3, 1) := by decide +kernel
theorem dX8_letCount_37 : decode cX8_letCount 37 = .ok (.iload_n 2, 1) := by decide +kernel
theorem dX8_letCount_38 : decode cX8_letCount 38 = .ok (.if_icmp .ne 26, 3) := by decide +kernel
theorem dX8_letCount_41 : decode cX8_letCount 41 = .ok (.aload_n 0, 1) := by decide +kernel
theorem dX8_letCount_42 : decode cX8_letCount 42 = .ok (.aload_n 0, 1) := by decide +kernel
theorem dX8_letCount_43 : decode cX8_letCount 43 = .ok (.getfield 18, 3) := by decide +kernel
theorem dX8_letCount_46 : decode cX8_letCount 46 = .ok (.iload 4, 2) := by decide +kernel
theorem dX8_letCount_48 : decode cX8_letCount 48 = .ok (.iaload, 1) := by decide +kernel
theorem dX8_letCount_49 : decode cX8_letCount 49 = .ok (.iload_n 1, 1) := by decide +kernel
theorem dX8_letCount_50 : decode cX8_letCount 50 = .ok (.invokevirtual 52, 3) := by decide +kernel
theorem dX8_letCount_53 : decode cX8_letCount 53 = .ok (.ifCond .eq 11, 3) := by decide +kernel
theorem dX8_letCount_56 : decode cX8_letCount 56 = .ok (.aload_n 0, 1) := by decide +kernel
theorem dX8_letCount_57 : decode cX8_letCount 57 = .ok (.getfield 18, 3) := by decide +kernel
theorem dX8_letCount_60 : decode cX8_letCount 60 = .ok (.iload 4, 2) := by decide +kernel
theorem dX8_letCount_62 : decode cX8_letCount 62 = .ok (.iload_n 1, 1) := by decide +kernel
theorem dX8_letCount_63 : decode cX8_letCount 63 = .ok (.iastore, 1) := by decide +kernel
theorem dX8_letCount_64 : decode cX8_letCount 64 = .ok (.iinc 2 1, 3) := by decide +kernel
theorem dX8_letCount_67 : decode cX8_letCount 67 = .ok (.goto (-65), 3) := by decide +kernel
theorem dX8_letCount_70 : decode cX8_letCount 70 = .ok (.return_, 1) := by decide +kernel
theorem dX8_isOutrankedBy_0 : decode cX8_isOutrankedBy 0 = .ok (.iload_n 1, 1) := by decide +kernel
theorem dX8_isOutrankedBy_1 : decode cX8_isOutrankedBy 1 = .ok (.iconst (-1), 1) := by decide +kernel
theorem dX8_isOutrankedBy_2 : decode cX8_isOutrankedBy 2 = .ok (.if_icmp .eq 22, 3) := by decide +kernel
theorem dX8_isOutrankedBy_5 : decode cX8_isOutrankedBy 5 = .ok (.aload_n 0, 1) := by decide +kernel
theorem dX8_isOutrankedBy_6 : decode cX8_isOutrankedBy 6 = .ok (.getfield 13, 3) := by decide +kernel
theorem dX8_isOutrankedBy_9 : decode cX8_isOutrankedBy 9 = .ok (.iconst 3, 1) := by decide +kernel
theorem dX8_isOutrankedBy_10 : decode cX8_isOutrankedBy 10 = .ok (.aaload, 1) := by decide +kernel
theorem dX8_isOutrankedBy_11 : decode cX8_isOutrankedBy 11 = .ok (.iload_n 1, 1) := by decide +kernel
theorem dX8_isOutrankedBy_12 : decode cX8_isOutrankedBy 12 = .ok (.iaload, 1) := by decide +kernel
theorem dX8_isOutrankedBy_13 : decode cX8_isOutrankedBy 13 = .ok (.aload_n 0, 1) := by decide +kernel
theorem dX8_isOutrankedBy_14 : decode cX8_isOutrankedBy 14 = .ok (.getfield 13, 3) := by decide +kernel
theorem dX8_isOutrankedBy_17 : decode cX8_isOutrankedBy 17 = .ok (.iconst 3, 1) := by decide +kernel
theorem dX8_isOutrankedBy_18 : decode cX8_isOutrankedBy 18 = .ok (.aaload, 1) := by decide +kernel
theorem dX8_isOutrankedBy_19 : decode cX8_isOutrankedBy 19 = .ok (.iload_n 2, 1) := by decide +kernel
theorem dX8_isOutrankedBy_20 : decode cX8_isOutrankedBy 20 = .ok (.iaload, 1) := by decide +kernel
theorem dX8_isOutrankedBy_21 : decode cX8_isOutrankedBy 21 = .ok (.if_icmp .gt 7, 3) := by decide +kernel
theorem dX8_isOutrankedBy_24 : decode cX8_isOutrankedBy 24 = .ok (.iconst 1, 1) := by decide +kernel
theorem dX8_isOutrankedBy_25 : decode cX8_isOutrankedBy 25 = .ok (.goto 4, 3) := by decide +kernel
theorem dX8_isOutrankedBy_28 : decode cX8_isOutrankedBy 28 = .ok (.iconst 0, 1) := by decide +kernel
theorem dX8_isOutrankedBy_29 : decode cX8_isOutrankedBy 29 = .ok (.ireturn, 1) := by decide +kernel
set_option maxRecDepth 20000 in
theorem ggX9_init_X4_init : GoodIn wsX9_init wsX4_init := goodIn_r _ [19, 20, 2, 3, 21, 22, 23, 24, 25, 26, 40, 41, 42, 43, 44, 45] (by decide +kernel) (by decide +kernel)
set_option maxRecDepth 20000 in
theorem gX9_init_X4_init_n9 : GoodIn wsX9_init (wsX4_init) := ggX9_init_X4_init
set_option maxRecDepth 20000 in
theorem ggX9_init_X2_init : GoodIn wsX9_init wsX2_init := goodIn_r _ [28, 29, 2, 3, 21, 30, 31, 32, 33, 51, 52, 53, 54] (by decide +kernel) (by decide +kernel)
set_option maxRecDepth 20000 in
theorem gX9_init_X2_init_n18 : GoodIn wsX9_init (wsX2_init) := ggX9_init_X2_init
set_option maxRecDepth 20000 in
theorem ggX9_init_X0_init : GoodIn wsX9_init wsX0_init := goodIn_r _ [35, 36, 2, 3, 21, 37, 38, 39, 55, 56, 57, 58] (by decide +kernel) (by decide +kernel)
set_option maxRecDepth 20000 in
theorem gX9_init_X0_init_n25 : GoodIn wsX9_init (wsX0_init) := ggX9_init_X0_init
theorem dX9_init_0 : decode cX9_init 0 = .ok (.aload_n 0, 1) := by decide +kernel
theorem dX9_init_1 : decode cX9_init 1 = .ok (.invokespecial 1, 3) := by decide +kernel
theorem dX9_init_4 : decode cX9_init 4 = .ok (.aload_n 0, 1) := by decide +kernel
theorem dX9_init_5 : decode cX9_init 5 = .ok (.new 7, 3) := by decide +kernel
theorem dX9_init_8 : decode cX9_init 8 = .ok (.dup, 1) := by decide +kernel
theorem dX9_init_9 : decode cX9_init 9 = .ok (.invokespecial 9, 3) := by decide +kernel
theorem dX9_init_12 : decode cX9_init 12 = .ok (.putfield 10, 3) := by decide +kernel
theorem dX9_init_15 : decode cX9_init 15 = .ok (.aload_n 0, 1) := by decide +kernel
theorem dX9_init_16 : decode cX9_init 16 = .ok (.new 16, 3) := by decide +kernel
theorem dX9_init_19 : decode cX9_init 19 = .ok (.dup, 1) := by decide +kernel
theorem dX9_init_20 : decode cX9_init 20 = .ok (.invokespecial 18, 3) := by decide +kernel
theorem dX9_init_23 : decode cX9_init 23 = .ok (.putfield 19, 3) := by decide +kernel
theorem dX9_init_26 : decode cX9_init 26 = .ok (.aload_n 0, 1) := by decide +kernel
theorem dX9_init_27 : decode cX9_init 27 = .ok (.new 23, 3) := by decide +kernel
theorem dX9_init_30 : decode cX9_init 30 = .ok (.dup, 1) := by decide +kernel
theorem dX9_init_31 : decode cX9_init 31 = .ok (.invokespecial 25, 3) := by decide +kernel
theorem dX9_init_34 : decode cX9_init 34 = .ok (.putfield 26, 3) := by decide +kernel
theorem dX9_init_37 : decode cX9_init 37 = .ok (.aload_n 0, 1) := by decide +kernel
theorem dX9_init_38 : decode cX9_init 38 = .ok (.iconst 4, 1) := by decide +kernel
theorem dX9_init_39 : decode cX9_init 39 = .ok (.putfield 30, 3) := by decide +kernel
theorem dX9_init_42 : decode cX9_init 42 = .ok (.aload_n 0, 1) := by decide +kernel
theorem dX9_init_43 : decode cX9_init 43 = .ok (.sipush 240, 3) := by decide +kernel
theorem dX9_init_46 : decode cX9_init 46 = .ok (.putfield 34, 3) := by decide +kernel
theorem dX9_init_49 : decode cX9_init 49 = .ok (.return_, 1) := by decide +kernel
theorem dX9_beat_0 : decode cX9_beat 0 = .ok (.aload_n 0, 1) := by decide +kernel
theorem dX9_beat_1 : decode cX9_beat 1 = .ok (.iload_n 1, 1) := by decide +kernel
theorem dX9_beat_2 : decode cX9_beat 2 = .ok (.putfield 30, 3) := by decide +kernel
theorem dX9_beat_5 : decode cX9_beat 5 = .ok (.aload_n 0, 1) := by decide +kernel
theorem dX9_beat_6 : decode cX9_beat 6 = .ok (.iload_n 2, 1) := by decide +kernel
theorem dX9_beat_7 : decode cX9_beat 7 = .ok (.putfield 34, 3) := by decide +kernel
theorem dX9_beat_10 : decode cX9_beat 10 = .ok (.return_, 1) := by decide +kernel
set_option maxRecDepth 20000 in
theorem ggX9_beginsBar_X9_isMultiple : GoodIn wsX9_beginsBar wsX9_isMultiple := goodIn_r _ [6] (by decide +kernel) (by decide +kernel)
set_option maxRecDepth 20000 in
theorem gX9_beginsBar_X9_isMultiple : GoodIn wsX9_beginsBar (va_wsS RX9 37 yX9_isMultiple wsX9_isMultiple) := goodIn_app (goodIn_of _ (by decide +kernel)) ggX9_beginsBar_X9_isMultiple
theorem dX9_beginsBar_0 : decode cX9_beginsBar 0 = .ok (.iload_n 1, 1) := by decide +kernel
theorem dX9_beginsBar_1 : decode cX9_beginsBar 1 = .ok (.aload_n 0, 1) := by decide +kernel
theorem dX9_beginsBar_2 : decode cX9_beginsBar 2 = .ok (.getfield 30, 3) := by decide +kernel
theorem dX9_beginsBar_5 : decode cX9_beginsBar 5 = .ok (.aload_n 0, 1) := by decide +kernel
theorem dX9_beginsBar_6 : decode cX9_beginsBar 6 = .ok (.getfield 34, 3) := by decide +kernel
theorem dX9_beginsBar_9 : decode cX9_beginsBar 9 = .ok (.imul, 1) := by decide +kernel
theorem dX9_beginsBar_10 : decode cX9_beginsBar 10 = .ok (.invokestatic 37, 3) := by decide +kernel
theorem dX9_beginsBar_13 : decode cX9_beginsBar 13 = .ok (.ireturn, 1) := by decide +kernel
set_option maxRecDepth 20000 in
theorem ggX9_beginsBeat_X9_isMultiple : GoodIn wsX9_beginsBeat wsX9_isMultiple := goodIn_r _ [5] (by decide +kernel) (by decide +kernel)
set_option maxRecDepth 20000 in
theorem gX9_beginsBeat_X9_isMultiple : GoodIn wsX9_beginsBeat (va_wsS RX9 37 yX9_isMultiple wsX9_isMultiple) := goodIn_app (goodIn_of _ (by decide +kernel)) ggX9_beginsBeat_X9_isMultiple
theorem dX9_beginsBeat_0 : decode cX9_beginsBeat 0 = .ok (.iload_n 1, 1) := by decide +kernel
theorem dX9_beginsBeat_1 : decode cX9_beginsBeat 1 = .ok (.aload_n 0, 1) := by decide +kernel
theorem dX9_beginsBeat_2 : decode cX9_beginsBeat 2 = .ok (.getfield 34, 3) := by decide +kernel
theorem dX9_beginsBeat_5 : decode cX9_beginsBeat 5 = .ok (.invokestatic 37, 3) := by decide +kernel
theorem dX9_beginsBeat_8 : decode cX9_beginsBeat 8 = .ok (.ireturn, 1) := by decide +kernel
theorem dX9_isMultiple_0 : decode cX9_isMultiple 0 = .ok (.iload_n 1, 1) := by decide +kernel
theorem dX9_isMultiple_1 : decode cX9_isMultiple 1 = .ok (.ifCond .le 13, 3) := by decide +kernel
theorem dX9_isMultiple_4 : decode cX9_isMultiple 4 = .ok (.iload_n 0, 1) := by decide +kernel
theorem dX9_isMultiple_5 : decode cX9_isMultiple 5 = .ok (.iload_n 1, 1) := by decide +kernel
theorem dX9_isMultiple_6 : decode cX9_isMultiple 6 = .ok (.irem, 1) := by decide +kernel
theorem dX9_isMultiple_7 : decode cX9_isMultiple 7 = .ok (.ifCond .ne 7, 3) := by decide +kernel
theorem dX9_isMultiple_10 : decode cX9_isMultiple 10 = .ok (.iconst 1, 1) := by decide +kernel
theorem dX9_isMultiple_11 : decode cX9_isMultiple 11 = .ok (.goto 4, 3) := by decide +kernel
theorem dX9_isMultiple_14 : decode cX9_isMultiple 14 = .ok (.iconst 0, 1) := by decide +kernel
theorem dX9_isMultiple_15 : decode cX9_isMultiple 15 = .ok (.ireturn, 1) := by decide +kernel
theorem dX10_init_0 : decode cX10_init 0 = .ok (.aload_n 0, 1) := by decide +kernel
theorem dX10_init_1 : decode cX10_init 1 = .ok (.invokespecial 3, 3) := by decide +kernel
theorem dX10_init_4 : decode cX10_init 4 = .ok (.aload_n 0, 1) := by decide +kernel
theorem dX10_init_5 : decode cX10_init 5 = .ok (.sipush 400, 3) := by decide +kernel
theorem dX10_init_8 : decode cX10_init 8 = .ok (.newarray .byte, 2) := by decide +kernel
theorem dX10_init_10 : decode cX10_init 10 = .ok (.putfield 11, 3) := by decide +kernel
theorem dX10_init_13 : decode cX10_init 13 = .ok (.return_, 1) := by decide +kernel
theorem dX10_append_0 : decode cX10_append 0 = .ok (.iload_n 1, 1) := by decide +kernel
theorem dX10_append_1 : decode cX10_append 1 = .ok (.sipush 400, 3) := by decide +kernel
theorem dX10_append_4 : decode cX10_append 4 = .ok (.aload_n 0, 1) := by decide +kernel
theorem dX10_append_5 : decode cX10_append 5 = .ok (.getfield 15, 3) := by decide +kernel
theorem dX10_append_8 : decode cX10_append 8 = .ok (.isub, 1) := by decide +kernel
theorem dX10_append_9 : decode cX10_append 9 = .ok (.if_icmp .le 7, 3) := by decide +kernel
theorem dX10_append_12 : decode cX10_append 12 = .ok (.sipush (-1004), 3) := by decide +kernel
theorem dX10_append_15 : decode cX10_append 15 = .ok (.ireturn, 1) := by decide +kernel
theorem dX10_append_16 : decode cX10_append 16 = .ok (.iload_n 1, 1) := by decide +kernel
theorem dX10_append_17 : decode cX10_append 17 = .ok (.iconst 1, 1) := by decide +kernel
theorem dX10_append_18 : decode cX10_append 18 = .ok (.isub, 1) := by decide +kernel
theorem dX10_append_19 : decode cX10_append 19 = .ok (.istore 4, 2) := by decide +kernel
theorem dX10_append_21 : decode cX10_append 21 = .ok (.iload 4, 2) := by decide +kernel
theorem dX10_append_23 : decode cX10_append 23 = .ok (.ifCond .lt 37, 3) := by decide +kernel
theorem dX10_append_26 : decode cX10_append 26 = .ok (.aload_n 0, 1) := by decide +kernel
theorem dX10_append_27 : decode cX10_append 27 = .ok (.getfield 11, 3) := by decide +kernel
theorem dX10_append_30 : decode cX10_append 30 = .ok (.aload_n 0, 1) := by decide +kernel
theorem dX10_append_31 : decode cX10_append 31 = .ok (.getfield 15, 3) := by decide +kernel
theorem dX10_append_34 : decode cX10_append 34 = .ok (.lload_n 2, 1) := by decide +kernel
theorem dX10_append_35 : decode cX10_append 35 = .ok (.bipush 8, 2) := by decide +kernel
theorem dX10_append_37 : decode cX10_append 37 = .ok (.iload 4, 2) := by decide +kernel
theorem dX10_append_39 : decode cX10_append 39 = .ok (.imul, 1) := by decide +kernel
theorem dX10_append_40 : decode cX10_append 40 = .ok (.lushr, 1) := by decide +kernel
theorem dX10_append_41 : decode cX10_append 41 = .ok (.l2i, 1) := by decide +kernel
theorem dX10_append_42 : decode cX10_append 42 = .ok (.i2b, 1) := by decide +kernel
theorem dX10_append_43 : decode cX10_append 43 = .ok (.bastore, 1) := by decide +kernel
theorem dX10_append_44 : decode cX10_append 44 = .ok (.aload_n 0, 1) := by decide +kernel
theorem dX10_append_45 : decode cX10_append 45 = .ok (.dup, 1) := by decide +kernel
theorem dX10_append_46 : decode cX10_append 46 = .ok (.getfield 15, 3) := by decide +kernel
theorem dX10_append_49 : decode cX10_append 49 = .ok (.iconst 1, 1) := by decide +kernel
theorem dX10_append_50 : decode cX10_append 50 = .ok (.iadd, 1) := by decide +kernel
theorem dX10_append_51 : decode cX10_append 51 = .ok (.putfield 15, 3) := by decide +kernel
theorem dX10_append_54 : decode cX10_append 54 = .ok (.iinc 4 (-1), 3) := by decide +kernel
theorem dX10_append_57 : decode cX10_append 57 = .ok (.goto (-36), 3) := by decide +kernel
theorem dX10_append_60 : decode cX10_append 60 = .ok (.aload_n 0, 1) := by decide +kernel
theorem dX10_append_61 : decode cX10_append 61 = .ok (.getfield 15, 3) := by decide +kernel
theorem dX10_append_64 : decode cX10_append 64 = .ok (.ireturn, 1) := by decide +kernel
theorem dX10_clear_0 : decode cX10_clear 0 = .ok (.aload_n 0, 1) := by decide +kernel
theorem dX10_clear_1 : decode cX10_clear 1 = .ok (.iconst 0, 1) := by decide +kernel
theorem dX10_clear_2 : decode cX10_clear 2 = .ok (.putfield 15, 3) := by decide +kernel
theorem dX10_clear_5 : decode cX10_clear 5 = .ok (.return_, 1) := by decide +kernel
theorem dX10_at_0 : decode cX10_at 0 = .ok (.iconst 0, 1) := by decide +kernel
theorem dX10_at_1 : decode cX10_at 1 = .ok (.iload_n 1, 1) := by decide +kernel
theorem dX10_at_2 : decode cX10_at 2 = .ok (.if_icmp .gt 24, 3) := by decide +kernel
theorem dX10_at_5 : decode cX10_at 5 = .ok (.iload_n 1, 1) := by decide +kernel
theorem dX10_at_6 : decode cX10_at 6 = .ok (.aload_n 0, 1) := by decide +kernel
theorem dX10_at_7 : decode cX10_at 7 = .ok (.getfield 15, 3) := by decide +kernel
theorem dX10_at_10 : decode cX10_at 10 = .ok (.if_icmp .ge 16, 3) := by decide +kernel
theorem dX10_at_13 : decode cX10_at 13 = .ok (.aload_n 0, 1) := by decide +kernel
theorem dX10_at_14 : decode cX10_at 14 = .ok (.getfield 11, 3) := by decide +kernel
theorem dX10_at_17 : decode cX10_at 17 = .ok (.iload_n 1, 1) := by decide +kernel
theorem dX10_at_18 : decode cX10_at 18 = .ok (.baload, 1) := by decide +kernel
theorem dX10_at_19 : decode cX10_at 19 = .ok (.sipush 255, 3) := by decide +kernel
theorem dX10_at_22 : decode cX10_at 22 = .ok (.iand, 1) := by decide +kernel
theorem dX10_at_23 : decode cX10_at 23 = .ok (.goto 4, 3) := by decide +kernel
theorem dX10_at_26 : decode cX10_at 26 = .ok (.iconst (-1), 1) := by decide +kernel
theorem dX10_at_27 : decode cX10_at 27 = .ok (.ireturn, 1) := by decide +kernel
set_option maxRecDepth 20000 in
theorem ggX11_init_X9_init : GoodIn wsX11_init wsX9_init := goodIn_r _ [34, 35, 2, 3, 36, 37, 38, 39, 40, 41, 42, 43, 44, 45, 46, 47, 48, 49, 50, 51, 52, 53, 54, 55, 56, 57, 58, 59, 60, 61, 62, 63, 64, 65, 66, 67, 68, 69, 70, 71, 145, 146, 147, 148, 149, 150, 117, 118, 119, 120, 121, 151, 152, 153, 154, 155, 156, 157, 158] (by decide +kernel) (by decide +kernel)
set_option maxRecDepth 20000 in
theorem gX11_init_X9_init_n15 : GoodIn wsX11_init (wsX9_init) := ggX11_init_X9_init
set_option maxRecDepth 20000 in
theorem ggX11_init_X10_init : GoodIn wsX11_init wsX10_init := goodIn_r _ [73, 74, 2, 3, 75, 76, 122, 123] (by decide +kernel) (by decide +kernel)
set_option maxRecDepth 20000 in
theorem gX11_init_X10_init_n22 : GoodIn wsX11_init (wsX10_init) := ggX11_init_X10_init
set_option maxRecDepth 20000 in
theorem ggX11_init_X8_init : GoodIn wsX11_init wsX8_init := goodIn_r _ [79, 80, 2, 3, 81, 53, 82, 83, 84, 85, 86, 15, 87, 88, 89, 124, 125, 126, 127] (by decide +kernel) (by decide +kernel)
set_option maxRecDepth 20000 in
theorem gX11_init_X8_init : GoodIn wsX11_init (wsX8_init) := ggX11_init_X8_init
set_option maxRecDepth 20000 in
theorem ggX11_init_X7_init : GoodIn wsX11_init wsX7_init := goodIn_r _ [91, 92, 2, 3] (by decide +kernel) (by decide +kernel)
set_option maxRecDepth 20000 in
theorem gX11_init_X7_init_n36 : GoodIn wsX11_init (wsX7_init) := ggX11_init_X7_init
set_option maxRecDepth 20000 in
theorem ggX11_init_X6_init : GoodIn wsX11_init wsX6_init := goodIn_r _ [94, 95, 2, 3, 96, 30, 31, 97, 98, 99, 100, 101, 53, 102, 142, 143, 144, 132, 133, 134, 135, 136, 137, 138, 139] (by decide +kernel) (by decide +kernel)
set_option maxRecDepth 20000 in
theorem gX11_init_X6_init_n43 : GoodIn wsX11_init (wsX6_init) := ggX11_init_X6_init
set_option maxRecDepth 20000 in
theorem ggX11_init_X5_init : GoodIn wsX11_init wsX5_init := goodIn_r _ [104, 105, 2, 3, 106, 107, 108, 140, 141] (by decide +kernel) (by decide +kernel)
set_option maxRecDepth 20000 in
theorem gX11_init_X5_init_n50 : GoodIn wsX11_init (wsX5_init) := ggX11_init_X5_init
set_option maxRecDepth 20000 in
theorem ggX11_init_X1_init : GoodIn wsX11_init wsX1_init := goodIn_r _ [99, 100, 2, 3, 101, 53, 102, 142, 143, 144] (by decide +kernel) (by decide +kernel)
set_option maxRecDepth 20000 in
theorem gX11_init_X1_init_n57 : GoodIn wsX11_init (wsX1_init) := ggX11_init_X1_init
theorem dX11_init_0 : decode cX11_init 0 = .ok (.aload_n 0, 1) := by decide +kernel
theorem dX11_init_1 : decode cX11_init 1 = .ok (.invokespecial 1, 3) := by decide +kernel
theorem dX11_init_4 : decode cX11_init 4 = .ok (.aload_n 0, 1) := by decide +kernel
theorem dX11_init_5 : decode cX11_init 5 = .ok (.lload_n 1, 1) := by decide +kernel
theorem dX11_init_6 : decode cX11_init 6 = .ok (.putfield 7, 3) := by decide +kernel
theorem dX11_init_9 : decode cX11_init 9 = .ok (.aload_n 0, 1) := by decide +kernel
theorem dX11_init_10 : decode cX11_init 10 = .ok (.new 13, 3) := by decide +kernel
theorem dX11_init_13 : decode cX11_init 13 = .ok (.dup, 1) := by decide +kernel
theorem dX11_init_14 : decode cX11_init 14 = .ok (.invokespecial 15, 3) := by decide +kernel
theorem dX11_init_17 : decode cX11_init 17 = .ok (.putfield 16, 3) := by decide +kernel
theorem dX11_init_20 : decode cX11_init 20 = .ok (.aload_n 0, 1) := by decide +kernel
theorem dX11_init_21 : decode cX11_init 21 = .ok (.new 20, 3) := by decide +kernel
theorem dX11_init_24 : decode cX11_init 24 = .ok (.dup, 1) := by decide +kernel
