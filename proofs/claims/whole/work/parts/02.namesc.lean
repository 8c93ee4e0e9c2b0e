theorem dX11_init_25 : decode cX11_init 25 = .ok (.invokespecial 22, 3) := by decide +kernel
theorem dX11_init_28 : decode cX11_init 28 = .ok (.putfield 23, 3) := by decide +kernel
theorem dX11_init_31 : decode cX11_init 31 = .ok (.aload_n 0, 1) := by decide +kernel
theorem dX11_init_32 : decode cX11_init 32 = .ok (.new 27, 3) := by decide +kernel
theorem dX11_init_35 : decode cX11_init 35 = .ok (.dup, 1) := by decide +kernel
theorem dX11_init_36 : decode cX11_init 36 = .ok (.invokespecial 29, 3) := by decide +kernel
theorem dX11_init_39 : decode cX11_init 39 = .ok (.putfield 30, 3) := by decide +kernel
theorem dX11_init_42 : decode cX11_init 42 = .ok (.aload_n 0, 1) := by decide +kernel
theorem dX11_init_43 : decode cX11_init 43 = .ok (.new 34, 3) := by decide +kernel
theorem dX11_init_46 : decode cX11_init 46 = .ok (.dup, 1) := by decide +kernel
theorem dX11_init_47 : decode cX11_init 47 = .ok (.invokespecial 36, 3) := by decide +kernel
theorem dX11_init_50 : decode cX11_init 50 = .ok (.putfield 37, 3) := by decide +kernel
theorem dX11_init_53 : decode cX11_init 53 = .ok (.aload_n 0, 1) := by decide +kernel
theorem dX11_init_54 : decode cX11_init 54 = .ok (.new 41, 3) := by decide +kernel
theorem dX11_init_57 : decode cX11_init 57 = .ok (.dup, 1) := by decide +kernel
theorem dX11_init_58 : decode cX11_init 58 = .ok (.invokespecial 43, 3) := by decide +kernel
theorem dX11_init_61 : decode cX11_init 61 = .ok (.putfield 44, 3) := by decide +kernel
theorem dX11_init_64 : decode cX11_init 64 = .ok (.aload_n 0, 1) := by decide +kernel
theorem dX11_init_65 : decode cX11_init 65 = .ok (.new 48, 3) := by decide +kernel
theorem dX11_init_68 : decode cX11_init 68 = .ok (.dup, 1) := by decide +kernel
theorem dX11_init_69 : decode cX11_init 69 = .ok (.invokespecial 50, 3) := by decide +kernel
theorem dX11_init_72 : decode cX11_init 72 = .ok (.putfield 51, 3) := by decide +kernel
theorem dX11_init_75 : decode cX11_init 75 = .ok (.aload_n 0, 1) := by decide +kernel
theorem dX11_init_76 : decode cX11_init 76 = .ok (.new 55, 3) := by decide +kernel
theorem dX11_init_79 : decode cX11_init 79 = .ok (.dup, 1) := by decide +kernel
theorem dX11_init_80 : decode cX11_init 80 = .ok (.invokespecial 57, 3) := by decide +kernel
theorem dX11_init_83 : decode cX11_init 83 = .ok (.putfield 58, 3) := by decide +kernel
theorem dX11_init_86 : decode cX11_init 86 = .ok (.return_, 1) := by decide +kernel
set_option maxRecDepth 20000 in
theorem ggX11_note_X11_isVoice : GoodIn wsX11_note wsX11_isVoice := goodIn_r _ [5, 6, 7, 4, 8] (by decide +kernel) (by decide +kernel)
set_option maxRecDepth 20000 in
theorem gX11_note_X11_isVoice : GoodIn wsX11_note (va_wsS RX11 62 yX11_isVoice wsX11_isVoice) := goodIn_app (goodIn_of _ (by decide +kernel)) ggX11_note_X11_isVoice
set_option maxRecDepth 20000 in
theorem ggX11_note_X11_isWithin : GoodIn wsX11_note wsX11_isWithin := goodIn_r _ [8] (by decide +kernel) (by decide +kernel)
set_option maxRecDepth 20000 in
theorem gX11_note_X11_isWithin : GoodIn wsX11_note (va_wsS RX11 66 yX11_isWithin wsX11_isWithin) := goodIn_app (goodIn_of _ (by decide +kernel)) ggX11_note_X11_isWithin
set_option maxRecDepth 20000 in
theorem ggX11_note_X4_add : GoodIn wsX11_note wsX4_add := goodIn_r _ [13, 14, 15, 16, 17, 18, 19, 33, 34, 35, 36, 37, 38] (by decide +kernel) (by decide +kernel)
set_option maxRecDepth 20000 in
theorem gX11_note_X4_add : GoodIn wsX11_note (wsV RX11 76 RX4 yX4_add wsX4_add) := goodIn_app (goodIn_of _ (by decide +kernel)) ggX11_note_X4_add
theorem dX11_note_0 : decode cX11_note 0 = .ok (.iload_n 1, 1) := by decide +kernel
theorem dX11_note_1 : decode cX11_note 1 = .ok (.invokestatic 62, 3) := by decide +kernel
theorem dX11_note_4 : decode cX11_note 4 = .ok (.ifCond .eq 25, 3) := by decide +kernel
theorem dX11_note_7 : decode cX11_note 7 = .ok (.iload_n 2, 1) := by decide +kernel
theorem dX11_note_8 : decode cX11_note 8 = .ok (.iconst 0, 1) := by decide +kernel
theorem dX11_note_9 : decode cX11_note 9 = .ok (.sipush 9600, 3) := by decide +kernel
theorem dX11_note_12 : decode cX11_note 12 = .ok (.invokestatic 66, 3) := by decide +kernel
theorem dX11_note_15 : decode cX11_note 15 = .ok (.ifCond .eq 14, 3) := by decide +kernel
theorem dX11_note_18 : decode cX11_note 18 = .ok (.iload_n 3, 1) := by decide +kernel
theorem dX11_note_19 : decode cX11_note 19 = .ok (.iconst 1, 1) := by decide +kernel
theorem dX11_note_20 : decode cX11_note 20 = .ok (.sipush 960, 3) := by decide +kernel
theorem dX11_note_23 : decode cX11_note 23 = .ok (.invokestatic 66, 3) := by decide +kernel
theorem dX11_note_26 : decode cX11_note 26 = .ok (.ifCond .ne 7, 3) := by decide +kernel
theorem dX11_note_29 : decode cX11_note 29 = .ok (.sipush (-1002), 3) := by decide +kernel
theorem dX11_note_32 : decode cX11_note 32 = .ok (.ireturn, 1) := by decide +kernel
theorem dX11_note_33 : decode cX11_note 33 = .ok (.iload 4, 2) := by decide +kernel
theorem dX11_note_35 : decode cX11_note 35 = .ok (.bipush 12, 2) := by decide +kernel
theorem dX11_note_37 : decode cX11_note 37 = .ok (.bipush 115, 2) := by decide +kernel
theorem dX11_note_39 : decode cX11_note 39 = .ok (.invokestatic 66, 3) := by decide +kernel
theorem dX11_note_42 : decode cX11_note 42 = .ok (.ifCond .eq 14, 3) := by decide +kernel
theorem dX11_note_45 : decode cX11_note 45 = .ok (.iload 5, 2) := by decide +kernel
theorem dX11_note_47 : decode cX11_note 47 = .ok (.iconst 0, 1) := by decide +kernel
theorem dX11_note_48 : decode cX11_note 48 = .ok (.bipush 127, 2) := by decide +kernel
theorem dX11_note_50 : decode cX11_note 50 = .ok (.invokestatic 66, 3) := by decide +kernel
theorem dX11_note_53 : decode cX11_note 53 = .ok (.ifCond .ne 7, 3) := by decide +kernel
theorem dX11_note_56 : decode cX11_note 56 = .ok (.sipush (-1002), 3) := by decide +kernel
theorem dX11_note_59 : decode cX11_note 59 = .ok (.ireturn, 1) := by decide +kernel
theorem dX11_note_60 : decode cX11_note 60 = .ok (.aload_n 0, 1) := by decide +kernel
theorem dX11_note_61 : decode cX11_note 61 = .ok (.getfield 16, 3) := by decide +kernel
theorem dX11_note_64 : decode cX11_note 64 = .ok (.getfield 72, 3) := by decide +kernel
theorem dX11_note_67 : decode cX11_note 67 = .ok (.iload_n 1, 1) := by decide +kernel
theorem dX11_note_68 : decode cX11_note 68 = .ok (.iload_n 2, 1) := by decide +kernel
theorem dX11_note_69 : decode cX11_note 69 = .ok (.iload_n 3, 1) := by decide +kernel
theorem dX11_note_70 : decode cX11_note 70 = .ok (.iload 4, 2) := by decide +kernel
theorem dX11_note_72 : decode cX11_note 72 = .ok (.iload 5, 2) := by decide +kernel
theorem dX11_note_74 : decode cX11_note 74 = .ok (.invokevirtual 76, 3) := by decide +kernel
theorem dX11_note_77 : decode cX11_note 77 = .ok (.ireturn, 1) := by decide +kernel
set_option maxRecDepth 20000 in
theorem ggX11_mark_X4_has : GoodIn wsX11_mark wsX4_has := goodIn_r _ [6, 7, 8, 9, 10, 30, 31, 32, 33, 34, 35] (by decide +kernel) (by decide +kernel)
set_option maxRecDepth 20000 in
theorem gX11_mark_X4_has : GoodIn wsX11_mark (wsV RX11 80 RX4 yX4_has wsX4_has) := goodIn_app (goodIn_of _ (by decide +kernel)) ggX11_mark_X4_has
set_option maxRecDepth 20000 in
theorem ggX11_mark_X11_isWithin : GoodIn wsX11_mark wsX11_isWithin := goodIn_r _ [10] (by decide +kernel) (by decide +kernel)
set_option maxRecDepth 20000 in
theorem gX11_mark_X11_isWithin : GoodIn wsX11_mark (va_wsS RX11 66 yX11_isWithin wsX11_isWithin) := goodIn_app (goodIn_of _ (by decide +kernel)) ggX11_mark_X11_isWithin
set_option maxRecDepth 20000 in
theorem ggX11_mark_X4_changeMarks : GoodIn wsX11_mark wsX4_changeMarks := goodIn_r _ [15, 16, 30, 31, 32, 33, 34, 35] (by decide +kernel) (by decide +kernel)
set_option maxRecDepth 20000 in
theorem gX11_mark_X4_changeMarks : GoodIn wsX11_mark (wsV RX11 83 RX4 yX4_changeMarks wsX4_changeMarks) := goodIn_app (goodIn_of _ (by decide +kernel)) ggX11_mark_X4_changeMarks
theorem dX11_mark_0 : decode cX11_mark 0 = .ok (.aload_n 0, 1) := by decide +kernel
theorem dX11_mark_1 : decode cX11_mark 1 = .ok (.getfield 16, 3) := by decide +kernel
theorem dX11_mark_4 : decode cX11_mark 4 = .ok (.getfield 72, 3) := by decide +kernel
theorem dX11_mark_7 : decode cX11_mark 7 = .ok (.iload_n 1, 1) := by decide +kernel
theorem dX11_mark_8 : decode cX11_mark 8 = .ok (.invokevirtual 80, 3) := by decide +kernel
theorem dX11_mark_11 : decode cX11_mark 11 = .ok (.ifCond .ne 7, 3) := by decide +kernel
theorem dX11_mark_14 : decode cX11_mark 14 = .ok (.sipush (-1001), 3) := by decide +kernel
theorem dX11_mark_17 : decode cX11_mark 17 = .ok (.ireturn, 1) := by decide +kernel
theorem dX11_mark_18 : decode cX11_mark 18 = .ok (.iload_n 2, 1) := by decide +kernel
theorem dX11_mark_19 : decode cX11_mark 19 = .ok (.iconst 0, 1) := by decide +kernel
theorem dX11_mark_20 : decode cX11_mark 20 = .ok (.bipush 127, 2) := by decide +kernel
theorem dX11_mark_22 : decode cX11_mark 22 = .ok (.invokestatic 66, 3) := by decide +kernel
theorem dX11_mark_25 : decode cX11_mark 25 = .ok (.ifCond .ne 7, 3) := by decide +kernel
theorem dX11_mark_28 : decode cX11_mark 28 = .ok (.sipush (-1002), 3) := by decide +kernel
theorem dX11_mark_31 : decode cX11_mark 31 = .ok (.ireturn, 1) := by decide +kernel
theorem dX11_mark_32 : decode cX11_mark 32 = .ok (.aload_n 0, 1) := by decide +kernel
theorem dX11_mark_33 : decode cX11_mark 33 = .ok (.getfield 16, 3) := by decide +kernel
theorem dX11_mark_36 : decode cX11_mark 36 = .ok (.getfield 72, 3) := by decide +kernel
theorem dX11_mark_39 : decode cX11_mark 39 = .ok (.iload_n 1, 1) := by decide +kernel
theorem dX11_mark_40 : decode cX11_mark 40 = .ok (.iload_n 2, 1) := by decide +kernel
theorem dX11_mark_41 : decode cX11_mark 41 = .ok (.invokevirtual 83, 3) := by decide +kernel
theorem dX11_mark_44 : decode cX11_mark 44 = .ok (.ireturn, 1) := by decide +kernel
set_option maxRecDepth 20000 in
theorem ggX11_level_X11_isTick : GoodIn wsX11_level wsX11_isTick := goodIn_r _ [5, 6, 7, 4, 8] (by decide +kernel) (by decide +kernel)
set_option maxRecDepth 20000 in
theorem gX11_level_X11_isTick : GoodIn wsX11_level (va_wsS RX11 87 yX11_isTick wsX11_isTick) := goodIn_app (goodIn_of _ (by decide +kernel)) ggX11_level_X11_isTick
set_option maxRecDepth 20000 in
theorem ggX11_level_X11_isWithin : GoodIn wsX11_level wsX11_isWithin := goodIn_r _ [8] (by decide +kernel) (by decide +kernel)
set_option maxRecDepth 20000 in
theorem gX11_level_X11_isWithin : GoodIn wsX11_level (va_wsS RX11 66 yX11_isWithin wsX11_isWithin) := goodIn_app (goodIn_of _ (by decide +kernel)) ggX11_level_X11_isWithin
set_option maxRecDepth 20000 in
theorem ggX11_level_X2_put : GoodIn wsX11_level wsX2_put := goodIn_r _ [13, 14, 15, 16, 17, 18, 19, 20, 12, 21, 35, 36, 37, 38] (by decide +kernel) (by decide +kernel)
set_option maxRecDepth 20000 in
theorem gX11_level_X2_put : GoodIn wsX11_level (wsV RX11 94 RX2 yX2_put wsX2_put) := goodIn_app (goodIn_of _ (by decide +kernel)) ggX11_level_X2_put
theorem dX11_level_0 : decode cX11_level 0 = .ok (.iload_n 1, 1) := by decide +kernel
theorem dX11_level_1 : decode cX11_level 1 = .ok (.invokestatic 87, 3) := by decide +kernel
theorem dX11_level_4 : decode cX11_level 4 = .ok (.ifCond .eq 13, 3) := by decide +kernel
theorem dX11_level_7 : decode cX11_level 7 = .ok (.iload_n 2, 1) := by decide +kernel
theorem dX11_level_8 : decode cX11_level 8 = .ok (.iconst 1, 1) := by decide +kernel
theorem dX11_level_9 : decode cX11_level 9 = .ok (.bipush 127, 2) := by decide +kernel
theorem dX11_level_11 : decode cX11_level 11 = .ok (.invokestatic 66, 3) := by decide +kernel
theorem dX11_level_14 : decode cX11_level 14 = .ok (.ifCond .ne 7, 3) := by decide +kernel
theorem dX11_level_17 : decode cX11_level 17 = .ok (.sipush (-1002), 3) := by decide +kernel
theorem dX11_level_20 : decode cX11_level 20 = .ok (.ireturn, 1) := by decide +kernel
theorem dX11_level_21 : decode cX11_level 21 = .ok (.aload_n 0, 1) := by decide +kernel
theorem dX11_level_22 : decode cX11_level 22 = .ok (.getfield 16, 3) := by decide +kernel
theorem dX11_level_25 : decode cX11_level 25 = .ok (.getfield 90, 3) := by decide +kernel
theorem dX11_level_28 : decode cX11_level 28 = .ok (.iload_n 1, 1) := by decide +kernel
theorem dX11_level_29 : decode cX11_level 29 = .ok (.iload_n 2, 1) := by decide +kernel
theorem dX11_level_30 : decode cX11_level 30 = .ok (.iload_n 3, 1) := by decide +kernel
theorem dX11_level_31 : decode cX11_level 31 = .ok (.invokevirtual 94, 3) := by decide +kernel
theorem dX11_level_34 : decode cX11_level 34 = .ok (.ireturn, 1) := by decide +kernel
set_option maxRecDepth 20000 in
theorem ggX11_meter_X11_isWithin : GoodIn wsX11_meter wsX11_isWithin := goodIn_r _ [5] (by decide +kernel) (by decide +kernel)
set_option maxRecDepth 20000 in
theorem gX11_meter_X11_isWithin : GoodIn wsX11_meter (va_wsS RX11 66 yX11_isWithin wsX11_isWithin) := goodIn_app (goodIn_of _ (by decide +kernel)) ggX11_meter_X11_isWithin
set_option maxRecDepth 20000 in
theorem ggX11_meter_X9_beat : GoodIn wsX11_meter wsX9_beat := goodIn_r _ [10, 11, 12, 21, 22, 23, 24, 25] (by decide +kernel) (by decide +kernel)
set_option maxRecDepth 20000 in
theorem gX11_meter_X9_beat : GoodIn wsX11_meter (wsV RX11 100 RX9 yX9_beat wsX9_beat) := goodIn_app (goodIn_of _ (by decide +kernel)) ggX11_meter_X9_beat
theorem dX11_meter_0 : decode cX11_meter 0 = .ok (.iload_n 1, 1) := by decide +kernel
theorem dX11_meter_1 : decode cX11_meter 1 = .ok (.iconst 1, 1) := by decide +kernel
theorem dX11_meter_2 : decode cX11_meter 2 = .ok (.bipush 12, 2) := by decide +kernel
theorem dX11_meter_4 : decode cX11_meter 4 = .ok (.invokestatic 66, 3) := by decide +kernel
theorem dX11_meter_7 : decode cX11_meter 7 = .ok (.ifCond .eq 14, 3) := by decide +kernel
theorem dX11_meter_10 : decode cX11_meter 10 = .ok (.iload_n 2, 1) := by decide +kernel
theorem dX11_meter_11 : decode cX11_meter 11 = .ok (.iconst 1, 1) := by decide +kernel
theorem dX11_meter_12 : decode cX11_meter 12 = .ok (.sipush 960, 3) := by decide +kernel
theorem dX11_meter_15 : decode cX11_meter 15 = .ok (.invokestatic 66, 3) := by decide +kernel
theorem dX11_meter_18 : decode cX11_meter 18 = .ok (.ifCond .ne 7, 3) := by decide +kernel
theorem dX11_meter_21 : decode cX11_meter 21 = .ok (.sipush (-1002), 3) := by decide +kernel
theorem dX11_meter_24 : decode cX11_meter 24 = .ok (.ireturn, 1) := by decide +kernel
theorem dX11_meter_25 : decode cX11_meter 25 = .ok (.aload_n 0, 1) := by decide +kernel
theorem dX11_meter_26 : decode cX11_meter 26 = .ok (.getfield 16, 3) := by decide +kernel
theorem dX11_meter_29 : decode cX11_meter 29 = .ok (.iload_n 1, 1) := by decide +kernel
theorem dX11_meter_30 : decode cX11_meter 30 = .ok (.iload_n 2, 1) := by decide +kernel
theorem dX11_meter_31 : decode cX11_meter 31 = .ok (.invokevirtual 100, 3) := by decide +kernel
theorem dX11_meter_34 : decode cX11_meter 34 = .ok (.iconst 1, 1) := by decide +kernel
theorem dX11_meter_35 : decode cX11_meter 35 = .ok (.ireturn, 1) := by decide +kernel
set_option maxRecDepth 20000 in
theorem ggX11_arc_X11_isTick : GoodIn wsX11_arc wsX11_isTick := goodIn_r _ [5, 6, 7, 4, 8] (by decide +kernel) (by decide +kernel)
set_option maxRecDepth 20000 in
theorem gX11_arc_X11_isTick : GoodIn wsX11_arc (va_wsS RX11 87 yX11_isTick wsX11_isTick) := goodIn_app (goodIn_of _ (by decide +kernel)) ggX11_arc_X11_isTick
set_option maxRecDepth 20000 in
theorem ggX11_arc_X11_isWithin : GoodIn wsX11_arc wsX11_isWithin := goodIn_r _ [8] (by decide +kernel) (by decide +kernel)
set_option maxRecDepth 20000 in
theorem gX11_arc_X11_isWithin : GoodIn wsX11_arc (va_wsS RX11 66 yX11_isWithin wsX11_isWithin) := goodIn_app (goodIn_of _ (by decide +kernel)) ggX11_arc_X11_isWithin
set_option maxRecDepth 20000 in
theorem ggX11_arc_X0_shareWith : GoodIn wsX11_arc wsX0_shareWith := goodIn_r _ [13, 14, 15, 16, 17, 18, 19, 20, 21, 22, 23, 42, 43, 44, 45] (by decide +kernel) (by decide +kernel)
set_option maxRecDepth 20000 in
theorem gX11_arc_X0_shareWith : GoodIn wsX11_arc (wsV RX11 108 RX0 yX0_shareWith wsX0_shareWith) := goodIn_app (goodIn_of _ (by decide +kernel)) ggX11_arc_X0_shareWith
set_option maxRecDepth 20000 in
theorem ggX11_arc_X0_add : GoodIn wsX11_arc wsX0_add := goodIn_r _ [27, 14, 15, 20, 28, 42, 43, 44, 45] (by decide +kernel) (by decide +kernel)
set_option maxRecDepth 20000 in
theorem gX11_arc_X0_add : GoodIn wsX11_arc (wsV RX11 114 RX0 yX0_add wsX0_add) := goodIn_app (goodIn_of _ (by decide +kernel)) ggX11_arc_X0_add
theorem dX11_arc_0 : decode cX11_arc 0 = .ok (.iload_n 1, 1) := by decide +kernel
theorem dX11_arc_1 : decode cX11_arc 1 = .ok (.invokestatic 87, 3) := by decide +kernel
theorem dX11_arc_4 : decode cX11_arc 4 = .ok (.ifCond .eq 28, 3) := by decide +kernel
theorem dX11_arc_7 : decode cX11_arc 7 = .ok (.iload_n 2, 1) := by decide +kernel
theorem dX11_arc_8 : decode cX11_arc 8 = .ok (.invokestatic 87, 3) := by decide +kernel
theorem dX11_arc_11 : decode cX11_arc 11 = .ok (.ifCond .eq 21, 3) := by decide +kernel
theorem dX11_arc_14 : decode cX11_arc 14 = .ok (.iload_n 1, 1) := by decide +kernel
theorem dX11_arc_15 : decode cX11_arc 15 = .ok (.iload_n 2, 1) := by decide +kernel
theorem dX11_arc_16 : decode cX11_arc 16 = .ok (.if_icmp .ge 16, 3) := by decide +kernel
theorem dX11_arc_19 : decode cX11_arc 19 = .ok (.iload_n 3, 1) := by decide +kernel
theorem dX11_arc_20 : decode cX11_arc 20 = .ok (.sipush (-400), 3) := by decide +kernel
theorem dX11_arc_23 : decode cX11_arc 23 = .ok (.sipush 400, 3) := by decide +kernel
theorem dX11_arc_26 : decode cX11_arc 26 = .ok (.invokestatic 66, 3) := by decide +kernel
theorem dX11_arc_29 : decode cX11_arc 29 = .ok (.ifCond .ne 7, 3) := by decide +kernel
theorem dX11_arc_32 : decode cX11_arc 32 = .ok (.sipush (-1002), 3) := by decide +kernel
theorem dX11_arc_35 : decode cX11_arc 35 = .ok (.ireturn, 1) := by decide +kernel
theorem dX11_arc_36 : decode cX11_arc 36 = .ok (.aload_n 0, 1) := by decide +kernel
theorem dX11_arc_37 : decode cX11_arc 37 = .ok (.getfield 16, 3) := by decide +kernel
theorem dX11_arc_40 : decode cX11_arc 40 = .ok (.getfield 104, 3) := by decide +kernel
theorem dX11_arc_43 : decode cX11_arc 43 = .ok (.iload_n 1, 1) := by decide +kernel
theorem dX11_arc_44 : decode cX11_arc 44 = .ok (.iload_n 2, 1) := by decide +kernel
theorem dX11_arc_45 : decode cX11_arc 45 = .ok (.invokevirtual 108, 3) := by decide +kernel
theorem dX11_arc_48 : decode cX11_arc 48 = .ok (.ifCond .eq 7, 3) := by decide +kernel
theorem dX11_arc_51 : decode cX11_arc 51 = .ok (.sipush (-1003), 3) := by decide +kernel
theorem dX11_arc_54 : decode cX11_arc 54 = .ok (.ireturn, 1) := by decide +kernel
theorem dX11_arc_55 : decode cX11_arc 55 = .ok (.aload_n 0, 1) := by decide +kernel
theorem dX11_arc_56 : decode cX11_arc 56 = .ok (.getfield 16, 3) := by decide +kernel
theorem dX11_arc_59 : decode cX11_arc 59 = .ok (.getfield 104, 3) := by decide +kernel
theorem dX11_arc_62 : decode cX11_arc 62 = .ok (.iload_n 1, 1) := by decide +kernel
theorem dX11_arc_63 : decode cX11_arc 63 = .ok (.iload_n 2, 1) := by decide +kernel
theorem dX11_arc_64 : decode cX11_arc 64 = .ok (.iload_n 3, 1) := by decide +kernel
theorem dX11_arc_65 : decode cX11_arc 65 = .ok (.invokevirtual 114, 3) := by decide +kernel
theorem dX11_arc_68 : decode cX11_arc 68 = .ok (.ireturn, 1) := by decide +kernel
set_option maxRecDepth 20000 in
theorem ggX11_levelAt_X11_isTick : GoodIn wsX11_levelAt wsX11_isTick := goodIn_r _ [5, 6, 7, 4, 8] (by decide +kernel) (by decide +kernel)
set_option maxRecDepth 20000 in
theorem gX11_levelAt_X11_isTick : GoodIn wsX11_levelAt (va_wsS RX11 87 yX11_isTick wsX11_isTick) := goodIn_app (goodIn_of _ (by decide +kernel)) ggX11_levelAt_X11_isTick
set_option maxRecDepth 20000 in
theorem ggX11_levelAt_X2_at : GoodIn wsX11_levelAt wsX2_at := goodIn_r _ [13, 14, 15, 16, 17, 18, 4, 19, 20, 21, 22, 23, 37, 38, 39, 40] (by decide +kernel) (by decide +kernel)
set_option maxRecDepth 20000 in
theorem gX11_levelAt_X2_at : GoodIn wsX11_levelAt (wsV RX11 117 RX2 yX2_at wsX2_at) := goodIn_app (goodIn_of _ (by decide +kernel)) ggX11_levelAt_X2_at
theorem dX11_levelAt_0 : decode cX11_levelAt 0 = .ok (.iload_n 1, 1) := by decide +kernel
theorem dX11_levelAt_1 : decode cX11_levelAt 1 = .ok (.invokestatic 87, 3) := by decide +kernel
theorem dX11_levelAt_4 : decode cX11_levelAt 4 = .ok (.ifCond .eq 17, 3) := by decide +kernel
theorem dX11_levelAt_7 : decode cX11_levelAt 7 = .ok (.aload_n 0, 1) := by decide +kernel
theorem dX11_levelAt_8 : decode cX11_levelAt 8 = .ok (.getfield 16, 3) := by decide +kernel
theorem dX11_levelAt_11 : decode cX11_levelAt 11 = .ok (.getfield 90, 3) := by decide +kernel
theorem dX11_levelAt_14 : decode cX11_levelAt 14 = .ok (.iload_n 1, 1) := by decide +kernel
theorem dX11_levelAt_15 : decode cX11_levelAt 15 = .ok (.invokevirtual 117, 3) := by decide +kernel
theorem dX11_levelAt_18 : decode cX11_levelAt 18 = .ok (.goto 6, 3) := by decide +kernel
theorem dX11_levelAt_21 : decode cX11_levelAt 21 = .ok (.sipush (-1002), 3) := by decide +kernel
theorem dX11_levelAt_24 : decode cX11_levelAt 24 = .ok (.ireturn, 1) := by decide +kernel
set_option maxRecDepth 20000 in
theorem ggX11_timeOf_X11_isTick : GoodIn wsX11_timeOf wsX11_isTick := goodIn_r _ [5, 6, 7, 4, 8] (by decide +kernel) (by decide +kernel)
set_option maxRecDepth 20000 in
theorem gX11_timeOf_X11_isTick : GoodIn wsX11_timeOf (va_wsS RX11 87 yX11_isTick wsX11_isTick) := goodIn_app (goodIn_of _ (by decide +kernel)) ggX11_timeOf_X11_isTick
set_option maxRecDepth 20000 in
theorem ggX11_timeOf_X0_bent : GoodIn wsX11_timeOf wsX0_bent := goodIn_r _ [13, 14, 15, 16, 17, 18, 7, 4, 8, 19, 20, 21, 22, 23, 24, 38, 39, 40, 41] (by decide +kernel) (by decide +kernel)
set_option maxRecDepth 20000 in
theorem gX11_timeOf_X0_bent : GoodIn wsX11_timeOf (wsV RX11 121 RX0 yX0_bent wsX0_bent) := goodIn_app (goodIn_of _ (by decide +kernel)) ggX11_timeOf_X0_bent
theorem dX11_timeOf_0 : decode cX11_timeOf 0 = .ok (.iload_n 1, 1) := by decide +kernel
theorem dX11_timeOf_1 : decode cX11_timeOf 1 = .ok (.invokestatic 87, 3) := by decide +kernel
theorem dX11_timeOf_4 : decode cX11_timeOf 4 = .ok (.ifCond .eq 17, 3) := by decide +kernel
theorem dX11_timeOf_7 : decode cX11_timeOf 7 = .ok (.aload_n 0, 1) := by decide +kernel
theorem dX11_timeOf_8 : decode cX11_timeOf 8 = .ok (.getfield 16, 3) := by decide +kernel
theorem dX11_timeOf_11 : decode cX11_timeOf 11 = .ok (.getfield 104, 3) := by decide +kernel
theorem dX11_timeOf_14 : decode cX11_timeOf 14 = .ok (.iload_n 1, 1) := by decide +kernel
theorem dX11_timeOf_15 : decode cX11_timeOf 15 = .ok (.invokevirtual 121, 3) := by decide +kernel
theorem dX11_timeOf_18 : decode cX11_timeOf 18 = .ok (.goto 6, 3) := by decide +kernel
theorem dX11_timeOf_21 : decode cX11_timeOf 21 = .ok (.sipush (-1002), 3) := by decide +kernel
theorem dX11_timeOf_24 : decode cX11_timeOf 24 = .ok (.ireturn, 1) := by decide +kernel
set_option maxRecDepth 20000 in
theorem ggX11_feed_X11_isWithin : GoodIn wsX11_feed wsX11_isWithin := goodIn_r _ [5] (by decide +kernel) (by decide +kernel)
set_option maxRecDepth 20000 in
theorem gX11_feed_X11_isWithin : GoodIn wsX11_feed (va_wsS RX11 66 yX11_isWithin wsX11_isWithin) := goodIn_app (goodIn_of _ (by decide +kernel)) ggX11_feed_X11_isWithin
set_option maxRecDepth 20000 in
theorem ggX11_feed_X10_append : GoodIn wsX11_feed wsX10_append := goodIn_r _ [10, 11, 12, 21, 22] (by decide +kernel) (by decide +kernel)
set_option maxRecDepth 20000 in
theorem gX11_feed_X10_append : GoodIn wsX11_feed (wsV RX11 124 RX10 yX10_append wsX10_append) := goodIn_app (goodIn_of _ (by decide +kernel)) ggX11_feed_X10_append
theorem dX11_feed_0 : decode cX11_feed 0 = .ok (.iload_n 1, 1) := by decide +kernel
theorem dX11_feed_1 : decode cX11_feed 1 = .ok (.iconst 1, 1) := by decide +kernel
theorem dX11_feed_2 : decode cX11_feed 2 = .ok (.bipush 8, 2) := by decide +kernel
theorem dX11_feed_4 : decode cX11_feed 4 = .ok (.invokestatic 66, 3) := by decide +kernel
theorem dX11_feed_7 : decode cX11_feed 7 = .ok (.ifCond .eq 15, 3) := by decide +kernel
theorem dX11_feed_10 : decode cX11_feed 10 = .ok (.aload_n 0, 1) := by decide +kernel
theorem dX11_feed_11 : decode cX11_feed 11 = .ok (.getfield 23, 3) := by decide +kernel
theorem dX11_feed_14 : decode cX11_feed 14 = .ok (.iload_n 1, 1) := by decide +kernel
theorem dX11_feed_15 : decode cX11_feed 15 = .ok (.lload_n 2, 1) := by decide +kernel
theorem dX11_feed_16 : decode cX11_feed 16 = .ok (.invokevirtual 124, 3) := by decide +kernel
theorem dX11_feed_19 : decode cX11_feed 19 = .ok (.goto 6, 3) := by decide +kernel
theorem dX11_feed_22 : decode cX11_feed 22 = .ok (.sipush (-1002), 3) := by decide +kernel
theorem dX11_feed_25 : decode cX11_feed 25 = .ok (.ireturn, 1) := by decide +kernel
set_option maxRecDepth 20000 in
theorem ggX11_read_X7_findFault : GoodIn wsX11_read wsX7_findFault := goodIn_r _ [8, 9, 10, 11, 12, 13, 14, 15, 16, 17, 18, 19, 20, 21, 7, 22, 23, 24, 25, 26, 27, 28, 29, 30, 31, 32, 33, 34, 35, 36, 37, 38, 39, 40, 41, 42, 43, 44, 45, 46, 47, 48, 49, 50, 51, 52, 53, 54, 55, 56, 57, 58, 59, 60, 61, 62, 63, 64, 65, 66, 67, 68, 69, 70, 71, 72, 73, 74, 75, 76, 77, 78, 79, 80, 81, 82, 83, 84, 85, 86, 87, 88, 89, 90, 91, 92, 93, 94, 95, 96, 97, 98, 99, 100, 101, 102, 103, 104, 105, 106, 107, 108, 109, 110, 111, 112, 113, 114, 115, 116, 117, 118, 119, 120, 146, 147, 148, 149, 150, 151, 152, 153, 154, 155] (by decide +kernel) (by decide +kernel)
set_option maxRecDepth 20000 in
theorem gX11_read_X7_findFault : GoodIn wsX11_read (wsV RX11 128 RX7 yX7_findFault wsX7_findFault) := goodIn_app (goodIn_of _ (by decide +kernel)) ggX11_read_X7_findFault
set_option maxRecDepth 20000 in
theorem ggX11_read_X10_clear : GoodIn wsX11_read wsX10_clear := goodIn_r _ [124, 31, 154, 155] (by decide +kernel) (by decide +kernel)
set_option maxRecDepth 20000 in
theorem gX11_read_X10_clear : GoodIn wsX11_read (wsV RX11 132 RX10 yX10_clear wsX10_clear) := goodIn_app (goodIn_of _ (by decide +kernel)) ggX11_read_X10_clear
set_option maxRecDepth 20000 in
theorem ggX11_read_X8_keepStaged : GoodIn wsX11_read wsX8_keepStaged := goodIn_r _ [128, 17, 18, 129, 130, 131, 15, 132, 119, 133, 134, 135, 136, 137, 150, 151, 152, 153] (by decide +kernel) (by decide +kernel)
set_option maxRecDepth 20000 in
theorem gX11_read_X8_keepStaged : GoodIn wsX11_read (wsV RX11 135 RX8 yX8_keepStaged wsX8_keepStaged) := goodIn_app (goodIn_of _ (by decide +kernel)) ggX11_read_X8_keepStaged
theorem dX11_read_0 : decode cX11_read 0 = .ok (.aload_n 0, 1) := by decide +kernel
theorem dX11_read_1 : decode cX11_read 1 = .ok (.getfield 37, 3) := by decide +kernel
theorem dX11_read_4 : decode cX11_read 4 = .ok (.aload_n 0, 1) := by decide +kernel
theorem dX11_read_5 : decode cX11_read 5 = .ok (.getfield 23, 3) := by decide +kernel
theorem dX11_read_8 : decode cX11_read 8 = .ok (.aload_n 0, 1) := by decide +kernel
theorem dX11_read_9 : decode cX11_read 9 = .ok (.getfield 30, 3) := by decide +kernel
theorem dX11_read_12 : decode cX11_read 12 = .ok (.invokevirtual 128, 3) := by decide +kernel
theorem dX11_read_15 : decode cX11_read 15 = .ok (.istore_n 1, 1) := by decide +kernel
theorem dX11_read_16 : decode cX11_read 16 = .ok (.aload_n 0, 1) := by decide +kernel
theorem dX11_read_17 : decode cX11_read 17 = .ok (.getfield 23, 3) := by decide +kernel
theorem dX11_read_20 : decode cX11_read 20 = .ok (.invokevirtual 132, 3) := by decide +kernel
theorem dX11_read_23 : decode cX11_read 23 = .ok (.iload_n 1, 1) := by decide +kernel
theorem dX11_read_24 : decode cX11_read 24 = .ok (.iconst (-1), 1) := by decide +kernel
theorem dX11_read_25 : decode cX11_read 25 = .ok (.if_icmp .ne 13, 3) := by decide +kernel
theorem dX11_read_28 : decode cX11_read 28 = .ok (.aload_n 0, 1) := by decide +kernel
theorem dX11_read_29 : decode cX11_read 29 = .ok (.getfield 30, 3) := by decide +kernel
theorem dX11_read_32 : decode cX11_read 32 = .ok (.invokevirtual 135, 3) := by decide +kernel
theorem dX11_read_35 : decode cX11_read 35 = .ok (.goto 7, 3) := by decide +kernel
theorem dX11_read_38 : decode cX11_read 38 = .ok (.bipush (-10), 2) := by decide +kernel
theorem dX11_read_40 : decode cX11_read 40 = .ok (.iload_n 1, 1) := by decide +kernel
theorem dX11_read_41 : decode cX11_read 41 = .ok (.isub, 1) := by decide +kernel
theorem dX11_read_42 : decode cX11_read 42 = .ok (.ireturn, 1) := by decide +kernel
set_option maxRecDepth 20000 in
theorem ggX11_plain_X8_clear : GoodIn wsX11_plain wsX8_clear := goodIn_r _ [6, 7, 8, 9, 18, 19, 20, 21] (by decide +kernel) (by decide +kernel)
set_option maxRecDepth 20000 in
theorem gX11_plain_X8_clear : GoodIn wsX11_plain (wsV RX11 139 RX8 yX8_clear wsX8_clear) := goodIn_app (goodIn_of _ (by decide +kernel)) ggX11_plain_X8_clear
theorem dX11_plain_0 : decode cX11_plain 0 = .ok (.aload_n 0, 1) := by decide +kernel
theorem dX11_plain_1 : decode cX11_plain 1 = .ok (.getfield 30, 3) := by decide +kernel
theorem dX11_plain_4 : decode cX11_plain 4 = .ok (.invokevirtual 139, 3) := by decide +kernel
theorem dX11_plain_7 : decode cX11_plain 7 = .ok (.ireturn, 1) := by decide +kernel
set_option maxRecDepth 20000 in
theorem ggX11_rule_X8_has : GoodIn wsX11_rule wsX8_has := goodIn_r _ [6, 7, 8, 9, 10, 20, 21, 22, 23] (by decide +kernel) (by decide +kernel)
set_option maxRecDepth 20000 in
theorem gX11_rule_X8_has : GoodIn wsX11_rule (wsV RX11 141 RX8 yX8_has wsX8_has) := goodIn_app (goodIn_of _ (by decide +kernel)) ggX11_rule_X8_has
set_option maxRecDepth 20000 in
theorem ggX11_rule_X11_isWithin : GoodIn wsX11_rule wsX11_isWithin := goodIn_r _ [10] (by decide +kernel) (by decide +kernel)
set_option maxRecDepth 20000 in
theorem gX11_rule_X11_isWithin : GoodIn wsX11_rule (va_wsS RX11 66 yX11_isWithin wsX11_isWithin) := goodIn_app (goodIn_of _ (by decide +kernel)) ggX11_rule_X11_isWithin
theorem dX11_rule_0 : decode cX11_rule 0 = .ok (.aload_n 0, 1) := by decide +kernel
theorem dX11_rule_1 : decode cX11_rule 1 = .ok (.getfield 30, 3) := by decide +kernel
theorem dX11_rule_4 : decode cX11_rule 4 = .ok (.iload_n 1, 1) := by decide +kernel
theorem dX11_rule_5 : decode cX11_rule 5 = .ok (.invokevirtual 141, 3) := by decide +kernel
theorem dX11_rule_8 : decode cX11_rule 8 = .ok (.ifCond .eq 26, 3) := by decide +kernel
theorem dX11_rule_11 : decode cX11_rule 11 = .ok (.iload_n 2, 1) := by decide +kernel
theorem dX11_rule_12 : decode cX11_rule 12 = .ok (.iconst 0, 1) := by decide +kernel
theorem dX11_rule_13 : decode cX11_rule 13 = .ok (.iconst 3, 1) := by decide +kernel
theorem dX11_rule_14 : decode cX11_rule 14 = .ok (.invokestatic 66, 3) := by decide +kernel
theorem dX11_rule_17 : decode cX11_rule 17 = .ok (.ifCond .eq 17, 3) := by decide +kernel
theorem dX11_rule_20 : decode cX11_rule 20 = .ok (.aload_n 0, 1) := by decide +kernel
theorem dX11_rule_21 : decode cX11_rule 21 = .ok (.getfield 30, 3) := by decide +kernel
theorem dX11_rule_24 : decode cX11_rule 24 = .ok (.getfield 142, 3) := by decide +kernel
theorem dX11_rule_27 : decode cX11_rule 27 = .ok (.iload_n 2, 1) := by decide +kernel
theorem dX11_rule_28 : decode cX11_rule 28 = .ok (.aaload, 1) := by decide +kernel
theorem dX11_rule_29 : decode cX11_rule 29 = .ok (.iload_n 1, 1) := by decide +kernel
theorem dX11_rule_30 : decode cX11_rule 30 = .ok (.iaload, 1) := by decide +kernel
theorem dX11_rule_31 : decode cX11_rule 31 = .ok (.goto 6, 3) := by decide +kernel
theorem dX11_rule_34 : decode cX11_rule 34 = .ok (.sipush (-1001), 3) := by decide +kernel
theorem dX11_rule_37 : decode cX11_rule 37 = .ok (.ireturn, 1) := by decide +kernel
set_option maxRecDepth 20000 in
theorem ggX11_value_X11_isVoice : GoodIn wsX11_value wsX11_isVoice := goodIn_r _ [5, 6, 7, 4, 8] (by decide +kernel) (by decide +kernel)
set_option maxRecDepth 20000 in
theorem gX11_value_X11_isVoice : GoodIn wsX11_value (va_wsS RX11 62 yX11_isVoice wsX11_isVoice) := goodIn_app (goodIn_of _ (by decide +kernel)) ggX11_value_X11_isVoice
set_option maxRecDepth 20000 in
theorem ggX11_value_X3_has : GoodIn wsX11_value wsX3_has := goodIn_r _ [12, 7, 4, 8] (by decide +kernel) (by decide +kernel)
set_option maxRecDepth 20000 in
theorem gX11_value_X3_has : GoodIn wsX11_value (va_wsS RX11 146 yX3_has wsX3_has) := goodIn_app (goodIn_of _ (by decide +kernel)) ggX11_value_X3_has
set_option maxRecDepth 20000 in
theorem ggX11_value_X8_numberFor : GoodIn wsX11_value wsX8_numberFor := goodIn_r _ [17, 18, 19, 20, 21, 16, 22, 23, 32, 33, 34, 35] (by decide +kernel) (by decide +kernel)
set_option maxRecDepth 20000 in
theorem gX11_value_X8_numberFor : GoodIn wsX11_value (wsV RX11 149 RX8 yX8_numberFor wsX8_numberFor) := goodIn_app (goodIn_of _ (by decide +kernel)) ggX11_value_X8_numberFor
theorem dX11_value_0 : decode cX11_value 0 = .ok (.iload_n 1, 1) := by decide +kernel
theorem dX11_value_1 : decode cX11_value 1 = .ok (.invokestatic 62, 3) := by decide +kernel
theorem dX11_value_4 : decode cX11_value 4 = .ok (.ifCond .eq 22, 3) := by decide +kernel
theorem dX11_value_7 : decode cX11_value 7 = .ok (.iload_n 2, 1) := by decide +kernel
theorem dX11_value_8 : decode cX11_value 8 = .ok (.invokestatic 146, 3) := by decide +kernel
theorem dX11_value_11 : decode cX11_value 11 = .ok (.ifCond .eq 15, 3) := by decide +kernel
theorem dX11_value_14 : decode cX11_value 14 = .ok (.aload_n 0, 1) := by decide +kernel
theorem dX11_value_15 : decode cX11_value 15 = .ok (.getfield 30, 3) := by decide +kernel
theorem dX11_value_18 : decode cX11_value 18 = .ok (.iload_n 1, 1) := by decide +kernel
theorem dX11_value_19 : decode cX11_value 19 = .ok (.iload_n 2, 1) := by decide +kernel
theorem dX11_value_20 : decode cX11_value 20 = .ok (.invokevirtual 149, 3) := by decide +kernel
theorem dX11_value_23 : decode cX11_value 23 = .ok (.goto 6, 3) := by decide +kernel
theorem dX11_value_26 : decode cX11_value 26 = .ok (.sipush (-1001), 3) := by decide +kernel
theorem dX11_value_29 : decode cX11_value 29 = .ok (.ireturn, 1) := by decide +kernel
set_option maxRecDepth 20000 in
theorem ggX11_why_X11_isVoice : GoodIn wsX11_why wsX11_isVoice := goodIn_r _ [5, 6, 7, 4, 8] (by decide +kernel) (by decide +kernel)
set_option maxRecDepth 20000 in
theorem gX11_why_X11_isVoice : GoodIn wsX11_why (va_wsS RX11 62 yX11_isVoice wsX11_isVoice) := goodIn_app (goodIn_of _ (by decide +kernel)) ggX11_why_X11_isVoice
set_option maxRecDepth 20000 in
theorem ggX11_why_X3_has : GoodIn wsX11_why wsX3_has := goodIn_r _ [12, 7, 4, 8] (by decide +kernel) (by decide +kernel)
set_option maxRecDepth 20000 in
theorem gX11_why_X3_has : GoodIn wsX11_why (va_wsS RX11 146 yX3_has wsX3_has) := goodIn_app (goodIn_of _ (by decide +kernel)) ggX11_why_X3_has
set_option maxRecDepth 20000 in
theorem ggX11_why_X8_countingFor : GoodIn wsX11_why wsX8_countingFor := goodIn_r _ [17, 18, 27, 28, 29, 30] (by decide +kernel) (by decide +kernel)
set_option maxRecDepth 20000 in
theorem gX11_why_X8_countingFor : GoodIn wsX11_why (wsV RX11 152 RX8 yX8_countingFor wsX8_countingFor) := goodIn_app (goodIn_of _ (by decide +kernel)) ggX11_why_X8_countingFor
theorem dX11_why_0 : decode cX11_why 0 = .ok (.iload_n 1, 1) := by decide +kernel
theorem dX11_why_1 : decode cX11_why 1 = .ok (.invokestatic 62, 3) := by decide +kernel
theorem dX11_why_4 : decode cX11_why 4 = .ok (.ifCond .eq 22, 3) := by decide +kernel
theorem dX11_why_7 : decode cX11_why 7 = .ok (.iload_n 2, 1) := by decide +kernel
theorem dX11_why_8 : decode cX11_why 8 = .ok (.invokestatic 146, 3) := by decide +kernel
theorem dX11_why_11 : decode cX11_why 11 = .ok (.ifCond .eq 15, 3) := by decide +kernel
theorem dX11_why_14 : decode cX11_why 14 = .ok (.aload_n 0, 1) := by decide +kernel
theorem dX11_why_15 : decode cX11_why 15 = .ok (.getfield 30, 3) := by decide +kernel
theorem dX11_why_18 : decode cX11_why 18 = .ok (.iload_n 1, 1) := by decide +kernel
theorem dX11_why_19 : decode cX11_why 19 = .ok (.iload_n 2, 1) := by decide +kernel
theorem dX11_why_20 : decode cX11_why 20 = .ok (.invokevirtual 152, 3) := by decide +kernel
theorem dX11_why_23 : decode cX11_why 23 = .ok (.goto 6, 3) := by decide +kernel
theorem dX11_why_26 : decode cX11_why 26 = .ok (.sipush (-1001), 3) := by decide +kernel
theorem dX11_why_29 : decode cX11_why 29 = .ok (.ireturn, 1) := by decide +kernel
set_option maxRecDepth 20000 in
theorem ggX11_perform_X6_makeParts : GoodIn wsX11_perform wsX6_makeParts := goodIn_r _ [11, 12, 13, 14, 15, 16, 17, 18, 19, 20, 21, 22, 23, 24, 25, 10, 26, 27, 28, 29, 30, 31, 32, 33, 34, 35, 36, 37, 38, 39, 40, 41, 42, 43, 44, 45, 46, 47, 48, 49, 50, 51, 52, 53, 54, 55, 56, 57, 58, 59, 60, 61, 62, 63, 64, 65, 66, 67, 68, 69, 70, 71, 72, 73, 74, 75, 76, 77, 78, 79, 80, 81, 82, 83, 84, 85, 86, 87, 88, 89, 90, 91, 92, 93, 94, 95, 96, 97, 98, 99, 100, 101, 102, 103, 104, 105, 106, 107, 108, 109, 110, 111, 112, 113, 114, 115, 116, 117, 118, 119, 120, 121, 122, 123, 124, 125, 126, 127, 128, 129, 130, 131, 132, 133, 134, 135, 136, 137, 138, 139, 140, 141, 142, 143, 144, 145, 146, 147, 148, 149, 150, 151, 223, 224, 225, 226, 227, 228, 229, 230, 231, 232, 233, 234, 235, 239, 240, 241, 242, 243, 244, 236, 237, 238, 245, 246, 247, 248, 249, 250, 251, 252] (by decide +kernel) (by decide +kernel)
set_option maxRecDepth 20000 in
theorem gX11_perform_X6_makeParts : GoodIn wsX11_perform (wsV RX11 155 RX6 yX6_makeParts wsX6_makeParts) := goodIn_app (goodIn_of _ (by decide +kernel)) ggX11_perform_X6_makeParts
set_option maxRecDepth 20000 in
theorem ggX11_perform_X1_bend : GoodIn wsX11_perform wsX1_bend := goodIn_r _ [155, 21, 143, 156, 40, 37, 41, 157, 158, 159, 160, 161, 162, 163, 164, 165, 166, 167, 71, 168, 70, 72, 73, 74, 75, 76, 236, 237, 238, 253, 254, 255, 256] (by decide +kernel) (by decide +kernel)
set_option maxRecDepth 20000 in
theorem gX11_perform_X1_bend : GoodIn wsX11_perform (wsV RX11 162 RX1 yX1_bend wsX1_bend) := goodIn_app (goodIn_of _ (by decide +kernel)) ggX11_perform_X1_bend
set_option maxRecDepth 20000 in
theorem ggX11_perform_X5_sort : GoodIn wsX11_perform wsX5_sort := goodIn_r _ [173, 174, 175, 36, 37, 38, 176, 177, 178, 172, 179, 180, 181, 182, 183, 184, 185, 186, 236, 237, 238, 257, 258] (by decide +kernel) (by decide +kernel)
set_option maxRecDepth 20000 in
theorem gX11_perform_X5_sort : GoodIn wsX11_perform (wsV RX11 166 RX5 yX5_sort wsX5_sort) := goodIn_app (goodIn_of _ (by decide +kernel)) ggX11_perform_X5_sort
set_option maxRecDepth 20000 in
theorem ggX11_perform_X1_takeInOrder : GoodIn wsX11_perform wsX1_takeInOrder := goodIn_r _ [190, 21, 143, 191, 192, 193, 172, 194, 174, 195, 196, 75, 197, 198, 103, 104, 236, 237, 238, 257, 258] (by decide +kernel) (by decide +kernel)
set_option maxRecDepth 20000 in
theorem gX11_perform_X1_takeInOrder : GoodIn wsX11_perform (wsV RX11 170 RX1 yX1_takeInOrder wsX1_takeInOrder) := goodIn_app (goodIn_of _ (by decide +kernel)) ggX11_perform_X1_takeInOrder
set_option maxRecDepth 20000 in
theorem ggX11_perform_X1_endAtRepeats : GoodIn wsX11_perform wsX1_endAtRepeats := goodIn_r _ [202, 21, 203, 204, 205, 19, 206, 143, 207, 208, 209, 210, 211, 212, 213, 214, 236, 237, 238] (by decide +kernel) (by decide +kernel)
set_option maxRecDepth 20000 in
theorem gX11_perform_X1_endAtRepeats : GoodIn wsX11_perform (wsV RX11 174 RX1 yX1_endAtRepeats wsX1_endAtRepeats) := goodIn_app (goodIn_of _ (by decide +kernel)) ggX11_perform_X1_endAtRepeats
theorem dX11_perform_0 : decode cX11_perform 0 = .ok (.aload_n 0, 1) := by decide +kernel
theorem dX11_perform_1 : decode cX11_perform 1 = .ok (.getfield 44, 3) := by decide +kernel
theorem dX11_perform_4 : decode cX11_perform 4 = .ok (.aload_n 0, 1) := by decide +kernel
theorem dX11_perform_5 : decode cX11_perform 5 = .ok (.getfield 16, 3) := by decide +kernel
theorem dX11_perform_8 : decode cX11_perform 8 = .ok (.aload_n 0, 1) := by decide +kernel
theorem dX11_perform_9 : decode cX11_perform 9 = .ok (.getfield 30, 3) := by decide +kernel
theorem dX11_perform_12 : decode cX11_perform 12 = .ok (.aload_n 0, 1) := by decide +kernel
theorem dX11_perform_13 : decode cX11_perform 13 = .ok (.getfield 7, 3) := by decide +kernel
theorem dX11_perform_16 : decode cX11_perform 16 = .ok (.invokevirtual 155, 3) := by decide +kernel
theorem dX11_perform_19 : decode cX11_perform 19 = .ok (.ifCond .ne 7, 3) := by decide +kernel
theorem dX11_perform_22 : decode cX11_perform 22 = .ok (.sipush (-1004), 3) := by decide +kernel
theorem dX11_perform_25 : decode cX11_perform 25 = .ok (.ireturn, 1) := by decide +kernel
theorem dX11_perform_26 : decode cX11_perform 26 = .ok (.aload_n 0, 1) := by decide +kernel
theorem dX11_perform_27 : decode cX11_perform 27 = .ok (.getfield 44, 3) := by decide +kernel
theorem dX11_perform_30 : decode cX11_perform 30 = .ok (.getfield 159, 3) := by decide +kernel
theorem dX11_perform_33 : decode cX11_perform 33 = .ok (.astore_n 1, 1) := by decide +kernel
theorem dX11_perform_34 : decode cX11_perform 34 = .ok (.aload_n 1, 1) := by decide +kernel
theorem dX11_perform_35 : decode cX11_perform 35 = .ok (.aload_n 0, 1) := by decide +kernel
theorem dX11_perform_36 : decode cX11_perform 36 = .ok (.getfield 16, 3) := by decide +kernel
theorem dX11_perform_39 : decode cX11_perform 39 = .ok (.getfield 104, 3) := by decide +kernel
theorem dX11_perform_42 : decode cX11_perform 42 = .ok (.invokevirtual 162, 3) := by decide +kernel
theorem dX11_perform_45 : decode cX11_perform 45 = .ok (.aload_n 0, 1) := by decide +kernel
theorem dX11_perform_46 : decode cX11_perform 46 = .ok (.getfield 51, 3) := by decide +kernel
theorem dX11_perform_49 : decode cX11_perform 49 = .ok (.aload_n 1, 1) := by decide +kernel
theorem dX11_perform_50 : decode cX11_perform 50 = .ok (.invokevirtual 166, 3) := by decide +kernel
theorem dX11_perform_53 : decode cX11_perform 53 = .ok (.aload_n 0, 1) := by decide +kernel
theorem dX11_perform_54 : decode cX11_perform 54 = .ok (.getfield 58, 3) := by decide +kernel
theorem dX11_perform_57 : decode cX11_perform 57 = .ok (.aload_n 1, 1) := by decide +kernel
theorem dX11_perform_58 : decode cX11_perform 58 = .ok (.aload_n 0, 1) := by decide +kernel
theorem dX11_perform_59 : decode cX11_perform 59 = .ok (.getfield 51, 3) := by decide +kernel
theorem dX11_perform_62 : decode cX11_perform 62 = .ok (.invokevirtual 170, 3) := by decide +kernel
theorem dX11_perform_65 : decode cX11_perform 65 = .ok (.aload_n 0, 1) := by decide +kernel
theorem dX11_perform_66 : decode cX11_perform 66 = .ok (.getfield 58, 3) := by decide +kernel
theorem dX11_perform_69 : decode cX11_perform 69 = .ok (.invokevirtual 174, 3) := by decide +kernel
theorem dX11_perform_72 : decode cX11_perform 72 = .ok (.aload_n 0, 1) := by decide +kernel
theorem dX11_perform_73 : decode cX11_perform 73 = .ok (.getfield 58, 3) := by decide +kernel
theorem dX11_perform_76 : decode cX11_perform 76 = .ok (.getfield 177, 3) := by decide +kernel
theorem dX11_perform_79 : decode cX11_perform 79 = .ok (.ireturn, 1) := by decide +kernel
set_option maxRecDepth 20000 in
theorem ggX11_event_X1_has : GoodIn wsX11_event wsX1_has := goodIn_r _ [6, 7, 8, 9, 10, 20, 21, 22] (by decide +kernel) (by decide +kernel)
set_option maxRecDepth 20000 in
theorem gX11_event_X1_has : GoodIn wsX11_event (wsV RX11 181 RX1 yX1_has wsX1_has) := goodIn_app (goodIn_of _ (by decide +kernel)) ggX11_event_X1_has
set_option maxRecDepth 20000 in
theorem ggX11_event_X11_isWithin : GoodIn wsX11_event wsX11_isWithin := goodIn_r _ [10] (by decide +kernel) (by decide +kernel)
set_option maxRecDepth 20000 in
theorem gX11_event_X11_isWithin : GoodIn wsX11_event (va_wsS RX11 66 yX11_isWithin wsX11_isWithin) := goodIn_app (goodIn_of _ (by decide +kernel)) ggX11_event_X11_isWithin
theorem dX11_event_0 : decode cX11_event 0 = .ok (.aload_n 0, 1) := by decide +kernel
theorem dX11_event_1 : decode cX11_event 1 = .ok (.getfield 58, 3) := by decide +kernel
theorem dX11_event_4 : decode cX11_event 4 = .ok (.iload_n 1, 1) := by decide +kernel
theorem dX11_event_5 : decode cX11_event 5 = .ok (.invokevirtual 181, 3) := by decide +kernel
theorem dX11_event_8 : decode cX11_event 8 = .ok (.ifCond .eq 27, 3) := by decide +kernel
theorem dX11_event_11 : decode cX11_event 11 = .ok (.iload_n 2, 1) := by decide +kernel
theorem dX11_event_12 : decode cX11_event 12 = .ok (.iconst 0, 1) := by decide +kernel
theorem dX11_event_13 : decode cX11_event 13 = .ok (.bipush 6, 2) := by decide +kernel
theorem dX11_event_15 : decode cX11_event 15 = .ok (.invokestatic 66, 3) := by decide +kernel
theorem dX11_event_18 : decode cX11_event 18 = .ok (.ifCond .eq 17, 3) := by decide +kernel
theorem dX11_event_21 : decode cX11_event 21 = .ok (.aload_n 0, 1) := by decide +kernel
theorem dX11_event_22 : decode cX11_event 22 = .ok (.getfield 58, 3) := by decide +kernel
theorem dX11_event_25 : decode cX11_event 25 = .ok (.getfield 182, 3) := by decide +kernel
theorem dX11_event_28 : decode cX11_event 28 = .ok (.iload_n 2, 1) := by decide +kernel
theorem dX11_event_29 : decode cX11_event 29 = .ok (.aaload, 1) := by decide +kernel
theorem dX11_event_30 : decode cX11_event 30 = .ok (.iload_n 1, 1) := by decide +kernel
theorem dX11_event_31 : decode cX11_event 31 = .ok (.iaload, 1) := by decide +kernel
theorem dX11_event_32 : decode cX11_event 32 = .ok (.goto 6, 3) := by decide +kernel
theorem dX11_event_35 : decode cX11_event 35 = .ok (.sipush (-1001), 3) := by decide +kernel
theorem dX11_event_38 : decode cX11_event 38 = .ok (.ireturn, 1) := by decide +kernel
set_option maxRecDepth 20000 in
theorem ggX11_sounding_X1_soundingAt : GoodIn wsX11_sounding wsX1_soundingAt := goodIn_r _ [6, 7, 8, 9, 10, 11, 5, 12, 21, 22, 23] (by decide +kernel) (by decide +kernel)
set_option maxRecDepth 20000 in
theorem gX11_sounding_X1_soundingAt : GoodIn wsX11_sounding (wsV RX11 183 RX1 yX1_soundingAt wsX1_soundingAt) := goodIn_app (goodIn_of _ (by decide +kernel)) ggX11_sounding_X1_soundingAt
theorem dX11_sounding_0 : decode cX11_sounding 0 = .ok (.aload_n 0, 1) := by decide +kernel
theorem dX11_sounding_1 : decode cX11_sounding 1 = .ok (.getfield 58, 3) := by decide +kernel
theorem dX11_sounding_4 : decode cX11_sounding 4 = .ok (.iload_n 1, 1) := by decide +kernel
theorem dX11_sounding_5 : decode cX11_sounding 5 = .ok (.invokevirtual 183, 3) := by decide +kernel
theorem dX11_sounding_8 : decode cX11_sounding 8 = .ok (.ireturn, 1) := by decide +kernel
set_option maxRecDepth 20000 in
theorem ggX11_span_X4_has : GoodIn wsX11_span wsX4_has := goodIn_r _ [7, 8, 9, 10, 11, 44, 45, 46, 47, 48, 49] (by decide +kernel) (by decide +kernel)
set_option maxRecDepth 20000 in
theorem gX11_span_X4_has : GoodIn wsX11_span (wsV RX11 80 RX4 yX4_has wsX4_has) := goodIn_app (goodIn_of _ (by decide +kernel)) ggX11_span_X4_has
set_option maxRecDepth 20000 in
theorem ggX11_span_X1_howManyOf : GoodIn wsX11_span wsX1_howManyOf := goodIn_r _ [16, 17, 18, 50, 51, 52] (by decide +kernel) (by decide +kernel)
set_option maxRecDepth 20000 in
theorem gX11_span_X1_howManyOf : GoodIn wsX11_span (wsV RX11 186 RX1 yX1_howManyOf wsX1_howManyOf) := goodIn_app (goodIn_of _ (by decide +kernel)) ggX11_span_X1_howManyOf
set_option maxRecDepth 20000 in
theorem ggX11_span_X1_firstBeginOf : GoodIn wsX11_span wsX1_firstBeginOf := goodIn_r _ [22, 17, 18, 50, 51, 52] (by decide +kernel) (by decide +kernel)
set_option maxRecDepth 20000 in
theorem gX11_span_X1_firstBeginOf : GoodIn wsX11_span (wsV RX11 189 RX1 yX1_firstBeginOf wsX1_firstBeginOf) := goodIn_app (goodIn_of _ (by decide +kernel)) ggX11_span_X1_firstBeginOf
set_option maxRecDepth 20000 in
theorem ggX11_span_X1_lastEndOf : GoodIn wsX11_span wsX1_lastEndOf := goodIn_r _ [26, 17, 18, 27, 28, 29, 15, 30, 50, 51, 52] (by decide +kernel) (by decide +kernel)
set_option maxRecDepth 20000 in
theorem gX11_span_X1_lastEndOf : GoodIn wsX11_span (wsV RX11 192 RX1 yX1_lastEndOf wsX1_lastEndOf) := goodIn_app (goodIn_of _ (by decide +kernel)) ggX11_span_X1_lastEndOf
theorem dX11_span_0 : decode cX11_span 0 = .ok (.aload_n 0, 1) := by decide +kernel
theorem dX11_span_1 : decode cX11_span 1 = .ok (.getfield 16, 3) := by decide +kernel
theorem dX11_span_4 : decode cX11_span 4 = .ok (.getfield 72, 3) := by decide +kernel
theorem dX11_span_7 : decode cX11_span 7 = .ok (.iload_n 1, 1) := by decide +kernel
theorem dX11_span_8 : decode cX11_span 8 = .ok (.invokevirtual 80, 3) := by decide +kernel
theorem dX11_span_11 : decode cX11_span 11 = .ok (.ifCond .ne 7, 3) := by decide +kernel
theorem dX11_span_14 : decode cX11_span 14 = .ok (.sipush (-1001), 3) := by decide +kernel
theorem dX11_span_17 : decode cX11_span 17 = .ok (.ireturn, 1) := by decide +kernel
theorem dX11_span_18 : decode cX11_span 18 = .ok (.iload_n 2, 1) := by decide +kernel
theorem dX11_span_19 : decode cX11_span 19 = .ok (.tableswitch 52 0 2 #[25, 34, 43], 25) := by decide +kernel
theorem dX11_span_44 : decode cX11_span 44 = .ok (.aload_n 0, 1) := by decide +kernel
theorem dX11_span_45 : decode cX11_span 45 = .ok (.getfield 58, 3) := by decide +kernel
theorem dX11_span_48 : decode cX11_span 48 = .ok (.iload_n 1, 1) := by decide +kernel
theorem dX11_span_49 : decode cX11_span 49 = .ok (.invokevirtual 186, 3) := by decide +kernel
theorem dX11_span_52 : decode cX11_span 52 = .ok (.ireturn, 1) := by decide +kernel
theorem dX11_span_53 : decode cX11_span 53 = .ok (.aload_n 0, 1) := by decide +kernel
theorem dX11_span_54 : decode cX11_span 54 = .ok (.getfield 58, 3) := by decide +kernel
theorem dX11_span_57 : decode cX11_span 57 = .ok (.iload_n 1, 1) := by decide +kernel
theorem dX11_span_58 : decode cX11_span 58 = .ok (.invokevirtual 189, 3) := by decide +kernel
theorem dX11_span_61 : decode cX11_span 61 = .ok (.ireturn, 1) := by decide +kernel
theorem dX11_span_62 : decode cX11_span 62 = .ok (.aload_n 0, 1) := by decide +kernel
theorem dX11_span_63 : decode cX11_span 63 = .ok (.getfield 58, 3) := by decide +kernel
theorem dX11_span_66 : decode cX11_span 66 = .ok (.iload_n 1, 1) := by decide +kernel
theorem dX11_span_67 : decode cX11_span 67 = .ok (.invokevirtual 192, 3) := by decide +kernel
theorem dX11_span_70 : decode cX11_span 70 = .ok (.ireturn, 1) := by decide +kernel
theorem dX11_span_71 : decode cX11_span 71 = .ok (.sipush (-1001), 3) := by decide +kernel
theorem dX11_span_74 : decode cX11_span 74 = .ok (.ireturn, 1) := by decide +kernel
theorem dX11_count_0 : decode cX11_count 0 = .ok (.iload_n 1, 1) := by decide +kernel
theorem dX11_count_1 : decode cX11_count 1 = .ok (.tableswitch 96 0 5 #[39, 50, 61, 72, 80, 88], 39) := by decide +kernel
theorem dX11_count_40 : decode cX11_count 40 = .ok (.aload_n 0, 1) := by decide +kernel
theorem dX11_count_41 : decode cX11_count 41 = .ok (.getfield 16, 3) := by decide +kernel
theorem dX11_count_44 : decode cX11_count 44 = .ok (.getfield 72, 3) := by decide +kernel
theorem dX11_count_47 : decode cX11_count 47 = .ok (.getfield 195, 3) := by decide +kernel
theorem dX11_count_50 : decode cX11_count 50 = .ok (.ireturn, 1) := by decide +kernel
theorem dX11_count_51 : decode cX11_count 51 = .ok (.aload_n 0, 1) := by decide +kernel
theorem dX11_count_52 : decode cX11_count 52 = .ok (.getfield 16, 3) := by decide +kernel
theorem dX11_count_55 : decode cX11_count 55 = .ok (.getfield 90, 3) := by decide +kernel
theorem dX11_count_58 : decode cX11_count 58 = .ok (.getfield 196, 3) := by decide +kernel
theorem dX11_count_61 : decode cX11_count 61 = .ok (.ireturn, 1) := by decide +kernel
theorem dX11_count_62 : decode cX11_count 62 = .ok (.aload_n 0, 1) := by decide +kernel
theorem dX11_count_63 : decode cX11_count 63 = .ok (.getfield 16, 3) := by decide +kernel
theorem dX11_count_66 : decode cX11_count 66 = .ok (.getfield 104, 3) := by decide +kernel
theorem dX11_count_69 : decode cX11_count 69 = .ok (.getfield 197, 3) := by decide +kernel
theorem dX11_count_72 : decode cX11_count 72 = .ok (.ireturn, 1) := by decide +kernel
theorem dX11_count_73 : decode cX11_count 73 = .ok (.aload_n 0, 1) := by decide +kernel
theorem dX11_count_74 : decode cX11_count 74 = .ok (.getfield 30, 3) := by decide +kernel
theorem dX11_count_77 : decode cX11_count 77 = .ok (.getfield 198, 3) := by decide +kernel
theorem dX11_count_80 : decode cX11_count 80 = .ok (.ireturn, 1) := by decide +kernel
theorem dX11_count_81 : decode cX11_count 81 = .ok (.aload_n 0, 1) := by decide +kernel
theorem dX11_count_82 : decode cX11_count 82 = .ok (.getfield 58, 3) := by decide +kernel
theorem dX11_count_85 : decode cX11_count 85 = .ok (.getfield 177, 3) := by decide +kernel
theorem dX11_count_88 : decode cX11_count 88 = .ok (.ireturn, 1) := by decide +kernel
theorem dX11_count_89 : decode cX11_count 89 = .ok (.aload_n 0, 1) := by decide +kernel
theorem dX11_count_90 : decode cX11_count 90 = .ok (.getfield 23, 3) := by decide +kernel
theorem dX11_count_93 : decode cX11_count 93 = .ok (.getfield 199, 3) := by decide +kernel
theorem dX11_count_96 : decode cX11_count 96 = .ok (.ireturn, 1) := by decide +kernel
theorem dX11_count_97 : decode cX11_count 97 = .ok (.sipush (-1001), 3) := by decide +kernel
theorem dX11_count_100 : decode cX11_count 100 = .ok (.ireturn, 1) := by decide +kernel
theorem dX11_isWithin_0 : decode cX11_isWithin 0 = .ok (.iload_n 1, 1) := by decide +kernel
theorem dX11_isWithin_1 : decode cX11_isWithin 1 = .ok (.iload_n 0, 1) := by decide +kernel
theorem dX11_isWithin_2 : decode cX11_isWithin 2 = .ok (.if_icmp .gt 12, 3) := by decide +kernel
theorem dX11_isWithin_5 : decode cX11_isWithin 5 = .ok (.iload_n 0, 1) := by decide +kernel
theorem dX11_isWithin_6 : decode cX11_isWithin 6 = .ok (.iload_n 2, 1) := by decide +kernel
theorem dX11_isWithin_7 : decode cX11_isWithin 7 = .ok (.if_icmp .gt 7, 3) := by decide +kernel
theorem dX11_isWithin_10 : decode cX11_isWithin 10 = .ok (.iconst 1, 1) := by decide +kernel
theorem dX11_isWithin_11 : decode cX11_isWithin 11 = .ok (.goto 4, 3) := by decide +kernel
theorem dX11_isWithin_14 : decode cX11_isWithin 14 = .ok (.iconst 0, 1) := by decide +kernel
theorem dX11_isWithin_15 : decode cX11_isWithin 15 = .ok (.ireturn, 1) := by decide +kernel
set_option maxRecDepth 20000 in
theorem ggX11_isTick_X11_isWithin : GoodIn wsX11_isTick wsX11_isWithin := goodIn_r _ [4] (by decide +kernel) (by decide +kernel)
set_option maxRecDepth 20000 in
theorem gX11_isTick_X11_isWithin : GoodIn wsX11_isTick (va_wsS RX11 66 yX11_isWithin wsX11_isWithin) := goodIn_app (goodIn_of _ (by decide +kernel)) ggX11_isTick_X11_isWithin
theorem dX11_isTick_0 : decode cX11_isTick 0 = .ok (.iload_n 0, 1) := by decide +kernel
theorem dX11_isTick_1 : decode cX11_isTick 1 = .ok (.iconst 0, 1) := by decide +kernel
theorem dX11_isTick_2 : decode cX11_isTick 2 = .ok (.sipush 20000, 3) := by decide +kernel
theorem dX11_isTick_5 : decode cX11_isTick 5 = .ok (.invokestatic 66, 3) := by decide +kernel
theorem dX11_isTick_8 : decode cX11_isTick 8 = .ok (.ireturn, 1) := by decide +kernel
set_option maxRecDepth 20000 in
theorem ggX11_isVoice_X11_isWithin : GoodIn wsX11_isVoice wsX11_isWithin := goodIn_r _ [4] (by decide +kernel) (by decide +kernel)
set_option maxRecDepth 20000 in
theorem gX11_isVoice_X11_isWithin : GoodIn wsX11_isVoice (va_wsS RX11 66 yX11_isWithin wsX11_isWithin) := goodIn_app (goodIn_of _ (by decide +kernel)) ggX11_isVoice_X11_isWithin
theorem dX11_isVoice_0 : decode cX11_isVoice 0 = .ok (.iload_n 0, 1) := by decide +kernel
theorem dX11_isVoice_1 : decode cX11_isVoice 1 = .ok (.iconst 0, 1) := by decide +kernel
theorem dX11_isVoice_2 : decode cX11_isVoice 2 = .ok (.iconst 3, 1) := by decide +kernel
theorem dX11_isVoice_3 : decode cX11_isVoice 3 = .ok (.invokestatic 66, 3) := by decide +kernel
theorem dX11_isVoice_6 : decode cX11_isVoice 6 = .ok (.ireturn, 1) := by decide +kernel
set_option maxRecDepth 20000 in
theorem ggX11_quotient_J9_floorDiv_f86c9 : GoodIn wsX11_quotient wsJ9_floorDiv_f86c9 := goodIn_r _ [4] (by decide +kernel) (by decide +kernel)
set_option maxRecDepth 20000 in
theorem gX11_quotient_J9_floorDiv_f86c9 : GoodIn wsX11_quotient (va_wsS RX11 202 yJ9_floorDiv_f86c9 wsJ9_floorDiv_f86c9) := goodIn_app (goodIn_of _ (by decide +kernel)) ggX11_quotient_J9_floorDiv_f86c9
theorem dX11_quotient_0 : decode cX11_quotient 0 = .ok (.lload_n 2, 1) := by decide +kernel
theorem dX11_quotient_1 : decode cX11_quotient 1 = .ok (.lconst 0, 1) := by decide +kernel
theorem dX11_quotient_2 : decode cX11_quotient 2 = .ok (.lcmp, 1) := by decide +kernel
theorem dX11_quotient_3 : decode cX11_quotient 3 = .ok (.ifCond .gt 7, 3) := by decide +kernel
theorem dX11_quotient_6 : decode cX11_quotient 6 = .ok (.iconst 0, 1) := by decide +kernel
theorem dX11_quotient_7 : decode cX11_quotient 7 = .ok (.goto 9, 3) := by decide +kernel
theorem dX11_quotient_10 : decode cX11_quotient 10 = .ok (.lload_n 0, 1) := by decide +kernel
theorem dX11_quotient_11 : decode cX11_quotient 11 = .ok (.lload_n 2, 1) := by decide +kernel
theorem dX11_quotient_12 : decode cX11_quotient 12 = .ok (.invokestatic 202, 3) := by decide +kernel
theorem dX11_quotient_15 : decode cX11_quotient 15 = .ok (.l2i, 1) := by decide +kernel
theorem dX11_quotient_16 : decode cX11_quotient 16 = .ok (.ireturn, 1) := by decide +kernel
theorem dX12_init_0 : decode cX12_init 0 = .ok (.aload_n 0, 1) := by decide +kernel
theorem dX12_init_1 : decode cX12_init 1 = .ok (.invokespecial 1, 3) := by decide +kernel
theorem dX12_init_4 : decode cX12_init 4 = .ok (.aload_n 0, 1) := by decide +kernel
theorem dX12_init_5 : decode cX12_init 5 = .ok (.bipush 48, 2) := by decide +kernel
theorem dX12_init_7 : decode cX12_init 7 = .ok (.newarray .int, 2) := by decide +kernel
theorem dX12_init_9 : decode cX12_init 9 = .ok (.putfield 7, 3) := by decide +kernel
theorem dX12_init_12 : decode cX12_init 12 = .ok (.aload_n 0, 1) := by decide +kernel
theorem dX12_init_13 : decode cX12_init 13 = .ok (.bipush 48, 2) := by decide +kernel
theorem dX12_init_15 : decode cX12_init 15 = .ok (.newarray .int, 2) := by decide +kernel
theorem dX12_init_17 : decode cX12_init 17 = .ok (.putfield 13, 3) := by decide +kernel
theorem dX12_init_20 : decode cX12_init 20 = .ok (.aload_n 0, 1) := by decide +kernel
theorem dX12_init_21 : decode cX12_init 21 = .ok (.bipush 48, 2) := by decide +kernel
theorem dX12_init_23 : decode cX12_init 23 = .ok (.newarray .int, 2) := by decide +kernel
theorem dX12_init_25 : decode cX12_init 25 = .ok (.putfield 16, 3) := by decide +kernel
theorem dX12_init_28 : decode cX12_init 28 = .ok (.aload_n 0, 1) := by decide +kernel
theorem dX12_init_29 : decode cX12_init 29 = .ok (.bipush 48, 2) := by decide +kernel
theorem dX12_init_31 : decode cX12_init 31 = .ok (.newarray .int, 2) := by decide +kernel
theorem dX12_init_33 : decode cX12_init 33 = .ok (.putfield 19, 3) := by decide +kernel
theorem dX12_init_36 : decode cX12_init 36 = .ok (.aload_n 0, 1) := by decide +kernel
theorem dX12_init_37 : decode cX12_init 37 = .ok (.bipush 48, 2) := by decide +kernel
theorem dX12_init_39 : decode cX12_init 39 = .ok (.newarray .int, 2) := by decide +kernel
theorem dX12_init_41 : decode cX12_init 41 = .ok (.putfield 22, 3) := by decide +kernel
theorem dX12_init_44 : decode cX12_init 44 = .ok (.aload_n 0, 1) := by decide +kernel
theorem dX12_init_45 : decode cX12_init 45 = .ok (.bipush 12, 2) := by decide +kernel
theorem dX12_init_47 : decode cX12_init 47 = .ok (.newarray .int, 2) := by decide +kernel
theorem dX12_init_49 : decode cX12_init 49 = .ok (.putfield 25, 3) := by decide +kernel
theorem dX12_init_52 : decode cX12_init 52 = .ok (.aload_n 0, 1) := by decide +kernel
theorem dX12_init_53 : decode cX12_init 53 = .ok (.bipush 12, 2) := by decide +kernel
theorem dX12_init_55 : decode cX12_init 55 = .ok (.newarray .int, 2) := by decide +kernel
theorem dX12_init_57 : decode cX12_init 57 = .ok (.putfield 28, 3) := by decide +kernel
theorem dX12_init_60 : decode cX12_init 60 = .ok (.aload_n 0, 1) := by decide +kernel
theorem dX12_init_61 : decode cX12_init 61 = .ok (.bipush 12, 2) := by decide +kernel
theorem dX12_init_63 : decode cX12_init 63 = .ok (.newarray .boolean, 2) := by decide +kernel
theorem dX12_init_65 : decode cX12_init 65 = .ok (.putfield 31, 3) := by decide +kernel
theorem dX12_init_68 : decode cX12_init 68 = .ok (.aload_n 0, 1) := by decide +kernel
theorem dX12_init_69 : decode cX12_init 69 = .ok (.iconst 4, 1) := by decide +kernel
theorem dX12_init_70 : decode cX12_init 70 = .ok (.putfield 35, 3) := by decide +kernel
theorem dX12_init_73 : decode cX12_init 73 = .ok (.aload_n 0, 1) := by decide +kernel
theorem dX12_init_74 : decode cX12_init 74 = .ok (.sipush 240, 3) := by decide +kernel
theorem dX12_init_77 : decode cX12_init 77 = .ok (.putfield 39, 3) := by decide +kernel
theorem dX12_init_80 : decode cX12_init 80 = .ok (.aload_n 0, 1) := by decide +kernel
theorem dX12_init_81 : decode cX12_init 81 = .ok (.bipush 6, 2) := by decide +kernel
theorem dX12_init_83 : decode cX12_init 83 = .ok (.newarray .int, 2) := by decide +kernel
theorem dX12_init_85 : decode cX12_init 85 = .ok (.putfield 42, 3) := by decide +kernel
theorem dX12_init_88 : decode cX12_init 88 = .ok (.aload_n 0, 1) := by decide +kernel
theorem dX12_init_89 : decode cX12_init 89 = .ok (.bipush 6, 2) := by decide +kernel
theorem dX12_init_91 : decode cX12_init 91 = .ok (.newarray .int, 2) := by decide +kernel
theorem dX12_init_93 : decode cX12_init 93 = .ok (.putfield 45, 3) := by decide +kernel
theorem dX12_init_96 : decode cX12_init 96 = .ok (.aload_n 0, 1) := by decide +kernel
theorem dX12_init_97 : decode cX12_init 97 = .ok (.bipush 6, 2) := by decide +kernel
theorem dX12_init_99 : decode cX12_init 99 = .ok (.newarray .int, 2) := by decide +kernel
theorem dX12_init_101 : decode cX12_init 101 = .ok (.putfield 48, 3) := by decide +kernel
theorem dX12_init_104 : decode cX12_init 104 = .ok (.aload_n 0, 1) := by decide +kernel
theorem dX12_init_105 : decode cX12_init 105 = .ok (.bipush 24, 2) := by decide +kernel
theorem dX12_init_107 : decode cX12_init 107 = .ok (.newarray .int, 2) := by decide +kernel
theorem dX12_init_109 : decode cX12_init 109 = .ok (.putfield 51, 3) := by decide +kernel
theorem dX12_init_112 : decode cX12_init 112 = .ok (.aload_n 0, 1) := by decide +kernel
theorem dX12_init_113 : decode cX12_init 113 = .ok (.bipush 24, 2) := by decide +kernel
theorem dX12_init_115 : decode cX12_init 115 = .ok (.newarray .int, 2) := by decide +kernel
theorem dX12_init_117 : decode cX12_init 117 = .ok (.putfield 54, 3) := by decide +kernel
theorem dX12_init_120 : decode cX12_init 120 = .ok (.aload_n 0, 1) := by decide +kernel
theorem dX12_init_121 : decode cX12_init 121 = .ok (.bipush 24, 2) := by decide +kernel
theorem dX12_init_123 : decode cX12_init 123 = .ok (.newarray .int, 2) := by decide +kernel
theorem dX12_init_125 : decode cX12_init 125 = .ok (.putfield 57, 3) := by decide +kernel
theorem dX12_init_128 : decode cX12_init 128 = .ok (.aload_n 0, 1) := by decide +kernel
theorem dX12_init_129 : decode cX12_init 129 = .ok (.bipush 24, 2) := by decide +kernel
theorem dX12_init_131 : decode cX12_init 131 = .ok (.newarray .int, 2) := by decide +kernel
theorem dX12_init_133 : decode cX12_init 133 = .ok (.putfield 60, 3) := by decide +kernel
theorem dX12_init_136 : decode cX12_init 136 = .ok (.aload_n 0, 1) := by decide +kernel
theorem dX12_init_137 : decode cX12_init 137 = .ok (.sipush 400, 3) := by decide +kernel
theorem dX12_init_140 : decode cX12_init 140 = .ok (.newarray .int, 2) := by decide +kernel
theorem dX12_init_142 : decode cX12_init 142 = .ok (.putfield 63, 3) := by decide +kernel
theorem dX12_init_145 : decode cX12_init 145 = .ok (.aload_n 0, 1) := by decide +kernel
theorem dX12_init_146 : decode cX12_init 146 = .ok (.sipush 2400, 3) := by decide +kernel
theorem dX12_init_149 : decode cX12_init 149 = .ok (.newarray .int, 2) := by decide +kernel
theorem dX12_init_151 : decode cX12_init 151 = .ok (.putfield 66, 3) := by decide +kernel
theorem dX12_init_154 : decode cX12_init 154 = .ok (.aload_n 0, 1) := by decide +kernel
theorem dX12_init_155 : decode cX12_init 155 = .ok (.sipush 2400, 3) := by decide +kernel
theorem dX12_init_158 : decode cX12_init 158 = .ok (.newarray .int, 2) := by decide +kernel
theorem dX12_init_160 : decode cX12_init 160 = .ok (.putfield 69, 3) := by decide +kernel
theorem dX12_init_163 : decode cX12_init 163 = .ok (.aload_n 0, 1) := by decide +kernel
theorem dX12_init_164 : decode cX12_init 164 = .ok (.lload_n 1, 1) := by decide +kernel
theorem dX12_init_165 : decode cX12_init 165 = .ok (.putfield 72, 3) := by decide +kernel
theorem dX12_init_168 : decode cX12_init 168 = .ok (.return_, 1) := by decide +kernel
theorem dX12_in_0 : decode cX12_in 0 = .ok (.lload_n 0, 1) := by decide +kernel
theorem dX12_in_1 : decode cX12_in 1 = .ok (.lload_n 2, 1) := by decide +kernel
theorem dX12_in_2 : decode cX12_in 2 = .ok (.lcmp, 1) := by decide +kernel
theorem dX12_in_3 : decode cX12_in 3 = .ok (.ifCond .lt 14, 3) := by decide +kernel
theorem dX12_in_6 : decode cX12_in 6 = .ok (.lload_n 0, 1) := by decide +kernel
theorem dX12_in_7 : decode cX12_in 7 = .ok (.lload 4, 2) := by decide +kernel
theorem dX12_in_9 : decode cX12_in 9 = .ok (.lcmp, 1) := by decide +kernel
theorem dX12_in_10 : decode cX12_in 10 = .ok (.ifCond .gt 7, 3) := by decide +kernel
theorem dX12_in_13 : decode cX12_in 13 = .ok (.iconst 1, 1) := by decide +kernel
theorem dX12_in_14 : decode cX12_in 14 = .ok (.goto 4, 3) := by decide +kernel
theorem dX12_in_17 : decode cX12_in 17 = .ok (.iconst 0, 1) := by decide +kernel
theorem dX12_in_18 : decode cX12_in 18 = .ok (.ireturn, 1) := by decide +kernel
theorem dX12_floor_0 : decode cX12_floor 0 = .ok (.lload_n 0, 1) := by decide +kernel
theorem dX12_floor_1 : decode cX12_floor 1 = .ok (.lload_n 2, 1) := by decide +kernel
theorem dX12_floor_2 : decode cX12_floor 2 = .ok (.ldiv, 1) := by decide +kernel
theorem dX12_floor_3 : decode cX12_floor 3 = .ok (.lstore 4, 2) := by decide +kernel
theorem dX12_floor_5 : decode cX12_floor 5 = .ok (.lload_n 0, 1) := by decide +kernel
theorem dX12_floor_6 : decode cX12_floor 6 = .ok (.lload_n 2, 1) := by decide +kernel
theorem dX12_floor_7 : decode cX12_floor 7 = .ok (.lrem, 1) := by decide +kernel
theorem dX12_floor_8 : decode cX12_floor 8 = .ok (.lconst 0, 1) := by decide +kernel
theorem dX12_floor_9 : decode cX12_floor 9 = .ok (.lcmp, 1) := by decide +kernel
theorem dX12_floor_10 : decode cX12_floor 10 = .ok (.ifCond .eq 35, 3) := by decide +kernel
theorem dX12_floor_13 : decode cX12_floor 13 = .ok (.lload_n 0, 1) := by decide +kernel
theorem dX12_floor_14 : decode cX12_floor 14 = .ok (.lconst 0, 1) := by decide +kernel
theorem dX12_floor_15 : decode cX12_floor 15 = .ok (.lcmp, 1) := by decide +kernel
theorem dX12_floor_16 : decode cX12_floor 16 = .ok (.ifCond .ge 7, 3) := by decide +kernel
theorem dX12_floor_19 : decode cX12_floor 19 = .ok (.iconst 1, 1) := by decide +kernel
theorem dX12_floor_20 : decode cX12_floor 20 = .ok (.goto 4, 3) := by decide +kernel
theorem dX12_floor_23 : decode cX12_floor 23 = .ok (.iconst 0, 1) := by decide +kernel
theorem dX12_floor_24 : decode cX12_floor 24 = .ok (.lload_n 2, 1) := by decide +kernel
theorem dX12_floor_25 : decode cX12_floor 25 = .ok (.lconst 0, 1) := by decide +kernel
theorem dX12_floor_26 : decode cX12_floor 26 = .ok (.lcmp, 1) := by decide +kernel
theorem dX12_floor_27 : decode cX12_floor 27 = .ok (.ifCond .ge 7, 3) := by decide +kernel
theorem dX12_floor_30 : decode cX12_floor 30 = .ok (.iconst 1, 1) := by decide +kernel
theorem dX12_floor_31 : decode cX12_floor 31 = .ok (.goto 4, 3) := by decide +kernel
theorem dX12_floor_34 : decode cX12_floor 34 = .ok (.iconst 0, 1) := by decide +kernel
theorem dX12_floor_35 : decode cX12_floor 35 = .ok (.if_icmp .eq 10, 3) := by decide +kernel
theorem dX12_floor_38 : decode cX12_floor 38 = .ok (.lload 4, 2) := by decide +kernel
theorem dX12_floor_40 : decode cX12_floor 40 = .ok (.lconst 1, 1) := by decide +kernel
theorem dX12_floor_41 : decode cX12_floor 41 = .ok (.lsub, 1) := by decide +kernel
theorem dX12_floor_42 : decode cX12_floor 42 = .ok (.goto 5, 3) := by decide +kernel
theorem dX12_floor_45 : decode cX12_floor 45 = .ok (.lload 4, 2) := by decide +kernel
theorem dX12_floor_47 : decode cX12_floor 47 = .ok (.lreturn, 1) := by decide +kernel
theorem dX12_lesser_0 : decode cX12_lesser 0 = .ok (.iload_n 0, 1) := by decide +kernel
theorem dX12_lesser_1 : decode cX12_lesser 1 = .ok (.iload_n 1, 1) := by decide +kernel
theorem dX12_lesser_2 : decode cX12_lesser 2 = .ok (.if_icmp .ge 7, 3) := by decide +kernel
theorem dX12_lesser_5 : decode cX12_lesser 5 = .ok (.iload_n 0, 1) := by decide +kernel
theorem dX12_lesser_6 : decode cX12_lesser 6 = .ok (.goto 4, 3) := by decide +kernel
theorem dX12_lesser_9 : decode cX12_lesser 9 = .ok (.iload_n 1, 1) := by decide +kernel
theorem dX12_lesser_10 : decode cX12_lesser 10 = .ok (.ireturn, 1) := by decide +kernel
set_option maxRecDepth 20000 in
theorem ggX12_note_X12_in : GoodIn wsX12_note wsX12_in := goodIn_r _ [16] (by decide +kernel) (by decide +kernel)
set_option maxRecDepth 20000 in
theorem gX12_note_X12_in : GoodIn wsX12_note (va_wsS RX12 78 yX12_in wsX12_in) := goodIn_app (goodIn_of _ (by decide +kernel)) ggX12_note_X12_in
theorem dX12_note_0 : decode cX12_note 0 = .ok (.iload_n 1, 1) := by decide +kernel
theorem dX12_note_1 : decode cX12_note 1 = .ok (.i2l, 1) := by decide +kernel
theorem dX12_note_2 : decode cX12_note 2 = .ok (.lconst 0, 1) := by decide +kernel
theorem dX12_note_3 : decode cX12_note 3 = .ok (.ldc2_w 76, 3) := by decide +kernel
theorem dX12_note_6 : decode cX12_note 6 = .ok (.invokestatic 78, 3) := by decide +kernel
theorem dX12_note_9 : decode cX12_note 9 = .ok (.ifCond .eq 55, 3) := by decide +kernel
theorem dX12_note_12 : decode cX12_note 12 = .ok (.iload_n 2, 1) := by decide +kernel
theorem dX12_note_13 : decode cX12_note 13 = .ok (.i2l, 1) := by decide +kernel
theorem dX12_note_14 : decode cX12_note 14 = .ok (.lconst 0, 1) := by decide +kernel
theorem dX12_note_15 : decode cX12_note 15 = .ok (.ldc2_w 82, 3) := by decide +kernel
theorem dX12_note_18 : decode cX12_note 18 = .ok (.invokestatic 78, 3) := by decide +kernel
theorem dX12_note_21 : decode cX12_note 21 = .ok (.ifCond .eq 43, 3) := by decide +kernel
theorem dX12_note_24 : decode cX12_note 24 = .ok (.iload_n 3, 1) := by decide +kernel
theorem dX12_note_25 : decode cX12_note 25 = .ok (.i2l, 1) := by decide +kernel
theorem dX12_note_26 : decode cX12_note 26 = .ok (.lconst 1, 1) := by decide +kernel
theorem dX12_note_27 : decode cX12_note 27 = .ok (.ldc2_w 84, 3) := by decide +kernel
theorem dX12_note_30 : decode cX12_note 30 = .ok (.invokestatic 78, 3) := by decide +kernel
theorem dX12_note_33 : decode cX12_note 33 = .ok (.ifCond .eq 31, 3) := by decide +kernel
theorem dX12_note_36 : decode cX12_note 36 = .ok (.iload 4, 2) := by decide +kernel
theorem dX12_note_38 : decode cX12_note 38 = .ok (.i2l, 1) := by decide +kernel
theorem dX12_note_39 : decode cX12_note 39 = .ok (.ldc2_w 86, 3) := by decide +kernel
theorem dX12_note_42 : decode cX12_note 42 = .ok (.ldc2_w 88, 3) := by decide +kernel
theorem dX12_note_45 : decode cX12_note 45 = .ok (.invokestatic 78, 3) := by decide +kernel
theorem dX12_note_48 : decode cX12_note 48 = .ok (.ifCond .eq 16, 3) := by decide +kernel
theorem dX12_note_51 : decode cX12_note 51 = .ok (.iload 5, 2) := by decide +kernel
theorem dX12_note_53 : decode cX12_note 53 = .ok (.i2l, 1) := by decide +kernel
theorem dX12_note_54 : decode cX12_note 54 = .ok (.lconst 0, 1) := by decide +kernel
theorem dX12_note_55 : decode cX12_note 55 = .ok (.ldc2_w 90, 3) := by decide +kernel
theorem dX12_note_58 : decode cX12_note 58 = .ok (.invokestatic 78, 3) := by decide +kernel
theorem dX12_note_61 : decode cX12_note 61 = .ok (.ifCond .ne 7, 3) := by decide +kernel
theorem dX12_note_64 : decode cX12_note 64 = .ok (.sipush (-1002), 3) := by decide +kernel
theorem dX12_note_67 : decode cX12_note 67 = .ok (.ireturn, 1) := by decide +kernel
theorem dX12_note_68 : decode cX12_note 68 = .ok (.aload_n 0, 1) := by decide +kernel
theorem dX12_note_69 : decode cX12_note 69 = .ok (.getfield 92, 3) := by decide +kernel
theorem dX12_note_72 : decode cX12_note 72 = .ok (.bipush 48, 2) := by decide +kernel
theorem dX12_note_74 : decode cX12_note 74 = .ok (.if_icmp .ne 7, 3) := by decide +kernel
theorem dX12_note_77 : decode cX12_note 77 = .ok (.sipush (-1004), 3) := by decide +kernel
theorem dX12_note_80 : decode cX12_note 80 = .ok (.ireturn, 1) := by decide +kernel
theorem dX12_note_81 : decode cX12_note 81 = .ok (.aload_n 0, 1) := by decide +kernel
theorem dX12_note_82 : decode cX12_note 82 = .ok (.getfield 7, 3) := by decide +kernel
theorem dX12_note_85 : decode cX12_note 85 = .ok (.aload_n 0, 1) := by decide +kernel
theorem dX12_note_86 : decode cX12_note 86 = .ok (.getfield 92, 3) := by decide +kernel
theorem dX12_note_89 : decode cX12_note 89 = .ok (.iload_n 1, 1) := by decide +kernel
theorem dX12_note_90 : decode cX12_note 90 = .ok (.iastore, 1) := by decide +kernel
theorem dX12_note_91 : decode cX12_note 91 = .ok (.aload_n 0, 1) := by decide +kernel
theorem dX12_note_92 : decode cX12_note 92 = .ok (.getfield 13, 3) := by decide +kernel
theorem dX12_note_95 : decode cX12_note 95 = .ok (.aload_n 0, 1) := by decide +kernel
theorem dX12_note_96 : decode cX12_note 96 = .ok (.getfield 92, 3) := by decide +kernel
theorem dX12_note_99 : decode cX12_note 99 = .ok (.iload_n 2, 1) := by decide +kernel
theorem dX12_note_100 : decode cX12_note 100 = .ok (.iastore, 1) := by decide +kernel
theorem dX12_note_101 : decode cX12_note 101 = .ok (.aload_n 0, 1) := by decide +kernel
theorem dX12_note_102 : decode cX12_note 102 = .ok (.getfield 16, 3) := by decide +kernel
theorem dX12_note_105 : decode cX12_note 105 = .ok (.aload_n 0, 1) := by decide +kernel
theorem dX12_note_106 : decode cX12_note 106 = .ok (.getfield 92, 3) := by decide +kernel
theorem dX12_note_109 : decode cX12_note 109 = .ok (.iload_n 3, 1) := by decide +kernel
theorem dX12_note_110 : decode cX12_note 110 = .ok (.iastore, 1) := by decide +kernel
theorem dX12_note_111 : decode cX12_note 111 = .ok (.aload_n 0, 1) := by decide +kernel
theorem dX12_note_112 : decode cX12_note 112 = .ok (.getfield 19, 3) := by decide +kernel
theorem dX12_note_115 : decode cX12_note 115 = .ok (.aload_n 0, 1) := by decide +kernel
theorem dX12_note_116 : decode cX12_note 116 = .ok (.getfield 92, 3) := by decide +kernel
theorem dX12_note_119 : decode cX12_note 119 = .ok (.iload 4, 2) := by decide +kernel
theorem dX12_note_121 : decode cX12_note 121 = .ok (.iastore, 1) := by decide +kernel
theorem dX12_note_122 : decode cX12_note 122 = .ok (.aload_n 0, 1) := by decide +kernel
theorem dX12_note_123 : decode cX12_note 123 = .ok (.getfield 22, 3) := by decide +kernel
theorem dX12_note_126 : decode cX12_note 126 = .ok (.aload_n 0, 1) := by decide +kernel
theorem dX12_note_127 : decode cX12_note 127 = .ok (.getfield 92, 3) := by decide +kernel
theorem dX12_note_130 : decode cX12_note 130 = .ok (.iload 5, 2) := by decide +kernel
theorem dX12_note_132 : decode cX12_note 132 = .ok (.iastore, 1) := by decide +kernel
theorem dX12_note_133 : decode cX12_note 133 = .ok (.aload_n 0, 1) := by decide +kernel
theorem dX12_note_134 : decode cX12_note 134 = .ok (.dup, 1) := by decide +kernel
theorem dX12_note_135 : decode cX12_note 135 = .ok (.getfield 92, 3) := by decide +kernel
theorem dX12_note_138 : decode cX12_note 138 = .ok (.iconst 1, 1) := by decide +kernel
theorem dX12_note_139 : decode cX12_note 139 = .ok (.iadd, 1) := by decide +kernel
theorem dX12_note_140 : decode cX12_note 140 = .ok (.putfield 92, 3) := by decide +kernel
theorem dX12_note_143 : decode cX12_note 143 = .ok (.aload_n 0, 1) := by decide +kernel
theorem dX12_note_144 : decode cX12_note 144 = .ok (.getfield 92, 3) := by decide +kernel
theorem dX12_note_147 : decode cX12_note 147 = .ok (.iconst 1, 1) := by decide +kernel
theorem dX12_note_148 : decode cX12_note 148 = .ok (.isub, 1) := by decide +kernel
theorem dX12_note_149 : decode cX12_note 149 = .ok (.ireturn, 1) := by decide +kernel
set_option maxRecDepth 20000 in
theorem ggX12_isNote_X12_in : GoodIn wsX12_isNote wsX12_in := goodIn_r _ [5] (by decide +kernel) (by decide +kernel)
set_option maxRecDepth 20000 in
theorem gX12_isNote_X12_in : GoodIn wsX12_isNote (va_wsS RX12 78 yX12_in wsX12_in) := goodIn_app (goodIn_of _ (by decide +kernel)) ggX12_isNote_X12_in
theorem dX12_isNote_0 : decode cX12_isNote 0 = .ok (.iload_n 1, 1) := by decide +kernel
theorem dX12_isNote_1 : decode cX12_isNote 1 = .ok (.i2l, 1) := by decide +kernel
theorem dX12_isNote_2 : decode cX12_isNote 2 = .ok (.lconst 0, 1) := by decide +kernel
theorem dX12_isNote_3 : decode cX12_isNote 3 = .ok (.aload_n 0, 1) := by decide +kernel
theorem dX12_isNote_4 : decode cX12_isNote 4 = .ok (.getfield 92, 3) := by decide +kernel
theorem dX12_isNote_7 : decode cX12_isNote 7 = .ok (.iconst 1, 1) := by decide +kernel
theorem dX12_isNote_8 : decode cX12_isNote 8 = .ok (.isub, 1) := by decide +kernel
theorem dX12_isNote_9 : decode cX12_isNote 9 = .ok (.i2l, 1) := by decide +kernel
theorem dX12_isNote_10 : decode cX12_isNote 10 = .ok (.invokestatic 78, 3) := by decide +kernel
theorem dX12_isNote_13 : decode cX12_isNote 13 = .ok (.ireturn, 1) := by decide +kernel
set_option maxRecDepth 20000 in
theorem ggX12_mark_X12_isNote : GoodIn wsX12_mark wsX12_isNote := goodIn_r _ [7, 8, 9, 10, 6, 11, 12, 13, 14, 15, 16, 17, 18, 19, 20, 21, 22, 23, 24, 25, 26, 27, 28, 29, 30, 31, 32, 33, 34, 35, 36, 37, 38, 39, 40, 41, 42, 43, 44, 45, 46] (by decide +kernel) (by decide +kernel)
set_option maxRecDepth 20000 in
theorem gX12_mark_X12_isNote : GoodIn wsX12_mark (wsV RX12 95 RX12 yX12_isNote wsX12_isNote) := goodIn_app (goodIn_of _ (by decide +kernel)) ggX12_mark_X12_isNote
set_option maxRecDepth 20000 in
theorem ggX12_mark_X12_in : GoodIn wsX12_mark wsX12_in := goodIn_r _ [11] (by decide +kernel) (by decide +kernel)
set_option maxRecDepth 20000 in
theorem gX12_mark_X12_in : GoodIn wsX12_mark (va_wsS RX12 78 yX12_in wsX12_in) := goodIn_app (goodIn_of _ (by decide +kernel)) ggX12_mark_X12_in
theorem dX12_mark_0 : decode cX12_mark 0 = .ok (.aload_n 0, 1) := by decide +kernel
theorem dX12_mark_1 : decode cX12_mark 1 = .ok (.iload_n 1, 1) := by decide +kernel
theorem dX12_mark_2 : decode cX12_mark 2 = .ok (.invokevirtual 95, 3) := by decide +kernel
theorem dX12_mark_5 : decode cX12_mark 5 = .ok (.ifCond .ne 7, 3) := by decide +kernel
theorem dX12_mark_8 : decode cX12_mark 8 = .ok (.sipush (-1001), 3) := by decide +kernel
theorem dX12_mark_11 : decode cX12_mark 11 = .ok (.ireturn, 1) := by decide +kernel
theorem dX12_mark_12 : decode cX12_mark 12 = .ok (.iload_n 2, 1) := by decide +kernel
theorem dX12_mark_13 : decode cX12_mark 13 = .ok (.i2l, 1) := by decide +kernel
theorem dX12_mark_14 : decode cX12_mark 14 = .ok (.lconst 0, 1) := by decide +kernel
theorem dX12_mark_15 : decode cX12_mark 15 = .ok (.ldc2_w 90, 3) := by decide +kernel
theorem dX12_mark_18 : decode cX12_mark 18 = .ok (.invokestatic 78, 3) := by decide +kernel
theorem dX12_mark_21 : decode cX12_mark 21 = .ok (.ifCond .ne 7, 3) := by decide +kernel
theorem dX12_mark_24 : decode cX12_mark 24 = .ok (.sipush (-1002), 3) := by decide +kernel
theorem dX12_mark_27 : decode cX12_mark 27 = .ok (.ireturn, 1) := by decide +kernel
theorem dX12_mark_28 : decode cX12_mark 28 = .ok (.aload_n 0, 1) := by decide +kernel
theorem dX12_mark_29 : decode cX12_mark 29 = .ok (.getfield 22, 3) := by decide +kernel
theorem dX12_mark_32 : decode cX12_mark 32 = .ok (.iload_n 1, 1) := by decide +kernel
theorem dX12_mark_33 : decode cX12_mark 33 = .ok (.iaload, 1) := by decide +kernel
theorem dX12_mark_34 : decode cX12_mark 34 = .ok (.istore_n 3, 1) := by decide +kernel
theorem dX12_mark_35 : decode cX12_mark 35 = .ok (.aload_n 0, 1) := by decide +kernel
theorem dX12_mark_36 : decode cX12_mark 36 = .ok (.getfield 22, 3) := by decide +kernel
theorem dX12_mark_39 : decode cX12_mark 39 = .ok (.iload_n 1, 1) := by decide +kernel
theorem dX12_mark_40 : decode cX12_mark 40 = .ok (.iload_n 2, 1) := by decide +kernel
theorem dX12_mark_41 : decode cX12_mark 41 = .ok (.iastore, 1) := by decide +kernel
theorem dX12_mark_42 : decode cX12_mark 42 = .ok (.iload_n 3, 1) := by decide +kernel
theorem dX12_mark_43 : decode cX12_mark 43 = .ok (.ireturn, 1) := by decide +kernel
set_option maxRecDepth 20000 in
theorem ggX12_level_X12_in : GoodIn wsX12_level wsX12_in := goodIn_r _ [10] (by decide +kernel) (by decide +kernel)
set_option maxRecDepth 20000 in
theorem gX12_level_X12_in : GoodIn wsX12_level (va_wsS RX12 78 yX12_in wsX12_in) := goodIn_app (goodIn_of _ (by decide +kernel)) ggX12_level_X12_in
theorem dX12_level_0 : decode cX12_level 0 = .ok (.iload_n 1, 1) := by decide +kernel
theorem dX12_level_1 : decode cX12_level 1 = .ok (.i2l, 1) := by decide +kernel
theorem dX12_level_2 : decode cX12_level 2 = .ok (.lconst 0, 1) := by decide +kernel
theorem dX12_level_3 : decode cX12_level 3 = .ok (.ldc2_w 99, 3) := by decide +kernel
theorem dX12_level_6 : decode cX12_level 6 = .ok (.invokestatic 78, 3) := by decide +kernel
theorem dX12_level_9 : decode cX12_level 9 = .ok (.ifCond .eq 15, 3) := by decide +kernel
theorem dX12_level_12 : decode cX12_level 12 = .ok (.iload_n 2, 1) := by decide +kernel
theorem dX12_level_13 : decode cX12_level 13 = .ok (.i2l, 1) := by decide +kernel
theorem dX12_level_14 : decode cX12_level 14 = .ok (.lconst 1, 1) := by decide +kernel
theorem dX12_level_15 : decode cX12_level 15 = .ok (.ldc2_w 90, 3) := by decide +kernel
theorem dX12_level_18 : decode cX12_level 18 = .ok (.invokestatic 78, 3) := by decide +kernel
theorem dX12_level_21 : decode cX12_level 21 = .ok (.ifCond .ne 7, 3) := by decide +kernel
theorem dX12_level_24 : decode cX12_level 24 = .ok (.sipush (-1002), 3) := by decide +kernel
theorem dX12_level_27 : decode cX12_level 27 = .ok (.ireturn, 1) := by decide +kernel
theorem dX12_level_28 : decode cX12_level 28 = .ok (.iconst (-1), 1) := by decide +kernel
theorem dX12_level_29 : decode cX12_level 29 = .ok (.istore 4, 2) := by decide +kernel
theorem dX12_level_31 : decode cX12_level 31 = .ok (.iconst 0, 1) := by decide +kernel
theorem dX12_level_32 : decode cX12_level 32 = .ok (.istore 5, 2) := by decide +kernel
theorem dX12_level_34 : decode cX12_level 34 = .ok (.iload 5, 2) := by decide +kernel
theorem dX12_level_36 : decode cX12_level 36 = .ok (.aload_n 0, 1) := by decide +kernel
theorem dX12_level_37 : decode cX12_level 37 = .ok (.getfield 101, 3) := by decide +kernel
theorem dX12_level_40 : decode cX12_level 40 = .ok (.if_icmp .ge 29, 3) := by decide +kernel
theorem dX12_level_43 : decode cX12_level 43 = .ok (.aload_n 0, 1) := by decide +kernel
theorem dX12_level_44 : decode cX12_level 44 = .ok (.getfield 25, 3) := by decide +kernel
theorem dX12_level_47 : decode cX12_level 47 = .ok (.iload 5, 2) := by decide +kernel
theorem dX12_level_49 : decode cX12_level 49 = .ok (.iaload, 1) := by decide +kernel
theorem dX12_level_50 : decode cX12_level 50 = .ok (.iload_n 1, 1) := by decide +kernel
theorem dX12_level_51 : decode cX12_level 51 = .ok (.if_icmp .ne 8, 3) := by decide +kernel
theorem dX12_level_54 : decode cX12_level 54 = .ok (.iload 5, 2) := by decide +kernel
theorem dX12_level_56 : decode cX12_level 56 = .ok (.goto 5, 3) := by decide +kernel
theorem dX12_level_59 : decode cX12_level 59 = .ok (.iload 4, 2) := by decide +kernel
theorem dX12_level_61 : decode cX12_level 61 = .ok (.istore 4, 2) := by decide +kernel
theorem dX12_level_63 : decode cX12_level 63 = .ok (.iinc 5 1, 3) := by decide +kernel
theorem dX12_level_66 : decode cX12_level 66 = .ok (.goto (-32), 3) := by decide +kernel
theorem dX12_level_69 : decode cX12_level 69 = .ok (.iload 4, 2) := by decide +kernel
theorem dX12_level_71 : decode cX12_level 71 = .ok (.iconst (-1), 1) := by decide +kernel
theorem dX12_level_72 : decode cX12_level 72 = .ok (.if_icmp .ne 16, 3) := by decide +kernel
theorem dX12_level_75 : decode cX12_level 75 = .ok (.aload_n 0, 1) := by decide +kernel
theorem dX12_level_76 : decode cX12_level 76 = .ok (.getfield 101, 3) := by decide +kernel
theorem dX12_level_79 : decode cX12_level 79 = .ok (.bipush 12, 2) := by decide +kernel
theorem dX12_level_81 : decode cX12_level 81 = .ok (.if_icmp .ne 7, 3) := by decide +kernel
theorem dX12_level_84 : decode cX12_level 84 = .ok (.sipush (-1004), 3) := by decide +kernel
theorem dX12_level_87 : decode cX12_level 87 = .ok (.ireturn, 1) := by decide +kernel
theorem dX12_level_88 : decode cX12_level 88 = .ok (.iload 4, 2) := by decide +kernel
theorem dX12_level_90 : decode cX12_level 90 = .ok (.iconst (-1), 1) := by decide +kernel
theorem dX12_level_91 : decode cX12_level 91 = .ok (.if_icmp .ne 19, 3) := by decide +kernel
theorem dX12_level_94 : decode cX12_level 94 = .ok (.aload_n 0, 1) := by decide +kernel
theorem dX12_level_95 : decode cX12_level 95 = .ok (.getfield 101, 3) := by decide +kernel
theorem dX12_level_98 : decode cX12_level 98 = .ok (.istore 4, 2) := by decide +kernel
theorem dX12_level_100 : decode cX12_level 100 = .ok (.aload_n 0, 1) := by decide +kernel
theorem dX12_level_101 : decode cX12_level 101 = .ok (.dup, 1) := by decide +kernel
theorem dX12_level_102 : decode cX12_level 102 = .ok (.getfield 101, 3) := by decide +kernel
theorem dX12_level_105 : decode cX12_level 105 = .ok (.iconst 1, 1) := by decide +kernel
theorem dX12_level_106 : decode cX12_level 106 = .ok (.iadd, 1) := by decide +kernel
theorem dX12_level_107 : decode cX12_level 107 = .ok (.putfield 101, 3) := by decide +kernel
theorem dX12_level_110 : decode cX12_level 110 = .ok (.aload_n 0, 1) := by decide +kernel
theorem dX12_level_111 : decode cX12_level 111 = .ok (.getfield 25, 3) := by decide +kernel
theorem dX12_level_114 : decode cX12_level 114 = .ok (.iload 4, 2) := by decide +kernel
theorem dX12_level_116 : decode cX12_level 116 = .ok (.iload_n 1, 1) := by decide +kernel
theorem dX12_level_117 : decode cX12_level 117 = .ok (.iastore, 1) := by decide +kernel
theorem dX12_level_118 : decode cX12_level 118 = .ok (.aload_n 0, 1) := by decide +kernel
theorem dX12_level_119 : decode cX12_level 119 = .ok (.getfield 28, 3) := by decide +kernel
theorem dX12_level_122 : decode cX12_level 122 = .ok (.iload 4, 2) := by decide +kernel
theorem dX12_level_124 : decode cX12_level 124 = .ok (.iload_n 2, 1) := by decide +kernel
theorem dX12_level_125 : decode cX12_level 125 = .ok (.iastore, 1) := by decide +kernel
theorem dX12_level_126 : decode cX12_level 126 = .ok (.aload_n 0, 1) := by decide +kernel
theorem dX12_level_127 : decode cX12_level 127 = .ok (.getfield 31, 3) := by decide +kernel
theorem dX12_level_130 : decode cX12_level 130 = .ok (.iload 4, 2) := by decide +kernel
theorem dX12_level_132 : decode cX12_level 132 = .ok (.iload_n 3, 1) := by decide +kernel
theorem dX12_level_133 : decode cX12_level 133 = .ok (.bastore, 1) := by decide +kernel
theorem dX12_level_134 : decode cX12_level 134 = .ok (.aload_n 0, 1) := by decide +kernel
theorem dX12_level_135 : decode cX12_level 135 = .ok (.getfield 101, 3) := by decide +kernel
theorem dX12_level_138 : decode cX12_level 138 = .ok (.ireturn, 1) := by decide +kernel
set_option maxRecDepth 20000 in
theorem ggX12_meter_X12_in : GoodIn wsX12_meter wsX12_in := goodIn_r _ [8] (by decide +kernel) (by decide +kernel)
set_option maxRecDepth 20000 in
theorem gX12_meter_X12_in : GoodIn wsX12_meter (va_wsS RX12 78 yX12_in wsX12_in) := goodIn_app (goodIn_of _ (by decide +kernel)) ggX12_meter_X12_in
theorem dX12_meter_0 : decode cX12_meter 0 = .ok (.iload_n 1, 1) := by decide +kernel
theorem dX12_meter_1 : decode cX12_meter 1 = .ok (.i2l, 1) := by decide +kernel
theorem dX12_meter_2 : decode cX12_meter 2 = .ok (.lconst 1, 1) := by decide +kernel
theorem dX12_meter_3 : decode cX12_meter 3 = .ok (.ldc2_w 86, 3) := by decide +kernel
theorem dX12_meter_6 : decode cX12_meter 6 = .ok (.invokestatic 78, 3) := by decide +kernel
theorem dX12_meter_9 : decode cX12_meter 9 = .ok (.ifCond .eq 15, 3) := by decide +kernel
theorem dX12_meter_12 : decode cX12_meter 12 = .ok (.iload_n 2, 1) := by decide +kernel
theorem dX12_meter_13 : decode cX12_meter 13 = .ok (.i2l, 1) := by decide +kernel
theorem dX12_meter_14 : decode cX12_meter 14 = .ok (.lconst 1, 1) := by decide +kernel
theorem dX12_meter_15 : decode cX12_meter 15 = .ok (.ldc2_w 84, 3) := by decide +kernel
theorem dX12_meter_18 : decode cX12_meter 18 = .ok (.invokestatic 78, 3) := by decide +kernel
theorem dX12_meter_21 : decode cX12_meter 21 = .ok (.ifCond .ne 7, 3) := by decide +kernel
theorem dX12_meter_24 : decode cX12_meter 24 = .ok (.sipush (-1002), 3) := by decide +kernel
theorem dX12_meter_27 : decode cX12_meter 27 = .ok (.ireturn, 1) := by decide +kernel
theorem dX12_meter_28 : decode cX12_meter 28 = .ok (.aload_n 0, 1) := by decide +kernel
theorem dX12_meter_29 : decode cX12_meter 29 = .ok (.iload_n 1, 1) := by decide +kernel
theorem dX12_meter_30 : decode cX12_meter 30 = .ok (.putfield 35, 3) := by decide +kernel
theorem dX12_meter_33 : decode cX12_meter 33 = .ok (.aload_n 0, 1) := by decide +kernel
theorem dX12_meter_34 : decode cX12_meter 34 = .ok (.iload_n 2, 1) := by decide +kernel
theorem dX12_meter_35 : decode cX12_meter 35 = .ok (.putfield 39, 3) := by decide +kernel
theorem dX12_meter_38 : decode cX12_meter 38 = .ok (.iconst 1, 1) := by decide +kernel
theorem dX12_meter_39 : decode cX12_meter 39 = .ok (.ireturn, 1) := by decide +kernel
set_option maxRecDepth 20000 in
theorem ggX12_arc_X12_in : GoodIn wsX12_arc wsX12_in := goodIn_r _ [10] (by decide +kernel) (by decide +kernel)
set_option maxRecDepth 20000 in
theorem gX12_arc_X12_in : GoodIn wsX12_arc (va_wsS RX12 78 yX12_in wsX12_in) := goodIn_app (goodIn_of _ (by decide +kernel)) ggX12_arc_X12_in
theorem dX12_arc_0 : decode cX12_arc 0 = .ok (.iload_n 1, 1) := by decide +kernel
theorem dX12_arc_1 : decode cX12_arc 1 = .ok (.ifCond .lt 29, 3) := by decide +kernel
theorem dX12_arc_4 : decode cX12_arc 4 = .ok (.iload_n 2, 1) := by decide +kernel
theorem dX12_arc_5 : decode cX12_arc 5 = .ok (.sipush 20000, 3) := by decide +kernel
theorem dX12_arc_8 : decode cX12_arc 8 = .ok (.if_icmp .gt 22, 3) := by decide +kernel
theorem dX12_arc_11 : decode cX12_arc 11 = .ok (.iload_n 1, 1) := by decide +kernel
theorem dX12_arc_12 : decode cX12_arc 12 = .ok (.iload_n 2, 1) := by decide +kernel
theorem dX12_arc_13 : decode cX12_arc 13 = .ok (.if_icmp .ge 17, 3) := by decide +kernel
theorem dX12_arc_16 : decode cX12_arc 16 = .ok (.iload_n 3, 1) := by decide +kernel
theorem dX12_arc_17 : decode cX12_arc 17 = .ok (.i2l, 1) := by decide +kernel
theorem dX12_arc_18 : decode cX12_arc 18 = .ok (.ldc2_w 104, 3) := by decide +kernel
theorem dX12_arc_21 : decode cX12_arc 21 = .ok (.ldc2_w 106, 3) := by decide +kernel
theorem dX12_arc_24 : decode cX12_arc 24 = .ok (.invokestatic 78, 3) := by decide +kernel
theorem dX12_arc_27 : decode cX12_arc 27 = .ok (.ifCond .ne 7, 3) := by decide +kernel
theorem dX12_arc_30 : decode cX12_arc 30 = .ok (.sipush (-1002), 3) := by decide +kernel
theorem dX12_arc_33 : decode cX12_arc 33 = .ok (.ireturn, 1) := by decide +kernel
theorem dX12_arc_34 : decode cX12_arc 34 = .ok (.iconst 0, 1) := by decide +kernel
theorem dX12_arc_35 : decode cX12_arc 35 = .ok (.istore 4, 2) := by decide +kernel
theorem dX12_arc_37 : decode cX12_arc 37 = .ok (.iload 4, 2) := by decide +kernel
theorem dX12_arc_39 : decode cX12_arc 39 = .ok (.aload_n 0, 1) := by decide +kernel
theorem dX12_arc_40 : decode cX12_arc 40 = .ok (.getfield 108, 3) := by decide +kernel
theorem dX12_arc_43 : decode cX12_arc 43 = .ok (.if_icmp .ge 35, 3) := by decide +kernel
theorem dX12_arc_46 : decode cX12_arc 46 = .ok (.iload_n 1, 1) := by decide +kernel
theorem dX12_arc_47 : decode cX12_arc 47 = .ok (.aload_n 0, 1) := by decide +kernel
theorem dX12_arc_48 : decode cX12_arc 48 = .ok (.getfield 45, 3) := by decide +kernel
theorem dX12_arc_51 : decode cX12_arc 51 = .ok (.iload 4, 2) := by decide +kernel
theorem dX12_arc_53 : decode cX12_arc 53 = .ok (.iaload, 1) := by decide +kernel
theorem dX12_arc_54 : decode cX12_arc 54 = .ok (.if_icmp .ge 18, 3) := by decide +kernel
theorem dX12_arc_57 : decode cX12_arc 57 = .ok (.aload_n 0, 1) := by decide +kernel
theorem dX12_arc_58 : decode cX12_arc 58 = .ok (.getfield 42, 3) := by decide +kernel
theorem dX12_arc_61 : decode cX12_arc 61 = .ok (.iload 4, 2) := by decide +kernel
theorem dX12_arc_63 : decode cX12_arc 63 = .ok (.iaload, 1) := by decide +kernel
theorem dX12_arc_64 : decode cX12_arc 64 = .ok (.iload_n 2, 1) := by decide +kernel
theorem dX12_arc_65 : decode cX12_arc 65 = .ok (.if_icmp .ge 7, 3) := by decide +kernel
theorem dX12_arc_68 : decode cX12_arc 68 = .ok (.sipush (-1003), 3) := by decide +kernel
theorem dX12_arc_71 : decode cX12_arc 71 = .ok (.ireturn, 1) := by decide +kernel
theorem dX12_arc_72 : decode cX12_arc 72 = .ok (.iinc 4 1, 3) := by decide +kernel
theorem dX12_arc_75 : decode cX12_arc 75 = .ok (.goto (-38), 3) := by decide +kernel
theorem dX12_arc_78 : decode cX12_arc 78 = .ok (.aload_n 0, 1) := by decide +kernel
theorem dX12_arc_79 : decode cX12_arc 79 = .ok (.getfield 108, 3) := by decide +kernel
theorem dX12_arc_82 : decode cX12_arc 82 = .ok (.bipush 6, 2) := by decide +kernel
theorem dX12_arc_84 : decode cX12_arc 84 = .ok (.if_icmp .ne 7, 3) := by decide +kernel
theorem dX12_arc_87 : decode cX12_arc 87 = .ok (.sipush (-1004), 3) := by decide +kernel
theorem dX12_arc_90 : decode cX12_arc 90 = .ok (.ireturn, 1) := by decide +kernel
theorem dX12_arc_91 : decode cX12_arc 91 = .ok (.aload_n 0, 1) := by decide +kernel
theorem dX12_arc_92 : decode cX12_arc 92 = .ok (.getfield 42, 3) := by decide +kernel
theorem dX12_arc_95 : decode cX12_arc 95 = .ok (.aload_n 0, 1) := by decide +kernel
theorem dX12_arc_96 : decode cX12_arc 96 = .ok (.getfield 108, 3) := by decide +kernel
theorem dX12_arc_99 : decode cX12_arc 99 = .ok (.iload_n 1, 1) := by decide +kernel
theorem dX12_arc_100 : decode cX12_arc 100 = .ok (.iastore, 1) := by decide +kernel
theorem dX12_arc_101 : decode cX12_arc 101 = .ok (.aload_n 0, 1) := by decide +kernel
theorem dX12_arc_102 : decode cX12_arc 102 = .ok (.getfield 45, 3) := by decide +kernel
theorem dX12_arc_105 : decode cX12_arc 105 = .ok (.aload_n 0, 1) := by decide +kernel
theorem dX12_arc_106 : decode cX12_arc 106 = .ok (.getfield 108, 3) := by decide +kernel
theorem dX12_arc_109 : decode cX12_arc 109 = .ok (.iload_n 2, 1) := by decide +kernel
theorem dX12_arc_110 : decode cX12_arc 110 = .ok (.iastore, 1) := by decide +kernel
theorem dX12_arc_111 : decode cX12_arc 111 = .ok (.aload_n 0, 1) := by decide +kernel
theorem dX12_arc_112 : decode cX12_arc 112 = .ok (.getfield 48, 3) := by decide +kernel
theorem dX12_arc_115 : decode cX12_arc 115 = .ok (.aload_n 0, 1) := by decide +kernel
theorem dX12_arc_116 : decode cX12_arc 116 = .ok (.getfield 108, 3) := by decide +kernel
theorem dX12_arc_119 : decode cX12_arc 119 = .ok (.iload_n 3, 1) := by decide +kernel
theorem dX12_arc_120 : decode cX12_arc 120 = .ok (.iastore, 1) := by decide +kernel
theorem dX12_arc_121 : decode cX12_arc 121 = .ok (.aload_n 0, 1) := by decide +kernel
theorem dX12_arc_122 : decode cX12_arc 122 = .ok (.dup, 1) := by decide +kernel
theorem dX12_arc_123 : decode cX12_arc 123 = .ok (.getfield 108, 3) := by decide +kernel
theorem dX12_arc_126 : decode cX12_arc 126 = .ok (.iconst 1, 1) := by decide +kernel
theorem dX12_arc_127 : decode cX12_arc 127 = .ok (.iadd, 1) := by decide +kernel
theorem dX12_arc_128 : decode cX12_arc 128 = .ok (.putfield 108, 3) := by decide +kernel
theorem dX12_arc_131 : decode cX12_arc 131 = .ok (.aload_n 0, 1) := by decide +kernel
theorem dX12_arc_132 : decode cX12_arc 132 = .ok (.getfield 108, 3) := by decide +kernel
theorem dX12_arc_135 : decode cX12_arc 135 = .ok (.ireturn, 1) := by decide +kernel
theorem dX12_levelBy_0 : decode cX12_levelBy 0 = .ok (.iconst (-1), 1) := by decide +kernel
theorem dX12_levelBy_1 : decode cX12_levelBy 1 = .ok (.istore_n 3, 1) := by decide +kernel
theorem dX12_levelBy_2 : decode cX12_levelBy 2 = .ok (.iconst 0, 1) := by decide +kernel
theorem dX12_levelBy_3 : decode cX12_levelBy 3 = .ok (.istore 4, 2) := by decide +kernel
theorem dX12_levelBy_5 : decode cX12_levelBy 5 = .ok (.iload 4, 2) := by decide +kernel
theorem dX12_levelBy_7 : decode cX12_levelBy 7 = .ok (.aload_n 0, 1) := by decide +kernel
theorem dX12_levelBy_8 : decode cX12_levelBy 8 = .ok (.getfield 101, 3) := by decide +kernel
theorem dX12_levelBy_11 : decode cX12_levelBy 11 = .ok (.if_icmp .ge 104, 3) := by decide +kernel
theorem dX12_levelBy_14 : decode cX12_levelBy 14 = .ok (.iload_n 2, 1) := by decide +kernel
theorem dX12_levelBy_15 : decode cX12_levelBy 15 = .ok (.ifCond .eq 43, 3) := by decide +kernel
theorem dX12_levelBy_18 : decode cX12_levelBy 18 = .ok (.aload_n 0, 1) := by decide +kernel
theorem dX12_levelBy_19 : decode cX12_levelBy 19 = .ok (.getfield 25, 3) := by decide +kernel
theorem dX12_levelBy_22 : decode cX12_levelBy 22 = .ok (.iload 4, 2) := by decide +kernel
theorem dX12_levelBy_24 : decode cX12_levelBy 24 = .ok (.iaload, 1) := by decide +kernel
theorem dX12_levelBy_25 : decode cX12_levelBy 25 = .ok (.iload_n 1, 1) := by decide +kernel
theorem dX12_levelBy_26 : decode cX12_levelBy 26 = .ok (.if_icmp .le 28, 3) := by decide +kernel
theorem dX12_levelBy_29 : decode cX12_levelBy 29 = .ok (.iload_n 3, 1) := by decide +kernel
theorem dX12_levelBy_30 : decode cX12_levelBy 30 = .ok (.iconst (-1), 1) := by decide +kernel
theorem dX12_levelBy_31 : decode cX12_levelBy 31 = .ok (.if_icmp .eq 19, 3) := by decide +kernel
theorem dX12_levelBy_34 : decode cX12_levelBy 34 = .ok (.aload_n 0, 1) := by decide +kernel
theorem dX12_levelBy_35 : decode cX12_levelBy 35 = .ok (.getfield 25, 3) := by decide +kernel
theorem dX12_levelBy_38 : decode cX12_levelBy 38 = .ok (.iload 4, 2) := by decide +kernel
theorem dX12_levelBy_40 : decode cX12_levelBy 40 = .ok (.iaload, 1) := by decide +kernel
theorem dX12_levelBy_41 : decode cX12_levelBy 41 = .ok (.aload_n 0, 1) := by decide +kernel
theorem dX12_levelBy_42 : decode cX12_levelBy 42 = .ok (.getfield 25, 3) := by decide +kernel
theorem dX12_levelBy_45 : decode cX12_levelBy 45 = .ok (.iload_n 3, 1) := by decide +kernel
theorem dX12_levelBy_46 : decode cX12_levelBy 46 = .ok (.iaload, 1) := by decide +kernel
theorem dX12_levelBy_47 : decode cX12_levelBy 47 = .ok (.if_icmp .ge 7, 3) := by decide +kernel
theorem dX12_levelBy_50 : decode cX12_levelBy 50 = .ok (.iconst 1, 1) := by decide +kernel
theorem dX12_levelBy_51 : decode cX12_levelBy 51 = .ok (.goto 44, 3) := by decide +kernel
theorem dX12_levelBy_54 : decode cX12_levelBy 54 = .ok (.iconst 0, 1) := by decide +kernel
theorem dX12_levelBy_55 : decode cX12_levelBy 55 = .ok (.goto 40, 3) := by decide +kernel
theorem dX12_levelBy_58 : decode cX12_levelBy 58 = .ok (.aload_n 0, 1) := by decide +kernel
theorem dX12_levelBy_59 : decode cX12_levelBy 59 = .ok (.getfield 25, 3) := by decide +kernel
theorem dX12_levelBy_62 : decode cX12_levelBy 62 = .ok (.iload 4, 2) := by decide +kernel
theorem dX12_levelBy_64 : decode cX12_levelBy 64 = .ok (.iaload, 1) := by decide +kernel
theorem dX12_levelBy_65 : decode cX12_levelBy 65 = .ok (.iload_n 1, 1) := by decide +kernel
theorem dX12_levelBy_66 : decode cX12_levelBy 66 = .ok (.if_icmp .gt 28, 3) := by decide +kernel
theorem dX12_levelBy_69 : decode cX12_levelBy 69 = .ok (.iload_n 3, 1) := by decide +kernel
theorem dX12_levelBy_70 : decode cX12_levelBy 70 = .ok (.iconst (-1), 1) := by decide +kernel
theorem dX12_levelBy_71 : decode cX12_levelBy 71 = .ok (.if_icmp .eq 19, 3) := by decide +kernel
theorem dX12_levelBy_74 : decode cX12_levelBy 74 = .ok (.aload_n 0, 1) := by decide +kernel
theorem dX12_levelBy_75 : decode cX12_levelBy 75 = .ok (.getfield 25, 3) := by decide +kernel
theorem dX12_levelBy_78 : decode cX12_levelBy 78 = .ok (.iload 4, 2) := by decide +kernel
theorem dX12_levelBy_80 : decode cX12_levelBy 80 = .ok (.iaload, 1) := by decide +kernel
theorem dX12_levelBy_81 : decode cX12_levelBy 81 = .ok (.aload_n 0, 1) := by decide +kernel
theorem dX12_levelBy_82 : decode cX12_levelBy 82 = .ok (.getfield 25, 3) := by decide +kernel
theorem dX12_levelBy_85 : decode cX12_levelBy 85 = .ok (.iload_n 3, 1) := by decide +kernel
theorem dX12_levelBy_86 : decode cX12_levelBy 86 = .ok (.iaload, 1) := by decide +kernel
theorem dX12_levelBy_87 : decode cX12_levelBy 87 = .ok (.if_icmp .le 7, 3) := by decide +kernel
theorem dX12_levelBy_90 : decode cX12_levelBy 90 = .ok (.iconst 1, 1) := by decide +kernel
theorem dX12_levelBy_91 : decode cX12_levelBy 91 = .ok (.goto 4, 3) := by decide +kernel
theorem dX12_levelBy_94 : decode cX12_levelBy 94 = .ok (.iconst 0, 1) := by decide +kernel
theorem dX12_levelBy_95 : decode cX12_levelBy 95 = .ok (.istore 5, 2) := by decide +kernel
theorem dX12_levelBy_97 : decode cX12_levelBy 97 = .ok (.iload 5, 2) := by decide +kernel
theorem dX12_levelBy_99 : decode cX12_levelBy 99 = .ok (.ifCond .eq 8, 3) := by decide +kernel
theorem dX12_levelBy_102 : decode cX12_levelBy 102 = .ok (.iload 4, 2) := by decide +kernel
theorem dX12_levelBy_104 : decode cX12_levelBy 104 = .ok (.goto 4, 3) := by decide +kernel
theorem dX12_levelBy_107 : decode cX12_levelBy 107 = .ok (.iload_n 3, 1) := by decide +kernel
theorem dX12_levelBy_108 : decode cX12_levelBy 108 = .ok (.istore_n 3, 1) := by decide +kernel
theorem dX12_levelBy_109 : decode cX12_levelBy 109 = .ok (.iinc 4 1, 3) := by decide +kernel
theorem dX12_levelBy_112 : decode cX12_levelBy 112 = .ok (.goto (-107), 3) := by decide +kernel
theorem dX12_levelBy_115 : decode cX12_levelBy 115 = .ok (.iload_n 3, 1) := by decide +kernel
theorem dX12_levelBy_116 : decode cX12_levelBy 116 = .ok (.ireturn, 1) := by decide +kernel
set_option maxRecDepth 20000 in
theorem ggX12_highAt_X12_levelBy : GoodIn wsX12_highAt wsX12_levelBy := goodIn_r _ [8, 9, 3, 13, 14, 15, 16, 17, 18, 19, 20, 21, 22, 23, 24, 25, 26, 27, 28, 29, 30, 31, 32, 33, 34, 35, 36, 37, 38, 39, 40, 41, 42, 43, 44, 45, 46, 47] (by decide +kernel) (by decide +kernel)
set_option maxRecDepth 20000 in
theorem gX12_highAt_X12_levelBy : GoodIn wsX12_highAt (wsV RX12 111 RX12 yX12_levelBy wsX12_levelBy) := goodIn_app (goodIn_of _ (by decide +kernel)) ggX12_highAt_X12_levelBy
set_option maxRecDepth 20000 in
theorem ggX12_highAt_X12_floor : GoodIn wsX12_highAt wsX12_floor := goodIn_r _ [12] (by decide +kernel) (by decide +kernel)
set_option maxRecDepth 20000 in
theorem gX12_highAt_X12_floor : GoodIn wsX12_highAt (va_wsS RX12 115 yX12_floor wsX12_floor) := goodIn_app (goodIn_of _ (by decide +kernel)) ggX12_highAt_X12_floor
theorem dX12_highAt_0 : decode cX12_highAt 0 = .ok (.aload_n 0, 1) := by decide +kernel
theorem dX12_highAt_1 : decode cX12_highAt 1 = .ok (.iload_n 1, 1) := by decide +kernel
theorem dX12_highAt_2 : decode cX12_highAt 2 = .ok (.iconst 0, 1) := by decide +kernel
theorem dX12_highAt_3 : decode cX12_highAt 3 = .ok (.invokevirtual 111, 3) := by decide +kernel
theorem dX12_highAt_6 : decode cX12_highAt 6 = .ok (.istore_n 2, 1) := by decide +kernel
theorem dX12_highAt_7 : decode cX12_highAt 7 = .ok (.aload_n 0, 1) := by decide +kernel
theorem dX12_highAt_8 : decode cX12_highAt 8 = .ok (.iload_n 1, 1) := by decide +kernel
theorem dX12_highAt_9 : decode cX12_highAt 9 = .ok (.iconst 1, 1) := by decide +kernel
theorem dX12_highAt_10 : decode cX12_highAt 10 = .ok (.invokevirtual 111, 3) := by decide +kernel
theorem dX12_highAt_13 : decode cX12_highAt 13 = .ok (.istore_n 3, 1) := by decide +kernel
theorem dX12_highAt_14 : decode cX12_highAt 14 = .ok (.iload_n 2, 1) := by decide +kernel
theorem dX12_highAt_15 : decode cX12_highAt 15 = .ok (.iconst (-1), 1) := by decide +kernel
theorem dX12_highAt_16 : decode cX12_highAt 16 = .ok (.if_icmp .ne 6, 3) := by decide +kernel
theorem dX12_highAt_19 : decode cX12_highAt 19 = .ok (.bipush 64, 2) := by decide +kernel
theorem dX12_highAt_21 : decode cX12_highAt 21 = .ok (.ireturn, 1) := by decide +kernel
theorem dX12_highAt_22 : decode cX12_highAt 22 = .ok (.iload_n 3, 1) := by decide +kernel
theorem dX12_highAt_23 : decode cX12_highAt 23 = .ok (.iconst (-1), 1) := by decide +kernel
theorem dX12_highAt_24 : decode cX12_highAt 24 = .ok (.if_icmp .eq 12, 3) := by decide +kernel
theorem dX12_highAt_27 : decode cX12_highAt 27 = .ok (.aload_n 0, 1) := by decide +kernel
theorem dX12_highAt_28 : decode cX12_highAt 28 = .ok (.getfield 31, 3) := by decide +kernel
theorem dX12_highAt_31 : decode cX12_highAt 31 = .ok (.iload_n 3, 1) := by decide +kernel
theorem dX12_highAt_32 : decode cX12_highAt 32 = .ok (.baload, 1) := by decide +kernel
theorem dX12_highAt_33 : decode cX12_highAt 33 = .ok (.ifCond .ne 10, 3) := by decide +kernel
theorem dX12_highAt_36 : decode cX12_highAt 36 = .ok (.aload_n 0, 1) := by decide +kernel
theorem dX12_highAt_37 : decode cX12_highAt 37 = .ok (.getfield 28, 3) := by decide +kernel
theorem dX12_highAt_40 : decode cX12_highAt 40 = .ok (.iload_n 2, 1) := by decide +kernel
theorem dX12_highAt_41 : decode cX12_highAt 41 = .ok (.iaload, 1) := by decide +kernel
theorem dX12_highAt_42 : decode cX12_highAt 42 = .ok (.ireturn, 1) := by decide +kernel
theorem dX12_highAt_43 : decode cX12_highAt 43 = .ok (.aload_n 0, 1) := by decide +kernel
theorem dX12_highAt_44 : decode cX12_highAt 44 = .ok (.getfield 28, 3) := by decide +kernel
theorem dX12_highAt_47 : decode cX12_highAt 47 = .ok (.iload_n 2, 1) := by decide +kernel
theorem dX12_highAt_48 : decode cX12_highAt 48 = .ok (.iaload, 1) := by decide +kernel
theorem dX12_highAt_49 : decode cX12_highAt 49 = .ok (.aload_n 0, 1) := by decide +kernel
theorem dX12_highAt_50 : decode cX12_highAt 50 = .ok (.getfield 28, 3) := by decide +kernel
theorem dX12_highAt_53 : decode cX12_highAt 53 = .ok (.iload_n 3, 1) := by decide +kernel
theorem dX12_highAt_54 : decode cX12_highAt 54 = .ok (.iaload, 1) := by decide +kernel
theorem dX12_highAt_55 : decode cX12_highAt 55 = .ok (.aload_n 0, 1) := by decide +kernel
theorem dX12_highAt_56 : decode cX12_highAt 56 = .ok (.getfield 28, 3) := by decide +kernel
theorem dX12_highAt_59 : decode cX12_highAt 59 = .ok (.iload_n 2, 1) := by decide +kernel
theorem dX12_highAt_60 : decode cX12_highAt 60 = .ok (.iaload, 1) := by decide +kernel
theorem dX12_highAt_61 : decode cX12_highAt 61 = .ok (.isub, 1) := by decide +kernel
theorem dX12_highAt_62 : decode cX12_highAt 62 = .ok (.i2l, 1) := by decide +kernel
theorem dX12_highAt_63 : decode cX12_highAt 63 = .ok (.iload_n 1, 1) := by decide +kernel
theorem dX12_highAt_64 : decode cX12_highAt 64 = .ok (.aload_n 0, 1) := by decide +kernel
theorem dX12_highAt_65 : decode cX12_highAt 65 = .ok (.getfield 25, 3) := by decide +kernel
theorem dX12_highAt_68 : decode cX12_highAt 68 = .ok (.iload_n 2, 1) := by decide +kernel
theorem dX12_highAt_69 : decode cX12_highAt 69 = .ok (.iaload, 1) := by decide +kernel
theorem dX12_highAt_70 : decode cX12_highAt 70 = .ok (.isub, 1) := by decide +kernel
theorem dX12_highAt_71 : decode cX12_highAt 71 = .ok (.i2l, 1) := by decide +kernel
theorem dX12_highAt_72 : decode cX12_highAt 72 = .ok (.lmul, 1) := by decide +kernel
theorem dX12_highAt_73 : decode cX12_highAt 73 = .ok (.aload_n 0, 1) := by decide +kernel
theorem dX12_highAt_74 : decode cX12_highAt 74 = .ok (.getfield 25, 3) := by decide +kernel
theorem dX12_highAt_77 : decode cX12_highAt 77 = .ok (.iload_n 3, 1) := by decide +kernel
theorem dX12_highAt_78 : decode cX12_highAt 78 = .ok (.iaload, 1) := by decide +kernel
theorem dX12_highAt_79 : decode cX12_highAt 79 = .ok (.aload_n 0, 1) := by decide +kernel
theorem dX12_highAt_80 : decode cX12_highAt 80 = .ok (.getfield 25, 3) := by decide +kernel
theorem dX12_highAt_83 : decode cX12_highAt 83 = .ok (.iload_n 2, 1) := by decide +kernel
theorem dX12_highAt_84 : decode cX12_highAt 84 = .ok (.iaload, 1) := by decide +kernel
theorem dX12_highAt_85 : decode cX12_highAt 85 = .ok (.isub, 1) := by decide +kernel
theorem dX12_highAt_86 : decode cX12_highAt 86 = .ok (.i2l, 1) := by decide +kernel
theorem dX12_highAt_87 : decode cX12_highAt 87 = .ok (.invokestatic 115, 3) := by decide +kernel
theorem dX12_highAt_90 : decode cX12_highAt 90 = .ok (.l2i, 1) := by decide +kernel
theorem dX12_highAt_91 : decode cX12_highAt 91 = .ok (.iadd, 1) := by decide +kernel
theorem dX12_highAt_92 : decode cX12_highAt 92 = .ok (.ireturn, 1) := by decide +kernel
set_option maxRecDepth 20000 in
theorem ggX12_levelAt_X12_in : GoodIn wsX12_levelAt wsX12_in := goodIn_r _ [5] (by decide +kernel) (by decide +kernel)
set_option maxRecDepth 20000 in
theorem gX12_levelAt_X12_in : GoodIn wsX12_levelAt (va_wsS RX12 78 yX12_in wsX12_in) := goodIn_app (goodIn_of _ (by decide +kernel)) ggX12_levelAt_X12_in
set_option maxRecDepth 20000 in
theorem ggX12_levelAt_X12_highAt : GoodIn wsX12_levelAt wsX12_highAt := goodIn_r _ [9, 10, 11, 12, 13, 14, 15, 4, 16, 17, 18, 19, 20, 21, 22, 23, 24, 25, 26, 27, 28, 29, 30, 31, 32, 33, 34, 35, 36, 37, 38, 39, 40, 41, 42, 43, 44, 45, 46, 47, 48, 49, 50, 51, 52, 53, 54, 55] (by decide +kernel) (by decide +kernel)
set_option maxRecDepth 20000 in
theorem gX12_levelAt_X12_highAt : GoodIn wsX12_levelAt (wsV RX12 119 RX12 yX12_highAt wsX12_highAt) := goodIn_app (goodIn_of _ (by decide +kernel)) ggX12_levelAt_X12_highAt
