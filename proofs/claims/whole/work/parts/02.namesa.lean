theorem dX0_init_0 : decode cX0_init 0 = .ok (.aload_n 0, 1) := by decide +kernel
theorem dX0_init_1 : decode cX0_init 1 = .ok (.invokespecial 3, 3) := by decide +kernel
theorem dX0_init_4 : decode cX0_init 4 = .ok (.aload_n 0, 1) := by decide +kernel
theorem dX0_init_5 : decode cX0_init 5 = .ok (.bipush 6, 2) := by decide +kernel
theorem dX0_init_7 : decode cX0_init 7 = .ok (.newarray .int, 2) := by decide +kernel
theorem dX0_init_9 : decode cX0_init 9 = .ok (.putfield 11, 3) := by decide +kernel
theorem dX0_init_12 : decode cX0_init 12 = .ok (.aload_n 0, 1) := by decide +kernel
theorem dX0_init_13 : decode cX0_init 13 = .ok (.bipush 6, 2) := by decide +kernel
theorem dX0_init_15 : decode cX0_init 15 = .ok (.newarray .int, 2) := by decide +kernel
theorem dX0_init_17 : decode cX0_init 17 = .ok (.putfield 15, 3) := by decide +kernel
theorem dX0_init_20 : decode cX0_init 20 = .ok (.aload_n 0, 1) := by decide +kernel
theorem dX0_init_21 : decode cX0_init 21 = .ok (.bipush 6, 2) := by decide +kernel
theorem dX0_init_23 : decode cX0_init 23 = .ok (.newarray .int, 2) := by decide +kernel
theorem dX0_init_25 : decode cX0_init 25 = .ok (.putfield 18, 3) := by decide +kernel
theorem dX0_init_28 : decode cX0_init 28 = .ok (.return_, 1) := by decide +kernel
theorem dX0_shareWith_0 : decode cX0_shareWith 0 = .ok (.iconst 0, 1) := by decide +kernel
theorem dX0_shareWith_1 : decode cX0_shareWith 1 = .ok (.istore_n 3, 1) := by decide +kernel
theorem dX0_shareWith_2 : decode cX0_shareWith 2 = .ok (.iload_n 3, 1) := by decide +kernel
theorem dX0_shareWith_3 : decode cX0_shareWith 3 = .ok (.aload_n 0, 1) := by decide +kernel
theorem dX0_shareWith_4 : decode cX0_shareWith 4 = .ok (.getfield 21, 3) := by decide +kernel
theorem dX0_shareWith_7 : decode cX0_shareWith 7 = .ok (.if_icmp .ge 34, 3) := by decide +kernel
theorem dX0_shareWith_10 : decode cX0_shareWith 10 = .ok (.aload_n 0, 1) := by decide +kernel
theorem dX0_shareWith_11 : decode cX0_shareWith 11 = .ok (.getfield 11, 3) := by decide +kernel
theorem dX0_shareWith_14 : decode cX0_shareWith 14 = .ok (.iload_n 3, 1) := by decide +kernel
theorem dX0_shareWith_15 : decode cX0_shareWith 15 = .ok (.iaload, 1) := by decide +kernel
theorem dX0_shareWith_16 : decode cX0_shareWith 16 = .ok (.iload_n 1, 1) := by decide +kernel
theorem dX0_shareWith_17 : decode cX0_shareWith 17 = .ok (.invokestatic 25, 3) := by decide +kernel
theorem dX0_shareWith_20 : decode cX0_shareWith 20 = .ok (.aload_n 0, 1) := by decide +kernel
theorem dX0_shareWith_21 : decode cX0_shareWith 21 = .ok (.getfield 15, 3) := by decide +kernel
theorem dX0_shareWith_24 : decode cX0_shareWith 24 = .ok (.iload_n 3, 1) := by decide +kernel
theorem dX0_shareWith_25 : decode cX0_shareWith 25 = .ok (.iaload, 1) := by decide +kernel
theorem dX0_shareWith_26 : decode cX0_shareWith 26 = .ok (.iload_n 2, 1) := by decide +kernel
theorem dX0_shareWith_27 : decode cX0_shareWith 27 = .ok (.invokestatic 31, 3) := by decide +kernel
theorem dX0_shareWith_30 : decode cX0_shareWith 30 = .ok (.if_icmp .ge 5, 3) := by decide +kernel
theorem dX0_shareWith_33 : decode cX0_shareWith 33 = .ok (.iconst 1, 1) := by decide +kernel
theorem dX0_shareWith_34 : decode cX0_shareWith 34 = .ok (.ireturn, 1) := by decide +kernel
theorem dX0_shareWith_35 : decode cX0_shareWith 35 = .ok (.iinc 3 1, 3) := by decide +kernel
theorem dX0_shareWith_38 : decode cX0_shareWith 38 = .ok (.goto (-36), 3) := by decide +kernel
theorem dX0_shareWith_41 : decode cX0_shareWith 41 = .ok (.iconst 0, 1) := by decide +kernel
theorem dX0_shareWith_42 : decode cX0_shareWith 42 = .ok (.ireturn, 1) := by decide +kernel
theorem dX0_add_0 : decode cX0_add 0 = .ok (.aload_n 0, 1) := by decide +kernel
theorem dX0_add_1 : decode cX0_add 1 = .ok (.getfield 21, 3) := by decide +kernel
theorem dX0_add_4 : decode cX0_add 4 = .ok (.bipush 6, 2) := by decide +kernel
theorem dX0_add_6 : decode cX0_add 6 = .ok (.if_icmp .lt 7, 3) := by decide +kernel
theorem dX0_add_9 : decode cX0_add 9 = .ok (.sipush (-1004), 3) := by decide +kernel
theorem dX0_add_12 : decode cX0_add 12 = .ok (.ireturn, 1) := by decide +kernel
theorem dX0_add_13 : decode cX0_add 13 = .ok (.aload_n 0, 1) := by decide +kernel
theorem dX0_add_14 : decode cX0_add 14 = .ok (.getfield 11, 3) := by decide +kernel
theorem dX0_add_17 : decode cX0_add 17 = .ok (.aload_n 0, 1) := by decide +kernel
theorem dX0_add_18 : decode cX0_add 18 = .ok (.getfield 21, 3) := by decide +kernel
theorem dX0_add_21 : decode cX0_add 21 = .ok (.iload_n 1, 1) := by decide +kernel
theorem dX0_add_22 : decode cX0_add 22 = .ok (.iastore, 1) := by decide +kernel
theorem dX0_add_23 : decode cX0_add 23 = .ok (.aload_n 0, 1) := by decide +kernel
theorem dX0_add_24 : decode cX0_add 24 = .ok (.getfield 15, 3) := by decide +kernel
theorem dX0_add_27 : decode cX0_add 27 = .ok (.aload_n 0, 1) := by decide +kernel
theorem dX0_add_28 : decode cX0_add 28 = .ok (.getfield 21, 3) := by decide +kernel
theorem dX0_add_31 : decode cX0_add 31 = .ok (.iload_n 2, 1) := by decide +kernel
theorem dX0_add_32 : decode cX0_add 32 = .ok (.iastore, 1) := by decide +kernel
theorem dX0_add_33 : decode cX0_add 33 = .ok (.aload_n 0, 1) := by decide +kernel
theorem dX0_add_34 : decode cX0_add 34 = .ok (.getfield 18, 3) := by decide +kernel
theorem dX0_add_37 : decode cX0_add 37 = .ok (.aload_n 0, 1) := by decide +kernel
theorem dX0_add_38 : decode cX0_add 38 = .ok (.getfield 21, 3) := by decide +kernel
theorem dX0_add_41 : decode cX0_add 41 = .ok (.iload_n 3, 1) := by decide +kernel
theorem dX0_add_42 : decode cX0_add 42 = .ok (.iastore, 1) := by decide +kernel
theorem dX0_add_43 : decode cX0_add 43 = .ok (.aload_n 0, 1) := by decide +kernel
theorem dX0_add_44 : decode cX0_add 44 = .ok (.dup, 1) := by decide +kernel
theorem dX0_add_45 : decode cX0_add 45 = .ok (.getfield 21, 3) := by decide +kernel
theorem dX0_add_48 : decode cX0_add 48 = .ok (.iconst 1, 1) := by decide +kernel
theorem dX0_add_49 : decode cX0_add 49 = .ok (.iadd, 1) := by decide +kernel
theorem dX0_add_50 : decode cX0_add 50 = .ok (.putfield 21, 3) := by decide +kernel
theorem dX0_add_53 : decode cX0_add 53 = .ok (.aload_n 0, 1) := by decide +kernel
theorem dX0_add_54 : decode cX0_add 54 = .ok (.getfield 21, 3) := by decide +kernel
theorem dX0_add_57 : decode cX0_add 57 = .ok (.ireturn, 1) := by decide +kernel
set_option maxRecDepth 20000 in
theorem ggX0_bent_X11_isWithin : GoodIn wsX0_bent wsX11_isWithin := goodIn_r _ [8] (by decide +kernel) (by decide +kernel)
set_option maxRecDepth 20000 in
theorem gX0_bent_X11_isWithin_n34 : GoodIn wsX0_bent (wsX11_isWithin) := ggX0_bent_X11_isWithin
set_option maxRecDepth 20000 in
theorem ggX0_bent_X11_quotient : GoodIn wsX0_bent wsX11_quotient := goodIn_r _ [10, 11, 12, 13, 14] (by decide +kernel) (by decide +kernel)
set_option maxRecDepth 20000 in
theorem gX0_bent_X11_quotient_n40 : GoodIn wsX0_bent (wsX11_quotient) := ggX0_bent_X11_quotient
theorem dX0_bent_0 : decode cX0_bent 0 = .ok (.iconst 0, 1) := by decide +kernel
theorem dX0_bent_1 : decode cX0_bent 1 = .ok (.istore_n 2, 1) := by decide +kernel
theorem dX0_bent_2 : decode cX0_bent 2 = .ok (.iload_n 2, 1) := by decide +kernel
theorem dX0_bent_3 : decode cX0_bent 3 = .ok (.aload_n 0, 1) := by decide +kernel
theorem dX0_bent_4 : decode cX0_bent 4 = .ok (.getfield 21, 3) := by decide +kernel
theorem dX0_bent_7 : decode cX0_bent 7 = .ok (.if_icmp .ge 83, 3) := by decide +kernel
theorem dX0_bent_10 : decode cX0_bent 10 = .ok (.iload_n 1, 1) := by decide +kernel
theorem dX0_bent_11 : decode cX0_bent 11 = .ok (.aload_n 0, 1) := by decide +kernel
theorem dX0_bent_12 : decode cX0_bent 12 = .ok (.getfield 11, 3) := by decide +kernel
theorem dX0_bent_15 : decode cX0_bent 15 = .ok (.iload_n 2, 1) := by decide +kernel
theorem dX0_bent_16 : decode cX0_bent 16 = .ok (.iaload, 1) := by decide +kernel
theorem dX0_bent_17 : decode cX0_bent 17 = .ok (.aload_n 0, 1) := by decide +kernel
theorem dX0_bent_18 : decode cX0_bent 18 = .ok (.getfield 15, 3) := by decide +kernel
theorem dX0_bent_21 : decode cX0_bent 21 = .ok (.iload_n 2, 1) := by decide +kernel
theorem dX0_bent_22 : decode cX0_bent 22 = .ok (.iaload, 1) := by decide +kernel
theorem dX0_bent_23 : decode cX0_bent 23 = .ok (.invokestatic 34, 3) := by decide +kernel
theorem dX0_bent_26 : decode cX0_bent 26 = .ok (.ifCond .eq 58, 3) := by decide +kernel
theorem dX0_bent_29 : decode cX0_bent 29 = .ok (.aload_n 0, 1) := by decide +kernel
theorem dX0_bent_30 : decode cX0_bent 30 = .ok (.getfield 15, 3) := by decide +kernel
theorem dX0_bent_33 : decode cX0_bent 33 = .ok (.iload_n 2, 1) := by decide +kernel
theorem dX0_bent_34 : decode cX0_bent 34 = .ok (.iaload, 1) := by decide +kernel
theorem dX0_bent_35 : decode cX0_bent 35 = .ok (.aload_n 0, 1) := by decide +kernel
theorem dX0_bent_36 : decode cX0_bent 36 = .ok (.getfield 11, 3) := by decide +kernel
theorem dX0_bent_39 : decode cX0_bent 39 = .ok (.iload_n 2, 1) := by decide +kernel
theorem dX0_bent_40 : decode cX0_bent 40 = .ok (.iaload, 1) := by decide +kernel
theorem dX0_bent_41 : decode cX0_bent 41 = .ok (.isub, 1) := by decide +kernel
theorem dX0_bent_42 : decode cX0_bent 42 = .ok (.i2l, 1) := by decide +kernel
theorem dX0_bent_43 : decode cX0_bent 43 = .ok (.lstore_n 3, 1) := by decide +kernel
theorem dX0_bent_44 : decode cX0_bent 44 = .ok (.iload_n 1, 1) := by decide +kernel
theorem dX0_bent_45 : decode cX0_bent 45 = .ok (.ldc2_w 38, 3) := by decide +kernel
theorem dX0_bent_48 : decode cX0_bent 48 = .ok (.aload_n 0, 1) := by decide +kernel
theorem dX0_bent_49 : decode cX0_bent 49 = .ok (.getfield 18, 3) := by decide +kernel
theorem dX0_bent_52 : decode cX0_bent 52 = .ok (.iload_n 2, 1) := by decide +kernel
theorem dX0_bent_53 : decode cX0_bent 53 = .ok (.iaload, 1) := by decide +kernel
theorem dX0_bent_54 : decode cX0_bent 54 = .ok (.i2l, 1) := by decide +kernel
theorem dX0_bent_55 : decode cX0_bent 55 = .ok (.lmul, 1) := by decide +kernel
theorem dX0_bent_56 : decode cX0_bent 56 = .ok (.iload_n 1, 1) := by decide +kernel
theorem dX0_bent_57 : decode cX0_bent 57 = .ok (.aload_n 0, 1) := by decide +kernel
theorem dX0_bent_58 : decode cX0_bent 58 = .ok (.getfield 11, 3) := by decide +kernel
theorem dX0_bent_61 : decode cX0_bent 61 = .ok (.iload_n 2, 1) := by decide +kernel
theorem dX0_bent_62 : decode cX0_bent 62 = .ok (.iaload, 1) := by decide +kernel
theorem dX0_bent_63 : decode cX0_bent 63 = .ok (.isub, 1) := by decide +kernel
theorem dX0_bent_64 : decode cX0_bent 64 = .ok (.i2l, 1) := by decide +kernel
theorem dX0_bent_65 : decode cX0_bent 65 = .ok (.lmul, 1) := by decide +kernel
theorem dX0_bent_66 : decode cX0_bent 66 = .ok (.aload_n 0, 1) := by decide +kernel
theorem dX0_bent_67 : decode cX0_bent 67 = .ok (.getfield 15, 3) := by decide +kernel
theorem dX0_bent_70 : decode cX0_bent 70 = .ok (.iload_n 2, 1) := by decide +kernel
theorem dX0_bent_71 : decode cX0_bent 71 = .ok (.iaload, 1) := by decide +kernel
theorem dX0_bent_72 : decode cX0_bent 72 = .ok (.iload_n 1, 1) := by decide +kernel
theorem dX0_bent_73 : decode cX0_bent 73 = .ok (.isub, 1) := by decide +kernel
theorem dX0_bent_74 : decode cX0_bent 74 = .ok (.i2l, 1) := by decide +kernel
theorem dX0_bent_75 : decode cX0_bent 75 = .ok (.lmul, 1) := by decide +kernel
theorem dX0_bent_76 : decode cX0_bent 76 = .ok (.lload_n 3, 1) := by decide +kernel
theorem dX0_bent_77 : decode cX0_bent 77 = .ok (.lload_n 3, 1) := by decide +kernel
theorem dX0_bent_78 : decode cX0_bent 78 = .ok (.lmul, 1) := by decide +kernel
theorem dX0_bent_79 : decode cX0_bent 79 = .ok (.invokestatic 40, 3) := by decide +kernel
theorem dX0_bent_82 : decode cX0_bent 82 = .ok (.iadd, 1) := by decide +kernel
theorem dX0_bent_83 : decode cX0_bent 83 = .ok (.ireturn, 1) := by decide +kernel
theorem dX0_bent_84 : decode cX0_bent 84 = .ok (.iinc 2 1, 3) := by decide +kernel
theorem dX0_bent_87 : decode cX0_bent 87 = .ok (.goto (-85), 3) := by decide +kernel
theorem dX0_bent_90 : decode cX0_bent 90 = .ok (.iload_n 1, 1) := by decide +kernel
theorem dX0_bent_91 : decode cX0_bent 91 = .ok (.ireturn, 1) := by decide +kernel
theorem dX1_init_0 : decode cX1_init 0 = .ok (.aload_n 0, 1) := by decide +kernel
theorem dX1_init_1 : decode cX1_init 1 = .ok (.invokespecial 3, 3) := by decide +kernel
theorem dX1_init_4 : decode cX1_init 4 = .ok (.aload_n 0, 1) := by decide +kernel
theorem dX1_init_5 : decode cX1_init 5 = .ok (.bipush 7, 2) := by decide +kernel
theorem dX1_init_7 : decode cX1_init 7 = .ok (.sipush 400, 3) := by decide +kernel
theorem dX1_init_10 : decode cX1_init 10 = .ok (.multianewarray 11 2, 4) := by decide +kernel
theorem dX1_init_14 : decode cX1_init 14 = .ok (.putfield 13, 3) := by decide +kernel
theorem dX1_init_17 : decode cX1_init 17 = .ok (.return_, 1) := by decide +kernel
theorem dX1_clear_0 : decode cX1_clear 0 = .ok (.aload_n 0, 1) := by decide +kernel
theorem dX1_clear_1 : decode cX1_clear 1 = .ok (.iconst 0, 1) := by decide +kernel
theorem dX1_clear_2 : decode cX1_clear 2 = .ok (.putfield 16, 3) := by decide +kernel
theorem dX1_clear_5 : decode cX1_clear 5 = .ok (.aload_n 0, 1) := by decide +kernel
theorem dX1_clear_6 : decode cX1_clear 6 = .ok (.iconst 0, 1) := by decide +kernel
theorem dX1_clear_7 : decode cX1_clear 7 = .ok (.putfield 20, 3) := by decide +kernel
theorem dX1_clear_10 : decode cX1_clear 10 = .ok (.return_, 1) := by decide +kernel
theorem dX1_add_0 : decode cX1_add 0 = .ok (.aload_n 0, 1) := by decide +kernel
theorem dX1_add_1 : decode cX1_add 1 = .ok (.getfield 16, 3) := by decide +kernel
theorem dX1_add_4 : decode cX1_add 4 = .ok (.sipush 400, 3) := by decide +kernel
theorem dX1_add_7 : decode cX1_add 7 = .ok (.if_icmp .lt 9, 3) := by decide +kernel
theorem dX1_add_10 : decode cX1_add 10 = .ok (.aload_n 0, 1) := by decide +kernel
theorem dX1_add_11 : decode cX1_add 11 = .ok (.iconst 1, 1) := by decide +kernel
theorem dX1_add_12 : decode cX1_add 12 = .ok (.putfield 20, 3) := by decide +kernel
theorem dX1_add_15 : decode cX1_add 15 = .ok (.return_, 1) := by decide +kernel
theorem dX1_add_16 : decode cX1_add 16 = .ok (.aload_n 0, 1) := by decide +kernel
theorem dX1_add_17 : decode cX1_add 17 = .ok (.getfield 13, 3) := by decide +kernel
theorem dX1_add_20 : decode cX1_add 20 = .ok (.iconst 0, 1) := by decide +kernel
theorem dX1_add_21 : decode cX1_add 21 = .ok (.aaload, 1) := by decide +kernel
theorem dX1_add_22 : decode cX1_add 22 = .ok (.aload_n 0, 1) := by decide +kernel
theorem dX1_add_23 : decode cX1_add 23 = .ok (.getfield 16, 3) := by decide +kernel
theorem dX1_add_26 : decode cX1_add 26 = .ok (.iload_n 1, 1) := by decide +kernel
theorem dX1_add_27 : decode cX1_add 27 = .ok (.iastore, 1) := by decide +kernel
theorem dX1_add_28 : decode cX1_add 28 = .ok (.aload_n 0, 1) := by decide +kernel
theorem dX1_add_29 : decode cX1_add 29 = .ok (.getfield 13, 3) := by decide +kernel
theorem dX1_add_32 : decode cX1_add 32 = .ok (.iconst 1, 1) := by decide +kernel
theorem dX1_add_33 : decode cX1_add 33 = .ok (.aaload, 1) := by decide +kernel
theorem dX1_add_34 : decode cX1_add 34 = .ok (.aload_n 0, 1) := by decide +kernel
theorem dX1_add_35 : decode cX1_add 35 = .ok (.getfield 16, 3) := by decide +kernel
theorem dX1_add_38 : decode cX1_add 38 = .ok (.iload_n 2, 1) := by decide +kernel
theorem dX1_add_39 : decode cX1_add 39 = .ok (.iastore, 1) := by decide +kernel
theorem dX1_add_40 : decode cX1_add 40 = .ok (.aload_n 0, 1) := by decide +kernel
theorem dX1_add_41 : decode cX1_add 41 = .ok (.getfield 13, 3) := by decide +kernel
theorem dX1_add_44 : decode cX1_add 44 = .ok (.iconst 2, 1) := by decide +kernel
theorem dX1_add_45 : decode cX1_add 45 = .ok (.aaload, 1) := by decide +kernel
theorem dX1_add_46 : decode cX1_add 46 = .ok (.aload_n 0, 1) := by decide +kernel
theorem dX1_add_47 : decode cX1_add 47 = .ok (.getfield 16, 3) := by decide +kernel
theorem dX1_add_50 : decode cX1_add 50 = .ok (.iload_n 3, 1) := by decide +kernel
theorem dX1_add_51 : decode cX1_add 51 = .ok (.iastore, 1) := by decide +kernel
theorem dX1_add_52 : decode cX1_add 52 = .ok (.aload_n 0, 1) := by decide +kernel
theorem dX1_add_53 : decode cX1_add 53 = .ok (.getfield 13, 3) := by decide +kernel
theorem dX1_add_56 : decode cX1_add 56 = .ok (.iconst 3, 1) := by decide +kernel
theorem dX1_add_57 : decode cX1_add 57 = .ok (.aaload, 1) := by decide +kernel
theorem dX1_add_58 : decode cX1_add 58 = .ok (.aload_n 0, 1) := by decide +kernel
theorem dX1_add_59 : decode cX1_add 59 = .ok (.getfield 16, 3) := by decide +kernel
theorem dX1_add_62 : decode cX1_add 62 = .ok (.iload 4, 2) := by decide +kernel
theorem dX1_add_64 : decode cX1_add 64 = .ok (.iastore, 1) := by decide +kernel
theorem dX1_add_65 : decode cX1_add 65 = .ok (.aload_n 0, 1) := by decide +kernel
theorem dX1_add_66 : decode cX1_add 66 = .ok (.getfield 13, 3) := by decide +kernel
theorem dX1_add_69 : decode cX1_add 69 = .ok (.iconst 4, 1) := by decide +kernel
theorem dX1_add_70 : decode cX1_add 70 = .ok (.aaload, 1) := by decide +kernel
theorem dX1_add_71 : decode cX1_add 71 = .ok (.aload_n 0, 1) := by decide +kernel
theorem dX1_add_72 : decode cX1_add 72 = .ok (.getfield 16, 3) := by decide +kernel
theorem dX1_add_75 : decode cX1_add 75 = .ok (.iload 5, 2) := by decide +kernel
theorem dX1_add_77 : decode cX1_add 77 = .ok (.iastore, 1) := by decide +kernel
theorem dX1_add_78 : decode cX1_add 78 = .ok (.aload_n 0, 1) := by decide +kernel
theorem dX1_add_79 : decode cX1_add 79 = .ok (.getfield 13, 3) := by decide +kernel
theorem dX1_add_82 : decode cX1_add 82 = .ok (.iconst 5, 1) := by decide +kernel
theorem dX1_add_83 : decode cX1_add 83 = .ok (.aaload, 1) := by decide +kernel
theorem dX1_add_84 : decode cX1_add 84 = .ok (.aload_n 0, 1) := by decide +kernel
theorem dX1_add_85 : decode cX1_add 85 = .ok (.getfield 16, 3) := by decide +kernel
theorem dX1_add_88 : decode cX1_add 88 = .ok (.iload 6, 2) := by decide +kernel
theorem dX1_add_90 : decode cX1_add 90 = .ok (.iastore, 1) := by decide +kernel
theorem dX1_add_91 : decode cX1_add 91 = .ok (.aload_n 0, 1) := by decide +kernel
theorem dX1_add_92 : decode cX1_add 92 = .ok (.getfield 13, 3) := by decide +kernel
theorem dX1_add_95 : decode cX1_add 95 = .ok (.bipush 6, 2) := by decide +kernel
theorem dX1_add_97 : decode cX1_add 97 = .ok (.aaload, 1) := by decide +kernel
theorem dX1_add_98 : decode cX1_add 98 = .ok (.aload_n 0, 1) := by decide +kernel
theorem dX1_add_99 : decode cX1_add 99 = .ok (.getfield 16, 3) := by decide +kernel
theorem dX1_add_102 : decode cX1_add 102 = .ok (.iload 7, 2) := by decide +kernel
theorem dX1_add_104 : decode cX1_add 104 = .ok (.iastore, 1) := by decide +kernel
theorem dX1_add_105 : decode cX1_add 105 = .ok (.aload_n 0, 1) := by decide +kernel
theorem dX1_add_106 : decode cX1_add 106 = .ok (.dup, 1) := by decide +kernel
theorem dX1_add_107 : decode cX1_add 107 = .ok (.getfield 16, 3) := by decide +kernel
theorem dX1_add_110 : decode cX1_add 110 = .ok (.iconst 1, 1) := by decide +kernel
theorem dX1_add_111 : decode cX1_add 111 = .ok (.iadd, 1) := by decide +kernel
theorem dX1_add_112 : decode cX1_add 112 = .ok (.putfield 16, 3) := by decide +kernel
theorem dX1_add_115 : decode cX1_add 115 = .ok (.return_, 1) := by decide +kernel
set_option maxRecDepth 20000 in
theorem ggX1_has_X11_isWithin : GoodIn wsX1_has wsX11_isWithin := goodIn_r _ [4] (by decide +kernel) (by decide +kernel)
set_option maxRecDepth 20000 in
theorem gX1_has_X11_isWithin_n24 : GoodIn wsX1_has (wsX11_isWithin) := ggX1_has_X11_isWithin
theorem dX1_has_0 : decode cX1_has 0 = .ok (.iload_n 1, 1) := by decide +kernel
theorem dX1_has_1 : decode cX1_has 1 = .ok (.iconst 0, 1) := by decide +kernel
theorem dX1_has_2 : decode cX1_has 2 = .ok (.aload_n 0, 1) := by decide +kernel
theorem dX1_has_3 : decode cX1_has 3 = .ok (.getfield 16, 3) := by decide +kernel
theorem dX1_has_6 : decode cX1_has 6 = .ok (.iconst 1, 1) := by decide +kernel
theorem dX1_has_7 : decode cX1_has 7 = .ok (.isub, 1) := by decide +kernel
theorem dX1_has_8 : decode cX1_has 8 = .ok (.invokestatic 24, 3) := by decide +kernel
theorem dX1_has_11 : decode cX1_has 11 = .ok (.ireturn, 1) := by decide +kernel
set_option maxRecDepth 20000 in
theorem ggX1_bend_X0_bent : GoodIn wsX1_bend wsX0_bent := goodIn_r _ [11, 12, 13, 14, 15, 16, 17, 18, 19, 20, 21, 22, 23, 24, 25, 29, 30, 31, 32] (by decide +kernel) (by decide +kernel)
set_option maxRecDepth 20000 in
theorem gX1_bend_X0_bent : GoodIn wsX1_bend (wsV RX1 28 RX0 yX0_bent wsX0_bent) := goodIn_app (goodIn_of _ (by decide +kernel)) ggX1_bend_X0_bent
theorem dX1_bend_0 : decode cX1_bend 0 = .ok (.iconst 0, 1) := by decide +kernel
theorem dX1_bend_1 : decode cX1_bend 1 = .ok (.istore_n 2, 1) := by decide +kernel
theorem dX1_bend_2 : decode cX1_bend 2 = .ok (.iload_n 2, 1) := by decide +kernel
theorem dX1_bend_3 : decode cX1_bend 3 = .ok (.aload_n 0, 1) := by decide +kernel
theorem dX1_bend_4 : decode cX1_bend 4 = .ok (.getfield 16, 3) := by decide +kernel
theorem dX1_bend_7 : decode cX1_bend 7 = .ok (.if_icmp .ge 70, 3) := by decide +kernel
theorem dX1_bend_10 : decode cX1_bend 10 = .ok (.aload_n 1, 1) := by decide +kernel
theorem dX1_bend_11 : decode cX1_bend 11 = .ok (.aload_n 0, 1) := by decide +kernel
theorem dX1_bend_12 : decode cX1_bend 12 = .ok (.getfield 13, 3) := by decide +kernel
theorem dX1_bend_15 : decode cX1_bend 15 = .ok (.iconst 0, 1) := by decide +kernel
theorem dX1_bend_16 : decode cX1_bend 16 = .ok (.aaload, 1) := by decide +kernel
theorem dX1_bend_17 : decode cX1_bend 17 = .ok (.iload_n 2, 1) := by decide +kernel
theorem dX1_bend_18 : decode cX1_bend 18 = .ok (.iaload, 1) := by decide +kernel
theorem dX1_bend_19 : decode cX1_bend 19 = .ok (.invokevirtual 28, 3) := by decide +kernel
theorem dX1_bend_22 : decode cX1_bend 22 = .ok (.istore_n 3, 1) := by decide +kernel
theorem dX1_bend_23 : decode cX1_bend 23 = .ok (.aload_n 1, 1) := by decide +kernel
theorem dX1_bend_24 : decode cX1_bend 24 = .ok (.aload_n 0, 1) := by decide +kernel
theorem dX1_bend_25 : decode cX1_bend 25 = .ok (.getfield 13, 3) := by decide +kernel
theorem dX1_bend_28 : decode cX1_bend 28 = .ok (.iconst 0, 1) := by decide +kernel
theorem dX1_bend_29 : decode cX1_bend 29 = .ok (.aaload, 1) := by decide +kernel
theorem dX1_bend_30 : decode cX1_bend 30 = .ok (.iload_n 2, 1) := by decide +kernel
theorem dX1_bend_31 : decode cX1_bend 31 = .ok (.iaload, 1) := by decide +kernel
theorem dX1_bend_32 : decode cX1_bend 32 = .ok (.aload_n 0, 1) := by decide +kernel
theorem dX1_bend_33 : decode cX1_bend 33 = .ok (.getfield 13, 3) := by decide +kernel
theorem dX1_bend_36 : decode cX1_bend 36 = .ok (.iconst 1, 1) := by decide +kernel
theorem dX1_bend_37 : decode cX1_bend 37 = .ok (.aaload, 1) := by decide +kernel
theorem dX1_bend_38 : decode cX1_bend 38 = .ok (.iload_n 2, 1) := by decide +kernel
theorem dX1_bend_39 : decode cX1_bend 39 = .ok (.iaload, 1) := by decide +kernel
theorem dX1_bend_40 : decode cX1_bend 40 = .ok (.iadd, 1) := by decide +kernel
theorem dX1_bend_41 : decode cX1_bend 41 = .ok (.invokevirtual 28, 3) := by decide +kernel
theorem dX1_bend_44 : decode cX1_bend 44 = .ok (.istore 4, 2) := by decide +kernel
theorem dX1_bend_46 : decode cX1_bend 46 = .ok (.aload_n 0, 1) := by decide +kernel
theorem dX1_bend_47 : decode cX1_bend 47 = .ok (.getfield 13, 3) := by decide +kernel
theorem dX1_bend_50 : decode cX1_bend 50 = .ok (.iconst 0, 1) := by decide +kernel
theorem dX1_bend_51 : decode cX1_bend 51 = .ok (.aaload, 1) := by decide +kernel
theorem dX1_bend_52 : decode cX1_bend 52 = .ok (.iload_n 2, 1) := by decide +kernel
theorem dX1_bend_53 : decode cX1_bend 53 = .ok (.iload_n 3, 1) := by decide +kernel
theorem dX1_bend_54 : decode cX1_bend 54 = .ok (.iastore, 1) := by decide +kernel
theorem dX1_bend_55 : decode cX1_bend 55 = .ok (.aload_n 0, 1) := by decide +kernel
theorem dX1_bend_56 : decode cX1_bend 56 = .ok (.getfield 13, 3) := by decide +kernel
theorem dX1_bend_59 : decode cX1_bend 59 = .ok (.iconst 1, 1) := by decide +kernel
theorem dX1_bend_60 : decode cX1_bend 60 = .ok (.aaload, 1) := by decide +kernel
theorem dX1_bend_61 : decode cX1_bend 61 = .ok (.iload_n 2, 1) := by decide +kernel
theorem dX1_bend_62 : decode cX1_bend 62 = .ok (.iconst 1, 1) := by decide +kernel
theorem dX1_bend_63 : decode cX1_bend 63 = .ok (.iload 4, 2) := by decide +kernel
theorem dX1_bend_65 : decode cX1_bend 65 = .ok (.iload_n 3, 1) := by decide +kernel
theorem dX1_bend_66 : decode cX1_bend 66 = .ok (.isub, 1) := by decide +kernel
theorem dX1_bend_67 : decode cX1_bend 67 = .ok (.invokestatic 34, 3) := by decide +kernel
theorem dX1_bend_70 : decode cX1_bend 70 = .ok (.iastore, 1) := by decide +kernel
theorem dX1_bend_71 : decode cX1_bend 71 = .ok (.iinc 2 1, 3) := by decide +kernel
theorem dX1_bend_74 : decode cX1_bend 74 = .ok (.goto (-72), 3) := by decide +kernel
theorem dX1_bend_77 : decode cX1_bend 77 = .ok (.return_, 1) := by decide +kernel
set_option maxRecDepth 20000 in
theorem ggX1_takeInOrder_X5_partAt : GoodIn wsX1_takeInOrder wsX5_partAt := goodIn_r _ [7, 8, 9, 10, 11, 12, 13, 14, 15, 19, 20] (by decide +kernel) (by decide +kernel)
set_option maxRecDepth 20000 in
theorem gX1_takeInOrder_X5_partAt : GoodIn wsX1_takeInOrder (wsV RX1 40 RX5 yX5_partAt wsX5_partAt) := goodIn_app (goodIn_of _ (by decide +kernel)) ggX1_takeInOrder_X5_partAt
theorem dX1_takeInOrder_0 : decode cX1_takeInOrder 0 = .ok (.aload_n 0, 1) := by decide +kernel
theorem dX1_takeInOrder_1 : decode cX1_takeInOrder 1 = .ok (.aload_n 1, 1) := by decide +kernel
theorem dX1_takeInOrder_2 : decode cX1_takeInOrder 2 = .ok (.getfield 16, 3) := by decide +kernel
theorem dX1_takeInOrder_5 : decode cX1_takeInOrder 5 = .ok (.putfield 16, 3) := by decide +kernel
theorem dX1_takeInOrder_8 : decode cX1_takeInOrder 8 = .ok (.iconst 0, 1) := by decide +kernel
theorem dX1_takeInOrder_9 : decode cX1_takeInOrder 9 = .ok (.istore_n 3, 1) := by decide +kernel
theorem dX1_takeInOrder_10 : decode cX1_takeInOrder 10 = .ok (.iload_n 3, 1) := by decide +kernel
theorem dX1_takeInOrder_11 : decode cX1_takeInOrder 11 = .ok (.aload_n 0, 1) := by decide +kernel
theorem dX1_takeInOrder_12 : decode cX1_takeInOrder 12 = .ok (.getfield 16, 3) := by decide +kernel
theorem dX1_takeInOrder_15 : decode cX1_takeInOrder 15 = .ok (.if_icmp .ge 51, 3) := by decide +kernel
theorem dX1_takeInOrder_18 : decode cX1_takeInOrder 18 = .ok (.aload_n 2, 1) := by decide +kernel
theorem dX1_takeInOrder_19 : decode cX1_takeInOrder 19 = .ok (.iload_n 3, 1) := by decide +kernel
theorem dX1_takeInOrder_20 : decode cX1_takeInOrder 20 = .ok (.invokevirtual 40, 3) := by decide +kernel
theorem dX1_takeInOrder_23 : decode cX1_takeInOrder 23 = .ok (.istore 4, 2) := by decide +kernel
theorem dX1_takeInOrder_25 : decode cX1_takeInOrder 25 = .ok (.iconst 0, 1) := by decide +kernel
theorem dX1_takeInOrder_26 : decode cX1_takeInOrder 26 = .ok (.istore 5, 2) := by decide +kernel
theorem dX1_takeInOrder_28 : decode cX1_takeInOrder 28 = .ok (.iload 5, 2) := by decide +kernel
theorem dX1_takeInOrder_30 : decode cX1_takeInOrder 30 = .ok (.bipush 7, 2) := by decide +kernel
theorem dX1_takeInOrder_32 : decode cX1_takeInOrder 32 = .ok (.if_icmp .ge 28, 3) := by decide +kernel
theorem dX1_takeInOrder_35 : decode cX1_takeInOrder 35 = .ok (.aload_n 0, 1) := by decide +kernel
theorem dX1_takeInOrder_36 : decode cX1_takeInOrder 36 = .ok (.getfield 13, 3) := by decide +kernel
theorem dX1_takeInOrder_39 : decode cX1_takeInOrder 39 = .ok (.iload 5, 2) := by decide +kernel
theorem dX1_takeInOrder_41 : decode cX1_takeInOrder 41 = .ok (.aaload, 1) := by decide +kernel
theorem dX1_takeInOrder_42 : decode cX1_takeInOrder 42 = .ok (.iload_n 3, 1) := by decide +kernel
theorem dX1_takeInOrder_43 : decode cX1_takeInOrder 43 = .ok (.aload_n 1, 1) := by decide +kernel
theorem dX1_takeInOrder_44 : decode cX1_takeInOrder 44 = .ok (.getfield 13, 3) := by decide +kernel
theorem dX1_takeInOrder_47 : decode cX1_takeInOrder 47 = .ok (.iload 5, 2) := by decide +kernel
theorem dX1_takeInOrder_49 : decode cX1_takeInOrder 49 = .ok (.aaload, 1) := by decide +kernel
theorem dX1_takeInOrder_50 : decode cX1_takeInOrder 50 = .ok (.iload 4, 2) := by decide +kernel
theorem dX1_takeInOrder_52 : decode cX1_takeInOrder 52 = .ok (.iaload, 1) := by decide +kernel
theorem dX1_takeInOrder_53 : decode cX1_takeInOrder 53 = .ok (.iastore, 1) := by decide +kernel
theorem dX1_takeInOrder_54 : decode cX1_takeInOrder 54 = .ok (.iinc 5 1, 3) := by decide +kernel
theorem dX1_takeInOrder_57 : decode cX1_takeInOrder 57 = .ok (.goto (-29), 3) := by decide +kernel
theorem dX1_takeInOrder_60 : decode cX1_takeInOrder 60 = .ok (.iinc 3 1, 3) := by decide +kernel
theorem dX1_takeInOrder_63 : decode cX1_takeInOrder 63 = .ok (.goto (-53), 3) := by decide +kernel
theorem dX1_takeInOrder_66 : decode cX1_takeInOrder 66 = .ok (.return_, 1) := by decide +kernel
set_option maxRecDepth 20000 in
theorem ggX1_endAtRepeats_X1_endAtRepeat : GoodIn wsX1_endAtRepeats wsX1_endAtRepeat := goodIn_r _ [6, 1, 7, 8, 9, 10, 5, 11, 12, 13, 14, 15, 16, 17, 18] (by decide +kernel) (by decide +kernel)
set_option maxRecDepth 20000 in
theorem gX1_endAtRepeats_X1_endAtRepeat : GoodIn wsX1_endAtRepeats (wsV RX1 45 RX1 yX1_endAtRepeat wsX1_endAtRepeat) := goodIn_app (goodIn_of _ (by decide +kernel)) ggX1_endAtRepeats_X1_endAtRepeat
theorem dX1_endAtRepeats_0 : decode cX1_endAtRepeats 0 = .ok (.iconst 0, 1) := by decide +kernel
theorem dX1_endAtRepeats_1 : decode cX1_endAtRepeats 1 = .ok (.istore_n 1, 1) := by decide +kernel
theorem dX1_endAtRepeats_2 : decode cX1_endAtRepeats 2 = .ok (.iload_n 1, 1) := by decide +kernel
theorem dX1_endAtRepeats_3 : decode cX1_endAtRepeats 3 = .ok (.aload_n 0, 1) := by decide +kernel
theorem dX1_endAtRepeats_4 : decode cX1_endAtRepeats 4 = .ok (.getfield 16, 3) := by decide +kernel
theorem dX1_endAtRepeats_7 : decode cX1_endAtRepeats 7 = .ok (.if_icmp .ge 14, 3) := by decide +kernel
theorem dX1_endAtRepeats_10 : decode cX1_endAtRepeats 10 = .ok (.aload_n 0, 1) := by decide +kernel
theorem dX1_endAtRepeats_11 : decode cX1_endAtRepeats 11 = .ok (.iload_n 1, 1) := by decide +kernel
theorem dX1_endAtRepeats_12 : decode cX1_endAtRepeats 12 = .ok (.invokevirtual 45, 3) := by decide +kernel
theorem dX1_endAtRepeats_15 : decode cX1_endAtRepeats 15 = .ok (.iinc 1 1, 3) := by decide +kernel
theorem dX1_endAtRepeats_18 : decode cX1_endAtRepeats 18 = .ok (.goto (-16), 3) := by decide +kernel
theorem dX1_endAtRepeats_21 : decode cX1_endAtRepeats 21 = .ok (.return_, 1) := by decide +kernel
set_option maxRecDepth 20000 in
theorem ggX1_endAtRepeat_X1_endOf : GoodIn wsX1_endAtRepeat wsX1_endOf := goodIn_r _ [7, 2, 12, 13, 14] (by decide +kernel) (by decide +kernel)
set_option maxRecDepth 20000 in
theorem gX1_endAtRepeat_X1_endOf : GoodIn wsX1_endAtRepeat (wsV RX1 49 RX1 yX1_endOf wsX1_endOf) := goodIn_app (goodIn_of _ (by decide +kernel)) ggX1_endAtRepeat_X1_endOf
set_option maxRecDepth 20000 in
theorem ggX1_endAtRepeat_X1_repeats : GoodIn wsX1_endAtRepeat wsX1_repeats := goodIn_r _ [11, 2, 12, 13, 14] (by decide +kernel) (by decide +kernel)
set_option maxRecDepth 20000 in
theorem gX1_endAtRepeat_X1_repeats : GoodIn wsX1_endAtRepeat (wsV RX1 52 RX1 yX1_repeats wsX1_repeats) := goodIn_app (goodIn_of _ (by decide +kernel)) ggX1_endAtRepeat_X1_repeats
theorem dX1_endAtRepeat_0 : decode cX1_endAtRepeat 0 = .ok (.aload_n 0, 1) := by decide +kernel
theorem dX1_endAtRepeat_1 : decode cX1_endAtRepeat 1 = .ok (.iload_n 1, 1) := by decide +kernel
theorem dX1_endAtRepeat_2 : decode cX1_endAtRepeat 2 = .ok (.invokevirtual 49, 3) := by decide +kernel
theorem dX1_endAtRepeat_5 : decode cX1_endAtRepeat 5 = .ok (.istore_n 2, 1) := by decide +kernel
theorem dX1_endAtRepeat_6 : decode cX1_endAtRepeat 6 = .ok (.iload_n 1, 1) := by decide +kernel
theorem dX1_endAtRepeat_7 : decode cX1_endAtRepeat 7 = .ok (.iconst 1, 1) := by decide +kernel
theorem dX1_endAtRepeat_8 : decode cX1_endAtRepeat 8 = .ok (.iadd, 1) := by decide +kernel
theorem dX1_endAtRepeat_9 : decode cX1_endAtRepeat 9 = .ok (.istore_n 3, 1) := by decide +kernel
theorem dX1_endAtRepeat_10 : decode cX1_endAtRepeat 10 = .ok (.iload_n 3, 1) := by decide +kernel
theorem dX1_endAtRepeat_11 : decode cX1_endAtRepeat 11 = .ok (.aload_n 0, 1) := by decide +kernel
theorem dX1_endAtRepeat_12 : decode cX1_endAtRepeat 12 = .ok (.getfield 16, 3) := by decide +kernel
theorem dX1_endAtRepeat_15 : decode cX1_endAtRepeat 15 = .ok (.if_icmp .ge 56, 3) := by decide +kernel
theorem dX1_endAtRepeat_18 : decode cX1_endAtRepeat 18 = .ok (.aload_n 0, 1) := by decide +kernel
theorem dX1_endAtRepeat_19 : decode cX1_endAtRepeat 19 = .ok (.getfield 13, 3) := by decide +kernel
theorem dX1_endAtRepeat_22 : decode cX1_endAtRepeat 22 = .ok (.iconst 0, 1) := by decide +kernel
theorem dX1_endAtRepeat_23 : decode cX1_endAtRepeat 23 = .ok (.aaload, 1) := by decide +kernel
theorem dX1_endAtRepeat_24 : decode cX1_endAtRepeat 24 = .ok (.iload_n 3, 1) := by decide +kernel
theorem dX1_endAtRepeat_25 : decode cX1_endAtRepeat 25 = .ok (.iaload, 1) := by decide +kernel
theorem dX1_endAtRepeat_26 : decode cX1_endAtRepeat 26 = .ok (.iload_n 2, 1) := by decide +kernel
theorem dX1_endAtRepeat_27 : decode cX1_endAtRepeat 27 = .ok (.if_icmp .ge 44, 3) := by decide +kernel
theorem dX1_endAtRepeat_30 : decode cX1_endAtRepeat 30 = .ok (.aload_n 0, 1) := by decide +kernel
theorem dX1_endAtRepeat_31 : decode cX1_endAtRepeat 31 = .ok (.iload_n 3, 1) := by decide +kernel
theorem dX1_endAtRepeat_32 : decode cX1_endAtRepeat 32 = .ok (.iload_n 1, 1) := by decide +kernel
theorem dX1_endAtRepeat_33 : decode cX1_endAtRepeat 33 = .ok (.invokevirtual 52, 3) := by decide +kernel
theorem dX1_endAtRepeat_36 : decode cX1_endAtRepeat 36 = .ok (.ifCond .eq 29, 3) := by decide +kernel
theorem dX1_endAtRepeat_39 : decode cX1_endAtRepeat 39 = .ok (.aload_n 0, 1) := by decide +kernel
theorem dX1_endAtRepeat_40 : decode cX1_endAtRepeat 40 = .ok (.getfield 13, 3) := by decide +kernel
theorem dX1_endAtRepeat_43 : decode cX1_endAtRepeat 43 = .ok (.iconst 1, 1) := by decide +kernel
theorem dX1_endAtRepeat_44 : decode cX1_endAtRepeat 44 = .ok (.aaload, 1) := by decide +kernel
theorem dX1_endAtRepeat_45 : decode cX1_endAtRepeat 45 = .ok (.iload_n 1, 1) := by decide +kernel
theorem dX1_endAtRepeat_46 : decode cX1_endAtRepeat 46 = .ok (.aload_n 0, 1) := by decide +kernel
theorem dX1_endAtRepeat_47 : decode cX1_endAtRepeat 47 = .ok (.getfield 13, 3) := by decide +kernel
theorem dX1_endAtRepeat_50 : decode cX1_endAtRepeat 50 = .ok (.iconst 0, 1) := by decide +kernel
theorem dX1_endAtRepeat_51 : decode cX1_endAtRepeat 51 = .ok (.aaload, 1) := by decide +kernel
theorem dX1_endAtRepeat_52 : decode cX1_endAtRepeat 52 = .ok (.iload_n 3, 1) := by decide +kernel
theorem dX1_endAtRepeat_53 : decode cX1_endAtRepeat 53 = .ok (.iaload, 1) := by decide +kernel
theorem dX1_endAtRepeat_54 : decode cX1_endAtRepeat 54 = .ok (.aload_n 0, 1) := by decide +kernel
theorem dX1_endAtRepeat_55 : decode cX1_endAtRepeat 55 = .ok (.getfield 13, 3) := by decide +kernel
theorem dX1_endAtRepeat_58 : decode cX1_endAtRepeat 58 = .ok (.iconst 0, 1) := by decide +kernel
theorem dX1_endAtRepeat_59 : decode cX1_endAtRepeat 59 = .ok (.aaload, 1) := by decide +kernel
theorem dX1_endAtRepeat_60 : decode cX1_endAtRepeat 60 = .ok (.iload_n 1, 1) := by decide +kernel
theorem dX1_endAtRepeat_61 : decode cX1_endAtRepeat 61 = .ok (.iaload, 1) := by decide +kernel
theorem dX1_endAtRepeat_62 : decode cX1_endAtRepeat 62 = .ok (.isub, 1) := by decide +kernel
theorem dX1_endAtRepeat_63 : decode cX1_endAtRepeat 63 = .ok (.iastore, 1) := by decide +kernel
theorem dX1_endAtRepeat_64 : decode cX1_endAtRepeat 64 = .ok (.return_, 1) := by decide +kernel
theorem dX1_endAtRepeat_65 : decode cX1_endAtRepeat 65 = .ok (.iinc 3 1, 3) := by decide +kernel
theorem dX1_endAtRepeat_68 : decode cX1_endAtRepeat 68 = .ok (.goto (-58), 3) := by decide +kernel
theorem dX1_endAtRepeat_71 : decode cX1_endAtRepeat 71 = .ok (.return_, 1) := by decide +kernel
theorem dX1_repeats_0 : decode cX1_repeats 0 = .ok (.aload_n 0, 1) := by decide +kernel
theorem dX1_repeats_1 : decode cX1_repeats 1 = .ok (.getfield 13, 3) := by decide +kernel
theorem dX1_repeats_4 : decode cX1_repeats 4 = .ok (.bipush 6, 2) := by decide +kernel
theorem dX1_repeats_6 : decode cX1_repeats 6 = .ok (.aaload, 1) := by decide +kernel
theorem dX1_repeats_7 : decode cX1_repeats 7 = .ok (.iload_n 1, 1) := by decide +kernel
theorem dX1_repeats_8 : decode cX1_repeats 8 = .ok (.iaload, 1) := by decide +kernel
theorem dX1_repeats_9 : decode cX1_repeats 9 = .ok (.aload_n 0, 1) := by decide +kernel
theorem dX1_repeats_10 : decode cX1_repeats 10 = .ok (.getfield 13, 3) := by decide +kernel
theorem dX1_repeats_13 : decode cX1_repeats 13 = .ok (.bipush 6, 2) := by decide +kernel
theorem dX1_repeats_15 : decode cX1_repeats 15 = .ok (.aaload, 1) := by decide +kernel
theorem dX1_repeats_16 : decode cX1_repeats 16 = .ok (.iload_n 2, 1) := by decide +kernel
theorem dX1_repeats_17 : decode cX1_repeats 17 = .ok (.iaload, 1) := by decide +kernel
theorem dX1_repeats_18 : decode cX1_repeats 18 = .ok (.if_icmp .ne 26, 3) := by decide +kernel
theorem dX1_repeats_21 : decode cX1_repeats 21 = .ok (.aload_n 0, 1) := by decide +kernel
theorem dX1_repeats_22 : decode cX1_repeats 22 = .ok (.getfield 13, 3) := by decide +kernel
theorem dX1_repeats_25 : decode cX1_repeats 25 = .ok (.iconst 2, 1) := by decide +kernel
theorem dX1_repeats_26 : decode cX1_repeats 26 = .ok (.aaload, 1) := by decide +kernel
theorem dX1_repeats_27 : decode cX1_repeats 27 = .ok (.iload_n 1, 1) := by decide +kernel
theorem dX1_repeats_28 : decode cX1_repeats 28 = .ok (.iaload, 1) := by decide +kernel
theorem dX1_repeats_29 : decode cX1_repeats 29 = .ok (.aload_n 0, 1) := by decide +kernel
theorem dX1_repeats_30 : decode cX1_repeats 30 = .ok (.getfield 13, 3) := by decide +kernel
theorem dX1_repeats_33 : decode cX1_repeats 33 = .ok (.iconst 2, 1) := by decide +kernel
theorem dX1_repeats_34 : decode cX1_repeats 34 = .ok (.aaload, 1) := by decide +kernel
theorem dX1_repeats_35 : decode cX1_repeats 35 = .ok (.iload_n 2, 1) := by decide +kernel
theorem dX1_repeats_36 : decode cX1_repeats 36 = .ok (.iaload, 1) := by decide +kernel
theorem dX1_repeats_37 : decode cX1_repeats 37 = .ok (.if_icmp .ne 7, 3) := by decide +kernel
theorem dX1_repeats_40 : decode cX1_repeats 40 = .ok (.iconst 1, 1) := by decide +kernel
theorem dX1_repeats_41 : decode cX1_repeats 41 = .ok (.goto 4, 3) := by decide +kernel
theorem dX1_repeats_44 : decode cX1_repeats 44 = .ok (.iconst 0, 1) := by decide +kernel
theorem dX1_repeats_45 : decode cX1_repeats 45 = .ok (.istore_n 3, 1) := by decide +kernel
theorem dX1_repeats_46 : decode cX1_repeats 46 = .ok (.iload_n 3, 1) := by decide +kernel
theorem dX1_repeats_47 : decode cX1_repeats 47 = .ok (.ifCond .eq 26, 3) := by decide +kernel
theorem dX1_repeats_50 : decode cX1_repeats 50 = .ok (.aload_n 0, 1) := by decide +kernel
theorem dX1_repeats_51 : decode cX1_repeats 51 = .ok (.getfield 13, 3) := by decide +kernel
theorem dX1_repeats_54 : decode cX1_repeats 54 = .ok (.iconst 0, 1) := by decide +kernel
theorem dX1_repeats_55 : decode cX1_repeats 55 = .ok (.aaload, 1) := by decide +kernel
theorem dX1_repeats_56 : decode cX1_repeats 56 = .ok (.iload_n 1, 1) := by decide +kernel
theorem dX1_repeats_57 : decode cX1_repeats 57 = .ok (.iaload, 1) := by decide +kernel
theorem dX1_repeats_58 : decode cX1_repeats 58 = .ok (.aload_n 0, 1) := by decide +kernel
theorem dX1_repeats_59 : decode cX1_repeats 59 = .ok (.getfield 13, 3) := by decide +kernel
theorem dX1_repeats_62 : decode cX1_repeats 62 = .ok (.iconst 0, 1) := by decide +kernel
theorem dX1_repeats_63 : decode cX1_repeats 63 = .ok (.aaload, 1) := by decide +kernel
theorem dX1_repeats_64 : decode cX1_repeats 64 = .ok (.iload_n 2, 1) := by decide +kernel
theorem dX1_repeats_65 : decode cX1_repeats 65 = .ok (.iaload, 1) := by decide +kernel
theorem dX1_repeats_66 : decode cX1_repeats 66 = .ok (.if_icmp .le 7, 3) := by decide +kernel
theorem dX1_repeats_69 : decode cX1_repeats 69 = .ok (.iconst 1, 1) := by decide +kernel
theorem dX1_repeats_70 : decode cX1_repeats 70 = .ok (.goto 4, 3) := by decide +kernel
theorem dX1_repeats_73 : decode cX1_repeats 73 = .ok (.iconst 0, 1) := by decide +kernel
theorem dX1_repeats_74 : decode cX1_repeats 74 = .ok (.ireturn, 1) := by decide +kernel
theorem dX1_endOf_0 : decode cX1_endOf 0 = .ok (.aload_n 0, 1) := by decide +kernel
theorem dX1_endOf_1 : decode cX1_endOf 1 = .ok (.getfield 13, 3) := by decide +kernel
theorem dX1_endOf_4 : decode cX1_endOf 4 = .ok (.iconst 0, 1) := by decide +kernel
theorem dX1_endOf_5 : decode cX1_endOf 5 = .ok (.aaload, 1) := by decide +kernel
theorem dX1_endOf_6 : decode cX1_endOf 6 = .ok (.iload_n 1, 1) := by decide +kernel
theorem dX1_endOf_7 : decode cX1_endOf 7 = .ok (.iaload, 1) := by decide +kernel
theorem dX1_endOf_8 : decode cX1_endOf 8 = .ok (.aload_n 0, 1) := by decide +kernel
theorem dX1_endOf_9 : decode cX1_endOf 9 = .ok (.getfield 13, 3) := by decide +kernel
theorem dX1_endOf_12 : decode cX1_endOf 12 = .ok (.iconst 1, 1) := by decide +kernel
theorem dX1_endOf_13 : decode cX1_endOf 13 = .ok (.aaload, 1) := by decide +kernel
theorem dX1_endOf_14 : decode cX1_endOf 14 = .ok (.iload_n 1, 1) := by decide +kernel
theorem dX1_endOf_15 : decode cX1_endOf 15 = .ok (.iaload, 1) := by decide +kernel
theorem dX1_endOf_16 : decode cX1_endOf 16 = .ok (.iadd, 1) := by decide +kernel
theorem dX1_endOf_17 : decode cX1_endOf 17 = .ok (.ireturn, 1) := by decide +kernel
set_option maxRecDepth 20000 in
theorem ggX1_soundingAt_X1_endOf : GoodIn wsX1_soundingAt wsX1_endOf := goodIn_r _ [7, 2, 8, 9, 10] (by decide +kernel) (by decide +kernel)
set_option maxRecDepth 20000 in
theorem gX1_soundingAt_X1_endOf : GoodIn wsX1_soundingAt (wsV RX1 49 RX1 yX1_endOf wsX1_endOf) := goodIn_app (goodIn_of _ (by decide +kernel)) ggX1_soundingAt_X1_endOf
theorem dX1_soundingAt_0 : decode cX1_soundingAt 0 = .ok (.iconst 0, 1) := by decide +kernel
theorem dX1_soundingAt_1 : decode cX1_soundingAt 1 = .ok (.istore_n 2, 1) := by decide +kernel
theorem dX1_soundingAt_2 : decode cX1_soundingAt 2 = .ok (.iconst 0, 1) := by decide +kernel
theorem dX1_soundingAt_3 : decode cX1_soundingAt 3 = .ok (.istore_n 3, 1) := by decide +kernel
theorem dX1_soundingAt_4 : decode cX1_soundingAt 4 = .ok (.iload_n 3, 1) := by decide +kernel
theorem dX1_soundingAt_5 : decode cX1_soundingAt 5 = .ok (.aload_n 0, 1) := by decide +kernel
theorem dX1_soundingAt_6 : decode cX1_soundingAt 6 = .ok (.getfield 16, 3) := by decide +kernel
theorem dX1_soundingAt_9 : decode cX1_soundingAt 9 = .ok (.if_icmp .ge 33, 3) := by decide +kernel
theorem dX1_soundingAt_12 : decode cX1_soundingAt 12 = .ok (.aload_n 0, 1) := by decide +kernel
theorem dX1_soundingAt_13 : decode cX1_soundingAt 13 = .ok (.getfield 13, 3) := by decide +kernel
theorem dX1_soundingAt_16 : decode cX1_soundingAt 16 = .ok (.iconst 0, 1) := by decide +kernel
theorem dX1_soundingAt_17 : decode cX1_soundingAt 17 = .ok (.aaload, 1) := by decide +kernel
theorem dX1_soundingAt_18 : decode cX1_soundingAt 18 = .ok (.iload_n 3, 1) := by decide +kernel
theorem dX1_soundingAt_19 : decode cX1_soundingAt 19 = .ok (.iaload, 1) := by decide +kernel
theorem dX1_soundingAt_20 : decode cX1_soundingAt 20 = .ok (.iload_n 1, 1) := by decide +kernel
theorem dX1_soundingAt_21 : decode cX1_soundingAt 21 = .ok (.if_icmp .gt 15, 3) := by decide +kernel
theorem dX1_soundingAt_24 : decode cX1_soundingAt 24 = .ok (.aload_n 0, 1) := by decide +kernel
theorem dX1_soundingAt_25 : decode cX1_soundingAt 25 = .ok (.iload_n 3, 1) := by decide +kernel
theorem dX1_soundingAt_26 : decode cX1_soundingAt 26 = .ok (.invokevirtual 49, 3) := by decide +kernel
theorem dX1_soundingAt_29 : decode cX1_soundingAt 29 = .ok (.iload_n 1, 1) := by decide +kernel
theorem dX1_soundingAt_30 : decode cX1_soundingAt 30 = .ok (.if_icmp .le 6, 3) := by decide +kernel
theorem dX1_soundingAt_33 : decode cX1_soundingAt 33 = .ok (.iinc 2 1, 3) := by decide +kernel
theorem dX1_soundingAt_36 : decode cX1_soundingAt 36 = .ok (.iinc 3 1, 3) := by decide +kernel
theorem dX1_soundingAt_39 : decode cX1_soundingAt 39 = .ok (.goto (-35), 3) := by decide +kernel
theorem dX1_soundingAt_42 : decode cX1_soundingAt 42 = .ok (.iload_n 2, 1) := by decide +kernel
theorem dX1_soundingAt_43 : decode cX1_soundingAt 43 = .ok (.ireturn, 1) := by decide +kernel
theorem dX1_howManyOf_0 : decode cX1_howManyOf 0 = .ok (.iconst 0, 1) := by decide +kernel
theorem dX1_howManyOf_1 : decode cX1_howManyOf 1 = .ok (.istore_n 2, 1) := by decide +kernel
theorem dX1_howManyOf_2 : decode cX1_howManyOf 2 = .ok (.iconst 0, 1) := by decide +kernel
theorem dX1_howManyOf_3 : decode cX1_howManyOf 3 = .ok (.istore_n 3, 1) := by decide +kernel
theorem dX1_howManyOf_4 : decode cX1_howManyOf 4 = .ok (.iload_n 3, 1) := by decide +kernel
theorem dX1_howManyOf_5 : decode cX1_howManyOf 5 = .ok (.aload_n 0, 1) := by decide +kernel
theorem dX1_howManyOf_6 : decode cX1_howManyOf 6 = .ok (.getfield 16, 3) := by decide +kernel
theorem dX1_howManyOf_9 : decode cX1_howManyOf 9 = .ok (.if_icmp .ge 24, 3) := by decide +kernel
theorem dX1_howManyOf_12 : decode cX1_howManyOf 12 = .ok (.aload_n 0, 1) := by decide +kernel
theorem dX1_howManyOf_13 : decode cX1_howManyOf 13 = .ok (.getfield 13, 3) := by decide +kernel
theorem dX1_howManyOf_16 : decode cX1_howManyOf 16 = .ok (.iconst 4, 1) := by decide +kernel
theorem dX1_howManyOf_17 : decode cX1_howManyOf 17 = .ok (.aaload, 1) := by decide +kernel
theorem dX1_howManyOf_18 : decode cX1_howManyOf 18 = .ok (.iload_n 3, 1) := by decide +kernel
theorem dX1_howManyOf_19 : decode cX1_howManyOf 19 = .ok (.iaload, 1) := by decide +kernel
theorem dX1_howManyOf_20 : decode cX1_howManyOf 20 = .ok (.iload_n 1, 1) := by decide +kernel
theorem dX1_howManyOf_21 : decode cX1_howManyOf 21 = .ok (.if_icmp .ne 6, 3) := by decide +kernel
theorem dX1_howManyOf_24 : decode cX1_howManyOf 24 = .ok (.iinc 2 1, 3) := by decide +kernel
theorem dX1_howManyOf_27 : decode cX1_howManyOf 27 = .ok (.iinc 3 1, 3) := by decide +kernel
theorem dX1_howManyOf_30 : decode cX1_howManyOf 30 = .ok (.goto (-26), 3) := by decide +kernel
theorem dX1_howManyOf_33 : decode cX1_howManyOf 33 = .ok (.iload_n 2, 1) := by decide +kernel
theorem dX1_howManyOf_34 : decode cX1_howManyOf 34 = .ok (.ireturn, 1) := by decide +kernel
theorem dX1_firstBeginOf_0 : decode cX1_firstBeginOf 0 = .ok (.iconst 0, 1) := by decide +kernel
theorem dX1_firstBeginOf_1 : decode cX1_firstBeginOf 1 = .ok (.istore_n 2, 1) := by decide +kernel
theorem dX1_firstBeginOf_2 : decode cX1_firstBeginOf 2 = .ok (.iload_n 2, 1) := by decide +kernel
theorem dX1_firstBeginOf_3 : decode cX1_firstBeginOf 3 = .ok (.aload_n 0, 1) := by decide +kernel
theorem dX1_firstBeginOf_4 : decode cX1_firstBeginOf 4 = .ok (.getfield 16, 3) := by decide +kernel
theorem dX1_firstBeginOf_7 : decode cX1_firstBeginOf 7 = .ok (.if_icmp .ge 30, 3) := by decide +kernel
theorem dX1_firstBeginOf_10 : decode cX1_firstBeginOf 10 = .ok (.aload_n 0, 1) := by decide +kernel
theorem dX1_firstBeginOf_11 : decode cX1_firstBeginOf 11 = .ok (.getfield 13, 3) := by decide +kernel
theorem dX1_firstBeginOf_14 : decode cX1_firstBeginOf 14 = .ok (.iconst 4, 1) := by decide +kernel
theorem dX1_firstBeginOf_15 : decode cX1_firstBeginOf 15 = .ok (.aaload, 1) := by decide +kernel
theorem dX1_firstBeginOf_16 : decode cX1_firstBeginOf 16 = .ok (.iload_n 2, 1) := by decide +kernel
theorem dX1_firstBeginOf_17 : decode cX1_firstBeginOf 17 = .ok (.iaload, 1) := by decide +kernel
theorem dX1_firstBeginOf_18 : decode cX1_firstBeginOf 18 = .ok (.iload_n 1, 1) := by decide +kernel
theorem dX1_firstBeginOf_19 : decode cX1_firstBeginOf 19 = .ok (.if_icmp .ne 12, 3) := by decide +kernel
theorem dX1_firstBeginOf_22 : decode cX1_firstBeginOf 22 = .ok (.aload_n 0, 1) := by decide +kernel
theorem dX1_firstBeginOf_23 : decode cX1_firstBeginOf 23 = .ok (.getfield 13, 3) := by decide +kernel
theorem dX1_firstBeginOf_26 : decode cX1_firstBeginOf 26 = .ok (.iconst 0, 1) := by decide +kernel
theorem dX1_firstBeginOf_27 : decode cX1_firstBeginOf 27 = .ok (.aaload, 1) := by decide +kernel
theorem dX1_firstBeginOf_28 : decode cX1_firstBeginOf 28 = .ok (.iload_n 2, 1) := by decide +kernel
theorem dX1_firstBeginOf_29 : decode cX1_firstBeginOf 29 = .ok (.iaload, 1) := by decide +kernel
theorem dX1_firstBeginOf_30 : decode cX1_firstBeginOf 30 = .ok (.ireturn, 1) := by decide +kernel
theorem dX1_firstBeginOf_31 : decode cX1_firstBeginOf 31 = .ok (.iinc 2 1, 3) := by decide +kernel
theorem dX1_firstBeginOf_34 : decode cX1_firstBeginOf 34 = .ok (.goto (-32), 3) := by decide +kernel
theorem dX1_firstBeginOf_37 : decode cX1_firstBeginOf 37 = .ok (.iconst (-1), 1) := by decide +kernel
theorem dX1_firstBeginOf_38 : decode cX1_firstBeginOf 38 = .ok (.ireturn, 1) := by decide +kernel
set_option maxRecDepth 20000 in
theorem ggX1_lastEndOf_X1_endOf : GoodIn wsX1_lastEndOf wsX1_endOf := goodIn_r _ [7, 2, 8, 9, 10] (by decide +kernel) (by decide +kernel)
set_option maxRecDepth 20000 in
theorem gX1_lastEndOf_X1_endOf : GoodIn wsX1_lastEndOf (wsV RX1 49 RX1 yX1_endOf wsX1_endOf) := goodIn_app (goodIn_of _ (by decide +kernel)) ggX1_lastEndOf_X1_endOf
theorem dX1_lastEndOf_0 : decode cX1_lastEndOf 0 = .ok (.iconst 0, 1) := by decide +kernel
theorem dX1_lastEndOf_1 : decode cX1_lastEndOf 1 = .ok (.istore_n 2, 1) := by decide +kernel
theorem dX1_lastEndOf_2 : decode cX1_lastEndOf 2 = .ok (.iconst (-1), 1) := by decide +kernel
theorem dX1_lastEndOf_3 : decode cX1_lastEndOf 3 = .ok (.istore_n 3, 1) := by decide +kernel
theorem dX1_lastEndOf_4 : decode cX1_lastEndOf 4 = .ok (.iconst 0, 1) := by decide +kernel
theorem dX1_lastEndOf_5 : decode cX1_lastEndOf 5 = .ok (.istore 4, 2) := by decide +kernel
theorem dX1_lastEndOf_7 : decode cX1_lastEndOf 7 = .ok (.iload 4, 2) := by decide +kernel
theorem dX1_lastEndOf_9 : decode cX1_lastEndOf 9 = .ok (.aload_n 0, 1) := by decide +kernel
theorem dX1_lastEndOf_10 : decode cX1_lastEndOf 10 = .ok (.getfield 16, 3) := by decide +kernel
theorem dX1_lastEndOf_13 : decode cX1_lastEndOf 13 = .ok (.if_icmp .ge 45, 3) := by decide +kernel
theorem dX1_lastEndOf_16 : decode cX1_lastEndOf 16 = .ok (.aload_n 0, 1) := by decide +kernel
theorem dX1_lastEndOf_17 : decode cX1_lastEndOf 17 = .ok (.getfield 13, 3) := by decide +kernel
theorem dX1_lastEndOf_20 : decode cX1_lastEndOf 20 = .ok (.iconst 4, 1) := by decide +kernel
theorem dX1_lastEndOf_21 : decode cX1_lastEndOf 21 = .ok (.aaload, 1) := by decide +kernel
theorem dX1_lastEndOf_22 : decode cX1_lastEndOf 22 = .ok (.iload 4, 2) := by decide +kernel
theorem dX1_lastEndOf_24 : decode cX1_lastEndOf 24 = .ok (.iaload, 1) := by decide +kernel
theorem dX1_lastEndOf_25 : decode cX1_lastEndOf 25 = .ok (.iload_n 1, 1) := by decide +kernel
theorem dX1_lastEndOf_26 : decode cX1_lastEndOf 26 = .ok (.if_icmp .ne 26, 3) := by decide +kernel
theorem dX1_lastEndOf_29 : decode cX1_lastEndOf 29 = .ok (.iload_n 2, 1) := by decide +kernel
theorem dX1_lastEndOf_30 : decode cX1_lastEndOf 30 = .ok (.ifCond .eq 13, 3) := by decide +kernel
theorem dX1_lastEndOf_33 : decode cX1_lastEndOf 33 = .ok (.aload_n 0, 1) := by decide +kernel
theorem dX1_lastEndOf_34 : decode cX1_lastEndOf 34 = .ok (.iload 4, 2) := by decide +kernel
theorem dX1_lastEndOf_36 : decode cX1_lastEndOf 36 = .ok (.invokevirtual 49, 3) := by decide +kernel
theorem dX1_lastEndOf_39 : decode cX1_lastEndOf 39 = .ok (.iload_n 3, 1) := by decide +kernel
theorem dX1_lastEndOf_40 : decode cX1_lastEndOf 40 = .ok (.if_icmp .le 12, 3) := by decide +kernel
theorem dX1_lastEndOf_43 : decode cX1_lastEndOf 43 = .ok (.aload_n 0, 1) := by decide +kernel
theorem dX1_lastEndOf_44 : decode cX1_lastEndOf 44 = .ok (.iload 4, 2) := by decide +kernel
theorem dX1_lastEndOf_46 : decode cX1_lastEndOf 46 = .ok (.invokevirtual 49, 3) := by decide +kernel
theorem dX1_lastEndOf_49 : decode cX1_lastEndOf 49 = .ok (.istore_n 3, 1) := by decide +kernel
theorem dX1_lastEndOf_50 : decode cX1_lastEndOf 50 = .ok (.iconst 1, 1) := by decide +kernel
theorem dX1_lastEndOf_51 : decode cX1_lastEndOf 51 = .ok (.istore_n 2, 1) := by decide +kernel
theorem dX1_lastEndOf_52 : decode cX1_lastEndOf 52 = .ok (.iinc 4 1, 3) := by decide +kernel
theorem dX1_lastEndOf_55 : decode cX1_lastEndOf 55 = .ok (.goto (-48), 3) := by decide +kernel
theorem dX1_lastEndOf_58 : decode cX1_lastEndOf 58 = .ok (.iload_n 3, 1) := by decide +kernel
theorem dX1_lastEndOf_59 : decode cX1_lastEndOf 59 = .ok (.ireturn, 1) := by decide +kernel
theorem dX2_init_0 : decode cX2_init 0 = .ok (.aload_n 0, 1) := by decide +kernel
theorem dX2_init_1 : decode cX2_init 1 = .ok (.invokespecial 3, 3) := by decide +kernel
theorem dX2_init_4 : decode cX2_init 4 = .ok (.aload_n 0, 1) := by decide +kernel
theorem dX2_init_5 : decode cX2_init 5 = .ok (.bipush 12, 2) := by decide +kernel
theorem dX2_init_7 : decode cX2_init 7 = .ok (.newarray .int, 2) := by decide +kernel
theorem dX2_init_9 : decode cX2_init 9 = .ok (.putfield 11, 3) := by decide +kernel
theorem dX2_init_12 : decode cX2_init 12 = .ok (.aload_n 0, 1) := by decide +kernel
theorem dX2_init_13 : decode cX2_init 13 = .ok (.bipush 12, 2) := by decide +kernel
theorem dX2_init_15 : decode cX2_init 15 = .ok (.newarray .int, 2) := by decide +kernel
theorem dX2_init_17 : decode cX2_init 17 = .ok (.putfield 15, 3) := by decide +kernel
theorem dX2_init_20 : decode cX2_init 20 = .ok (.aload_n 0, 1) := by decide +kernel
theorem dX2_init_21 : decode cX2_init 21 = .ok (.bipush 12, 2) := by decide +kernel
theorem dX2_init_23 : decode cX2_init 23 = .ok (.newarray .boolean, 2) := by decide +kernel
theorem dX2_init_25 : decode cX2_init 25 = .ok (.putfield 18, 3) := by decide +kernel
theorem dX2_init_28 : decode cX2_init 28 = .ok (.return_, 1) := by decide +kernel
set_option maxRecDepth 20000 in
theorem ggX2_put_X2_moveUpFrom : GoodIn wsX2_put wsX2_moveUpFrom := goodIn_r _ [9, 1, 2, 3, 4, 10, 11, 12, 13] (by decide +kernel) (by decide +kernel)
set_option maxRecDepth 20000 in
theorem gX2_put_X2_moveUpFrom : GoodIn wsX2_put (wsV RX2 26 RX2 yX2_moveUpFrom wsX2_moveUpFrom) := goodIn_app (goodIn_of _ (by decide +kernel)) ggX2_put_X2_moveUpFrom
theorem dX2_put_0 : decode cX2_put 0 = .ok (.iconst 0, 1) := by decide +kernel
theorem dX2_put_1 : decode cX2_put 1 = .ok (.istore 4, 2) := by decide +kernel
theorem dX2_put_3 : decode cX2_put 3 = .ok (.iload 4, 2) := by decide +kernel
theorem dX2_put_5 : decode cX2_put 5 = .ok (.aload_n 0, 1) := by decide +kernel
theorem dX2_put_6 : decode cX2_put 6 = .ok (.getfield 22, 3) := by decide +kernel
theorem dX2_put_9 : decode cX2_put 9 = .ok (.if_icmp .ge 20, 3) := by decide +kernel
theorem dX2_put_12 : decode cX2_put 12 = .ok (.aload_n 0, 1) := by decide +kernel
theorem dX2_put_13 : decode cX2_put 13 = .ok (.getfield 11, 3) := by decide +kernel
theorem dX2_put_16 : decode cX2_put 16 = .ok (.iload 4, 2) := by decide +kernel
theorem dX2_put_18 : decode cX2_put 18 = .ok (.iaload, 1) := by decide +kernel
theorem dX2_put_19 : decode cX2_put 19 = .ok (.iload_n 1, 1) := by decide +kernel
theorem dX2_put_20 : decode cX2_put 20 = .ok (.if_icmp .ge 9, 3) := by decide +kernel
theorem dX2_put_23 : decode cX2_put 23 = .ok (.iinc 4 1, 3) := by decide +kernel
theorem dX2_put_26 : decode cX2_put 26 = .ok (.goto (-23), 3) := by decide +kernel
theorem dX2_put_29 : decode cX2_put 29 = .ok (.iload 4, 2) := by decide +kernel
theorem dX2_put_31 : decode cX2_put 31 = .ok (.aload_n 0, 1) := by decide +kernel
theorem dX2_put_32 : decode cX2_put 32 = .ok (.getfield 22, 3) := by decide +kernel
theorem dX2_put_35 : decode cX2_put 35 = .ok (.if_icmp .ge 18, 3) := by decide +kernel
theorem dX2_put_38 : decode cX2_put 38 = .ok (.aload_n 0, 1) := by decide +kernel
theorem dX2_put_39 : decode cX2_put 39 = .ok (.getfield 11, 3) := by decide +kernel
theorem dX2_put_42 : decode cX2_put 42 = .ok (.iload 4, 2) := by decide +kernel
theorem dX2_put_44 : decode cX2_put 44 = .ok (.iaload, 1) := by decide +kernel
theorem dX2_put_45 : decode cX2_put 45 = .ok (.iload_n 1, 1) := by decide +kernel
theorem dX2_put_46 : decode cX2_put 46 = .ok (.if_icmp .ne 7, 3) := by decide +kernel
theorem dX2_put_49 : decode cX2_put 49 = .ok (.iconst 1, 1) := by decide +kernel
theorem dX2_put_50 : decode cX2_put 50 = .ok (.goto 4, 3) := by decide +kernel
theorem dX2_put_53 : decode cX2_put 53 = .ok (.iconst 0, 1) := by decide +kernel
theorem dX2_put_54 : decode cX2_put 54 = .ok (.istore 5, 2) := by decide +kernel
theorem dX2_put_56 : decode cX2_put 56 = .ok (.iload 5, 2) := by decide +kernel
theorem dX2_put_58 : decode cX2_put 58 = .ok (.ifCond .ne 16, 3) := by decide +kernel
theorem dX2_put_61 : decode cX2_put 61 = .ok (.aload_n 0, 1) := by decide +kernel
theorem dX2_put_62 : decode cX2_put 62 = .ok (.getfield 22, 3) := by decide +kernel
theorem dX2_put_65 : decode cX2_put 65 = .ok (.bipush 12, 2) := by decide +kernel
theorem dX2_put_67 : decode cX2_put 67 = .ok (.if_icmp .lt 7, 3) := by decide +kernel
theorem dX2_put_70 : decode cX2_put 70 = .ok (.sipush (-1004), 3) := by decide +kernel
theorem dX2_put_73 : decode cX2_put 73 = .ok (.ireturn, 1) := by decide +kernel
theorem dX2_put_74 : decode cX2_put 74 = .ok (.iload 5, 2) := by decide +kernel
theorem dX2_put_76 : decode cX2_put 76 = .ok (.ifCond .ne 9, 3) := by decide +kernel
theorem dX2_put_79 : decode cX2_put 79 = .ok (.aload_n 0, 1) := by decide +kernel
theorem dX2_put_80 : decode cX2_put 80 = .ok (.iload 4, 2) := by decide +kernel
theorem dX2_put_82 : decode cX2_put 82 = .ok (.invokevirtual 26, 3) := by decide +kernel
theorem dX2_put_85 : decode cX2_put 85 = .ok (.aload_n 0, 1) := by decide +kernel
theorem dX2_put_86 : decode cX2_put 86 = .ok (.getfield 11, 3) := by decide +kernel
theorem dX2_put_89 : decode cX2_put 89 = .ok (.iload 4, 2) := by decide +kernel
theorem dX2_put_91 : decode cX2_put 91 = .ok (.iload_n 1, 1) := by decide +kernel
theorem dX2_put_92 : decode cX2_put 92 = .ok (.iastore, 1) := by decide +kernel
theorem dX2_put_93 : decode cX2_put 93 = .ok (.aload_n 0, 1) := by decide +kernel
theorem dX2_put_94 : decode cX2_put 94 = .ok (.getfield 15, 3) := by decide +kernel
theorem dX2_put_97 : decode cX2_put 97 = .ok (.iload 4, 2) := by decide +kernel
theorem dX2_put_99 : decode cX2_put 99 = .ok (.iload_n 2, 1) := by decide +kernel
theorem dX2_put_100 : decode cX2_put 100 = .ok (.iastore, 1) := by decide +kernel
theorem dX2_put_101 : decode cX2_put 101 = .ok (.aload_n 0, 1) := by decide +kernel
theorem dX2_put_102 : decode cX2_put 102 = .ok (.getfield 18, 3) := by decide +kernel
theorem dX2_put_105 : decode cX2_put 105 = .ok (.iload 4, 2) := by decide +kernel
theorem dX2_put_107 : decode cX2_put 107 = .ok (.iload_n 3, 1) := by decide +kernel
theorem dX2_put_108 : decode cX2_put 108 = .ok (.bastore, 1) := by decide +kernel
theorem dX2_put_109 : decode cX2_put 109 = .ok (.aload_n 0, 1) := by decide +kernel
theorem dX2_put_110 : decode cX2_put 110 = .ok (.getfield 22, 3) := by decide +kernel
theorem dX2_put_113 : decode cX2_put 113 = .ok (.ireturn, 1) := by decide +kernel
theorem dX2_moveUpFrom_0 : decode cX2_moveUpFrom 0 = .ok (.aload_n 0, 1) := by decide +kernel
theorem dX2_moveUpFrom_1 : decode cX2_moveUpFrom 1 = .ok (.getfield 22, 3) := by decide +kernel
theorem dX2_moveUpFrom_4 : decode cX2_moveUpFrom 4 = .ok (.istore_n 2, 1) := by decide +kernel
theorem dX2_moveUpFrom_5 : decode cX2_moveUpFrom 5 = .ok (.iload_n 2, 1) := by decide +kernel
theorem dX2_moveUpFrom_6 : decode cX2_moveUpFrom 6 = .ok (.iload_n 1, 1) := by decide +kernel
theorem dX2_moveUpFrom_7 : decode cX2_moveUpFrom 7 = .ok (.if_icmp .le 51, 3) := by decide +kernel
theorem dX2_moveUpFrom_10 : decode cX2_moveUpFrom 10 = .ok (.aload_n 0, 1) := by decide +kernel
theorem dX2_moveUpFrom_11 : decode cX2_moveUpFrom 11 = .ok (.getfield 11, 3) := by decide +kernel
theorem dX2_moveUpFrom_14 : decode cX2_moveUpFrom 14 = .ok (.iload_n 2, 1) := by decide +kernel
theorem dX2_moveUpFrom_15 : decode cX2_moveUpFrom 15 = .ok (.aload_n 0, 1) := by decide +kernel
theorem dX2_moveUpFrom_16 : decode cX2_moveUpFrom 16 = .ok (.getfield 11, 3) := by decide +kernel
theorem dX2_moveUpFrom_19 : decode cX2_moveUpFrom 19 = .ok (.iload_n 2, 1) := by decide +kernel
theorem dX2_moveUpFrom_20 : decode cX2_moveUpFrom 20 = .ok (.iconst 1, 1) := by decide +kernel
theorem dX2_moveUpFrom_21 : decode cX2_moveUpFrom 21 = .ok (.isub, 1) := by decide +kernel
theorem dX2_moveUpFrom_22 : decode cX2_moveUpFrom 22 = .ok (.iaload, 1) := by decide +kernel
theorem dX2_moveUpFrom_23 : decode cX2_moveUpFrom 23 = .ok (.iastore, 1) := by decide +kernel
theorem dX2_moveUpFrom_24 : decode cX2_moveUpFrom 24 = .ok (.aload_n 0, 1) := by decide +kernel
theorem dX2_moveUpFrom_25 : decode cX2_moveUpFrom 25 = .ok (.getfield 15, 3) := by decide +kernel
theorem dX2_moveUpFrom_28 : decode cX2_moveUpFrom 28 = .ok (.iload_n 2, 1) := by decide +kernel
theorem dX2_moveUpFrom_29 : decode cX2_moveUpFrom 29 = .ok (.aload_n 0, 1) := by decide +kernel
theorem dX2_moveUpFrom_30 : decode cX2_moveUpFrom 30 = .ok (.getfield 15, 3) := by decide +kernel
theorem dX2_moveUpFrom_33 : decode cX2_moveUpFrom 33 = .ok (.iload_n 2, 1) := by decide +kernel
theorem dX2_moveUpFrom_34 : decode cX2_moveUpFrom 34 = .ok (.iconst 1, 1) := by decide +kernel
theorem dX2_moveUpFrom_35 : decode cX2_moveUpFrom 35 = .ok (.isub, 1) := by decide +kernel
theorem dX2_moveUpFrom_36 : decode cX2_moveUpFrom 36 = .ok (.iaload, 1) := by decide +kernel
theorem dX2_moveUpFrom_37 : decode cX2_moveUpFrom 37 = .ok (.iastore, 1) := by decide +kernel
theorem dX2_moveUpFrom_38 : decode cX2_moveUpFrom 38 = .ok (.aload_n 0, 1) := by decide +kernel
theorem dX2_moveUpFrom_39 : decode cX2_moveUpFrom 39 = .ok (.getfield 18, 3) := by decide +kernel
theorem dX2_moveUpFrom_42 : decode cX2_moveUpFrom 42 = .ok (.iload_n 2, 1) := by decide +kernel
theorem dX2_moveUpFrom_43 : decode cX2_moveUpFrom 43 = .ok (.aload_n 0, 1) := by decide +kernel
theorem dX2_moveUpFrom_44 : decode cX2_moveUpFrom 44 = .ok (.getfield 18, 3) := by decide +kernel
theorem dX2_moveUpFrom_47 : decode cX2_moveUpFrom 47 = .ok (.iload_n 2, 1) := by decide +kernel
theorem dX2_moveUpFrom_48 : decode cX2_moveUpFrom 48 = .ok (.iconst 1, 1) := by decide +kernel
theorem dX2_moveUpFrom_49 : decode cX2_moveUpFrom 49 = .ok (.isub, 1) := by decide +kernel
theorem dX2_moveUpFrom_50 : decode cX2_moveUpFrom 50 = .ok (.baload, 1) := by decide +kernel
theorem dX2_moveUpFrom_51 : decode cX2_moveUpFrom 51 = .ok (.bastore, 1) := by decide +kernel
theorem dX2_moveUpFrom_52 : decode cX2_moveUpFrom 52 = .ok (.iinc 2 (-1), 3) := by decide +kernel
theorem dX2_moveUpFrom_55 : decode cX2_moveUpFrom 55 = .ok (.goto (-50), 3) := by decide +kernel
theorem dX2_moveUpFrom_58 : decode cX2_moveUpFrom 58 = .ok (.aload_n 0, 1) := by decide +kernel
theorem dX2_moveUpFrom_59 : decode cX2_moveUpFrom 59 = .ok (.dup, 1) := by decide +kernel
theorem dX2_moveUpFrom_60 : decode cX2_moveUpFrom 60 = .ok (.getfield 22, 3) := by decide +kernel
theorem dX2_moveUpFrom_63 : decode cX2_moveUpFrom 63 = .ok (.iconst 1, 1) := by decide +kernel
theorem dX2_moveUpFrom_64 : decode cX2_moveUpFrom 64 = .ok (.iadd, 1) := by decide +kernel
theorem dX2_moveUpFrom_65 : decode cX2_moveUpFrom 65 = .ok (.putfield 22, 3) := by decide +kernel
theorem dX2_moveUpFrom_68 : decode cX2_moveUpFrom 68 = .ok (.return_, 1) := by decide +kernel
set_option maxRecDepth 20000 in
theorem ggX2_at_X11_quotient : GoodIn wsX2_at wsX11_quotient := goodIn_r _ [7, 8, 9, 10, 11] (by decide +kernel) (by decide +kernel)
set_option maxRecDepth 20000 in
theorem gX2_at_X11_quotient_n30 : GoodIn wsX2_at (wsX11_quotient) := ggX2_at_X11_quotient
theorem dX2_at_0 : decode cX2_at 0 = .ok (.iconst 0, 1) := by decide +kernel
theorem dX2_at_1 : decode cX2_at 1 = .ok (.istore_n 2, 1) := by decide +kernel
theorem dX2_at_2 : decode cX2_at 2 = .ok (.iload_n 2, 1) := by decide +kernel
theorem dX2_at_3 : decode cX2_at 3 = .ok (.aload_n 0, 1) := by decide +kernel
theorem dX2_at_4 : decode cX2_at 4 = .ok (.getfield 22, 3) := by decide +kernel
theorem dX2_at_7 : decode cX2_at 7 = .ok (.if_icmp .ge 19, 3) := by decide +kernel
theorem dX2_at_10 : decode cX2_at 10 = .ok (.aload_n 0, 1) := by decide +kernel
theorem dX2_at_11 : decode cX2_at 11 = .ok (.getfield 11, 3) := by decide +kernel
theorem dX2_at_14 : decode cX2_at 14 = .ok (.iload_n 2, 1) := by decide +kernel
theorem dX2_at_15 : decode cX2_at 15 = .ok (.iaload, 1) := by decide +kernel
theorem dX2_at_16 : decode cX2_at 16 = .ok (.iload_n 1, 1) := by decide +kernel
theorem dX2_at_17 : decode cX2_at 17 = .ok (.if_icmp .gt 9, 3) := by decide +kernel
theorem dX2_at_20 : decode cX2_at 20 = .ok (.iinc 2 1, 3) := by decide +kernel
theorem dX2_at_23 : decode cX2_at 23 = .ok (.goto (-21), 3) := by decide +kernel
theorem dX2_at_26 : decode cX2_at 26 = .ok (.iload_n 2, 1) := by decide +kernel
theorem dX2_at_27 : decode cX2_at 27 = .ok (.ifCond .ne 6, 3) := by decide +kernel
theorem dX2_at_30 : decode cX2_at 30 = .ok (.bipush 64, 2) := by decide +kernel
theorem dX2_at_32 : decode cX2_at 32 = .ok (.ireturn, 1) := by decide +kernel
theorem dX2_at_33 : decode cX2_at 33 = .ok (.iload_n 2, 1) := by decide +kernel
theorem dX2_at_34 : decode cX2_at 34 = .ok (.iconst 1, 1) := by decide +kernel
theorem dX2_at_35 : decode cX2_at 35 = .ok (.isub, 1) := by decide +kernel
theorem dX2_at_36 : decode cX2_at 36 = .ok (.istore_n 3, 1) := by decide +kernel
theorem dX2_at_37 : decode cX2_at 37 = .ok (.iload_n 2, 1) := by decide +kernel
theorem dX2_at_38 : decode cX2_at 38 = .ok (.aload_n 0, 1) := by decide +kernel
theorem dX2_at_39 : decode cX2_at 39 = .ok (.getfield 22, 3) := by decide +kernel
theorem dX2_at_42 : decode cX2_at 42 = .ok (.if_icmp .eq 12, 3) := by decide +kernel
theorem dX2_at_45 : decode cX2_at 45 = .ok (.aload_n 0, 1) := by decide +kernel
theorem dX2_at_46 : decode cX2_at 46 = .ok (.getfield 18, 3) := by decide +kernel
theorem dX2_at_49 : decode cX2_at 49 = .ok (.iload_n 2, 1) := by decide +kernel
theorem dX2_at_50 : decode cX2_at 50 = .ok (.baload, 1) := by decide +kernel
theorem dX2_at_51 : decode cX2_at 51 = .ok (.ifCond .ne 10, 3) := by decide +kernel
theorem dX2_at_54 : decode cX2_at 54 = .ok (.aload_n 0, 1) := by decide +kernel
theorem dX2_at_55 : decode cX2_at 55 = .ok (.getfield 15, 3) := by decide +kernel
theorem dX2_at_58 : decode cX2_at 58 = .ok (.iload_n 3, 1) := by decide +kernel
theorem dX2_at_59 : decode cX2_at 59 = .ok (.iaload, 1) := by decide +kernel
theorem dX2_at_60 : decode cX2_at 60 = .ok (.ireturn, 1) := by decide +kernel
theorem dX2_at_61 : decode cX2_at 61 = .ok (.aload_n 0, 1) := by decide +kernel
theorem dX2_at_62 : decode cX2_at 62 = .ok (.getfield 15, 3) := by decide +kernel
theorem dX2_at_65 : decode cX2_at 65 = .ok (.iload_n 2, 1) := by decide +kernel
theorem dX2_at_66 : decode cX2_at 66 = .ok (.iaload, 1) := by decide +kernel
theorem dX2_at_67 : decode cX2_at 67 = .ok (.aload_n 0, 1) := by decide +kernel
theorem dX2_at_68 : decode cX2_at 68 = .ok (.getfield 15, 3) := by decide +kernel
theorem dX2_at_71 : decode cX2_at 71 = .ok (.iload_n 3, 1) := by decide +kernel
theorem dX2_at_72 : decode cX2_at 72 = .ok (.iaload, 1) := by decide +kernel
theorem dX2_at_73 : decode cX2_at 73 = .ok (.isub, 1) := by decide +kernel
theorem dX2_at_74 : decode cX2_at 74 = .ok (.i2l, 1) := by decide +kernel
theorem dX2_at_75 : decode cX2_at 75 = .ok (.iload_n 1, 1) := by decide +kernel
theorem dX2_at_76 : decode cX2_at 76 = .ok (.aload_n 0, 1) := by decide +kernel
theorem dX2_at_77 : decode cX2_at 77 = .ok (.getfield 11, 3) := by decide +kernel
theorem dX2_at_80 : decode cX2_at 80 = .ok (.iload_n 3, 1) := by decide +kernel
theorem dX2_at_81 : decode cX2_at 81 = .ok (.iaload, 1) := by decide +kernel
theorem dX2_at_82 : decode cX2_at 82 = .ok (.isub, 1) := by decide +kernel
theorem dX2_at_83 : decode cX2_at 83 = .ok (.i2l, 1) := by decide +kernel
theorem dX2_at_84 : decode cX2_at 84 = .ok (.lmul, 1) := by decide +kernel
theorem dX2_at_85 : decode cX2_at 85 = .ok (.lstore 4, 2) := by decide +kernel
theorem dX2_at_87 : decode cX2_at 87 = .ok (.aload_n 0, 1) := by decide +kernel
theorem dX2_at_88 : decode cX2_at 88 = .ok (.getfield 15, 3) := by decide +kernel
theorem dX2_at_91 : decode cX2_at 91 = .ok (.iload_n 3, 1) := by decide +kernel
theorem dX2_at_92 : decode cX2_at 92 = .ok (.iaload, 1) := by decide +kernel
theorem dX2_at_93 : decode cX2_at 93 = .ok (.lload 4, 2) := by decide +kernel
theorem dX2_at_95 : decode cX2_at 95 = .ok (.aload_n 0, 1) := by decide +kernel
theorem dX2_at_96 : decode cX2_at 96 = .ok (.getfield 11, 3) := by decide +kernel
theorem dX2_at_99 : decode cX2_at 99 = .ok (.iload_n 2, 1) := by decide +kernel
theorem dX2_at_100 : decode cX2_at 100 = .ok (.iaload, 1) := by decide +kernel
theorem dX2_at_101 : decode cX2_at 101 = .ok (.aload_n 0, 1) := by decide +kernel
theorem dX2_at_102 : decode cX2_at 102 = .ok (.getfield 11, 3) := by decide +kernel
theorem dX2_at_105 : decode cX2_at 105 = .ok (.iload_n 3, 1) := by decide +kernel
theorem dX2_at_106 : decode cX2_at 106 = .ok (.iaload, 1) := by decide +kernel
theorem dX2_at_107 : decode cX2_at 107 = .ok (.isub, 1) := by decide +kernel
theorem dX2_at_108 : decode cX2_at 108 = .ok (.i2l, 1) := by decide +kernel
theorem dX2_at_109 : decode cX2_at 109 = .ok (.invokestatic 30, 3) := by decide +kernel
theorem dX2_at_112 : decode cX2_at 112 = .ok (.iadd, 1) := by decide +kernel
theorem dX2_at_113 : decode cX2_at 113 = .ok (.ireturn, 1) := by decide +kernel
set_option maxRecDepth 20000 in
theorem ggX3_has_X11_isWithin : GoodIn wsX3_has wsX11_isWithin := goodIn_r _ [3] (by decide +kernel) (by decide +kernel)
set_option maxRecDepth 20000 in
theorem gX3_has_X11_isWithin_n9 : GoodIn wsX3_has (wsX11_isWithin) := ggX3_has_X11_isWithin
theorem dX3_has_0 : decode cX3_has 0 = .ok (.iload_n 0, 1) := by decide +kernel
theorem dX3_has_1 : decode cX3_has 1 = .ok (.iconst 0, 1) := by decide +kernel
theorem dX3_has_2 : decode cX3_has 2 = .ok (.bipush 12, 2) := by decide +kernel
theorem dX3_has_4 : decode cX3_has 4 = .ok (.invokestatic 9, 3) := by decide +kernel
theorem dX3_has_7 : decode cX3_has 7 = .ok (.ireturn, 1) := by decide +kernel
theorem dX3_wordOf_0 : decode cX3_wordOf 0 = .ok (.iload_n 0, 1) := by decide +kernel
theorem dX3_wordOf_1 : decode cX3_wordOf 1 = .ok (.tableswitch 106 0 12 #[67, 70, 73, 76, 79, 82, 85, 88, 91, 94, 97, 100, 103], 67) := by decide +kernel
theorem dX3_wordOf_68 : decode cX3_wordOf 68 = .ok (.ldc 15, 2) := by decide +kernel
theorem dX3_wordOf_70 : decode cX3_wordOf 70 = .ok (.areturn, 1) := by decide +kernel
theorem dX3_wordOf_71 : decode cX3_wordOf 71 = .ok (.ldc 17, 2) := by decide +kernel
theorem dX3_wordOf_73 : decode cX3_wordOf 73 = .ok (.areturn, 1) := by decide +kernel
theorem dX3_wordOf_74 : decode cX3_wordOf 74 = .ok (.ldc 19, 2) := by decide +kernel
theorem dX3_wordOf_76 : decode cX3_wordOf 76 = .ok (.areturn, 1) := by decide +kernel
theorem dX3_wordOf_77 : decode cX3_wordOf 77 = .ok (.ldc 21, 2) := by decide +kernel
theorem dX3_wordOf_79 : decode cX3_wordOf 79 = .ok (.areturn, 1) := by decide +kernel
theorem dX3_wordOf_80 : decode cX3_wordOf 80 = .ok (.ldc 23, 2) := by decide +kernel
theorem dX3_wordOf_82 : decode cX3_wordOf 82 = .ok (.areturn, 1) := by decide +kernel
theorem dX3_wordOf_83 : decode cX3_wordOf 83 = .ok (.ldc 25, 2) := by decide +kernel
theorem dX3_wordOf_85 : decode cX3_wordOf 85 = .ok (.areturn, 1) := by decide +kernel
theorem dX3_wordOf_86 : decode cX3_wordOf 86 = .ok (.ldc 27, 2) := by decide +kernel
theorem dX3_wordOf_88 : decode cX3_wordOf 88 = .ok (.areturn, 1) := by decide +kernel
theorem dX3_wordOf_89 : decode cX3_wordOf 89 = .ok (.ldc 29, 2) := by decide +kernel
theorem dX3_wordOf_91 : decode cX3_wordOf 91 = .ok (.areturn, 1) := by decide +kernel
theorem dX3_wordOf_92 : decode cX3_wordOf 92 = .ok (.ldc 31, 2) := by decide +kernel
theorem dX3_wordOf_94 : decode cX3_wordOf 94 = .ok (.areturn, 1) := by decide +kernel
theorem dX3_wordOf_95 : decode cX3_wordOf 95 = .ok (.ldc 33, 2) := by decide +kernel
theorem dX3_wordOf_97 : decode cX3_wordOf 97 = .ok (.areturn, 1) := by decide +kernel
theorem dX3_wordOf_98 : decode cX3_wordOf 98 = .ok (.ldc 35, 2) := by decide +kernel
theorem dX3_wordOf_100 : decode cX3_wordOf 100 = .ok (.areturn, 1) := by decide +kernel
theorem dX3_wordOf_101 : decode cX3_wordOf 101 = .ok (.ldc 37, 2) := by decide +kernel
theorem dX3_wordOf_103 : decode cX3_wordOf 103 = .ok (.areturn, 1) := by decide +kernel
theorem dX3_wordOf_104 : decode cX3_wordOf 104 = .ok (.ldc 39, 2) := by decide +kernel
theorem dX3_wordOf_106 : decode cX3_wordOf 106 = .ok (.areturn, 1) := by decide +kernel
theorem dX3_wordOf_107 : decode cX3_wordOf 107 = .ok (.ldc 41, 2) := by decide +kernel
theorem dX3_wordOf_109 : decode cX3_wordOf 109 = .ok (.areturn, 1) := by decide +kernel
theorem dX4_init_0 : decode cX4_init 0 = .ok (.aload_n 0, 1) := by decide +kernel
theorem dX4_init_1 : decode cX4_init 1 = .ok (.invokespecial 3, 3) := by decide +kernel
theorem dX4_init_4 : decode cX4_init 4 = .ok (.aload_n 0, 1) := by decide +kernel
theorem dX4_init_5 : decode cX4_init 5 = .ok (.bipush 48, 2) := by decide +kernel
theorem dX4_init_7 : decode cX4_init 7 = .ok (.newarray .int, 2) := by decide +kernel
theorem dX4_init_9 : decode cX4_init 9 = .ok (.putfield 11, 3) := by decide +kernel
theorem dX4_init_12 : decode cX4_init 12 = .ok (.aload_n 0, 1) := by decide +kernel
theorem dX4_init_13 : decode cX4_init 13 = .ok (.bipush 48, 2) := by decide +kernel
theorem dX4_init_15 : decode cX4_init 15 = .ok (.newarray .int, 2) := by decide +kernel
theorem dX4_init_17 : decode cX4_init 17 = .ok (.putfield 15, 3) := by decide +kernel
theorem dX4_init_20 : decode cX4_init 20 = .ok (.aload_n 0, 1) := by decide +kernel
theorem dX4_init_21 : decode cX4_init 21 = .ok (.bipush 48, 2) := by decide +kernel
theorem dX4_init_23 : decode cX4_init 23 = .ok (.newarray .int, 2) := by decide +kernel
theorem dX4_init_25 : decode cX4_init 25 = .ok (.putfield 18, 3) := by decide +kernel
theorem dX4_init_28 : decode cX4_init 28 = .ok (.aload_n 0, 1) := by decide +kernel
theorem dX4_init_29 : decode cX4_init 29 = .ok (.bipush 48, 2) := by decide +kernel
theorem dX4_init_31 : decode cX4_init 31 = .ok (.newarray .int, 2) := by decide +kernel
theorem dX4_init_33 : decode cX4_init 33 = .ok (.putfield 21, 3) := by decide +kernel
theorem dX4_init_36 : decode cX4_init 36 = .ok (.aload_n 0, 1) := by decide +kernel
theorem dX4_init_37 : decode cX4_init 37 = .ok (.bipush 48, 2) := by decide +kernel
theorem dX4_init_39 : decode cX4_init 39 = .ok (.newarray .int, 2) := by decide +kernel
theorem dX4_init_41 : decode cX4_init 41 = .ok (.putfield 24, 3) := by decide +kernel
theorem dX4_init_44 : decode cX4_init 44 = .ok (.return_, 1) := by decide +kernel
set_option maxRecDepth 20000 in
theorem ggX4_has_X11_isWithin : GoodIn wsX4_has wsX11_isWithin := goodIn_r _ [4] (by decide +kernel) (by decide +kernel)
set_option maxRecDepth 20000 in
theorem gX4_has_X11_isWithin_n31 : GoodIn wsX4_has (wsX11_isWithin) := ggX4_has_X11_isWithin
theorem dX4_has_0 : decode cX4_has 0 = .ok (.iload_n 1, 1) := by decide +kernel
theorem dX4_has_1 : decode cX4_has 1 = .ok (.iconst 0, 1) := by decide +kernel
theorem dX4_has_2 : decode cX4_has 2 = .ok (.aload_n 0, 1) := by decide +kernel
theorem dX4_has_3 : decode cX4_has 3 = .ok (.getfield 27, 3) := by decide +kernel
theorem dX4_has_6 : decode cX4_has 6 = .ok (.iconst 1, 1) := by decide +kernel
theorem dX4_has_7 : decode cX4_has 7 = .ok (.isub, 1) := by decide +kernel
theorem dX4_has_8 : decode cX4_has 8 = .ok (.invokestatic 31, 3) := by decide +kernel
theorem dX4_has_11 : decode cX4_has 11 = .ok (.ireturn, 1) := by decide +kernel
theorem dX4_add_0 : decode cX4_add 0 = .ok (.aload_n 0, 1) := by decide +kernel
theorem dX4_add_1 : decode cX4_add 1 = .ok (.getfield 27, 3) := by decide +kernel
theorem dX4_add_4 : decode cX4_add 4 = .ok (.bipush 48, 2) := by decide +kernel
theorem dX4_add_6 : decode cX4_add 6 = .ok (.if_icmp .lt 7, 3) := by decide +kernel
theorem dX4_add_9 : decode cX4_add 9 = .ok (.sipush (-1004), 3) := by decide +kernel
theorem dX4_add_12 : decode cX4_add 12 = .ok (.ireturn, 1) := by decide +kernel
theorem dX4_add_13 : decode cX4_add 13 = .ok (.aload_n 0, 1) := by decide +kernel
theorem dX4_add_14 : decode cX4_add 14 = .ok (.getfield 11, 3) := by decide +kernel
theorem dX4_add_17 : decode cX4_add 17 = .ok (.aload_n 0, 1) := by decide +kernel
theorem dX4_add_18 : decode cX4_add 18 = .ok (.getfield 27, 3) := by decide +kernel
theorem dX4_add_21 : decode cX4_add 21 = .ok (.iload_n 1, 1) := by decide +kernel
theorem dX4_add_22 : decode cX4_add 22 = .ok (.iastore, 1) := by decide +kernel
theorem dX4_add_23 : decode cX4_add 23 = .ok (.aload_n 0, 1) := by decide +kernel
theorem dX4_add_24 : decode cX4_add 24 = .ok (.getfield 15, 3) := by decide +kernel
theorem dX4_add_27 : decode cX4_add 27 = .ok (.aload_n 0, 1) := by decide +kernel
theorem dX4_add_28 : decode cX4_add 28 = .ok (.getfield 27, 3) := by decide +kernel
theorem dX4_add_31 : decode cX4_add 31 = .ok (.iload_n 2, 1) := by decide +kernel
theorem dX4_add_32 : decode cX4_add 32 = .ok (.iastore, 1) := by decide +kernel
theorem dX4_add_33 : decode cX4_add 33 = .ok (.aload_n 0, 1) := by decide +kernel
theorem dX4_add_34 : decode cX4_add 34 = .ok (.getfield 18, 3) := by decide +kernel
theorem dX4_add_37 : decode cX4_add 37 = .ok (.aload_n 0, 1) := by decide +kernel
theorem dX4_add_38 : decode cX4_add 38 = .ok (.getfield 27, 3) := by decide +kernel
theorem dX4_add_41 : decode cX4_add 41 = .ok (.iload_n 3, 1) := by decide +kernel
theorem dX4_add_42 : decode cX4_add 42 = .ok (.iastore, 1) := by decide +kernel
theorem dX4_add_43 : decode cX4_add 43 = .ok (.aload_n 0, 1) := by decide +kernel
theorem dX4_add_44 : decode cX4_add 44 = .ok (.getfield 21, 3) := by decide +kernel
theorem dX4_add_47 : decode cX4_add 47 = .ok (.aload_n 0, 1) := by decide +kernel
theorem dX4_add_48 : decode cX4_add 48 = .ok (.getfield 27, 3) := by decide +kernel
theorem dX4_add_51 : decode cX4_add 51 = .ok (.iload 4, 2) := by decide +kernel
theorem dX4_add_53 : decode cX4_add 53 = .ok (.iastore, 1) := by decide +kernel
theorem dX4_add_54 : decode cX4_add 54 = .ok (.aload_n 0, 1) := by decide +kernel
theorem dX4_add_55 : decode cX4_add 55 = .ok (.getfield 24, 3) := by decide +kernel
theorem dX4_add_58 : decode cX4_add 58 = .ok (.aload_n 0, 1) := by decide +kernel
theorem dX4_add_59 : decode cX4_add 59 = .ok (.getfield 27, 3) := by decide +kernel
theorem dX4_add_62 : decode cX4_add 62 = .ok (.iload 5, 2) := by decide +kernel
theorem dX4_add_64 : decode cX4_add 64 = .ok (.iastore, 1) := by decide +kernel
theorem dX4_add_65 : decode cX4_add 65 = .ok (.aload_n 0, 1) := by decide +kernel
theorem dX4_add_66 : decode cX4_add 66 = .ok (.dup, 1) := by decide +kernel
theorem dX4_add_67 : decode cX4_add 67 = .ok (.getfield 27, 3) := by decide +kernel
theorem dX4_add_70 : decode cX4_add 70 = .ok (.iconst 1, 1) := by decide +kernel
theorem dX4_add_71 : decode cX4_add 71 = .ok (.iadd, 1) := by decide +kernel
theorem dX4_add_72 : decode cX4_add 72 = .ok (.putfield 27, 3) := by decide +kernel
theorem dX4_add_75 : decode cX4_add 75 = .ok (.aload_n 0, 1) := by decide +kernel
theorem dX4_add_76 : decode cX4_add 76 = .ok (.getfield 27, 3) := by decide +kernel
theorem dX4_add_79 : decode cX4_add 79 = .ok (.iconst 1, 1) := by decide +kernel
theorem dX4_add_80 : decode cX4_add 80 = .ok (.isub, 1) := by decide +kernel
theorem dX4_add_81 : decode cX4_add 81 = .ok (.ireturn, 1) := by decide +kernel
theorem dX4_changeMarks_0 : decode cX4_changeMarks 0 = .ok (.aload_n 0, 1) := by decide +kernel
theorem dX4_changeMarks_1 : decode cX4_changeMarks 1 = .ok (.getfield 24, 3) := by decide +kernel
theorem dX4_changeMarks_4 : decode cX4_changeMarks 4 = .ok (.iload_n 1, 1) := by decide +kernel
theorem dX4_changeMarks_5 : decode cX4_changeMarks 5 = .ok (.iaload, 1) := by decide +kernel
theorem dX4_changeMarks_6 : decode cX4_changeMarks 6 = .ok (.istore_n 3, 1) := by decide +kernel
theorem dX4_changeMarks_7 : decode cX4_changeMarks 7 = .ok (.aload_n 0, 1) := by decide +kernel
theorem dX4_changeMarks_8 : decode cX4_changeMarks 8 = .ok (.getfield 24, 3) := by decide +kernel
theorem dX4_changeMarks_11 : decode cX4_changeMarks 11 = .ok (.iload_n 1, 1) := by decide +kernel
theorem dX4_changeMarks_12 : decode cX4_changeMarks 12 = .ok (.iload_n 2, 1) := by decide +kernel
theorem dX4_changeMarks_13 : decode cX4_changeMarks 13 = .ok (.iastore, 1) := by decide +kernel
theorem dX4_changeMarks_14 : decode cX4_changeMarks 14 = .ok (.iload_n 3, 1) := by decide +kernel
theorem dX4_changeMarks_15 : decode cX4_changeMarks 15 = .ok (.ireturn, 1) := by decide +kernel
set_option maxRecDepth 20000 in
theorem ggX4_rolledAhead_X4_isInChord : GoodIn wsX4_rolledAhead wsX4_isInChord := goodIn_r _ [6, 7, 8, 9, 15, 16, 17, 18, 19, 20] (by decide +kernel) (by decide +kernel)
set_option maxRecDepth 20000 in
theorem gX4_rolledAhead_X4_isInChord : GoodIn wsX4_rolledAhead (wsV RX4 35 RX4 yX4_isInChord wsX4_isInChord) := goodIn_app (goodIn_of _ (by decide +kernel)) ggX4_rolledAhead_X4_isInChord
set_option maxRecDepth 20000 in
theorem ggX4_rolledAhead_X4_isLower : GoodIn wsX4_rolledAhead wsX4_isLower := goodIn_r _ [13, 14, 15, 16, 17, 18, 19, 20] (by decide +kernel) (by decide +kernel)
set_option maxRecDepth 20000 in
theorem gX4_rolledAhead_X4_isLower : GoodIn wsX4_rolledAhead (wsV RX4 39 RX4 yX4_isLower wsX4_isLower) := goodIn_app (goodIn_of _ (by decide +kernel)) ggX4_rolledAhead_X4_isLower
theorem dX4_rolledAhead_0 : decode cX4_rolledAhead 0 = .ok (.iconst 0, 1) := by decide +kernel
theorem dX4_rolledAhead_1 : decode cX4_rolledAhead 1 = .ok (.istore_n 2, 1) := by decide +kernel
theorem dX4_rolledAhead_2 : decode cX4_rolledAhead 2 = .ok (.iconst 0, 1) := by decide +kernel
theorem dX4_rolledAhead_3 : decode cX4_rolledAhead 3 = .ok (.istore_n 3, 1) := by decide +kernel
theorem dX4_rolledAhead_4 : decode cX4_rolledAhead 4 = .ok (.iload_n 3, 1) := by decide +kernel
theorem dX4_rolledAhead_5 : decode cX4_rolledAhead 5 = .ok (.aload_n 0, 1) := by decide +kernel
theorem dX4_rolledAhead_6 : decode cX4_rolledAhead 6 = .ok (.getfield 27, 3) := by decide +kernel
theorem dX4_rolledAhead_9 : decode cX4_rolledAhead 9 = .ok (.if_icmp .ge 30, 3) := by decide +kernel
theorem dX4_rolledAhead_12 : decode cX4_rolledAhead 12 = .ok (.aload_n 0, 1) := by decide +kernel
theorem dX4_rolledAhead_13 : decode cX4_rolledAhead 13 = .ok (.iload_n 3, 1) := by decide +kernel
theorem dX4_rolledAhead_14 : decode cX4_rolledAhead 14 = .ok (.iload_n 1, 1) := by decide +kernel
theorem dX4_rolledAhead_15 : decode cX4_rolledAhead 15 = .ok (.invokevirtual 35, 3) := by decide +kernel
theorem dX4_rolledAhead_18 : decode cX4_rolledAhead 18 = .ok (.ifCond .eq 15, 3) := by decide +kernel
theorem dX4_rolledAhead_21 : decode cX4_rolledAhead 21 = .ok (.aload_n 0, 1) := by decide +kernel
theorem dX4_rolledAhead_22 : decode cX4_rolledAhead 22 = .ok (.iload_n 3, 1) := by decide +kernel
theorem dX4_rolledAhead_23 : decode cX4_rolledAhead 23 = .ok (.iload_n 1, 1) := by decide +kernel
theorem dX4_rolledAhead_24 : decode cX4_rolledAhead 24 = .ok (.invokevirtual 39, 3) := by decide +kernel
theorem dX4_rolledAhead_27 : decode cX4_rolledAhead 27 = .ok (.ifCond .eq 6, 3) := by decide +kernel
theorem dX4_rolledAhead_30 : decode cX4_rolledAhead 30 = .ok (.iinc 2 1, 3) := by decide +kernel
theorem dX4_rolledAhead_33 : decode cX4_rolledAhead 33 = .ok (.iinc 3 1, 3) := by decide +kernel
theorem dX4_rolledAhead_36 : decode cX4_rolledAhead 36 = .ok (.goto (-32), 3) := by decide +kernel
theorem dX4_rolledAhead_39 : decode cX4_rolledAhead 39 = .ok (.iload_n 2, 1) := by decide +kernel
theorem dX4_rolledAhead_40 : decode cX4_rolledAhead 40 = .ok (.ireturn, 1) := by decide +kernel
theorem dX4_isInChord_0 : decode cX4_isInChord 0 = .ok (.aload_n 0, 1) := by decide +kernel
theorem dX4_isInChord_1 : decode cX4_isInChord 1 = .ok (.getfield 24, 3) := by decide +kernel
theorem dX4_isInChord_4 : decode cX4_isInChord 4 = .ok (.iload_n 1, 1) := by decide +kernel
theorem dX4_isInChord_5 : decode cX4_isInChord 5 = .ok (.iaload, 1) := by decide +kernel
theorem dX4_isInChord_6 : decode cX4_isInChord 6 = .ok (.bipush 64, 2) := by decide +kernel
theorem dX4_isInChord_8 : decode cX4_isInChord 8 = .ok (.iand, 1) := by decide +kernel
theorem dX4_isInChord_9 : decode cX4_isInChord 9 = .ok (.ifCond .eq 7, 3) := by decide +kernel
theorem dX4_isInChord_12 : decode cX4_isInChord 12 = .ok (.iconst 1, 1) := by decide +kernel
theorem dX4_isInChord_13 : decode cX4_isInChord 13 = .ok (.goto 4, 3) := by decide +kernel
theorem dX4_isInChord_16 : decode cX4_isInChord 16 = .ok (.iconst 0, 1) := by decide +kernel
theorem dX4_isInChord_17 : decode cX4_isInChord 17 = .ok (.istore_n 3, 1) := by decide +kernel
theorem dX4_isInChord_18 : decode cX4_isInChord 18 = .ok (.iload_n 3, 1) := by decide +kernel
theorem dX4_isInChord_19 : decode cX4_isInChord 19 = .ok (.ifCond .eq 37, 3) := by decide +kernel
theorem dX4_isInChord_22 : decode cX4_isInChord 22 = .ok (.aload_n 0, 1) := by decide +kernel
theorem dX4_isInChord_23 : decode cX4_isInChord 23 = .ok (.getfield 11, 3) := by decide +kernel
theorem dX4_isInChord_26 : decode cX4_isInChord 26 = .ok (.iload_n 1, 1) := by decide +kernel
theorem dX4_isInChord_27 : decode cX4_isInChord 27 = .ok (.iaload, 1) := by decide +kernel
theorem dX4_isInChord_28 : decode cX4_isInChord 28 = .ok (.aload_n 0, 1) := by decide +kernel
theorem dX4_isInChord_29 : decode cX4_isInChord 29 = .ok (.getfield 11, 3) := by decide +kernel
theorem dX4_isInChord_32 : decode cX4_isInChord 32 = .ok (.iload_n 2, 1) := by decide +kernel
theorem dX4_isInChord_33 : decode cX4_isInChord 33 = .ok (.iaload, 1) := by decide +kernel
theorem dX4_isInChord_34 : decode cX4_isInChord 34 = .ok (.if_icmp .ne 22, 3) := by decide +kernel
theorem dX4_isInChord_37 : decode cX4_isInChord 37 = .ok (.aload_n 0, 1) := by decide +kernel
theorem dX4_isInChord_38 : decode cX4_isInChord 38 = .ok (.getfield 15, 3) := by decide +kernel
theorem dX4_isInChord_41 : decode cX4_isInChord 41 = .ok (.iload_n 1, 1) := by decide +kernel
theorem dX4_isInChord_42 : decode cX4_isInChord 42 = .ok (.iaload, 1) := by decide +kernel
theorem dX4_isInChord_43 : decode cX4_isInChord 43 = .ok (.aload_n 0, 1) := by decide +kernel
theorem dX4_isInChord_44 : decode cX4_isInChord 44 = .ok (.getfield 15, 3) := by decide +kernel
theorem dX4_isInChord_47 : decode cX4_isInChord 47 = .ok (.iload_n 2, 1) := by decide +kernel
theorem dX4_isInChord_48 : decode cX4_isInChord 48 = .ok (.iaload, 1) := by decide +kernel
theorem dX4_isInChord_49 : decode cX4_isInChord 49 = .ok (.if_icmp .ne 7, 3) := by decide +kernel
theorem dX4_isInChord_52 : decode cX4_isInChord 52 = .ok (.iconst 1, 1) := by decide +kernel
theorem dX4_isInChord_53 : decode cX4_isInChord 53 = .ok (.goto 4, 3) := by decide +kernel
theorem dX4_isInChord_56 : decode cX4_isInChord 56 = .ok (.iconst 0, 1) := by decide +kernel
theorem dX4_isInChord_57 : decode cX4_isInChord 57 = .ok (.ireturn, 1) := by decide +kernel
theorem dX4_isLower_0 : decode cX4_isLower 0 = .ok (.aload_n 0, 1) := by decide +kernel
theorem dX4_isLower_1 : decode cX4_isLower 1 = .ok (.getfield 21, 3) := by decide +kernel
theorem dX4_isLower_4 : decode cX4_isLower 4 = .ok (.iload_n 1, 1) := by decide +kernel
theorem dX4_isLower_5 : decode cX4_isLower 5 = .ok (.iaload, 1) := by decide +kernel
theorem dX4_isLower_6 : decode cX4_isLower 6 = .ok (.aload_n 0, 1) := by decide +kernel
theorem dX4_isLower_7 : decode cX4_isLower 7 = .ok (.getfield 21, 3) := by decide +kernel
theorem dX4_isLower_10 : decode cX4_isLower 10 = .ok (.iload_n 2, 1) := by decide +kernel
theorem dX4_isLower_11 : decode cX4_isLower 11 = .ok (.iaload, 1) := by decide +kernel
theorem dX4_isLower_12 : decode cX4_isLower 12 = .ok (.if_icmp .lt 23, 3) := by decide +kernel
theorem dX4_isLower_15 : decode cX4_isLower 15 = .ok (.aload_n 0, 1) := by decide +kernel
theorem dX4_isLower_16 : decode cX4_isLower 16 = .ok (.getfield 21, 3) := by decide +kernel
theorem dX4_isLower_19 : decode cX4_isLower 19 = .ok (.iload_n 1, 1) := by decide +kernel
theorem dX4_isLower_20 : decode cX4_isLower 20 = .ok (.iaload, 1) := by decide +kernel
theorem dX4_isLower_21 : decode cX4_isLower 21 = .ok (.aload_n 0, 1) := by decide +kernel
theorem dX4_isLower_22 : decode cX4_isLower 22 = .ok (.getfield 21, 3) := by decide +kernel
theorem dX4_isLower_25 : decode cX4_isLower 25 = .ok (.iload_n 2, 1) := by decide +kernel
theorem dX4_isLower_26 : decode cX4_isLower 26 = .ok (.iaload, 1) := by decide +kernel
theorem dX4_isLower_27 : decode cX4_isLower 27 = .ok (.if_icmp .ne 12, 3) := by decide +kernel
theorem dX4_isLower_30 : decode cX4_isLower 30 = .ok (.iload_n 1, 1) := by decide +kernel
theorem dX4_isLower_31 : decode cX4_isLower 31 = .ok (.iload_n 2, 1) := by decide +kernel
theorem dX4_isLower_32 : decode cX4_isLower 32 = .ok (.if_icmp .ge 7, 3) := by decide +kernel
theorem dX4_isLower_35 : decode cX4_isLower 35 = .ok (.iconst 1, 1) := by decide +kernel
theorem dX4_isLower_36 : decode cX4_isLower 36 = .ok (.goto 4, 3) := by decide +kernel
theorem dX4_isLower_39 : decode cX4_isLower 39 = .ok (.iconst 0, 1) := by decide +kernel
theorem dX4_isLower_40 : decode cX4_isLower 40 = .ok (.ireturn, 1) := by decide +kernel
theorem dX5_init_0 : decode cX5_init 0 = .ok (.aload_n 0, 1) := by decide +kernel
theorem dX5_init_1 : decode cX5_init 1 = .ok (.invokespecial 3, 3) := by decide +kernel
theorem dX5_init_4 : decode cX5_init 4 = .ok (.aload_n 0, 1) := by decide +kernel
theorem dX5_init_5 : decode cX5_init 5 = .ok (.sipush 400, 3) := by decide +kernel
theorem dX5_init_8 : decode cX5_init 8 = .ok (.newarray .long, 2) := by decide +kernel
theorem dX5_init_10 : decode cX5_init 10 = .ok (.putfield 11, 3) := by decide +kernel
theorem dX5_init_13 : decode cX5_init 13 = .ok (.aload_n 0, 1) := by decide +kernel
theorem dX5_init_14 : decode cX5_init 14 = .ok (.sipush 400, 3) := by decide +kernel
theorem dX5_init_17 : decode cX5_init 17 = .ok (.newarray .long, 2) := by decide +kernel
theorem dX5_init_19 : decode cX5_init 19 = .ok (.putfield 17, 3) := by decide +kernel
theorem dX5_init_22 : decode cX5_init 22 = .ok (.return_, 1) := by decide +kernel
set_option maxRecDepth 20000 in
theorem ggX5_sort_X5_keyOf : GoodIn wsX5_sort wsX5_keyOf := goodIn_r _ [10, 11, 12, 13, 18, 19, 20] (by decide +kernel) (by decide +kernel)
set_option maxRecDepth 20000 in
theorem gX5_sort_X5_keyOf : GoodIn wsX5_sort (va_wsS RX5 24 yX5_keyOf wsX5_keyOf) := goodIn_app (goodIn_of _ (by decide +kernel)) ggX5_sort_X5_keyOf
set_option maxRecDepth 20000 in
theorem ggX5_sort_X5_merge : GoodIn wsX5_sort wsX5_merge := goodIn_r _ [17, 1, 6, 21, 22] (by decide +kernel) (by decide +kernel)
set_option maxRecDepth 20000 in
theorem gX5_sort_X5_merge : GoodIn wsX5_sort (wsV RX5 34 RX5 yX5_merge wsX5_merge) := goodIn_app (goodIn_of _ (by decide +kernel)) ggX5_sort_X5_merge
theorem dX5_sort_0 : decode cX5_sort 0 = .ok (.aload_n 1, 1) := by decide +kernel
theorem dX5_sort_1 : decode cX5_sort 1 = .ok (.getfield 20, 3) := by decide +kernel
theorem dX5_sort_4 : decode cX5_sort 4 = .ok (.istore_n 2, 1) := by decide +kernel
theorem dX5_sort_5 : decode cX5_sort 5 = .ok (.iconst 0, 1) := by decide +kernel
theorem dX5_sort_6 : decode cX5_sort 6 = .ok (.istore_n 3, 1) := by decide +kernel
theorem dX5_sort_7 : decode cX5_sort 7 = .ok (.iload_n 3, 1) := by decide +kernel
theorem dX5_sort_8 : decode cX5_sort 8 = .ok (.iload_n 2, 1) := by decide +kernel
theorem dX5_sort_9 : decode cX5_sort 9 = .ok (.if_icmp .ge 20, 3) := by decide +kernel
theorem dX5_sort_12 : decode cX5_sort 12 = .ok (.aload_n 0, 1) := by decide +kernel
theorem dX5_sort_13 : decode cX5_sort 13 = .ok (.getfield 11, 3) := by decide +kernel
theorem dX5_sort_16 : decode cX5_sort 16 = .ok (.iload_n 3, 1) := by decide +kernel
theorem dX5_sort_17 : decode cX5_sort 17 = .ok (.aload_n 1, 1) := by decide +kernel
theorem dX5_sort_18 : decode cX5_sort 18 = .ok (.iload_n 3, 1) := by decide +kernel
theorem dX5_sort_19 : decode cX5_sort 19 = .ok (.invokestatic 24, 3) := by decide +kernel
theorem dX5_sort_22 : decode cX5_sort 22 = .ok (.lastore, 1) := by decide +kernel
theorem dX5_sort_23 : decode cX5_sort 23 = .ok (.iinc 3 1, 3) := by decide +kernel
theorem dX5_sort_26 : decode cX5_sort 26 = .ok (.goto (-19), 3) := by decide +kernel
theorem dX5_sort_29 : decode cX5_sort 29 = .ok (.iconst 1, 1) := by decide +kernel
theorem dX5_sort_30 : decode cX5_sort 30 = .ok (.istore_n 3, 1) := by decide +kernel
theorem dX5_sort_31 : decode cX5_sort 31 = .ok (.iload_n 3, 1) := by decide +kernel
theorem dX5_sort_32 : decode cX5_sort 32 = .ok (.iload_n 2, 1) := by decide +kernel
theorem dX5_sort_33 : decode cX5_sort 33 = .ok (.if_icmp .ge 74, 3) := by decide +kernel
theorem dX5_sort_36 : decode cX5_sort 36 = .ok (.iconst 0, 1) := by decide +kernel
theorem dX5_sort_37 : decode cX5_sort 37 = .ok (.istore 4, 2) := by decide +kernel
theorem dX5_sort_39 : decode cX5_sort 39 = .ok (.iload 4, 2) := by decide +kernel
theorem dX5_sort_41 : decode cX5_sort 41 = .ok (.iload_n 2, 1) := by decide +kernel
theorem dX5_sort_42 : decode cX5_sort 42 = .ok (.if_icmp .ge 38, 3) := by decide +kernel
theorem dX5_sort_45 : decode cX5_sort 45 = .ok (.aload_n 0, 1) := by decide +kernel
theorem dX5_sort_46 : decode cX5_sort 46 = .ok (.iload 4, 2) := by decide +kernel
theorem dX5_sort_48 : decode cX5_sort 48 = .ok (.iload 4, 2) := by decide +kernel
theorem dX5_sort_50 : decode cX5_sort 50 = .ok (.iload_n 3, 1) := by decide +kernel
theorem dX5_sort_51 : decode cX5_sort 51 = .ok (.iadd, 1) := by decide +kernel
theorem dX5_sort_52 : decode cX5_sort 52 = .ok (.iload_n 2, 1) := by decide +kernel
theorem dX5_sort_53 : decode cX5_sort 53 = .ok (.invokestatic 28, 3) := by decide +kernel
theorem dX5_sort_56 : decode cX5_sort 56 = .ok (.iload 4, 2) := by decide +kernel
theorem dX5_sort_58 : decode cX5_sort 58 = .ok (.iconst 2, 1) := by decide +kernel
theorem dX5_sort_59 : decode cX5_sort 59 = .ok (.iload_n 3, 1) := by decide +kernel
theorem dX5_sort_60 : decode cX5_sort 60 = .ok (.imul, 1) := by decide +kernel
theorem dX5_sort_61 : decode cX5_sort 61 = .ok (.iadd, 1) := by decide +kernel
theorem dX5_sort_62 : decode cX5_sort 62 = .ok (.iload_n 2, 1) := by decide +kernel
theorem dX5_sort_63 : decode cX5_sort 63 = .ok (.invokestatic 28, 3) := by decide +kernel
theorem dX5_sort_66 : decode cX5_sort 66 = .ok (.invokevirtual 34, 3) := by decide +kernel
theorem dX5_sort_69 : decode cX5_sort 69 = .ok (.iload 4, 2) := by decide +kernel
theorem dX5_sort_71 : decode cX5_sort 71 = .ok (.iconst 2, 1) := by decide +kernel
theorem dX5_sort_72 : decode cX5_sort 72 = .ok (.iload_n 3, 1) := by decide +kernel
theorem dX5_sort_73 : decode cX5_sort 73 = .ok (.imul, 1) := by decide +kernel
theorem dX5_sort_74 : decode cX5_sort 74 = .ok (.iadd, 1) := by decide +kernel
theorem dX5_sort_75 : decode cX5_sort 75 = .ok (.istore 4, 2) := by decide +kernel
theorem dX5_sort_77 : decode cX5_sort 77 = .ok (.goto (-38), 3) := by decide +kernel
theorem dX5_sort_80 : decode cX5_sort 80 = .ok (.aload_n 0, 1) := by decide +kernel
theorem dX5_sort_81 : decode cX5_sort 81 = .ok (.getfield 17, 3) := by decide +kernel
theorem dX5_sort_84 : decode cX5_sort 84 = .ok (.astore 4, 2) := by decide +kernel
theorem dX5_sort_86 : decode cX5_sort 86 = .ok (.aload_n 0, 1) := by decide +kernel
theorem dX5_sort_87 : decode cX5_sort 87 = .ok (.aload_n 0, 1) := by decide +kernel
theorem dX5_sort_88 : decode cX5_sort 88 = .ok (.getfield 11, 3) := by decide +kernel
theorem dX5_sort_91 : decode cX5_sort 91 = .ok (.putfield 17, 3) := by decide +kernel
theorem dX5_sort_94 : decode cX5_sort 94 = .ok (.aload_n 0, 1) := by decide +kernel
theorem dX5_sort_95 : decode cX5_sort 95 = .ok (.aload 4, 2) := by decide +kernel
theorem dX5_sort_97 : decode cX5_sort 97 = .ok (.putfield 11, 3) := by decide +kernel
theorem dX5_sort_100 : decode cX5_sort 100 = .ok (.iload_n 3, 1) := by decide +kernel
theorem dX5_sort_101 : decode cX5_sort 101 = .ok (.iconst 2, 1) := by decide +kernel
theorem dX5_sort_102 : decode cX5_sort 102 = .ok (.imul, 1) := by decide +kernel
theorem dX5_sort_103 : decode cX5_sort 103 = .ok (.istore_n 3, 1) := by decide +kernel
theorem dX5_sort_104 : decode cX5_sort 104 = .ok (.goto (-73), 3) := by decide +kernel
theorem dX5_sort_107 : decode cX5_sort 107 = .ok (.return_, 1) := by decide +kernel
theorem dX5_keyOf_0 : decode cX5_keyOf 0 = .ok (.aload_n 0, 1) := by decide +kernel
theorem dX5_keyOf_1 : decode cX5_keyOf 1 = .ok (.getfield 38, 3) := by decide +kernel
theorem dX5_keyOf_4 : decode cX5_keyOf 4 = .ok (.iconst 0, 1) := by decide +kernel
theorem dX5_keyOf_5 : decode cX5_keyOf 5 = .ok (.aaload, 1) := by decide +kernel
theorem dX5_keyOf_6 : decode cX5_keyOf 6 = .ok (.iload_n 1, 1) := by decide +kernel
theorem dX5_keyOf_7 : decode cX5_keyOf 7 = .ok (.iaload, 1) := by decide +kernel
theorem dX5_keyOf_8 : decode cX5_keyOf 8 = .ok (.i2l, 1) := by decide +kernel
theorem dX5_keyOf_9 : decode cX5_keyOf 9 = .ok (.lstore_n 2, 1) := by decide +kernel
theorem dX5_keyOf_10 : decode cX5_keyOf 10 = .ok (.lload_n 2, 1) := by decide +kernel
theorem dX5_keyOf_11 : decode cX5_keyOf 11 = .ok (.ldc2_w 42, 3) := by decide +kernel
theorem dX5_keyOf_14 : decode cX5_keyOf 14 = .ok (.lmul, 1) := by decide +kernel
theorem dX5_keyOf_15 : decode cX5_keyOf 15 = .ok (.aload_n 0, 1) := by decide +kernel
theorem dX5_keyOf_16 : decode cX5_keyOf 16 = .ok (.getfield 38, 3) := by decide +kernel
theorem dX5_keyOf_19 : decode cX5_keyOf 19 = .ok (.bipush 6, 2) := by decide +kernel
theorem dX5_keyOf_21 : decode cX5_keyOf 21 = .ok (.aaload, 1) := by decide +kernel
theorem dX5_keyOf_22 : decode cX5_keyOf 22 = .ok (.iload_n 1, 1) := by decide +kernel
theorem dX5_keyOf_23 : decode cX5_keyOf 23 = .ok (.iaload, 1) := by decide +kernel
theorem dX5_keyOf_24 : decode cX5_keyOf 24 = .ok (.i2l, 1) := by decide +kernel
theorem dX5_keyOf_25 : decode cX5_keyOf 25 = .ok (.ladd, 1) := by decide +kernel
theorem dX5_keyOf_26 : decode cX5_keyOf 26 = .ok (.lstore_n 2, 1) := by decide +kernel
theorem dX5_keyOf_27 : decode cX5_keyOf 27 = .ok (.lload_n 2, 1) := by decide +kernel
theorem dX5_keyOf_28 : decode cX5_keyOf 28 = .ok (.ldc2_w 44, 3) := by decide +kernel
theorem dX5_keyOf_31 : decode cX5_keyOf 31 = .ok (.lmul, 1) := by decide +kernel
theorem dX5_keyOf_32 : decode cX5_keyOf 32 = .ok (.aload_n 0, 1) := by decide +kernel
theorem dX5_keyOf_33 : decode cX5_keyOf 33 = .ok (.getfield 38, 3) := by decide +kernel
theorem dX5_keyOf_36 : decode cX5_keyOf 36 = .ok (.iconst 2, 1) := by decide +kernel
theorem dX5_keyOf_37 : decode cX5_keyOf 37 = .ok (.aaload, 1) := by decide +kernel
theorem dX5_keyOf_38 : decode cX5_keyOf 38 = .ok (.iload_n 1, 1) := by decide +kernel
theorem dX5_keyOf_39 : decode cX5_keyOf 39 = .ok (.iaload, 1) := by decide +kernel
theorem dX5_keyOf_40 : decode cX5_keyOf 40 = .ok (.i2l, 1) := by decide +kernel
theorem dX5_keyOf_41 : decode cX5_keyOf 41 = .ok (.ladd, 1) := by decide +kernel
theorem dX5_keyOf_42 : decode cX5_keyOf 42 = .ok (.lstore_n 2, 1) := by decide +kernel
theorem dX5_keyOf_43 : decode cX5_keyOf 43 = .ok (.lload_n 2, 1) := by decide +kernel
theorem dX5_keyOf_44 : decode cX5_keyOf 44 = .ok (.ldc2_w 46, 3) := by decide +kernel
theorem dX5_keyOf_47 : decode cX5_keyOf 47 = .ok (.lmul, 1) := by decide +kernel
theorem dX5_keyOf_48 : decode cX5_keyOf 48 = .ok (.iload_n 1, 1) := by decide +kernel
theorem dX5_keyOf_49 : decode cX5_keyOf 49 = .ok (.i2l, 1) := by decide +kernel
theorem dX5_keyOf_50 : decode cX5_keyOf 50 = .ok (.ladd, 1) := by decide +kernel
theorem dX5_keyOf_51 : decode cX5_keyOf 51 = .ok (.lreturn, 1) := by decide +kernel
theorem dX5_merge_0 : decode cX5_merge 0 = .ok (.iload_n 1, 1) := by decide +kernel
theorem dX5_merge_1 : decode cX5_merge 1 = .ok (.istore 4, 2) := by decide +kernel
theorem dX5_merge_3 : decode cX5_merge 3 = .ok (.iload_n 2, 1) := by decide +kernel
theorem dX5_merge_4 : decode cX5_merge 4 = .ok (.istore 5, 2) := by decide +kernel
theorem dX5_merge_6 : decode cX5_merge 6 = .ok (.iload_n 1, 1) := by decide +kernel
theorem dX5_merge_7 : decode cX5_merge 7 = .ok (.istore 6, 2) := by decide +kernel
theorem dX5_merge_9 : decode cX5_merge 9 = .ok (.iload 6, 2) := by decide +kernel
theorem dX5_merge_11 : decode cX5_merge 11 = .ok (.iload_n 3, 1) := by decide +kernel
theorem dX5_merge_12 : decode cX5_merge 12 = .ok (.if_icmp .ge 76, 3) := by decide +kernel
theorem dX5_merge_15 : decode cX5_merge 15 = .ok (.iload 4, 2) := by decide +kernel
theorem dX5_merge_17 : decode cX5_merge 17 = .ok (.iload_n 2, 1) := by decide +kernel
theorem dX5_merge_18 : decode cX5_merge 18 = .ok (.if_icmp .ge 47, 3) := by decide +kernel
theorem dX5_merge_21 : decode cX5_merge 21 = .ok (.iload 5, 2) := by decide +kernel
theorem dX5_merge_23 : decode cX5_merge 23 = .ok (.iload_n 3, 1) := by decide +kernel
theorem dX5_merge_24 : decode cX5_merge 24 = .ok (.if_icmp .ge 21, 3) := by decide +kernel
theorem dX5_merge_27 : decode cX5_merge 27 = .ok (.aload_n 0, 1) := by decide +kernel
theorem dX5_merge_28 : decode cX5_merge 28 = .ok (.getfield 11, 3) := by decide +kernel
theorem dX5_merge_31 : decode cX5_merge 31 = .ok (.iload 4, 2) := by decide +kernel
theorem dX5_merge_33 : decode cX5_merge 33 = .ok (.laload, 1) := by decide +kernel
theorem dX5_merge_34 : decode cX5_merge 34 = .ok (.aload_n 0, 1) := by decide +kernel
theorem dX5_merge_35 : decode cX5_merge 35 = .ok (.getfield 11, 3) := by decide +kernel
theorem dX5_merge_38 : decode cX5_merge 38 = .ok (.iload 5, 2) := by decide +kernel
theorem dX5_merge_40 : decode cX5_merge 40 = .ok (.laload, 1) := by decide +kernel
theorem dX5_merge_41 : decode cX5_merge 41 = .ok (.lcmp, 1) := by decide +kernel
theorem dX5_merge_42 : decode cX5_merge 42 = .ok (.ifCond .ge 23, 3) := by decide +kernel
theorem dX5_merge_45 : decode cX5_merge 45 = .ok (.aload_n 0, 1) := by decide +kernel
theorem dX5_merge_46 : decode cX5_merge 46 = .ok (.getfield 17, 3) := by decide +kernel
theorem dX5_merge_49 : decode cX5_merge 49 = .ok (.iload 6, 2) := by decide +kernel
theorem dX5_merge_51 : decode cX5_merge 51 = .ok (.aload_n 0, 1) := by decide +kernel
theorem dX5_merge_52 : decode cX5_merge 52 = .ok (.getfield 11, 3) := by decide +kernel
theorem dX5_merge_55 : decode cX5_merge 55 = .ok (.iload 4, 2) := by decide +kernel
theorem dX5_merge_57 : decode cX5_merge 57 = .ok (.laload, 1) := by decide +kernel
theorem dX5_merge_58 : decode cX5_merge 58 = .ok (.lastore, 1) := by decide +kernel
theorem dX5_merge_59 : decode cX5_merge 59 = .ok (.iinc 4 1, 3) := by decide +kernel
theorem dX5_merge_62 : decode cX5_merge 62 = .ok (.goto 20, 3) := by decide +kernel
theorem dX5_merge_65 : decode cX5_merge 65 = .ok (.aload_n 0, 1) := by decide +kernel
theorem dX5_merge_66 : decode cX5_merge 66 = .ok (.getfield 17, 3) := by decide +kernel
theorem dX5_merge_69 : decode cX5_merge 69 = .ok (.iload 6, 2) := by decide +kernel
theorem dX5_merge_71 : decode cX5_merge 71 = .ok (.aload_n 0, 1) := by decide +kernel
theorem dX5_merge_72 : decode cX5_merge 72 = .ok (.getfield 11, 3) := by decide +kernel
theorem dX5_merge_75 : decode cX5_merge 75 = .ok (.iload 5, 2) := by decide +kernel
theorem dX5_merge_77 : decode cX5_merge 77 = .ok (.laload, 1) := by decide +kernel
theorem dX5_merge_78 : decode cX5_merge 78 = .ok (.lastore, 1) := by decide +kernel
theorem dX5_merge_79 : decode cX5_merge 79 = .ok (.iinc 5 1, 3) := by decide +kernel
theorem dX5_merge_82 : decode cX5_merge 82 = .ok (.iinc 6 1, 3) := by decide +kernel
theorem dX5_merge_85 : decode cX5_merge 85 = .ok (.goto (-76), 3) := by decide +kernel
theorem dX5_merge_88 : decode cX5_merge 88 = .ok (.return_, 1) := by decide +kernel
set_option maxRecDepth 20000 in
theorem ggX5_partAt_J9_floorMod_1978a : GoodIn wsX5_partAt wsJ9_floorMod_1978a := goodIn_r _ [5, 6, 7, 4, 8] (by decide +kernel) (by decide +kernel)
set_option maxRecDepth 20000 in
theorem gX5_partAt_J9_floorMod_1978a : GoodIn wsX5_partAt (va_wsS RX5 48 yJ9_floorMod_1978a wsJ9_floorMod_1978a) := goodIn_app (goodIn_of _ (by decide +kernel)) ggX5_partAt_J9_floorMod_1978a
theorem dX5_partAt_0 : decode cX5_partAt 0 = .ok (.aload_n 0, 1) := by decide +kernel
theorem dX5_partAt_1 : decode cX5_partAt 1 = .ok (.getfield 11, 3) := by decide +kernel
theorem dX5_partAt_4 : decode cX5_partAt 4 = .ok (.iload_n 1, 1) := by decide +kernel
theorem dX5_partAt_5 : decode cX5_partAt 5 = .ok (.laload, 1) := by decide +kernel
theorem dX5_partAt_6 : decode cX5_partAt 6 = .ok (.sipush 400, 3) := by decide +kernel
theorem dX5_partAt_9 : decode cX5_partAt 9 = .ok (.invokestatic 48, 3) := by decide +kernel
theorem dX5_partAt_12 : decode cX5_partAt 12 = .ok (.ireturn, 1) := by decide +kernel
set_option maxRecDepth 20000 in
theorem ggX6_init_X1_init : GoodIn wsX6_init wsX1_init := goodIn_r _ [9, 10, 2, 3, 11, 12, 13, 14, 15, 16] (by decide +kernel) (by decide +kernel)
set_option maxRecDepth 20000 in
theorem gX6_init_X1_init_n9 : GoodIn wsX6_init (wsX1_init) := ggX6_init_X1_init
theorem dX6_init_0 : decode cX6_init 0 = .ok (.aload_n 0, 1) := by decide +kernel
theorem dX6_init_1 : decode cX6_init 1 = .ok (.invokespecial 1, 3) := by decide +kernel
theorem dX6_init_4 : decode cX6_init 4 = .ok (.aload_n 0, 1) := by decide +kernel
theorem dX6_init_5 : decode cX6_init 5 = .ok (.new 7, 3) := by decide +kernel
theorem dX6_init_8 : decode cX6_init 8 = .ok (.dup, 1) := by decide +kernel
theorem dX6_init_9 : decode cX6_init 9 = .ok (.invokespecial 9, 3) := by decide +kernel
theorem dX6_init_12 : decode cX6_init 12 = .ok (.putfield 10, 3) := by decide +kernel
theorem dX6_init_15 : decode cX6_init 15 = .ok (.return_, 1) := by decide +kernel
set_option maxRecDepth 20000 in
theorem ggX6_makeParts_X1_clear : GoodIn wsX6_makeParts wsX1_clear := goodIn_r _ [9, 10, 11, 161, 162, 163] (by decide +kernel) (by decide +kernel)
set_option maxRecDepth 20000 in
theorem gX6_makeParts_X1_clear : GoodIn wsX6_makeParts (wsV RX6 16 RX1 yX1_clear wsX1_clear) := goodIn_app (goodIn_of _ (by decide +kernel)) ggX6_makeParts_X1_clear
set_option maxRecDepth 20000 in
theorem ggX6_makeParts_X6_takeNote : GoodIn wsX6_makeParts wsX6_takeNote := goodIn_r _ [16, 17, 18, 19, 20, 142, 143, 144, 145, 146, 147, 148, 149, 155, 156, 157, 158, 159, 160] (by decide +kernel) (by decide +kernel)
set_option maxRecDepth 20000 in
theorem gX6_makeParts_X6_takeNote : GoodIn wsX6_makeParts (wsV RX6 35 RX6 yX6_takeNote wsX6_takeNote) := goodIn_app (goodIn_of _ (by decide +kernel)) ggX6_makeParts_X6_takeNote
set_option maxRecDepth 20000 in
theorem ggX6_makeParts_X6_longOf : GoodIn wsX6_makeParts wsX6_longOf := goodIn_r _ [24, 18, 25, 26, 27, 28, 29, 30, 31, 32, 33, 34, 15, 35, 20, 36, 37, 38, 39, 40, 41, 42, 43, 44, 45, 46, 142, 143, 144, 145, 146, 147, 148, 149, 164, 165, 166, 167] (by decide +kernel) (by decide +kernel)
set_option maxRecDepth 20000 in
theorem gX6_makeParts_X6_longOf : GoodIn wsX6_makeParts (wsV RX6 43 RX6 yX6_longOf wsX6_longOf) := goodIn_app (goodIn_of _ (by decide +kernel)) ggX6_makeParts_X6_longOf
set_option maxRecDepth 20000 in
theorem ggX6_makeParts_X6_loudOf : GoodIn wsX6_makeParts wsX6_loudOf := goodIn_r _ [50, 18, 25, 26, 27, 28, 29, 30, 31, 51, 52, 53, 54, 55, 56, 57, 58, 59, 60, 61, 62, 63, 64, 65, 66, 32, 33, 34, 15, 35, 20, 36, 37, 38, 39, 40, 41, 42, 43, 44, 45, 46, 67, 68, 69, 70, 71, 72, 73, 74, 75, 76, 77, 78, 79, 80, 150, 151, 152, 153, 154, 142, 143, 144, 145, 146, 147, 148, 149, 168, 169, 170, 171, 164, 165, 166, 167] (by decide +kernel) (by decide +kernel)
set_option maxRecDepth 20000 in
theorem gX6_makeParts_X6_loudOf : GoodIn wsX6_makeParts (wsV RX6 53 RX6 yX6_loudOf wsX6_loudOf) := goodIn_app (goodIn_of _ (by decide +kernel)) ggX6_makeParts_X6_loudOf
set_option maxRecDepth 20000 in
theorem ggX6_makeParts_X6_onOf : GoodIn wsX6_makeParts wsX6_onOf := goodIn_r _ [84, 18, 29, 30, 27, 31, 36, 37, 38, 39, 40, 41, 42, 43, 44, 45, 46, 85, 86, 87, 15, 88, 17, 89, 90, 91, 92, 93, 65, 94, 142, 143, 144, 145, 146, 147, 148, 149, 164, 165, 166, 167] (by decide +kernel) (by decide +kernel)
set_option maxRecDepth 20000 in
theorem gX6_makeParts_X6_onOf : GoodIn wsX6_makeParts (wsV RX6 60 RX6 yX6_onOf wsX6_onOf) := goodIn_app (goodIn_of _ (by decide +kernel)) ggX6_makeParts_X6_onOf
set_option maxRecDepth 20000 in
theorem ggX6_makeParts_X6_addParts : GoodIn wsX6_makeParts wsX6_addParts := goodIn_r _ [98, 19, 3, 2, 32, 33, 34, 15, 35, 20, 99, 100, 101, 102, 17, 18, 25, 26, 27, 28, 4, 103, 104, 105, 106, 107, 108, 109, 110, 111, 112, 113, 114, 115, 116, 117, 118, 119, 120, 36, 37, 38, 39, 40, 41, 42, 43, 44, 45, 46, 121, 122, 123, 124, 29, 30, 31, 125, 126, 127, 128, 1, 129, 130, 131, 8, 132, 10, 11, 133, 134, 135, 136, 137, 60, 61, 62, 63, 64, 65, 66, 138, 139, 140, 141, 142, 143, 144, 145, 146, 147, 148, 149, 155, 156, 157, 158, 159, 160, 164, 165, 166, 167, 161, 162, 163] (by decide +kernel) (by decide +kernel)
set_option maxRecDepth 20000 in
theorem gX6_makeParts_X6_addParts : GoodIn wsX6_makeParts (wsV RX6 67 RX6 yX6_addParts wsX6_addParts) := goodIn_app (goodIn_of _ (by decide +kernel)) ggX6_makeParts_X6_addParts
theorem dX6_makeParts_0 : decode cX6_makeParts 0 = .ok (.aload_n 0, 1) := by decide +kernel
theorem dX6_makeParts_1 : decode cX6_makeParts 1 = .ok (.getfield 10, 3) := by decide +kernel
theorem dX6_makeParts_4 : decode cX6_makeParts 4 = .ok (.invokevirtual 16, 3) := by decide +kernel
theorem dX6_makeParts_7 : decode cX6_makeParts 7 = .ok (.iconst 0, 1) := by decide +kernel
theorem dX6_makeParts_8 : decode cX6_makeParts 8 = .ok (.istore 5, 2) := by decide +kernel
theorem dX6_makeParts_10 : decode cX6_makeParts 10 = .ok (.iload 5, 2) := by decide +kernel
theorem dX6_makeParts_12 : decode cX6_makeParts 12 = .ok (.aload_n 1, 1) := by decide +kernel
theorem dX6_makeParts_13 : decode cX6_makeParts 13 = .ok (.getfield 19, 3) := by decide +kernel
theorem dX6_makeParts_16 : decode cX6_makeParts 16 = .ok (.getfield 25, 3) := by decide +kernel
theorem dX6_makeParts_19 : decode cX6_makeParts 19 = .ok (.if_icmp .ge 97, 3) := by decide +kernel
theorem dX6_makeParts_22 : decode cX6_makeParts 22 = .ok (.aload_n 0, 1) := by decide +kernel
theorem dX6_makeParts_23 : decode cX6_makeParts 23 = .ok (.getfield 10, 3) := by decide +kernel
theorem dX6_makeParts_26 : decode cX6_makeParts 26 = .ok (.getfield 31, 3) := by decide +kernel
theorem dX6_makeParts_29 : decode cX6_makeParts 29 = .ok (.ifCond .ne 87, 3) := by decide +kernel
theorem dX6_makeParts_32 : decode cX6_makeParts 32 = .ok (.aload_n 0, 1) := by decide +kernel
theorem dX6_makeParts_33 : decode cX6_makeParts 33 = .ok (.aload_n 1, 1) := by decide +kernel
theorem dX6_makeParts_34 : decode cX6_makeParts 34 = .ok (.getfield 19, 3) := by decide +kernel
theorem dX6_makeParts_37 : decode cX6_makeParts 37 = .ok (.iload 5, 2) := by decide +kernel
theorem dX6_makeParts_39 : decode cX6_makeParts 39 = .ok (.invokevirtual 35, 3) := by decide +kernel
theorem dX6_makeParts_42 : decode cX6_makeParts 42 = .ok (.aload_n 0, 1) := by decide +kernel
theorem dX6_makeParts_43 : decode cX6_makeParts 43 = .ok (.aload_n 0, 1) := by decide +kernel
theorem dX6_makeParts_44 : decode cX6_makeParts 44 = .ok (.aload_n 1, 1) := by decide +kernel
theorem dX6_makeParts_45 : decode cX6_makeParts 45 = .ok (.getfield 19, 3) := by decide +kernel
theorem dX6_makeParts_48 : decode cX6_makeParts 48 = .ok (.getfield 39, 3) := by decide +kernel
theorem dX6_makeParts_51 : decode cX6_makeParts 51 = .ok (.iload 5, 2) := by decide +kernel
theorem dX6_makeParts_53 : decode cX6_makeParts 53 = .ok (.iaload, 1) := by decide +kernel
theorem dX6_makeParts_54 : decode cX6_makeParts 54 = .ok (.aload_n 2, 1) := by decide +kernel
theorem dX6_makeParts_55 : decode cX6_makeParts 55 = .ok (.invokevirtual 43, 3) := by decide +kernel
theorem dX6_makeParts_58 : decode cX6_makeParts 58 = .ok (.putfield 47, 3) := by decide +kernel
theorem dX6_makeParts_61 : decode cX6_makeParts 61 = .ok (.aload_n 0, 1) := by decide +kernel
theorem dX6_makeParts_62 : decode cX6_makeParts 62 = .ok (.aload_n 0, 1) := by decide +kernel
theorem dX6_makeParts_63 : decode cX6_makeParts 63 = .ok (.aload_n 1, 1) := by decide +kernel
theorem dX6_makeParts_64 : decode cX6_makeParts 64 = .ok (.aload_n 1, 1) := by decide +kernel
theorem dX6_makeParts_65 : decode cX6_makeParts 65 = .ok (.getfield 19, 3) := by decide +kernel
theorem dX6_makeParts_68 : decode cX6_makeParts 68 = .ok (.getfield 50, 3) := by decide +kernel
theorem dX6_makeParts_71 : decode cX6_makeParts 71 = .ok (.iload 5, 2) := by decide +kernel
theorem dX6_makeParts_73 : decode cX6_makeParts 73 = .ok (.iaload, 1) := by decide +kernel
theorem dX6_makeParts_74 : decode cX6_makeParts 74 = .ok (.aload_n 2, 1) := by decide +kernel
theorem dX6_makeParts_75 : decode cX6_makeParts 75 = .ok (.invokevirtual 53, 3) := by decide +kernel
theorem dX6_makeParts_78 : decode cX6_makeParts 78 = .ok (.putfield 57, 3) := by decide +kernel
theorem dX6_makeParts_81 : decode cX6_makeParts 81 = .ok (.aload_n 0, 1) := by decide +kernel
theorem dX6_makeParts_82 : decode cX6_makeParts 82 = .ok (.aload_n 0, 1) := by decide +kernel
theorem dX6_makeParts_83 : decode cX6_makeParts 83 = .ok (.aload_n 1, 1) := by decide +kernel
theorem dX6_makeParts_84 : decode cX6_makeParts 84 = .ok (.getfield 19, 3) := by decide +kernel
theorem dX6_makeParts_87 : decode cX6_makeParts 87 = .ok (.getfield 50, 3) := by decide +kernel
theorem dX6_makeParts_90 : decode cX6_makeParts 90 = .ok (.iload 5, 2) := by decide +kernel
theorem dX6_makeParts_92 : decode cX6_makeParts 92 = .ok (.iaload, 1) := by decide +kernel
theorem dX6_makeParts_93 : decode cX6_makeParts 93 = .ok (.aload_n 2, 1) := by decide +kernel
theorem dX6_makeParts_94 : decode cX6_makeParts 94 = .ok (.lload_n 3, 1) := by decide +kernel
theorem dX6_makeParts_95 : decode cX6_makeParts 95 = .ok (.invokevirtual 60, 3) := by decide +kernel
theorem dX6_makeParts_98 : decode cX6_makeParts 98 = .ok (.putfield 64, 3) := by decide +kernel
theorem dX6_makeParts_101 : decode cX6_makeParts 101 = .ok (.aload_n 0, 1) := by decide +kernel
theorem dX6_makeParts_102 : decode cX6_makeParts 102 = .ok (.aload_n 1, 1) := by decide +kernel
theorem dX6_makeParts_103 : decode cX6_makeParts 103 = .ok (.getfield 19, 3) := by decide +kernel
theorem dX6_makeParts_106 : decode cX6_makeParts 106 = .ok (.aload_n 2, 1) := by decide +kernel
theorem dX6_makeParts_107 : decode cX6_makeParts 107 = .ok (.invokevirtual 67, 3) := by decide +kernel
theorem dX6_makeParts_110 : decode cX6_makeParts 110 = .ok (.iinc 5 1, 3) := by decide +kernel
theorem dX6_makeParts_113 : decode cX6_makeParts 113 = .ok (.goto (-103), 3) := by decide +kernel
theorem dX6_makeParts_116 : decode cX6_makeParts 116 = .ok (.aload_n 0, 1) := by decide +kernel
theorem dX6_makeParts_117 : decode cX6_makeParts 117 = .ok (.getfield 10, 3) := by decide +kernel
theorem dX6_makeParts_120 : decode cX6_makeParts 120 = .ok (.getfield 31, 3) := by decide +kernel
theorem dX6_makeParts_123 : decode cX6_makeParts 123 = .ok (.ifCond .ne 7, 3) := by decide +kernel
theorem dX6_makeParts_126 : decode cX6_makeParts 126 = .ok (.iconst 1, 1) := by decide +kernel
theorem dX6_makeParts_127 : decode cX6_makeParts 127 = .ok (.goto 4, 3) := by decide +kernel
theorem dX6_makeParts_130 : decode cX6_makeParts 130 = .ok (.iconst 0, 1) := by decide +kernel
theorem dX6_makeParts_131 : decode cX6_makeParts 131 = .ok (.ireturn, 1) := by decide +kernel
theorem dX6_takeNote_0 : decode cX6_takeNote 0 = .ok (.aload_n 0, 1) := by decide +kernel
theorem dX6_takeNote_1 : decode cX6_takeNote 1 = .ok (.iload_n 2, 1) := by decide +kernel
theorem dX6_takeNote_2 : decode cX6_takeNote 2 = .ok (.putfield 71, 3) := by decide +kernel
theorem dX6_takeNote_5 : decode cX6_takeNote 5 = .ok (.aload_n 0, 1) := by decide +kernel
theorem dX6_takeNote_6 : decode cX6_takeNote 6 = .ok (.aload_n 1, 1) := by decide +kernel
theorem dX6_takeNote_7 : decode cX6_takeNote 7 = .ok (.getfield 74, 3) := by decide +kernel
theorem dX6_takeNote_10 : decode cX6_takeNote 10 = .ok (.iload_n 2, 1) := by decide +kernel
theorem dX6_takeNote_11 : decode cX6_takeNote 11 = .ok (.iaload, 1) := by decide +kernel
theorem dX6_takeNote_12 : decode cX6_takeNote 12 = .ok (.putfield 77, 3) := by decide +kernel
theorem dX6_takeNote_15 : decode cX6_takeNote 15 = .ok (.aload_n 0, 1) := by decide +kernel
theorem dX6_takeNote_16 : decode cX6_takeNote 16 = .ok (.aload_n 1, 1) := by decide +kernel
theorem dX6_takeNote_17 : decode cX6_takeNote 17 = .ok (.getfield 80, 3) := by decide +kernel
theorem dX6_takeNote_20 : decode cX6_takeNote 20 = .ok (.iload_n 2, 1) := by decide +kernel
theorem dX6_takeNote_21 : decode cX6_takeNote 21 = .ok (.iaload, 1) := by decide +kernel
theorem dX6_takeNote_22 : decode cX6_takeNote 22 = .ok (.putfield 83, 3) := by decide +kernel
theorem dX6_takeNote_25 : decode cX6_takeNote 25 = .ok (.aload_n 0, 1) := by decide +kernel
theorem dX6_takeNote_26 : decode cX6_takeNote 26 = .ok (.aload_n 1, 1) := by decide +kernel
theorem dX6_takeNote_27 : decode cX6_takeNote 27 = .ok (.getfield 86, 3) := by decide +kernel
theorem dX6_takeNote_30 : decode cX6_takeNote 30 = .ok (.iload_n 2, 1) := by decide +kernel
theorem dX6_takeNote_31 : decode cX6_takeNote 31 = .ok (.iaload, 1) := by decide +kernel
theorem dX6_takeNote_32 : decode cX6_takeNote 32 = .ok (.putfield 89, 3) := by decide +kernel
theorem dX6_takeNote_35 : decode cX6_takeNote 35 = .ok (.return_, 1) := by decide +kernel
theorem dX6_isMarked_0 : decode cX6_isMarked 0 = .ok (.aload_n 0, 1) := by decide +kernel
theorem dX6_isMarked_1 : decode cX6_isMarked 1 = .ok (.getfield 89, 3) := by decide +kernel
theorem dX6_isMarked_4 : decode cX6_isMarked 4 = .ok (.iload_n 1, 1) := by decide +kernel
theorem dX6_isMarked_5 : decode cX6_isMarked 5 = .ok (.iand, 1) := by decide +kernel
theorem dX6_isMarked_6 : decode cX6_isMarked 6 = .ok (.ifCond .eq 7, 3) := by decide +kernel
theorem dX6_isMarked_9 : decode cX6_isMarked 9 = .ok (.iconst 1, 1) := by decide +kernel
theorem dX6_isMarked_10 : decode cX6_isMarked 10 = .ok (.goto 4, 3) := by decide +kernel
theorem dX6_isMarked_13 : decode cX6_isMarked 13 = .ok (.iconst 0, 1) := by decide +kernel
theorem dX6_isMarked_14 : decode cX6_isMarked 14 = .ok (.ireturn, 1) := by decide +kernel
set_option maxRecDepth 20000 in
theorem ggX6_longOf_X6_isMarked : GoodIn wsX6_longOf wsX6_isMarked := goodIn_r _ [13, 14, 26, 27, 28, 29, 30, 31, 32, 33] (by decide +kernel) (by decide +kernel)
set_option maxRecDepth 20000 in
theorem gX6_longOf_X6_isMarked : GoodIn wsX6_longOf (wsV RX6 91 RX6 yX6_isMarked wsX6_isMarked) := goodIn_app (goodIn_of _ (by decide +kernel)) ggX6_longOf_X6_isMarked
set_option maxRecDepth 20000 in
theorem ggX6_longOf_X8_numberFor : GoodIn wsX6_longOf wsX8_numberFor := goodIn_r _ [19, 20, 21, 22, 23, 18, 24, 25, 34, 35, 36, 37] (by decide +kernel) (by decide +kernel)
set_option maxRecDepth 20000 in
theorem gX6_longOf_X8_numberFor : GoodIn wsX6_longOf (wsV RX6 97 RX8 yX8_numberFor wsX8_numberFor) := goodIn_app (goodIn_of _ (by decide +kernel)) ggX6_longOf_X8_numberFor
theorem dX6_longOf_0 : decode cX6_longOf 0 = .ok (.aload_n 0, 1) := by decide +kernel
theorem dX6_longOf_1 : decode cX6_longOf 1 = .ok (.iconst 1, 1) := by decide +kernel
theorem dX6_longOf_2 : decode cX6_longOf 2 = .ok (.invokevirtual 91, 3) := by decide +kernel
theorem dX6_longOf_5 : decode cX6_longOf 5 = .ok (.ifCond .eq 7, 3) := by decide +kernel
theorem dX6_longOf_8 : decode cX6_longOf 8 = .ok (.iconst 0, 1) := by decide +kernel
theorem dX6_longOf_9 : decode cX6_longOf 9 = .ok (.goto 16, 3) := by decide +kernel
theorem dX6_longOf_12 : decode cX6_longOf 12 = .ok (.aload_n 0, 1) := by decide +kernel
theorem dX6_longOf_13 : decode cX6_longOf 13 = .ok (.iconst 2, 1) := by decide +kernel
theorem dX6_longOf_14 : decode cX6_longOf 14 = .ok (.invokevirtual 91, 3) := by decide +kernel
theorem dX6_longOf_17 : decode cX6_longOf 17 = .ok (.ifCond .eq 7, 3) := by decide +kernel
theorem dX6_longOf_20 : decode cX6_longOf 20 = .ok (.iconst 2, 1) := by decide +kernel
theorem dX6_longOf_21 : decode cX6_longOf 21 = .ok (.goto 4, 3) := by decide +kernel
theorem dX6_longOf_24 : decode cX6_longOf 24 = .ok (.iconst 1, 1) := by decide +kernel
theorem dX6_longOf_25 : decode cX6_longOf 25 = .ok (.istore_n 3, 1) := by decide +kernel
theorem dX6_longOf_26 : decode cX6_longOf 26 = .ok (.aload_n 2, 1) := by decide +kernel
theorem dX6_longOf_27 : decode cX6_longOf 27 = .ok (.aload_n 0, 1) := by decide +kernel
theorem dX6_longOf_28 : decode cX6_longOf 28 = .ok (.getfield 77, 3) := by decide +kernel
theorem dX6_longOf_31 : decode cX6_longOf 31 = .ok (.iload_n 3, 1) := by decide +kernel
theorem dX6_longOf_32 : decode cX6_longOf 32 = .ok (.invokevirtual 97, 3) := by decide +kernel
theorem dX6_longOf_35 : decode cX6_longOf 35 = .ok (.istore 4, 2) := by decide +kernel
theorem dX6_longOf_37 : decode cX6_longOf 37 = .ok (.aload_n 2, 1) := by decide +kernel
theorem dX6_longOf_38 : decode cX6_longOf 38 = .ok (.aload_n 0, 1) := by decide +kernel
theorem dX6_longOf_39 : decode cX6_longOf 39 = .ok (.getfield 77, 3) := by decide +kernel
theorem dX6_longOf_42 : decode cX6_longOf 42 = .ok (.iconst 3, 1) := by decide +kernel
theorem dX6_longOf_43 : decode cX6_longOf 43 = .ok (.invokevirtual 97, 3) := by decide +kernel
theorem dX6_longOf_46 : decode cX6_longOf 46 = .ok (.iload_n 1, 1) := by decide +kernel
theorem dX6_longOf_47 : decode cX6_longOf 47 = .ok (.invokestatic 103, 3) := by decide +kernel
theorem dX6_longOf_50 : decode cX6_longOf 50 = .ok (.istore 5, 2) := by decide +kernel
theorem dX6_longOf_52 : decode cX6_longOf 52 = .ok (.iload 5, 2) := by decide +kernel
theorem dX6_longOf_54 : decode cX6_longOf 54 = .ok (.iload_n 1, 1) := by decide +kernel
theorem dX6_longOf_55 : decode cX6_longOf 55 = .ok (.iload 4, 2) := by decide +kernel
theorem dX6_longOf_57 : decode cX6_longOf 57 = .ok (.imul, 1) := by decide +kernel
theorem dX6_longOf_58 : decode cX6_longOf 58 = .ok (.bipush 100, 2) := by decide +kernel
theorem dX6_longOf_60 : decode cX6_longOf 60 = .ok (.idiv, 1) := by decide +kernel
theorem dX6_longOf_61 : decode cX6_longOf 61 = .ok (.invokestatic 108, 3) := by decide +kernel
theorem dX6_longOf_64 : decode cX6_longOf 64 = .ok (.ireturn, 1) := by decide +kernel
set_option maxRecDepth 20000 in
theorem ggX6_loudOf_X2_at : GoodIn wsX6_loudOf wsX2_at := goodIn_r _ [13, 14, 15, 16, 17, 18, 19, 20, 21, 22, 23, 24, 69, 70, 71, 72] (by decide +kernel) (by decide +kernel)
set_option maxRecDepth 20000 in
theorem gX6_loudOf_X2_at : GoodIn wsX6_loudOf (wsV RX6 115 RX2 yX2_at wsX2_at) := goodIn_app (goodIn_of _ (by decide +kernel)) ggX6_loudOf_X2_at
set_option maxRecDepth 20000 in
theorem ggX6_loudOf_X6_isMarked : GoodIn wsX6_loudOf wsX6_isMarked := goodIn_r _ [29, 30, 61, 62, 63, 64, 65, 66, 67, 68] (by decide +kernel) (by decide +kernel)
set_option maxRecDepth 20000 in
theorem gX6_loudOf_X6_isMarked : GoodIn wsX6_loudOf (wsV RX6 91 RX6 yX6_isMarked wsX6_isMarked) := goodIn_app (goodIn_of _ (by decide +kernel)) ggX6_loudOf_X6_isMarked
set_option maxRecDepth 20000 in
theorem ggX6_loudOf_X8_numberFor : GoodIn wsX6_loudOf wsX8_numberFor := goodIn_r _ [35, 36, 37, 38, 39, 34, 40, 41, 73, 74, 75, 76] (by decide +kernel) (by decide +kernel)
set_option maxRecDepth 20000 in
theorem gX6_loudOf_X8_numberFor : GoodIn wsX6_loudOf (wsV RX6 97 RX8 yX8_numberFor wsX8_numberFor) := goodIn_app (goodIn_of _ (by decide +kernel)) ggX6_loudOf_X8_numberFor
set_option maxRecDepth 20000 in
theorem ggX6_loudOf_X9_beginsBar : GoodIn wsX6_loudOf wsX9_beginsBar := goodIn_r _ [46, 47, 48, 49, 50, 45, 51, 56, 57, 58, 59, 60] (by decide +kernel) (by decide +kernel)
set_option maxRecDepth 20000 in
theorem gX6_loudOf_X9_beginsBar : GoodIn wsX6_loudOf (wsV RX6 121 RX9 yX9_beginsBar wsX9_beginsBar) := goodIn_app (goodIn_of _ (by decide +kernel)) ggX6_loudOf_X9_beginsBar
set_option maxRecDepth 20000 in
theorem ggX6_loudOf_X9_beginsBeat : GoodIn wsX6_loudOf wsX9_beginsBeat := goodIn_r _ [55, 48, 49, 50, 45, 51, 56, 57, 58, 59, 60] (by decide +kernel) (by decide +kernel)
set_option maxRecDepth 20000 in
theorem gX6_loudOf_X9_beginsBeat : GoodIn wsX6_loudOf (wsV RX6 124 RX9 yX9_beginsBeat wsX9_beginsBeat) := goodIn_app (goodIn_of _ (by decide +kernel)) ggX6_loudOf_X9_beginsBeat
theorem dX6_loudOf_0 : decode cX6_loudOf 0 = .ok (.aload_n 1, 1) := by decide +kernel
theorem dX6_loudOf_1 : decode cX6_loudOf 1 = .ok (.getfield 111, 3) := by decide +kernel
theorem dX6_loudOf_4 : decode cX6_loudOf 4 = .ok (.iload_n 2, 1) := by decide +kernel
theorem dX6_loudOf_5 : decode cX6_loudOf 5 = .ok (.invokevirtual 115, 3) := by decide +kernel
theorem dX6_loudOf_8 : decode cX6_loudOf 8 = .ok (.istore 4, 2) := by decide +kernel
theorem dX6_loudOf_10 : decode cX6_loudOf 10 = .ok (.aload_n 0, 1) := by decide +kernel
theorem dX6_loudOf_11 : decode cX6_loudOf 11 = .ok (.iconst 4, 1) := by decide +kernel
theorem dX6_loudOf_12 : decode cX6_loudOf 12 = .ok (.invokevirtual 91, 3) := by decide +kernel
theorem dX6_loudOf_15 : decode cX6_loudOf 15 = .ok (.ifCond .eq 17, 3) := by decide +kernel
theorem dX6_loudOf_18 : decode cX6_loudOf 18 = .ok (.iload 4, 2) := by decide +kernel
theorem dX6_loudOf_20 : decode cX6_loudOf 20 = .ok (.aload_n 3, 1) := by decide +kernel
theorem dX6_loudOf_21 : decode cX6_loudOf 21 = .ok (.aload_n 0, 1) := by decide +kernel
theorem dX6_loudOf_22 : decode cX6_loudOf 22 = .ok (.getfield 77, 3) := by decide +kernel
theorem dX6_loudOf_25 : decode cX6_loudOf 25 = .ok (.iconst 4, 1) := by decide +kernel
theorem dX6_loudOf_26 : decode cX6_loudOf 26 = .ok (.invokevirtual 97, 3) := by decide +kernel
theorem dX6_loudOf_29 : decode cX6_loudOf 29 = .ok (.iadd, 1) := by decide +kernel
theorem dX6_loudOf_30 : decode cX6_loudOf 30 = .ok (.istore 4, 2) := by decide +kernel
theorem dX6_loudOf_32 : decode cX6_loudOf 32 = .ok (.aload_n 1, 1) := by decide +kernel
theorem dX6_loudOf_33 : decode cX6_loudOf 33 = .ok (.iload_n 2, 1) := by decide +kernel
theorem dX6_loudOf_34 : decode cX6_loudOf 34 = .ok (.invokevirtual 121, 3) := by decide +kernel
theorem dX6_loudOf_37 : decode cX6_loudOf 37 = .ok (.ifCond .eq 20, 3) := by decide +kernel
theorem dX6_loudOf_40 : decode cX6_loudOf 40 = .ok (.iload 4, 2) := by decide +kernel
theorem dX6_loudOf_42 : decode cX6_loudOf 42 = .ok (.aload_n 3, 1) := by decide +kernel
theorem dX6_loudOf_43 : decode cX6_loudOf 43 = .ok (.aload_n 0, 1) := by decide +kernel
theorem dX6_loudOf_44 : decode cX6_loudOf 44 = .ok (.getfield 77, 3) := by decide +kernel
theorem dX6_loudOf_47 : decode cX6_loudOf 47 = .ok (.iconst 5, 1) := by decide +kernel
theorem dX6_loudOf_48 : decode cX6_loudOf 48 = .ok (.invokevirtual 97, 3) := by decide +kernel
theorem dX6_loudOf_51 : decode cX6_loudOf 51 = .ok (.iadd, 1) := by decide +kernel
theorem dX6_loudOf_52 : decode cX6_loudOf 52 = .ok (.istore 4, 2) := by decide +kernel
theorem dX6_loudOf_54 : decode cX6_loudOf 54 = .ok (.goto 26, 3) := by decide +kernel
theorem dX6_loudOf_57 : decode cX6_loudOf 57 = .ok (.aload_n 1, 1) := by decide +kernel
theorem dX6_loudOf_58 : decode cX6_loudOf 58 = .ok (.iload_n 2, 1) := by decide +kernel
theorem dX6_loudOf_59 : decode cX6_loudOf 59 = .ok (.invokevirtual 124, 3) := by decide +kernel
theorem dX6_loudOf_62 : decode cX6_loudOf 62 = .ok (.ifCond .eq 18, 3) := by decide +kernel
theorem dX6_loudOf_65 : decode cX6_loudOf 65 = .ok (.iload 4, 2) := by decide +kernel
theorem dX6_loudOf_67 : decode cX6_loudOf 67 = .ok (.aload_n 3, 1) := by decide +kernel
theorem dX6_loudOf_68 : decode cX6_loudOf 68 = .ok (.aload_n 0, 1) := by decide +kernel
theorem dX6_loudOf_69 : decode cX6_loudOf 69 = .ok (.getfield 77, 3) := by decide +kernel
theorem dX6_loudOf_72 : decode cX6_loudOf 72 = .ok (.bipush 6, 2) := by decide +kernel
theorem dX6_loudOf_74 : decode cX6_loudOf 74 = .ok (.invokevirtual 97, 3) := by decide +kernel
theorem dX6_loudOf_77 : decode cX6_loudOf 77 = .ok (.iadd, 1) := by decide +kernel
theorem dX6_loudOf_78 : decode cX6_loudOf 78 = .ok (.istore 4, 2) := by decide +kernel
theorem dX6_loudOf_80 : decode cX6_loudOf 80 = .ok (.iconst 1, 1) := by decide +kernel
theorem dX6_loudOf_81 : decode cX6_loudOf 81 = .ok (.bipush 127, 2) := by decide +kernel
theorem dX6_loudOf_83 : decode cX6_loudOf 83 = .ok (.iload 4, 2) := by decide +kernel
theorem dX6_loudOf_85 : decode cX6_loudOf 85 = .ok (.invokestatic 103, 3) := by decide +kernel
theorem dX6_loudOf_88 : decode cX6_loudOf 88 = .ok (.invokestatic 108, 3) := by decide +kernel
theorem dX6_loudOf_91 : decode cX6_loudOf 91 = .ok (.ireturn, 1) := by decide +kernel
set_option maxRecDepth 20000 in
theorem ggX6_onOf_X8_numberFor : GoodIn wsX6_onOf wsX8_numberFor := goodIn_r _ [10, 11, 12, 13, 14, 9, 15, 16, 38, 39, 40, 41] (by decide +kernel) (by decide +kernel)
set_option maxRecDepth 20000 in
theorem gX6_onOf_X8_numberFor : GoodIn wsX6_onOf (wsV RX6 97 RX8 yX8_numberFor wsX8_numberFor) := goodIn_app (goodIn_of _ (by decide +kernel)) ggX6_onOf_X8_numberFor
set_option maxRecDepth 20000 in
theorem ggX6_onOf_X6_drawOf : GoodIn wsX6_onOf wsX6_drawOf := goodIn_r _ [21, 22, 23, 24, 25, 2, 3, 4, 5, 26, 27, 28, 29, 30, 31, 32, 33, 34, 35, 36, 37] (by decide +kernel) (by decide +kernel)
