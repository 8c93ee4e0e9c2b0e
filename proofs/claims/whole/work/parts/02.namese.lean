theorem dX12_trill_26 : decode cX12_trill 26 = .ok (.iload_n 3, 1) := by decide +kernel
theorem dX12_trill_27 : decode cX12_trill 27 = .ok (.iconst 1, 1) := by decide +kernel
theorem dX12_trill_28 : decode cX12_trill 28 = .ok (.isub, 1) := by decide +kernel
theorem dX12_trill_29 : decode cX12_trill 29 = .ok (.goto 4, 3) := by decide +kernel
theorem dX12_trill_32 : decode cX12_trill 32 = .ok (.iload_n 3, 1) := by decide +kernel
theorem dX12_trill_33 : decode cX12_trill 33 = .ok (.istore 5, 2) := by decide +kernel
theorem dX12_trill_35 : decode cX12_trill 35 = .ok (.iconst 0, 1) := by decide +kernel
theorem dX12_trill_36 : decode cX12_trill 36 = .ok (.istore 6, 2) := by decide +kernel
theorem dX12_trill_38 : decode cX12_trill 38 = .ok (.iload 6, 2) := by decide +kernel
theorem dX12_trill_40 : decode cX12_trill 40 = .ok (.iload 5, 2) := by decide +kernel
theorem dX12_trill_42 : decode cX12_trill 42 = .ok (.if_icmp .ge 52, 3) := by decide +kernel
theorem dX12_trill_45 : decode cX12_trill 45 = .ok (.aload_n 0, 1) := by decide +kernel
theorem dX12_trill_46 : decode cX12_trill 46 = .ok (.iload_n 1, 1) := by decide +kernel
theorem dX12_trill_47 : decode cX12_trill 47 = .ok (.iconst 2, 1) := by decide +kernel
theorem dX12_trill_48 : decode cX12_trill 48 = .ok (.iload 6, 2) := by decide +kernel
theorem dX12_trill_50 : decode cX12_trill 50 = .ok (.iload 4, 2) := by decide +kernel
theorem dX12_trill_52 : decode cX12_trill 52 = .ok (.iadd, 1) := by decide +kernel
theorem dX12_trill_53 : decode cX12_trill 53 = .ok (.iconst 2, 1) := by decide +kernel
theorem dX12_trill_54 : decode cX12_trill 54 = .ok (.irem, 1) := by decide +kernel
theorem dX12_trill_55 : decode cX12_trill 55 = .ok (.iconst 1, 1) := by decide +kernel
theorem dX12_trill_56 : decode cX12_trill 56 = .ok (.if_icmp .ne 7, 3) := by decide +kernel
theorem dX12_trill_59 : decode cX12_trill 59 = .ok (.iconst 2, 1) := by decide +kernel
theorem dX12_trill_60 : decode cX12_trill 60 = .ok (.goto 4, 3) := by decide +kernel
theorem dX12_trill_63 : decode cX12_trill 63 = .ok (.iconst 0, 1) := by decide +kernel
theorem dX12_trill_64 : decode cX12_trill 64 = .ok (.aload_n 0, 1) := by decide +kernel
theorem dX12_trill_65 : decode cX12_trill 65 = .ok (.getfield 230, 3) := by decide +kernel
theorem dX12_trill_68 : decode cX12_trill 68 = .ok (.iload 6, 2) := by decide +kernel
theorem dX12_trill_70 : decode cX12_trill 70 = .ok (.iload 5, 2) := by decide +kernel
theorem dX12_trill_72 : decode cX12_trill 72 = .ok (.iconst 1, 1) := by decide +kernel
theorem dX12_trill_73 : decode cX12_trill 73 = .ok (.isub, 1) := by decide +kernel
theorem dX12_trill_74 : decode cX12_trill 74 = .ok (.if_icmp .ne 10, 3) := by decide +kernel
theorem dX12_trill_77 : decode cX12_trill 77 = .ok (.aload_n 0, 1) := by decide +kernel
theorem dX12_trill_78 : decode cX12_trill 78 = .ok (.getfield 215, 3) := by decide +kernel
theorem dX12_trill_81 : decode cX12_trill 81 = .ok (.goto 4, 3) := by decide +kernel
theorem dX12_trill_84 : decode cX12_trill 84 = .ok (.iload_n 2, 1) := by decide +kernel
theorem dX12_trill_85 : decode cX12_trill 85 = .ok (.invokevirtual 233, 3) := by decide +kernel
theorem dX12_trill_88 : decode cX12_trill 88 = .ok (.iinc 6 1, 3) := by decide +kernel
theorem dX12_trill_91 : decode cX12_trill 91 = .ok (.goto (-53), 3) := by decide +kernel
theorem dX12_trill_94 : decode cX12_trill 94 = .ok (.return_, 1) := by decide +kernel
set_option maxRecDepth 20000 in
theorem ggX12_performNote_X12_onOf : GoodIn wsX12_performNote wsX12_onOf := goodIn_r _ [9, 4, 10, 11, 12, 13, 14, 15, 16, 17, 8, 18, 19, 20, 21, 22, 23, 24, 25, 26, 27, 28, 29, 30, 90, 91, 92, 93, 94, 95, 96, 97, 98, 99, 100, 101, 102, 103, 104, 105, 106, 107, 108, 109, 110, 111, 112, 113, 114, 115, 116, 117, 118, 119, 120, 121, 122, 123, 124] (by decide +kernel) (by decide +kernel)
set_option maxRecDepth 20000 in
theorem gX12_performNote_X12_onOf : GoodIn wsX12_performNote (wsV RX12 237 RX12 yX12_onOf wsX12_onOf) := goodIn_app (goodIn_of _ (by decide +kernel)) ggX12_performNote_X12_onOf
set_option maxRecDepth 20000 in
theorem ggX12_performNote_X12_longOf : GoodIn wsX12_performNote wsX12_longOf := goodIn_r _ [34, 4, 35, 36, 37, 38, 8, 39, 40, 15, 16, 17, 18, 19, 20, 21, 22, 23, 24, 25, 26, 27, 28, 29, 30, 41, 42, 43, 90, 91, 92, 93, 94, 95, 96, 97, 98, 99, 100, 101, 102, 103, 104, 105, 106, 107, 108, 109, 110, 111, 112, 113, 114, 115, 116, 117, 118, 119, 120, 121, 122, 123, 124] (by decide +kernel) (by decide +kernel)
set_option maxRecDepth 20000 in
theorem gX12_performNote_X12_longOf : GoodIn wsX12_performNote (wsV RX12 240 RX12 yX12_longOf wsX12_longOf) := goodIn_app (goodIn_of _ (by decide +kernel)) ggX12_performNote_X12_longOf
set_option maxRecDepth 20000 in
theorem ggX12_performNote_X12_loudOf : GoodIn wsX12_performNote wsX12_loudOf := goodIn_r _ [47, 10, 4, 48, 49, 50, 51, 52, 8, 53, 54, 55, 56, 57, 58, 59, 60, 61, 62, 63, 64, 36, 37, 38, 39, 40, 15, 16, 17, 18, 19, 20, 21, 22, 23, 24, 25, 26, 27, 28, 29, 30, 41, 42, 43, 90, 91, 92, 93, 94, 95, 96, 97, 98, 99, 100, 101, 102, 103, 104, 105, 106, 107, 108, 109, 110, 111, 112, 113, 114, 115, 116, 117, 118, 119, 120, 121, 122, 123, 124] (by decide +kernel) (by decide +kernel)
set_option maxRecDepth 20000 in
theorem gX12_performNote_X12_loudOf : GoodIn wsX12_performNote (wsV RX12 243 RX12 yX12_loudOf wsX12_loudOf) := goodIn_app (goodIn_of _ (by decide +kernel)) ggX12_performNote_X12_loudOf
set_option maxRecDepth 20000 in
theorem ggX12_performNote_X12_has : GoodIn wsX12_performNote wsX12_has := goodIn_r _ [39, 40, 90, 91, 92, 93, 94, 95, 96, 97, 98, 99, 100, 101, 102, 103, 104, 105, 106, 107, 108, 109, 110, 111, 112, 113, 114, 115, 116, 117, 118, 119, 120, 121, 122, 123, 124] (by decide +kernel) (by decide +kernel)
set_option maxRecDepth 20000 in
theorem gX12_performNote_X12_has : GoodIn wsX12_performNote (wsV RX12 218 RX12 yX12_has wsX12_has) := goodIn_app (goodIn_of _ (by decide +kernel)) ggX12_performNote_X12_has
set_option maxRecDepth 20000 in
theorem ggX12_performNote_X12_rolledAhead : GoodIn wsX12_performNote wsX12_rolledAhead := goodIn_r _ [68, 69, 4, 10, 70, 36, 37, 38, 8, 39, 40, 90, 91, 92, 93, 94, 95, 96, 97, 98, 99, 100, 101, 102, 103, 104, 105, 106, 107, 108, 109, 110, 111, 112, 113, 114, 115, 116, 117, 118, 119, 120, 121, 122, 123, 124] (by decide +kernel) (by decide +kernel)
set_option maxRecDepth 20000 in
theorem gX12_performNote_X12_rolledAhead : GoodIn wsX12_performNote (wsV RX12 246 RX12 yX12_rolledAhead wsX12_rolledAhead) := goodIn_app (goodIn_of _ (by decide +kernel)) ggX12_performNote_X12_rolledAhead
set_option maxRecDepth 20000 in
theorem ggX12_performNote_X12_number : GoodIn wsX12_performNote wsX12_number := goodIn_r _ [18, 19, 20, 21, 22, 8, 23, 24, 25, 26, 27, 28, 29, 30, 90, 91, 92, 93, 94, 95, 96, 97, 98, 99, 100, 101, 102, 103, 104, 105, 106, 107, 108, 109, 110, 111, 112, 113, 114, 115, 116, 117, 118, 119, 120, 121, 122, 123, 124] (by decide +kernel) (by decide +kernel)
set_option maxRecDepth 20000 in
theorem gX12_performNote_X12_number : GoodIn wsX12_performNote (wsV RX12 206 RX12 yX12_number wsX12_number) := goodIn_app (goodIn_of _ (by decide +kernel)) ggX12_performNote_X12_number
set_option maxRecDepth 20000 in
theorem ggX12_performNote_X12_lesser : GoodIn wsX12_performNote wsX12_lesser := goodIn_r _ [43] (by decide +kernel) (by decide +kernel)
set_option maxRecDepth 20000 in
theorem gX12_performNote_X12_lesser : GoodIn wsX12_performNote (va_wsS RX12 221 yX12_lesser wsX12_lesser) := goodIn_app (goodIn_of _ (by decide +kernel)) ggX12_performNote_X12_lesser
set_option maxRecDepth 20000 in
theorem ggX12_performNote_X12_sounds : GoodIn wsX12_performNote wsX12_sounds := goodIn_r _ [74, 75, 1, 76, 70, 2, 77, 78, 79, 8, 80, 81, 82, 83, 84, 85, 62, 63, 64, 90, 91, 92, 93, 94, 95, 96, 97, 98, 99, 100, 101, 102, 103, 104, 105, 106, 107, 108, 109, 110, 111, 112, 113, 114, 115, 116, 117, 118, 119, 120, 121, 122, 123, 124] (by decide +kernel) (by decide +kernel)
set_option maxRecDepth 20000 in
theorem gX12_performNote_X12_sounds : GoodIn wsX12_performNote (wsV RX12 233 RX12 yX12_sounds wsX12_sounds) := goodIn_app (goodIn_of _ (by decide +kernel)) ggX12_performNote_X12_sounds
set_option maxRecDepth 20000 in
theorem ggX12_performNote_X12_trill : GoodIn wsX12_performNote wsX12_trill := goodIn_r _ [89, 4, 3, 2, 15, 16, 17, 8, 18, 19, 20, 21, 22, 23, 24, 25, 26, 27, 28, 29, 30, 71, 72, 73, 74, 75, 1, 76, 70, 77, 78, 79, 80, 81, 82, 83, 84, 85, 62, 63, 64, 90, 91, 92, 93, 94, 95, 96, 97, 98, 99, 100, 101, 102, 103, 104, 105, 106, 107, 108, 109, 110, 111, 112, 113, 114, 115, 116, 117, 118, 119, 120, 121, 122, 123, 124] (by decide +kernel) (by decide +kernel)
set_option maxRecDepth 20000 in
theorem gX12_performNote_X12_trill : GoodIn wsX12_performNote (wsV RX12 249 RX12 yX12_trill wsX12_trill) := goodIn_app (goodIn_of _ (by decide +kernel)) ggX12_performNote_X12_trill
theorem dX12_performNote_0 : decode cX12_performNote 0 = .ok (.aload_n 0, 1) := by decide +kernel
theorem dX12_performNote_1 : decode cX12_performNote 1 = .ok (.aload_n 0, 1) := by decide +kernel
theorem dX12_performNote_2 : decode cX12_performNote 2 = .ok (.iload_n 1, 1) := by decide +kernel
theorem dX12_performNote_3 : decode cX12_performNote 3 = .ok (.invokevirtual 237, 3) := by decide +kernel
theorem dX12_performNote_6 : decode cX12_performNote 6 = .ok (.putfield 212, 3) := by decide +kernel
theorem dX12_performNote_9 : decode cX12_performNote 9 = .ok (.aload_n 0, 1) := by decide +kernel
theorem dX12_performNote_10 : decode cX12_performNote 10 = .ok (.aload_n 0, 1) := by decide +kernel
theorem dX12_performNote_11 : decode cX12_performNote 11 = .ok (.iload_n 1, 1) := by decide +kernel
theorem dX12_performNote_12 : decode cX12_performNote 12 = .ok (.invokevirtual 240, 3) := by decide +kernel
theorem dX12_performNote_15 : decode cX12_performNote 15 = .ok (.putfield 215, 3) := by decide +kernel
theorem dX12_performNote_18 : decode cX12_performNote 18 = .ok (.aload_n 0, 1) := by decide +kernel
theorem dX12_performNote_19 : decode cX12_performNote 19 = .ok (.aload_n 0, 1) := by decide +kernel
theorem dX12_performNote_20 : decode cX12_performNote 20 = .ok (.iload_n 1, 1) := by decide +kernel
theorem dX12_performNote_21 : decode cX12_performNote 21 = .ok (.invokevirtual 243, 3) := by decide +kernel
theorem dX12_performNote_24 : decode cX12_performNote 24 = .ok (.putfield 230, 3) := by decide +kernel
theorem dX12_performNote_27 : decode cX12_performNote 27 = .ok (.aload_n 0, 1) := by decide +kernel
theorem dX12_performNote_28 : decode cX12_performNote 28 = .ok (.iload_n 1, 1) := by decide +kernel
theorem dX12_performNote_29 : decode cX12_performNote 29 = .ok (.bipush 64, 2) := by decide +kernel
theorem dX12_performNote_31 : decode cX12_performNote 31 = .ok (.invokevirtual 218, 3) := by decide +kernel
theorem dX12_performNote_34 : decode cX12_performNote 34 = .ok (.ifCond .eq 51, 3) := by decide +kernel
theorem dX12_performNote_37 : decode cX12_performNote 37 = .ok (.aload_n 0, 1) := by decide +kernel
theorem dX12_performNote_38 : decode cX12_performNote 38 = .ok (.iload_n 1, 1) := by decide +kernel
theorem dX12_performNote_39 : decode cX12_performNote 39 = .ok (.invokevirtual 246, 3) := by decide +kernel
theorem dX12_performNote_42 : decode cX12_performNote 42 = .ok (.aload_n 0, 1) := by decide +kernel
theorem dX12_performNote_43 : decode cX12_performNote 43 = .ok (.aload_n 0, 1) := by decide +kernel
theorem dX12_performNote_44 : decode cX12_performNote 44 = .ok (.getfield 7, 3) := by decide +kernel
theorem dX12_performNote_47 : decode cX12_performNote 47 = .ok (.iload_n 1, 1) := by decide +kernel
theorem dX12_performNote_48 : decode cX12_performNote 48 = .ok (.iaload, 1) := by decide +kernel
theorem dX12_performNote_49 : decode cX12_performNote 49 = .ok (.bipush 11, 2) := by decide +kernel
theorem dX12_performNote_51 : decode cX12_performNote 51 = .ok (.invokevirtual 206, 3) := by decide +kernel
theorem dX12_performNote_54 : decode cX12_performNote 54 = .ok (.imul, 1) := by decide +kernel
theorem dX12_performNote_55 : decode cX12_performNote 55 = .ok (.aload_n 0, 1) := by decide +kernel
theorem dX12_performNote_56 : decode cX12_performNote 56 = .ok (.getfield 215, 3) := by decide +kernel
theorem dX12_performNote_59 : decode cX12_performNote 59 = .ok (.iconst 1, 1) := by decide +kernel
theorem dX12_performNote_60 : decode cX12_performNote 60 = .ok (.isub, 1) := by decide +kernel
theorem dX12_performNote_61 : decode cX12_performNote 61 = .ok (.invokestatic 221, 3) := by decide +kernel
theorem dX12_performNote_64 : decode cX12_performNote 64 = .ok (.istore_n 2, 1) := by decide +kernel
theorem dX12_performNote_65 : decode cX12_performNote 65 = .ok (.aload_n 0, 1) := by decide +kernel
theorem dX12_performNote_66 : decode cX12_performNote 66 = .ok (.dup, 1) := by decide +kernel
theorem dX12_performNote_67 : decode cX12_performNote 67 = .ok (.getfield 212, 3) := by decide +kernel
theorem dX12_performNote_70 : decode cX12_performNote 70 = .ok (.iload_n 2, 1) := by decide +kernel
theorem dX12_performNote_71 : decode cX12_performNote 71 = .ok (.iadd, 1) := by decide +kernel
theorem dX12_performNote_72 : decode cX12_performNote 72 = .ok (.putfield 212, 3) := by decide +kernel
theorem dX12_performNote_75 : decode cX12_performNote 75 = .ok (.aload_n 0, 1) := by decide +kernel
theorem dX12_performNote_76 : decode cX12_performNote 76 = .ok (.dup, 1) := by decide +kernel
theorem dX12_performNote_77 : decode cX12_performNote 77 = .ok (.getfield 215, 3) := by decide +kernel
theorem dX12_performNote_80 : decode cX12_performNote 80 = .ok (.iload_n 2, 1) := by decide +kernel
theorem dX12_performNote_81 : decode cX12_performNote 81 = .ok (.isub, 1) := by decide +kernel
theorem dX12_performNote_82 : decode cX12_performNote 82 = .ok (.putfield 215, 3) := by decide +kernel
theorem dX12_performNote_85 : decode cX12_performNote 85 = .ok (.aload_n 0, 1) := by decide +kernel
theorem dX12_performNote_86 : decode cX12_performNote 86 = .ok (.iload_n 1, 1) := by decide +kernel
theorem dX12_performNote_87 : decode cX12_performNote 87 = .ok (.bipush 32, 2) := by decide +kernel
theorem dX12_performNote_89 : decode cX12_performNote 89 = .ok (.invokevirtual 218, 3) := by decide +kernel
theorem dX12_performNote_92 : decode cX12_performNote 92 = .ok (.ifCond .eq 61, 3) := by decide +kernel
theorem dX12_performNote_95 : decode cX12_performNote 95 = .ok (.aload_n 0, 1) := by decide +kernel
theorem dX12_performNote_96 : decode cX12_performNote 96 = .ok (.aload_n 0, 1) := by decide +kernel
theorem dX12_performNote_97 : decode cX12_performNote 97 = .ok (.getfield 7, 3) := by decide +kernel
theorem dX12_performNote_100 : decode cX12_performNote 100 = .ok (.iload_n 1, 1) := by decide +kernel
theorem dX12_performNote_101 : decode cX12_performNote 101 = .ok (.iaload, 1) := by decide +kernel
theorem dX12_performNote_102 : decode cX12_performNote 102 = .ok (.bipush 10, 2) := by decide +kernel
theorem dX12_performNote_104 : decode cX12_performNote 104 = .ok (.invokevirtual 206, 3) := by decide +kernel
theorem dX12_performNote_107 : decode cX12_performNote 107 = .ok (.aload_n 0, 1) := by decide +kernel
theorem dX12_performNote_108 : decode cX12_performNote 108 = .ok (.getfield 215, 3) := by decide +kernel
theorem dX12_performNote_111 : decode cX12_performNote 111 = .ok (.iconst 2, 1) := by decide +kernel
theorem dX12_performNote_112 : decode cX12_performNote 112 = .ok (.idiv, 1) := by decide +kernel
theorem dX12_performNote_113 : decode cX12_performNote 113 = .ok (.invokestatic 221, 3) := by decide +kernel
theorem dX12_performNote_116 : decode cX12_performNote 116 = .ok (.istore_n 2, 1) := by decide +kernel
theorem dX12_performNote_117 : decode cX12_performNote 117 = .ok (.iload_n 2, 1) := by decide +kernel
theorem dX12_performNote_118 : decode cX12_performNote 118 = .ok (.ifCond .le 35, 3) := by decide +kernel
theorem dX12_performNote_121 : decode cX12_performNote 121 = .ok (.aload_n 0, 1) := by decide +kernel
theorem dX12_performNote_122 : decode cX12_performNote 122 = .ok (.iload_n 1, 1) := by decide +kernel
theorem dX12_performNote_123 : decode cX12_performNote 123 = .ok (.iconst 1, 1) := by decide +kernel
theorem dX12_performNote_124 : decode cX12_performNote 124 = .ok (.iconst 2, 1) := by decide +kernel
theorem dX12_performNote_125 : decode cX12_performNote 125 = .ok (.aload_n 0, 1) := by decide +kernel
theorem dX12_performNote_126 : decode cX12_performNote 126 = .ok (.getfield 230, 3) := by decide +kernel
theorem dX12_performNote_129 : decode cX12_performNote 129 = .ok (.iconst 3, 1) := by decide +kernel
theorem dX12_performNote_130 : decode cX12_performNote 130 = .ok (.imul, 1) := by decide +kernel
theorem dX12_performNote_131 : decode cX12_performNote 131 = .ok (.iconst 4, 1) := by decide +kernel
theorem dX12_performNote_132 : decode cX12_performNote 132 = .ok (.idiv, 1) := by decide +kernel
theorem dX12_performNote_133 : decode cX12_performNote 133 = .ok (.iconst 1, 1) := by decide +kernel
theorem dX12_performNote_134 : decode cX12_performNote 134 = .ok (.if_icmp .ge 7, 3) := by decide +kernel
theorem dX12_performNote_137 : decode cX12_performNote 137 = .ok (.iconst 1, 1) := by decide +kernel
theorem dX12_performNote_138 : decode cX12_performNote 138 = .ok (.goto 11, 3) := by decide +kernel
theorem dX12_performNote_141 : decode cX12_performNote 141 = .ok (.aload_n 0, 1) := by decide +kernel
theorem dX12_performNote_142 : decode cX12_performNote 142 = .ok (.getfield 230, 3) := by decide +kernel
theorem dX12_performNote_145 : decode cX12_performNote 145 = .ok (.iconst 3, 1) := by decide +kernel
theorem dX12_performNote_146 : decode cX12_performNote 146 = .ok (.imul, 1) := by decide +kernel
theorem dX12_performNote_147 : decode cX12_performNote 147 = .ok (.iconst 4, 1) := by decide +kernel
theorem dX12_performNote_148 : decode cX12_performNote 148 = .ok (.idiv, 1) := by decide +kernel
theorem dX12_performNote_149 : decode cX12_performNote 149 = .ok (.iload_n 2, 1) := by decide +kernel
theorem dX12_performNote_150 : decode cX12_performNote 150 = .ok (.invokevirtual 233, 3) := by decide +kernel
theorem dX12_performNote_153 : decode cX12_performNote 153 = .ok (.aload_n 0, 1) := by decide +kernel
theorem dX12_performNote_154 : decode cX12_performNote 154 = .ok (.aload_n 0, 1) := by decide +kernel
theorem dX12_performNote_155 : decode cX12_performNote 155 = .ok (.getfield 7, 3) := by decide +kernel
theorem dX12_performNote_158 : decode cX12_performNote 158 = .ok (.iload_n 1, 1) := by decide +kernel
theorem dX12_performNote_159 : decode cX12_performNote 159 = .ok (.iaload, 1) := by decide +kernel
theorem dX12_performNote_160 : decode cX12_performNote 160 = .ok (.bipush 7, 2) := by decide +kernel
theorem dX12_performNote_162 : decode cX12_performNote 162 = .ok (.invokevirtual 206, 3) := by decide +kernel
theorem dX12_performNote_165 : decode cX12_performNote 165 = .ok (.istore_n 2, 1) := by decide +kernel
theorem dX12_performNote_166 : decode cX12_performNote 166 = .ok (.aload_n 0, 1) := by decide +kernel
theorem dX12_performNote_167 : decode cX12_performNote 167 = .ok (.iload_n 1, 1) := by decide +kernel
theorem dX12_performNote_168 : decode cX12_performNote 168 = .ok (.bipush 8, 2) := by decide +kernel
theorem dX12_performNote_170 : decode cX12_performNote 170 = .ok (.invokevirtual 218, 3) := by decide +kernel
theorem dX12_performNote_173 : decode cX12_performNote 173 = .ok (.ifCond .eq 28, 3) := by decide +kernel
theorem dX12_performNote_176 : decode cX12_performNote 176 = .ok (.aload_n 0, 1) := by decide +kernel
theorem dX12_performNote_177 : decode cX12_performNote 177 = .ok (.getfield 215, 3) := by decide +kernel
theorem dX12_performNote_180 : decode cX12_performNote 180 = .ok (.iload_n 2, 1) := by decide +kernel
theorem dX12_performNote_181 : decode cX12_performNote 181 = .ok (.idiv, 1) := by decide +kernel
theorem dX12_performNote_182 : decode cX12_performNote 182 = .ok (.iconst 2, 1) := by decide +kernel
theorem dX12_performNote_183 : decode cX12_performNote 183 = .ok (.if_icmp .lt 18, 3) := by decide +kernel
theorem dX12_performNote_186 : decode cX12_performNote 186 = .ok (.aload_n 0, 1) := by decide +kernel
theorem dX12_performNote_187 : decode cX12_performNote 187 = .ok (.iload_n 1, 1) := by decide +kernel
theorem dX12_performNote_188 : decode cX12_performNote 188 = .ok (.iload_n 2, 1) := by decide +kernel
theorem dX12_performNote_189 : decode cX12_performNote 189 = .ok (.aload_n 0, 1) := by decide +kernel
theorem dX12_performNote_190 : decode cX12_performNote 190 = .ok (.getfield 215, 3) := by decide +kernel
theorem dX12_performNote_193 : decode cX12_performNote 193 = .ok (.iload_n 2, 1) := by decide +kernel
theorem dX12_performNote_194 : decode cX12_performNote 194 = .ok (.idiv, 1) := by decide +kernel
theorem dX12_performNote_195 : decode cX12_performNote 195 = .ok (.invokevirtual 249, 3) := by decide +kernel
theorem dX12_performNote_198 : decode cX12_performNote 198 = .ok (.goto 101, 3) := by decide +kernel
theorem dX12_performNote_201 : decode cX12_performNote 201 = .ok (.aload_n 0, 1) := by decide +kernel
theorem dX12_performNote_202 : decode cX12_performNote 202 = .ok (.iload_n 1, 1) := by decide +kernel
theorem dX12_performNote_203 : decode cX12_performNote 203 = .ok (.bipush 16, 2) := by decide +kernel
theorem dX12_performNote_205 : decode cX12_performNote 205 = .ok (.invokevirtual 218, 3) := by decide +kernel
theorem dX12_performNote_208 : decode cX12_performNote 208 = .ok (.ifCond .eq 76, 3) := by decide +kernel
theorem dX12_performNote_211 : decode cX12_performNote 211 = .ok (.aload_n 0, 1) := by decide +kernel
theorem dX12_performNote_212 : decode cX12_performNote 212 = .ok (.getfield 215, 3) := by decide +kernel
theorem dX12_performNote_215 : decode cX12_performNote 215 = .ok (.iconst 3, 1) := by decide +kernel
theorem dX12_performNote_216 : decode cX12_performNote 216 = .ok (.if_icmp .lt 68, 3) := by decide +kernel
theorem dX12_performNote_219 : decode cX12_performNote 219 = .ok (.aload_n 0, 1) := by decide +kernel
theorem dX12_performNote_220 : decode cX12_performNote 220 = .ok (.aload_n 0, 1) := by decide +kernel
theorem dX12_performNote_221 : decode cX12_performNote 221 = .ok (.getfield 7, 3) := by decide +kernel
theorem dX12_performNote_224 : decode cX12_performNote 224 = .ok (.iload_n 1, 1) := by decide +kernel
theorem dX12_performNote_225 : decode cX12_performNote 225 = .ok (.iaload, 1) := by decide +kernel
theorem dX12_performNote_226 : decode cX12_performNote 226 = .ok (.bipush 9, 2) := by decide +kernel
theorem dX12_performNote_228 : decode cX12_performNote 228 = .ok (.invokevirtual 206, 3) := by decide +kernel
theorem dX12_performNote_231 : decode cX12_performNote 231 = .ok (.aload_n 0, 1) := by decide +kernel
theorem dX12_performNote_232 : decode cX12_performNote 232 = .ok (.getfield 215, 3) := by decide +kernel
theorem dX12_performNote_235 : decode cX12_performNote 235 = .ok (.iconst 3, 1) := by decide +kernel
theorem dX12_performNote_236 : decode cX12_performNote 236 = .ok (.idiv, 1) := by decide +kernel
theorem dX12_performNote_237 : decode cX12_performNote 237 = .ok (.invokestatic 221, 3) := by decide +kernel
theorem dX12_performNote_240 : decode cX12_performNote 240 = .ok (.istore_n 3, 1) := by decide +kernel
theorem dX12_performNote_241 : decode cX12_performNote 241 = .ok (.aload_n 0, 1) := by decide +kernel
theorem dX12_performNote_242 : decode cX12_performNote 242 = .ok (.iload_n 1, 1) := by decide +kernel
theorem dX12_performNote_243 : decode cX12_performNote 243 = .ok (.iconst 3, 1) := by decide +kernel
theorem dX12_performNote_244 : decode cX12_performNote 244 = .ok (.iconst 0, 1) := by decide +kernel
theorem dX12_performNote_245 : decode cX12_performNote 245 = .ok (.aload_n 0, 1) := by decide +kernel
theorem dX12_performNote_246 : decode cX12_performNote 246 = .ok (.getfield 230, 3) := by decide +kernel
theorem dX12_performNote_249 : decode cX12_performNote 249 = .ok (.iload_n 3, 1) := by decide +kernel
theorem dX12_performNote_250 : decode cX12_performNote 250 = .ok (.invokevirtual 233, 3) := by decide +kernel
theorem dX12_performNote_253 : decode cX12_performNote 253 = .ok (.aload_n 0, 1) := by decide +kernel
theorem dX12_performNote_254 : decode cX12_performNote 254 = .ok (.iload_n 1, 1) := by decide +kernel
theorem dX12_performNote_255 : decode cX12_performNote 255 = .ok (.iconst 3, 1) := by decide +kernel
theorem dX12_performNote_256 : decode cX12_performNote 256 = .ok (.bipush (-2), 2) := by decide +kernel
theorem dX12_performNote_258 : decode cX12_performNote 258 = .ok (.aload_n 0, 1) := by decide +kernel
theorem dX12_performNote_259 : decode cX12_performNote 259 = .ok (.getfield 230, 3) := by decide +kernel
theorem dX12_performNote_262 : decode cX12_performNote 262 = .ok (.iload_n 3, 1) := by decide +kernel
theorem dX12_performNote_263 : decode cX12_performNote 263 = .ok (.invokevirtual 233, 3) := by decide +kernel
theorem dX12_performNote_266 : decode cX12_performNote 266 = .ok (.aload_n 0, 1) := by decide +kernel
theorem dX12_performNote_267 : decode cX12_performNote 267 = .ok (.iload_n 1, 1) := by decide +kernel
theorem dX12_performNote_268 : decode cX12_performNote 268 = .ok (.iconst 3, 1) := by decide +kernel
theorem dX12_performNote_269 : decode cX12_performNote 269 = .ok (.iconst 0, 1) := by decide +kernel
theorem dX12_performNote_270 : decode cX12_performNote 270 = .ok (.aload_n 0, 1) := by decide +kernel
theorem dX12_performNote_271 : decode cX12_performNote 271 = .ok (.getfield 230, 3) := by decide +kernel
theorem dX12_performNote_274 : decode cX12_performNote 274 = .ok (.aload_n 0, 1) := by decide +kernel
theorem dX12_performNote_275 : decode cX12_performNote 275 = .ok (.getfield 215, 3) := by decide +kernel
theorem dX12_performNote_278 : decode cX12_performNote 278 = .ok (.invokevirtual 233, 3) := by decide +kernel
theorem dX12_performNote_281 : decode cX12_performNote 281 = .ok (.goto 18, 3) := by decide +kernel
theorem dX12_performNote_284 : decode cX12_performNote 284 = .ok (.aload_n 0, 1) := by decide +kernel
theorem dX12_performNote_285 : decode cX12_performNote 285 = .ok (.iload_n 1, 1) := by decide +kernel
theorem dX12_performNote_286 : decode cX12_performNote 286 = .ok (.iconst 0, 1) := by decide +kernel
theorem dX12_performNote_287 : decode cX12_performNote 287 = .ok (.iconst 0, 1) := by decide +kernel
theorem dX12_performNote_288 : decode cX12_performNote 288 = .ok (.aload_n 0, 1) := by decide +kernel
theorem dX12_performNote_289 : decode cX12_performNote 289 = .ok (.getfield 230, 3) := by decide +kernel
theorem dX12_performNote_292 : decode cX12_performNote 292 = .ok (.aload_n 0, 1) := by decide +kernel
theorem dX12_performNote_293 : decode cX12_performNote 293 = .ok (.getfield 215, 3) := by decide +kernel
theorem dX12_performNote_296 : decode cX12_performNote 296 = .ok (.invokevirtual 233, 3) := by decide +kernel
theorem dX12_performNote_299 : decode cX12_performNote 299 = .ok (.return_, 1) := by decide +kernel
theorem dX12_isAhead_0 : decode cX12_isAhead 0 = .ok (.aload_n 0, 1) := by decide +kernel
theorem dX12_isAhead_1 : decode cX12_isAhead 1 = .ok (.getfield 66, 3) := by decide +kernel
theorem dX12_isAhead_4 : decode cX12_isAhead 4 = .ok (.bipush 6, 2) := by decide +kernel
theorem dX12_isAhead_6 : decode cX12_isAhead 6 = .ok (.iload_n 1, 1) := by decide +kernel
theorem dX12_isAhead_7 : decode cX12_isAhead 7 = .ok (.imul, 1) := by decide +kernel
theorem dX12_isAhead_8 : decode cX12_isAhead 8 = .ok (.iconst 0, 1) := by decide +kernel
theorem dX12_isAhead_9 : decode cX12_isAhead 9 = .ok (.iadd, 1) := by decide +kernel
theorem dX12_isAhead_10 : decode cX12_isAhead 10 = .ok (.iaload, 1) := by decide +kernel
theorem dX12_isAhead_11 : decode cX12_isAhead 11 = .ok (.aload_n 0, 1) := by decide +kernel
theorem dX12_isAhead_12 : decode cX12_isAhead 12 = .ok (.getfield 66, 3) := by decide +kernel
theorem dX12_isAhead_15 : decode cX12_isAhead 15 = .ok (.bipush 6, 2) := by decide +kernel
theorem dX12_isAhead_17 : decode cX12_isAhead 17 = .ok (.iload_n 2, 1) := by decide +kernel
theorem dX12_isAhead_18 : decode cX12_isAhead 18 = .ok (.imul, 1) := by decide +kernel
theorem dX12_isAhead_19 : decode cX12_isAhead 19 = .ok (.iconst 0, 1) := by decide +kernel
theorem dX12_isAhead_20 : decode cX12_isAhead 20 = .ok (.iadd, 1) := by decide +kernel
theorem dX12_isAhead_21 : decode cX12_isAhead 21 = .ok (.iaload, 1) := by decide +kernel
theorem dX12_isAhead_22 : decode cX12_isAhead 22 = .ok (.isub, 1) := by decide +kernel
theorem dX12_isAhead_23 : decode cX12_isAhead 23 = .ok (.istore_n 3, 1) := by decide +kernel
theorem dX12_isAhead_24 : decode cX12_isAhead 24 = .ok (.iload_n 3, 1) := by decide +kernel
theorem dX12_isAhead_25 : decode cX12_isAhead 25 = .ok (.ifCond .ne 37, 3) := by decide +kernel
theorem dX12_isAhead_28 : decode cX12_isAhead 28 = .ok (.aload_n 0, 1) := by decide +kernel
theorem dX12_isAhead_29 : decode cX12_isAhead 29 = .ok (.getfield 7, 3) := by decide +kernel
theorem dX12_isAhead_32 : decode cX12_isAhead 32 = .ok (.aload_n 0, 1) := by decide +kernel
theorem dX12_isAhead_33 : decode cX12_isAhead 33 = .ok (.getfield 66, 3) := by decide +kernel
theorem dX12_isAhead_36 : decode cX12_isAhead 36 = .ok (.bipush 6, 2) := by decide +kernel
theorem dX12_isAhead_38 : decode cX12_isAhead 38 = .ok (.iload_n 1, 1) := by decide +kernel
theorem dX12_isAhead_39 : decode cX12_isAhead 39 = .ok (.imul, 1) := by decide +kernel
theorem dX12_isAhead_40 : decode cX12_isAhead 40 = .ok (.iconst 4, 1) := by decide +kernel
theorem dX12_isAhead_41 : decode cX12_isAhead 41 = .ok (.iadd, 1) := by decide +kernel
theorem dX12_isAhead_42 : decode cX12_isAhead 42 = .ok (.iaload, 1) := by decide +kernel
theorem dX12_isAhead_43 : decode cX12_isAhead 43 = .ok (.iaload, 1) := by decide +kernel
theorem dX12_isAhead_44 : decode cX12_isAhead 44 = .ok (.aload_n 0, 1) := by decide +kernel
theorem dX12_isAhead_45 : decode cX12_isAhead 45 = .ok (.getfield 7, 3) := by decide +kernel
theorem dX12_isAhead_48 : decode cX12_isAhead 48 = .ok (.aload_n 0, 1) := by decide +kernel
theorem dX12_isAhead_49 : decode cX12_isAhead 49 = .ok (.getfield 66, 3) := by decide +kernel
theorem dX12_isAhead_52 : decode cX12_isAhead 52 = .ok (.bipush 6, 2) := by decide +kernel
theorem dX12_isAhead_54 : decode cX12_isAhead 54 = .ok (.iload_n 2, 1) := by decide +kernel
theorem dX12_isAhead_55 : decode cX12_isAhead 55 = .ok (.imul, 1) := by decide +kernel
theorem dX12_isAhead_56 : decode cX12_isAhead 56 = .ok (.iconst 4, 1) := by decide +kernel
theorem dX12_isAhead_57 : decode cX12_isAhead 57 = .ok (.iadd, 1) := by decide +kernel
theorem dX12_isAhead_58 : decode cX12_isAhead 58 = .ok (.iaload, 1) := by decide +kernel
theorem dX12_isAhead_59 : decode cX12_isAhead 59 = .ok (.iaload, 1) := by decide +kernel
theorem dX12_isAhead_60 : decode cX12_isAhead 60 = .ok (.isub, 1) := by decide +kernel
theorem dX12_isAhead_61 : decode cX12_isAhead 61 = .ok (.istore_n 3, 1) := by decide +kernel
theorem dX12_isAhead_62 : decode cX12_isAhead 62 = .ok (.iload_n 3, 1) := by decide +kernel
theorem dX12_isAhead_63 : decode cX12_isAhead 63 = .ok (.ifCond .ne 27, 3) := by decide +kernel
theorem dX12_isAhead_66 : decode cX12_isAhead 66 = .ok (.aload_n 0, 1) := by decide +kernel
theorem dX12_isAhead_67 : decode cX12_isAhead 67 = .ok (.getfield 66, 3) := by decide +kernel
theorem dX12_isAhead_70 : decode cX12_isAhead 70 = .ok (.bipush 6, 2) := by decide +kernel
theorem dX12_isAhead_72 : decode cX12_isAhead 72 = .ok (.iload_n 1, 1) := by decide +kernel
theorem dX12_isAhead_73 : decode cX12_isAhead 73 = .ok (.imul, 1) := by decide +kernel
theorem dX12_isAhead_74 : decode cX12_isAhead 74 = .ok (.iconst 2, 1) := by decide +kernel
theorem dX12_isAhead_75 : decode cX12_isAhead 75 = .ok (.iadd, 1) := by decide +kernel
theorem dX12_isAhead_76 : decode cX12_isAhead 76 = .ok (.iaload, 1) := by decide +kernel
theorem dX12_isAhead_77 : decode cX12_isAhead 77 = .ok (.aload_n 0, 1) := by decide +kernel
theorem dX12_isAhead_78 : decode cX12_isAhead 78 = .ok (.getfield 66, 3) := by decide +kernel
theorem dX12_isAhead_81 : decode cX12_isAhead 81 = .ok (.bipush 6, 2) := by decide +kernel
theorem dX12_isAhead_83 : decode cX12_isAhead 83 = .ok (.iload_n 2, 1) := by decide +kernel
theorem dX12_isAhead_84 : decode cX12_isAhead 84 = .ok (.imul, 1) := by decide +kernel
theorem dX12_isAhead_85 : decode cX12_isAhead 85 = .ok (.iconst 2, 1) := by decide +kernel
theorem dX12_isAhead_86 : decode cX12_isAhead 86 = .ok (.iadd, 1) := by decide +kernel
theorem dX12_isAhead_87 : decode cX12_isAhead 87 = .ok (.iaload, 1) := by decide +kernel
theorem dX12_isAhead_88 : decode cX12_isAhead 88 = .ok (.isub, 1) := by decide +kernel
theorem dX12_isAhead_89 : decode cX12_isAhead 89 = .ok (.istore_n 3, 1) := by decide +kernel
theorem dX12_isAhead_90 : decode cX12_isAhead 90 = .ok (.iload_n 3, 1) := by decide +kernel
theorem dX12_isAhead_91 : decode cX12_isAhead 91 = .ok (.ifCond .ne 27, 3) := by decide +kernel
theorem dX12_isAhead_94 : decode cX12_isAhead 94 = .ok (.aload_n 0, 1) := by decide +kernel
theorem dX12_isAhead_95 : decode cX12_isAhead 95 = .ok (.getfield 66, 3) := by decide +kernel
theorem dX12_isAhead_98 : decode cX12_isAhead 98 = .ok (.bipush 6, 2) := by decide +kernel
theorem dX12_isAhead_100 : decode cX12_isAhead 100 = .ok (.iload_n 1, 1) := by decide +kernel
theorem dX12_isAhead_101 : decode cX12_isAhead 101 = .ok (.imul, 1) := by decide +kernel
theorem dX12_isAhead_102 : decode cX12_isAhead 102 = .ok (.iconst 4, 1) := by decide +kernel
theorem dX12_isAhead_103 : decode cX12_isAhead 103 = .ok (.iadd, 1) := by decide +kernel
theorem dX12_isAhead_104 : decode cX12_isAhead 104 = .ok (.iaload, 1) := by decide +kernel
theorem dX12_isAhead_105 : decode cX12_isAhead 105 = .ok (.aload_n 0, 1) := by decide +kernel
theorem dX12_isAhead_106 : decode cX12_isAhead 106 = .ok (.getfield 66, 3) := by decide +kernel
theorem dX12_isAhead_109 : decode cX12_isAhead 109 = .ok (.bipush 6, 2) := by decide +kernel
theorem dX12_isAhead_111 : decode cX12_isAhead 111 = .ok (.iload_n 2, 1) := by decide +kernel
theorem dX12_isAhead_112 : decode cX12_isAhead 112 = .ok (.imul, 1) := by decide +kernel
theorem dX12_isAhead_113 : decode cX12_isAhead 113 = .ok (.iconst 4, 1) := by decide +kernel
theorem dX12_isAhead_114 : decode cX12_isAhead 114 = .ok (.iadd, 1) := by decide +kernel
theorem dX12_isAhead_115 : decode cX12_isAhead 115 = .ok (.iaload, 1) := by decide +kernel
theorem dX12_isAhead_116 : decode cX12_isAhead 116 = .ok (.isub, 1) := by decide +kernel
theorem dX12_isAhead_117 : decode cX12_isAhead 117 = .ok (.istore_n 3, 1) := by decide +kernel
theorem dX12_isAhead_118 : decode cX12_isAhead 118 = .ok (.iload_n 3, 1) := by decide +kernel
theorem dX12_isAhead_119 : decode cX12_isAhead 119 = .ok (.ifCond .ne 16, 3) := by decide +kernel
theorem dX12_isAhead_122 : decode cX12_isAhead 122 = .ok (.iload_n 1, 1) := by decide +kernel
theorem dX12_isAhead_123 : decode cX12_isAhead 123 = .ok (.iload_n 2, 1) := by decide +kernel
theorem dX12_isAhead_124 : decode cX12_isAhead 124 = .ok (.if_icmp .ge 7, 3) := by decide +kernel
theorem dX12_isAhead_127 : decode cX12_isAhead 127 = .ok (.iconst 1, 1) := by decide +kernel
theorem dX12_isAhead_128 : decode cX12_isAhead 128 = .ok (.goto 16, 3) := by decide +kernel
theorem dX12_isAhead_131 : decode cX12_isAhead 131 = .ok (.iconst 0, 1) := by decide +kernel
theorem dX12_isAhead_132 : decode cX12_isAhead 132 = .ok (.goto 12, 3) := by decide +kernel
theorem dX12_isAhead_135 : decode cX12_isAhead 135 = .ok (.iload_n 3, 1) := by decide +kernel
theorem dX12_isAhead_136 : decode cX12_isAhead 136 = .ok (.ifCond .ge 7, 3) := by decide +kernel
theorem dX12_isAhead_139 : decode cX12_isAhead 139 = .ok (.iconst 1, 1) := by decide +kernel
theorem dX12_isAhead_140 : decode cX12_isAhead 140 = .ok (.goto 4, 3) := by decide +kernel
theorem dX12_isAhead_143 : decode cX12_isAhead 143 = .ok (.iconst 0, 1) := by decide +kernel
theorem dX12_isAhead_144 : decode cX12_isAhead 144 = .ok (.ireturn, 1) := by decide +kernel
theorem dX12_cut_0 : decode cX12_cut 0 = .ok (.aload_n 0, 1) := by decide +kernel
theorem dX12_cut_1 : decode cX12_cut 1 = .ok (.getfield 66, 3) := by decide +kernel
theorem dX12_cut_4 : decode cX12_cut 4 = .ok (.bipush 6, 2) := by decide +kernel
theorem dX12_cut_6 : decode cX12_cut 6 = .ok (.iload_n 1, 1) := by decide +kernel
theorem dX12_cut_7 : decode cX12_cut 7 = .ok (.imul, 1) := by decide +kernel
theorem dX12_cut_8 : decode cX12_cut 8 = .ok (.iconst 0, 1) := by decide +kernel
theorem dX12_cut_9 : decode cX12_cut 9 = .ok (.iadd, 1) := by decide +kernel
theorem dX12_cut_10 : decode cX12_cut 10 = .ok (.iaload, 1) := by decide +kernel
theorem dX12_cut_11 : decode cX12_cut 11 = .ok (.istore_n 2, 1) := by decide +kernel
theorem dX12_cut_12 : decode cX12_cut 12 = .ok (.iload_n 2, 1) := by decide +kernel
theorem dX12_cut_13 : decode cX12_cut 13 = .ok (.aload_n 0, 1) := by decide +kernel
theorem dX12_cut_14 : decode cX12_cut 14 = .ok (.getfield 66, 3) := by decide +kernel
theorem dX12_cut_17 : decode cX12_cut 17 = .ok (.bipush 6, 2) := by decide +kernel
theorem dX12_cut_19 : decode cX12_cut 19 = .ok (.iload_n 1, 1) := by decide +kernel
theorem dX12_cut_20 : decode cX12_cut 20 = .ok (.imul, 1) := by decide +kernel
theorem dX12_cut_21 : decode cX12_cut 21 = .ok (.iconst 1, 1) := by decide +kernel
theorem dX12_cut_22 : decode cX12_cut 22 = .ok (.iadd, 1) := by decide +kernel
theorem dX12_cut_23 : decode cX12_cut 23 = .ok (.iaload, 1) := by decide +kernel
theorem dX12_cut_24 : decode cX12_cut 24 = .ok (.iadd, 1) := by decide +kernel
theorem dX12_cut_25 : decode cX12_cut 25 = .ok (.istore_n 3, 1) := by decide +kernel
theorem dX12_cut_26 : decode cX12_cut 26 = .ok (.iconst 0, 1) := by decide +kernel
theorem dX12_cut_27 : decode cX12_cut 27 = .ok (.istore 4, 2) := by decide +kernel
theorem dX12_cut_29 : decode cX12_cut 29 = .ok (.iload 4, 2) := by decide +kernel
theorem dX12_cut_31 : decode cX12_cut 31 = .ok (.aload_n 0, 1) := by decide +kernel
theorem dX12_cut_32 : decode cX12_cut 32 = .ok (.getfield 209, 3) := by decide +kernel
theorem dX12_cut_35 : decode cX12_cut 35 = .ok (.if_icmp .ge 116, 3) := by decide +kernel
theorem dX12_cut_38 : decode cX12_cut 38 = .ok (.aload_n 0, 1) := by decide +kernel
theorem dX12_cut_39 : decode cX12_cut 39 = .ok (.getfield 7, 3) := by decide +kernel
theorem dX12_cut_42 : decode cX12_cut 42 = .ok (.aload_n 0, 1) := by decide +kernel
theorem dX12_cut_43 : decode cX12_cut 43 = .ok (.getfield 66, 3) := by decide +kernel
theorem dX12_cut_46 : decode cX12_cut 46 = .ok (.bipush 6, 2) := by decide +kernel
theorem dX12_cut_48 : decode cX12_cut 48 = .ok (.iload_n 1, 1) := by decide +kernel
theorem dX12_cut_49 : decode cX12_cut 49 = .ok (.imul, 1) := by decide +kernel
theorem dX12_cut_50 : decode cX12_cut 50 = .ok (.iconst 4, 1) := by decide +kernel
theorem dX12_cut_51 : decode cX12_cut 51 = .ok (.iadd, 1) := by decide +kernel
theorem dX12_cut_52 : decode cX12_cut 52 = .ok (.iaload, 1) := by decide +kernel
theorem dX12_cut_53 : decode cX12_cut 53 = .ok (.iaload, 1) := by decide +kernel
theorem dX12_cut_54 : decode cX12_cut 54 = .ok (.aload_n 0, 1) := by decide +kernel
theorem dX12_cut_55 : decode cX12_cut 55 = .ok (.getfield 7, 3) := by decide +kernel
theorem dX12_cut_58 : decode cX12_cut 58 = .ok (.aload_n 0, 1) := by decide +kernel
theorem dX12_cut_59 : decode cX12_cut 59 = .ok (.getfield 66, 3) := by decide +kernel
theorem dX12_cut_62 : decode cX12_cut 62 = .ok (.bipush 6, 2) := by decide +kernel
theorem dX12_cut_64 : decode cX12_cut 64 = .ok (.iload 4, 2) := by decide +kernel
theorem dX12_cut_66 : decode cX12_cut 66 = .ok (.imul, 1) := by decide +kernel
theorem dX12_cut_67 : decode cX12_cut 67 = .ok (.iconst 4, 1) := by decide +kernel
theorem dX12_cut_68 : decode cX12_cut 68 = .ok (.iadd, 1) := by decide +kernel
theorem dX12_cut_69 : decode cX12_cut 69 = .ok (.iaload, 1) := by decide +kernel
theorem dX12_cut_70 : decode cX12_cut 70 = .ok (.iaload, 1) := by decide +kernel
theorem dX12_cut_71 : decode cX12_cut 71 = .ok (.if_icmp .ne 33, 3) := by decide +kernel
theorem dX12_cut_74 : decode cX12_cut 74 = .ok (.aload_n 0, 1) := by decide +kernel
theorem dX12_cut_75 : decode cX12_cut 75 = .ok (.getfield 66, 3) := by decide +kernel
theorem dX12_cut_78 : decode cX12_cut 78 = .ok (.bipush 6, 2) := by decide +kernel
theorem dX12_cut_80 : decode cX12_cut 80 = .ok (.iload_n 1, 1) := by decide +kernel
theorem dX12_cut_81 : decode cX12_cut 81 = .ok (.imul, 1) := by decide +kernel
theorem dX12_cut_82 : decode cX12_cut 82 = .ok (.iconst 2, 1) := by decide +kernel
theorem dX12_cut_83 : decode cX12_cut 83 = .ok (.iadd, 1) := by decide +kernel
theorem dX12_cut_84 : decode cX12_cut 84 = .ok (.iaload, 1) := by decide +kernel
theorem dX12_cut_85 : decode cX12_cut 85 = .ok (.aload_n 0, 1) := by decide +kernel
theorem dX12_cut_86 : decode cX12_cut 86 = .ok (.getfield 66, 3) := by decide +kernel
theorem dX12_cut_89 : decode cX12_cut 89 = .ok (.bipush 6, 2) := by decide +kernel
theorem dX12_cut_91 : decode cX12_cut 91 = .ok (.iload 4, 2) := by decide +kernel
theorem dX12_cut_93 : decode cX12_cut 93 = .ok (.imul, 1) := by decide +kernel
theorem dX12_cut_94 : decode cX12_cut 94 = .ok (.iconst 2, 1) := by decide +kernel
theorem dX12_cut_95 : decode cX12_cut 95 = .ok (.iadd, 1) := by decide +kernel
theorem dX12_cut_96 : decode cX12_cut 96 = .ok (.iaload, 1) := by decide +kernel
theorem dX12_cut_97 : decode cX12_cut 97 = .ok (.if_icmp .ne 7, 3) := by decide +kernel
theorem dX12_cut_100 : decode cX12_cut 100 = .ok (.iconst 1, 1) := by decide +kernel
theorem dX12_cut_101 : decode cX12_cut 101 = .ok (.goto 4, 3) := by decide +kernel
theorem dX12_cut_104 : decode cX12_cut 104 = .ok (.iconst 0, 1) := by decide +kernel
theorem dX12_cut_105 : decode cX12_cut 105 = .ok (.istore 5, 2) := by decide +kernel
theorem dX12_cut_107 : decode cX12_cut 107 = .ok (.aload_n 0, 1) := by decide +kernel
theorem dX12_cut_108 : decode cX12_cut 108 = .ok (.getfield 66, 3) := by decide +kernel
theorem dX12_cut_111 : decode cX12_cut 111 = .ok (.bipush 6, 2) := by decide +kernel
theorem dX12_cut_113 : decode cX12_cut 113 = .ok (.iload 4, 2) := by decide +kernel
theorem dX12_cut_115 : decode cX12_cut 115 = .ok (.imul, 1) := by decide +kernel
theorem dX12_cut_116 : decode cX12_cut 116 = .ok (.iconst 0, 1) := by decide +kernel
theorem dX12_cut_117 : decode cX12_cut 117 = .ok (.iadd, 1) := by decide +kernel
theorem dX12_cut_118 : decode cX12_cut 118 = .ok (.iaload, 1) := by decide +kernel
theorem dX12_cut_119 : decode cX12_cut 119 = .ok (.istore 6, 2) := by decide +kernel
theorem dX12_cut_121 : decode cX12_cut 121 = .ok (.iload 5, 2) := by decide +kernel
theorem dX12_cut_123 : decode cX12_cut 123 = .ok (.ifCond .eq 20, 3) := by decide +kernel
theorem dX12_cut_126 : decode cX12_cut 126 = .ok (.iload 6, 2) := by decide +kernel
theorem dX12_cut_128 : decode cX12_cut 128 = .ok (.iload_n 2, 1) := by decide +kernel
theorem dX12_cut_129 : decode cX12_cut 129 = .ok (.if_icmp .le 14, 3) := by decide +kernel
theorem dX12_cut_132 : decode cX12_cut 132 = .ok (.iload 6, 2) := by decide +kernel
theorem dX12_cut_134 : decode cX12_cut 134 = .ok (.iload_n 3, 1) := by decide +kernel
theorem dX12_cut_135 : decode cX12_cut 135 = .ok (.if_icmp .ge 8, 3) := by decide +kernel
theorem dX12_cut_138 : decode cX12_cut 138 = .ok (.iload 6, 2) := by decide +kernel
theorem dX12_cut_140 : decode cX12_cut 140 = .ok (.goto 4, 3) := by decide +kernel
theorem dX12_cut_143 : decode cX12_cut 143 = .ok (.iload_n 3, 1) := by decide +kernel
theorem dX12_cut_144 : decode cX12_cut 144 = .ok (.istore_n 3, 1) := by decide +kernel
theorem dX12_cut_145 : decode cX12_cut 145 = .ok (.iinc 4 1, 3) := by decide +kernel
theorem dX12_cut_148 : decode cX12_cut 148 = .ok (.goto (-119), 3) := by decide +kernel
theorem dX12_cut_151 : decode cX12_cut 151 = .ok (.iload_n 3, 1) := by decide +kernel
theorem dX12_cut_152 : decode cX12_cut 152 = .ok (.iload_n 2, 1) := by decide +kernel
theorem dX12_cut_153 : decode cX12_cut 153 = .ok (.isub, 1) := by decide +kernel
theorem dX12_cut_154 : decode cX12_cut 154 = .ok (.ireturn, 1) := by decide +kernel
set_option maxRecDepth 20000 in
theorem ggX12_perform_X12_performNote : GoodIn wsX12_perform wsX12_performNote := goodIn_r _ [10, 11, 12, 13, 14, 15, 16, 17, 9, 18, 19, 20, 21, 22, 23, 24, 25, 26, 27, 28, 29, 30, 31, 32, 33, 34, 35, 36, 37, 38, 39, 40, 41, 42, 43, 44, 45, 46, 47, 48, 49, 50, 51, 52, 53, 54, 55, 56, 57, 58, 59, 60, 61, 62, 63, 64, 65, 66, 67, 68, 69, 70, 71, 72, 73, 74, 75, 76, 77, 2, 78, 79, 80, 81, 82, 1, 5, 83, 84, 85, 86, 87, 88, 89, 90, 91, 92, 93, 94, 95, 104, 105, 106, 107, 108, 109, 110, 111, 112, 113, 114, 115, 116, 117, 118, 119, 120, 121, 122, 123, 124, 125, 126, 127, 128, 129, 130, 131, 132, 133, 134, 135, 136, 137, 138] (by decide +kernel) (by decide +kernel)
set_option maxRecDepth 20000 in
theorem gX12_perform_X12_performNote : GoodIn wsX12_perform (wsV RX12 253 RX12 yX12_performNote wsX12_performNote) := goodIn_app (goodIn_of _ (by decide +kernel)) ggX12_perform_X12_performNote
set_option maxRecDepth 20000 in
theorem ggX12_perform_X12_isAhead : GoodIn wsX12_perform wsX12_isAhead := goodIn_r _ [99, 5, 14, 104, 105, 106, 107, 108, 109, 110, 111, 112, 113, 114, 115, 116, 117, 118, 119, 120, 121, 122, 123, 124, 125, 126, 127, 128, 129, 130, 131, 132, 133, 134, 135, 136, 137, 138] (by decide +kernel) (by decide +kernel)
set_option maxRecDepth 20000 in
theorem gX12_perform_X12_isAhead : GoodIn wsX12_perform (wsV RX12 260 RX12 yX12_isAhead wsX12_isAhead) := goodIn_app (goodIn_of _ (by decide +kernel)) ggX12_perform_X12_isAhead
set_option maxRecDepth 20000 in
theorem ggX12_perform_X12_cut : GoodIn wsX12_perform wsX12_cut := goodIn_r _ [103, 5, 1, 14, 104, 105, 106, 107, 108, 109, 110, 111, 112, 113, 114, 115, 116, 117, 118, 119, 120, 121, 122, 123, 124, 125, 126, 127, 128, 129, 130, 131, 132, 133, 134, 135, 136, 137, 138] (by decide +kernel) (by decide +kernel)
set_option maxRecDepth 20000 in
theorem gX12_perform_X12_cut : GoodIn wsX12_perform (wsV RX12 263 RX12 yX12_cut wsX12_cut) := goodIn_app (goodIn_of _ (by decide +kernel)) ggX12_perform_X12_cut
theorem dX12_perform_0 : decode cX12_perform 0 = .ok (.aload_n 0, 1) := by decide +kernel
theorem dX12_perform_1 : decode cX12_perform 1 = .ok (.iconst 0, 1) := by decide +kernel
theorem dX12_perform_2 : decode cX12_perform 2 = .ok (.putfield 209, 3) := by decide +kernel
theorem dX12_perform_5 : decode cX12_perform 5 = .ok (.iconst 0, 1) := by decide +kernel
theorem dX12_perform_6 : decode cX12_perform 6 = .ok (.istore_n 1, 1) := by decide +kernel
theorem dX12_perform_7 : decode cX12_perform 7 = .ok (.iload_n 1, 1) := by decide +kernel
theorem dX12_perform_8 : decode cX12_perform 8 = .ok (.aload_n 0, 1) := by decide +kernel
theorem dX12_perform_9 : decode cX12_perform 9 = .ok (.getfield 92, 3) := by decide +kernel
theorem dX12_perform_12 : decode cX12_perform 12 = .ok (.if_icmp .ge 14, 3) := by decide +kernel
theorem dX12_perform_15 : decode cX12_perform 15 = .ok (.aload_n 0, 1) := by decide +kernel
theorem dX12_perform_16 : decode cX12_perform 16 = .ok (.iload_n 1, 1) := by decide +kernel
theorem dX12_perform_17 : decode cX12_perform 17 = .ok (.invokevirtual 253, 3) := by decide +kernel
theorem dX12_perform_20 : decode cX12_perform 20 = .ok (.iinc 1 1, 3) := by decide +kernel
theorem dX12_perform_23 : decode cX12_perform 23 = .ok (.goto (-16), 3) := by decide +kernel
theorem dX12_perform_26 : decode cX12_perform 26 = .ok (.aload_n 0, 1) := by decide +kernel
theorem dX12_perform_27 : decode cX12_perform 27 = .ok (.getfield 209, 3) := by decide +kernel
theorem dX12_perform_30 : decode cX12_perform 30 = .ok (.sipush 400, 3) := by decide +kernel
theorem dX12_perform_33 : decode cX12_perform 33 = .ok (.if_icmp .le 7, 3) := by decide +kernel
theorem dX12_perform_36 : decode cX12_perform 36 = .ok (.sipush (-1004), 3) := by decide +kernel
theorem dX12_perform_39 : decode cX12_perform 39 = .ok (.ireturn, 1) := by decide +kernel
theorem dX12_perform_40 : decode cX12_perform 40 = .ok (.aload_n 0, 1) := by decide +kernel
theorem dX12_perform_41 : decode cX12_perform 41 = .ok (.aload_n 0, 1) := by decide +kernel
theorem dX12_perform_42 : decode cX12_perform 42 = .ok (.getfield 209, 3) := by decide +kernel
theorem dX12_perform_45 : decode cX12_perform 45 = .ok (.putfield 257, 3) := by decide +kernel
theorem dX12_perform_48 : decode cX12_perform 48 = .ok (.iconst 0, 1) := by decide +kernel
theorem dX12_perform_49 : decode cX12_perform 49 = .ok (.istore_n 1, 1) := by decide +kernel
theorem dX12_perform_50 : decode cX12_perform 50 = .ok (.iload_n 1, 1) := by decide +kernel
theorem dX12_perform_51 : decode cX12_perform 51 = .ok (.aload_n 0, 1) := by decide +kernel
theorem dX12_perform_52 : decode cX12_perform 52 = .ok (.getfield 209, 3) := by decide +kernel
theorem dX12_perform_55 : decode cX12_perform 55 = .ok (.if_icmp .ge 96, 3) := by decide +kernel
theorem dX12_perform_58 : decode cX12_perform 58 = .ok (.iconst 0, 1) := by decide +kernel
theorem dX12_perform_59 : decode cX12_perform 59 = .ok (.istore_n 2, 1) := by decide +kernel
theorem dX12_perform_60 : decode cX12_perform 60 = .ok (.iconst 0, 1) := by decide +kernel
theorem dX12_perform_61 : decode cX12_perform 61 = .ok (.istore_n 3, 1) := by decide +kernel
theorem dX12_perform_62 : decode cX12_perform 62 = .ok (.iload_n 3, 1) := by decide +kernel
theorem dX12_perform_63 : decode cX12_perform 63 = .ok (.aload_n 0, 1) := by decide +kernel
theorem dX12_perform_64 : decode cX12_perform 64 = .ok (.getfield 209, 3) := by decide +kernel
theorem dX12_perform_67 : decode cX12_perform 67 = .ok (.if_icmp .ge 26, 3) := by decide +kernel
theorem dX12_perform_70 : decode cX12_perform 70 = .ok (.iload_n 2, 1) := by decide +kernel
theorem dX12_perform_71 : decode cX12_perform 71 = .ok (.aload_n 0, 1) := by decide +kernel
theorem dX12_perform_72 : decode cX12_perform 72 = .ok (.iload_n 3, 1) := by decide +kernel
theorem dX12_perform_73 : decode cX12_perform 73 = .ok (.iload_n 1, 1) := by decide +kernel
theorem dX12_perform_74 : decode cX12_perform 74 = .ok (.invokevirtual 260, 3) := by decide +kernel
theorem dX12_perform_77 : decode cX12_perform 77 = .ok (.ifCond .eq 7, 3) := by decide +kernel
theorem dX12_perform_80 : decode cX12_perform 80 = .ok (.iconst 1, 1) := by decide +kernel
theorem dX12_perform_81 : decode cX12_perform 81 = .ok (.goto 4, 3) := by decide +kernel
theorem dX12_perform_84 : decode cX12_perform 84 = .ok (.iconst 0, 1) := by decide +kernel
theorem dX12_perform_85 : decode cX12_perform 85 = .ok (.iadd, 1) := by decide +kernel
theorem dX12_perform_86 : decode cX12_perform 86 = .ok (.istore_n 2, 1) := by decide +kernel
theorem dX12_perform_87 : decode cX12_perform 87 = .ok (.iinc 3 1, 3) := by decide +kernel
theorem dX12_perform_90 : decode cX12_perform 90 = .ok (.goto (-28), 3) := by decide +kernel
theorem dX12_perform_93 : decode cX12_perform 93 = .ok (.iconst 0, 1) := by decide +kernel
theorem dX12_perform_94 : decode cX12_perform 94 = .ok (.istore_n 3, 1) := by decide +kernel
theorem dX12_perform_95 : decode cX12_perform 95 = .ok (.iload_n 3, 1) := by decide +kernel
theorem dX12_perform_96 : decode cX12_perform 96 = .ok (.bipush 6, 2) := by decide +kernel
theorem dX12_perform_98 : decode cX12_perform 98 = .ok (.if_icmp .ge 31, 3) := by decide +kernel
theorem dX12_perform_101 : decode cX12_perform 101 = .ok (.aload_n 0, 1) := by decide +kernel
theorem dX12_perform_102 : decode cX12_perform 102 = .ok (.getfield 69, 3) := by decide +kernel
theorem dX12_perform_105 : decode cX12_perform 105 = .ok (.bipush 6, 2) := by decide +kernel
theorem dX12_perform_107 : decode cX12_perform 107 = .ok (.iload_n 2, 1) := by decide +kernel
theorem dX12_perform_108 : decode cX12_perform 108 = .ok (.imul, 1) := by decide +kernel
theorem dX12_perform_109 : decode cX12_perform 109 = .ok (.iload_n 3, 1) := by decide +kernel
theorem dX12_perform_110 : decode cX12_perform 110 = .ok (.iadd, 1) := by decide +kernel
theorem dX12_perform_111 : decode cX12_perform 111 = .ok (.aload_n 0, 1) := by decide +kernel
theorem dX12_perform_112 : decode cX12_perform 112 = .ok (.getfield 66, 3) := by decide +kernel
theorem dX12_perform_115 : decode cX12_perform 115 = .ok (.bipush 6, 2) := by decide +kernel
theorem dX12_perform_117 : decode cX12_perform 117 = .ok (.iload_n 1, 1) := by decide +kernel
theorem dX12_perform_118 : decode cX12_perform 118 = .ok (.imul, 1) := by decide +kernel
theorem dX12_perform_119 : decode cX12_perform 119 = .ok (.iload_n 3, 1) := by decide +kernel
theorem dX12_perform_120 : decode cX12_perform 120 = .ok (.iadd, 1) := by decide +kernel
theorem dX12_perform_121 : decode cX12_perform 121 = .ok (.iaload, 1) := by decide +kernel
theorem dX12_perform_122 : decode cX12_perform 122 = .ok (.iastore, 1) := by decide +kernel
theorem dX12_perform_123 : decode cX12_perform 123 = .ok (.iinc 3 1, 3) := by decide +kernel
theorem dX12_perform_126 : decode cX12_perform 126 = .ok (.goto (-31), 3) := by decide +kernel
theorem dX12_perform_129 : decode cX12_perform 129 = .ok (.aload_n 0, 1) := by decide +kernel
theorem dX12_perform_130 : decode cX12_perform 130 = .ok (.getfield 69, 3) := by decide +kernel
theorem dX12_perform_133 : decode cX12_perform 133 = .ok (.bipush 6, 2) := by decide +kernel
theorem dX12_perform_135 : decode cX12_perform 135 = .ok (.iload_n 2, 1) := by decide +kernel
theorem dX12_perform_136 : decode cX12_perform 136 = .ok (.imul, 1) := by decide +kernel
theorem dX12_perform_137 : decode cX12_perform 137 = .ok (.iconst 1, 1) := by decide +kernel
theorem dX12_perform_138 : decode cX12_perform 138 = .ok (.iadd, 1) := by decide +kernel
theorem dX12_perform_139 : decode cX12_perform 139 = .ok (.aload_n 0, 1) := by decide +kernel
theorem dX12_perform_140 : decode cX12_perform 140 = .ok (.iload_n 1, 1) := by decide +kernel
theorem dX12_perform_141 : decode cX12_perform 141 = .ok (.invokevirtual 263, 3) := by decide +kernel
theorem dX12_perform_144 : decode cX12_perform 144 = .ok (.iastore, 1) := by decide +kernel
theorem dX12_perform_145 : decode cX12_perform 145 = .ok (.iinc 1 1, 3) := by decide +kernel
theorem dX12_perform_148 : decode cX12_perform 148 = .ok (.goto (-98), 3) := by decide +kernel
theorem dX12_perform_151 : decode cX12_perform 151 = .ok (.aload_n 0, 1) := by decide +kernel
theorem dX12_perform_152 : decode cX12_perform 152 = .ok (.getfield 257, 3) := by decide +kernel
theorem dX12_perform_155 : decode cX12_perform 155 = .ok (.ireturn, 1) := by decide +kernel
set_option maxRecDepth 20000 in
theorem ggX12_event_X12_in : GoodIn wsX12_event wsX12_in := goodIn_r _ [8] (by decide +kernel) (by decide +kernel)
set_option maxRecDepth 20000 in
theorem gX12_event_X12_in : GoodIn wsX12_event (va_wsS RX12 78 yX12_in wsX12_in) := goodIn_app (goodIn_of _ (by decide +kernel)) ggX12_event_X12_in
theorem dX12_event_0 : decode cX12_event 0 = .ok (.iload_n 1, 1) := by decide +kernel
theorem dX12_event_1 : decode cX12_event 1 = .ok (.i2l, 1) := by decide +kernel
theorem dX12_event_2 : decode cX12_event 2 = .ok (.lconst 0, 1) := by decide +kernel
theorem dX12_event_3 : decode cX12_event 3 = .ok (.aload_n 0, 1) := by decide +kernel
theorem dX12_event_4 : decode cX12_event 4 = .ok (.getfield 257, 3) := by decide +kernel
theorem dX12_event_7 : decode cX12_event 7 = .ok (.iconst 1, 1) := by decide +kernel
theorem dX12_event_8 : decode cX12_event 8 = .ok (.isub, 1) := by decide +kernel
theorem dX12_event_9 : decode cX12_event 9 = .ok (.i2l, 1) := by decide +kernel
theorem dX12_event_10 : decode cX12_event 10 = .ok (.invokestatic 78, 3) := by decide +kernel
theorem dX12_event_13 : decode cX12_event 13 = .ok (.ifCond .eq 15, 3) := by decide +kernel
theorem dX12_event_16 : decode cX12_event 16 = .ok (.iload_n 2, 1) := by decide +kernel
theorem dX12_event_17 : decode cX12_event 17 = .ok (.i2l, 1) := by decide +kernel
theorem dX12_event_18 : decode cX12_event 18 = .ok (.lconst 0, 1) := by decide +kernel
theorem dX12_event_19 : decode cX12_event 19 = .ok (.ldc2_w 266, 3) := by decide +kernel
theorem dX12_event_22 : decode cX12_event 22 = .ok (.invokestatic 78, 3) := by decide +kernel
theorem dX12_event_25 : decode cX12_event 25 = .ok (.ifCond .ne 7, 3) := by decide +kernel
theorem dX12_event_28 : decode cX12_event 28 = .ok (.sipush (-1001), 3) := by decide +kernel
theorem dX12_event_31 : decode cX12_event 31 = .ok (.ireturn, 1) := by decide +kernel
theorem dX12_event_32 : decode cX12_event 32 = .ok (.iload_n 2, 1) := by decide +kernel
theorem dX12_event_33 : decode cX12_event 33 = .ok (.bipush 6, 2) := by decide +kernel
theorem dX12_event_35 : decode cX12_event 35 = .ok (.if_icmp .ne 22, 3) := by decide +kernel
theorem dX12_event_38 : decode cX12_event 38 = .ok (.aload_n 0, 1) := by decide +kernel
theorem dX12_event_39 : decode cX12_event 39 = .ok (.getfield 7, 3) := by decide +kernel
theorem dX12_event_42 : decode cX12_event 42 = .ok (.aload_n 0, 1) := by decide +kernel
theorem dX12_event_43 : decode cX12_event 43 = .ok (.getfield 69, 3) := by decide +kernel
theorem dX12_event_46 : decode cX12_event 46 = .ok (.bipush 6, 2) := by decide +kernel
theorem dX12_event_48 : decode cX12_event 48 = .ok (.iload_n 1, 1) := by decide +kernel
theorem dX12_event_49 : decode cX12_event 49 = .ok (.imul, 1) := by decide +kernel
theorem dX12_event_50 : decode cX12_event 50 = .ok (.iconst 4, 1) := by decide +kernel
theorem dX12_event_51 : decode cX12_event 51 = .ok (.iadd, 1) := by decide +kernel
theorem dX12_event_52 : decode cX12_event 52 = .ok (.iaload, 1) := by decide +kernel
theorem dX12_event_53 : decode cX12_event 53 = .ok (.iaload, 1) := by decide +kernel
theorem dX12_event_54 : decode cX12_event 54 = .ok (.goto 14, 3) := by decide +kernel
theorem dX12_event_57 : decode cX12_event 57 = .ok (.aload_n 0, 1) := by decide +kernel
theorem dX12_event_58 : decode cX12_event 58 = .ok (.getfield 69, 3) := by decide +kernel
theorem dX12_event_61 : decode cX12_event 61 = .ok (.bipush 6, 2) := by decide +kernel
theorem dX12_event_63 : decode cX12_event 63 = .ok (.iload_n 1, 1) := by decide +kernel
theorem dX12_event_64 : decode cX12_event 64 = .ok (.imul, 1) := by decide +kernel
theorem dX12_event_65 : decode cX12_event 65 = .ok (.iload_n 2, 1) := by decide +kernel
theorem dX12_event_66 : decode cX12_event 66 = .ok (.iadd, 1) := by decide +kernel
theorem dX12_event_67 : decode cX12_event 67 = .ok (.iaload, 1) := by decide +kernel
theorem dX12_event_68 : decode cX12_event 68 = .ok (.ireturn, 1) := by decide +kernel
theorem dX12_sounding_0 : decode cX12_sounding 0 = .ok (.iconst 0, 1) := by decide +kernel
theorem dX12_sounding_1 : decode cX12_sounding 1 = .ok (.istore_n 2, 1) := by decide +kernel
theorem dX12_sounding_2 : decode cX12_sounding 2 = .ok (.iconst 0, 1) := by decide +kernel
theorem dX12_sounding_3 : decode cX12_sounding 3 = .ok (.istore_n 3, 1) := by decide +kernel
theorem dX12_sounding_4 : decode cX12_sounding 4 = .ok (.iload_n 3, 1) := by decide +kernel
theorem dX12_sounding_5 : decode cX12_sounding 5 = .ok (.aload_n 0, 1) := by decide +kernel
theorem dX12_sounding_6 : decode cX12_sounding 6 = .ok (.getfield 257, 3) := by decide +kernel
theorem dX12_sounding_9 : decode cX12_sounding 9 = .ok (.if_icmp .ge 55, 3) := by decide +kernel
theorem dX12_sounding_12 : decode cX12_sounding 12 = .ok (.iload_n 2, 1) := by decide +kernel
theorem dX12_sounding_13 : decode cX12_sounding 13 = .ok (.aload_n 0, 1) := by decide +kernel
theorem dX12_sounding_14 : decode cX12_sounding 14 = .ok (.getfield 69, 3) := by decide +kernel
theorem dX12_sounding_17 : decode cX12_sounding 17 = .ok (.bipush 6, 2) := by decide +kernel
theorem dX12_sounding_19 : decode cX12_sounding 19 = .ok (.iload_n 3, 1) := by decide +kernel
theorem dX12_sounding_20 : decode cX12_sounding 20 = .ok (.imul, 1) := by decide +kernel
theorem dX12_sounding_21 : decode cX12_sounding 21 = .ok (.iaload, 1) := by decide +kernel
theorem dX12_sounding_22 : decode cX12_sounding 22 = .ok (.iload_n 1, 1) := by decide +kernel
theorem dX12_sounding_23 : decode cX12_sounding 23 = .ok (.if_icmp .gt 32, 3) := by decide +kernel
theorem dX12_sounding_26 : decode cX12_sounding 26 = .ok (.aload_n 0, 1) := by decide +kernel
theorem dX12_sounding_27 : decode cX12_sounding 27 = .ok (.getfield 69, 3) := by decide +kernel
theorem dX12_sounding_30 : decode cX12_sounding 30 = .ok (.bipush 6, 2) := by decide +kernel
theorem dX12_sounding_32 : decode cX12_sounding 32 = .ok (.iload_n 3, 1) := by decide +kernel
theorem dX12_sounding_33 : decode cX12_sounding 33 = .ok (.imul, 1) := by decide +kernel
theorem dX12_sounding_34 : decode cX12_sounding 34 = .ok (.iaload, 1) := by decide +kernel
theorem dX12_sounding_35 : decode cX12_sounding 35 = .ok (.aload_n 0, 1) := by decide +kernel
theorem dX12_sounding_36 : decode cX12_sounding 36 = .ok (.getfield 69, 3) := by decide +kernel
theorem dX12_sounding_39 : decode cX12_sounding 39 = .ok (.bipush 6, 2) := by decide +kernel
theorem dX12_sounding_41 : decode cX12_sounding 41 = .ok (.iload_n 3, 1) := by decide +kernel
theorem dX12_sounding_42 : decode cX12_sounding 42 = .ok (.imul, 1) := by decide +kernel
theorem dX12_sounding_43 : decode cX12_sounding 43 = .ok (.iconst 1, 1) := by decide +kernel
theorem dX12_sounding_44 : decode cX12_sounding 44 = .ok (.iadd, 1) := by decide +kernel
theorem dX12_sounding_45 : decode cX12_sounding 45 = .ok (.iaload, 1) := by decide +kernel
theorem dX12_sounding_46 : decode cX12_sounding 46 = .ok (.iadd, 1) := by decide +kernel
theorem dX12_sounding_47 : decode cX12_sounding 47 = .ok (.iload_n 1, 1) := by decide +kernel
theorem dX12_sounding_48 : decode cX12_sounding 48 = .ok (.if_icmp .le 7, 3) := by decide +kernel
theorem dX12_sounding_51 : decode cX12_sounding 51 = .ok (.iconst 1, 1) := by decide +kernel
theorem dX12_sounding_52 : decode cX12_sounding 52 = .ok (.goto 4, 3) := by decide +kernel
theorem dX12_sounding_55 : decode cX12_sounding 55 = .ok (.iconst 0, 1) := by decide +kernel
theorem dX12_sounding_56 : decode cX12_sounding 56 = .ok (.iadd, 1) := by decide +kernel
theorem dX12_sounding_57 : decode cX12_sounding 57 = .ok (.istore_n 2, 1) := by decide +kernel
theorem dX12_sounding_58 : decode cX12_sounding 58 = .ok (.iinc 3 1, 3) := by decide +kernel
theorem dX12_sounding_61 : decode cX12_sounding 61 = .ok (.goto (-57), 3) := by decide +kernel
theorem dX12_sounding_64 : decode cX12_sounding 64 = .ok (.iload_n 2, 1) := by decide +kernel
theorem dX12_sounding_65 : decode cX12_sounding 65 = .ok (.ireturn, 1) := by decide +kernel
set_option maxRecDepth 20000 in
theorem ggX12_span_X12_isNote : GoodIn wsX12_span wsX12_isNote := goodIn_r _ [8, 9, 10, 11, 7, 12, 13, 14, 15, 16, 17, 18, 19, 20, 21, 22, 23, 24, 25, 26, 27, 28, 29, 30, 31, 32, 33, 34, 35, 36, 37, 38, 39, 40, 41, 42, 43, 44, 45, 46, 47] (by decide +kernel) (by decide +kernel)
set_option maxRecDepth 20000 in
theorem gX12_span_X12_isNote : GoodIn wsX12_span (wsV RX12 95 RX12 yX12_isNote wsX12_isNote) := goodIn_app (goodIn_of _ (by decide +kernel)) ggX12_span_X12_isNote
set_option maxRecDepth 20000 in
theorem ggX12_span_X12_in : GoodIn wsX12_span wsX12_in := goodIn_r _ [12] (by decide +kernel) (by decide +kernel)
set_option maxRecDepth 20000 in
theorem gX12_span_X12_in : GoodIn wsX12_span (va_wsS RX12 78 yX12_in wsX12_in) := goodIn_app (goodIn_of _ (by decide +kernel)) ggX12_span_X12_in
theorem dX12_span_0 : decode cX12_span 0 = .ok (.aload_n 0, 1) := by decide +kernel
theorem dX12_span_1 : decode cX12_span 1 = .ok (.iload_n 1, 1) := by decide +kernel
theorem dX12_span_2 : decode cX12_span 2 = .ok (.invokevirtual 95, 3) := by decide +kernel
theorem dX12_span_5 : decode cX12_span 5 = .ok (.ifCond .eq 15, 3) := by decide +kernel
theorem dX12_span_8 : decode cX12_span 8 = .ok (.iload_n 2, 1) := by decide +kernel
theorem dX12_span_9 : decode cX12_span 9 = .ok (.i2l, 1) := by decide +kernel
theorem dX12_span_10 : decode cX12_span 10 = .ok (.lconst 0, 1) := by decide +kernel
theorem dX12_span_11 : decode cX12_span 11 = .ok (.ldc2_w 228, 3) := by decide +kernel
theorem dX12_span_14 : decode cX12_span 14 = .ok (.invokestatic 78, 3) := by decide +kernel
theorem dX12_span_17 : decode cX12_span 17 = .ok (.ifCond .ne 7, 3) := by decide +kernel
theorem dX12_span_20 : decode cX12_span 20 = .ok (.sipush (-1001), 3) := by decide +kernel
theorem dX12_span_23 : decode cX12_span 23 = .ok (.ireturn, 1) := by decide +kernel
theorem dX12_span_24 : decode cX12_span 24 = .ok (.iconst 0, 1) := by decide +kernel
theorem dX12_span_25 : decode cX12_span 25 = .ok (.istore_n 3, 1) := by decide +kernel
theorem dX12_span_26 : decode cX12_span 26 = .ok (.iconst (-1), 1) := by decide +kernel
theorem dX12_span_27 : decode cX12_span 27 = .ok (.istore 4, 2) := by decide +kernel
theorem dX12_span_29 : decode cX12_span 29 = .ok (.iconst (-1), 1) := by decide +kernel
theorem dX12_span_30 : decode cX12_span 30 = .ok (.istore 5, 2) := by decide +kernel
theorem dX12_span_32 : decode cX12_span 32 = .ok (.iconst 0, 1) := by decide +kernel
theorem dX12_span_33 : decode cX12_span 33 = .ok (.istore 6, 2) := by decide +kernel
theorem dX12_span_35 : decode cX12_span 35 = .ok (.iload 6, 2) := by decide +kernel
theorem dX12_span_37 : decode cX12_span 37 = .ok (.aload_n 0, 1) := by decide +kernel
theorem dX12_span_38 : decode cX12_span 38 = .ok (.getfield 257, 3) := by decide +kernel
theorem dX12_span_41 : decode cX12_span 41 = .ok (.if_icmp .ge 109, 3) := by decide +kernel
theorem dX12_span_44 : decode cX12_span 44 = .ok (.aload_n 0, 1) := by decide +kernel
theorem dX12_span_45 : decode cX12_span 45 = .ok (.getfield 69, 3) := by decide +kernel
theorem dX12_span_48 : decode cX12_span 48 = .ok (.bipush 6, 2) := by decide +kernel
theorem dX12_span_50 : decode cX12_span 50 = .ok (.iload 6, 2) := by decide +kernel
theorem dX12_span_52 : decode cX12_span 52 = .ok (.imul, 1) := by decide +kernel
theorem dX12_span_53 : decode cX12_span 53 = .ok (.iconst 4, 1) := by decide +kernel
theorem dX12_span_54 : decode cX12_span 54 = .ok (.iadd, 1) := by decide +kernel
theorem dX12_span_55 : decode cX12_span 55 = .ok (.iaload, 1) := by decide +kernel
theorem dX12_span_56 : decode cX12_span 56 = .ok (.iload_n 1, 1) := by decide +kernel
theorem dX12_span_57 : decode cX12_span 57 = .ok (.if_icmp .ne 87, 3) := by decide +kernel
theorem dX12_span_60 : decode cX12_span 60 = .ok (.aload_n 0, 1) := by decide +kernel
theorem dX12_span_61 : decode cX12_span 61 = .ok (.getfield 69, 3) := by decide +kernel
theorem dX12_span_64 : decode cX12_span 64 = .ok (.bipush 6, 2) := by decide +kernel
theorem dX12_span_66 : decode cX12_span 66 = .ok (.iload 6, 2) := by decide +kernel
theorem dX12_span_68 : decode cX12_span 68 = .ok (.imul, 1) := by decide +kernel
theorem dX12_span_69 : decode cX12_span 69 = .ok (.iaload, 1) := by decide +kernel
theorem dX12_span_70 : decode cX12_span 70 = .ok (.aload_n 0, 1) := by decide +kernel
theorem dX12_span_71 : decode cX12_span 71 = .ok (.getfield 69, 3) := by decide +kernel
theorem dX12_span_74 : decode cX12_span 74 = .ok (.bipush 6, 2) := by decide +kernel
theorem dX12_span_76 : decode cX12_span 76 = .ok (.iload 6, 2) := by decide +kernel
theorem dX12_span_78 : decode cX12_span 78 = .ok (.imul, 1) := by decide +kernel
theorem dX12_span_79 : decode cX12_span 79 = .ok (.iconst 1, 1) := by decide +kernel
theorem dX12_span_80 : decode cX12_span 80 = .ok (.iadd, 1) := by decide +kernel
theorem dX12_span_81 : decode cX12_span 81 = .ok (.iaload, 1) := by decide +kernel
theorem dX12_span_82 : decode cX12_span 82 = .ok (.iadd, 1) := by decide +kernel
theorem dX12_span_83 : decode cX12_span 83 = .ok (.istore 7, 2) := by decide +kernel
theorem dX12_span_85 : decode cX12_span 85 = .ok (.iload_n 3, 1) := by decide +kernel
theorem dX12_span_86 : decode cX12_span 86 = .ok (.ifCond .eq 18, 3) := by decide +kernel
theorem dX12_span_89 : decode cX12_span 89 = .ok (.aload_n 0, 1) := by decide +kernel
theorem dX12_span_90 : decode cX12_span 90 = .ok (.getfield 69, 3) := by decide +kernel
theorem dX12_span_93 : decode cX12_span 93 = .ok (.bipush 6, 2) := by decide +kernel
theorem dX12_span_95 : decode cX12_span 95 = .ok (.iload 6, 2) := by decide +kernel
theorem dX12_span_97 : decode cX12_span 97 = .ok (.imul, 1) := by decide +kernel
theorem dX12_span_98 : decode cX12_span 98 = .ok (.iaload, 1) := by decide +kernel
theorem dX12_span_99 : decode cX12_span 99 = .ok (.iload 4, 2) := by decide +kernel
theorem dX12_span_101 : decode cX12_span 101 = .ok (.if_icmp .ge 16, 3) := by decide +kernel
theorem dX12_span_104 : decode cX12_span 104 = .ok (.aload_n 0, 1) := by decide +kernel
theorem dX12_span_105 : decode cX12_span 105 = .ok (.getfield 69, 3) := by decide +kernel
theorem dX12_span_108 : decode cX12_span 108 = .ok (.bipush 6, 2) := by decide +kernel
theorem dX12_span_110 : decode cX12_span 110 = .ok (.iload 6, 2) := by decide +kernel
theorem dX12_span_112 : decode cX12_span 112 = .ok (.imul, 1) := by decide +kernel
theorem dX12_span_113 : decode cX12_span 113 = .ok (.iaload, 1) := by decide +kernel
theorem dX12_span_114 : decode cX12_span 114 = .ok (.goto 5, 3) := by decide +kernel
theorem dX12_span_117 : decode cX12_span 117 = .ok (.iload 4, 2) := by decide +kernel
theorem dX12_span_119 : decode cX12_span 119 = .ok (.istore 4, 2) := by decide +kernel
theorem dX12_span_121 : decode cX12_span 121 = .ok (.iload_n 3, 1) := by decide +kernel
theorem dX12_span_122 : decode cX12_span 122 = .ok (.ifCond .eq 10, 3) := by decide +kernel
theorem dX12_span_125 : decode cX12_span 125 = .ok (.iload 7, 2) := by decide +kernel
theorem dX12_span_127 : decode cX12_span 127 = .ok (.iload 5, 2) := by decide +kernel
theorem dX12_span_129 : decode cX12_span 129 = .ok (.if_icmp .le 8, 3) := by decide +kernel
theorem dX12_span_132 : decode cX12_span 132 = .ok (.iload 7, 2) := by decide +kernel
theorem dX12_span_134 : decode cX12_span 134 = .ok (.goto 5, 3) := by decide +kernel
theorem dX12_span_137 : decode cX12_span 137 = .ok (.iload 5, 2) := by decide +kernel
theorem dX12_span_139 : decode cX12_span 139 = .ok (.istore 5, 2) := by decide +kernel
theorem dX12_span_141 : decode cX12_span 141 = .ok (.iinc 3 1, 3) := by decide +kernel
theorem dX12_span_144 : decode cX12_span 144 = .ok (.iinc 6 1, 3) := by decide +kernel
theorem dX12_span_147 : decode cX12_span 147 = .ok (.goto (-112), 3) := by decide +kernel
theorem dX12_span_150 : decode cX12_span 150 = .ok (.iload_n 2, 1) := by decide +kernel
theorem dX12_span_151 : decode cX12_span 151 = .ok (.ifCond .ne 7, 3) := by decide +kernel
theorem dX12_span_154 : decode cX12_span 154 = .ok (.iload_n 3, 1) := by decide +kernel
theorem dX12_span_155 : decode cX12_span 155 = .ok (.goto 15, 3) := by decide +kernel
theorem dX12_span_158 : decode cX12_span 158 = .ok (.iload_n 2, 1) := by decide +kernel
theorem dX12_span_159 : decode cX12_span 159 = .ok (.iconst 1, 1) := by decide +kernel
theorem dX12_span_160 : decode cX12_span 160 = .ok (.if_icmp .ne 8, 3) := by decide +kernel
theorem dX12_span_163 : decode cX12_span 163 = .ok (.iload 4, 2) := by decide +kernel
theorem dX12_span_165 : decode cX12_span 165 = .ok (.goto 5, 3) := by decide +kernel
theorem dX12_span_168 : decode cX12_span 168 = .ok (.iload 5, 2) := by decide +kernel
theorem dX12_span_170 : decode cX12_span 170 = .ok (.ireturn, 1) := by decide +kernel
theorem dX12_count_0 : decode cX12_count 0 = .ok (.iload_n 1, 1) := by decide +kernel
theorem dX12_count_1 : decode cX12_count 1 = .ok (.ifCond .ne 10, 3) := by decide +kernel
theorem dX12_count_4 : decode cX12_count 4 = .ok (.aload_n 0, 1) := by decide +kernel
theorem dX12_count_5 : decode cX12_count 5 = .ok (.getfield 92, 3) := by decide +kernel
theorem dX12_count_8 : decode cX12_count 8 = .ok (.goto 66, 3) := by decide +kernel
theorem dX12_count_11 : decode cX12_count 11 = .ok (.iload_n 1, 1) := by decide +kernel
theorem dX12_count_12 : decode cX12_count 12 = .ok (.iconst 1, 1) := by decide +kernel
theorem dX12_count_13 : decode cX12_count 13 = .ok (.if_icmp .ne 10, 3) := by decide +kernel
theorem dX12_count_16 : decode cX12_count 16 = .ok (.aload_n 0, 1) := by decide +kernel
theorem dX12_count_17 : decode cX12_count 17 = .ok (.getfield 101, 3) := by decide +kernel
theorem dX12_count_20 : decode cX12_count 20 = .ok (.goto 54, 3) := by decide +kernel
theorem dX12_count_23 : decode cX12_count 23 = .ok (.iload_n 1, 1) := by decide +kernel
theorem dX12_count_24 : decode cX12_count 24 = .ok (.iconst 2, 1) := by decide +kernel
theorem dX12_count_25 : decode cX12_count 25 = .ok (.if_icmp .ne 10, 3) := by decide +kernel
theorem dX12_count_28 : decode cX12_count 28 = .ok (.aload_n 0, 1) := by decide +kernel
theorem dX12_count_29 : decode cX12_count 29 = .ok (.getfield 108, 3) := by decide +kernel
theorem dX12_count_32 : decode cX12_count 32 = .ok (.goto 42, 3) := by decide +kernel
theorem dX12_count_35 : decode cX12_count 35 = .ok (.iload_n 1, 1) := by decide +kernel
theorem dX12_count_36 : decode cX12_count 36 = .ok (.iconst 3, 1) := by decide +kernel
theorem dX12_count_37 : decode cX12_count 37 = .ok (.if_icmp .ne 10, 3) := by decide +kernel
theorem dX12_count_40 : decode cX12_count 40 = .ok (.aload_n 0, 1) := by decide +kernel
theorem dX12_count_41 : decode cX12_count 41 = .ok (.getfield 193, 3) := by decide +kernel
theorem dX12_count_44 : decode cX12_count 44 = .ok (.goto 30, 3) := by decide +kernel
theorem dX12_count_47 : decode cX12_count 47 = .ok (.iload_n 1, 1) := by decide +kernel
theorem dX12_count_48 : decode cX12_count 48 = .ok (.iconst 4, 1) := by decide +kernel
theorem dX12_count_49 : decode cX12_count 49 = .ok (.if_icmp .ne 10, 3) := by decide +kernel
theorem dX12_count_52 : decode cX12_count 52 = .ok (.aload_n 0, 1) := by decide +kernel
theorem dX12_count_53 : decode cX12_count 53 = .ok (.getfield 257, 3) := by decide +kernel
theorem dX12_count_56 : decode cX12_count 56 = .ok (.goto 18, 3) := by decide +kernel
theorem dX12_count_59 : decode cX12_count 59 = .ok (.iload_n 1, 1) := by decide +kernel
theorem dX12_count_60 : decode cX12_count 60 = .ok (.iconst 5, 1) := by decide +kernel
theorem dX12_count_61 : decode cX12_count 61 = .ok (.if_icmp .ne 10, 3) := by decide +kernel
theorem dX12_count_64 : decode cX12_count 64 = .ok (.aload_n 0, 1) := by decide +kernel
theorem dX12_count_65 : decode cX12_count 65 = .ok (.getfield 130, 3) := by decide +kernel
theorem dX12_count_68 : decode cX12_count 68 = .ok (.goto 6, 3) := by decide +kernel
theorem dX12_count_71 : decode cX12_count 71 = .ok (.sipush (-1001), 3) := by decide +kernel
theorem dX12_count_74 : decode cX12_count 74 = .ok (.ireturn, 1) := by decide +kernel
theorem dJ9_floorDiv_f86c9_0 : decode cJ9_floorDiv_f86c9 0 = .ok (.lload_n 0, 1) := by decide +kernel
theorem dJ9_floorDiv_f86c9_1 : decode cJ9_floorDiv_f86c9 1 = .ok (.lload_n 2, 1) := by decide +kernel
theorem dJ9_floorDiv_f86c9_2 : decode cJ9_floorDiv_f86c9 2 = .ok (.ldiv, 1) := by decide +kernel
theorem dJ9_floorDiv_f86c9_3 : decode cJ9_floorDiv_f86c9 3 = .ok (.lstore 4, 2) := by decide +kernel
theorem dJ9_floorDiv_f86c9_5 : decode cJ9_floorDiv_f86c9 5 = .ok (.lload_n 0, 1) := by decide +kernel
theorem dJ9_floorDiv_f86c9_6 : decode cJ9_floorDiv_f86c9 6 = .ok (.lload_n 2, 1) := by decide +kernel
theorem dJ9_floorDiv_f86c9_7 : decode cJ9_floorDiv_f86c9 7 = .ok (.lxor, 1) := by decide +kernel
theorem dJ9_floorDiv_f86c9_8 : decode cJ9_floorDiv_f86c9 8 = .ok (.lconst 0, 1) := by decide +kernel
theorem dJ9_floorDiv_f86c9_9 : decode cJ9_floorDiv_f86c9 9 = .ok (.lcmp, 1) := by decide +kernel
theorem dJ9_floorDiv_f86c9_10 : decode cJ9_floorDiv_f86c9 10 = .ok (.ifCond .ge 17, 3) := by decide +kernel
theorem dJ9_floorDiv_f86c9_13 : decode cJ9_floorDiv_f86c9 13 = .ok (.lload 4, 2) := by decide +kernel
theorem dJ9_floorDiv_f86c9_15 : decode cJ9_floorDiv_f86c9 15 = .ok (.lload_n 2, 1) := by decide +kernel
theorem dJ9_floorDiv_f86c9_16 : decode cJ9_floorDiv_f86c9 16 = .ok (.lmul, 1) := by decide +kernel
theorem dJ9_floorDiv_f86c9_17 : decode cJ9_floorDiv_f86c9 17 = .ok (.lload_n 0, 1) := by decide +kernel
theorem dJ9_floorDiv_f86c9_18 : decode cJ9_floorDiv_f86c9 18 = .ok (.lcmp, 1) := by decide +kernel
theorem dJ9_floorDiv_f86c9_19 : decode cJ9_floorDiv_f86c9 19 = .ok (.ifCond .eq 8, 3) := by decide +kernel
theorem dJ9_floorDiv_f86c9_22 : decode cJ9_floorDiv_f86c9 22 = .ok (.lload 4, 2) := by decide +kernel
theorem dJ9_floorDiv_f86c9_24 : decode cJ9_floorDiv_f86c9 24 = .ok (.lconst 1, 1) := by decide +kernel
theorem dJ9_floorDiv_f86c9_25 : decode cJ9_floorDiv_f86c9 25 = .ok (.lsub, 1) := by decide +kernel
theorem dJ9_floorDiv_f86c9_26 : decode cJ9_floorDiv_f86c9 26 = .ok (.lreturn, 1) := by decide +kernel
theorem dJ9_floorDiv_f86c9_27 : decode cJ9_floorDiv_f86c9 27 = .ok (.lload 4, 2) := by decide +kernel
theorem dJ9_floorDiv_f86c9_29 : decode cJ9_floorDiv_f86c9 29 = .ok (.lreturn, 1) := by decide +kernel
set_option maxRecDepth 20000 in
theorem ggJ9_floorMod_1978a_J9_floorMod_f86c9 : GoodIn wsJ9_floorMod_1978a wsJ9_floorMod_f86c9 := goodIn_r _ [4] (by decide +kernel) (by decide +kernel)
set_option maxRecDepth 20000 in
theorem gJ9_floorMod_1978a_J9_floorMod_f86c9 : GoodIn wsJ9_floorMod_1978a (va_wsS RJ9 146 yJ9_floorMod_f86c9 wsJ9_floorMod_f86c9) := goodIn_app (goodIn_of _ (by decide +kernel)) ggJ9_floorMod_1978a_J9_floorMod_f86c9
theorem dJ9_floorMod_1978a_0 : decode cJ9_floorMod_1978a 0 = .ok (.lload_n 0, 1) := by decide +kernel
theorem dJ9_floorMod_1978a_1 : decode cJ9_floorMod_1978a 1 = .ok (.iload_n 2, 1) := by decide +kernel
theorem dJ9_floorMod_1978a_2 : decode cJ9_floorMod_1978a 2 = .ok (.i2l, 1) := by decide +kernel
theorem dJ9_floorMod_1978a_3 : decode cJ9_floorMod_1978a 3 = .ok (.invokestatic 146, 3) := by decide +kernel
theorem dJ9_floorMod_1978a_6 : decode cJ9_floorMod_1978a 6 = .ok (.l2i, 1) := by decide +kernel
theorem dJ9_floorMod_1978a_7 : decode cJ9_floorMod_1978a 7 = .ok (.ireturn, 1) := by decide +kernel
theorem dJ9_floorMod_f86c9_0 : decode cJ9_floorMod_f86c9 0 = .ok (.lload_n 0, 1) := by decide +kernel
theorem dJ9_floorMod_f86c9_1 : decode cJ9_floorMod_f86c9 1 = .ok (.lload_n 2, 1) := by decide +kernel
theorem dJ9_floorMod_f86c9_2 : decode cJ9_floorMod_f86c9 2 = .ok (.lrem, 1) := by decide +kernel
theorem dJ9_floorMod_f86c9_3 : decode cJ9_floorMod_f86c9 3 = .ok (.lstore 4, 2) := by decide +kernel
theorem dJ9_floorMod_f86c9_5 : decode cJ9_floorMod_f86c9 5 = .ok (.lload_n 0, 1) := by decide +kernel
theorem dJ9_floorMod_f86c9_6 : decode cJ9_floorMod_f86c9 6 = .ok (.lload_n 2, 1) := by decide +kernel
theorem dJ9_floorMod_f86c9_7 : decode cJ9_floorMod_f86c9 7 = .ok (.lxor, 1) := by decide +kernel
theorem dJ9_floorMod_f86c9_8 : decode cJ9_floorMod_f86c9 8 = .ok (.lconst 0, 1) := by decide +kernel
theorem dJ9_floorMod_f86c9_9 : decode cJ9_floorMod_f86c9 9 = .ok (.lcmp, 1) := by decide +kernel
theorem dJ9_floorMod_f86c9_10 : decode cJ9_floorMod_f86c9 10 = .ok (.ifCond .ge 15, 3) := by decide +kernel
theorem dJ9_floorMod_f86c9_13 : decode cJ9_floorMod_f86c9 13 = .ok (.lload 4, 2) := by decide +kernel
theorem dJ9_floorMod_f86c9_15 : decode cJ9_floorMod_f86c9 15 = .ok (.lconst 0, 1) := by decide +kernel
theorem dJ9_floorMod_f86c9_16 : decode cJ9_floorMod_f86c9 16 = .ok (.lcmp, 1) := by decide +kernel
theorem dJ9_floorMod_f86c9_17 : decode cJ9_floorMod_f86c9 17 = .ok (.ifCond .eq 8, 3) := by decide +kernel
theorem dJ9_floorMod_f86c9_20 : decode cJ9_floorMod_f86c9 20 = .ok (.lload 4, 2) := by decide +kernel
theorem dJ9_floorMod_f86c9_22 : decode cJ9_floorMod_f86c9 22 = .ok (.lload_n 2, 1) := by decide +kernel
theorem dJ9_floorMod_f86c9_23 : decode cJ9_floorMod_f86c9 23 = .ok (.ladd, 1) := by decide +kernel
theorem dJ9_floorMod_f86c9_24 : decode cJ9_floorMod_f86c9 24 = .ok (.lreturn, 1) := by decide +kernel
theorem dJ9_floorMod_f86c9_25 : decode cJ9_floorMod_f86c9 25 = .ok (.lload 4, 2) := by decide +kernel
theorem dJ9_floorMod_f86c9_27 : decode cJ9_floorMod_f86c9 27 = .ok (.lreturn, 1) := by decide +kernel
theorem dJ9_max_7cf53_0 : decode cJ9_max_7cf53 0 = .ok (.iload_n 0, 1) := by decide +kernel
theorem dJ9_max_7cf53_1 : decode cJ9_max_7cf53 1 = .ok (.iload_n 1, 1) := by decide +kernel
theorem dJ9_max_7cf53_2 : decode cJ9_max_7cf53 2 = .ok (.if_icmp .lt 7, 3) := by decide +kernel
theorem dJ9_max_7cf53_5 : decode cJ9_max_7cf53 5 = .ok (.iload_n 0, 1) := by decide +kernel
theorem dJ9_max_7cf53_6 : decode cJ9_max_7cf53 6 = .ok (.goto 4, 3) := by decide +kernel
theorem dJ9_max_7cf53_9 : decode cJ9_max_7cf53 9 = .ok (.iload_n 1, 1) := by decide +kernel
theorem dJ9_max_7cf53_10 : decode cJ9_max_7cf53 10 = .ok (.ireturn, 1) := by decide +kernel
theorem dJ9_min_7cf53_0 : decode cJ9_min_7cf53 0 = .ok (.iload_n 0, 1) := by decide +kernel
theorem dJ9_min_7cf53_1 : decode cJ9_min_7cf53 1 = .ok (.iload_n 1, 1) := by decide +kernel
theorem dJ9_min_7cf53_2 : decode cJ9_min_7cf53 2 = .ok (.if_icmp .gt 7, 3) := by decide +kernel
theorem dJ9_min_7cf53_5 : decode cJ9_min_7cf53 5 = .ok (.iload_n 0, 1) := by decide +kernel
theorem dJ9_min_7cf53_6 : decode cJ9_min_7cf53 6 = .ok (.goto 4, 3) := by decide +kernel
theorem dJ9_min_7cf53_9 : decode cJ9_min_7cf53 9 = .ok (.iload_n 1, 1) := by decide +kernel
theorem dJ9_min_7cf53_10 : decode cJ9_min_7cf53 10 = .ok (.ireturn, 1) := by decide +kernel
set_option maxRecDepth 20000 in
theorem ggJ0_length_8abf5_J0_coder_7d493 : GoodIn wsJ0_length_8abf5 wsJ0_coder_7d493 := goodIn_r _ [6, 7, 8] (by decide +kernel) (by decide +kernel)
set_option maxRecDepth 20000 in
theorem gJ0_length_8abf5_J0_coder_7d493 : GoodIn wsJ0_length_8abf5 (wsV RJ0 335 RJ0 yJ0_coder_7d493 wsJ0_coder_7d493) := goodIn_app (goodIn_of _ (by decide +kernel)) ggJ0_length_8abf5_J0_coder_7d493
theorem dJ0_length_8abf5_0 : decode cJ0_length_8abf5 0 = .ok (.aload_n 0, 1) := by decide +kernel
theorem dJ0_length_8abf5_1 : decode cJ0_length_8abf5 1 = .ok (.getfield 9, 3) := by decide +kernel
theorem dJ0_length_8abf5_4 : decode cJ0_length_8abf5 4 = .ok (.arraylength, 1) := by decide +kernel
theorem dJ0_length_8abf5_5 : decode cJ0_length_8abf5 5 = .ok (.aload_n 0, 1) := by decide +kernel
theorem dJ0_length_8abf5_6 : decode cJ0_length_8abf5 6 = .ok (.invokevirtual 335, 3) := by decide +kernel
theorem dJ0_length_8abf5_9 : decode cJ0_length_8abf5 9 = .ok (.ishr, 1) := by decide +kernel
theorem dJ0_length_8abf5_10 : decode cJ0_length_8abf5 10 = .ok (.ireturn, 1) := by decide +kernel
set_option maxRecDepth 20000 in
theorem ggJ0_charAt_5068e_J0_isLatin1_aae02 : GoodIn wsJ0_charAt_5068e wsJ0_isLatin1_aae02 := goodIn_r _ [6, 7, 8] (by decide +kernel) (by decide +kernel)
set_option maxRecDepth 20000 in
theorem gJ0_charAt_5068e_J0_isLatin1_aae02 : GoodIn wsJ0_charAt_5068e (wsV RJ0 492 RJ0 yJ0_isLatin1_aae02 wsJ0_isLatin1_aae02) := goodIn_app (goodIn_of _ (by decide +kernel)) ggJ0_charAt_5068e_J0_isLatin1_aae02
set_option maxRecDepth 20000 in
theorem ggJ0_charAt_5068e_J1_charAt_3b067 : GoodIn wsJ0_charAt_5068e wsJ1_charAt_3b067 := goodIn_r _ [12, 13, 14, 5, 15, 16, 17, 18, 19, 20] (by decide +kernel) (by decide +kernel)
set_option maxRecDepth 20000 in
theorem gJ0_charAt_5068e_J1_charAt_3b067 : GoodIn wsJ0_charAt_5068e (va_wsS RJ0 495 yJ1_charAt_3b067 wsJ1_charAt_3b067) := goodIn_app (goodIn_of _ (by decide +kernel)) ggJ0_charAt_5068e_J1_charAt_3b067
set_option maxRecDepth 20000 in
theorem ggJ0_charAt_5068e_J2_charAt_3b067 : GoodIn wsJ0_charAt_5068e wsJ2_charAt_3b067 := goodIn_r _ [24, 25, 26, 23, 27, 28, 29, 30, 31, 14, 5, 15, 16, 17, 18, 19, 20, 32, 33, 34, 35, 36, 37] (by decide +kernel) (by decide +kernel)
set_option maxRecDepth 20000 in
theorem gJ0_charAt_5068e_J2_charAt_3b067 : GoodIn wsJ0_charAt_5068e (va_wsS RJ0 498 yJ2_charAt_3b067 wsJ2_charAt_3b067) := goodIn_app (goodIn_of _ (by decide +kernel)) ggJ0_charAt_5068e_J2_charAt_3b067
theorem dJ0_charAt_5068e_0 : decode cJ0_charAt_5068e 0 = .ok (.aload_n 0, 1) := by decide +kernel
theorem dJ0_charAt_5068e_1 : decode cJ0_charAt_5068e 1 = .ok (.invokevirtual 492, 3) := by decide +kernel
theorem dJ0_charAt_5068e_4 : decode cJ0_charAt_5068e 4 = .ok (.ifCond .eq 12, 3) := by decide +kernel
theorem dJ0_charAt_5068e_7 : decode cJ0_charAt_5068e 7 = .ok (.aload_n 0, 1) := by decide +kernel
theorem dJ0_charAt_5068e_8 : decode cJ0_charAt_5068e 8 = .ok (.getfield 9, 3) := by decide +kernel
theorem dJ0_charAt_5068e_11 : decode cJ0_charAt_5068e 11 = .ok (.iload_n 1, 1) := by decide +kernel
theorem dJ0_charAt_5068e_12 : decode cJ0_charAt_5068e 12 = .ok (.invokestatic 495, 3) := by decide +kernel
theorem dJ0_charAt_5068e_15 : decode cJ0_charAt_5068e 15 = .ok (.ireturn, 1) := by decide +kernel
theorem dJ0_charAt_5068e_16 : decode cJ0_charAt_5068e 16 = .ok (.aload_n 0, 1) := by decide +kernel
theorem dJ0_charAt_5068e_17 : decode cJ0_charAt_5068e 17 = .ok (.getfield 9, 3) := by decide +kernel
theorem dJ0_charAt_5068e_20 : decode cJ0_charAt_5068e 20 = .ok (.iload_n 1, 1) := by decide +kernel
theorem dJ0_charAt_5068e_21 : decode cJ0_charAt_5068e 21 = .ok (.invokestatic 498, 3) := by decide +kernel
theorem dJ0_charAt_5068e_24 : decode cJ0_charAt_5068e 24 = .ok (.ireturn, 1) := by decide +kernel
theorem dJ0_coder_7d493_0 : decode cJ0_coder_7d493 0 = .ok (.getstatic 38, 3) := by decide +kernel
theorem dJ0_coder_7d493_3 : decode cJ0_coder_7d493 3 = .ok (.ifCond .eq 10, 3) := by decide +kernel
theorem dJ0_coder_7d493_6 : decode cJ0_coder_7d493 6 = .ok (.aload_n 0, 1) := by decide +kernel
theorem dJ0_coder_7d493_7 : decode cJ0_coder_7d493 7 = .ok (.getfield 15, 3) := by decide +kernel
theorem dJ0_coder_7d493_10 : decode cJ0_coder_7d493 10 = .ok (.goto 4, 3) := by decide +kernel
theorem dJ0_coder_7d493_13 : decode cJ0_coder_7d493 13 = .ok (.iconst 1, 1) := by decide +kernel
theorem dJ0_coder_7d493_14 : decode cJ0_coder_7d493 14 = .ok (.ireturn, 1) := by decide +kernel
theorem dJ0_isLatin1_aae02_0 : decode cJ0_isLatin1_aae02 0 = .ok (.getstatic 38, 3) := by decide +kernel
theorem dJ0_isLatin1_aae02_3 : decode cJ0_isLatin1_aae02 3 = .ok (.ifCond .eq 14, 3) := by decide +kernel
theorem dJ0_isLatin1_aae02_6 : decode cJ0_isLatin1_aae02 6 = .ok (.aload_n 0, 1) := by decide +kernel
theorem dJ0_isLatin1_aae02_7 : decode cJ0_isLatin1_aae02 7 = .ok (.getfield 15, 3) := by decide +kernel
theorem dJ0_isLatin1_aae02_10 : decode cJ0_isLatin1_aae02 10 = .ok (.ifCond .ne 7, 3) := by decide +kernel
theorem dJ0_isLatin1_aae02_13 : decode cJ0_isLatin1_aae02 13 = .ok (.iconst 1, 1) := by decide +kernel
theorem dJ0_isLatin1_aae02_14 : decode cJ0_isLatin1_aae02 14 = .ok (.goto 4, 3) := by decide +kernel
theorem dJ0_isLatin1_aae02_17 : decode cJ0_isLatin1_aae02 17 = .ok (.iconst 0, 1) := by decide +kernel
theorem dJ0_isLatin1_aae02_18 : decode cJ0_isLatin1_aae02 18 = .ok (.ireturn, 1) := by decide +kernel
set_option maxRecDepth 20000 in
theorem ggJ0_checkIndex_df160_J3_checkIndex_8e157 : GoodIn wsJ0_checkIndex_df160 wsJ3_checkIndex_8e157 := goodIn_r _ [5] (by decide +kernel) (by decide +kernel)
set_option maxRecDepth 20000 in
theorem gJ0_checkIndex_df160_J3_checkIndex_8e157 : GoodIn wsJ0_checkIndex_df160 (va_wsS RJ0 1059 yJ3_checkIndex_8e157 wsJ3_checkIndex_8e157) := goodIn_app (goodIn_of _ (by decide +kernel)) ggJ0_checkIndex_df160_J3_checkIndex_8e157
theorem dJ0_checkIndex_df160_0 : decode cJ0_checkIndex_df160 0 = .ok (.iload_n 0, 1) := by decide +kernel
theorem dJ0_checkIndex_df160_1 : decode cJ0_checkIndex_df160 1 = .ok (.iload_n 1, 1) := by decide +kernel
theorem dJ0_checkIndex_df160_2 : decode cJ0_checkIndex_df160 2 = .ok (.getstatic 1053, 3) := by decide +kernel
theorem dJ0_checkIndex_df160_5 : decode cJ0_checkIndex_df160 5 = .ok (.invokestatic 1059, 3) := by decide +kernel
theorem dJ0_checkIndex_df160_8 : decode cJ0_checkIndex_df160 8 = .ok (.pop, 1) := by decide +kernel
theorem dJ0_checkIndex_df160_9 : decode cJ0_checkIndex_df160 9 = .ok (.return_, 1) := by decide +kernel
set_option maxRecDepth 20000 in
theorem ggJ1_charAt_3b067_J0_checkIndex_df160 : GoodIn wsJ1_charAt_3b067 wsJ0_checkIndex_df160 := goodIn_r _ [4, 5, 6, 7, 8, 9] (by decide +kernel) (by decide +kernel)
set_option maxRecDepth 20000 in
theorem gJ1_charAt_3b067_J0_checkIndex_df160 : GoodIn wsJ1_charAt_3b067 (va_wsS RJ1 9 yJ0_checkIndex_df160 wsJ0_checkIndex_df160) := goodIn_app (goodIn_of _ (by decide +kernel)) ggJ1_charAt_3b067_J0_checkIndex_df160
theorem dJ1_charAt_3b067_0 : decode cJ1_charAt_3b067 0 = .ok (.iload_n 1, 1) := by decide +kernel
theorem dJ1_charAt_3b067_1 : decode cJ1_charAt_3b067 1 = .ok (.aload_n 0, 1) := by decide +kernel
theorem dJ1_charAt_3b067_2 : decode cJ1_charAt_3b067 2 = .ok (.arraylength, 1) := by decide +kernel
theorem dJ1_charAt_3b067_3 : decode cJ1_charAt_3b067 3 = .ok (.invokestatic 9, 3) := by decide +kernel
theorem dJ1_charAt_3b067_6 : decode cJ1_charAt_3b067 6 = .ok (.aload_n 0, 1) := by decide +kernel
theorem dJ1_charAt_3b067_7 : decode cJ1_charAt_3b067 7 = .ok (.iload_n 1, 1) := by decide +kernel
theorem dJ1_charAt_3b067_8 : decode cJ1_charAt_3b067 8 = .ok (.baload, 1) := by decide +kernel
theorem dJ1_charAt_3b067_9 : decode cJ1_charAt_3b067 9 = .ok (.sipush 255, 3) := by decide +kernel
theorem dJ1_charAt_3b067_12 : decode cJ1_charAt_3b067 12 = .ok (.iand, 1) := by decide +kernel
theorem dJ1_charAt_3b067_13 : decode cJ1_charAt_3b067 13 = .ok (.i2c, 1) := by decide +kernel
theorem dJ1_charAt_3b067_14 : decode cJ1_charAt_3b067 14 = .ok (.ireturn, 1) := by decide +kernel
set_option maxRecDepth 20000 in
theorem ggJ2_getChar_3b067_J2_length_9d52b : GoodIn wsJ2_getChar_3b067 wsJ2_length_9d52b := goodIn_r _ [7] (by decide +kernel) (by decide +kernel)
set_option maxRecDepth 20000 in
theorem gJ2_getChar_3b067_J2_length_9d52b : GoodIn wsJ2_getChar_3b067 (va_wsS RJ2 48 yJ2_length_9d52b wsJ2_length_9d52b) := goodIn_app (goodIn_of _ (by decide +kernel)) ggJ2_getChar_3b067_J2_length_9d52b
theorem dJ2_getChar_3b067_0 : decode cJ2_getChar_3b067 0 = .ok (.getstatic 44, 3) := by decide +kernel
theorem dJ2_getChar_3b067_3 : decode cJ2_getChar_3b067 3 = .ok (.ifCond .ne 25, 3) := by decide +kernel
theorem dJ2_getChar_3b067_6 : decode cJ2_getChar_3b067 6 = .ok (.iload_n 1, 1) := by decide +kernel
theorem dJ2_getChar_3b067_7 : decode cJ2_getChar_3b067 7 = .ok (.ifCond .lt 11, 3) := by decide +kernel
theorem dJ2_getChar_3b067_10 : decode cJ2_getChar_3b067 10 = .ok (.iload_n 1, 1) := by decide +kernel
theorem dJ2_getChar_3b067_11 : decode cJ2_getChar_3b067 11 = .ok (.aload_n 0, 1) := by decide +kernel
theorem dJ2_getChar_3b067_12 : decode cJ2_getChar_3b067 12 = .ok (.invokestatic 48, 3) := by decide +kernel
theorem dJ2_getChar_3b067_15 : decode cJ2_getChar_3b067 15 = .ok (.if_icmp .lt 13, 3) := by decide +kernel
theorem dJ2_getChar_3b067_18 : decode cJ2_getChar_3b067 18 = .ok (.new 52, 3) := by decide +kernel
theorem dJ2_getChar_3b067_21 : decode cJ2_getChar_3b067 21 = .ok (.dup, 1) := by decide +kernel
theorem dJ2_getChar_3b067_22 : decode cJ2_getChar_3b067 22 = .ok (.ldc 54, 2) := by decide +kernel
theorem dJ2_getChar_3b067_24 : decode cJ2_getChar_3b067 24 = .ok (.invokespecial 56, 3) := by decide +kernel
theorem dJ2_getChar_3b067_27 : decode cJ2_getChar_3b067 27 = .ok (.athrow, 1) := by decide +kernel
theorem dJ2_getChar_3b067_28 : decode cJ2_getChar_3b067 28 = .ok (.iload_n 1, 1) := by decide +kernel
theorem dJ2_getChar_3b067_29 : decode cJ2_getChar_3b067 29 = .ok (.iconst 1, 1) := by decide +kernel
theorem dJ2_getChar_3b067_30 : decode cJ2_getChar_3b067 30 = .ok (.ishl, 1) := by decide +kernel
theorem dJ2_getChar_3b067_31 : decode cJ2_getChar_3b067 31 = .ok (.istore_n 1, 1) := by decide +kernel
theorem dJ2_getChar_3b067_32 : decode cJ2_getChar_3b067 32 = .ok (.aload_n 0, 1) := by decide +kernel
theorem dJ2_getChar_3b067_33 : decode cJ2_getChar_3b067 33 = .ok (.iload_n 1, 1) := by decide +kernel
theorem dJ2_getChar_3b067_34 : decode cJ2_getChar_3b067 34 = .ok (.iinc 1 1, 3) := by decide +kernel
theorem dJ2_getChar_3b067_37 : decode cJ2_getChar_3b067 37 = .ok (.baload, 1) := by decide +kernel
theorem dJ2_getChar_3b067_38 : decode cJ2_getChar_3b067 38 = .ok (.sipush 255, 3) := by decide +kernel
theorem dJ2_getChar_3b067_41 : decode cJ2_getChar_3b067 41 = .ok (.iand, 1) := by decide +kernel
theorem dJ2_getChar_3b067_42 : decode cJ2_getChar_3b067 42 = .ok (.getstatic 59, 3) := by decide +kernel
theorem dJ2_getChar_3b067_45 : decode cJ2_getChar_3b067 45 = .ok (.ishl, 1) := by decide +kernel
theorem dJ2_getChar_3b067_46 : decode cJ2_getChar_3b067 46 = .ok (.aload_n 0, 1) := by decide +kernel
theorem dJ2_getChar_3b067_47 : decode cJ2_getChar_3b067 47 = .ok (.iload_n 1, 1) := by decide +kernel
theorem dJ2_getChar_3b067_48 : decode cJ2_getChar_3b067 48 = .ok (.baload, 1) := by decide +kernel
theorem dJ2_getChar_3b067_49 : decode cJ2_getChar_3b067 49 = .ok (.sipush 255, 3) := by decide +kernel
theorem dJ2_getChar_3b067_52 : decode cJ2_getChar_3b067 52 = .ok (.iand, 1) := by decide +kernel
theorem dJ2_getChar_3b067_53 : decode cJ2_getChar_3b067 53 = .ok (.getstatic 63, 3) := by decide +kernel
theorem dJ2_getChar_3b067_56 : decode cJ2_getChar_3b067 56 = .ok (.ishl, 1) := by decide +kernel
theorem dJ2_getChar_3b067_57 : decode cJ2_getChar_3b067 57 = .ok (.ior, 1) := by decide +kernel
theorem dJ2_getChar_3b067_58 : decode cJ2_getChar_3b067 58 = .ok (.i2c, 1) := by decide +kernel
theorem dJ2_getChar_3b067_59 : decode cJ2_getChar_3b067 59 = .ok (.ireturn, 1) := by decide +kernel
theorem dJ2_length_9d52b_0 : decode cJ2_length_9d52b 0 = .ok (.aload_n 0, 1) := by decide +kernel
theorem dJ2_length_9d52b_1 : decode cJ2_length_9d52b 1 = .ok (.arraylength, 1) := by decide +kernel
theorem dJ2_length_9d52b_2 : decode cJ2_length_9d52b 2 = .ok (.iconst 1, 1) := by decide +kernel
theorem dJ2_length_9d52b_3 : decode cJ2_length_9d52b 3 = .ok (.ishr, 1) := by decide +kernel
theorem dJ2_length_9d52b_4 : decode cJ2_length_9d52b 4 = .ok (.ireturn, 1) := by decide +kernel
set_option maxRecDepth 20000 in
theorem ggJ2_charAt_3b067_J2_checkIndex_2214a : GoodIn wsJ2_charAt_3b067 wsJ2_checkIndex_2214a := goodIn_r _ [4, 5, 6, 3, 7, 8, 9, 10, 11, 12, 13, 14, 15, 16] (by decide +kernel) (by decide +kernel)
set_option maxRecDepth 20000 in
theorem gJ2_charAt_3b067_J2_checkIndex_2214a : GoodIn wsJ2_charAt_3b067 (va_wsS RJ2 67 yJ2_checkIndex_2214a wsJ2_checkIndex_2214a) := goodIn_app (goodIn_of _ (by decide +kernel)) ggJ2_charAt_3b067_J2_checkIndex_2214a
set_option maxRecDepth 20000 in
theorem ggJ2_charAt_3b067_J2_getChar_3b067 : GoodIn wsJ2_charAt_3b067 wsJ2_getChar_3b067 := goodIn_r _ [19, 20, 21, 22, 5, 6, 3, 7] (by decide +kernel) (by decide +kernel)
set_option maxRecDepth 20000 in
theorem gJ2_charAt_3b067_J2_getChar_3b067 : GoodIn wsJ2_charAt_3b067 (va_wsS RJ2 71 yJ2_getChar_3b067 wsJ2_getChar_3b067) := goodIn_app (goodIn_of _ (by decide +kernel)) ggJ2_charAt_3b067_J2_getChar_3b067
theorem dJ2_charAt_3b067_0 : decode cJ2_charAt_3b067 0 = .ok (.iload_n 1, 1) := by decide +kernel
theorem dJ2_charAt_3b067_1 : decode cJ2_charAt_3b067 1 = .ok (.aload_n 0, 1) := by decide +kernel
theorem dJ2_charAt_3b067_2 : decode cJ2_charAt_3b067 2 = .ok (.invokestatic 67, 3) := by decide +kernel
theorem dJ2_charAt_3b067_5 : decode cJ2_charAt_3b067 5 = .ok (.aload_n 0, 1) := by decide +kernel
theorem dJ2_charAt_3b067_6 : decode cJ2_charAt_3b067 6 = .ok (.iload_n 1, 1) := by decide +kernel
theorem dJ2_charAt_3b067_7 : decode cJ2_charAt_3b067 7 = .ok (.invokestatic 71, 3) := by decide +kernel
theorem dJ2_charAt_3b067_10 : decode cJ2_charAt_3b067 10 = .ok (.ireturn, 1) := by decide +kernel
set_option maxRecDepth 20000 in
theorem ggJ2_checkIndex_2214a_J2_length_9d52b : GoodIn wsJ2_checkIndex_2214a wsJ2_length_9d52b := goodIn_r _ [4] (by decide +kernel) (by decide +kernel)
set_option maxRecDepth 20000 in
theorem gJ2_checkIndex_2214a_J2_length_9d52b : GoodIn wsJ2_checkIndex_2214a (va_wsS RJ2 48 yJ2_length_9d52b wsJ2_length_9d52b) := goodIn_app (goodIn_of _ (by decide +kernel)) ggJ2_checkIndex_2214a_J2_length_9d52b
set_option maxRecDepth 20000 in
theorem ggJ2_checkIndex_2214a_J0_checkIndex_df160 : GoodIn wsJ2_checkIndex_2214a wsJ0_checkIndex_df160 := goodIn_r _ [8, 9, 10, 11, 12, 13] (by decide +kernel) (by decide +kernel)
set_option maxRecDepth 20000 in
theorem gJ2_checkIndex_2214a_J0_checkIndex_df160 : GoodIn wsJ2_checkIndex_2214a (va_wsS RJ2 414 yJ0_checkIndex_df160 wsJ0_checkIndex_df160) := goodIn_app (goodIn_of _ (by decide +kernel)) ggJ2_checkIndex_2214a_J0_checkIndex_df160
theorem dJ2_checkIndex_2214a_0 : decode cJ2_checkIndex_2214a 0 = .ok (.iload_n 0, 1) := by decide +kernel
theorem dJ2_checkIndex_2214a_1 : decode cJ2_checkIndex_2214a 1 = .ok (.aload_n 1, 1) := by decide +kernel
theorem dJ2_checkIndex_2214a_2 : decode cJ2_checkIndex_2214a 2 = .ok (.invokestatic 48, 3) := by decide +kernel
theorem dJ2_checkIndex_2214a_5 : decode cJ2_checkIndex_2214a 5 = .ok (.invokestatic 414, 3) := by decide +kernel
theorem dJ2_checkIndex_2214a_8 : decode cJ2_checkIndex_2214a 8 = .ok (.return_, 1) := by decide +kernel
theorem dJ3_checkIndex_8e157_0 : decode cJ3_checkIndex_8e157 0 = .ok (.iload_n 0, 1) := by decide +kernel
theorem dJ3_checkIndex_8e157_1 : decode cJ3_checkIndex_8e157 1 = .ok (.ifCond .lt 8, 3) := by decide +kernel
theorem dJ3_checkIndex_8e157_4 : decode cJ3_checkIndex_8e157 4 = .ok (.iload_n 0, 1) := by decide +kernel
theorem dJ3_checkIndex_8e157_5 : decode cJ3_checkIndex_8e157 5 = .ok (.iload_n 1, 1) := by decide +kernel
theorem dJ3_checkIndex_8e157_6 : decode cJ3_checkIndex_8e157 6 = .ok (.if_icmp .lt 10, 3) := by decide +kernel
theorem dJ3_checkIndex_8e157_9 : decode cJ3_checkIndex_8e157 9 = .ok (.aload_n 2, 1) := by decide +kernel
theorem dJ3_checkIndex_8e157_10 : decode cJ3_checkIndex_8e157 10 = .ok (.iload_n 0, 1) := by decide +kernel
theorem dJ3_checkIndex_8e157_11 : decode cJ3_checkIndex_8e157 11 = .ok (.iload_n 1, 1) := by decide +kernel
theorem dJ3_checkIndex_8e157_12 : decode cJ3_checkIndex_8e157 12 = .ok (.invokestatic 95, 3) := by decide +kernel
theorem dJ3_checkIndex_8e157_15 : decode cJ3_checkIndex_8e157 15 = .ok (.athrow, 1) := by decide +kernel
theorem dJ3_checkIndex_8e157_16 : decode cJ3_checkIndex_8e157 16 = .ok (.iload_n 0, 1) := by decide +kernel
theorem dJ3_checkIndex_8e157_17 : decode cJ3_checkIndex_8e157 17 = .ok (.ireturn, 1) := by decide +kernel
theorem dL_cell_0 : decode cL_cell 0 = .ok (.iload_n 1, 1) := by decide +kernel
theorem dL_cell_1 : decode cL_cell 1 = .ok (.aload_n 0, 1) := by decide +kernel
theorem dL_cell_2 : decode cL_cell 2 = .ok (.arraylength, 1) := by decide +kernel
theorem dL_cell_3 : decode cL_cell 3 = .ok (.if_icmp .ge 9, 3) := by decide +kernel
theorem dL_cell_6 : decode cL_cell 6 = .ok (.aload_n 0, 1) := by decide +kernel
theorem dL_cell_7 : decode cL_cell 7 = .ok (.iload_n 1, 1) := by decide +kernel
theorem dL_cell_8 : decode cL_cell 8 = .ok (.iaload, 1) := by decide +kernel
theorem dL_cell_9 : decode cL_cell 9 = .ok (.goto 4, 3) := by decide +kernel
theorem dL_cell_12 : decode cL_cell 12 = .ok (.iconst 0, 1) := by decide +kernel
theorem dL_cell_13 : decode cL_cell 13 = .ok (.ireturn, 1) := by decide +kernel
theorem dL_law_0 : decode cL_law 0 = .ok (.new 7, 3) := by decide +kernel
theorem dL_law_3 : decode cL_law 3 = .ok (.dup, 1) := by decide +kernel
theorem dL_law_4 : decode cL_law 4 = .ok (.aload_n 0, 1) := by decide +kernel
theorem dL_law_5 : decode cL_law 5 = .ok (.iconst 0, 1) := by decide +kernel
theorem dL_law_6 : decode cL_law 6 = .ok (.invokestatic 9, 3) := by decide +kernel
theorem dL_law_9 : decode cL_law 9 = .ok (.i2l, 1) := by decide +kernel
theorem dL_law_10 : decode cL_law 10 = .ok (.invokespecial 15, 3) := by decide +kernel
theorem dL_law_13 : decode cL_law 13 = .ok (.astore_n 1, 1) := by decide +kernel
theorem dL_law_14 : decode cL_law 14 = .ok (.new 18, 3) := by decide +kernel
theorem dL_law_17 : decode cL_law 17 = .ok (.dup, 1) := by decide +kernel
theorem dL_law_18 : decode cL_law 18 = .ok (.aload_n 0, 1) := by decide +kernel
theorem dL_law_19 : decode cL_law 19 = .ok (.iconst 0, 1) := by decide +kernel
theorem dL_law_20 : decode cL_law 20 = .ok (.invokestatic 9, 3) := by decide +kernel
theorem dL_law_23 : decode cL_law 23 = .ok (.i2l, 1) := by decide +kernel
theorem dL_law_24 : decode cL_law 24 = .ok (.invokespecial 20, 3) := by decide +kernel
theorem dL_law_27 : decode cL_law 27 = .ok (.astore_n 2, 1) := by decide +kernel
theorem dL_law_28 : decode cL_law 28 = .ok (.iconst 1, 1) := by decide +kernel
theorem dL_law_29 : decode cL_law 29 = .ok (.istore_n 3, 1) := by decide +kernel
theorem dL_law_30 : decode cL_law 30 = .ok (.iload_n 3, 1) := by decide +kernel
theorem dL_law_31 : decode cL_law 31 = .ok (.aload_n 0, 1) := by decide +kernel
theorem dL_law_32 : decode cL_law 32 = .ok (.arraylength, 1) := by decide +kernel
theorem dL_law_33 : decode cL_law 33 = .ok (.bipush 6, 2) := by decide +kernel
theorem dL_law_35 : decode cL_law 35 = .ok (.isub, 1) := by decide +kernel
theorem dL_law_36 : decode cL_law 36 = .ok (.if_icmp .gt 692, 3) := by decide +kernel
theorem dL_law_39 : decode cL_law 39 = .ok (.aload_n 0, 1) := by decide +kernel
theorem dL_law_40 : decode cL_law 40 = .ok (.iload_n 3, 1) := by decide +kernel
theorem dL_law_41 : decode cL_law 41 = .ok (.iaload, 1) := by decide +kernel
theorem dL_law_42 : decode cL_law 42 = .ok (.bipush 31, 2) := by decide +kernel
theorem dL_law_44 : decode cL_law 44 = .ok (.iand, 1) := by decide +kernel
theorem dL_law_45 : decode cL_law 45 = .ok (.tableswitch 677 0 17 #[87, 150, 183, 242, 275, 318, 341, 364, 427, 440, 453, 486, 519, 552, 565, 598, 621, 654], 87) := by decide +kernel
theorem dL_law_132 : decode cL_law 132 = .ok (.aload_n 1, 1) := by decide +kernel
theorem dL_law_133 : decode cL_law 133 = .ok (.aload_n 0, 1) := by decide +kernel
theorem dL_law_134 : decode cL_law 134 = .ok (.iload_n 3, 1) := by decide +kernel
theorem dL_law_135 : decode cL_law 135 = .ok (.iconst 1, 1) := by decide +kernel
theorem dL_law_136 : decode cL_law 136 = .ok (.iadd, 1) := by decide +kernel
theorem dL_law_137 : decode cL_law 137 = .ok (.iaload, 1) := by decide +kernel
theorem dL_law_138 : decode cL_law 138 = .ok (.aload_n 0, 1) := by decide +kernel
theorem dL_law_139 : decode cL_law 139 = .ok (.iload_n 3, 1) := by decide +kernel
theorem dL_law_140 : decode cL_law 140 = .ok (.iconst 2, 1) := by decide +kernel
theorem dL_law_141 : decode cL_law 141 = .ok (.iadd, 1) := by decide +kernel
theorem dL_law_142 : decode cL_law 142 = .ok (.iaload, 1) := by decide +kernel
theorem dL_law_143 : decode cL_law 143 = .ok (.aload_n 0, 1) := by decide +kernel
theorem dL_law_144 : decode cL_law 144 = .ok (.iload_n 3, 1) := by decide +kernel
theorem dL_law_145 : decode cL_law 145 = .ok (.iconst 3, 1) := by decide +kernel
theorem dL_law_146 : decode cL_law 146 = .ok (.iadd, 1) := by decide +kernel
theorem dL_law_147 : decode cL_law 147 = .ok (.iaload, 1) := by decide +kernel
theorem dL_law_148 : decode cL_law 148 = .ok (.aload_n 0, 1) := by decide +kernel
theorem dL_law_149 : decode cL_law 149 = .ok (.iload_n 3, 1) := by decide +kernel
theorem dL_law_150 : decode cL_law 150 = .ok (.iconst 4, 1) := by decide +kernel
theorem dL_law_151 : decode cL_law 151 = .ok (.iadd, 1) := by decide +kernel
theorem dL_law_152 : decode cL_law 152 = .ok (.iaload, 1) := by decide +kernel
theorem dL_law_153 : decode cL_law 153 = .ok (.aload_n 0, 1) := by decide +kernel
theorem dL_law_154 : decode cL_law 154 = .ok (.iload_n 3, 1) := by decide +kernel
theorem dL_law_155 : decode cL_law 155 = .ok (.iconst 5, 1) := by decide +kernel
theorem dL_law_156 : decode cL_law 156 = .ok (.iadd, 1) := by decide +kernel
theorem dL_law_157 : decode cL_law 157 = .ok (.iaload, 1) := by decide +kernel
theorem dL_law_158 : decode cL_law 158 = .ok (.invokevirtual 21, 3) := by decide +kernel
theorem dL_law_161 : decode cL_law 161 = .ok (.aload_n 2, 1) := by decide +kernel
theorem dL_law_162 : decode cL_law 162 = .ok (.aload_n 0, 1) := by decide +kernel
theorem dL_law_163 : decode cL_law 163 = .ok (.iload_n 3, 1) := by decide +kernel
theorem dL_law_164 : decode cL_law 164 = .ok (.iconst 1, 1) := by decide +kernel
theorem dL_law_165 : decode cL_law 165 = .ok (.iadd, 1) := by decide +kernel
theorem dL_law_166 : decode cL_law 166 = .ok (.iaload, 1) := by decide +kernel
theorem dL_law_167 : decode cL_law 167 = .ok (.aload_n 0, 1) := by decide +kernel
theorem dL_law_168 : decode cL_law 168 = .ok (.iload_n 3, 1) := by decide +kernel
theorem dL_law_169 : decode cL_law 169 = .ok (.iconst 2, 1) := by decide +kernel
theorem dL_law_170 : decode cL_law 170 = .ok (.iadd, 1) := by decide +kernel
theorem dL_law_171 : decode cL_law 171 = .ok (.iaload, 1) := by decide +kernel
theorem dL_law_172 : decode cL_law 172 = .ok (.aload_n 0, 1) := by decide +kernel
theorem dL_law_173 : decode cL_law 173 = .ok (.iload_n 3, 1) := by decide +kernel
theorem dL_law_174 : decode cL_law 174 = .ok (.iconst 3, 1) := by decide +kernel
theorem dL_law_175 : decode cL_law 175 = .ok (.iadd, 1) := by decide +kernel
theorem dL_law_176 : decode cL_law 176 = .ok (.iaload, 1) := by decide +kernel
theorem dL_law_177 : decode cL_law 177 = .ok (.aload_n 0, 1) := by decide +kernel
theorem dL_law_178 : decode cL_law 178 = .ok (.iload_n 3, 1) := by decide +kernel
theorem dL_law_179 : decode cL_law 179 = .ok (.iconst 4, 1) := by decide +kernel
theorem dL_law_180 : decode cL_law 180 = .ok (.iadd, 1) := by decide +kernel
theorem dL_law_181 : decode cL_law 181 = .ok (.iaload, 1) := by decide +kernel
theorem dL_law_182 : decode cL_law 182 = .ok (.aload_n 0, 1) := by decide +kernel
theorem dL_law_183 : decode cL_law 183 = .ok (.iload_n 3, 1) := by decide +kernel
theorem dL_law_184 : decode cL_law 184 = .ok (.iconst 5, 1) := by decide +kernel
theorem dL_law_185 : decode cL_law 185 = .ok (.iadd, 1) := by decide +kernel
theorem dL_law_186 : decode cL_law 186 = .ok (.iaload, 1) := by decide +kernel
theorem dL_law_187 : decode cL_law 187 = .ok (.invokevirtual 25, 3) := by decide +kernel
theorem dL_law_190 : decode cL_law 190 = .ok (.if_icmp .eq 532, 3) := by decide +kernel
theorem dL_law_193 : decode cL_law 193 = .ok (.iconst 0, 1) := by decide +kernel
theorem dL_law_194 : decode cL_law 194 = .ok (.ireturn, 1) := by decide +kernel
theorem dL_law_195 : decode cL_law 195 = .ok (.aload_n 1, 1) := by decide +kernel
theorem dL_law_196 : decode cL_law 196 = .ok (.aload_n 0, 1) := by decide +kernel
theorem dL_law_197 : decode cL_law 197 = .ok (.iload_n 3, 1) := by decide +kernel
theorem dL_law_198 : decode cL_law 198 = .ok (.iconst 1, 1) := by decide +kernel
theorem dL_law_199 : decode cL_law 199 = .ok (.iadd, 1) := by decide +kernel
theorem dL_law_200 : decode cL_law 200 = .ok (.iaload, 1) := by decide +kernel
theorem dL_law_201 : decode cL_law 201 = .ok (.aload_n 0, 1) := by decide +kernel
theorem dL_law_202 : decode cL_law 202 = .ok (.iload_n 3, 1) := by decide +kernel
theorem dL_law_203 : decode cL_law 203 = .ok (.iconst 2, 1) := by decide +kernel
theorem dL_law_204 : decode cL_law 204 = .ok (.iadd, 1) := by decide +kernel
theorem dL_law_205 : decode cL_law 205 = .ok (.iaload, 1) := by decide +kernel
theorem dL_law_206 : decode cL_law 206 = .ok (.invokevirtual 26, 3) := by decide +kernel
theorem dL_law_209 : decode cL_law 209 = .ok (.aload_n 2, 1) := by decide +kernel
theorem dL_law_210 : decode cL_law 210 = .ok (.aload_n 0, 1) := by decide +kernel
theorem dL_law_211 : decode cL_law 211 = .ok (.iload_n 3, 1) := by decide +kernel
theorem dL_law_212 : decode cL_law 212 = .ok (.iconst 1, 1) := by decide +kernel
theorem dL_law_213 : decode cL_law 213 = .ok (.iadd, 1) := by decide +kernel
theorem dL_law_214 : decode cL_law 214 = .ok (.iaload, 1) := by decide +kernel
theorem dL_law_215 : decode cL_law 215 = .ok (.aload_n 0, 1) := by decide +kernel
theorem dL_law_216 : decode cL_law 216 = .ok (.iload_n 3, 1) := by decide +kernel
theorem dL_law_217 : decode cL_law 217 = .ok (.iconst 2, 1) := by decide +kernel
theorem dL_law_218 : decode cL_law 218 = .ok (.iadd, 1) := by decide +kernel
theorem dL_law_219 : decode cL_law 219 = .ok (.iaload, 1) := by decide +kernel
theorem dL_law_220 : decode cL_law 220 = .ok (.invokevirtual 30, 3) := by decide +kernel
theorem dL_law_223 : decode cL_law 223 = .ok (.if_icmp .eq 499, 3) := by decide +kernel
theorem dL_law_226 : decode cL_law 226 = .ok (.iconst 0, 1) := by decide +kernel
theorem dL_law_227 : decode cL_law 227 = .ok (.ireturn, 1) := by decide +kernel
theorem dL_law_228 : decode cL_law 228 = .ok (.aload_n 1, 1) := by decide +kernel
theorem dL_law_229 : decode cL_law 229 = .ok (.aload_n 0, 1) := by decide +kernel
theorem dL_law_230 : decode cL_law 230 = .ok (.iload_n 3, 1) := by decide +kernel
theorem dL_law_231 : decode cL_law 231 = .ok (.iconst 1, 1) := by decide +kernel
theorem dL_law_232 : decode cL_law 232 = .ok (.iadd, 1) := by decide +kernel
theorem dL_law_233 : decode cL_law 233 = .ok (.iaload, 1) := by decide +kernel
theorem dL_law_234 : decode cL_law 234 = .ok (.aload_n 0, 1) := by decide +kernel
theorem dL_law_235 : decode cL_law 235 = .ok (.iload_n 3, 1) := by decide +kernel
theorem dL_law_236 : decode cL_law 236 = .ok (.iconst 2, 1) := by decide +kernel
theorem dL_law_237 : decode cL_law 237 = .ok (.iadd, 1) := by decide +kernel
theorem dL_law_238 : decode cL_law 238 = .ok (.iaload, 1) := by decide +kernel
theorem dL_law_239 : decode cL_law 239 = .ok (.aload_n 0, 1) := by decide +kernel
theorem dL_law_240 : decode cL_law 240 = .ok (.iload_n 3, 1) := by decide +kernel
theorem dL_law_241 : decode cL_law 241 = .ok (.iconst 3, 1) := by decide +kernel
theorem dL_law_242 : decode cL_law 242 = .ok (.iadd, 1) := by decide +kernel
theorem dL_law_243 : decode cL_law 243 = .ok (.iaload, 1) := by decide +kernel
theorem dL_law_244 : decode cL_law 244 = .ok (.ifCond .eq 7, 3) := by decide +kernel
theorem dL_law_247 : decode cL_law 247 = .ok (.iconst 1, 1) := by decide +kernel
theorem dL_law_248 : decode cL_law 248 = .ok (.goto 4, 3) := by decide +kernel
theorem dL_law_251 : decode cL_law 251 = .ok (.iconst 0, 1) := by decide +kernel
theorem dL_law_252 : decode cL_law 252 = .ok (.invokevirtual 31, 3) := by decide +kernel
theorem dL_law_255 : decode cL_law 255 = .ok (.aload_n 2, 1) := by decide +kernel
theorem dL_law_256 : decode cL_law 256 = .ok (.aload_n 0, 1) := by decide +kernel
theorem dL_law_257 : decode cL_law 257 = .ok (.iload_n 3, 1) := by decide +kernel
theorem dL_law_258 : decode cL_law 258 = .ok (.iconst 1, 1) := by decide +kernel
theorem dL_law_259 : decode cL_law 259 = .ok (.iadd, 1) := by decide +kernel
theorem dL_law_260 : decode cL_law 260 = .ok (.iaload, 1) := by decide +kernel
theorem dL_law_261 : decode cL_law 261 = .ok (.aload_n 0, 1) := by decide +kernel
theorem dL_law_262 : decode cL_law 262 = .ok (.iload_n 3, 1) := by decide +kernel
theorem dL_law_263 : decode cL_law 263 = .ok (.iconst 2, 1) := by decide +kernel
theorem dL_law_264 : decode cL_law 264 = .ok (.iadd, 1) := by decide +kernel
theorem dL_law_265 : decode cL_law 265 = .ok (.iaload, 1) := by decide +kernel
theorem dL_law_266 : decode cL_law 266 = .ok (.aload_n 0, 1) := by decide +kernel
theorem dL_law_267 : decode cL_law 267 = .ok (.iload_n 3, 1) := by decide +kernel
theorem dL_law_268 : decode cL_law 268 = .ok (.iconst 3, 1) := by decide +kernel
theorem dL_law_269 : decode cL_law 269 = .ok (.iadd, 1) := by decide +kernel
theorem dL_law_270 : decode cL_law 270 = .ok (.iaload, 1) := by decide +kernel
theorem dL_law_271 : decode cL_law 271 = .ok (.ifCond .eq 7, 3) := by decide +kernel
theorem dL_law_274 : decode cL_law 274 = .ok (.iconst 1, 1) := by decide +kernel
theorem dL_law_275 : decode cL_law 275 = .ok (.goto 4, 3) := by decide +kernel
theorem dL_law_278 : decode cL_law 278 = .ok (.iconst 0, 1) := by decide +kernel
theorem dL_law_279 : decode cL_law 279 = .ok (.invokevirtual 35, 3) := by decide +kernel
theorem dL_law_282 : decode cL_law 282 = .ok (.if_icmp .eq 440, 3) := by decide +kernel
theorem dL_law_285 : decode cL_law 285 = .ok (.iconst 0, 1) := by decide +kernel
theorem dL_law_286 : decode cL_law 286 = .ok (.ireturn, 1) := by decide +kernel
theorem dL_law_287 : decode cL_law 287 = .ok (.aload_n 1, 1) := by decide +kernel
theorem dL_law_288 : decode cL_law 288 = .ok (.aload_n 0, 1) := by decide +kernel
theorem dL_law_289 : decode cL_law 289 = .ok (.iload_n 3, 1) := by decide +kernel
theorem dL_law_290 : decode cL_law 290 = .ok (.iconst 1, 1) := by decide +kernel
theorem dL_law_291 : decode cL_law 291 = .ok (.iadd, 1) := by decide +kernel
theorem dL_law_292 : decode cL_law 292 = .ok (.iaload, 1) := by decide +kernel
theorem dL_law_293 : decode cL_law 293 = .ok (.aload_n 0, 1) := by decide +kernel
theorem dL_law_294 : decode cL_law 294 = .ok (.iload_n 3, 1) := by decide +kernel
theorem dL_law_295 : decode cL_law 295 = .ok (.iconst 2, 1) := by decide +kernel
theorem dL_law_296 : decode cL_law 296 = .ok (.iadd, 1) := by decide +kernel
theorem dL_law_297 : decode cL_law 297 = .ok (.iaload, 1) := by decide +kernel
theorem dL_law_298 : decode cL_law 298 = .ok (.invokevirtual 36, 3) := by decide +kernel
theorem dL_law_301 : decode cL_law 301 = .ok (.aload_n 2, 1) := by decide +kernel
theorem dL_law_302 : decode cL_law 302 = .ok (.aload_n 0, 1) := by decide +kernel
theorem dL_law_303 : decode cL_law 303 = .ok (.iload_n 3, 1) := by decide +kernel
theorem dL_law_304 : decode cL_law 304 = .ok (.iconst 1, 1) := by decide +kernel
theorem dL_law_305 : decode cL_law 305 = .ok (.iadd, 1) := by decide +kernel
theorem dL_law_306 : decode cL_law 306 = .ok (.iaload, 1) := by decide +kernel
theorem dL_law_307 : decode cL_law 307 = .ok (.aload_n 0, 1) := by decide +kernel
theorem dL_law_308 : decode cL_law 308 = .ok (.iload_n 3, 1) := by decide +kernel
theorem dL_law_309 : decode cL_law 309 = .ok (.iconst 2, 1) := by decide +kernel
theorem dL_law_310 : decode cL_law 310 = .ok (.iadd, 1) := by decide +kernel
theorem dL_law_311 : decode cL_law 311 = .ok (.iaload, 1) := by decide +kernel
theorem dL_law_312 : decode cL_law 312 = .ok (.invokevirtual 39, 3) := by decide +kernel
theorem dL_law_315 : decode cL_law 315 = .ok (.if_icmp .eq 407, 3) := by decide +kernel
theorem dL_law_318 : decode cL_law 318 = .ok (.iconst 0, 1) := by decide +kernel
theorem dL_law_319 : decode cL_law 319 = .ok (.ireturn, 1) := by decide +kernel
theorem dL_law_320 : decode cL_law 320 = .ok (.aload_n 1, 1) := by decide +kernel
theorem dL_law_321 : decode cL_law 321 = .ok (.aload_n 0, 1) := by decide +kernel
theorem dL_law_322 : decode cL_law 322 = .ok (.iload_n 3, 1) := by decide +kernel
theorem dL_law_323 : decode cL_law 323 = .ok (.iconst 1, 1) := by decide +kernel
theorem dL_law_324 : decode cL_law 324 = .ok (.iadd, 1) := by decide +kernel
theorem dL_law_325 : decode cL_law 325 = .ok (.iaload, 1) := by decide +kernel
theorem dL_law_326 : decode cL_law 326 = .ok (.aload_n 0, 1) := by decide +kernel
theorem dL_law_327 : decode cL_law 327 = .ok (.iload_n 3, 1) := by decide +kernel
theorem dL_law_328 : decode cL_law 328 = .ok (.iconst 2, 1) := by decide +kernel
theorem dL_law_329 : decode cL_law 329 = .ok (.iadd, 1) := by decide +kernel
theorem dL_law_330 : decode cL_law 330 = .ok (.iaload, 1) := by decide +kernel
theorem dL_law_331 : decode cL_law 331 = .ok (.aload_n 0, 1) := by decide +kernel
theorem dL_law_332 : decode cL_law 332 = .ok (.iload_n 3, 1) := by decide +kernel
theorem dL_law_333 : decode cL_law 333 = .ok (.iconst 3, 1) := by decide +kernel
theorem dL_law_334 : decode cL_law 334 = .ok (.iadd, 1) := by decide +kernel
theorem dL_law_335 : decode cL_law 335 = .ok (.iaload, 1) := by decide +kernel
theorem dL_law_336 : decode cL_law 336 = .ok (.invokevirtual 40, 3) := by decide +kernel
theorem dL_law_339 : decode cL_law 339 = .ok (.aload_n 2, 1) := by decide +kernel
theorem dL_law_340 : decode cL_law 340 = .ok (.aload_n 0, 1) := by decide +kernel
theorem dL_law_341 : decode cL_law 341 = .ok (.iload_n 3, 1) := by decide +kernel
theorem dL_law_342 : decode cL_law 342 = .ok (.iconst 1, 1) := by decide +kernel
theorem dL_law_343 : decode cL_law 343 = .ok (.iadd, 1) := by decide +kernel
theorem dL_law_344 : decode cL_law 344 = .ok (.iaload, 1) := by decide +kernel
theorem dL_law_345 : decode cL_law 345 = .ok (.aload_n 0, 1) := by decide +kernel
theorem dL_law_346 : decode cL_law 346 = .ok (.iload_n 3, 1) := by decide +kernel
theorem dL_law_347 : decode cL_law 347 = .ok (.iconst 2, 1) := by decide +kernel
theorem dL_law_348 : decode cL_law 348 = .ok (.iadd, 1) := by decide +kernel
theorem dL_law_349 : decode cL_law 349 = .ok (.iaload, 1) := by decide +kernel
theorem dL_law_350 : decode cL_law 350 = .ok (.aload_n 0, 1) := by decide +kernel
theorem dL_law_351 : decode cL_law 351 = .ok (.iload_n 3, 1) := by decide +kernel
theorem dL_law_352 : decode cL_law 352 = .ok (.iconst 3, 1) := by decide +kernel
theorem dL_law_353 : decode cL_law 353 = .ok (.iadd, 1) := by decide +kernel
theorem dL_law_354 : decode cL_law 354 = .ok (.iaload, 1) := by decide +kernel
theorem dL_law_355 : decode cL_law 355 = .ok (.invokevirtual 44, 3) := by decide +kernel
theorem dL_law_358 : decode cL_law 358 = .ok (.if_icmp .eq 364, 3) := by decide +kernel
theorem dL_law_361 : decode cL_law 361 = .ok (.iconst 0, 1) := by decide +kernel
theorem dL_law_362 : decode cL_law 362 = .ok (.ireturn, 1) := by decide +kernel
theorem dL_law_363 : decode cL_law 363 = .ok (.aload_n 1, 1) := by decide +kernel
theorem dL_law_364 : decode cL_law 364 = .ok (.aload_n 0, 1) := by decide +kernel
theorem dL_law_365 : decode cL_law 365 = .ok (.iload_n 3, 1) := by decide +kernel
theorem dL_law_366 : decode cL_law 366 = .ok (.iconst 1, 1) := by decide +kernel
theorem dL_law_367 : decode cL_law 367 = .ok (.iadd, 1) := by decide +kernel
theorem dL_law_368 : decode cL_law 368 = .ok (.iaload, 1) := by decide +kernel
theorem dL_law_369 : decode cL_law 369 = .ok (.invokevirtual 45, 3) := by decide +kernel
theorem dL_law_372 : decode cL_law 372 = .ok (.aload_n 2, 1) := by decide +kernel
theorem dL_law_373 : decode cL_law 373 = .ok (.aload_n 0, 1) := by decide +kernel
theorem dL_law_374 : decode cL_law 374 = .ok (.iload_n 3, 1) := by decide +kernel
theorem dL_law_375 : decode cL_law 375 = .ok (.iconst 1, 1) := by decide +kernel
theorem dL_law_376 : decode cL_law 376 = .ok (.iadd, 1) := by decide +kernel
theorem dL_law_377 : decode cL_law 377 = .ok (.iaload, 1) := by decide +kernel
theorem dL_law_378 : decode cL_law 378 = .ok (.invokevirtual 49, 3) := by decide +kernel
theorem dL_law_381 : decode cL_law 381 = .ok (.if_icmp .eq 341, 3) := by decide +kernel
theorem dL_law_384 : decode cL_law 384 = .ok (.iconst 0, 1) := by decide +kernel
theorem dL_law_385 : decode cL_law 385 = .ok (.ireturn, 1) := by decide +kernel
theorem dL_law_386 : decode cL_law 386 = .ok (.aload_n 1, 1) := by decide +kernel
theorem dL_law_387 : decode cL_law 387 = .ok (.aload_n 0, 1) := by decide +kernel
theorem dL_law_388 : decode cL_law 388 = .ok (.iload_n 3, 1) := by decide +kernel
theorem dL_law_389 : decode cL_law 389 = .ok (.iconst 1, 1) := by decide +kernel
theorem dL_law_390 : decode cL_law 390 = .ok (.iadd, 1) := by decide +kernel
theorem dL_law_391 : decode cL_law 391 = .ok (.iaload, 1) := by decide +kernel
theorem dL_law_392 : decode cL_law 392 = .ok (.invokevirtual 50, 3) := by decide +kernel
theorem dL_law_395 : decode cL_law 395 = .ok (.aload_n 2, 1) := by decide +kernel
theorem dL_law_396 : decode cL_law 396 = .ok (.aload_n 0, 1) := by decide +kernel
theorem dL_law_397 : decode cL_law 397 = .ok (.iload_n 3, 1) := by decide +kernel
theorem dL_law_398 : decode cL_law 398 = .ok (.iconst 1, 1) := by decide +kernel
theorem dL_law_399 : decode cL_law 399 = .ok (.iadd, 1) := by decide +kernel
theorem dL_law_400 : decode cL_law 400 = .ok (.iaload, 1) := by decide +kernel
theorem dL_law_401 : decode cL_law 401 = .ok (.invokevirtual 53, 3) := by decide +kernel
theorem dL_law_404 : decode cL_law 404 = .ok (.if_icmp .eq 318, 3) := by decide +kernel
theorem dL_law_407 : decode cL_law 407 = .ok (.iconst 0, 1) := by decide +kernel
theorem dL_law_408 : decode cL_law 408 = .ok (.ireturn, 1) := by decide +kernel
theorem dL_law_409 : decode cL_law 409 = .ok (.aload_n 1, 1) := by decide +kernel
theorem dL_law_410 : decode cL_law 410 = .ok (.aload_n 0, 1) := by decide +kernel
theorem dL_law_411 : decode cL_law 411 = .ok (.iload_n 3, 1) := by decide +kernel
theorem dL_law_412 : decode cL_law 412 = .ok (.iconst 1, 1) := by decide +kernel
theorem dL_law_413 : decode cL_law 413 = .ok (.iadd, 1) := by decide +kernel
theorem dL_law_414 : decode cL_law 414 = .ok (.iaload, 1) := by decide +kernel
theorem dL_law_415 : decode cL_law 415 = .ok (.aload_n 0, 1) := by decide +kernel
theorem dL_law_416 : decode cL_law 416 = .ok (.iload_n 3, 1) := by decide +kernel
theorem dL_law_417 : decode cL_law 417 = .ok (.iconst 2, 1) := by decide +kernel
theorem dL_law_418 : decode cL_law 418 = .ok (.iadd, 1) := by decide +kernel
theorem dL_law_419 : decode cL_law 419 = .ok (.iaload, 1) := by decide +kernel
theorem dL_law_420 : decode cL_law 420 = .ok (.i2l, 1) := by decide +kernel
theorem dL_law_421 : decode cL_law 421 = .ok (.bipush 32, 2) := by decide +kernel
theorem dL_law_423 : decode cL_law 423 = .ok (.lshl, 1) := by decide +kernel
theorem dL_law_424 : decode cL_law 424 = .ok (.aload_n 0, 1) := by decide +kernel
theorem dL_law_425 : decode cL_law 425 = .ok (.iload_n 3, 1) := by decide +kernel
theorem dL_law_426 : decode cL_law 426 = .ok (.iconst 3, 1) := by decide +kernel
theorem dL_law_427 : decode cL_law 427 = .ok (.iadd, 1) := by decide +kernel
theorem dL_law_428 : decode cL_law 428 = .ok (.iaload, 1) := by decide +kernel
theorem dL_law_429 : decode cL_law 429 = .ok (.i2l, 1) := by decide +kernel
theorem dL_law_430 : decode cL_law 430 = .ok (.ldc2_w 54, 3) := by decide +kernel
theorem dL_law_433 : decode cL_law 433 = .ok (.land, 1) := by decide +kernel
theorem dL_law_434 : decode cL_law 434 = .ok (.lor, 1) := by decide +kernel
theorem dL_law_435 : decode cL_law 435 = .ok (.invokevirtual 56, 3) := by decide +kernel
theorem dL_law_438 : decode cL_law 438 = .ok (.aload_n 2, 1) := by decide +kernel
theorem dL_law_439 : decode cL_law 439 = .ok (.aload_n 0, 1) := by decide +kernel
theorem dL_law_440 : decode cL_law 440 = .ok (.iload_n 3, 1) := by decide +kernel
theorem dL_law_441 : decode cL_law 441 = .ok (.iconst 1, 1) := by decide +kernel
theorem dL_law_442 : decode cL_law 442 = .ok (.iadd, 1) := by decide +kernel
theorem dL_law_443 : decode cL_law 443 = .ok (.iaload, 1) := by decide +kernel
theorem dL_law_444 : decode cL_law 444 = .ok (.aload_n 0, 1) := by decide +kernel
theorem dL_law_445 : decode cL_law 445 = .ok (.iload_n 3, 1) := by decide +kernel
theorem dL_law_446 : decode cL_law 446 = .ok (.iconst 2, 1) := by decide +kernel
theorem dL_law_447 : decode cL_law 447 = .ok (.iadd, 1) := by decide +kernel
theorem dL_law_448 : decode cL_law 448 = .ok (.iaload, 1) := by decide +kernel
theorem dL_law_449 : decode cL_law 449 = .ok (.i2l, 1) := by decide +kernel
theorem dL_law_450 : decode cL_law 450 = .ok (.bipush 32, 2) := by decide +kernel
theorem dL_law_452 : decode cL_law 452 = .ok (.lshl, 1) := by decide +kernel
theorem dL_law_453 : decode cL_law 453 = .ok (.aload_n 0, 1) := by decide +kernel
theorem dL_law_454 : decode cL_law 454 = .ok (.iload_n 3, 1) := by decide +kernel
theorem dL_law_455 : decode cL_law 455 = .ok (.iconst 3, 1) := by decide +kernel
theorem dL_law_456 : decode cL_law 456 = .ok (.iadd, 1) := by decide +kernel
theorem dL_law_457 : decode cL_law 457 = .ok (.iaload, 1) := by decide +kernel
theorem dL_law_458 : decode cL_law 458 = .ok (.i2l, 1) := by decide +kernel
theorem dL_law_459 : decode cL_law 459 = .ok (.ldc2_w 54, 3) := by decide +kernel
theorem dL_law_462 : decode cL_law 462 = .ok (.land, 1) := by decide +kernel
theorem dL_law_463 : decode cL_law 463 = .ok (.lor, 1) := by decide +kernel
theorem dL_law_464 : decode cL_law 464 = .ok (.invokevirtual 60, 3) := by decide +kernel
theorem dL_law_467 : decode cL_law 467 = .ok (.if_icmp .eq 255, 3) := by decide +kernel
theorem dL_law_470 : decode cL_law 470 = .ok (.iconst 0, 1) := by decide +kernel
theorem dL_law_471 : decode cL_law 471 = .ok (.ireturn, 1) := by decide +kernel
theorem dL_law_472 : decode cL_law 472 = .ok (.aload_n 1, 1) := by decide +kernel
theorem dL_law_473 : decode cL_law 473 = .ok (.invokevirtual 61, 3) := by decide +kernel
theorem dL_law_476 : decode cL_law 476 = .ok (.aload_n 2, 1) := by decide +kernel
theorem dL_law_477 : decode cL_law 477 = .ok (.invokevirtual 65, 3) := by decide +kernel
theorem dL_law_480 : decode cL_law 480 = .ok (.if_icmp .eq 242, 3) := by decide +kernel
theorem dL_law_483 : decode cL_law 483 = .ok (.iconst 0, 1) := by decide +kernel
theorem dL_law_484 : decode cL_law 484 = .ok (.ireturn, 1) := by decide +kernel
theorem dL_law_485 : decode cL_law 485 = .ok (.aload_n 1, 1) := by decide +kernel
theorem dL_law_486 : decode cL_law 486 = .ok (.invokevirtual 66, 3) := by decide +kernel
theorem dL_law_489 : decode cL_law 489 = .ok (.aload_n 2, 1) := by decide +kernel
theorem dL_law_490 : decode cL_law 490 = .ok (.invokevirtual 69, 3) := by decide +kernel
theorem dL_law_493 : decode cL_law 493 = .ok (.if_icmp .eq 229, 3) := by decide +kernel
theorem dL_law_496 : decode cL_law 496 = .ok (.iconst 0, 1) := by decide +kernel
theorem dL_law_497 : decode cL_law 497 = .ok (.ireturn, 1) := by decide +kernel
theorem dL_law_498 : decode cL_law 498 = .ok (.aload_n 1, 1) := by decide +kernel
theorem dL_law_499 : decode cL_law 499 = .ok (.aload_n 0, 1) := by decide +kernel
theorem dL_law_500 : decode cL_law 500 = .ok (.iload_n 3, 1) := by decide +kernel
theorem dL_law_501 : decode cL_law 501 = .ok (.iconst 1, 1) := by decide +kernel
theorem dL_law_502 : decode cL_law 502 = .ok (.iadd, 1) := by decide +kernel
theorem dL_law_503 : decode cL_law 503 = .ok (.iaload, 1) := by decide +kernel
theorem dL_law_504 : decode cL_law 504 = .ok (.aload_n 0, 1) := by decide +kernel
theorem dL_law_505 : decode cL_law 505 = .ok (.iload_n 3, 1) := by decide +kernel
theorem dL_law_506 : decode cL_law 506 = .ok (.iconst 2, 1) := by decide +kernel
theorem dL_law_507 : decode cL_law 507 = .ok (.iadd, 1) := by decide +kernel
theorem dL_law_508 : decode cL_law 508 = .ok (.iaload, 1) := by decide +kernel
theorem dL_law_509 : decode cL_law 509 = .ok (.invokevirtual 70, 3) := by decide +kernel
theorem dL_law_512 : decode cL_law 512 = .ok (.aload_n 2, 1) := by decide +kernel
theorem dL_law_513 : decode cL_law 513 = .ok (.aload_n 0, 1) := by decide +kernel
theorem dL_law_514 : decode cL_law 514 = .ok (.iload_n 3, 1) := by decide +kernel
theorem dL_law_515 : decode cL_law 515 = .ok (.iconst 1, 1) := by decide +kernel
theorem dL_law_516 : decode cL_law 516 = .ok (.iadd, 1) := by decide +kernel
theorem dL_law_517 : decode cL_law 517 = .ok (.iaload, 1) := by decide +kernel
theorem dL_law_518 : decode cL_law 518 = .ok (.aload_n 0, 1) := by decide +kernel
theorem dL_law_519 : decode cL_law 519 = .ok (.iload_n 3, 1) := by decide +kernel
theorem dL_law_520 : decode cL_law 520 = .ok (.iconst 2, 1) := by decide +kernel
theorem dL_law_521 : decode cL_law 521 = .ok (.iadd, 1) := by decide +kernel
theorem dL_law_522 : decode cL_law 522 = .ok (.iaload, 1) := by decide +kernel
theorem dL_law_523 : decode cL_law 523 = .ok (.invokevirtual 73, 3) := by decide +kernel
theorem dL_law_526 : decode cL_law 526 = .ok (.if_icmp .eq 196, 3) := by decide +kernel
theorem dL_law_529 : decode cL_law 529 = .ok (.iconst 0, 1) := by decide +kernel
theorem dL_law_530 : decode cL_law 530 = .ok (.ireturn, 1) := by decide +kernel
theorem dL_law_531 : decode cL_law 531 = .ok (.aload_n 1, 1) := by decide +kernel
theorem dL_law_532 : decode cL_law 532 = .ok (.aload_n 0, 1) := by decide +kernel
theorem dL_law_533 : decode cL_law 533 = .ok (.iload_n 3, 1) := by decide +kernel
theorem dL_law_534 : decode cL_law 534 = .ok (.iconst 1, 1) := by decide +kernel
theorem dL_law_535 : decode cL_law 535 = .ok (.iadd, 1) := by decide +kernel
theorem dL_law_536 : decode cL_law 536 = .ok (.iaload, 1) := by decide +kernel
theorem dL_law_537 : decode cL_law 537 = .ok (.aload_n 0, 1) := by decide +kernel
theorem dL_law_538 : decode cL_law 538 = .ok (.iload_n 3, 1) := by decide +kernel
theorem dL_law_539 : decode cL_law 539 = .ok (.iconst 2, 1) := by decide +kernel
theorem dL_law_540 : decode cL_law 540 = .ok (.iadd, 1) := by decide +kernel
theorem dL_law_541 : decode cL_law 541 = .ok (.iaload, 1) := by decide +kernel
theorem dL_law_542 : decode cL_law 542 = .ok (.invokevirtual 74, 3) := by decide +kernel
theorem dL_law_545 : decode cL_law 545 = .ok (.aload_n 2, 1) := by decide +kernel
theorem dL_law_546 : decode cL_law 546 = .ok (.aload_n 0, 1) := by decide +kernel
theorem dL_law_547 : decode cL_law 547 = .ok (.iload_n 3, 1) := by decide +kernel
theorem dL_law_548 : decode cL_law 548 = .ok (.iconst 1, 1) := by decide +kernel
theorem dL_law_549 : decode cL_law 549 = .ok (.iadd, 1) := by decide +kernel
theorem dL_law_550 : decode cL_law 550 = .ok (.iaload, 1) := by decide +kernel
theorem dL_law_551 : decode cL_law 551 = .ok (.aload_n 0, 1) := by decide +kernel
theorem dL_law_552 : decode cL_law 552 = .ok (.iload_n 3, 1) := by decide +kernel
theorem dL_law_553 : decode cL_law 553 = .ok (.iconst 2, 1) := by decide +kernel
theorem dL_law_554 : decode cL_law 554 = .ok (.iadd, 1) := by decide +kernel
theorem dL_law_555 : decode cL_law 555 = .ok (.iaload, 1) := by decide +kernel
theorem dL_law_556 : decode cL_law 556 = .ok (.invokevirtual 77, 3) := by decide +kernel
theorem dL_law_559 : decode cL_law 559 = .ok (.if_icmp .eq 163, 3) := by decide +kernel
theorem dL_law_562 : decode cL_law 562 = .ok (.iconst 0, 1) := by decide +kernel
theorem dL_law_563 : decode cL_law 563 = .ok (.ireturn, 1) := by decide +kernel
theorem dL_law_564 : decode cL_law 564 = .ok (.aload_n 1, 1) := by decide +kernel
theorem dL_law_565 : decode cL_law 565 = .ok (.aload_n 0, 1) := by decide +kernel
theorem dL_law_566 : decode cL_law 566 = .ok (.iload_n 3, 1) := by decide +kernel
theorem dL_law_567 : decode cL_law 567 = .ok (.iconst 1, 1) := by decide +kernel
theorem dL_law_568 : decode cL_law 568 = .ok (.iadd, 1) := by decide +kernel
theorem dL_law_569 : decode cL_law 569 = .ok (.iaload, 1) := by decide +kernel
theorem dL_law_570 : decode cL_law 570 = .ok (.aload_n 0, 1) := by decide +kernel
theorem dL_law_571 : decode cL_law 571 = .ok (.iload_n 3, 1) := by decide +kernel
theorem dL_law_572 : decode cL_law 572 = .ok (.iconst 2, 1) := by decide +kernel
theorem dL_law_573 : decode cL_law 573 = .ok (.iadd, 1) := by decide +kernel
theorem dL_law_574 : decode cL_law 574 = .ok (.iaload, 1) := by decide +kernel
theorem dL_law_575 : decode cL_law 575 = .ok (.invokevirtual 78, 3) := by decide +kernel
theorem dL_law_578 : decode cL_law 578 = .ok (.aload_n 2, 1) := by decide +kernel
theorem dL_law_579 : decode cL_law 579 = .ok (.aload_n 0, 1) := by decide +kernel
theorem dL_law_580 : decode cL_law 580 = .ok (.iload_n 3, 1) := by decide +kernel
theorem dL_law_581 : decode cL_law 581 = .ok (.iconst 1, 1) := by decide +kernel
theorem dL_law_582 : decode cL_law 582 = .ok (.iadd, 1) := by decide +kernel
theorem dL_law_583 : decode cL_law 583 = .ok (.iaload, 1) := by decide +kernel
theorem dL_law_584 : decode cL_law 584 = .ok (.aload_n 0, 1) := by decide +kernel
theorem dL_law_585 : decode cL_law 585 = .ok (.iload_n 3, 1) := by decide +kernel
theorem dL_law_586 : decode cL_law 586 = .ok (.iconst 2, 1) := by decide +kernel
theorem dL_law_587 : decode cL_law 587 = .ok (.iadd, 1) := by decide +kernel
theorem dL_law_588 : decode cL_law 588 = .ok (.iaload, 1) := by decide +kernel
theorem dL_law_589 : decode cL_law 589 = .ok (.invokevirtual 81, 3) := by decide +kernel
theorem dL_law_592 : decode cL_law 592 = .ok (.if_icmp .eq 130, 3) := by decide +kernel
theorem dL_law_595 : decode cL_law 595 = .ok (.iconst 0, 1) := by decide +kernel
theorem dL_law_596 : decode cL_law 596 = .ok (.ireturn, 1) := by decide +kernel
theorem dL_law_597 : decode cL_law 597 = .ok (.aload_n 1, 1) := by decide +kernel
theorem dL_law_598 : decode cL_law 598 = .ok (.invokevirtual 82, 3) := by decide +kernel
theorem dL_law_601 : decode cL_law 601 = .ok (.aload_n 2, 1) := by decide +kernel
theorem dL_law_602 : decode cL_law 602 = .ok (.invokevirtual 85, 3) := by decide +kernel
theorem dL_law_605 : decode cL_law 605 = .ok (.if_icmp .eq 117, 3) := by decide +kernel
theorem dL_law_608 : decode cL_law 608 = .ok (.iconst 0, 1) := by decide +kernel
theorem dL_law_609 : decode cL_law 609 = .ok (.ireturn, 1) := by decide +kernel
theorem dL_law_610 : decode cL_law 610 = .ok (.aload_n 1, 1) := by decide +kernel
theorem dL_law_611 : decode cL_law 611 = .ok (.aload_n 0, 1) := by decide +kernel
theorem dL_law_612 : decode cL_law 612 = .ok (.iload_n 3, 1) := by decide +kernel
theorem dL_law_613 : decode cL_law 613 = .ok (.iconst 1, 1) := by decide +kernel
theorem dL_law_614 : decode cL_law 614 = .ok (.iadd, 1) := by decide +kernel
theorem dL_law_615 : decode cL_law 615 = .ok (.iaload, 1) := by decide +kernel
theorem dL_law_616 : decode cL_law 616 = .ok (.aload_n 0, 1) := by decide +kernel
theorem dL_law_617 : decode cL_law 617 = .ok (.iload_n 3, 1) := by decide +kernel
theorem dL_law_618 : decode cL_law 618 = .ok (.iconst 2, 1) := by decide +kernel
theorem dL_law_619 : decode cL_law 619 = .ok (.iadd, 1) := by decide +kernel
theorem dL_law_620 : decode cL_law 620 = .ok (.iaload, 1) := by decide +kernel
theorem dL_law_621 : decode cL_law 621 = .ok (.invokevirtual 86, 3) := by decide +kernel
theorem dL_law_624 : decode cL_law 624 = .ok (.aload_n 2, 1) := by decide +kernel
theorem dL_law_625 : decode cL_law 625 = .ok (.aload_n 0, 1) := by decide +kernel
theorem dL_law_626 : decode cL_law 626 = .ok (.iload_n 3, 1) := by decide +kernel
theorem dL_law_627 : decode cL_law 627 = .ok (.iconst 1, 1) := by decide +kernel
theorem dL_law_628 : decode cL_law 628 = .ok (.iadd, 1) := by decide +kernel
theorem dL_law_629 : decode cL_law 629 = .ok (.iaload, 1) := by decide +kernel
theorem dL_law_630 : decode cL_law 630 = .ok (.aload_n 0, 1) := by decide +kernel
theorem dL_law_631 : decode cL_law 631 = .ok (.iload_n 3, 1) := by decide +kernel
theorem dL_law_632 : decode cL_law 632 = .ok (.iconst 2, 1) := by decide +kernel
theorem dL_law_633 : decode cL_law 633 = .ok (.iadd, 1) := by decide +kernel
theorem dL_law_634 : decode cL_law 634 = .ok (.iaload, 1) := by decide +kernel
theorem dL_law_635 : decode cL_law 635 = .ok (.invokevirtual 89, 3) := by decide +kernel
theorem dL_law_638 : decode cL_law 638 = .ok (.if_icmp .eq 84, 3) := by decide +kernel
theorem dL_law_641 : decode cL_law 641 = .ok (.iconst 0, 1) := by decide +kernel
theorem dL_law_642 : decode cL_law 642 = .ok (.ireturn, 1) := by decide +kernel
theorem dL_law_643 : decode cL_law 643 = .ok (.aload_n 1, 1) := by decide +kernel
theorem dL_law_644 : decode cL_law 644 = .ok (.aload_n 0, 1) := by decide +kernel
theorem dL_law_645 : decode cL_law 645 = .ok (.iload_n 3, 1) := by decide +kernel
theorem dL_law_646 : decode cL_law 646 = .ok (.iconst 1, 1) := by decide +kernel
theorem dL_law_647 : decode cL_law 647 = .ok (.iadd, 1) := by decide +kernel
theorem dL_law_648 : decode cL_law 648 = .ok (.iaload, 1) := by decide +kernel
theorem dL_law_649 : decode cL_law 649 = .ok (.invokevirtual 90, 3) := by decide +kernel
theorem dL_law_652 : decode cL_law 652 = .ok (.aload_n 2, 1) := by decide +kernel
theorem dL_law_653 : decode cL_law 653 = .ok (.aload_n 0, 1) := by decide +kernel
theorem dL_law_654 : decode cL_law 654 = .ok (.iload_n 3, 1) := by decide +kernel
theorem dL_law_655 : decode cL_law 655 = .ok (.iconst 1, 1) := by decide +kernel
theorem dL_law_656 : decode cL_law 656 = .ok (.iadd, 1) := by decide +kernel
theorem dL_law_657 : decode cL_law 657 = .ok (.iaload, 1) := by decide +kernel
theorem dL_law_658 : decode cL_law 658 = .ok (.invokevirtual 93, 3) := by decide +kernel
theorem dL_law_661 : decode cL_law 661 = .ok (.if_icmp .eq 61, 3) := by decide +kernel
theorem dL_law_664 : decode cL_law 664 = .ok (.iconst 0, 1) := by decide +kernel
theorem dL_law_665 : decode cL_law 665 = .ok (.ireturn, 1) := by decide +kernel
theorem dL_law_666 : decode cL_law 666 = .ok (.aload_n 1, 1) := by decide +kernel
theorem dL_law_667 : decode cL_law 667 = .ok (.aload_n 0, 1) := by decide +kernel
theorem dL_law_668 : decode cL_law 668 = .ok (.iload_n 3, 1) := by decide +kernel
theorem dL_law_669 : decode cL_law 669 = .ok (.iconst 1, 1) := by decide +kernel
theorem dL_law_670 : decode cL_law 670 = .ok (.iadd, 1) := by decide +kernel
theorem dL_law_671 : decode cL_law 671 = .ok (.iaload, 1) := by decide +kernel
theorem dL_law_672 : decode cL_law 672 = .ok (.aload_n 0, 1) := by decide +kernel
theorem dL_law_673 : decode cL_law 673 = .ok (.iload_n 3, 1) := by decide +kernel
theorem dL_law_674 : decode cL_law 674 = .ok (.iconst 2, 1) := by decide +kernel
theorem dL_law_675 : decode cL_law 675 = .ok (.iadd, 1) := by decide +kernel
theorem dL_law_676 : decode cL_law 676 = .ok (.iaload, 1) := by decide +kernel
theorem dL_law_677 : decode cL_law 677 = .ok (.invokevirtual 94, 3) := by decide +kernel
theorem dL_law_680 : decode cL_law 680 = .ok (.aload_n 2, 1) := by decide +kernel
theorem dL_law_681 : decode cL_law 681 = .ok (.aload_n 0, 1) := by decide +kernel
theorem dL_law_682 : decode cL_law 682 = .ok (.iload_n 3, 1) := by decide +kernel
theorem dL_law_683 : decode cL_law 683 = .ok (.iconst 1, 1) := by decide +kernel
theorem dL_law_684 : decode cL_law 684 = .ok (.iadd, 1) := by decide +kernel
theorem dL_law_685 : decode cL_law 685 = .ok (.iaload, 1) := by decide +kernel
theorem dL_law_686 : decode cL_law 686 = .ok (.aload_n 0, 1) := by decide +kernel
theorem dL_law_687 : decode cL_law 687 = .ok (.iload_n 3, 1) := by decide +kernel
theorem dL_law_688 : decode cL_law 688 = .ok (.iconst 2, 1) := by decide +kernel
theorem dL_law_689 : decode cL_law 689 = .ok (.iadd, 1) := by decide +kernel
theorem dL_law_690 : decode cL_law 690 = .ok (.iaload, 1) := by decide +kernel
theorem dL_law_691 : decode cL_law 691 = .ok (.invokevirtual 97, 3) := by decide +kernel
theorem dL_law_694 : decode cL_law 694 = .ok (.if_icmp .eq 28, 3) := by decide +kernel
theorem dL_law_697 : decode cL_law 697 = .ok (.iconst 0, 1) := by decide +kernel
theorem dL_law_698 : decode cL_law 698 = .ok (.ireturn, 1) := by decide +kernel
theorem dL_law_699 : decode cL_law 699 = .ok (.aload_n 1, 1) := by decide +kernel
theorem dL_law_700 : decode cL_law 700 = .ok (.aload_n 0, 1) := by decide +kernel
theorem dL_law_701 : decode cL_law 701 = .ok (.iload_n 3, 1) := by decide +kernel
theorem dL_law_702 : decode cL_law 702 = .ok (.iconst 1, 1) := by decide +kernel
theorem dL_law_703 : decode cL_law 703 = .ok (.iadd, 1) := by decide +kernel
theorem dL_law_704 : decode cL_law 704 = .ok (.iaload, 1) := by decide +kernel
theorem dL_law_705 : decode cL_law 705 = .ok (.invokevirtual 98, 3) := by decide +kernel
theorem dL_law_708 : decode cL_law 708 = .ok (.aload_n 2, 1) := by decide +kernel
theorem dL_law_709 : decode cL_law 709 = .ok (.aload_n 0, 1) := by decide +kernel
theorem dL_law_710 : decode cL_law 710 = .ok (.iload_n 3, 1) := by decide +kernel
theorem dL_law_711 : decode cL_law 711 = .ok (.iconst 1, 1) := by decide +kernel
theorem dL_law_712 : decode cL_law 712 = .ok (.iadd, 1) := by decide +kernel
theorem dL_law_713 : decode cL_law 713 = .ok (.iaload, 1) := by decide +kernel
theorem dL_law_714 : decode cL_law 714 = .ok (.invokevirtual 101, 3) := by decide +kernel
theorem dL_law_717 : decode cL_law 717 = .ok (.if_icmp .eq 5, 3) := by decide +kernel
theorem dL_law_720 : decode cL_law 720 = .ok (.iconst 0, 1) := by decide +kernel
theorem dL_law_721 : decode cL_law 721 = .ok (.ireturn, 1) := by decide +kernel
theorem dL_law_722 : decode cL_law 722 = .ok (.iinc 3 6, 3) := by decide +kernel
theorem dL_law_725 : decode cL_law 725 = .ok (.goto (-695), 3) := by decide +kernel
theorem dL_law_728 : decode cL_law 728 = .ok (.iconst 1, 1) := by decide +kernel
theorem dL_law_729 : decode cL_law 729 = .ok (.ireturn, 1) := by decide +kernel
