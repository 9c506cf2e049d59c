theorem dX1_init_0 : decode cX1_init 0 = .ok (.aload_n 0, 1) := by decide +kernel
theorem dX1_init_1 : decode cX1_init 1 = .ok (.invokespecial 1, 3) := by decide +kernel
theorem dX1_init_4 : decode cX1_init 4 = .ok (.aload_n 0, 1) := by decide +kernel
theorem dX1_init_5 : decode cX1_init 5 = .ok (.bipush 16, 2) := by decide +kernel
theorem dX1_init_7 : decode cX1_init 7 = .ok (.newarray .int, 2) := by decide +kernel
theorem dX1_init_9 : decode cX1_init 9 = .ok (.putfield 7, 3) := by decide +kernel
theorem dX1_init_12 : decode cX1_init 12 = .ok (.aload_n 0, 1) := by decide +kernel
theorem dX1_init_13 : decode cX1_init 13 = .ok (.bipush 8, 2) := by decide +kernel
theorem dX1_init_15 : decode cX1_init 15 = .ok (.newarray .int, 2) := by decide +kernel
theorem dX1_init_17 : decode cX1_init 17 = .ok (.putfield 13, 3) := by decide +kernel
theorem dX1_init_20 : decode cX1_init 20 = .ok (.aload_n 0, 1) := by decide +kernel
theorem dX1_init_21 : decode cX1_init 21 = .ok (.iconst 4, 1) := by decide +kernel
theorem dX1_init_22 : decode cX1_init 22 = .ok (.newarray .int, 2) := by decide +kernel
theorem dX1_init_24 : decode cX1_init 24 = .ok (.putfield 16, 3) := by decide +kernel
theorem dX1_init_27 : decode cX1_init 27 = .ok (.aload_n 0, 1) := by decide +kernel
theorem dX1_init_28 : decode cX1_init 28 = .ok (.bipush 8, 2) := by decide +kernel
theorem dX1_init_30 : decode cX1_init 30 = .ok (.newarray .int, 2) := by decide +kernel
theorem dX1_init_32 : decode cX1_init 32 = .ok (.putfield 19, 3) := by decide +kernel
theorem dX1_init_35 : decode cX1_init 35 = .ok (.aload_n 0, 1) := by decide +kernel
theorem dX1_init_36 : decode cX1_init 36 = .ok (.bipush 60, 2) := by decide +kernel
theorem dX1_init_38 : decode cX1_init 38 = .ok (.newarray .int, 2) := by decide +kernel
theorem dX1_init_40 : decode cX1_init 40 = .ok (.putfield 22, 3) := by decide +kernel
theorem dX1_init_43 : decode cX1_init 43 = .ok (.aload_n 0, 1) := by decide +kernel
theorem dX1_init_44 : decode cX1_init 44 = .ok (.bipush 60, 2) := by decide +kernel
theorem dX1_init_46 : decode cX1_init 46 = .ok (.newarray .int, 2) := by decide +kernel
theorem dX1_init_48 : decode cX1_init 48 = .ok (.putfield 25, 3) := by decide +kernel
theorem dX1_init_51 : decode cX1_init 51 = .ok (.aload_n 0, 1) := by decide +kernel
theorem dX1_init_52 : decode cX1_init 52 = .ok (.bipush 60, 2) := by decide +kernel
theorem dX1_init_54 : decode cX1_init 54 = .ok (.newarray .int, 2) := by decide +kernel
theorem dX1_init_56 : decode cX1_init 56 = .ok (.putfield 28, 3) := by decide +kernel
theorem dX1_init_59 : decode cX1_init 59 = .ok (.aload_n 0, 1) := by decide +kernel
theorem dX1_init_60 : decode cX1_init 60 = .ok (.bipush 60, 2) := by decide +kernel
theorem dX1_init_62 : decode cX1_init 62 = .ok (.newarray .int, 2) := by decide +kernel
theorem dX1_init_64 : decode cX1_init 64 = .ok (.putfield 31, 3) := by decide +kernel
theorem dX1_init_67 : decode cX1_init 67 = .ok (.aload_n 0, 1) := by decide +kernel
theorem dX1_init_68 : decode cX1_init 68 = .ok (.bipush 60, 2) := by decide +kernel
theorem dX1_init_70 : decode cX1_init 70 = .ok (.newarray .int, 2) := by decide +kernel
theorem dX1_init_72 : decode cX1_init 72 = .ok (.putfield 34, 3) := by decide +kernel
theorem dX1_init_75 : decode cX1_init 75 = .ok (.aload_n 0, 1) := by decide +kernel
theorem dX1_init_76 : decode cX1_init 76 = .ok (.bipush 60, 2) := by decide +kernel
theorem dX1_init_78 : decode cX1_init 78 = .ok (.newarray .int, 2) := by decide +kernel
theorem dX1_init_80 : decode cX1_init 80 = .ok (.putfield 37, 3) := by decide +kernel
theorem dX1_init_83 : decode cX1_init 83 = .ok (.aload_n 0, 1) := by decide +kernel
theorem dX1_init_84 : decode cX1_init 84 = .ok (.bipush 60, 2) := by decide +kernel
theorem dX1_init_86 : decode cX1_init 86 = .ok (.newarray .int, 2) := by decide +kernel
theorem dX1_init_88 : decode cX1_init 88 = .ok (.putfield 40, 3) := by decide +kernel
theorem dX1_init_91 : decode cX1_init 91 = .ok (.aload_n 0, 1) := by decide +kernel
theorem dX1_init_92 : decode cX1_init 92 = .ok (.bipush 60, 2) := by decide +kernel
theorem dX1_init_94 : decode cX1_init 94 = .ok (.newarray .boolean, 2) := by decide +kernel
theorem dX1_init_96 : decode cX1_init 96 = .ok (.putfield 43, 3) := by decide +kernel
theorem dX1_init_99 : decode cX1_init 99 = .ok (.aload_n 0, 1) := by decide +kernel
theorem dX1_init_100 : decode cX1_init 100 = .ok (.bipush 60, 2) := by decide +kernel
theorem dX1_init_102 : decode cX1_init 102 = .ok (.newarray .boolean, 2) := by decide +kernel
theorem dX1_init_104 : decode cX1_init 104 = .ok (.putfield 47, 3) := by decide +kernel
theorem dX1_init_107 : decode cX1_init 107 = .ok (.iconst 0, 1) := by decide +kernel
theorem dX1_init_108 : decode cX1_init 108 = .ok (.istore_n 1, 1) := by decide +kernel
theorem dX1_init_109 : decode cX1_init 109 = .ok (.iload_n 1, 1) := by decide +kernel
theorem dX1_init_110 : decode cX1_init 110 = .ok (.bipush 16, 2) := by decide +kernel
theorem dX1_init_112 : decode cX1_init 112 = .ok (.if_icmp .ge 18, 3) := by decide +kernel
theorem dX1_init_115 : decode cX1_init 115 = .ok (.aload_n 0, 1) := by decide +kernel
theorem dX1_init_116 : decode cX1_init 116 = .ok (.getfield 7, 3) := by decide +kernel
theorem dX1_init_119 : decode cX1_init 119 = .ok (.iload_n 1, 1) := by decide +kernel
theorem dX1_init_120 : decode cX1_init 120 = .ok (.iload_n 1, 1) := by decide +kernel
theorem dX1_init_121 : decode cX1_init 121 = .ok (.iconst 4, 1) := by decide +kernel
theorem dX1_init_122 : decode cX1_init 122 = .ok (.irem, 1) := by decide +kernel
theorem dX1_init_123 : decode cX1_init 123 = .ok (.iastore, 1) := by decide +kernel
theorem dX1_init_124 : decode cX1_init 124 = .ok (.iinc 1 1, 3) := by decide +kernel
theorem dX1_init_127 : decode cX1_init 127 = .ok (.goto (-18), 3) := by decide +kernel
theorem dX1_init_130 : decode cX1_init 130 = .ok (.iconst 0, 1) := by decide +kernel
theorem dX1_init_131 : decode cX1_init 131 = .ok (.istore_n 1, 1) := by decide +kernel
theorem dX1_init_132 : decode cX1_init 132 = .ok (.iload_n 1, 1) := by decide +kernel
theorem dX1_init_133 : decode cX1_init 133 = .ok (.bipush 8, 2) := by decide +kernel
theorem dX1_init_135 : decode cX1_init 135 = .ok (.if_icmp .ge 17, 3) := by decide +kernel
theorem dX1_init_138 : decode cX1_init 138 = .ok (.aload_n 0, 1) := by decide +kernel
theorem dX1_init_139 : decode cX1_init 139 = .ok (.getfield 13, 3) := by decide +kernel
theorem dX1_init_142 : decode cX1_init 142 = .ok (.iload_n 1, 1) := by decide +kernel
theorem dX1_init_143 : decode cX1_init 143 = .ok (.bipush 100, 2) := by decide +kernel
theorem dX1_init_145 : decode cX1_init 145 = .ok (.iastore, 1) := by decide +kernel
theorem dX1_init_146 : decode cX1_init 146 = .ok (.iinc 1 1, 3) := by decide +kernel
theorem dX1_init_149 : decode cX1_init 149 = .ok (.goto (-17), 3) := by decide +kernel
theorem dX1_init_152 : decode cX1_init 152 = .ok (.return_, 1) := by decide +kernel
theorem dX1_thrown_0 : decode cX1_thrown 0 = .ok (.aload_n 0, 1) := by decide +kernel
theorem dX1_thrown_1 : decode cX1_thrown 1 = .ok (.getfield 50, 3) := by decide +kernel
theorem dX1_thrown_4 : decode cX1_thrown 4 = .ok (.ireturn, 1) := by decide +kernel
theorem dX1_can_0 : decode cX1_can 0 = .ok (.aload_n 0, 1) := by decide +kernel
theorem dX1_can_1 : decode cX1_can 1 = .ok (.iload_n 1, 1) := by decide +kernel
theorem dX1_can_2 : decode cX1_can 2 = .ok (.putfield 50, 3) := by decide +kernel
theorem dX1_can_5 : decode cX1_can 5 = .ok (.iload_n 1, 1) := by decide +kernel
theorem dX1_can_6 : decode cX1_can 6 = .ok (.ifCond .ne 7, 3) := by decide +kernel
theorem dX1_can_9 : decode cX1_can 9 = .ok (.iconst 1, 1) := by decide +kernel
theorem dX1_can_10 : decode cX1_can 10 = .ok (.goto 4, 3) := by decide +kernel
theorem dX1_can_13 : decode cX1_can 13 = .ok (.iconst 0, 1) := by decide +kernel
theorem dX1_can_14 : decode cX1_can 14 = .ok (.ireturn, 1) := by decide +kernel
theorem dX1_isIn_0 : decode cX1_isIn 0 = .ok (.iload_n 0, 1) := by decide +kernel
theorem dX1_isIn_1 : decode cX1_isIn 1 = .ok (.iload_n 1, 1) := by decide +kernel
theorem dX1_isIn_2 : decode cX1_isIn 2 = .ok (.if_icmp .lt 12, 3) := by decide +kernel
theorem dX1_isIn_5 : decode cX1_isIn 5 = .ok (.iload_n 0, 1) := by decide +kernel
theorem dX1_isIn_6 : decode cX1_isIn 6 = .ok (.iload_n 2, 1) := by decide +kernel
theorem dX1_isIn_7 : decode cX1_isIn 7 = .ok (.if_icmp .gt 7, 3) := by decide +kernel
theorem dX1_isIn_10 : decode cX1_isIn 10 = .ok (.iconst 1, 1) := by decide +kernel
theorem dX1_isIn_11 : decode cX1_isIn 11 = .ok (.goto 4, 3) := by decide +kernel
theorem dX1_isIn_14 : decode cX1_isIn 14 = .ok (.iconst 0, 1) := by decide +kernel
theorem dX1_isIn_15 : decode cX1_isIn 15 = .ok (.ireturn, 1) := by decide +kernel
set_option maxRecDepth 20000 in
theorem ggX1_isPerson_X1_isIn : GoodIn wsX1_isPerson wsX1_isIn := goodIn_r _ [4] (by decide +kernel) (by decide +kernel)
set_option maxRecDepth 20000 in
theorem gX1_isPerson_X1_isIn : GoodIn wsX1_isPerson (va_wsS RX1 54 yX1_isIn wsX1_isIn) := goodIn_app (goodIn_of _ (by decide +kernel)) ggX1_isPerson_X1_isIn
theorem dX1_isPerson_0 : decode cX1_isPerson 0 = .ok (.iload_n 0, 1) := by decide +kernel
theorem dX1_isPerson_1 : decode cX1_isPerson 1 = .ok (.iconst 0, 1) := by decide +kernel
theorem dX1_isPerson_2 : decode cX1_isPerson 2 = .ok (.bipush 7, 2) := by decide +kernel
theorem dX1_isPerson_4 : decode cX1_isPerson 4 = .ok (.invokestatic 54, 3) := by decide +kernel
theorem dX1_isPerson_7 : decode cX1_isPerson 7 = .ok (.ireturn, 1) := by decide +kernel
set_option maxRecDepth 20000 in
theorem ggX1_isRelay_X1_isIn : GoodIn wsX1_isRelay wsX1_isIn := goodIn_r _ [4] (by decide +kernel) (by decide +kernel)
set_option maxRecDepth 20000 in
theorem gX1_isRelay_X1_isIn : GoodIn wsX1_isRelay (va_wsS RX1 54 yX1_isIn wsX1_isIn) := goodIn_app (goodIn_of _ (by decide +kernel)) ggX1_isRelay_X1_isIn
theorem dX1_isRelay_0 : decode cX1_isRelay 0 = .ok (.iload_n 0, 1) := by decide +kernel
theorem dX1_isRelay_1 : decode cX1_isRelay 1 = .ok (.iconst 0, 1) := by decide +kernel
theorem dX1_isRelay_2 : decode cX1_isRelay 2 = .ok (.iconst 3, 1) := by decide +kernel
theorem dX1_isRelay_3 : decode cX1_isRelay 3 = .ok (.invokestatic 54, 3) := by decide +kernel
theorem dX1_isRelay_6 : decode cX1_isRelay 6 = .ok (.ireturn, 1) := by decide +kernel
set_option maxRecDepth 20000 in
theorem ggX1_isLetter_X1_isIn : GoodIn wsX1_isLetter wsX1_isIn := goodIn_r _ [5] (by decide +kernel) (by decide +kernel)
set_option maxRecDepth 20000 in
theorem gX1_isLetter_X1_isIn : GoodIn wsX1_isLetter (va_wsS RX1 54 yX1_isIn wsX1_isIn) := goodIn_app (goodIn_of _ (by decide +kernel)) ggX1_isLetter_X1_isIn
theorem dX1_isLetter_0 : decode cX1_isLetter 0 = .ok (.iload_n 1, 1) := by decide +kernel
theorem dX1_isLetter_1 : decode cX1_isLetter 1 = .ok (.iconst 0, 1) := by decide +kernel
theorem dX1_isLetter_2 : decode cX1_isLetter 2 = .ok (.aload_n 0, 1) := by decide +kernel
theorem dX1_isLetter_3 : decode cX1_isLetter 3 = .ok (.getfield 58, 3) := by decide +kernel
theorem dX1_isLetter_6 : decode cX1_isLetter 6 = .ok (.iconst 1, 1) := by decide +kernel
theorem dX1_isLetter_7 : decode cX1_isLetter 7 = .ok (.isub, 1) := by decide +kernel
theorem dX1_isLetter_8 : decode cX1_isLetter 8 = .ok (.invokestatic 54, 3) := by decide +kernel
theorem dX1_isLetter_11 : decode cX1_isLetter 11 = .ok (.ireturn, 1) := by decide +kernel
theorem dX1_has_0 : decode cX1_has 0 = .ok (.iload_n 0, 1) := by decide +kernel
theorem dX1_has_1 : decode cX1_has 1 = .ok (.iload_n 1, 1) := by decide +kernel
theorem dX1_has_2 : decode cX1_has 2 = .ok (.ishr, 1) := by decide +kernel
theorem dX1_has_3 : decode cX1_has 3 = .ok (.iconst 1, 1) := by decide +kernel
theorem dX1_has_4 : decode cX1_has 4 = .ok (.iand, 1) := by decide +kernel
theorem dX1_has_5 : decode cX1_has 5 = .ok (.iconst 1, 1) := by decide +kernel
theorem dX1_has_6 : decode cX1_has 6 = .ok (.if_icmp .ne 7, 3) := by decide +kernel
theorem dX1_has_9 : decode cX1_has 9 = .ok (.iconst 1, 1) := by decide +kernel
theorem dX1_has_10 : decode cX1_has 10 = .ok (.goto 4, 3) := by decide +kernel
theorem dX1_has_13 : decode cX1_has 13 = .ok (.iconst 0, 1) := by decide +kernel
theorem dX1_has_14 : decode cX1_has 14 = .ok (.ireturn, 1) := by decide +kernel
set_option maxRecDepth 20000 in
theorem ggX1_setRoute_X1_isRelay : GoodIn wsX1_setRoute wsX1_isRelay := goodIn_r _ [5, 6, 7, 4, 8] (by decide +kernel) (by decide +kernel)
set_option maxRecDepth 20000 in
theorem gX1_setRoute_X1_isRelay : GoodIn wsX1_setRoute (va_wsS RX1 61 yX1_isRelay wsX1_isRelay) := goodIn_app (goodIn_of _ (by decide +kernel)) ggX1_setRoute_X1_isRelay
set_option maxRecDepth 20000 in
theorem ggX1_setRoute_X1_can : GoodIn wsX1_setRoute wsX1_can := goodIn_r _ [12, 13, 14, 15, 16, 17, 18, 19, 20, 21, 22, 23, 24, 25, 26, 27, 28, 29] (by decide +kernel) (by decide +kernel)
set_option maxRecDepth 20000 in
theorem gX1_setRoute_X1_can : GoodIn wsX1_setRoute (wsV RX1 65 RX1 yX1_can wsX1_can) := goodIn_app (goodIn_of _ (by decide +kernel)) ggX1_setRoute_X1_can
theorem dX1_setRoute_0 : decode cX1_setRoute 0 = .ok (.iload_n 1, 1) := by decide +kernel
theorem dX1_setRoute_1 : decode cX1_setRoute 1 = .ok (.invokestatic 61, 3) := by decide +kernel
theorem dX1_setRoute_4 : decode cX1_setRoute 4 = .ok (.ifCond .eq 21, 3) := by decide +kernel
theorem dX1_setRoute_7 : decode cX1_setRoute 7 = .ok (.iload_n 2, 1) := by decide +kernel
theorem dX1_setRoute_8 : decode cX1_setRoute 8 = .ok (.invokestatic 61, 3) := by decide +kernel
theorem dX1_setRoute_11 : decode cX1_setRoute 11 = .ok (.ifCond .eq 14, 3) := by decide +kernel
theorem dX1_setRoute_14 : decode cX1_setRoute 14 = .ok (.iload_n 3, 1) := by decide +kernel
theorem dX1_setRoute_15 : decode cX1_setRoute 15 = .ok (.invokestatic 61, 3) := by decide +kernel
theorem dX1_setRoute_18 : decode cX1_setRoute 18 = .ok (.ifCond .eq 7, 3) := by decide +kernel
theorem dX1_setRoute_21 : decode cX1_setRoute 21 = .ok (.iconst 1, 1) := by decide +kernel
theorem dX1_setRoute_22 : decode cX1_setRoute 22 = .ok (.goto 4, 3) := by decide +kernel
theorem dX1_setRoute_25 : decode cX1_setRoute 25 = .ok (.iconst 0, 1) := by decide +kernel
theorem dX1_setRoute_26 : decode cX1_setRoute 26 = .ok (.istore 4, 2) := by decide +kernel
theorem dX1_setRoute_28 : decode cX1_setRoute 28 = .ok (.aload_n 0, 1) := by decide +kernel
theorem dX1_setRoute_29 : decode cX1_setRoute 29 = .ok (.iload 4, 2) := by decide +kernel
theorem dX1_setRoute_31 : decode cX1_setRoute 31 = .ok (.ifCond .ne 7, 3) := by decide +kernel
theorem dX1_setRoute_34 : decode cX1_setRoute 34 = .ok (.iconst 1, 1) := by decide +kernel
theorem dX1_setRoute_35 : decode cX1_setRoute 35 = .ok (.goto 18, 3) := by decide +kernel
theorem dX1_setRoute_38 : decode cX1_setRoute 38 = .ok (.iload_n 2, 1) := by decide +kernel
theorem dX1_setRoute_39 : decode cX1_setRoute 39 = .ok (.iload_n 1, 1) := by decide +kernel
theorem dX1_setRoute_40 : decode cX1_setRoute 40 = .ok (.if_icmp .eq 8, 3) := by decide +kernel
theorem dX1_setRoute_43 : decode cX1_setRoute 43 = .ok (.iload_n 3, 1) := by decide +kernel
theorem dX1_setRoute_44 : decode cX1_setRoute 44 = .ok (.iload_n 1, 1) := by decide +kernel
theorem dX1_setRoute_45 : decode cX1_setRoute 45 = .ok (.if_icmp .ne 7, 3) := by decide +kernel
theorem dX1_setRoute_48 : decode cX1_setRoute 48 = .ok (.iconst 2, 1) := by decide +kernel
theorem dX1_setRoute_49 : decode cX1_setRoute 49 = .ok (.goto 4, 3) := by decide +kernel
theorem dX1_setRoute_52 : decode cX1_setRoute 52 = .ok (.iconst 0, 1) := by decide +kernel
theorem dX1_setRoute_53 : decode cX1_setRoute 53 = .ok (.invokevirtual 65, 3) := by decide +kernel
theorem dX1_setRoute_56 : decode cX1_setRoute 56 = .ok (.ifCond .ne 5, 3) := by decide +kernel
theorem dX1_setRoute_59 : decode cX1_setRoute 59 = .ok (.iconst 0, 1) := by decide +kernel
theorem dX1_setRoute_60 : decode cX1_setRoute 60 = .ok (.ireturn, 1) := by decide +kernel
theorem dX1_setRoute_61 : decode cX1_setRoute 61 = .ok (.aload_n 0, 1) := by decide +kernel
theorem dX1_setRoute_62 : decode cX1_setRoute 62 = .ok (.getfield 7, 3) := by decide +kernel
theorem dX1_setRoute_65 : decode cX1_setRoute 65 = .ok (.iconst 4, 1) := by decide +kernel
theorem dX1_setRoute_66 : decode cX1_setRoute 66 = .ok (.iload_n 1, 1) := by decide +kernel
theorem dX1_setRoute_67 : decode cX1_setRoute 67 = .ok (.imul, 1) := by decide +kernel
theorem dX1_setRoute_68 : decode cX1_setRoute 68 = .ok (.iload_n 2, 1) := by decide +kernel
theorem dX1_setRoute_69 : decode cX1_setRoute 69 = .ok (.iadd, 1) := by decide +kernel
theorem dX1_setRoute_70 : decode cX1_setRoute 70 = .ok (.iaload, 1) := by decide +kernel
theorem dX1_setRoute_71 : decode cX1_setRoute 71 = .ok (.istore 5, 2) := by decide +kernel
theorem dX1_setRoute_73 : decode cX1_setRoute 73 = .ok (.aload_n 0, 1) := by decide +kernel
theorem dX1_setRoute_74 : decode cX1_setRoute 74 = .ok (.getfield 7, 3) := by decide +kernel
theorem dX1_setRoute_77 : decode cX1_setRoute 77 = .ok (.iconst 4, 1) := by decide +kernel
theorem dX1_setRoute_78 : decode cX1_setRoute 78 = .ok (.iload_n 1, 1) := by decide +kernel
theorem dX1_setRoute_79 : decode cX1_setRoute 79 = .ok (.imul, 1) := by decide +kernel
theorem dX1_setRoute_80 : decode cX1_setRoute 80 = .ok (.iload_n 2, 1) := by decide +kernel
theorem dX1_setRoute_81 : decode cX1_setRoute 81 = .ok (.iadd, 1) := by decide +kernel
theorem dX1_setRoute_82 : decode cX1_setRoute 82 = .ok (.iload_n 3, 1) := by decide +kernel
theorem dX1_setRoute_83 : decode cX1_setRoute 83 = .ok (.iastore, 1) := by decide +kernel
theorem dX1_setRoute_84 : decode cX1_setRoute 84 = .ok (.iload 5, 2) := by decide +kernel
theorem dX1_setRoute_86 : decode cX1_setRoute 86 = .ok (.ireturn, 1) := by decide +kernel
set_option maxRecDepth 20000 in
theorem ggX1_way_X1_has : GoodIn wsX1_way wsX1_has := goodIn_r _ [5] (by decide +kernel) (by decide +kernel)
set_option maxRecDepth 20000 in
theorem gX1_way_X1_has : GoodIn wsX1_way (va_wsS RX1 68 yX1_has wsX1_has) := goodIn_app (goodIn_of _ (by decide +kernel)) ggX1_way_X1_has
theorem dX1_way_0 : decode cX1_way 0 = .ok (.iload_n 1, 1) := by decide +kernel
theorem dX1_way_1 : decode cX1_way 1 = .ok (.istore_n 3, 1) := by decide +kernel
theorem dX1_way_2 : decode cX1_way 2 = .ok (.iconst 1, 1) := by decide +kernel
theorem dX1_way_3 : decode cX1_way 3 = .ok (.iload_n 1, 1) := by decide +kernel
theorem dX1_way_4 : decode cX1_way 4 = .ok (.ishl, 1) := by decide +kernel
theorem dX1_way_5 : decode cX1_way 5 = .ok (.istore 4, 2) := by decide +kernel
theorem dX1_way_7 : decode cX1_way 7 = .ok (.iconst 0, 1) := by decide +kernel
theorem dX1_way_8 : decode cX1_way 8 = .ok (.istore 5, 2) := by decide +kernel
theorem dX1_way_10 : decode cX1_way 10 = .ok (.iload_n 3, 1) := by decide +kernel
theorem dX1_way_11 : decode cX1_way 11 = .ok (.iload_n 2, 1) := by decide +kernel
theorem dX1_way_12 : decode cX1_way 12 = .ok (.if_icmp .eq 39, 3) := by decide +kernel
theorem dX1_way_15 : decode cX1_way 15 = .ok (.aload_n 0, 1) := by decide +kernel
theorem dX1_way_16 : decode cX1_way 16 = .ok (.getfield 7, 3) := by decide +kernel
theorem dX1_way_19 : decode cX1_way 19 = .ok (.iconst 4, 1) := by decide +kernel
theorem dX1_way_20 : decode cX1_way 20 = .ok (.iload_n 3, 1) := by decide +kernel
theorem dX1_way_21 : decode cX1_way 21 = .ok (.imul, 1) := by decide +kernel
theorem dX1_way_22 : decode cX1_way 22 = .ok (.iload_n 2, 1) := by decide +kernel
theorem dX1_way_23 : decode cX1_way 23 = .ok (.iadd, 1) := by decide +kernel
theorem dX1_way_24 : decode cX1_way 24 = .ok (.iaload, 1) := by decide +kernel
theorem dX1_way_25 : decode cX1_way 25 = .ok (.istore_n 3, 1) := by decide +kernel
theorem dX1_way_26 : decode cX1_way 26 = .ok (.iload 4, 2) := by decide +kernel
theorem dX1_way_28 : decode cX1_way 28 = .ok (.iload_n 3, 1) := by decide +kernel
theorem dX1_way_29 : decode cX1_way 29 = .ok (.invokestatic 68, 3) := by decide +kernel
theorem dX1_way_32 : decode cX1_way 32 = .ok (.ifCond .eq 5, 3) := by decide +kernel
theorem dX1_way_35 : decode cX1_way 35 = .ok (.iconst (-1), 1) := by decide +kernel
theorem dX1_way_36 : decode cX1_way 36 = .ok (.ireturn, 1) := by decide +kernel
theorem dX1_way_37 : decode cX1_way 37 = .ok (.iload 4, 2) := by decide +kernel
theorem dX1_way_39 : decode cX1_way 39 = .ok (.iconst 1, 1) := by decide +kernel
theorem dX1_way_40 : decode cX1_way 40 = .ok (.iload_n 3, 1) := by decide +kernel
theorem dX1_way_41 : decode cX1_way 41 = .ok (.ishl, 1) := by decide +kernel
theorem dX1_way_42 : decode cX1_way 42 = .ok (.ior, 1) := by decide +kernel
theorem dX1_way_43 : decode cX1_way 43 = .ok (.istore 4, 2) := by decide +kernel
theorem dX1_way_45 : decode cX1_way 45 = .ok (.iinc 5 1, 3) := by decide +kernel
theorem dX1_way_48 : decode cX1_way 48 = .ok (.goto (-38), 3) := by decide +kernel
theorem dX1_way_51 : decode cX1_way 51 = .ok (.iload 5, 2) := by decide +kernel
theorem dX1_way_53 : decode cX1_way 53 = .ok (.ireturn, 1) := by decide +kernel
set_option maxRecDepth 20000 in
theorem ggX1_steps_X1_isRelay : GoodIn wsX1_steps wsX1_isRelay := goodIn_r _ [4, 5, 6, 3, 7] (by decide +kernel) (by decide +kernel)
set_option maxRecDepth 20000 in
theorem gX1_steps_X1_isRelay : GoodIn wsX1_steps (va_wsS RX1 61 yX1_isRelay wsX1_isRelay) := goodIn_app (goodIn_of _ (by decide +kernel)) ggX1_steps_X1_isRelay
set_option maxRecDepth 20000 in
theorem ggX1_steps_X1_can : GoodIn wsX1_steps wsX1_can := goodIn_r _ [11, 12, 21, 22, 23, 24, 25, 26, 27, 28, 29, 30, 31, 32, 33, 34, 35, 36] (by decide +kernel) (by decide +kernel)
set_option maxRecDepth 20000 in
theorem gX1_steps_X1_can : GoodIn wsX1_steps (wsV RX1 65 RX1 yX1_can wsX1_can) := goodIn_app (goodIn_of _ (by decide +kernel)) ggX1_steps_X1_can
set_option maxRecDepth 20000 in
theorem ggX1_steps_X1_way : GoodIn wsX1_steps wsX1_way := goodIn_r _ [16, 17, 18, 19, 3, 20, 21, 22, 23, 24, 25, 26, 27, 28, 29, 30, 31, 32, 33, 34, 35, 36] (by decide +kernel) (by decide +kernel)
set_option maxRecDepth 20000 in
theorem gX1_steps_X1_way : GoodIn wsX1_steps (wsV RX1 72 RX1 yX1_way wsX1_way) := goodIn_app (goodIn_of _ (by decide +kernel)) ggX1_steps_X1_way
theorem dX1_steps_0 : decode cX1_steps 0 = .ok (.aload_n 0, 1) := by decide +kernel
theorem dX1_steps_1 : decode cX1_steps 1 = .ok (.iload_n 1, 1) := by decide +kernel
theorem dX1_steps_2 : decode cX1_steps 2 = .ok (.invokestatic 61, 3) := by decide +kernel
theorem dX1_steps_5 : decode cX1_steps 5 = .ok (.ifCond .eq 14, 3) := by decide +kernel
theorem dX1_steps_8 : decode cX1_steps 8 = .ok (.iload_n 2, 1) := by decide +kernel
theorem dX1_steps_9 : decode cX1_steps 9 = .ok (.invokestatic 61, 3) := by decide +kernel
theorem dX1_steps_12 : decode cX1_steps 12 = .ok (.ifCond .eq 7, 3) := by decide +kernel
theorem dX1_steps_15 : decode cX1_steps 15 = .ok (.iconst 0, 1) := by decide +kernel
theorem dX1_steps_16 : decode cX1_steps 16 = .ok (.goto 4, 3) := by decide +kernel
theorem dX1_steps_19 : decode cX1_steps 19 = .ok (.iconst 1, 1) := by decide +kernel
theorem dX1_steps_20 : decode cX1_steps 20 = .ok (.invokevirtual 65, 3) := by decide +kernel
theorem dX1_steps_23 : decode cX1_steps 23 = .ok (.ifCond .eq 12, 3) := by decide +kernel
theorem dX1_steps_26 : decode cX1_steps 26 = .ok (.aload_n 0, 1) := by decide +kernel
theorem dX1_steps_27 : decode cX1_steps 27 = .ok (.iload_n 1, 1) := by decide +kernel
theorem dX1_steps_28 : decode cX1_steps 28 = .ok (.iload_n 2, 1) := by decide +kernel
theorem dX1_steps_29 : decode cX1_steps 29 = .ok (.invokevirtual 72, 3) := by decide +kernel
theorem dX1_steps_32 : decode cX1_steps 32 = .ok (.goto 4, 3) := by decide +kernel
theorem dX1_steps_35 : decode cX1_steps 35 = .ok (.iconst 0, 1) := by decide +kernel
theorem dX1_steps_36 : decode cX1_steps 36 = .ok (.ireturn, 1) := by decide +kernel
theorem dX1_weight_0 : decode cX1_weight 0 = .ok (.aload_n 0, 1) := by decide +kernel
theorem dX1_weight_1 : decode cX1_weight 1 = .ok (.getfield 19, 3) := by decide +kernel
theorem dX1_weight_4 : decode cX1_weight 4 = .ok (.iload_n 1, 1) := by decide +kernel
theorem dX1_weight_5 : decode cX1_weight 5 = .ok (.iaload, 1) := by decide +kernel
theorem dX1_weight_6 : decode cX1_weight 6 = .ok (.iconst 4, 1) := by decide +kernel
theorem dX1_weight_7 : decode cX1_weight 7 = .ok (.if_icmp .le 7, 3) := by decide +kernel
theorem dX1_weight_10 : decode cX1_weight 10 = .ok (.iconst 1, 1) := by decide +kernel
theorem dX1_weight_11 : decode cX1_weight 11 = .ok (.goto 11, 3) := by decide +kernel
theorem dX1_weight_14 : decode cX1_weight 14 = .ok (.iconst 5, 1) := by decide +kernel
theorem dX1_weight_15 : decode cX1_weight 15 = .ok (.aload_n 0, 1) := by decide +kernel
theorem dX1_weight_16 : decode cX1_weight 16 = .ok (.getfield 19, 3) := by decide +kernel
theorem dX1_weight_19 : decode cX1_weight 19 = .ok (.iload_n 1, 1) := by decide +kernel
theorem dX1_weight_20 : decode cX1_weight 20 = .ok (.iaload, 1) := by decide +kernel
theorem dX1_weight_21 : decode cX1_weight 21 = .ok (.isub, 1) := by decide +kernel
theorem dX1_weight_22 : decode cX1_weight 22 = .ok (.ireturn, 1) := by decide +kernel
set_option maxRecDepth 20000 in
theorem ggX1_nameOf_X1_weight : GoodIn wsX1_nameOf wsX1_weight := goodIn_r _ [10, 11, 12, 13, 14, 15, 16, 17, 18, 19, 20, 21, 22, 23, 24, 25, 26, 27] (by decide +kernel) (by decide +kernel)
set_option maxRecDepth 20000 in
theorem gX1_nameOf_X1_weight : GoodIn wsX1_nameOf (wsV RX1 76 RX1 yX1_weight wsX1_weight) := goodIn_app (goodIn_of _ (by decide +kernel)) ggX1_nameOf_X1_weight
theorem dX1_nameOf_0 : decode cX1_nameOf 0 = .ok (.iconst 0, 1) := by decide +kernel
theorem dX1_nameOf_1 : decode cX1_nameOf 1 = .ok (.istore_n 2, 1) := by decide +kernel
theorem dX1_nameOf_2 : decode cX1_nameOf 2 = .ok (.iconst 0, 1) := by decide +kernel
theorem dX1_nameOf_3 : decode cX1_nameOf 3 = .ok (.istore_n 3, 1) := by decide +kernel
theorem dX1_nameOf_4 : decode cX1_nameOf 4 = .ok (.iload_n 3, 1) := by decide +kernel
theorem dX1_nameOf_5 : decode cX1_nameOf 5 = .ok (.aload_n 0, 1) := by decide +kernel
theorem dX1_nameOf_6 : decode cX1_nameOf 6 = .ok (.getfield 58, 3) := by decide +kernel
theorem dX1_nameOf_9 : decode cX1_nameOf 9 = .ok (.if_icmp .ge 103, 3) := by decide +kernel
theorem dX1_nameOf_12 : decode cX1_nameOf 12 = .ok (.aload_n 0, 1) := by decide +kernel
theorem dX1_nameOf_13 : decode cX1_nameOf 13 = .ok (.getfield 22, 3) := by decide +kernel
theorem dX1_nameOf_16 : decode cX1_nameOf 16 = .ok (.iload_n 3, 1) := by decide +kernel
theorem dX1_nameOf_17 : decode cX1_nameOf 17 = .ok (.iaload, 1) := by decide +kernel
theorem dX1_nameOf_18 : decode cX1_nameOf 18 = .ok (.iload_n 1, 1) := by decide +kernel
theorem dX1_nameOf_19 : decode cX1_nameOf 19 = .ok (.if_icmp .ne 7, 3) := by decide +kernel
theorem dX1_nameOf_22 : decode cX1_nameOf 22 = .ok (.iconst 1, 1) := by decide +kernel
theorem dX1_nameOf_23 : decode cX1_nameOf 23 = .ok (.goto 4, 3) := by decide +kernel
theorem dX1_nameOf_26 : decode cX1_nameOf 26 = .ok (.iconst 0, 1) := by decide +kernel
theorem dX1_nameOf_27 : decode cX1_nameOf 27 = .ok (.istore 4, 2) := by decide +kernel
theorem dX1_nameOf_29 : decode cX1_nameOf 29 = .ok (.iload_n 2, 1) := by decide +kernel
theorem dX1_nameOf_30 : decode cX1_nameOf 30 = .ok (.iload 4, 2) := by decide +kernel
theorem dX1_nameOf_32 : decode cX1_nameOf 32 = .ok (.ifCond .eq 28, 3) := by decide +kernel
theorem dX1_nameOf_35 : decode cX1_nameOf 35 = .ok (.aload_n 0, 1) := by decide +kernel
theorem dX1_nameOf_36 : decode cX1_nameOf 36 = .ok (.getfield 31, 3) := by decide +kernel
theorem dX1_nameOf_39 : decode cX1_nameOf 39 = .ok (.iload_n 3, 1) := by decide +kernel
theorem dX1_nameOf_40 : decode cX1_nameOf 40 = .ok (.iaload, 1) := by decide +kernel
theorem dX1_nameOf_41 : decode cX1_nameOf 41 = .ok (.iconst 2, 1) := by decide +kernel
theorem dX1_nameOf_42 : decode cX1_nameOf 42 = .ok (.if_icmp .ne 18, 3) := by decide +kernel
theorem dX1_nameOf_45 : decode cX1_nameOf 45 = .ok (.iconst 2, 1) := by decide +kernel
theorem dX1_nameOf_46 : decode cX1_nameOf 46 = .ok (.aload_n 0, 1) := by decide +kernel
theorem dX1_nameOf_47 : decode cX1_nameOf 47 = .ok (.aload_n 0, 1) := by decide +kernel
theorem dX1_nameOf_48 : decode cX1_nameOf 48 = .ok (.getfield 25, 3) := by decide +kernel
theorem dX1_nameOf_51 : decode cX1_nameOf 51 = .ok (.iload_n 3, 1) := by decide +kernel
theorem dX1_nameOf_52 : decode cX1_nameOf 52 = .ok (.iaload, 1) := by decide +kernel
theorem dX1_nameOf_53 : decode cX1_nameOf 53 = .ok (.invokevirtual 76, 3) := by decide +kernel
theorem dX1_nameOf_56 : decode cX1_nameOf 56 = .ok (.imul, 1) := by decide +kernel
theorem dX1_nameOf_57 : decode cX1_nameOf 57 = .ok (.goto 4, 3) := by decide +kernel
theorem dX1_nameOf_60 : decode cX1_nameOf 60 = .ok (.iconst 0, 1) := by decide +kernel
theorem dX1_nameOf_61 : decode cX1_nameOf 61 = .ok (.iadd, 1) := by decide +kernel
theorem dX1_nameOf_62 : decode cX1_nameOf 62 = .ok (.istore_n 2, 1) := by decide +kernel
theorem dX1_nameOf_63 : decode cX1_nameOf 63 = .ok (.iload_n 2, 1) := by decide +kernel
theorem dX1_nameOf_64 : decode cX1_nameOf 64 = .ok (.iload 4, 2) := by decide +kernel
theorem dX1_nameOf_66 : decode cX1_nameOf 66 = .ok (.ifCond .eq 37, 3) := by decide +kernel
theorem dX1_nameOf_69 : decode cX1_nameOf 69 = .ok (.aload_n 0, 1) := by decide +kernel
theorem dX1_nameOf_70 : decode cX1_nameOf 70 = .ok (.getfield 31, 3) := by decide +kernel
theorem dX1_nameOf_73 : decode cX1_nameOf 73 = .ok (.iload_n 3, 1) := by decide +kernel
theorem dX1_nameOf_74 : decode cX1_nameOf 74 = .ok (.iaload, 1) := by decide +kernel
theorem dX1_nameOf_75 : decode cX1_nameOf 75 = .ok (.iconst 3, 1) := by decide +kernel
theorem dX1_nameOf_76 : decode cX1_nameOf 76 = .ok (.if_icmp .ne 27, 3) := by decide +kernel
theorem dX1_nameOf_79 : decode cX1_nameOf 79 = .ok (.aload_n 0, 1) := by decide +kernel
theorem dX1_nameOf_80 : decode cX1_nameOf 80 = .ok (.getfield 43, 3) := by decide +kernel
theorem dX1_nameOf_83 : decode cX1_nameOf 83 = .ok (.iload_n 3, 1) := by decide +kernel
theorem dX1_nameOf_84 : decode cX1_nameOf 84 = .ok (.baload, 1) := by decide +kernel
theorem dX1_nameOf_85 : decode cX1_nameOf 85 = .ok (.ifCond .ne 18, 3) := by decide +kernel
theorem dX1_nameOf_88 : decode cX1_nameOf 88 = .ok (.iconst 3, 1) := by decide +kernel
theorem dX1_nameOf_89 : decode cX1_nameOf 89 = .ok (.aload_n 0, 1) := by decide +kernel
theorem dX1_nameOf_90 : decode cX1_nameOf 90 = .ok (.aload_n 0, 1) := by decide +kernel
theorem dX1_nameOf_91 : decode cX1_nameOf 91 = .ok (.getfield 25, 3) := by decide +kernel
theorem dX1_nameOf_94 : decode cX1_nameOf 94 = .ok (.iload_n 3, 1) := by decide +kernel
theorem dX1_nameOf_95 : decode cX1_nameOf 95 = .ok (.iaload, 1) := by decide +kernel
theorem dX1_nameOf_96 : decode cX1_nameOf 96 = .ok (.invokevirtual 76, 3) := by decide +kernel
theorem dX1_nameOf_99 : decode cX1_nameOf 99 = .ok (.imul, 1) := by decide +kernel
theorem dX1_nameOf_100 : decode cX1_nameOf 100 = .ok (.goto 4, 3) := by decide +kernel
theorem dX1_nameOf_103 : decode cX1_nameOf 103 = .ok (.iconst 0, 1) := by decide +kernel
theorem dX1_nameOf_104 : decode cX1_nameOf 104 = .ok (.isub, 1) := by decide +kernel
theorem dX1_nameOf_105 : decode cX1_nameOf 105 = .ok (.istore_n 2, 1) := by decide +kernel
theorem dX1_nameOf_106 : decode cX1_nameOf 106 = .ok (.iinc 3 1, 3) := by decide +kernel
theorem dX1_nameOf_109 : decode cX1_nameOf 109 = .ok (.goto (-105), 3) := by decide +kernel
theorem dX1_nameOf_112 : decode cX1_nameOf 112 = .ok (.iload_n 2, 1) := by decide +kernel
theorem dX1_nameOf_113 : decode cX1_nameOf 113 = .ok (.ireturn, 1) := by decide +kernel
set_option maxRecDepth 20000 in
theorem ggX1_least_X1_nameOf : GoodIn wsX1_least wsX1_nameOf := goodIn_r _ [5, 6, 7, 8, 9, 10, 11, 12, 13, 4, 14, 15, 16, 17, 18, 19, 20, 21, 22, 23, 24, 25, 26, 27, 28, 29, 30, 31] (by decide +kernel) (by decide +kernel)
set_option maxRecDepth 20000 in
theorem gX1_least_X1_nameOf : GoodIn wsX1_least (wsV RX1 80 RX1 yX1_nameOf wsX1_nameOf) := goodIn_app (goodIn_of _ (by decide +kernel)) ggX1_least_X1_nameOf
theorem dX1_least_0 : decode cX1_least 0 = .ok (.bipush 10, 2) := by decide +kernel
theorem dX1_least_2 : decode cX1_least 2 = .ok (.aload_n 0, 1) := by decide +kernel
theorem dX1_least_3 : decode cX1_least 3 = .ok (.iload_n 1, 1) := by decide +kernel
theorem dX1_least_4 : decode cX1_least 4 = .ok (.invokevirtual 80, 3) := by decide +kernel
theorem dX1_least_7 : decode cX1_least 7 = .ok (.isub, 1) := by decide +kernel
theorem dX1_least_8 : decode cX1_least 8 = .ok (.istore_n 2, 1) := by decide +kernel
theorem dX1_least_9 : decode cX1_least 9 = .ok (.iload_n 2, 1) := by decide +kernel
theorem dX1_least_10 : decode cX1_least 10 = .ok (.ifCond .ge 7, 3) := by decide +kernel
theorem dX1_least_13 : decode cX1_least 13 = .ok (.iconst 0, 1) := by decide +kernel
theorem dX1_least_14 : decode cX1_least 14 = .ok (.goto 15, 3) := by decide +kernel
theorem dX1_least_17 : decode cX1_least 17 = .ok (.iload_n 2, 1) := by decide +kernel
theorem dX1_least_18 : decode cX1_least 18 = .ok (.bipush 20, 2) := by decide +kernel
theorem dX1_least_20 : decode cX1_least 20 = .ok (.if_icmp .le 8, 3) := by decide +kernel
theorem dX1_least_23 : decode cX1_least 23 = .ok (.bipush 20, 2) := by decide +kernel
theorem dX1_least_25 : decode cX1_least 25 = .ok (.goto 4, 3) := by decide +kernel
theorem dX1_least_28 : decode cX1_least 28 = .ok (.iload_n 2, 1) := by decide +kernel
theorem dX1_least_29 : decode cX1_least 29 = .ok (.ireturn, 1) := by decide +kernel
set_option maxRecDepth 20000 in
theorem ggX1_send_X1_isPerson : GoodIn wsX1_send wsX1_isPerson := goodIn_r _ [11, 12, 13, 10, 14] (by decide +kernel) (by decide +kernel)
set_option maxRecDepth 20000 in
theorem gX1_send_X1_isPerson : GoodIn wsX1_send (va_wsS RX1 83 yX1_isPerson wsX1_isPerson) := goodIn_app (goodIn_of _ (by decide +kernel)) ggX1_send_X1_isPerson
set_option maxRecDepth 20000 in
theorem ggX1_send_X1_isIn : GoodIn wsX1_send wsX1_isIn := goodIn_r _ [14] (by decide +kernel) (by decide +kernel)
set_option maxRecDepth 20000 in
theorem gX1_send_X1_isIn : GoodIn wsX1_send (va_wsS RX1 54 yX1_isIn wsX1_isIn) := goodIn_app (goodIn_of _ (by decide +kernel)) ggX1_send_X1_isIn
set_option maxRecDepth 20000 in
theorem ggX1_send_X1_least : GoodIn wsX1_send wsX1_least := goodIn_r _ [18, 19, 20, 21, 10, 22, 2, 3, 23, 4, 24, 25, 26, 27, 28, 29, 35, 36, 37, 38, 39, 40, 41, 42, 43, 44, 45, 46, 47, 48, 49, 50] (by decide +kernel) (by decide +kernel)
set_option maxRecDepth 20000 in
theorem gX1_send_X1_least : GoodIn wsX1_send (wsV RX1 86 RX1 yX1_least wsX1_least) := goodIn_app (goodIn_of _ (by decide +kernel)) ggX1_send_X1_least
set_option maxRecDepth 20000 in
theorem ggX1_send_X1_can : GoodIn wsX1_send wsX1_can := goodIn_r _ [33, 34, 35, 36, 37, 38, 39, 40, 41, 42, 43, 44, 45, 46, 47, 48, 49, 50] (by decide +kernel) (by decide +kernel)
set_option maxRecDepth 20000 in
theorem gX1_send_X1_can : GoodIn wsX1_send (wsV RX1 65 RX1 yX1_can wsX1_can) := goodIn_app (goodIn_of _ (by decide +kernel)) ggX1_send_X1_can
theorem dX1_send_0 : decode cX1_send 0 = .ok (.iload_n 1, 1) := by decide +kernel
theorem dX1_send_1 : decode cX1_send 1 = .ok (.invokestatic 83, 3) := by decide +kernel
theorem dX1_send_4 : decode cX1_send 4 = .ok (.ifCond .eq 14, 3) := by decide +kernel
theorem dX1_send_7 : decode cX1_send 7 = .ok (.iload_n 2, 1) := by decide +kernel
theorem dX1_send_8 : decode cX1_send 8 = .ok (.invokestatic 83, 3) := by decide +kernel
theorem dX1_send_11 : decode cX1_send 11 = .ok (.ifCond .eq 7, 3) := by decide +kernel
theorem dX1_send_14 : decode cX1_send 14 = .ok (.iconst 1, 1) := by decide +kernel
theorem dX1_send_15 : decode cX1_send 15 = .ok (.goto 4, 3) := by decide +kernel
theorem dX1_send_18 : decode cX1_send 18 = .ok (.iconst 0, 1) := by decide +kernel
theorem dX1_send_19 : decode cX1_send 19 = .ok (.istore 4, 2) := by decide +kernel
theorem dX1_send_21 : decode cX1_send 21 = .ok (.iload_n 1, 1) := by decide +kernel
theorem dX1_send_22 : decode cX1_send 22 = .ok (.iload_n 2, 1) := by decide +kernel
theorem dX1_send_23 : decode cX1_send 23 = .ok (.if_icmp .eq 17, 3) := by decide +kernel
theorem dX1_send_26 : decode cX1_send 26 = .ok (.iload_n 3, 1) := by decide +kernel
theorem dX1_send_27 : decode cX1_send 27 = .ok (.iconst 0, 1) := by decide +kernel
theorem dX1_send_28 : decode cX1_send 28 = .ok (.bipush 20, 2) := by decide +kernel
theorem dX1_send_30 : decode cX1_send 30 = .ok (.invokestatic 54, 3) := by decide +kernel
theorem dX1_send_33 : decode cX1_send 33 = .ok (.ifCond .eq 7, 3) := by decide +kernel
theorem dX1_send_36 : decode cX1_send 36 = .ok (.iconst 1, 1) := by decide +kernel
theorem dX1_send_37 : decode cX1_send 37 = .ok (.goto 4, 3) := by decide +kernel
theorem dX1_send_40 : decode cX1_send 40 = .ok (.iconst 0, 1) := by decide +kernel
theorem dX1_send_41 : decode cX1_send 41 = .ok (.istore 5, 2) := by decide +kernel
theorem dX1_send_43 : decode cX1_send 43 = .ok (.iload 4, 2) := by decide +kernel
theorem dX1_send_45 : decode cX1_send 45 = .ok (.ifCond .eq 40, 3) := by decide +kernel
theorem dX1_send_48 : decode cX1_send 48 = .ok (.iload 5, 2) := by decide +kernel
theorem dX1_send_50 : decode cX1_send 50 = .ok (.ifCond .eq 35, 3) := by decide +kernel
theorem dX1_send_53 : decode cX1_send 53 = .ok (.iload_n 3, 1) := by decide +kernel
theorem dX1_send_54 : decode cX1_send 54 = .ok (.aload_n 0, 1) := by decide +kernel
theorem dX1_send_55 : decode cX1_send 55 = .ok (.iload_n 1, 1) := by decide +kernel
theorem dX1_send_56 : decode cX1_send 56 = .ok (.invokevirtual 86, 3) := by decide +kernel
theorem dX1_send_59 : decode cX1_send 59 = .ok (.if_icmp .lt 26, 3) := by decide +kernel
theorem dX1_send_62 : decode cX1_send 62 = .ok (.aload_n 0, 1) := by decide +kernel
theorem dX1_send_63 : decode cX1_send 63 = .ok (.getfield 13, 3) := by decide +kernel
theorem dX1_send_66 : decode cX1_send 66 = .ok (.iload_n 1, 1) := by decide +kernel
theorem dX1_send_67 : decode cX1_send 67 = .ok (.iaload, 1) := by decide +kernel
theorem dX1_send_68 : decode cX1_send 68 = .ok (.iload_n 3, 1) := by decide +kernel
theorem dX1_send_69 : decode cX1_send 69 = .ok (.if_icmp .lt 16, 3) := by decide +kernel
theorem dX1_send_72 : decode cX1_send 72 = .ok (.aload_n 0, 1) := by decide +kernel
theorem dX1_send_73 : decode cX1_send 73 = .ok (.getfield 58, 3) := by decide +kernel
theorem dX1_send_76 : decode cX1_send 76 = .ok (.bipush 60, 2) := by decide +kernel
theorem dX1_send_78 : decode cX1_send 78 = .ok (.if_icmp .ge 7, 3) := by decide +kernel
theorem dX1_send_81 : decode cX1_send 81 = .ok (.iconst 1, 1) := by decide +kernel
theorem dX1_send_82 : decode cX1_send 82 = .ok (.goto 4, 3) := by decide +kernel
theorem dX1_send_85 : decode cX1_send 85 = .ok (.iconst 0, 1) := by decide +kernel
theorem dX1_send_86 : decode cX1_send 86 = .ok (.istore 6, 2) := by decide +kernel
theorem dX1_send_88 : decode cX1_send 88 = .ok (.aload_n 0, 1) := by decide +kernel
theorem dX1_send_89 : decode cX1_send 89 = .ok (.iload 4, 2) := by decide +kernel
theorem dX1_send_91 : decode cX1_send 91 = .ok (.ifCond .ne 7, 3) := by decide +kernel
theorem dX1_send_94 : decode cX1_send 94 = .ok (.iconst 1, 1) := by decide +kernel
theorem dX1_send_95 : decode cX1_send 95 = .ok (.goto 22, 3) := by decide +kernel
theorem dX1_send_98 : decode cX1_send 98 = .ok (.iload 5, 2) := by decide +kernel
theorem dX1_send_100 : decode cX1_send 100 = .ok (.ifCond .ne 7, 3) := by decide +kernel
theorem dX1_send_103 : decode cX1_send 103 = .ok (.iconst 2, 1) := by decide +kernel
theorem dX1_send_104 : decode cX1_send 104 = .ok (.goto 13, 3) := by decide +kernel
theorem dX1_send_107 : decode cX1_send 107 = .ok (.iload 6, 2) := by decide +kernel
theorem dX1_send_109 : decode cX1_send 109 = .ok (.ifCond .eq 7, 3) := by decide +kernel
theorem dX1_send_112 : decode cX1_send 112 = .ok (.iconst 0, 1) := by decide +kernel
theorem dX1_send_113 : decode cX1_send 113 = .ok (.goto 4, 3) := by decide +kernel
theorem dX1_send_116 : decode cX1_send 116 = .ok (.iconst 3, 1) := by decide +kernel
theorem dX1_send_117 : decode cX1_send 117 = .ok (.invokevirtual 65, 3) := by decide +kernel
theorem dX1_send_120 : decode cX1_send 120 = .ok (.ifCond .ne 5, 3) := by decide +kernel
theorem dX1_send_123 : decode cX1_send 123 = .ok (.iconst 0, 1) := by decide +kernel
theorem dX1_send_124 : decode cX1_send 124 = .ok (.ireturn, 1) := by decide +kernel
theorem dX1_send_125 : decode cX1_send 125 = .ok (.aload_n 0, 1) := by decide +kernel
theorem dX1_send_126 : decode cX1_send 126 = .ok (.getfield 22, 3) := by decide +kernel
theorem dX1_send_129 : decode cX1_send 129 = .ok (.aload_n 0, 1) := by decide +kernel
theorem dX1_send_130 : decode cX1_send 130 = .ok (.getfield 58, 3) := by decide +kernel
theorem dX1_send_133 : decode cX1_send 133 = .ok (.iload_n 1, 1) := by decide +kernel
theorem dX1_send_134 : decode cX1_send 134 = .ok (.iastore, 1) := by decide +kernel
theorem dX1_send_135 : decode cX1_send 135 = .ok (.aload_n 0, 1) := by decide +kernel
theorem dX1_send_136 : decode cX1_send 136 = .ok (.getfield 25, 3) := by decide +kernel
theorem dX1_send_139 : decode cX1_send 139 = .ok (.aload_n 0, 1) := by decide +kernel
theorem dX1_send_140 : decode cX1_send 140 = .ok (.getfield 58, 3) := by decide +kernel
theorem dX1_send_143 : decode cX1_send 143 = .ok (.iload_n 2, 1) := by decide +kernel
theorem dX1_send_144 : decode cX1_send 144 = .ok (.iastore, 1) := by decide +kernel
theorem dX1_send_145 : decode cX1_send 145 = .ok (.aload_n 0, 1) := by decide +kernel
theorem dX1_send_146 : decode cX1_send 146 = .ok (.getfield 28, 3) := by decide +kernel
theorem dX1_send_149 : decode cX1_send 149 = .ok (.aload_n 0, 1) := by decide +kernel
theorem dX1_send_150 : decode cX1_send 150 = .ok (.getfield 58, 3) := by decide +kernel
theorem dX1_send_153 : decode cX1_send 153 = .ok (.iload_n 3, 1) := by decide +kernel
theorem dX1_send_154 : decode cX1_send 154 = .ok (.iastore, 1) := by decide +kernel
theorem dX1_send_155 : decode cX1_send 155 = .ok (.aload_n 0, 1) := by decide +kernel
theorem dX1_send_156 : decode cX1_send 156 = .ok (.getfield 34, 3) := by decide +kernel
theorem dX1_send_159 : decode cX1_send 159 = .ok (.aload_n 0, 1) := by decide +kernel
theorem dX1_send_160 : decode cX1_send 160 = .ok (.getfield 58, 3) := by decide +kernel
theorem dX1_send_163 : decode cX1_send 163 = .ok (.iload_n 1, 1) := by decide +kernel
theorem dX1_send_164 : decode cX1_send 164 = .ok (.iconst 4, 1) := by decide +kernel
theorem dX1_send_165 : decode cX1_send 165 = .ok (.irem, 1) := by decide +kernel
theorem dX1_send_166 : decode cX1_send 166 = .ok (.iastore, 1) := by decide +kernel
theorem dX1_send_167 : decode cX1_send 167 = .ok (.aload_n 0, 1) := by decide +kernel
theorem dX1_send_168 : decode cX1_send 168 = .ok (.getfield 37, 3) := by decide +kernel
theorem dX1_send_171 : decode cX1_send 171 = .ok (.aload_n 0, 1) := by decide +kernel
theorem dX1_send_172 : decode cX1_send 172 = .ok (.getfield 58, 3) := by decide +kernel
theorem dX1_send_175 : decode cX1_send 175 = .ok (.iconst 1, 1) := by decide +kernel
theorem dX1_send_176 : decode cX1_send 176 = .ok (.iload_n 1, 1) := by decide +kernel
theorem dX1_send_177 : decode cX1_send 177 = .ok (.iconst 4, 1) := by decide +kernel
theorem dX1_send_178 : decode cX1_send 178 = .ok (.irem, 1) := by decide +kernel
theorem dX1_send_179 : decode cX1_send 179 = .ok (.ishl, 1) := by decide +kernel
theorem dX1_send_180 : decode cX1_send 180 = .ok (.iastore, 1) := by decide +kernel
theorem dX1_send_181 : decode cX1_send 181 = .ok (.aload_n 0, 1) := by decide +kernel
theorem dX1_send_182 : decode cX1_send 182 = .ok (.getfield 13, 3) := by decide +kernel
theorem dX1_send_185 : decode cX1_send 185 = .ok (.iload_n 1, 1) := by decide +kernel
theorem dX1_send_186 : decode cX1_send 186 = .ok (.dup2, 1) := by decide +kernel
theorem dX1_send_187 : decode cX1_send 187 = .ok (.iaload, 1) := by decide +kernel
theorem dX1_send_188 : decode cX1_send 188 = .ok (.iload_n 3, 1) := by decide +kernel
theorem dX1_send_189 : decode cX1_send 189 = .ok (.isub, 1) := by decide +kernel
theorem dX1_send_190 : decode cX1_send 190 = .ok (.iastore, 1) := by decide +kernel
theorem dX1_send_191 : decode cX1_send 191 = .ok (.aload_n 0, 1) := by decide +kernel
theorem dX1_send_192 : decode cX1_send 192 = .ok (.dup, 1) := by decide +kernel
theorem dX1_send_193 : decode cX1_send 193 = .ok (.getfield 58, 3) := by decide +kernel
theorem dX1_send_196 : decode cX1_send 196 = .ok (.iconst 1, 1) := by decide +kernel
theorem dX1_send_197 : decode cX1_send 197 = .ok (.iadd, 1) := by decide +kernel
theorem dX1_send_198 : decode cX1_send 198 = .ok (.putfield 58, 3) := by decide +kernel
theorem dX1_send_201 : decode cX1_send 201 = .ok (.aload_n 0, 1) := by decide +kernel
theorem dX1_send_202 : decode cX1_send 202 = .ok (.getfield 58, 3) := by decide +kernel
theorem dX1_send_205 : decode cX1_send 205 = .ok (.iconst 1, 1) := by decide +kernel
theorem dX1_send_206 : decode cX1_send 206 = .ok (.isub, 1) := by decide +kernel
theorem dX1_send_207 : decode cX1_send 207 = .ok (.ireturn, 1) := by decide +kernel
set_option maxRecDepth 20000 in
theorem ggX1_isAhead_X1_nameOf : GoodIn wsX1_isAhead wsX1_nameOf := goodIn_r _ [7, 8, 2, 9, 10, 11, 12, 13, 14, 6, 15, 16, 17, 18, 19, 20, 21, 22, 23, 24, 25, 26, 27, 28, 29, 30, 31, 32] (by decide +kernel) (by decide +kernel)
set_option maxRecDepth 20000 in
theorem gX1_isAhead_X1_nameOf : GoodIn wsX1_isAhead (wsV RX1 80 RX1 yX1_nameOf wsX1_nameOf) := goodIn_app (goodIn_of _ (by decide +kernel)) ggX1_isAhead_X1_nameOf
theorem dX1_isAhead_0 : decode cX1_isAhead 0 = .ok (.aload_n 0, 1) := by decide +kernel
theorem dX1_isAhead_1 : decode cX1_isAhead 1 = .ok (.getfield 28, 3) := by decide +kernel
theorem dX1_isAhead_4 : decode cX1_isAhead 4 = .ok (.iload_n 1, 1) := by decide +kernel
theorem dX1_isAhead_5 : decode cX1_isAhead 5 = .ok (.iaload, 1) := by decide +kernel
theorem dX1_isAhead_6 : decode cX1_isAhead 6 = .ok (.aload_n 0, 1) := by decide +kernel
theorem dX1_isAhead_7 : decode cX1_isAhead 7 = .ok (.aload_n 0, 1) := by decide +kernel
theorem dX1_isAhead_8 : decode cX1_isAhead 8 = .ok (.getfield 22, 3) := by decide +kernel
theorem dX1_isAhead_11 : decode cX1_isAhead 11 = .ok (.iload_n 1, 1) := by decide +kernel
theorem dX1_isAhead_12 : decode cX1_isAhead 12 = .ok (.iaload, 1) := by decide +kernel
theorem dX1_isAhead_13 : decode cX1_isAhead 13 = .ok (.invokevirtual 80, 3) := by decide +kernel
theorem dX1_isAhead_16 : decode cX1_isAhead 16 = .ok (.iadd, 1) := by decide +kernel
theorem dX1_isAhead_17 : decode cX1_isAhead 17 = .ok (.istore_n 3, 1) := by decide +kernel
theorem dX1_isAhead_18 : decode cX1_isAhead 18 = .ok (.aload_n 0, 1) := by decide +kernel
theorem dX1_isAhead_19 : decode cX1_isAhead 19 = .ok (.getfield 28, 3) := by decide +kernel
theorem dX1_isAhead_22 : decode cX1_isAhead 22 = .ok (.iload_n 2, 1) := by decide +kernel
theorem dX1_isAhead_23 : decode cX1_isAhead 23 = .ok (.iaload, 1) := by decide +kernel
theorem dX1_isAhead_24 : decode cX1_isAhead 24 = .ok (.aload_n 0, 1) := by decide +kernel
theorem dX1_isAhead_25 : decode cX1_isAhead 25 = .ok (.aload_n 0, 1) := by decide +kernel
theorem dX1_isAhead_26 : decode cX1_isAhead 26 = .ok (.getfield 22, 3) := by decide +kernel
theorem dX1_isAhead_29 : decode cX1_isAhead 29 = .ok (.iload_n 2, 1) := by decide +kernel
theorem dX1_isAhead_30 : decode cX1_isAhead 30 = .ok (.iaload, 1) := by decide +kernel
theorem dX1_isAhead_31 : decode cX1_isAhead 31 = .ok (.invokevirtual 80, 3) := by decide +kernel
theorem dX1_isAhead_34 : decode cX1_isAhead 34 = .ok (.iadd, 1) := by decide +kernel
theorem dX1_isAhead_35 : decode cX1_isAhead 35 = .ok (.istore 4, 2) := by decide +kernel
theorem dX1_isAhead_37 : decode cX1_isAhead 37 = .ok (.iload_n 3, 1) := by decide +kernel
theorem dX1_isAhead_38 : decode cX1_isAhead 38 = .ok (.iload 4, 2) := by decide +kernel
theorem dX1_isAhead_40 : decode cX1_isAhead 40 = .ok (.if_icmp .gt 14, 3) := by decide +kernel
theorem dX1_isAhead_43 : decode cX1_isAhead 43 = .ok (.iload_n 3, 1) := by decide +kernel
theorem dX1_isAhead_44 : decode cX1_isAhead 44 = .ok (.iload 4, 2) := by decide +kernel
theorem dX1_isAhead_46 : decode cX1_isAhead 46 = .ok (.if_icmp .ne 12, 3) := by decide +kernel
theorem dX1_isAhead_49 : decode cX1_isAhead 49 = .ok (.iload_n 1, 1) := by decide +kernel
theorem dX1_isAhead_50 : decode cX1_isAhead 50 = .ok (.iload_n 2, 1) := by decide +kernel
theorem dX1_isAhead_51 : decode cX1_isAhead 51 = .ok (.if_icmp .ge 7, 3) := by decide +kernel
theorem dX1_isAhead_54 : decode cX1_isAhead 54 = .ok (.iconst 1, 1) := by decide +kernel
theorem dX1_isAhead_55 : decode cX1_isAhead 55 = .ok (.goto 4, 3) := by decide +kernel
theorem dX1_isAhead_58 : decode cX1_isAhead 58 = .ok (.iconst 0, 1) := by decide +kernel
theorem dX1_isAhead_59 : decode cX1_isAhead 59 = .ok (.ireturn, 1) := by decide +kernel
theorem dX1_liesAt_0 : decode cX1_liesAt 0 = .ok (.aload_n 0, 1) := by decide +kernel
theorem dX1_liesAt_1 : decode cX1_liesAt 1 = .ok (.getfield 31, 3) := by decide +kernel
theorem dX1_liesAt_4 : decode cX1_liesAt 4 = .ok (.iload_n 1, 1) := by decide +kernel
theorem dX1_liesAt_5 : decode cX1_liesAt 5 = .ok (.iaload, 1) := by decide +kernel
theorem dX1_liesAt_6 : decode cX1_liesAt 6 = .ok (.ifCond .ne 17, 3) := by decide +kernel
theorem dX1_liesAt_9 : decode cX1_liesAt 9 = .ok (.aload_n 0, 1) := by decide +kernel
theorem dX1_liesAt_10 : decode cX1_liesAt 10 = .ok (.getfield 34, 3) := by decide +kernel
theorem dX1_liesAt_13 : decode cX1_liesAt 13 = .ok (.iload_n 1, 1) := by decide +kernel
theorem dX1_liesAt_14 : decode cX1_liesAt 14 = .ok (.iaload, 1) := by decide +kernel
theorem dX1_liesAt_15 : decode cX1_liesAt 15 = .ok (.iload_n 2, 1) := by decide +kernel
theorem dX1_liesAt_16 : decode cX1_liesAt 16 = .ok (.if_icmp .ne 7, 3) := by decide +kernel
theorem dX1_liesAt_19 : decode cX1_liesAt 19 = .ok (.iconst 1, 1) := by decide +kernel
theorem dX1_liesAt_20 : decode cX1_liesAt 20 = .ok (.goto 4, 3) := by decide +kernel
theorem dX1_liesAt_23 : decode cX1_liesAt 23 = .ok (.iconst 0, 1) := by decide +kernel
theorem dX1_liesAt_24 : decode cX1_liesAt 24 = .ok (.ireturn, 1) := by decide +kernel
set_option maxRecDepth 20000 in
theorem ggX1_placeOf_X1_liesAt : GoodIn wsX1_placeOf wsX1_liesAt := goodIn_r _ [7, 8, 2, 26, 27, 28, 29, 30, 31, 32, 33, 34, 35, 36, 37, 38, 39, 40, 41] (by decide +kernel) (by decide +kernel)
set_option maxRecDepth 20000 in
theorem gX1_placeOf_X1_liesAt : GoodIn wsX1_placeOf (wsV RX1 89 RX1 yX1_liesAt wsX1_liesAt) := goodIn_app (goodIn_of _ (by decide +kernel)) ggX1_placeOf_X1_liesAt
set_option maxRecDepth 20000 in
theorem ggX1_placeOf_X1_isAhead : GoodIn wsX1_placeOf wsX1_isAhead := goodIn_r _ [12, 13, 14, 15, 16, 17, 6, 18, 1, 8, 19, 20, 21, 22, 23, 24, 25, 26, 27, 28, 29, 30, 31, 32, 33, 34, 35, 36, 37, 38, 39, 40, 41] (by decide +kernel) (by decide +kernel)
set_option maxRecDepth 20000 in
theorem gX1_placeOf_X1_isAhead : GoodIn wsX1_placeOf (wsV RX1 92 RX1 yX1_isAhead wsX1_isAhead) := goodIn_app (goodIn_of _ (by decide +kernel)) ggX1_placeOf_X1_isAhead
theorem dX1_placeOf_0 : decode cX1_placeOf 0 = .ok (.iconst 0, 1) := by decide +kernel
theorem dX1_placeOf_1 : decode cX1_placeOf 1 = .ok (.istore_n 2, 1) := by decide +kernel
theorem dX1_placeOf_2 : decode cX1_placeOf 2 = .ok (.iconst 0, 1) := by decide +kernel
theorem dX1_placeOf_3 : decode cX1_placeOf 3 = .ok (.istore_n 3, 1) := by decide +kernel
theorem dX1_placeOf_4 : decode cX1_placeOf 4 = .ok (.iload_n 3, 1) := by decide +kernel
theorem dX1_placeOf_5 : decode cX1_placeOf 5 = .ok (.aload_n 0, 1) := by decide +kernel
theorem dX1_placeOf_6 : decode cX1_placeOf 6 = .ok (.getfield 58, 3) := by decide +kernel
theorem dX1_placeOf_9 : decode cX1_placeOf 9 = .ok (.if_icmp .ge 45, 3) := by decide +kernel
theorem dX1_placeOf_12 : decode cX1_placeOf 12 = .ok (.iload_n 2, 1) := by decide +kernel
theorem dX1_placeOf_13 : decode cX1_placeOf 13 = .ok (.iload_n 3, 1) := by decide +kernel
theorem dX1_placeOf_14 : decode cX1_placeOf 14 = .ok (.iload_n 1, 1) := by decide +kernel
theorem dX1_placeOf_15 : decode cX1_placeOf 15 = .ok (.if_icmp .eq 30, 3) := by decide +kernel
theorem dX1_placeOf_18 : decode cX1_placeOf 18 = .ok (.aload_n 0, 1) := by decide +kernel
theorem dX1_placeOf_19 : decode cX1_placeOf 19 = .ok (.iload_n 3, 1) := by decide +kernel
theorem dX1_placeOf_20 : decode cX1_placeOf 20 = .ok (.aload_n 0, 1) := by decide +kernel
theorem dX1_placeOf_21 : decode cX1_placeOf 21 = .ok (.getfield 34, 3) := by decide +kernel
theorem dX1_placeOf_24 : decode cX1_placeOf 24 = .ok (.iload_n 1, 1) := by decide +kernel
theorem dX1_placeOf_25 : decode cX1_placeOf 25 = .ok (.iaload, 1) := by decide +kernel
theorem dX1_placeOf_26 : decode cX1_placeOf 26 = .ok (.invokevirtual 89, 3) := by decide +kernel
theorem dX1_placeOf_29 : decode cX1_placeOf 29 = .ok (.ifCond .eq 16, 3) := by decide +kernel
theorem dX1_placeOf_32 : decode cX1_placeOf 32 = .ok (.aload_n 0, 1) := by decide +kernel
theorem dX1_placeOf_33 : decode cX1_placeOf 33 = .ok (.iload_n 3, 1) := by decide +kernel
theorem dX1_placeOf_34 : decode cX1_placeOf 34 = .ok (.iload_n 1, 1) := by decide +kernel
theorem dX1_placeOf_35 : decode cX1_placeOf 35 = .ok (.invokevirtual 92, 3) := by decide +kernel
theorem dX1_placeOf_38 : decode cX1_placeOf 38 = .ok (.ifCond .eq 7, 3) := by decide +kernel
theorem dX1_placeOf_41 : decode cX1_placeOf 41 = .ok (.iconst 1, 1) := by decide +kernel
theorem dX1_placeOf_42 : decode cX1_placeOf 42 = .ok (.goto 4, 3) := by decide +kernel
theorem dX1_placeOf_45 : decode cX1_placeOf 45 = .ok (.iconst 0, 1) := by decide +kernel
theorem dX1_placeOf_46 : decode cX1_placeOf 46 = .ok (.iadd, 1) := by decide +kernel
theorem dX1_placeOf_47 : decode cX1_placeOf 47 = .ok (.istore_n 2, 1) := by decide +kernel
theorem dX1_placeOf_48 : decode cX1_placeOf 48 = .ok (.iinc 3 1, 3) := by decide +kernel
theorem dX1_placeOf_51 : decode cX1_placeOf 51 = .ok (.goto (-47), 3) := by decide +kernel
theorem dX1_placeOf_54 : decode cX1_placeOf 54 = .ok (.iload_n 2, 1) := by decide +kernel
theorem dX1_placeOf_55 : decode cX1_placeOf 55 = .ok (.ireturn, 1) := by decide +kernel
set_option maxRecDepth 20000 in
theorem ggX1_goes_X1_has : GoodIn wsX1_goes wsX1_has := goodIn_r _ [13] (by decide +kernel) (by decide +kernel)
set_option maxRecDepth 20000 in
theorem gX1_goes_X1_has : GoodIn wsX1_goes (va_wsS RX1 68 yX1_has wsX1_has) := goodIn_app (goodIn_of _ (by decide +kernel)) ggX1_goes_X1_has
theorem dX1_goes_0 : decode cX1_goes 0 = .ok (.aload_n 0, 1) := by decide +kernel
theorem dX1_goes_1 : decode cX1_goes 1 = .ok (.getfield 34, 3) := by decide +kernel
theorem dX1_goes_4 : decode cX1_goes 4 = .ok (.iload_n 1, 1) := by decide +kernel
theorem dX1_goes_5 : decode cX1_goes 5 = .ok (.iaload, 1) := by decide +kernel
theorem dX1_goes_6 : decode cX1_goes 6 = .ok (.istore_n 2, 1) := by decide +kernel
theorem dX1_goes_7 : decode cX1_goes 7 = .ok (.aload_n 0, 1) := by decide +kernel
theorem dX1_goes_8 : decode cX1_goes 8 = .ok (.getfield 25, 3) := by decide +kernel
theorem dX1_goes_11 : decode cX1_goes 11 = .ok (.iload_n 1, 1) := by decide +kernel
theorem dX1_goes_12 : decode cX1_goes 12 = .ok (.iaload, 1) := by decide +kernel
theorem dX1_goes_13 : decode cX1_goes 13 = .ok (.iconst 4, 1) := by decide +kernel
theorem dX1_goes_14 : decode cX1_goes 14 = .ok (.irem, 1) := by decide +kernel
theorem dX1_goes_15 : decode cX1_goes 15 = .ok (.istore_n 3, 1) := by decide +kernel
theorem dX1_goes_16 : decode cX1_goes 16 = .ok (.aload_n 0, 1) := by decide +kernel
theorem dX1_goes_17 : decode cX1_goes 17 = .ok (.getfield 7, 3) := by decide +kernel
theorem dX1_goes_20 : decode cX1_goes 20 = .ok (.iconst 4, 1) := by decide +kernel
theorem dX1_goes_21 : decode cX1_goes 21 = .ok (.iload_n 2, 1) := by decide +kernel
theorem dX1_goes_22 : decode cX1_goes 22 = .ok (.imul, 1) := by decide +kernel
theorem dX1_goes_23 : decode cX1_goes 23 = .ok (.iload_n 3, 1) := by decide +kernel
theorem dX1_goes_24 : decode cX1_goes 24 = .ok (.iadd, 1) := by decide +kernel
theorem dX1_goes_25 : decode cX1_goes 25 = .ok (.iaload, 1) := by decide +kernel
theorem dX1_goes_26 : decode cX1_goes 26 = .ok (.istore 4, 2) := by decide +kernel
theorem dX1_goes_28 : decode cX1_goes 28 = .ok (.iload_n 2, 1) := by decide +kernel
theorem dX1_goes_29 : decode cX1_goes 29 = .ok (.iload_n 3, 1) := by decide +kernel
theorem dX1_goes_30 : decode cX1_goes 30 = .ok (.if_icmp .ne 22, 3) := by decide +kernel
theorem dX1_goes_33 : decode cX1_goes 33 = .ok (.aload_n 0, 1) := by decide +kernel
theorem dX1_goes_34 : decode cX1_goes 34 = .ok (.getfield 31, 3) := by decide +kernel
theorem dX1_goes_37 : decode cX1_goes 37 = .ok (.iload_n 1, 1) := by decide +kernel
theorem dX1_goes_38 : decode cX1_goes 38 = .ok (.iconst 1, 1) := by decide +kernel
theorem dX1_goes_39 : decode cX1_goes 39 = .ok (.iastore, 1) := by decide +kernel
theorem dX1_goes_40 : decode cX1_goes 40 = .ok (.aload_n 0, 1) := by decide +kernel
theorem dX1_goes_41 : decode cX1_goes 41 = .ok (.getfield 40, 3) := by decide +kernel
theorem dX1_goes_44 : decode cX1_goes 44 = .ok (.iload_n 1, 1) := by decide +kernel
theorem dX1_goes_45 : decode cX1_goes 45 = .ok (.aload_n 0, 1) := by decide +kernel
theorem dX1_goes_46 : decode cX1_goes 46 = .ok (.getfield 95, 3) := by decide +kernel
theorem dX1_goes_49 : decode cX1_goes 49 = .ok (.iastore, 1) := by decide +kernel
theorem dX1_goes_50 : decode cX1_goes 50 = .ok (.iconst 1, 1) := by decide +kernel
theorem dX1_goes_51 : decode cX1_goes 51 = .ok (.ireturn, 1) := by decide +kernel
theorem dX1_goes_52 : decode cX1_goes 52 = .ok (.aload_n 0, 1) := by decide +kernel
theorem dX1_goes_53 : decode cX1_goes 53 = .ok (.getfield 37, 3) := by decide +kernel
theorem dX1_goes_56 : decode cX1_goes 56 = .ok (.iload_n 1, 1) := by decide +kernel
theorem dX1_goes_57 : decode cX1_goes 57 = .ok (.iaload, 1) := by decide +kernel
theorem dX1_goes_58 : decode cX1_goes 58 = .ok (.iload 4, 2) := by decide +kernel
theorem dX1_goes_60 : decode cX1_goes 60 = .ok (.invokestatic 68, 3) := by decide +kernel
theorem dX1_goes_63 : decode cX1_goes 63 = .ok (.ifCond .eq 28, 3) := by decide +kernel
theorem dX1_goes_66 : decode cX1_goes 66 = .ok (.aload_n 0, 1) := by decide +kernel
theorem dX1_goes_67 : decode cX1_goes 67 = .ok (.getfield 31, 3) := by decide +kernel
theorem dX1_goes_70 : decode cX1_goes 70 = .ok (.iload_n 1, 1) := by decide +kernel
theorem dX1_goes_71 : decode cX1_goes 71 = .ok (.iconst 4, 1) := by decide +kernel
theorem dX1_goes_72 : decode cX1_goes 72 = .ok (.iastore, 1) := by decide +kernel
theorem dX1_goes_73 : decode cX1_goes 73 = .ok (.aload_n 0, 1) := by decide +kernel
theorem dX1_goes_74 : decode cX1_goes 74 = .ok (.getfield 16, 3) := by decide +kernel
theorem dX1_goes_77 : decode cX1_goes 77 = .ok (.iload_n 2, 1) := by decide +kernel
theorem dX1_goes_78 : decode cX1_goes 78 = .ok (.dup2, 1) := by decide +kernel
theorem dX1_goes_79 : decode cX1_goes 79 = .ok (.iaload, 1) := by decide +kernel
theorem dX1_goes_80 : decode cX1_goes 80 = .ok (.aload_n 0, 1) := by decide +kernel
theorem dX1_goes_81 : decode cX1_goes 81 = .ok (.getfield 28, 3) := by decide +kernel
theorem dX1_goes_84 : decode cX1_goes 84 = .ok (.iload_n 1, 1) := by decide +kernel
theorem dX1_goes_85 : decode cX1_goes 85 = .ok (.iaload, 1) := by decide +kernel
theorem dX1_goes_86 : decode cX1_goes 86 = .ok (.iadd, 1) := by decide +kernel
theorem dX1_goes_87 : decode cX1_goes 87 = .ok (.iastore, 1) := by decide +kernel
theorem dX1_goes_88 : decode cX1_goes 88 = .ok (.goto 24, 3) := by decide +kernel
theorem dX1_goes_91 : decode cX1_goes 91 = .ok (.aload_n 0, 1) := by decide +kernel
theorem dX1_goes_92 : decode cX1_goes 92 = .ok (.getfield 34, 3) := by decide +kernel
theorem dX1_goes_95 : decode cX1_goes 95 = .ok (.iload_n 1, 1) := by decide +kernel
theorem dX1_goes_96 : decode cX1_goes 96 = .ok (.iload 4, 2) := by decide +kernel
theorem dX1_goes_98 : decode cX1_goes 98 = .ok (.iastore, 1) := by decide +kernel
theorem dX1_goes_99 : decode cX1_goes 99 = .ok (.aload_n 0, 1) := by decide +kernel
theorem dX1_goes_100 : decode cX1_goes 100 = .ok (.getfield 37, 3) := by decide +kernel
theorem dX1_goes_103 : decode cX1_goes 103 = .ok (.iload_n 1, 1) := by decide +kernel
theorem dX1_goes_104 : decode cX1_goes 104 = .ok (.dup2, 1) := by decide +kernel
theorem dX1_goes_105 : decode cX1_goes 105 = .ok (.iaload, 1) := by decide +kernel
theorem dX1_goes_106 : decode cX1_goes 106 = .ok (.iconst 1, 1) := by decide +kernel
theorem dX1_goes_107 : decode cX1_goes 107 = .ok (.iload 4, 2) := by decide +kernel
theorem dX1_goes_109 : decode cX1_goes 109 = .ok (.ishl, 1) := by decide +kernel
theorem dX1_goes_110 : decode cX1_goes 110 = .ok (.ior, 1) := by decide +kernel
theorem dX1_goes_111 : decode cX1_goes 111 = .ok (.iastore, 1) := by decide +kernel
theorem dX1_goes_112 : decode cX1_goes 112 = .ok (.iconst 0, 1) := by decide +kernel
theorem dX1_goes_113 : decode cX1_goes 113 = .ok (.ireturn, 1) := by decide +kernel
set_option maxRecDepth 20000 in
theorem ggX1_ticks_X1_placeOf : GoodIn wsX1_ticks wsX1_placeOf := goodIn_r _ [13, 2, 14, 15, 16, 17, 12, 18, 4, 19, 20, 21, 22, 8, 7, 23, 24, 25, 26, 27, 28, 29, 30, 31, 32, 33, 44, 45, 46, 47, 48, 49, 50, 51, 52, 53, 54, 55, 56, 57, 58, 59] (by decide +kernel) (by decide +kernel)
set_option maxRecDepth 20000 in
theorem gX1_ticks_X1_placeOf : GoodIn wsX1_ticks (wsV RX1 98 RX1 yX1_placeOf wsX1_placeOf) := goodIn_app (goodIn_of _ (by decide +kernel)) ggX1_ticks_X1_placeOf
set_option maxRecDepth 20000 in
theorem ggX1_ticks_X1_goes : GoodIn wsX1_ticks wsX1_goes := goodIn_r _ [37, 14, 27, 38, 4, 5, 1, 39, 40, 8, 41, 42, 12, 43, 44, 45, 46, 47, 48, 49, 50, 51, 52, 53, 54, 55, 56, 57, 58, 59] (by decide +kernel) (by decide +kernel)
set_option maxRecDepth 20000 in
theorem gX1_ticks_X1_goes : GoodIn wsX1_ticks (wsV RX1 101 RX1 yX1_goes wsX1_goes) := goodIn_app (goodIn_of _ (by decide +kernel)) ggX1_ticks_X1_goes
theorem dX1_ticks_0 : decode cX1_ticks 0 = .ok (.iconst 0, 1) := by decide +kernel
theorem dX1_ticks_1 : decode cX1_ticks 1 = .ok (.istore_n 1, 1) := by decide +kernel
theorem dX1_ticks_2 : decode cX1_ticks 2 = .ok (.aload_n 0, 1) := by decide +kernel
theorem dX1_ticks_3 : decode cX1_ticks 3 = .ok (.dup, 1) := by decide +kernel
theorem dX1_ticks_4 : decode cX1_ticks 4 = .ok (.getfield 95, 3) := by decide +kernel
theorem dX1_ticks_7 : decode cX1_ticks 7 = .ok (.iconst 1, 1) := by decide +kernel
theorem dX1_ticks_8 : decode cX1_ticks 8 = .ok (.iadd, 1) := by decide +kernel
theorem dX1_ticks_9 : decode cX1_ticks 9 = .ok (.putfield 95, 3) := by decide +kernel
theorem dX1_ticks_12 : decode cX1_ticks 12 = .ok (.iconst 0, 1) := by decide +kernel
theorem dX1_ticks_13 : decode cX1_ticks 13 = .ok (.istore_n 2, 1) := by decide +kernel
theorem dX1_ticks_14 : decode cX1_ticks 14 = .ok (.iload_n 2, 1) := by decide +kernel
theorem dX1_ticks_15 : decode cX1_ticks 15 = .ok (.aload_n 0, 1) := by decide +kernel
theorem dX1_ticks_16 : decode cX1_ticks 16 = .ok (.getfield 58, 3) := by decide +kernel
theorem dX1_ticks_19 : decode cX1_ticks 19 = .ok (.if_icmp .ge 38, 3) := by decide +kernel
theorem dX1_ticks_22 : decode cX1_ticks 22 = .ok (.aload_n 0, 1) := by decide +kernel
theorem dX1_ticks_23 : decode cX1_ticks 23 = .ok (.getfield 47, 3) := by decide +kernel
theorem dX1_ticks_26 : decode cX1_ticks 26 = .ok (.iload_n 2, 1) := by decide +kernel
theorem dX1_ticks_27 : decode cX1_ticks 27 = .ok (.aload_n 0, 1) := by decide +kernel
theorem dX1_ticks_28 : decode cX1_ticks 28 = .ok (.getfield 31, 3) := by decide +kernel
theorem dX1_ticks_31 : decode cX1_ticks 31 = .ok (.iload_n 2, 1) := by decide +kernel
theorem dX1_ticks_32 : decode cX1_ticks 32 = .ok (.iaload, 1) := by decide +kernel
theorem dX1_ticks_33 : decode cX1_ticks 33 = .ok (.ifCond .ne 16, 3) := by decide +kernel
theorem dX1_ticks_36 : decode cX1_ticks 36 = .ok (.aload_n 0, 1) := by decide +kernel
theorem dX1_ticks_37 : decode cX1_ticks 37 = .ok (.iload_n 2, 1) := by decide +kernel
theorem dX1_ticks_38 : decode cX1_ticks 38 = .ok (.invokevirtual 98, 3) := by decide +kernel
theorem dX1_ticks_41 : decode cX1_ticks 41 = .ok (.iconst 2, 1) := by decide +kernel
theorem dX1_ticks_42 : decode cX1_ticks 42 = .ok (.if_icmp .ge 7, 3) := by decide +kernel
theorem dX1_ticks_45 : decode cX1_ticks 45 = .ok (.iconst 1, 1) := by decide +kernel
theorem dX1_ticks_46 : decode cX1_ticks 46 = .ok (.goto 4, 3) := by decide +kernel
theorem dX1_ticks_49 : decode cX1_ticks 49 = .ok (.iconst 0, 1) := by decide +kernel
theorem dX1_ticks_50 : decode cX1_ticks 50 = .ok (.bastore, 1) := by decide +kernel
theorem dX1_ticks_51 : decode cX1_ticks 51 = .ok (.iinc 2 1, 3) := by decide +kernel
theorem dX1_ticks_54 : decode cX1_ticks 54 = .ok (.goto (-40), 3) := by decide +kernel
theorem dX1_ticks_57 : decode cX1_ticks 57 = .ok (.iconst 0, 1) := by decide +kernel
theorem dX1_ticks_58 : decode cX1_ticks 58 = .ok (.istore_n 2, 1) := by decide +kernel
theorem dX1_ticks_59 : decode cX1_ticks 59 = .ok (.iload_n 2, 1) := by decide +kernel
theorem dX1_ticks_60 : decode cX1_ticks 60 = .ok (.aload_n 0, 1) := by decide +kernel
theorem dX1_ticks_61 : decode cX1_ticks 61 = .ok (.getfield 58, 3) := by decide +kernel
theorem dX1_ticks_64 : decode cX1_ticks 64 = .ok (.if_icmp .ge 34, 3) := by decide +kernel
theorem dX1_ticks_67 : decode cX1_ticks 67 = .ok (.iload_n 1, 1) := by decide +kernel
theorem dX1_ticks_68 : decode cX1_ticks 68 = .ok (.aload_n 0, 1) := by decide +kernel
theorem dX1_ticks_69 : decode cX1_ticks 69 = .ok (.getfield 47, 3) := by decide +kernel
theorem dX1_ticks_72 : decode cX1_ticks 72 = .ok (.iload_n 2, 1) := by decide +kernel
theorem dX1_ticks_73 : decode cX1_ticks 73 = .ok (.baload, 1) := by decide +kernel
theorem dX1_ticks_74 : decode cX1_ticks 74 = .ok (.ifCond .eq 15, 3) := by decide +kernel
theorem dX1_ticks_77 : decode cX1_ticks 77 = .ok (.aload_n 0, 1) := by decide +kernel
theorem dX1_ticks_78 : decode cX1_ticks 78 = .ok (.iload_n 2, 1) := by decide +kernel
theorem dX1_ticks_79 : decode cX1_ticks 79 = .ok (.invokevirtual 101, 3) := by decide +kernel
theorem dX1_ticks_82 : decode cX1_ticks 82 = .ok (.ifCond .eq 7, 3) := by decide +kernel
theorem dX1_ticks_85 : decode cX1_ticks 85 = .ok (.iconst 1, 1) := by decide +kernel
theorem dX1_ticks_86 : decode cX1_ticks 86 = .ok (.goto 4, 3) := by decide +kernel
theorem dX1_ticks_89 : decode cX1_ticks 89 = .ok (.iconst 0, 1) := by decide +kernel
theorem dX1_ticks_90 : decode cX1_ticks 90 = .ok (.iadd, 1) := by decide +kernel
theorem dX1_ticks_91 : decode cX1_ticks 91 = .ok (.istore_n 1, 1) := by decide +kernel
theorem dX1_ticks_92 : decode cX1_ticks 92 = .ok (.iinc 2 1, 3) := by decide +kernel
theorem dX1_ticks_95 : decode cX1_ticks 95 = .ok (.goto (-36), 3) := by decide +kernel
theorem dX1_ticks_98 : decode cX1_ticks 98 = .ok (.iconst 0, 1) := by decide +kernel
theorem dX1_ticks_99 : decode cX1_ticks 99 = .ok (.istore_n 2, 1) := by decide +kernel
theorem dX1_ticks_100 : decode cX1_ticks 100 = .ok (.iload_n 2, 1) := by decide +kernel
theorem dX1_ticks_101 : decode cX1_ticks 101 = .ok (.aload_n 0, 1) := by decide +kernel
theorem dX1_ticks_102 : decode cX1_ticks 102 = .ok (.getfield 58, 3) := by decide +kernel
theorem dX1_ticks_105 : decode cX1_ticks 105 = .ok (.if_icmp .ge 62, 3) := by decide +kernel
theorem dX1_ticks_108 : decode cX1_ticks 108 = .ok (.aload_n 0, 1) := by decide +kernel
theorem dX1_ticks_109 : decode cX1_ticks 109 = .ok (.getfield 31, 3) := by decide +kernel
theorem dX1_ticks_112 : decode cX1_ticks 112 = .ok (.iload_n 2, 1) := by decide +kernel
theorem dX1_ticks_113 : decode cX1_ticks 113 = .ok (.iaload, 1) := by decide +kernel
theorem dX1_ticks_114 : decode cX1_ticks 114 = .ok (.iconst 1, 1) := by decide +kernel
theorem dX1_ticks_115 : decode cX1_ticks 115 = .ok (.if_icmp .ne 46, 3) := by decide +kernel
theorem dX1_ticks_118 : decode cX1_ticks 118 = .ok (.aload_n 0, 1) := by decide +kernel
theorem dX1_ticks_119 : decode cX1_ticks 119 = .ok (.getfield 95, 3) := by decide +kernel
theorem dX1_ticks_122 : decode cX1_ticks 122 = .ok (.aload_n 0, 1) := by decide +kernel
theorem dX1_ticks_123 : decode cX1_ticks 123 = .ok (.getfield 40, 3) := by decide +kernel
theorem dX1_ticks_126 : decode cX1_ticks 126 = .ok (.iload_n 2, 1) := by decide +kernel
theorem dX1_ticks_127 : decode cX1_ticks 127 = .ok (.iaload, 1) := by decide +kernel
theorem dX1_ticks_128 : decode cX1_ticks 128 = .ok (.isub, 1) := by decide +kernel
theorem dX1_ticks_129 : decode cX1_ticks 129 = .ok (.bipush 20, 2) := by decide +kernel
theorem dX1_ticks_131 : decode cX1_ticks 131 = .ok (.if_icmp .ne 30, 3) := by decide +kernel
theorem dX1_ticks_134 : decode cX1_ticks 134 = .ok (.aload_n 0, 1) := by decide +kernel
theorem dX1_ticks_135 : decode cX1_ticks 135 = .ok (.getfield 31, 3) := by decide +kernel
theorem dX1_ticks_138 : decode cX1_ticks 138 = .ok (.iload_n 2, 1) := by decide +kernel
theorem dX1_ticks_139 : decode cX1_ticks 139 = .ok (.iconst 5, 1) := by decide +kernel
theorem dX1_ticks_140 : decode cX1_ticks 140 = .ok (.iastore, 1) := by decide +kernel
theorem dX1_ticks_141 : decode cX1_ticks 141 = .ok (.aload_n 0, 1) := by decide +kernel
theorem dX1_ticks_142 : decode cX1_ticks 142 = .ok (.getfield 13, 3) := by decide +kernel
theorem dX1_ticks_145 : decode cX1_ticks 145 = .ok (.aload_n 0, 1) := by decide +kernel
theorem dX1_ticks_146 : decode cX1_ticks 146 = .ok (.getfield 22, 3) := by decide +kernel
theorem dX1_ticks_149 : decode cX1_ticks 149 = .ok (.iload_n 2, 1) := by decide +kernel
theorem dX1_ticks_150 : decode cX1_ticks 150 = .ok (.iaload, 1) := by decide +kernel
theorem dX1_ticks_151 : decode cX1_ticks 151 = .ok (.dup2, 1) := by decide +kernel
theorem dX1_ticks_152 : decode cX1_ticks 152 = .ok (.iaload, 1) := by decide +kernel
theorem dX1_ticks_153 : decode cX1_ticks 153 = .ok (.aload_n 0, 1) := by decide +kernel
theorem dX1_ticks_154 : decode cX1_ticks 154 = .ok (.getfield 28, 3) := by decide +kernel
theorem dX1_ticks_157 : decode cX1_ticks 157 = .ok (.iload_n 2, 1) := by decide +kernel
theorem dX1_ticks_158 : decode cX1_ticks 158 = .ok (.iaload, 1) := by decide +kernel
theorem dX1_ticks_159 : decode cX1_ticks 159 = .ok (.iadd, 1) := by decide +kernel
theorem dX1_ticks_160 : decode cX1_ticks 160 = .ok (.iastore, 1) := by decide +kernel
theorem dX1_ticks_161 : decode cX1_ticks 161 = .ok (.iinc 2 1, 3) := by decide +kernel
theorem dX1_ticks_164 : decode cX1_ticks 164 = .ok (.goto (-64), 3) := by decide +kernel
theorem dX1_ticks_167 : decode cX1_ticks 167 = .ok (.iload_n 1, 1) := by decide +kernel
theorem dX1_ticks_168 : decode cX1_ticks 168 = .ok (.ireturn, 1) := by decide +kernel
set_option maxRecDepth 20000 in
theorem ggX1_pass_X1_isIn : GoodIn wsX1_pass wsX1_isIn := goodIn_r _ [6] (by decide +kernel) (by decide +kernel)
set_option maxRecDepth 20000 in
theorem gX1_pass_X1_isIn : GoodIn wsX1_pass (va_wsS RX1 54 yX1_isIn wsX1_isIn) := goodIn_app (goodIn_of _ (by decide +kernel)) ggX1_pass_X1_isIn
set_option maxRecDepth 20000 in
theorem ggX1_pass_X1_can : GoodIn wsX1_pass wsX1_can := goodIn_r _ [10, 11, 57, 58, 59, 60, 61, 62, 63, 64, 65, 66, 67, 68, 69, 70, 71, 72] (by decide +kernel) (by decide +kernel)
set_option maxRecDepth 20000 in
theorem gX1_pass_X1_can : GoodIn wsX1_pass (wsV RX1 65 RX1 yX1_can wsX1_can) := goodIn_app (goodIn_of _ (by decide +kernel)) ggX1_pass_X1_can
set_option maxRecDepth 20000 in
theorem ggX1_pass_X1_ticks : GoodIn wsX1_pass wsX1_ticks := goodIn_r _ [15, 1, 16, 17, 18, 19, 20, 21, 22, 23, 24, 25, 5, 26, 27, 28, 29, 30, 31, 32, 33, 34, 35, 36, 37, 38, 39, 40, 41, 42, 43, 44, 45, 46, 47, 48, 49, 50, 51, 52, 53, 54, 55, 56, 57, 58, 59, 60, 61, 62, 63, 64, 65, 66, 67, 68, 69, 70, 71, 72] (by decide +kernel) (by decide +kernel)
set_option maxRecDepth 20000 in
theorem gX1_pass_X1_ticks : GoodIn wsX1_pass (wsV RX1 105 RX1 yX1_ticks wsX1_ticks) := goodIn_app (goodIn_of _ (by decide +kernel)) ggX1_pass_X1_ticks
theorem dX1_pass_0 : decode cX1_pass 0 = .ok (.aload_n 0, 1) := by decide +kernel
theorem dX1_pass_1 : decode cX1_pass 1 = .ok (.iload_n 1, 1) := by decide +kernel
theorem dX1_pass_2 : decode cX1_pass 2 = .ok (.iconst 1, 1) := by decide +kernel
theorem dX1_pass_3 : decode cX1_pass 3 = .ok (.bipush 50, 2) := by decide +kernel
theorem dX1_pass_5 : decode cX1_pass 5 = .ok (.invokestatic 54, 3) := by decide +kernel
theorem dX1_pass_8 : decode cX1_pass 8 = .ok (.ifCond .ne 7, 3) := by decide +kernel
theorem dX1_pass_11 : decode cX1_pass 11 = .ok (.iconst 1, 1) := by decide +kernel
theorem dX1_pass_12 : decode cX1_pass 12 = .ok (.goto 19, 3) := by decide +kernel
theorem dX1_pass_15 : decode cX1_pass 15 = .ok (.aload_n 0, 1) := by decide +kernel
theorem dX1_pass_16 : decode cX1_pass 16 = .ok (.getfield 95, 3) := by decide +kernel
theorem dX1_pass_19 : decode cX1_pass 19 = .ok (.iload_n 1, 1) := by decide +kernel
theorem dX1_pass_20 : decode cX1_pass 20 = .ok (.iadd, 1) := by decide +kernel
theorem dX1_pass_21 : decode cX1_pass 21 = .ok (.ldc 104, 2) := by decide +kernel
theorem dX1_pass_23 : decode cX1_pass 23 = .ok (.if_icmp .le 7, 3) := by decide +kernel
theorem dX1_pass_26 : decode cX1_pass 26 = .ok (.iconst 2, 1) := by decide +kernel
theorem dX1_pass_27 : decode cX1_pass 27 = .ok (.goto 4, 3) := by decide +kernel
theorem dX1_pass_30 : decode cX1_pass 30 = .ok (.iconst 0, 1) := by decide +kernel
theorem dX1_pass_31 : decode cX1_pass 31 = .ok (.invokevirtual 65, 3) := by decide +kernel
theorem dX1_pass_34 : decode cX1_pass 34 = .ok (.ifCond .ne 5, 3) := by decide +kernel
theorem dX1_pass_37 : decode cX1_pass 37 = .ok (.iconst 0, 1) := by decide +kernel
theorem dX1_pass_38 : decode cX1_pass 38 = .ok (.ireturn, 1) := by decide +kernel
theorem dX1_pass_39 : decode cX1_pass 39 = .ok (.iconst 0, 1) := by decide +kernel
theorem dX1_pass_40 : decode cX1_pass 40 = .ok (.istore_n 2, 1) := by decide +kernel
theorem dX1_pass_41 : decode cX1_pass 41 = .ok (.iconst 0, 1) := by decide +kernel
theorem dX1_pass_42 : decode cX1_pass 42 = .ok (.istore_n 3, 1) := by decide +kernel
theorem dX1_pass_43 : decode cX1_pass 43 = .ok (.iload_n 3, 1) := by decide +kernel
theorem dX1_pass_44 : decode cX1_pass 44 = .ok (.iload_n 1, 1) := by decide +kernel
theorem dX1_pass_45 : decode cX1_pass 45 = .ok (.if_icmp .ge 16, 3) := by decide +kernel
theorem dX1_pass_48 : decode cX1_pass 48 = .ok (.iload_n 2, 1) := by decide +kernel
theorem dX1_pass_49 : decode cX1_pass 49 = .ok (.aload_n 0, 1) := by decide +kernel
theorem dX1_pass_50 : decode cX1_pass 50 = .ok (.invokevirtual 105, 3) := by decide +kernel
theorem dX1_pass_53 : decode cX1_pass 53 = .ok (.iadd, 1) := by decide +kernel
theorem dX1_pass_54 : decode cX1_pass 54 = .ok (.istore_n 2, 1) := by decide +kernel
theorem dX1_pass_55 : decode cX1_pass 55 = .ok (.iinc 3 1, 3) := by decide +kernel
theorem dX1_pass_58 : decode cX1_pass 58 = .ok (.goto (-15), 3) := by decide +kernel
theorem dX1_pass_61 : decode cX1_pass 61 = .ok (.iload_n 2, 1) := by decide +kernel
theorem dX1_pass_62 : decode cX1_pass 62 = .ok (.ireturn, 1) := by decide +kernel
set_option maxRecDepth 20000 in
theorem ggX1_answer_X1_isLetter : GoodIn wsX1_answer wsX1_isLetter := goodIn_r _ [9, 10, 11, 12, 8, 13, 30, 31, 32, 33, 34, 35, 36, 37, 38, 39, 40, 41, 42, 43, 44, 45] (by decide +kernel) (by decide +kernel)
set_option maxRecDepth 20000 in
theorem gX1_answer_X1_isLetter : GoodIn wsX1_answer (wsV RX1 109 RX1 yX1_isLetter wsX1_isLetter) := goodIn_app (goodIn_of _ (by decide +kernel)) ggX1_answer_X1_isLetter
set_option maxRecDepth 20000 in
theorem ggX1_answer_X1_can : GoodIn wsX1_answer wsX1_can := goodIn_r _ [17, 18, 30, 31, 32, 33, 34, 35, 36, 37, 38, 39, 40, 41, 42, 43, 44, 45] (by decide +kernel) (by decide +kernel)
set_option maxRecDepth 20000 in
theorem gX1_answer_X1_can : GoodIn wsX1_answer (wsV RX1 65 RX1 yX1_can wsX1_can) := goodIn_app (goodIn_of _ (by decide +kernel)) ggX1_answer_X1_can
set_option maxRecDepth 20000 in
theorem ggX1_answer_X1_nameOf : GoodIn wsX1_answer wsX1_nameOf := goodIn_r _ [22, 10, 3, 1, 23, 24, 25, 26, 27, 8, 28, 29, 30, 31, 32, 33, 34, 35, 36, 37, 38, 39, 40, 41, 42, 43, 44, 45] (by decide +kernel) (by decide +kernel)
set_option maxRecDepth 20000 in
theorem gX1_answer_X1_nameOf : GoodIn wsX1_answer (wsV RX1 80 RX1 yX1_nameOf wsX1_nameOf) := goodIn_app (goodIn_of _ (by decide +kernel)) ggX1_answer_X1_nameOf
theorem dX1_answer_0 : decode cX1_answer 0 = .ok (.aload_n 0, 1) := by decide +kernel
theorem dX1_answer_1 : decode cX1_answer 1 = .ok (.aload_n 0, 1) := by decide +kernel
theorem dX1_answer_2 : decode cX1_answer 2 = .ok (.iload_n 1, 1) := by decide +kernel
theorem dX1_answer_3 : decode cX1_answer 3 = .ok (.invokevirtual 109, 3) := by decide +kernel
theorem dX1_answer_6 : decode cX1_answer 6 = .ok (.ifCond .ne 7, 3) := by decide +kernel
theorem dX1_answer_9 : decode cX1_answer 9 = .ok (.iconst 1, 1) := by decide +kernel
theorem dX1_answer_10 : decode cX1_answer 10 = .ok (.goto 18, 3) := by decide +kernel
theorem dX1_answer_13 : decode cX1_answer 13 = .ok (.aload_n 0, 1) := by decide +kernel
theorem dX1_answer_14 : decode cX1_answer 14 = .ok (.getfield 31, 3) := by decide +kernel
theorem dX1_answer_17 : decode cX1_answer 17 = .ok (.iload_n 1, 1) := by decide +kernel
theorem dX1_answer_18 : decode cX1_answer 18 = .ok (.iaload, 1) := by decide +kernel
theorem dX1_answer_19 : decode cX1_answer 19 = .ok (.iconst 1, 1) := by decide +kernel
theorem dX1_answer_20 : decode cX1_answer 20 = .ok (.if_icmp .ne 7, 3) := by decide +kernel
theorem dX1_answer_23 : decode cX1_answer 23 = .ok (.iconst 0, 1) := by decide +kernel
theorem dX1_answer_24 : decode cX1_answer 24 = .ok (.goto 4, 3) := by decide +kernel
theorem dX1_answer_27 : decode cX1_answer 27 = .ok (.iconst 2, 1) := by decide +kernel
theorem dX1_answer_28 : decode cX1_answer 28 = .ok (.invokevirtual 65, 3) := by decide +kernel
theorem dX1_answer_31 : decode cX1_answer 31 = .ok (.ifCond .ne 5, 3) := by decide +kernel
theorem dX1_answer_34 : decode cX1_answer 34 = .ok (.iconst 0, 1) := by decide +kernel
theorem dX1_answer_35 : decode cX1_answer 35 = .ok (.ireturn, 1) := by decide +kernel
theorem dX1_answer_36 : decode cX1_answer 36 = .ok (.aload_n 0, 1) := by decide +kernel
theorem dX1_answer_37 : decode cX1_answer 37 = .ok (.getfield 31, 3) := by decide +kernel
theorem dX1_answer_40 : decode cX1_answer 40 = .ok (.iload_n 1, 1) := by decide +kernel
theorem dX1_answer_41 : decode cX1_answer 41 = .ok (.iconst 2, 1) := by decide +kernel
theorem dX1_answer_42 : decode cX1_answer 42 = .ok (.iastore, 1) := by decide +kernel
theorem dX1_answer_43 : decode cX1_answer 43 = .ok (.aload_n 0, 1) := by decide +kernel
theorem dX1_answer_44 : decode cX1_answer 44 = .ok (.getfield 13, 3) := by decide +kernel
theorem dX1_answer_47 : decode cX1_answer 47 = .ok (.aload_n 0, 1) := by decide +kernel
theorem dX1_answer_48 : decode cX1_answer 48 = .ok (.getfield 22, 3) := by decide +kernel
theorem dX1_answer_51 : decode cX1_answer 51 = .ok (.iload_n 1, 1) := by decide +kernel
theorem dX1_answer_52 : decode cX1_answer 52 = .ok (.iaload, 1) := by decide +kernel
theorem dX1_answer_53 : decode cX1_answer 53 = .ok (.dup2, 1) := by decide +kernel
theorem dX1_answer_54 : decode cX1_answer 54 = .ok (.iaload, 1) := by decide +kernel
theorem dX1_answer_55 : decode cX1_answer 55 = .ok (.aload_n 0, 1) := by decide +kernel
theorem dX1_answer_56 : decode cX1_answer 56 = .ok (.getfield 28, 3) := by decide +kernel
theorem dX1_answer_59 : decode cX1_answer 59 = .ok (.iload_n 1, 1) := by decide +kernel
theorem dX1_answer_60 : decode cX1_answer 60 = .ok (.iaload, 1) := by decide +kernel
theorem dX1_answer_61 : decode cX1_answer 61 = .ok (.iadd, 1) := by decide +kernel
theorem dX1_answer_62 : decode cX1_answer 62 = .ok (.iastore, 1) := by decide +kernel
theorem dX1_answer_63 : decode cX1_answer 63 = .ok (.aload_n 0, 1) := by decide +kernel
theorem dX1_answer_64 : decode cX1_answer 64 = .ok (.aload_n 0, 1) := by decide +kernel
theorem dX1_answer_65 : decode cX1_answer 65 = .ok (.getfield 22, 3) := by decide +kernel
theorem dX1_answer_68 : decode cX1_answer 68 = .ok (.iload_n 1, 1) := by decide +kernel
theorem dX1_answer_69 : decode cX1_answer 69 = .ok (.iaload, 1) := by decide +kernel
theorem dX1_answer_70 : decode cX1_answer 70 = .ok (.invokevirtual 80, 3) := by decide +kernel
theorem dX1_answer_73 : decode cX1_answer 73 = .ok (.ireturn, 1) := by decide +kernel
theorem dX1_others_0 : decode cX1_others 0 = .ok (.iconst 0, 1) := by decide +kernel
theorem dX1_others_1 : decode cX1_others 1 = .ok (.istore_n 2, 1) := by decide +kernel
theorem dX1_others_2 : decode cX1_others 2 = .ok (.iconst 0, 1) := by decide +kernel
theorem dX1_others_3 : decode cX1_others 3 = .ok (.istore_n 3, 1) := by decide +kernel
theorem dX1_others_4 : decode cX1_others 4 = .ok (.iload_n 3, 1) := by decide +kernel
theorem dX1_others_5 : decode cX1_others 5 = .ok (.aload_n 0, 1) := by decide +kernel
theorem dX1_others_6 : decode cX1_others 6 = .ok (.getfield 58, 3) := by decide +kernel
theorem dX1_others_9 : decode cX1_others 9 = .ok (.if_icmp .ge 76, 3) := by decide +kernel
theorem dX1_others_12 : decode cX1_others 12 = .ok (.aload_n 0, 1) := by decide +kernel
theorem dX1_others_13 : decode cX1_others 13 = .ok (.getfield 22, 3) := by decide +kernel
theorem dX1_others_16 : decode cX1_others 16 = .ok (.iload_n 3, 1) := by decide +kernel
theorem dX1_others_17 : decode cX1_others 17 = .ok (.iaload, 1) := by decide +kernel
theorem dX1_others_18 : decode cX1_others 18 = .ok (.aload_n 0, 1) := by decide +kernel
theorem dX1_others_19 : decode cX1_others 19 = .ok (.getfield 22, 3) := by decide +kernel
theorem dX1_others_22 : decode cX1_others 22 = .ok (.iload_n 1, 1) := by decide +kernel
theorem dX1_others_23 : decode cX1_others 23 = .ok (.iaload, 1) := by decide +kernel
theorem dX1_others_24 : decode cX1_others 24 = .ok (.if_icmp .ne 32, 3) := by decide +kernel
theorem dX1_others_27 : decode cX1_others 27 = .ok (.aload_n 0, 1) := by decide +kernel
theorem dX1_others_28 : decode cX1_others 28 = .ok (.getfield 31, 3) := by decide +kernel
theorem dX1_others_31 : decode cX1_others 31 = .ok (.iload_n 3, 1) := by decide +kernel
theorem dX1_others_32 : decode cX1_others 32 = .ok (.iaload, 1) := by decide +kernel
theorem dX1_others_33 : decode cX1_others 33 = .ok (.iconst 2, 1) := by decide +kernel
theorem dX1_others_34 : decode cX1_others 34 = .ok (.if_icmp .ne 22, 3) := by decide +kernel
theorem dX1_others_37 : decode cX1_others 37 = .ok (.aload_n 0, 1) := by decide +kernel
theorem dX1_others_38 : decode cX1_others 38 = .ok (.getfield 25, 3) := by decide +kernel
theorem dX1_others_41 : decode cX1_others 41 = .ok (.iload_n 3, 1) := by decide +kernel
theorem dX1_others_42 : decode cX1_others 42 = .ok (.iaload, 1) := by decide +kernel
theorem dX1_others_43 : decode cX1_others 43 = .ok (.aload_n 0, 1) := by decide +kernel
theorem dX1_others_44 : decode cX1_others 44 = .ok (.getfield 25, 3) := by decide +kernel
theorem dX1_others_47 : decode cX1_others 47 = .ok (.iload_n 1, 1) := by decide +kernel
theorem dX1_others_48 : decode cX1_others 48 = .ok (.iaload, 1) := by decide +kernel
theorem dX1_others_49 : decode cX1_others 49 = .ok (.if_icmp .eq 7, 3) := by decide +kernel
theorem dX1_others_52 : decode cX1_others 52 = .ok (.iconst 1, 1) := by decide +kernel
theorem dX1_others_53 : decode cX1_others 53 = .ok (.goto 4, 3) := by decide +kernel
theorem dX1_others_56 : decode cX1_others 56 = .ok (.iconst 0, 1) := by decide +kernel
theorem dX1_others_57 : decode cX1_others 57 = .ok (.istore 4, 2) := by decide +kernel
theorem dX1_others_59 : decode cX1_others 59 = .ok (.iload_n 2, 1) := by decide +kernel
theorem dX1_others_60 : decode cX1_others 60 = .ok (.iload 4, 2) := by decide +kernel
theorem dX1_others_62 : decode cX1_others 62 = .ok (.ifCond .eq 14, 3) := by decide +kernel
theorem dX1_others_65 : decode cX1_others 65 = .ok (.iconst 1, 1) := by decide +kernel
theorem dX1_others_66 : decode cX1_others 66 = .ok (.aload_n 0, 1) := by decide +kernel
theorem dX1_others_67 : decode cX1_others 67 = .ok (.getfield 25, 3) := by decide +kernel
theorem dX1_others_70 : decode cX1_others 70 = .ok (.iload_n 3, 1) := by decide +kernel
theorem dX1_others_71 : decode cX1_others 71 = .ok (.iaload, 1) := by decide +kernel
theorem dX1_others_72 : decode cX1_others 72 = .ok (.ishl, 1) := by decide +kernel
theorem dX1_others_73 : decode cX1_others 73 = .ok (.goto 4, 3) := by decide +kernel
theorem dX1_others_76 : decode cX1_others 76 = .ok (.iconst 0, 1) := by decide +kernel
theorem dX1_others_77 : decode cX1_others 77 = .ok (.ior, 1) := by decide +kernel
theorem dX1_others_78 : decode cX1_others 78 = .ok (.istore_n 2, 1) := by decide +kernel
theorem dX1_others_79 : decode cX1_others 79 = .ok (.iinc 3 1, 3) := by decide +kernel
theorem dX1_others_82 : decode cX1_others 82 = .ok (.goto (-78), 3) := by decide +kernel
theorem dX1_others_85 : decode cX1_others 85 = .ok (.iload_n 2, 1) := by decide +kernel
theorem dX1_others_86 : decode cX1_others 86 = .ok (.ireturn, 1) := by decide +kernel
set_option maxRecDepth 20000 in
theorem ggX1_mark_X1_isLetter : GoodIn wsX1_mark wsX1_isLetter := goodIn_r _ [13, 14, 15, 16, 12, 17, 30, 31, 32, 33, 34, 35, 36, 37, 38, 39, 40, 41, 42, 43, 44, 45] (by decide +kernel) (by decide +kernel)
set_option maxRecDepth 20000 in
theorem gX1_mark_X1_isLetter : GoodIn wsX1_mark (wsV RX1 109 RX1 yX1_isLetter wsX1_isLetter) := goodIn_app (goodIn_of _ (by decide +kernel)) ggX1_mark_X1_isLetter
set_option maxRecDepth 20000 in
theorem ggX1_mark_X1_can : GoodIn wsX1_mark wsX1_can := goodIn_r _ [21, 22, 30, 31, 32, 33, 34, 35, 36, 37, 38, 39, 40, 41, 42, 43, 44, 45] (by decide +kernel) (by decide +kernel)
set_option maxRecDepth 20000 in
theorem gX1_mark_X1_can : GoodIn wsX1_mark (wsV RX1 65 RX1 yX1_can wsX1_can) := goodIn_app (goodIn_of _ (by decide +kernel)) ggX1_mark_X1_can
set_option maxRecDepth 20000 in
theorem ggX1_mark_X1_others : GoodIn wsX1_mark wsX1_others := goodIn_r _ [26, 14, 8, 1, 2, 30, 31, 32, 33, 34, 35, 36, 37, 38, 39, 40, 41, 42, 43, 44, 45] (by decide +kernel) (by decide +kernel)
set_option maxRecDepth 20000 in
theorem gX1_mark_X1_others : GoodIn wsX1_mark (wsV RX1 112 RX1 yX1_others wsX1_others) := goodIn_app (goodIn_of _ (by decide +kernel)) ggX1_mark_X1_others
set_option maxRecDepth 20000 in
theorem ggX1_mark_X1_has : GoodIn wsX1_mark wsX1_has := goodIn_r _ [29] (by decide +kernel) (by decide +kernel)
set_option maxRecDepth 20000 in
theorem gX1_mark_X1_has : GoodIn wsX1_mark (va_wsS RX1 68 yX1_has wsX1_has) := goodIn_app (goodIn_of _ (by decide +kernel)) ggX1_mark_X1_has
theorem dX1_mark_0 : decode cX1_mark 0 = .ok (.aload_n 0, 1) := by decide +kernel
theorem dX1_mark_1 : decode cX1_mark 1 = .ok (.aload_n 0, 1) := by decide +kernel
theorem dX1_mark_2 : decode cX1_mark 2 = .ok (.iload_n 1, 1) := by decide +kernel
theorem dX1_mark_3 : decode cX1_mark 3 = .ok (.invokevirtual 109, 3) := by decide +kernel
theorem dX1_mark_6 : decode cX1_mark 6 = .ok (.ifCond .ne 7, 3) := by decide +kernel
theorem dX1_mark_9 : decode cX1_mark 9 = .ok (.iconst 1, 1) := by decide +kernel
theorem dX1_mark_10 : decode cX1_mark 10 = .ok (.goto 18, 3) := by decide +kernel
theorem dX1_mark_13 : decode cX1_mark 13 = .ok (.aload_n 0, 1) := by decide +kernel
theorem dX1_mark_14 : decode cX1_mark 14 = .ok (.getfield 31, 3) := by decide +kernel
theorem dX1_mark_17 : decode cX1_mark 17 = .ok (.iload_n 1, 1) := by decide +kernel
theorem dX1_mark_18 : decode cX1_mark 18 = .ok (.iaload, 1) := by decide +kernel
theorem dX1_mark_19 : decode cX1_mark 19 = .ok (.iconst 1, 1) := by decide +kernel
theorem dX1_mark_20 : decode cX1_mark 20 = .ok (.if_icmp .ne 7, 3) := by decide +kernel
theorem dX1_mark_23 : decode cX1_mark 23 = .ok (.iconst 0, 1) := by decide +kernel
theorem dX1_mark_24 : decode cX1_mark 24 = .ok (.goto 4, 3) := by decide +kernel
theorem dX1_mark_27 : decode cX1_mark 27 = .ok (.iconst 2, 1) := by decide +kernel
theorem dX1_mark_28 : decode cX1_mark 28 = .ok (.invokevirtual 65, 3) := by decide +kernel
theorem dX1_mark_31 : decode cX1_mark 31 = .ok (.ifCond .ne 5, 3) := by decide +kernel
theorem dX1_mark_34 : decode cX1_mark 34 = .ok (.iconst 0, 1) := by decide +kernel
theorem dX1_mark_35 : decode cX1_mark 35 = .ok (.ireturn, 1) := by decide +kernel
theorem dX1_mark_36 : decode cX1_mark 36 = .ok (.aload_n 0, 1) := by decide +kernel
theorem dX1_mark_37 : decode cX1_mark 37 = .ok (.getfield 25, 3) := by decide +kernel
theorem dX1_mark_40 : decode cX1_mark 40 = .ok (.iload_n 1, 1) := by decide +kernel
theorem dX1_mark_41 : decode cX1_mark 41 = .ok (.iaload, 1) := by decide +kernel
theorem dX1_mark_42 : decode cX1_mark 42 = .ok (.istore_n 2, 1) := by decide +kernel
theorem dX1_mark_43 : decode cX1_mark 43 = .ok (.iconst 0, 1) := by decide +kernel
theorem dX1_mark_44 : decode cX1_mark 44 = .ok (.istore_n 3, 1) := by decide +kernel
theorem dX1_mark_45 : decode cX1_mark 45 = .ok (.iconst 0, 1) := by decide +kernel
theorem dX1_mark_46 : decode cX1_mark 46 = .ok (.istore 4, 2) := by decide +kernel
theorem dX1_mark_48 : decode cX1_mark 48 = .ok (.iload 4, 2) := by decide +kernel
theorem dX1_mark_50 : decode cX1_mark 50 = .ok (.bipush 8, 2) := by decide +kernel
theorem dX1_mark_52 : decode cX1_mark 52 = .ok (.if_icmp .ge 30, 3) := by decide +kernel
theorem dX1_mark_55 : decode cX1_mark 55 = .ok (.iload_n 3, 1) := by decide +kernel
theorem dX1_mark_56 : decode cX1_mark 56 = .ok (.aload_n 0, 1) := by decide +kernel
theorem dX1_mark_57 : decode cX1_mark 57 = .ok (.iload_n 1, 1) := by decide +kernel
theorem dX1_mark_58 : decode cX1_mark 58 = .ok (.invokevirtual 112, 3) := by decide +kernel
theorem dX1_mark_61 : decode cX1_mark 61 = .ok (.iload 4, 2) := by decide +kernel
theorem dX1_mark_63 : decode cX1_mark 63 = .ok (.invokestatic 68, 3) := by decide +kernel
theorem dX1_mark_66 : decode cX1_mark 66 = .ok (.ifCond .eq 7, 3) := by decide +kernel
theorem dX1_mark_69 : decode cX1_mark 69 = .ok (.iconst 1, 1) := by decide +kernel
theorem dX1_mark_70 : decode cX1_mark 70 = .ok (.goto 4, 3) := by decide +kernel
theorem dX1_mark_73 : decode cX1_mark 73 = .ok (.iconst 0, 1) := by decide +kernel
theorem dX1_mark_74 : decode cX1_mark 74 = .ok (.iadd, 1) := by decide +kernel
theorem dX1_mark_75 : decode cX1_mark 75 = .ok (.istore_n 3, 1) := by decide +kernel
theorem dX1_mark_76 : decode cX1_mark 76 = .ok (.iinc 4 1, 3) := by decide +kernel
theorem dX1_mark_79 : decode cX1_mark 79 = .ok (.goto (-31), 3) := by decide +kernel
theorem dX1_mark_82 : decode cX1_mark 82 = .ok (.aload_n 0, 1) := by decide +kernel
theorem dX1_mark_83 : decode cX1_mark 83 = .ok (.getfield 31, 3) := by decide +kernel
theorem dX1_mark_86 : decode cX1_mark 86 = .ok (.iload_n 1, 1) := by decide +kernel
theorem dX1_mark_87 : decode cX1_mark 87 = .ok (.iconst 3, 1) := by decide +kernel
theorem dX1_mark_88 : decode cX1_mark 88 = .ok (.iastore, 1) := by decide +kernel
theorem dX1_mark_89 : decode cX1_mark 89 = .ok (.aload_n 0, 1) := by decide +kernel
theorem dX1_mark_90 : decode cX1_mark 90 = .ok (.getfield 43, 3) := by decide +kernel
theorem dX1_mark_93 : decode cX1_mark 93 = .ok (.iload_n 1, 1) := by decide +kernel
theorem dX1_mark_94 : decode cX1_mark 94 = .ok (.iload_n 3, 1) := by decide +kernel
theorem dX1_mark_95 : decode cX1_mark 95 = .ok (.iconst 3, 1) := by decide +kernel
theorem dX1_mark_96 : decode cX1_mark 96 = .ok (.if_icmp .lt 7, 3) := by decide +kernel
theorem dX1_mark_99 : decode cX1_mark 99 = .ok (.iconst 1, 1) := by decide +kernel
theorem dX1_mark_100 : decode cX1_mark 100 = .ok (.goto 4, 3) := by decide +kernel
theorem dX1_mark_103 : decode cX1_mark 103 = .ok (.iconst 0, 1) := by decide +kernel
theorem dX1_mark_104 : decode cX1_mark 104 = .ok (.bastore, 1) := by decide +kernel
theorem dX1_mark_105 : decode cX1_mark 105 = .ok (.aload_n 0, 1) := by decide +kernel
theorem dX1_mark_106 : decode cX1_mark 106 = .ok (.getfield 16, 3) := by decide +kernel
theorem dX1_mark_109 : decode cX1_mark 109 = .ok (.iload_n 2, 1) := by decide +kernel
theorem dX1_mark_110 : decode cX1_mark 110 = .ok (.iconst 4, 1) := by decide +kernel
theorem dX1_mark_111 : decode cX1_mark 111 = .ok (.irem, 1) := by decide +kernel
theorem dX1_mark_112 : decode cX1_mark 112 = .ok (.dup2, 1) := by decide +kernel
theorem dX1_mark_113 : decode cX1_mark 113 = .ok (.iaload, 1) := by decide +kernel
theorem dX1_mark_114 : decode cX1_mark 114 = .ok (.aload_n 0, 1) := by decide +kernel
theorem dX1_mark_115 : decode cX1_mark 115 = .ok (.getfield 28, 3) := by decide +kernel
theorem dX1_mark_118 : decode cX1_mark 118 = .ok (.iload_n 1, 1) := by decide +kernel
theorem dX1_mark_119 : decode cX1_mark 119 = .ok (.iaload, 1) := by decide +kernel
theorem dX1_mark_120 : decode cX1_mark 120 = .ok (.iadd, 1) := by decide +kernel
theorem dX1_mark_121 : decode cX1_mark 121 = .ok (.iastore, 1) := by decide +kernel
theorem dX1_mark_122 : decode cX1_mark 122 = .ok (.iload_n 3, 1) := by decide +kernel
theorem dX1_mark_123 : decode cX1_mark 123 = .ok (.iconst 3, 1) := by decide +kernel
theorem dX1_mark_124 : decode cX1_mark 124 = .ok (.if_icmp .ge 7, 3) := by decide +kernel
theorem dX1_mark_127 : decode cX1_mark 127 = .ok (.iconst 0, 1) := by decide +kernel
theorem dX1_mark_128 : decode cX1_mark 128 = .ok (.goto 33, 3) := by decide +kernel
theorem dX1_mark_131 : decode cX1_mark 131 = .ok (.aload_n 0, 1) := by decide +kernel
theorem dX1_mark_132 : decode cX1_mark 132 = .ok (.getfield 13, 3) := by decide +kernel
theorem dX1_mark_135 : decode cX1_mark 135 = .ok (.iload_n 2, 1) := by decide +kernel
theorem dX1_mark_136 : decode cX1_mark 136 = .ok (.iaload, 1) := by decide +kernel
theorem dX1_mark_137 : decode cX1_mark 137 = .ok (.aload_n 0, 1) := by decide +kernel
theorem dX1_mark_138 : decode cX1_mark 138 = .ok (.getfield 28, 3) := by decide +kernel
theorem dX1_mark_141 : decode cX1_mark 141 = .ok (.iload_n 1, 1) := by decide +kernel
theorem dX1_mark_142 : decode cX1_mark 142 = .ok (.iaload, 1) := by decide +kernel
theorem dX1_mark_143 : decode cX1_mark 143 = .ok (.if_icmp .ge 12, 3) := by decide +kernel
theorem dX1_mark_146 : decode cX1_mark 146 = .ok (.aload_n 0, 1) := by decide +kernel
theorem dX1_mark_147 : decode cX1_mark 147 = .ok (.getfield 13, 3) := by decide +kernel
theorem dX1_mark_150 : decode cX1_mark 150 = .ok (.iload_n 2, 1) := by decide +kernel
theorem dX1_mark_151 : decode cX1_mark 151 = .ok (.iaload, 1) := by decide +kernel
theorem dX1_mark_152 : decode cX1_mark 152 = .ok (.goto 9, 3) := by decide +kernel
theorem dX1_mark_155 : decode cX1_mark 155 = .ok (.aload_n 0, 1) := by decide +kernel
theorem dX1_mark_156 : decode cX1_mark 156 = .ok (.getfield 28, 3) := by decide +kernel
theorem dX1_mark_159 : decode cX1_mark 159 = .ok (.iload_n 1, 1) := by decide +kernel
theorem dX1_mark_160 : decode cX1_mark 160 = .ok (.iaload, 1) := by decide +kernel
theorem dX1_mark_161 : decode cX1_mark 161 = .ok (.istore 4, 2) := by decide +kernel
theorem dX1_mark_163 : decode cX1_mark 163 = .ok (.aload_n 0, 1) := by decide +kernel
theorem dX1_mark_164 : decode cX1_mark 164 = .ok (.getfield 19, 3) := by decide +kernel
theorem dX1_mark_167 : decode cX1_mark 167 = .ok (.iload_n 2, 1) := by decide +kernel
theorem dX1_mark_168 : decode cX1_mark 168 = .ok (.dup2, 1) := by decide +kernel
theorem dX1_mark_169 : decode cX1_mark 169 = .ok (.iaload, 1) := by decide +kernel
theorem dX1_mark_170 : decode cX1_mark 170 = .ok (.iload_n 3, 1) := by decide +kernel
theorem dX1_mark_171 : decode cX1_mark 171 = .ok (.iconst 3, 1) := by decide +kernel
theorem dX1_mark_172 : decode cX1_mark 172 = .ok (.if_icmp .ge 7, 3) := by decide +kernel
theorem dX1_mark_175 : decode cX1_mark 175 = .ok (.iconst 0, 1) := by decide +kernel
theorem dX1_mark_176 : decode cX1_mark 176 = .ok (.goto 4, 3) := by decide +kernel
theorem dX1_mark_179 : decode cX1_mark 179 = .ok (.iconst 1, 1) := by decide +kernel
theorem dX1_mark_180 : decode cX1_mark 180 = .ok (.iadd, 1) := by decide +kernel
theorem dX1_mark_181 : decode cX1_mark 181 = .ok (.iastore, 1) := by decide +kernel
theorem dX1_mark_182 : decode cX1_mark 182 = .ok (.aload_n 0, 1) := by decide +kernel
theorem dX1_mark_183 : decode cX1_mark 183 = .ok (.getfield 13, 3) := by decide +kernel
theorem dX1_mark_186 : decode cX1_mark 186 = .ok (.iload_n 2, 1) := by decide +kernel
theorem dX1_mark_187 : decode cX1_mark 187 = .ok (.dup2, 1) := by decide +kernel
theorem dX1_mark_188 : decode cX1_mark 188 = .ok (.iaload, 1) := by decide +kernel
theorem dX1_mark_189 : decode cX1_mark 189 = .ok (.iload 4, 2) := by decide +kernel
theorem dX1_mark_191 : decode cX1_mark 191 = .ok (.isub, 1) := by decide +kernel
theorem dX1_mark_192 : decode cX1_mark 192 = .ok (.iastore, 1) := by decide +kernel
theorem dX1_mark_193 : decode cX1_mark 193 = .ok (.aload_n 0, 1) := by decide +kernel
theorem dX1_mark_194 : decode cX1_mark 194 = .ok (.getfield 13, 3) := by decide +kernel
theorem dX1_mark_197 : decode cX1_mark 197 = .ok (.aload_n 0, 1) := by decide +kernel
theorem dX1_mark_198 : decode cX1_mark 198 = .ok (.getfield 22, 3) := by decide +kernel
theorem dX1_mark_201 : decode cX1_mark 201 = .ok (.iload_n 1, 1) := by decide +kernel
theorem dX1_mark_202 : decode cX1_mark 202 = .ok (.iaload, 1) := by decide +kernel
theorem dX1_mark_203 : decode cX1_mark 203 = .ok (.dup2, 1) := by decide +kernel
theorem dX1_mark_204 : decode cX1_mark 204 = .ok (.iaload, 1) := by decide +kernel
theorem dX1_mark_205 : decode cX1_mark 205 = .ok (.iload 4, 2) := by decide +kernel
theorem dX1_mark_207 : decode cX1_mark 207 = .ok (.iadd, 1) := by decide +kernel
theorem dX1_mark_208 : decode cX1_mark 208 = .ok (.iastore, 1) := by decide +kernel
theorem dX1_mark_209 : decode cX1_mark 209 = .ok (.iload 4, 2) := by decide +kernel
theorem dX1_mark_211 : decode cX1_mark 211 = .ok (.ireturn, 1) := by decide +kernel
theorem dX1_letters_0 : decode cX1_letters 0 = .ok (.aload_n 0, 1) := by decide +kernel
theorem dX1_letters_1 : decode cX1_letters 1 = .ok (.iconst 0, 1) := by decide +kernel
theorem dX1_letters_2 : decode cX1_letters 2 = .ok (.putfield 50, 3) := by decide +kernel
theorem dX1_letters_5 : decode cX1_letters 5 = .ok (.aload_n 0, 1) := by decide +kernel
theorem dX1_letters_6 : decode cX1_letters 6 = .ok (.getfield 58, 3) := by decide +kernel
theorem dX1_letters_9 : decode cX1_letters 9 = .ok (.ireturn, 1) := by decide +kernel
theorem dX1_time_0 : decode cX1_time 0 = .ok (.aload_n 0, 1) := by decide +kernel
theorem dX1_time_1 : decode cX1_time 1 = .ok (.iconst 0, 1) := by decide +kernel
theorem dX1_time_2 : decode cX1_time 2 = .ok (.putfield 50, 3) := by decide +kernel
theorem dX1_time_5 : decode cX1_time 5 = .ok (.aload_n 0, 1) := by decide +kernel
theorem dX1_time_6 : decode cX1_time 6 = .ok (.getfield 95, 3) := by decide +kernel
theorem dX1_time_9 : decode cX1_time 9 = .ok (.ireturn, 1) := by decide +kernel
set_option maxRecDepth 20000 in
theorem ggX1_isAsked_X1_isLetter : GoodIn wsX1_isAsked wsX1_isLetter := goodIn_r _ [5, 6, 7, 8, 4, 9, 15, 16, 17, 18, 19, 20, 21, 22, 23, 24, 25, 26, 27, 28, 29, 30] (by decide +kernel) (by decide +kernel)
set_option maxRecDepth 20000 in
theorem gX1_isAsked_X1_isLetter : GoodIn wsX1_isAsked (wsV RX1 109 RX1 yX1_isLetter wsX1_isLetter) := goodIn_app (goodIn_of _ (by decide +kernel)) ggX1_isAsked_X1_isLetter
set_option maxRecDepth 20000 in
theorem ggX1_isAsked_X1_can : GoodIn wsX1_isAsked wsX1_can := goodIn_r _ [13, 14, 15, 16, 17, 18, 19, 20, 21, 22, 23, 24, 25, 26, 27, 28, 29, 30] (by decide +kernel) (by decide +kernel)
set_option maxRecDepth 20000 in
theorem gX1_isAsked_X1_can : GoodIn wsX1_isAsked (wsV RX1 65 RX1 yX1_can wsX1_can) := goodIn_app (goodIn_of _ (by decide +kernel)) ggX1_isAsked_X1_can
theorem dX1_isAsked_0 : decode cX1_isAsked 0 = .ok (.aload_n 0, 1) := by decide +kernel
theorem dX1_isAsked_1 : decode cX1_isAsked 1 = .ok (.aload_n 0, 1) := by decide +kernel
theorem dX1_isAsked_2 : decode cX1_isAsked 2 = .ok (.iload_n 1, 1) := by decide +kernel
theorem dX1_isAsked_3 : decode cX1_isAsked 3 = .ok (.invokevirtual 109, 3) := by decide +kernel
theorem dX1_isAsked_6 : decode cX1_isAsked 6 = .ok (.ifCond .eq 7, 3) := by decide +kernel
theorem dX1_isAsked_9 : decode cX1_isAsked 9 = .ok (.iconst 0, 1) := by decide +kernel
theorem dX1_isAsked_10 : decode cX1_isAsked 10 = .ok (.goto 4, 3) := by decide +kernel
theorem dX1_isAsked_13 : decode cX1_isAsked 13 = .ok (.iconst 1, 1) := by decide +kernel
theorem dX1_isAsked_14 : decode cX1_isAsked 14 = .ok (.invokevirtual 65, 3) := by decide +kernel
theorem dX1_isAsked_17 : decode cX1_isAsked 17 = .ok (.ireturn, 1) := by decide +kernel
set_option maxRecDepth 20000 in
theorem ggX1_stateOf_X1_isAsked : GoodIn wsX1_stateOf wsX1_isAsked := goodIn_r _ [6, 7, 8, 9, 5, 10, 11, 12, 13, 14, 15, 16, 17, 18, 19, 20, 21, 22, 23, 24, 25, 26, 27, 28, 29, 30, 31, 32, 33, 34, 35] (by decide +kernel) (by decide +kernel)
set_option maxRecDepth 20000 in
theorem gX1_stateOf_X1_isAsked : GoodIn wsX1_stateOf (wsV RX1 115 RX1 yX1_isAsked wsX1_isAsked) := goodIn_app (goodIn_of _ (by decide +kernel)) ggX1_stateOf_X1_isAsked
theorem dX1_stateOf_0 : decode cX1_stateOf 0 = .ok (.aload_n 0, 1) := by decide +kernel
theorem dX1_stateOf_1 : decode cX1_stateOf 1 = .ok (.iload_n 1, 1) := by decide +kernel
theorem dX1_stateOf_2 : decode cX1_stateOf 2 = .ok (.invokevirtual 115, 3) := by decide +kernel
theorem dX1_stateOf_5 : decode cX1_stateOf 5 = .ok (.ifCond .eq 12, 3) := by decide +kernel
theorem dX1_stateOf_8 : decode cX1_stateOf 8 = .ok (.aload_n 0, 1) := by decide +kernel
theorem dX1_stateOf_9 : decode cX1_stateOf 9 = .ok (.getfield 31, 3) := by decide +kernel
theorem dX1_stateOf_12 : decode cX1_stateOf 12 = .ok (.iload_n 1, 1) := by decide +kernel
theorem dX1_stateOf_13 : decode cX1_stateOf 13 = .ok (.iaload, 1) := by decide +kernel
theorem dX1_stateOf_14 : decode cX1_stateOf 14 = .ok (.goto 4, 3) := by decide +kernel
theorem dX1_stateOf_17 : decode cX1_stateOf 17 = .ok (.iconst 0, 1) := by decide +kernel
theorem dX1_stateOf_18 : decode cX1_stateOf 18 = .ok (.ireturn, 1) := by decide +kernel
set_option maxRecDepth 20000 in
theorem ggX1_relayOf_X1_isAsked : GoodIn wsX1_relayOf wsX1_isAsked := goodIn_r _ [7, 8, 9, 10, 6, 11, 12, 13, 14, 15, 16, 17, 18, 19, 20, 21, 22, 23, 24, 25, 26, 27, 28, 29, 30, 31, 32, 33, 34, 35, 36] (by decide +kernel) (by decide +kernel)
set_option maxRecDepth 20000 in
theorem gX1_relayOf_X1_isAsked : GoodIn wsX1_relayOf (wsV RX1 115 RX1 yX1_isAsked wsX1_isAsked) := goodIn_app (goodIn_of _ (by decide +kernel)) ggX1_relayOf_X1_isAsked
theorem dX1_relayOf_0 : decode cX1_relayOf 0 = .ok (.aload_n 0, 1) := by decide +kernel
theorem dX1_relayOf_1 : decode cX1_relayOf 1 = .ok (.iload_n 1, 1) := by decide +kernel
theorem dX1_relayOf_2 : decode cX1_relayOf 2 = .ok (.invokevirtual 115, 3) := by decide +kernel
theorem dX1_relayOf_5 : decode cX1_relayOf 5 = .ok (.ifCond .eq 25, 3) := by decide +kernel
theorem dX1_relayOf_8 : decode cX1_relayOf 8 = .ok (.aload_n 0, 1) := by decide +kernel
theorem dX1_relayOf_9 : decode cX1_relayOf 9 = .ok (.getfield 31, 3) := by decide +kernel
theorem dX1_relayOf_12 : decode cX1_relayOf 12 = .ok (.iload_n 1, 1) := by decide +kernel
theorem dX1_relayOf_13 : decode cX1_relayOf 13 = .ok (.iaload, 1) := by decide +kernel
theorem dX1_relayOf_14 : decode cX1_relayOf 14 = .ok (.ifCond .ne 12, 3) := by decide +kernel
theorem dX1_relayOf_17 : decode cX1_relayOf 17 = .ok (.aload_n 0, 1) := by decide +kernel
theorem dX1_relayOf_18 : decode cX1_relayOf 18 = .ok (.getfield 34, 3) := by decide +kernel
theorem dX1_relayOf_21 : decode cX1_relayOf 21 = .ok (.iload_n 1, 1) := by decide +kernel
theorem dX1_relayOf_22 : decode cX1_relayOf 22 = .ok (.iaload, 1) := by decide +kernel
theorem dX1_relayOf_23 : decode cX1_relayOf 23 = .ok (.goto 8, 3) := by decide +kernel
theorem dX1_relayOf_26 : decode cX1_relayOf 26 = .ok (.iconst (-1), 1) := by decide +kernel
theorem dX1_relayOf_27 : decode cX1_relayOf 27 = .ok (.goto 4, 3) := by decide +kernel
theorem dX1_relayOf_30 : decode cX1_relayOf 30 = .ok (.iconst 0, 1) := by decide +kernel
theorem dX1_relayOf_31 : decode cX1_relayOf 31 = .ok (.ireturn, 1) := by decide +kernel
set_option maxRecDepth 20000 in
theorem ggX1_marksOn_X1_isAsked : GoodIn wsX1_marksOn wsX1_isAsked := goodIn_r _ [6, 7, 8, 9, 5, 10, 11, 12, 13, 14, 15, 16, 17, 18, 19, 20, 21, 22, 23, 24, 25, 26, 27, 28, 29, 30, 31, 32, 33, 34, 35] (by decide +kernel) (by decide +kernel)
set_option maxRecDepth 20000 in
theorem gX1_marksOn_X1_isAsked : GoodIn wsX1_marksOn (wsV RX1 115 RX1 yX1_isAsked wsX1_isAsked) := goodIn_app (goodIn_of _ (by decide +kernel)) ggX1_marksOn_X1_isAsked
theorem dX1_marksOn_0 : decode cX1_marksOn 0 = .ok (.aload_n 0, 1) := by decide +kernel
theorem dX1_marksOn_1 : decode cX1_marksOn 1 = .ok (.iload_n 1, 1) := by decide +kernel
theorem dX1_marksOn_2 : decode cX1_marksOn 2 = .ok (.invokevirtual 115, 3) := by decide +kernel
theorem dX1_marksOn_5 : decode cX1_marksOn 5 = .ok (.ifCond .eq 12, 3) := by decide +kernel
theorem dX1_marksOn_8 : decode cX1_marksOn 8 = .ok (.aload_n 0, 1) := by decide +kernel
theorem dX1_marksOn_9 : decode cX1_marksOn 9 = .ok (.getfield 37, 3) := by decide +kernel
theorem dX1_marksOn_12 : decode cX1_marksOn 12 = .ok (.iload_n 1, 1) := by decide +kernel
theorem dX1_marksOn_13 : decode cX1_marksOn 13 = .ok (.iaload, 1) := by decide +kernel
theorem dX1_marksOn_14 : decode cX1_marksOn 14 = .ok (.goto 4, 3) := by decide +kernel
theorem dX1_marksOn_17 : decode cX1_marksOn 17 = .ok (.iconst 0, 1) := by decide +kernel
theorem dX1_marksOn_18 : decode cX1_marksOn 18 = .ok (.ireturn, 1) := by decide +kernel
set_option maxRecDepth 20000 in
theorem ggX1_lengthOf_X1_liesAt : GoodIn wsX1_lengthOf wsX1_liesAt := goodIn_r _ [6, 7, 8, 9, 10, 11, 12, 13, 14, 15, 16, 17, 18, 19, 20, 21, 22, 23, 24] (by decide +kernel) (by decide +kernel)
set_option maxRecDepth 20000 in
theorem gX1_lengthOf_X1_liesAt : GoodIn wsX1_lengthOf (wsV RX1 89 RX1 yX1_liesAt wsX1_liesAt) := goodIn_app (goodIn_of _ (by decide +kernel)) ggX1_lengthOf_X1_liesAt
theorem dX1_lengthOf_0 : decode cX1_lengthOf 0 = .ok (.iconst 0, 1) := by decide +kernel
theorem dX1_lengthOf_1 : decode cX1_lengthOf 1 = .ok (.istore_n 2, 1) := by decide +kernel
theorem dX1_lengthOf_2 : decode cX1_lengthOf 2 = .ok (.iconst 0, 1) := by decide +kernel
theorem dX1_lengthOf_3 : decode cX1_lengthOf 3 = .ok (.istore_n 3, 1) := by decide +kernel
theorem dX1_lengthOf_4 : decode cX1_lengthOf 4 = .ok (.iload_n 3, 1) := by decide +kernel
theorem dX1_lengthOf_5 : decode cX1_lengthOf 5 = .ok (.aload_n 0, 1) := by decide +kernel
theorem dX1_lengthOf_6 : decode cX1_lengthOf 6 = .ok (.getfield 58, 3) := by decide +kernel
theorem dX1_lengthOf_9 : decode cX1_lengthOf 9 = .ok (.if_icmp .ge 26, 3) := by decide +kernel
theorem dX1_lengthOf_12 : decode cX1_lengthOf 12 = .ok (.iload_n 2, 1) := by decide +kernel
theorem dX1_lengthOf_13 : decode cX1_lengthOf 13 = .ok (.aload_n 0, 1) := by decide +kernel
theorem dX1_lengthOf_14 : decode cX1_lengthOf 14 = .ok (.iload_n 3, 1) := by decide +kernel
theorem dX1_lengthOf_15 : decode cX1_lengthOf 15 = .ok (.iload_n 1, 1) := by decide +kernel
theorem dX1_lengthOf_16 : decode cX1_lengthOf 16 = .ok (.invokevirtual 89, 3) := by decide +kernel
theorem dX1_lengthOf_19 : decode cX1_lengthOf 19 = .ok (.ifCond .eq 7, 3) := by decide +kernel
theorem dX1_lengthOf_22 : decode cX1_lengthOf 22 = .ok (.iconst 1, 1) := by decide +kernel
theorem dX1_lengthOf_23 : decode cX1_lengthOf 23 = .ok (.goto 4, 3) := by decide +kernel
theorem dX1_lengthOf_26 : decode cX1_lengthOf 26 = .ok (.iconst 0, 1) := by decide +kernel
theorem dX1_lengthOf_27 : decode cX1_lengthOf 27 = .ok (.iadd, 1) := by decide +kernel
theorem dX1_lengthOf_28 : decode cX1_lengthOf 28 = .ok (.istore_n 2, 1) := by decide +kernel
theorem dX1_lengthOf_29 : decode cX1_lengthOf 29 = .ok (.iinc 3 1, 3) := by decide +kernel
theorem dX1_lengthOf_32 : decode cX1_lengthOf 32 = .ok (.goto (-28), 3) := by decide +kernel
theorem dX1_lengthOf_35 : decode cX1_lengthOf 35 = .ok (.iload_n 2, 1) := by decide +kernel
theorem dX1_lengthOf_36 : decode cX1_lengthOf 36 = .ok (.ireturn, 1) := by decide +kernel
set_option maxRecDepth 20000 in
theorem ggX1_queue_X1_isRelay : GoodIn wsX1_queue wsX1_isRelay := goodIn_r _ [4, 5, 6, 3, 7] (by decide +kernel) (by decide +kernel)
set_option maxRecDepth 20000 in
theorem gX1_queue_X1_isRelay : GoodIn wsX1_queue (va_wsS RX1 61 yX1_isRelay wsX1_isRelay) := goodIn_app (goodIn_of _ (by decide +kernel)) ggX1_queue_X1_isRelay
set_option maxRecDepth 20000 in
theorem ggX1_queue_X1_can : GoodIn wsX1_queue wsX1_can := goodIn_r _ [11, 12, 24, 25, 26, 27, 28, 29, 30, 31, 32, 33, 34, 35, 36, 37, 38, 39] (by decide +kernel) (by decide +kernel)
set_option maxRecDepth 20000 in
theorem gX1_queue_X1_can : GoodIn wsX1_queue (wsV RX1 65 RX1 yX1_can wsX1_can) := goodIn_app (goodIn_of _ (by decide +kernel)) ggX1_queue_X1_can
set_option maxRecDepth 20000 in
theorem ggX1_queue_X1_lengthOf : GoodIn wsX1_queue wsX1_lengthOf := goodIn_r _ [16, 17, 18, 19, 20, 3, 21, 22, 23, 24, 25, 26, 27, 28, 29, 30, 31, 32, 33, 34, 35, 36, 37, 38, 39] (by decide +kernel) (by decide +kernel)
set_option maxRecDepth 20000 in
theorem gX1_queue_X1_lengthOf : GoodIn wsX1_queue (wsV RX1 118 RX1 yX1_lengthOf wsX1_lengthOf) := goodIn_app (goodIn_of _ (by decide +kernel)) ggX1_queue_X1_lengthOf
theorem dX1_queue_0 : decode cX1_queue 0 = .ok (.aload_n 0, 1) := by decide +kernel
theorem dX1_queue_1 : decode cX1_queue 1 = .ok (.iload_n 1, 1) := by decide +kernel
theorem dX1_queue_2 : decode cX1_queue 2 = .ok (.invokestatic 61, 3) := by decide +kernel
theorem dX1_queue_5 : decode cX1_queue 5 = .ok (.ifCond .eq 7, 3) := by decide +kernel
theorem dX1_queue_8 : decode cX1_queue 8 = .ok (.iconst 0, 1) := by decide +kernel
theorem dX1_queue_9 : decode cX1_queue 9 = .ok (.goto 4, 3) := by decide +kernel
theorem dX1_queue_12 : decode cX1_queue 12 = .ok (.iconst 1, 1) := by decide +kernel
theorem dX1_queue_13 : decode cX1_queue 13 = .ok (.invokevirtual 65, 3) := by decide +kernel
theorem dX1_queue_16 : decode cX1_queue 16 = .ok (.ifCond .eq 11, 3) := by decide +kernel
theorem dX1_queue_19 : decode cX1_queue 19 = .ok (.aload_n 0, 1) := by decide +kernel
theorem dX1_queue_20 : decode cX1_queue 20 = .ok (.iload_n 1, 1) := by decide +kernel
theorem dX1_queue_21 : decode cX1_queue 21 = .ok (.invokevirtual 118, 3) := by decide +kernel
theorem dX1_queue_24 : decode cX1_queue 24 = .ok (.goto 4, 3) := by decide +kernel
theorem dX1_queue_27 : decode cX1_queue 27 = .ok (.iconst 0, 1) := by decide +kernel
theorem dX1_queue_28 : decode cX1_queue 28 = .ok (.ireturn, 1) := by decide +kernel
set_option maxRecDepth 20000 in
theorem ggX1_queueAt_X1_isRelay : GoodIn wsX1_queueAt wsX1_isRelay := goodIn_r _ [5, 6, 7, 4, 8] (by decide +kernel) (by decide +kernel)
set_option maxRecDepth 20000 in
theorem gX1_queueAt_X1_isRelay : GoodIn wsX1_queueAt (va_wsS RX1 61 yX1_isRelay wsX1_isRelay) := goodIn_app (goodIn_of _ (by decide +kernel)) ggX1_queueAt_X1_isRelay
set_option maxRecDepth 20000 in
theorem ggX1_queueAt_X1_lengthOf : GoodIn wsX1_queueAt wsX1_lengthOf := goodIn_r _ [12, 1, 13, 14, 15, 4, 16, 17, 18, 45, 46, 47, 48, 49, 50, 51, 52, 53, 54, 55, 56, 57, 58, 59, 60] (by decide +kernel) (by decide +kernel)
set_option maxRecDepth 20000 in
theorem gX1_queueAt_X1_lengthOf : GoodIn wsX1_queueAt (wsV RX1 118 RX1 yX1_lengthOf wsX1_lengthOf) := goodIn_app (goodIn_of _ (by decide +kernel)) ggX1_queueAt_X1_lengthOf
set_option maxRecDepth 20000 in
theorem ggX1_queueAt_X1_isIn : GoodIn wsX1_queueAt wsX1_isIn := goodIn_r _ [8] (by decide +kernel) (by decide +kernel)
set_option maxRecDepth 20000 in
theorem gX1_queueAt_X1_isIn : GoodIn wsX1_queueAt (va_wsS RX1 54 yX1_isIn wsX1_isIn) := goodIn_app (goodIn_of _ (by decide +kernel)) ggX1_queueAt_X1_isIn
set_option maxRecDepth 20000 in
theorem ggX1_queueAt_X1_can : GoodIn wsX1_queueAt wsX1_can := goodIn_r _ [22, 23, 45, 46, 47, 48, 49, 50, 51, 52, 53, 54, 55, 56, 57, 58, 59, 60] (by decide +kernel) (by decide +kernel)
set_option maxRecDepth 20000 in
theorem gX1_queueAt_X1_can : GoodIn wsX1_queueAt (wsV RX1 65 RX1 yX1_can wsX1_can) := goodIn_app (goodIn_of _ (by decide +kernel)) ggX1_queueAt_X1_can
set_option maxRecDepth 20000 in
theorem ggX1_queueAt_X1_liesAt : GoodIn wsX1_queueAt wsX1_liesAt := goodIn_r _ [16, 17, 18, 45, 46, 47, 48, 49, 50, 51, 52, 53, 54, 55, 56, 57, 58, 59, 60] (by decide +kernel) (by decide +kernel)
set_option maxRecDepth 20000 in
theorem gX1_queueAt_X1_liesAt : GoodIn wsX1_queueAt (wsV RX1 89 RX1 yX1_liesAt wsX1_liesAt) := goodIn_app (goodIn_of _ (by decide +kernel)) ggX1_queueAt_X1_liesAt
set_option maxRecDepth 20000 in
theorem ggX1_queueAt_X1_placeOf : GoodIn wsX1_queueAt wsX1_placeOf := goodIn_r _ [27, 1, 18, 13, 14, 15, 4, 16, 17, 28, 29, 30, 31, 32, 33, 34, 35, 36, 37, 38, 39, 40, 41, 42, 43, 44, 45, 46, 47, 48, 49, 50, 51, 52, 53, 54, 55, 56, 57, 58, 59, 60] (by decide +kernel) (by decide +kernel)
set_option maxRecDepth 20000 in
theorem gX1_queueAt_X1_placeOf : GoodIn wsX1_queueAt (wsV RX1 98 RX1 yX1_placeOf wsX1_placeOf) := goodIn_app (goodIn_of _ (by decide +kernel)) ggX1_queueAt_X1_placeOf
theorem dX1_queueAt_0 : decode cX1_queueAt 0 = .ok (.aload_n 0, 1) := by decide +kernel
theorem dX1_queueAt_1 : decode cX1_queueAt 1 = .ok (.iload_n 1, 1) := by decide +kernel
theorem dX1_queueAt_2 : decode cX1_queueAt 2 = .ok (.invokestatic 61, 3) := by decide +kernel
theorem dX1_queueAt_5 : decode cX1_queueAt 5 = .ok (.ifCond .eq 22, 3) := by decide +kernel
theorem dX1_queueAt_8 : decode cX1_queueAt 8 = .ok (.iload_n 2, 1) := by decide +kernel
theorem dX1_queueAt_9 : decode cX1_queueAt 9 = .ok (.iconst 0, 1) := by decide +kernel
theorem dX1_queueAt_10 : decode cX1_queueAt 10 = .ok (.aload_n 0, 1) := by decide +kernel
theorem dX1_queueAt_11 : decode cX1_queueAt 11 = .ok (.iload_n 1, 1) := by decide +kernel
theorem dX1_queueAt_12 : decode cX1_queueAt 12 = .ok (.invokevirtual 118, 3) := by decide +kernel
theorem dX1_queueAt_15 : decode cX1_queueAt 15 = .ok (.iconst 1, 1) := by decide +kernel
theorem dX1_queueAt_16 : decode cX1_queueAt 16 = .ok (.isub, 1) := by decide +kernel
theorem dX1_queueAt_17 : decode cX1_queueAt 17 = .ok (.invokestatic 54, 3) := by decide +kernel
theorem dX1_queueAt_20 : decode cX1_queueAt 20 = .ok (.ifCond .eq 7, 3) := by decide +kernel
theorem dX1_queueAt_23 : decode cX1_queueAt 23 = .ok (.iconst 0, 1) := by decide +kernel
theorem dX1_queueAt_24 : decode cX1_queueAt 24 = .ok (.goto 4, 3) := by decide +kernel
theorem dX1_queueAt_27 : decode cX1_queueAt 27 = .ok (.iconst 1, 1) := by decide +kernel
theorem dX1_queueAt_28 : decode cX1_queueAt 28 = .ok (.invokevirtual 65, 3) := by decide +kernel
theorem dX1_queueAt_31 : decode cX1_queueAt 31 = .ok (.ifCond .ne 5, 3) := by decide +kernel
theorem dX1_queueAt_34 : decode cX1_queueAt 34 = .ok (.iconst 0, 1) := by decide +kernel
theorem dX1_queueAt_35 : decode cX1_queueAt 35 = .ok (.ireturn, 1) := by decide +kernel
theorem dX1_queueAt_36 : decode cX1_queueAt 36 = .ok (.iconst (-1), 1) := by decide +kernel
theorem dX1_queueAt_37 : decode cX1_queueAt 37 = .ok (.istore_n 3, 1) := by decide +kernel
theorem dX1_queueAt_38 : decode cX1_queueAt 38 = .ok (.iconst 0, 1) := by decide +kernel
theorem dX1_queueAt_39 : decode cX1_queueAt 39 = .ok (.istore 4, 2) := by decide +kernel
theorem dX1_queueAt_41 : decode cX1_queueAt 41 = .ok (.iload 4, 2) := by decide +kernel
theorem dX1_queueAt_43 : decode cX1_queueAt 43 = .ok (.aload_n 0, 1) := by decide +kernel
theorem dX1_queueAt_44 : decode cX1_queueAt 44 = .ok (.getfield 58, 3) := by decide +kernel
theorem dX1_queueAt_47 : decode cX1_queueAt 47 = .ok (.if_icmp .ge 36, 3) := by decide +kernel
theorem dX1_queueAt_50 : decode cX1_queueAt 50 = .ok (.aload_n 0, 1) := by decide +kernel
theorem dX1_queueAt_51 : decode cX1_queueAt 51 = .ok (.iload 4, 2) := by decide +kernel
theorem dX1_queueAt_53 : decode cX1_queueAt 53 = .ok (.iload_n 1, 1) := by decide +kernel
theorem dX1_queueAt_54 : decode cX1_queueAt 54 = .ok (.invokevirtual 89, 3) := by decide +kernel
theorem dX1_queueAt_57 : decode cX1_queueAt 57 = .ok (.ifCond .eq 18, 3) := by decide +kernel
theorem dX1_queueAt_60 : decode cX1_queueAt 60 = .ok (.aload_n 0, 1) := by decide +kernel
theorem dX1_queueAt_61 : decode cX1_queueAt 61 = .ok (.iload 4, 2) := by decide +kernel
theorem dX1_queueAt_63 : decode cX1_queueAt 63 = .ok (.invokevirtual 98, 3) := by decide +kernel
theorem dX1_queueAt_66 : decode cX1_queueAt 66 = .ok (.iload_n 2, 1) := by decide +kernel
theorem dX1_queueAt_67 : decode cX1_queueAt 67 = .ok (.if_icmp .ne 8, 3) := by decide +kernel
theorem dX1_queueAt_70 : decode cX1_queueAt 70 = .ok (.iload 4, 2) := by decide +kernel
theorem dX1_queueAt_72 : decode cX1_queueAt 72 = .ok (.goto 4, 3) := by decide +kernel
theorem dX1_queueAt_75 : decode cX1_queueAt 75 = .ok (.iload_n 3, 1) := by decide +kernel
theorem dX1_queueAt_76 : decode cX1_queueAt 76 = .ok (.istore_n 3, 1) := by decide +kernel
theorem dX1_queueAt_77 : decode cX1_queueAt 77 = .ok (.iinc 4 1, 3) := by decide +kernel
theorem dX1_queueAt_80 : decode cX1_queueAt 80 = .ok (.goto (-39), 3) := by decide +kernel
theorem dX1_queueAt_83 : decode cX1_queueAt 83 = .ok (.iload_n 3, 1) := by decide +kernel
theorem dX1_queueAt_84 : decode cX1_queueAt 84 = .ok (.ireturn, 1) := by decide +kernel
set_option maxRecDepth 20000 in
theorem ggX1_isKnown_X1_isPerson : GoodIn wsX1_isKnown wsX1_isPerson := goodIn_r _ [4, 5, 6, 3, 7] (by decide +kernel) (by decide +kernel)
set_option maxRecDepth 20000 in
theorem gX1_isKnown_X1_isPerson : GoodIn wsX1_isKnown (va_wsS RX1 83 yX1_isPerson wsX1_isPerson) := goodIn_app (goodIn_of _ (by decide +kernel)) ggX1_isKnown_X1_isPerson
set_option maxRecDepth 20000 in
theorem ggX1_isKnown_X1_can : GoodIn wsX1_isKnown wsX1_can := goodIn_r _ [11, 12, 13, 14, 15, 16, 17, 18, 19, 20, 21, 22, 23, 24, 25, 26, 27, 28] (by decide +kernel) (by decide +kernel)
set_option maxRecDepth 20000 in
theorem gX1_isKnown_X1_can : GoodIn wsX1_isKnown (wsV RX1 65 RX1 yX1_can wsX1_can) := goodIn_app (goodIn_of _ (by decide +kernel)) ggX1_isKnown_X1_can
theorem dX1_isKnown_0 : decode cX1_isKnown 0 = .ok (.aload_n 0, 1) := by decide +kernel
theorem dX1_isKnown_1 : decode cX1_isKnown 1 = .ok (.iload_n 1, 1) := by decide +kernel
theorem dX1_isKnown_2 : decode cX1_isKnown 2 = .ok (.invokestatic 83, 3) := by decide +kernel
theorem dX1_isKnown_5 : decode cX1_isKnown 5 = .ok (.ifCond .eq 7, 3) := by decide +kernel
theorem dX1_isKnown_8 : decode cX1_isKnown 8 = .ok (.iconst 0, 1) := by decide +kernel
theorem dX1_isKnown_9 : decode cX1_isKnown 9 = .ok (.goto 4, 3) := by decide +kernel
theorem dX1_isKnown_12 : decode cX1_isKnown 12 = .ok (.iconst 1, 1) := by decide +kernel
theorem dX1_isKnown_13 : decode cX1_isKnown 13 = .ok (.invokevirtual 65, 3) := by decide +kernel
theorem dX1_isKnown_16 : decode cX1_isKnown 16 = .ok (.ireturn, 1) := by decide +kernel
set_option maxRecDepth 20000 in
theorem ggX1_coins_X1_isKnown : GoodIn wsX1_coins wsX1_isKnown := goodIn_r _ [6, 7, 8, 5, 9, 10, 11, 12, 13, 14, 15, 16, 17, 18, 19, 20, 21, 22, 23, 24, 25, 26, 27, 28, 29, 30, 31, 32, 33] (by decide +kernel) (by decide +kernel)
set_option maxRecDepth 20000 in
theorem gX1_coins_X1_isKnown : GoodIn wsX1_coins (wsV RX1 121 RX1 yX1_isKnown wsX1_isKnown) := goodIn_app (goodIn_of _ (by decide +kernel)) ggX1_coins_X1_isKnown
theorem dX1_coins_0 : decode cX1_coins 0 = .ok (.aload_n 0, 1) := by decide +kernel
theorem dX1_coins_1 : decode cX1_coins 1 = .ok (.iload_n 1, 1) := by decide +kernel
theorem dX1_coins_2 : decode cX1_coins 2 = .ok (.invokevirtual 121, 3) := by decide +kernel
theorem dX1_coins_5 : decode cX1_coins 5 = .ok (.ifCond .eq 12, 3) := by decide +kernel
theorem dX1_coins_8 : decode cX1_coins 8 = .ok (.aload_n 0, 1) := by decide +kernel
theorem dX1_coins_9 : decode cX1_coins 9 = .ok (.getfield 13, 3) := by decide +kernel
theorem dX1_coins_12 : decode cX1_coins 12 = .ok (.iload_n 1, 1) := by decide +kernel
theorem dX1_coins_13 : decode cX1_coins 13 = .ok (.iaload, 1) := by decide +kernel
theorem dX1_coins_14 : decode cX1_coins 14 = .ok (.goto 4, 3) := by decide +kernel
theorem dX1_coins_17 : decode cX1_coins 17 = .ok (.iconst 0, 1) := by decide +kernel
theorem dX1_coins_18 : decode cX1_coins 18 = .ok (.ireturn, 1) := by decide +kernel
set_option maxRecDepth 20000 in
theorem ggX1_pool_X1_isRelay : GoodIn wsX1_pool wsX1_isRelay := goodIn_r _ [5, 6, 7, 4, 8] (by decide +kernel) (by decide +kernel)
set_option maxRecDepth 20000 in
theorem gX1_pool_X1_isRelay : GoodIn wsX1_pool (va_wsS RX1 61 yX1_isRelay wsX1_isRelay) := goodIn_app (goodIn_of _ (by decide +kernel)) ggX1_pool_X1_isRelay
set_option maxRecDepth 20000 in
theorem ggX1_pool_X1_can : GoodIn wsX1_pool wsX1_can := goodIn_r _ [12, 13, 14, 15, 16, 17, 18, 19, 20, 21, 22, 23, 24, 25, 26, 27, 28, 29] (by decide +kernel) (by decide +kernel)
set_option maxRecDepth 20000 in
theorem gX1_pool_X1_can : GoodIn wsX1_pool (wsV RX1 65 RX1 yX1_can wsX1_can) := goodIn_app (goodIn_of _ (by decide +kernel)) ggX1_pool_X1_can
theorem dX1_pool_0 : decode cX1_pool 0 = .ok (.aload_n 0, 1) := by decide +kernel
theorem dX1_pool_1 : decode cX1_pool 1 = .ok (.iload_n 1, 1) := by decide +kernel
theorem dX1_pool_2 : decode cX1_pool 2 = .ok (.invokestatic 61, 3) := by decide +kernel
theorem dX1_pool_5 : decode cX1_pool 5 = .ok (.ifCond .eq 7, 3) := by decide +kernel
theorem dX1_pool_8 : decode cX1_pool 8 = .ok (.iconst 0, 1) := by decide +kernel
theorem dX1_pool_9 : decode cX1_pool 9 = .ok (.goto 4, 3) := by decide +kernel
theorem dX1_pool_12 : decode cX1_pool 12 = .ok (.iconst 1, 1) := by decide +kernel
theorem dX1_pool_13 : decode cX1_pool 13 = .ok (.invokevirtual 65, 3) := by decide +kernel
theorem dX1_pool_16 : decode cX1_pool 16 = .ok (.ifCond .eq 12, 3) := by decide +kernel
theorem dX1_pool_19 : decode cX1_pool 19 = .ok (.aload_n 0, 1) := by decide +kernel
theorem dX1_pool_20 : decode cX1_pool 20 = .ok (.getfield 16, 3) := by decide +kernel
theorem dX1_pool_23 : decode cX1_pool 23 = .ok (.iload_n 1, 1) := by decide +kernel
theorem dX1_pool_24 : decode cX1_pool 24 = .ok (.iaload, 1) := by decide +kernel
theorem dX1_pool_25 : decode cX1_pool 25 = .ok (.goto 4, 3) := by decide +kernel
theorem dX1_pool_28 : decode cX1_pool 28 = .ok (.iconst 0, 1) := by decide +kernel
theorem dX1_pool_29 : decode cX1_pool 29 = .ok (.ireturn, 1) := by decide +kernel
theorem dX1_escrow_0 : decode cX1_escrow 0 = .ok (.aload_n 0, 1) := by decide +kernel
theorem dX1_escrow_1 : decode cX1_escrow 1 = .ok (.iconst 0, 1) := by decide +kernel
theorem dX1_escrow_2 : decode cX1_escrow 2 = .ok (.putfield 50, 3) := by decide +kernel
theorem dX1_escrow_5 : decode cX1_escrow 5 = .ok (.iconst 0, 1) := by decide +kernel
theorem dX1_escrow_6 : decode cX1_escrow 6 = .ok (.istore_n 1, 1) := by decide +kernel
theorem dX1_escrow_7 : decode cX1_escrow 7 = .ok (.iconst 0, 1) := by decide +kernel
theorem dX1_escrow_8 : decode cX1_escrow 8 = .ok (.istore_n 2, 1) := by decide +kernel
theorem dX1_escrow_9 : decode cX1_escrow 9 = .ok (.iload_n 2, 1) := by decide +kernel
theorem dX1_escrow_10 : decode cX1_escrow 10 = .ok (.aload_n 0, 1) := by decide +kernel
theorem dX1_escrow_11 : decode cX1_escrow 11 = .ok (.getfield 58, 3) := by decide +kernel
theorem dX1_escrow_14 : decode cX1_escrow 14 = .ok (.if_icmp .ge 41, 3) := by decide +kernel
theorem dX1_escrow_17 : decode cX1_escrow 17 = .ok (.iload_n 1, 1) := by decide +kernel
theorem dX1_escrow_18 : decode cX1_escrow 18 = .ok (.aload_n 0, 1) := by decide +kernel
theorem dX1_escrow_19 : decode cX1_escrow 19 = .ok (.getfield 31, 3) := by decide +kernel
theorem dX1_escrow_22 : decode cX1_escrow 22 = .ok (.iload_n 2, 1) := by decide +kernel
theorem dX1_escrow_23 : decode cX1_escrow 23 = .ok (.iaload, 1) := by decide +kernel
theorem dX1_escrow_24 : decode cX1_escrow 24 = .ok (.ifCond .eq 13, 3) := by decide +kernel
theorem dX1_escrow_27 : decode cX1_escrow 27 = .ok (.aload_n 0, 1) := by decide +kernel
theorem dX1_escrow_28 : decode cX1_escrow 28 = .ok (.getfield 31, 3) := by decide +kernel
theorem dX1_escrow_31 : decode cX1_escrow 31 = .ok (.iload_n 2, 1) := by decide +kernel
theorem dX1_escrow_32 : decode cX1_escrow 32 = .ok (.iaload, 1) := by decide +kernel
theorem dX1_escrow_33 : decode cX1_escrow 33 = .ok (.iconst 1, 1) := by decide +kernel
theorem dX1_escrow_34 : decode cX1_escrow 34 = .ok (.if_icmp .ne 12, 3) := by decide +kernel
theorem dX1_escrow_37 : decode cX1_escrow 37 = .ok (.aload_n 0, 1) := by decide +kernel
theorem dX1_escrow_38 : decode cX1_escrow 38 = .ok (.getfield 28, 3) := by decide +kernel
theorem dX1_escrow_41 : decode cX1_escrow 41 = .ok (.iload_n 2, 1) := by decide +kernel
theorem dX1_escrow_42 : decode cX1_escrow 42 = .ok (.iaload, 1) := by decide +kernel
theorem dX1_escrow_43 : decode cX1_escrow 43 = .ok (.goto 4, 3) := by decide +kernel
theorem dX1_escrow_46 : decode cX1_escrow 46 = .ok (.iconst 0, 1) := by decide +kernel
theorem dX1_escrow_47 : decode cX1_escrow 47 = .ok (.iadd, 1) := by decide +kernel
theorem dX1_escrow_48 : decode cX1_escrow 48 = .ok (.istore_n 1, 1) := by decide +kernel
theorem dX1_escrow_49 : decode cX1_escrow 49 = .ok (.iinc 2 1, 3) := by decide +kernel
theorem dX1_escrow_52 : decode cX1_escrow 52 = .ok (.goto (-43), 3) := by decide +kernel
theorem dX1_escrow_55 : decode cX1_escrow 55 = .ok (.iload_n 1, 1) := by decide +kernel
theorem dX1_escrow_56 : decode cX1_escrow 56 = .ok (.ireturn, 1) := by decide +kernel
set_option maxRecDepth 20000 in
theorem ggX1_reputation_X1_isKnown : GoodIn wsX1_reputation wsX1_isKnown := goodIn_r _ [5, 6, 7, 4, 8, 9, 10, 11, 12, 13, 14, 15, 16, 31, 32, 33, 34, 35, 36, 37, 38, 39, 40, 41, 42, 43, 44, 45, 46] (by decide +kernel) (by decide +kernel)
set_option maxRecDepth 20000 in
theorem gX1_reputation_X1_isKnown : GoodIn wsX1_reputation (wsV RX1 121 RX1 yX1_isKnown wsX1_isKnown) := goodIn_app (goodIn_of _ (by decide +kernel)) ggX1_reputation_X1_isKnown
set_option maxRecDepth 20000 in
theorem ggX1_reputation_X1_nameOf : GoodIn wsX1_reputation wsX1_nameOf := goodIn_r _ [20, 21, 22, 23, 24, 25, 26, 27, 28, 4, 29, 30, 31, 32, 33, 34, 35, 36, 37, 38, 39, 40, 41, 42, 43, 44, 45, 46] (by decide +kernel) (by decide +kernel)
set_option maxRecDepth 20000 in
theorem gX1_reputation_X1_nameOf : GoodIn wsX1_reputation (wsV RX1 80 RX1 yX1_nameOf wsX1_nameOf) := goodIn_app (goodIn_of _ (by decide +kernel)) ggX1_reputation_X1_nameOf
theorem dX1_reputation_0 : decode cX1_reputation 0 = .ok (.aload_n 0, 1) := by decide +kernel
theorem dX1_reputation_1 : decode cX1_reputation 1 = .ok (.iload_n 1, 1) := by decide +kernel
theorem dX1_reputation_2 : decode cX1_reputation 2 = .ok (.invokevirtual 121, 3) := by decide +kernel
theorem dX1_reputation_5 : decode cX1_reputation 5 = .ok (.ifCond .eq 11, 3) := by decide +kernel
theorem dX1_reputation_8 : decode cX1_reputation 8 = .ok (.aload_n 0, 1) := by decide +kernel
theorem dX1_reputation_9 : decode cX1_reputation 9 = .ok (.iload_n 1, 1) := by decide +kernel
theorem dX1_reputation_10 : decode cX1_reputation 10 = .ok (.invokevirtual 80, 3) := by decide +kernel
theorem dX1_reputation_13 : decode cX1_reputation 13 = .ok (.goto 4, 3) := by decide +kernel
theorem dX1_reputation_16 : decode cX1_reputation 16 = .ok (.iconst 0, 1) := by decide +kernel
theorem dX1_reputation_17 : decode cX1_reputation 17 = .ok (.ireturn, 1) := by decide +kernel
set_option maxRecDepth 20000 in
theorem ggX1_reputationAtOnce_X1_isKnown : GoodIn wsX1_reputationAtOnce wsX1_isKnown := goodIn_r _ [5, 6, 7, 4, 8, 9, 10, 11, 12, 13, 14, 15, 16, 31, 32, 33, 34, 35, 36, 37, 38, 39, 40, 41, 42, 43, 44, 45, 46] (by decide +kernel) (by decide +kernel)
set_option maxRecDepth 20000 in
theorem gX1_reputationAtOnce_X1_isKnown : GoodIn wsX1_reputationAtOnce (wsV RX1 121 RX1 yX1_isKnown wsX1_isKnown) := goodIn_app (goodIn_of _ (by decide +kernel)) ggX1_reputationAtOnce_X1_isKnown
set_option maxRecDepth 20000 in
theorem ggX1_reputationAtOnce_X1_nameOf : GoodIn wsX1_reputationAtOnce wsX1_nameOf := goodIn_r _ [20, 21, 22, 23, 24, 25, 26, 27, 28, 4, 29, 30, 31, 32, 33, 34, 35, 36, 37, 38, 39, 40, 41, 42, 43, 44, 45, 46] (by decide +kernel) (by decide +kernel)
set_option maxRecDepth 20000 in
theorem gX1_reputationAtOnce_X1_nameOf : GoodIn wsX1_reputationAtOnce (wsV RX1 80 RX1 yX1_nameOf wsX1_nameOf) := goodIn_app (goodIn_of _ (by decide +kernel)) ggX1_reputationAtOnce_X1_nameOf
theorem dX1_reputationAtOnce_0 : decode cX1_reputationAtOnce 0 = .ok (.aload_n 0, 1) := by decide +kernel
theorem dX1_reputationAtOnce_1 : decode cX1_reputationAtOnce 1 = .ok (.iload_n 1, 1) := by decide +kernel
theorem dX1_reputationAtOnce_2 : decode cX1_reputationAtOnce 2 = .ok (.invokevirtual 121, 3) := by decide +kernel
theorem dX1_reputationAtOnce_5 : decode cX1_reputationAtOnce 5 = .ok (.ifCond .eq 11, 3) := by decide +kernel
theorem dX1_reputationAtOnce_8 : decode cX1_reputationAtOnce 8 = .ok (.aload_n 0, 1) := by decide +kernel
theorem dX1_reputationAtOnce_9 : decode cX1_reputationAtOnce 9 = .ok (.iload_n 1, 1) := by decide +kernel
theorem dX1_reputationAtOnce_10 : decode cX1_reputationAtOnce 10 = .ok (.invokevirtual 80, 3) := by decide +kernel
theorem dX1_reputationAtOnce_13 : decode cX1_reputationAtOnce 13 = .ok (.goto 4, 3) := by decide +kernel
theorem dX1_reputationAtOnce_16 : decode cX1_reputationAtOnce 16 = .ok (.iconst 0, 1) := by decide +kernel
theorem dX1_reputationAtOnce_17 : decode cX1_reputationAtOnce 17 = .ok (.ireturn, 1) := by decide +kernel
set_option maxRecDepth 20000 in
theorem ggX1_leastStake_X1_isKnown : GoodIn wsX1_leastStake wsX1_isKnown := goodIn_r _ [5, 6, 7, 4, 8, 9, 10, 11, 12, 13, 14, 15, 16, 35, 36, 37, 38, 39, 40, 41, 42, 43, 44, 45, 46, 47, 48, 49, 50] (by decide +kernel) (by decide +kernel)
set_option maxRecDepth 20000 in
theorem gX1_leastStake_X1_isKnown : GoodIn wsX1_leastStake (wsV RX1 121 RX1 yX1_isKnown wsX1_isKnown) := goodIn_app (goodIn_of _ (by decide +kernel)) ggX1_leastStake_X1_isKnown
set_option maxRecDepth 20000 in
theorem ggX1_leastStake_X1_least : GoodIn wsX1_leastStake wsX1_least := goodIn_r _ [20, 21, 22, 23, 4, 24, 25, 26, 27, 28, 29, 30, 31, 32, 33, 34, 35, 36, 37, 38, 39, 40, 41, 42, 43, 44, 45, 46, 47, 48, 49, 50] (by decide +kernel) (by decide +kernel)
set_option maxRecDepth 20000 in
theorem gX1_leastStake_X1_least : GoodIn wsX1_leastStake (wsV RX1 86 RX1 yX1_least wsX1_least) := goodIn_app (goodIn_of _ (by decide +kernel)) ggX1_leastStake_X1_least
theorem dX1_leastStake_0 : decode cX1_leastStake 0 = .ok (.aload_n 0, 1) := by decide +kernel
theorem dX1_leastStake_1 : decode cX1_leastStake 1 = .ok (.iload_n 1, 1) := by decide +kernel
theorem dX1_leastStake_2 : decode cX1_leastStake 2 = .ok (.invokevirtual 121, 3) := by decide +kernel
theorem dX1_leastStake_5 : decode cX1_leastStake 5 = .ok (.ifCond .eq 11, 3) := by decide +kernel
theorem dX1_leastStake_8 : decode cX1_leastStake 8 = .ok (.aload_n 0, 1) := by decide +kernel
theorem dX1_leastStake_9 : decode cX1_leastStake 9 = .ok (.iload_n 1, 1) := by decide +kernel
theorem dX1_leastStake_10 : decode cX1_leastStake 10 = .ok (.invokevirtual 86, 3) := by decide +kernel
theorem dX1_leastStake_13 : decode cX1_leastStake 13 = .ok (.goto 4, 3) := by decide +kernel
theorem dX1_leastStake_16 : decode cX1_leastStake 16 = .ok (.iconst 0, 1) := by decide +kernel
theorem dX1_leastStake_17 : decode cX1_leastStake 17 = .ok (.ireturn, 1) := by decide +kernel
set_option maxRecDepth 20000 in
theorem ggX1_falseMarks_X1_isKnown : GoodIn wsX1_falseMarks wsX1_isKnown := goodIn_r _ [6, 7, 8, 5, 9, 10, 11, 12, 13, 14, 15, 16, 17, 18, 19, 20, 21, 22, 23, 24, 25, 26, 27, 28, 29, 30, 31, 32, 33] (by decide +kernel) (by decide +kernel)
set_option maxRecDepth 20000 in
theorem gX1_falseMarks_X1_isKnown : GoodIn wsX1_falseMarks (wsV RX1 121 RX1 yX1_isKnown wsX1_isKnown) := goodIn_app (goodIn_of _ (by decide +kernel)) ggX1_falseMarks_X1_isKnown
theorem dX1_falseMarks_0 : decode cX1_falseMarks 0 = .ok (.aload_n 0, 1) := by decide +kernel
theorem dX1_falseMarks_1 : decode cX1_falseMarks 1 = .ok (.iload_n 1, 1) := by decide +kernel
theorem dX1_falseMarks_2 : decode cX1_falseMarks 2 = .ok (.invokevirtual 121, 3) := by decide +kernel
theorem dX1_falseMarks_5 : decode cX1_falseMarks 5 = .ok (.ifCond .eq 12, 3) := by decide +kernel
theorem dX1_falseMarks_8 : decode cX1_falseMarks 8 = .ok (.aload_n 0, 1) := by decide +kernel
theorem dX1_falseMarks_9 : decode cX1_falseMarks 9 = .ok (.getfield 19, 3) := by decide +kernel
theorem dX1_falseMarks_12 : decode cX1_falseMarks 12 = .ok (.iload_n 1, 1) := by decide +kernel
theorem dX1_falseMarks_13 : decode cX1_falseMarks 13 = .ok (.iaload, 1) := by decide +kernel
theorem dX1_falseMarks_14 : decode cX1_falseMarks 14 = .ok (.goto 4, 3) := by decide +kernel
theorem dX1_falseMarks_17 : decode cX1_falseMarks 17 = .ok (.iconst 0, 1) := by decide +kernel
theorem dX1_falseMarks_18 : decode cX1_falseMarks 18 = .ok (.ireturn, 1) := by decide +kernel
