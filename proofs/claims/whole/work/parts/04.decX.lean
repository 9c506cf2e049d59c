theorem dX0_init_0 : decode cX0_init 0 = .ok (.aload_n 0, 1) := by decide +kernel
theorem dX0_init_1 : decode cX0_init 1 = .ok (.invokespecial 1, 3) := by decide +kernel
theorem dX0_init_4 : decode cX0_init 4 = .ok (.aload_n 0, 1) := by decide +kernel
theorem dX0_init_5 : decode cX0_init 5 = .ok (.bipush 60, 2) := by decide +kernel
theorem dX0_init_7 : decode cX0_init 7 = .ok (.newarray .int, 2) := by decide +kernel
theorem dX0_init_9 : decode cX0_init 9 = .ok (.putfield 9, 3) := by decide +kernel
theorem dX0_init_12 : decode cX0_init 12 = .ok (.aload_n 0, 1) := by decide +kernel
theorem dX0_init_13 : decode cX0_init 13 = .ok (.bipush 60, 2) := by decide +kernel
theorem dX0_init_15 : decode cX0_init 15 = .ok (.newarray .int, 2) := by decide +kernel
theorem dX0_init_17 : decode cX0_init 17 = .ok (.putfield 13, 3) := by decide +kernel
theorem dX0_init_20 : decode cX0_init 20 = .ok (.aload_n 0, 1) := by decide +kernel
theorem dX0_init_21 : decode cX0_init 21 = .ok (.bipush 60, 2) := by decide +kernel
theorem dX0_init_23 : decode cX0_init 23 = .ok (.newarray .int, 2) := by decide +kernel
theorem dX0_init_25 : decode cX0_init 25 = .ok (.putfield 16, 3) := by decide +kernel
theorem dX0_init_28 : decode cX0_init 28 = .ok (.aload_n 0, 1) := by decide +kernel
theorem dX0_init_29 : decode cX0_init 29 = .ok (.bipush 60, 2) := by decide +kernel
theorem dX0_init_31 : decode cX0_init 31 = .ok (.newarray .int, 2) := by decide +kernel
theorem dX0_init_33 : decode cX0_init 33 = .ok (.putfield 19, 3) := by decide +kernel
theorem dX0_init_36 : decode cX0_init 36 = .ok (.aload_n 0, 1) := by decide +kernel
theorem dX0_init_37 : decode cX0_init 37 = .ok (.bipush 60, 2) := by decide +kernel
theorem dX0_init_39 : decode cX0_init 39 = .ok (.newarray .int, 2) := by decide +kernel
theorem dX0_init_41 : decode cX0_init 41 = .ok (.putfield 22, 3) := by decide +kernel
theorem dX0_init_44 : decode cX0_init 44 = .ok (.aload_n 0, 1) := by decide +kernel
theorem dX0_init_45 : decode cX0_init 45 = .ok (.bipush 60, 2) := by decide +kernel
theorem dX0_init_47 : decode cX0_init 47 = .ok (.newarray .int, 2) := by decide +kernel
theorem dX0_init_49 : decode cX0_init 49 = .ok (.putfield 25, 3) := by decide +kernel
theorem dX0_init_52 : decode cX0_init 52 = .ok (.aload_n 0, 1) := by decide +kernel
theorem dX0_init_53 : decode cX0_init 53 = .ok (.bipush 60, 2) := by decide +kernel
theorem dX0_init_55 : decode cX0_init 55 = .ok (.newarray .int, 2) := by decide +kernel
theorem dX0_init_57 : decode cX0_init 57 = .ok (.putfield 28, 3) := by decide +kernel
theorem dX0_init_60 : decode cX0_init 60 = .ok (.aload_n 0, 1) := by decide +kernel
theorem dX0_init_61 : decode cX0_init 61 = .ok (.bipush 60, 2) := by decide +kernel
theorem dX0_init_63 : decode cX0_init 63 = .ok (.newarray .boolean, 2) := by decide +kernel
theorem dX0_init_65 : decode cX0_init 65 = .ok (.putfield 31, 3) := by decide +kernel
theorem dX0_init_68 : decode cX0_init 68 = .ok (.aload_n 0, 1) := by decide +kernel
theorem dX0_init_69 : decode cX0_init 69 = .ok (.bipush 8, 2) := by decide +kernel
theorem dX0_init_71 : decode cX0_init 71 = .ok (.newarray .int, 2) := by decide +kernel
theorem dX0_init_73 : decode cX0_init 73 = .ok (.putfield 35, 3) := by decide +kernel
theorem dX0_init_76 : decode cX0_init 76 = .ok (.aload_n 0, 1) := by decide +kernel
theorem dX0_init_77 : decode cX0_init 77 = .ok (.bipush 8, 2) := by decide +kernel
theorem dX0_init_79 : decode cX0_init 79 = .ok (.newarray .int, 2) := by decide +kernel
theorem dX0_init_81 : decode cX0_init 81 = .ok (.putfield 38, 3) := by decide +kernel
theorem dX0_init_84 : decode cX0_init 84 = .ok (.aload_n 0, 1) := by decide +kernel
theorem dX0_init_85 : decode cX0_init 85 = .ok (.iconst 4, 1) := by decide +kernel
theorem dX0_init_86 : decode cX0_init 86 = .ok (.newarray .int, 2) := by decide +kernel
theorem dX0_init_88 : decode cX0_init 88 = .ok (.putfield 41, 3) := by decide +kernel
theorem dX0_init_91 : decode cX0_init 91 = .ok (.aload_n 0, 1) := by decide +kernel
theorem dX0_init_92 : decode cX0_init 92 = .ok (.bipush 16, 2) := by decide +kernel
theorem dX0_init_94 : decode cX0_init 94 = .ok (.newarray .int, 2) := by decide +kernel
theorem dX0_init_96 : decode cX0_init 96 = .ok (.putfield 44, 3) := by decide +kernel
theorem dX0_init_99 : decode cX0_init 99 = .ok (.aload_n 0, 1) := by decide +kernel
theorem dX0_init_100 : decode cX0_init 100 = .ok (.iconst 0, 1) := by decide +kernel
theorem dX0_init_101 : decode cX0_init 101 = .ok (.putfield 47, 3) := by decide +kernel
theorem dX0_init_104 : decode cX0_init 104 = .ok (.aload_n 0, 1) := by decide +kernel
theorem dX0_init_105 : decode cX0_init 105 = .ok (.iconst 0, 1) := by decide +kernel
theorem dX0_init_106 : decode cX0_init 106 = .ok (.putfield 51, 3) := by decide +kernel
theorem dX0_init_109 : decode cX0_init 109 = .ok (.aload_n 0, 1) := by decide +kernel
theorem dX0_init_110 : decode cX0_init 110 = .ok (.bipush 60, 2) := by decide +kernel
theorem dX0_init_112 : decode cX0_init 112 = .ok (.newarray .int, 2) := by decide +kernel
theorem dX0_init_114 : decode cX0_init 114 = .ok (.putfield 54, 3) := by decide +kernel
theorem dX0_init_117 : decode cX0_init 117 = .ok (.aload_n 0, 1) := by decide +kernel
theorem dX0_init_118 : decode cX0_init 118 = .ok (.bipush 8, 2) := by decide +kernel
theorem dX0_init_120 : decode cX0_init 120 = .ok (.newarray .int, 2) := by decide +kernel
theorem dX0_init_122 : decode cX0_init 122 = .ok (.putfield 57, 3) := by decide +kernel
theorem dX0_init_125 : decode cX0_init 125 = .ok (.iconst 0, 1) := by decide +kernel
theorem dX0_init_126 : decode cX0_init 126 = .ok (.istore_n 1, 1) := by decide +kernel
theorem dX0_init_127 : decode cX0_init 127 = .ok (.iload_n 1, 1) := by decide +kernel
theorem dX0_init_128 : decode cX0_init 128 = .ok (.bipush 8, 2) := by decide +kernel
theorem dX0_init_130 : decode cX0_init 130 = .ok (.if_icmp .ge 17, 3) := by decide +kernel
theorem dX0_init_133 : decode cX0_init 133 = .ok (.aload_n 0, 1) := by decide +kernel
theorem dX0_init_134 : decode cX0_init 134 = .ok (.getfield 35, 3) := by decide +kernel
theorem dX0_init_137 : decode cX0_init 137 = .ok (.iload_n 1, 1) := by decide +kernel
theorem dX0_init_138 : decode cX0_init 138 = .ok (.bipush 100, 2) := by decide +kernel
theorem dX0_init_140 : decode cX0_init 140 = .ok (.iastore, 1) := by decide +kernel
theorem dX0_init_141 : decode cX0_init 141 = .ok (.iinc 1 1, 3) := by decide +kernel
theorem dX0_init_144 : decode cX0_init 144 = .ok (.goto (-17), 3) := by decide +kernel
theorem dX0_init_147 : decode cX0_init 147 = .ok (.iconst 0, 1) := by decide +kernel
theorem dX0_init_148 : decode cX0_init 148 = .ok (.istore_n 1, 1) := by decide +kernel
theorem dX0_init_149 : decode cX0_init 149 = .ok (.iload_n 1, 1) := by decide +kernel
theorem dX0_init_150 : decode cX0_init 150 = .ok (.iconst 4, 1) := by decide +kernel
theorem dX0_init_151 : decode cX0_init 151 = .ok (.if_icmp .ge 33, 3) := by decide +kernel
theorem dX0_init_154 : decode cX0_init 154 = .ok (.iconst 0, 1) := by decide +kernel
theorem dX0_init_155 : decode cX0_init 155 = .ok (.istore_n 2, 1) := by decide +kernel
theorem dX0_init_156 : decode cX0_init 156 = .ok (.iload_n 2, 1) := by decide +kernel
theorem dX0_init_157 : decode cX0_init 157 = .ok (.iconst 4, 1) := by decide +kernel
theorem dX0_init_158 : decode cX0_init 158 = .ok (.if_icmp .ge 20, 3) := by decide +kernel
theorem dX0_init_161 : decode cX0_init 161 = .ok (.aload_n 0, 1) := by decide +kernel
theorem dX0_init_162 : decode cX0_init 162 = .ok (.getfield 44, 3) := by decide +kernel
theorem dX0_init_165 : decode cX0_init 165 = .ok (.iload_n 1, 1) := by decide +kernel
theorem dX0_init_166 : decode cX0_init 166 = .ok (.iconst 4, 1) := by decide +kernel
theorem dX0_init_167 : decode cX0_init 167 = .ok (.imul, 1) := by decide +kernel
theorem dX0_init_168 : decode cX0_init 168 = .ok (.iload_n 2, 1) := by decide +kernel
theorem dX0_init_169 : decode cX0_init 169 = .ok (.iadd, 1) := by decide +kernel
theorem dX0_init_170 : decode cX0_init 170 = .ok (.iload_n 2, 1) := by decide +kernel
theorem dX0_init_171 : decode cX0_init 171 = .ok (.iastore, 1) := by decide +kernel
theorem dX0_init_172 : decode cX0_init 172 = .ok (.iinc 2 1, 3) := by decide +kernel
theorem dX0_init_175 : decode cX0_init 175 = .ok (.goto (-19), 3) := by decide +kernel
theorem dX0_init_178 : decode cX0_init 178 = .ok (.iinc 1 1, 3) := by decide +kernel
theorem dX0_init_181 : decode cX0_init 181 = .ok (.goto (-32), 3) := by decide +kernel
theorem dX0_init_184 : decode cX0_init 184 = .ok (.return_, 1) := by decide +kernel
set_option maxRecDepth 20000 in
theorem ggX0_setRoute_X0_isRelay : GoodIn wsX0_setRoute wsX0_isRelay := goodIn_r _ [9] (by decide +kernel) (by decide +kernel)
set_option maxRecDepth 20000 in
theorem gX0_setRoute_X0_isRelay : GoodIn wsX0_setRoute (va_wsS RX0 60 yX0_isRelay wsX0_isRelay) := goodIn_app (goodIn_of _ (by decide +kernel)) ggX0_setRoute_X0_isRelay
theorem dX0_setRoute_0 : decode cX0_setRoute 0 = .ok (.iload_n 1, 1) := by decide +kernel
theorem dX0_setRoute_1 : decode cX0_setRoute 1 = .ok (.invokestatic 60, 3) := by decide +kernel
theorem dX0_setRoute_4 : decode cX0_setRoute 4 = .ok (.ifCond .eq 17, 3) := by decide +kernel
theorem dX0_setRoute_7 : decode cX0_setRoute 7 = .ok (.iload_n 2, 1) := by decide +kernel
theorem dX0_setRoute_8 : decode cX0_setRoute 8 = .ok (.invokestatic 60, 3) := by decide +kernel
theorem dX0_setRoute_11 : decode cX0_setRoute 11 = .ok (.ifCond .eq 10, 3) := by decide +kernel
theorem dX0_setRoute_14 : decode cX0_setRoute 14 = .ok (.iload_n 3, 1) := by decide +kernel
theorem dX0_setRoute_15 : decode cX0_setRoute 15 = .ok (.invokestatic 60, 3) := by decide +kernel
theorem dX0_setRoute_18 : decode cX0_setRoute 18 = .ok (.ifCond .ne 13, 3) := by decide +kernel
theorem dX0_setRoute_21 : decode cX0_setRoute 21 = .ok (.new 64, 3) := by decide +kernel
theorem dX0_setRoute_24 : decode cX0_setRoute 24 = .ok (.dup, 1) := by decide +kernel
theorem dX0_setRoute_25 : decode cX0_setRoute 25 = .ok (.ldc 66, 2) := by decide +kernel
theorem dX0_setRoute_27 : decode cX0_setRoute 27 = .ok (.invokespecial 68, 3) := by decide +kernel
theorem dX0_setRoute_30 : decode cX0_setRoute 30 = .ok (.athrow, 1) := by decide +kernel
theorem dX0_setRoute_31 : decode cX0_setRoute 31 = .ok (.iload_n 2, 1) := by decide +kernel
theorem dX0_setRoute_32 : decode cX0_setRoute 32 = .ok (.iload_n 1, 1) := by decide +kernel
theorem dX0_setRoute_33 : decode cX0_setRoute 33 = .ok (.if_icmp .eq 8, 3) := by decide +kernel
theorem dX0_setRoute_36 : decode cX0_setRoute 36 = .ok (.iload_n 3, 1) := by decide +kernel
theorem dX0_setRoute_37 : decode cX0_setRoute 37 = .ok (.iload_n 1, 1) := by decide +kernel
theorem dX0_setRoute_38 : decode cX0_setRoute 38 = .ok (.if_icmp .ne 13, 3) := by decide +kernel
theorem dX0_setRoute_41 : decode cX0_setRoute 41 = .ok (.new 71, 3) := by decide +kernel
theorem dX0_setRoute_44 : decode cX0_setRoute 44 = .ok (.dup, 1) := by decide +kernel
theorem dX0_setRoute_45 : decode cX0_setRoute 45 = .ok (.ldc 73, 2) := by decide +kernel
theorem dX0_setRoute_47 : decode cX0_setRoute 47 = .ok (.invokespecial 75, 3) := by decide +kernel
theorem dX0_setRoute_50 : decode cX0_setRoute 50 = .ok (.athrow, 1) := by decide +kernel
theorem dX0_setRoute_51 : decode cX0_setRoute 51 = .ok (.iload_n 1, 1) := by decide +kernel
theorem dX0_setRoute_52 : decode cX0_setRoute 52 = .ok (.iconst 4, 1) := by decide +kernel
theorem dX0_setRoute_53 : decode cX0_setRoute 53 = .ok (.imul, 1) := by decide +kernel
theorem dX0_setRoute_54 : decode cX0_setRoute 54 = .ok (.iload_n 2, 1) := by decide +kernel
theorem dX0_setRoute_55 : decode cX0_setRoute 55 = .ok (.iadd, 1) := by decide +kernel
theorem dX0_setRoute_56 : decode cX0_setRoute 56 = .ok (.istore 4, 2) := by decide +kernel
theorem dX0_setRoute_58 : decode cX0_setRoute 58 = .ok (.aload_n 0, 1) := by decide +kernel
theorem dX0_setRoute_59 : decode cX0_setRoute 59 = .ok (.getfield 44, 3) := by decide +kernel
theorem dX0_setRoute_62 : decode cX0_setRoute 62 = .ok (.iload 4, 2) := by decide +kernel
theorem dX0_setRoute_64 : decode cX0_setRoute 64 = .ok (.iaload, 1) := by decide +kernel
theorem dX0_setRoute_65 : decode cX0_setRoute 65 = .ok (.istore 5, 2) := by decide +kernel
theorem dX0_setRoute_67 : decode cX0_setRoute 67 = .ok (.aload_n 0, 1) := by decide +kernel
theorem dX0_setRoute_68 : decode cX0_setRoute 68 = .ok (.getfield 44, 3) := by decide +kernel
theorem dX0_setRoute_71 : decode cX0_setRoute 71 = .ok (.iload 4, 2) := by decide +kernel
theorem dX0_setRoute_73 : decode cX0_setRoute 73 = .ok (.iload_n 3, 1) := by decide +kernel
theorem dX0_setRoute_74 : decode cX0_setRoute 74 = .ok (.iastore, 1) := by decide +kernel
theorem dX0_setRoute_75 : decode cX0_setRoute 75 = .ok (.iload 5, 2) := by decide +kernel
theorem dX0_setRoute_77 : decode cX0_setRoute 77 = .ok (.ireturn, 1) := by decide +kernel
set_option maxRecDepth 20000 in
theorem ggX0_steps_X0_isRelay : GoodIn wsX0_steps wsX0_isRelay := goodIn_r _ [6] (by decide +kernel) (by decide +kernel)
set_option maxRecDepth 20000 in
theorem gX0_steps_X0_isRelay : GoodIn wsX0_steps (va_wsS RX0 60 yX0_isRelay wsX0_isRelay) := goodIn_app (goodIn_of _ (by decide +kernel)) ggX0_steps_X0_isRelay
set_option maxRecDepth 20000 in
theorem ggX0_steps_X0_nextRelay : GoodIn wsX0_steps wsX0_nextRelay := goodIn_r _ [10, 11, 3, 4, 5, 6, 12, 13, 14, 15, 16, 17, 18, 19, 20, 21, 22, 23, 24, 25, 26, 27] (by decide +kernel) (by decide +kernel)
set_option maxRecDepth 20000 in
theorem gX0_steps_X0_nextRelay : GoodIn wsX0_steps (wsV RX0 76 RX0 yX0_nextRelay wsX0_nextRelay) := goodIn_app (goodIn_of _ (by decide +kernel)) ggX0_steps_X0_nextRelay
theorem dX0_steps_0 : decode cX0_steps 0 = .ok (.iload_n 1, 1) := by decide +kernel
theorem dX0_steps_1 : decode cX0_steps 1 = .ok (.invokestatic 60, 3) := by decide +kernel
theorem dX0_steps_4 : decode cX0_steps 4 = .ok (.ifCond .eq 10, 3) := by decide +kernel
theorem dX0_steps_7 : decode cX0_steps 7 = .ok (.iload_n 2, 1) := by decide +kernel
theorem dX0_steps_8 : decode cX0_steps 8 = .ok (.invokestatic 60, 3) := by decide +kernel
theorem dX0_steps_11 : decode cX0_steps 11 = .ok (.ifCond .ne 13, 3) := by decide +kernel
theorem dX0_steps_14 : decode cX0_steps 14 = .ok (.new 64, 3) := by decide +kernel
theorem dX0_steps_17 : decode cX0_steps 17 = .ok (.dup, 1) := by decide +kernel
theorem dX0_steps_18 : decode cX0_steps 18 = .ok (.ldc 66, 2) := by decide +kernel
theorem dX0_steps_20 : decode cX0_steps 20 = .ok (.invokespecial 68, 3) := by decide +kernel
theorem dX0_steps_23 : decode cX0_steps 23 = .ok (.athrow, 1) := by decide +kernel
theorem dX0_steps_24 : decode cX0_steps 24 = .ok (.iload_n 1, 1) := by decide +kernel
theorem dX0_steps_25 : decode cX0_steps 25 = .ok (.istore_n 3, 1) := by decide +kernel
theorem dX0_steps_26 : decode cX0_steps 26 = .ok (.iconst 0, 1) := by decide +kernel
theorem dX0_steps_27 : decode cX0_steps 27 = .ok (.istore 4, 2) := by decide +kernel
theorem dX0_steps_29 : decode cX0_steps 29 = .ok (.iload 4, 2) := by decide +kernel
theorem dX0_steps_31 : decode cX0_steps 31 = .ok (.iconst 4, 1) := by decide +kernel
theorem dX0_steps_32 : decode cX0_steps 32 = .ok (.if_icmp .ge 24, 3) := by decide +kernel
theorem dX0_steps_35 : decode cX0_steps 35 = .ok (.iload_n 3, 1) := by decide +kernel
theorem dX0_steps_36 : decode cX0_steps 36 = .ok (.iload_n 2, 1) := by decide +kernel
theorem dX0_steps_37 : decode cX0_steps 37 = .ok (.if_icmp .ne 6, 3) := by decide +kernel
theorem dX0_steps_40 : decode cX0_steps 40 = .ok (.iload 4, 2) := by decide +kernel
theorem dX0_steps_42 : decode cX0_steps 42 = .ok (.ireturn, 1) := by decide +kernel
theorem dX0_steps_43 : decode cX0_steps 43 = .ok (.aload_n 0, 1) := by decide +kernel
theorem dX0_steps_44 : decode cX0_steps 44 = .ok (.iload_n 3, 1) := by decide +kernel
theorem dX0_steps_45 : decode cX0_steps 45 = .ok (.iload_n 2, 1) := by decide +kernel
theorem dX0_steps_46 : decode cX0_steps 46 = .ok (.invokevirtual 76, 3) := by decide +kernel
theorem dX0_steps_49 : decode cX0_steps 49 = .ok (.istore_n 3, 1) := by decide +kernel
theorem dX0_steps_50 : decode cX0_steps 50 = .ok (.iinc 4 1, 3) := by decide +kernel
theorem dX0_steps_53 : decode cX0_steps 53 = .ok (.goto (-24), 3) := by decide +kernel
theorem dX0_steps_56 : decode cX0_steps 56 = .ok (.iconst (-1), 1) := by decide +kernel
theorem dX0_steps_57 : decode cX0_steps 57 = .ok (.ireturn, 1) := by decide +kernel
set_option maxRecDepth 20000 in
theorem ggX0_send_X0_isPerson : GoodIn wsX0_send wsX0_isPerson := goodIn_r _ [16] (by decide +kernel) (by decide +kernel)
set_option maxRecDepth 20000 in
theorem gX0_send_X0_isPerson : GoodIn wsX0_send (va_wsS RX0 80 yX0_isPerson wsX0_isPerson) := goodIn_app (goodIn_of _ (by decide +kernel)) ggX0_send_X0_isPerson
set_option maxRecDepth 20000 in
theorem ggX0_send_X0_lowestStakeOf : GoodIn wsX0_send wsX0_lowestStakeOf := goodIn_r _ [20, 21, 22, 23, 24, 25, 26, 27, 28, 29, 30, 15, 31, 8, 9, 32, 33, 34, 35, 12, 10, 36, 37, 38, 39, 40, 41, 42, 43, 44, 45, 13, 14, 16, 58, 59, 60, 61, 62, 63, 64, 65, 66, 67, 68, 69, 70, 71, 72, 73] (by decide +kernel) (by decide +kernel)
set_option maxRecDepth 20000 in
theorem gX0_send_X0_lowestStakeOf : GoodIn wsX0_send (wsV RX0 87 RX0 yX0_lowestStakeOf wsX0_lowestStakeOf) := goodIn_app (goodIn_of _ (by decide +kernel)) ggX0_send_X0_lowestStakeOf
set_option maxRecDepth 20000 in
theorem ggX0_send_X0_homeOf : GoodIn wsX0_send wsX0_homeOf := goodIn_r _ [48] (by decide +kernel) (by decide +kernel)
set_option maxRecDepth 20000 in
theorem gX0_send_X0_homeOf : GoodIn wsX0_send (va_wsS RX0 96 yX0_homeOf wsX0_homeOf) := goodIn_app (goodIn_of _ (by decide +kernel)) ggX0_send_X0_homeOf
set_option maxRecDepth 20000 in
theorem ggX0_send_X0_layAt : GoodIn wsX0_send wsX0_layAt := goodIn_r _ [52, 53, 54, 37, 38, 39, 15, 40, 8, 55, 56, 57, 58, 59, 60, 61, 62, 63, 64, 65, 66, 67, 68, 69, 70, 71, 72, 73] (by decide +kernel) (by decide +kernel)
set_option maxRecDepth 20000 in
theorem gX0_send_X0_layAt : GoodIn wsX0_send (wsV RX0 99 RX0 yX0_layAt wsX0_layAt) := goodIn_app (goodIn_of _ (by decide +kernel)) ggX0_send_X0_layAt
theorem dX0_send_0 : decode cX0_send 0 = .ok (.iload_n 1, 1) := by decide +kernel
theorem dX0_send_1 : decode cX0_send 1 = .ok (.invokestatic 80, 3) := by decide +kernel
theorem dX0_send_4 : decode cX0_send 4 = .ok (.ifCond .eq 10, 3) := by decide +kernel
theorem dX0_send_7 : decode cX0_send 7 = .ok (.iload_n 2, 1) := by decide +kernel
theorem dX0_send_8 : decode cX0_send 8 = .ok (.invokestatic 80, 3) := by decide +kernel
theorem dX0_send_11 : decode cX0_send 11 = .ok (.ifCond .ne 13, 3) := by decide +kernel
theorem dX0_send_14 : decode cX0_send 14 = .ok (.new 64, 3) := by decide +kernel
theorem dX0_send_17 : decode cX0_send 17 = .ok (.dup, 1) := by decide +kernel
theorem dX0_send_18 : decode cX0_send 18 = .ok (.ldc 83, 2) := by decide +kernel
theorem dX0_send_20 : decode cX0_send 20 = .ok (.invokespecial 68, 3) := by decide +kernel
theorem dX0_send_23 : decode cX0_send 23 = .ok (.athrow, 1) := by decide +kernel
theorem dX0_send_24 : decode cX0_send 24 = .ok (.iload_n 1, 1) := by decide +kernel
theorem dX0_send_25 : decode cX0_send 25 = .ok (.iload_n 2, 1) := by decide +kernel
theorem dX0_send_26 : decode cX0_send 26 = .ok (.if_icmp .eq 13, 3) := by decide +kernel
theorem dX0_send_29 : decode cX0_send 29 = .ok (.iload_n 3, 1) := by decide +kernel
theorem dX0_send_30 : decode cX0_send 30 = .ok (.ifCond .lt 9, 3) := by decide +kernel
theorem dX0_send_33 : decode cX0_send 33 = .ok (.iload_n 3, 1) := by decide +kernel
theorem dX0_send_34 : decode cX0_send 34 = .ok (.bipush 20, 2) := by decide +kernel
theorem dX0_send_36 : decode cX0_send 36 = .ok (.if_icmp .le 13, 3) := by decide +kernel
theorem dX0_send_39 : decode cX0_send 39 = .ok (.new 71, 3) := by decide +kernel
theorem dX0_send_42 : decode cX0_send 42 = .ok (.dup, 1) := by decide +kernel
theorem dX0_send_43 : decode cX0_send 43 = .ok (.ldc 85, 2) := by decide +kernel
theorem dX0_send_45 : decode cX0_send 45 = .ok (.invokespecial 75, 3) := by decide +kernel
theorem dX0_send_48 : decode cX0_send 48 = .ok (.athrow, 1) := by decide +kernel
theorem dX0_send_49 : decode cX0_send 49 = .ok (.iload_n 3, 1) := by decide +kernel
theorem dX0_send_50 : decode cX0_send 50 = .ok (.aload_n 0, 1) := by decide +kernel
theorem dX0_send_51 : decode cX0_send 51 = .ok (.iload_n 1, 1) := by decide +kernel
theorem dX0_send_52 : decode cX0_send 52 = .ok (.invokevirtual 87, 3) := by decide +kernel
theorem dX0_send_55 : decode cX0_send 55 = .ok (.if_icmp .lt 22, 3) := by decide +kernel
theorem dX0_send_58 : decode cX0_send 58 = .ok (.aload_n 0, 1) := by decide +kernel
theorem dX0_send_59 : decode cX0_send 59 = .ok (.getfield 35, 3) := by decide +kernel
theorem dX0_send_62 : decode cX0_send 62 = .ok (.iload_n 1, 1) := by decide +kernel
theorem dX0_send_63 : decode cX0_send 63 = .ok (.iaload, 1) := by decide +kernel
theorem dX0_send_64 : decode cX0_send 64 = .ok (.iload_n 3, 1) := by decide +kernel
theorem dX0_send_65 : decode cX0_send 65 = .ok (.if_icmp .lt 12, 3) := by decide +kernel
theorem dX0_send_68 : decode cX0_send 68 = .ok (.aload_n 0, 1) := by decide +kernel
theorem dX0_send_69 : decode cX0_send 69 = .ok (.getfield 47, 3) := by decide +kernel
theorem dX0_send_72 : decode cX0_send 72 = .ok (.bipush 60, 2) := by decide +kernel
theorem dX0_send_74 : decode cX0_send 74 = .ok (.if_icmp .lt 13, 3) := by decide +kernel
theorem dX0_send_77 : decode cX0_send 77 = .ok (.new 91, 3) := by decide +kernel
theorem dX0_send_80 : decode cX0_send 80 = .ok (.dup, 1) := by decide +kernel
theorem dX0_send_81 : decode cX0_send 81 = .ok (.ldc 93, 2) := by decide +kernel
theorem dX0_send_83 : decode cX0_send 83 = .ok (.invokespecial 95, 3) := by decide +kernel
theorem dX0_send_86 : decode cX0_send 86 = .ok (.athrow, 1) := by decide +kernel
theorem dX0_send_87 : decode cX0_send 87 = .ok (.aload_n 0, 1) := by decide +kernel
theorem dX0_send_88 : decode cX0_send 88 = .ok (.getfield 47, 3) := by decide +kernel
theorem dX0_send_91 : decode cX0_send 91 = .ok (.istore 4, 2) := by decide +kernel
theorem dX0_send_93 : decode cX0_send 93 = .ok (.aload_n 0, 1) := by decide +kernel
theorem dX0_send_94 : decode cX0_send 94 = .ok (.dup, 1) := by decide +kernel
theorem dX0_send_95 : decode cX0_send 95 = .ok (.getfield 47, 3) := by decide +kernel
theorem dX0_send_98 : decode cX0_send 98 = .ok (.iconst 1, 1) := by decide +kernel
theorem dX0_send_99 : decode cX0_send 99 = .ok (.iadd, 1) := by decide +kernel
theorem dX0_send_100 : decode cX0_send 100 = .ok (.putfield 47, 3) := by decide +kernel
theorem dX0_send_103 : decode cX0_send 103 = .ok (.aload_n 0, 1) := by decide +kernel
theorem dX0_send_104 : decode cX0_send 104 = .ok (.getfield 9, 3) := by decide +kernel
theorem dX0_send_107 : decode cX0_send 107 = .ok (.iload 4, 2) := by decide +kernel
theorem dX0_send_109 : decode cX0_send 109 = .ok (.iload_n 1, 1) := by decide +kernel
theorem dX0_send_110 : decode cX0_send 110 = .ok (.iastore, 1) := by decide +kernel
theorem dX0_send_111 : decode cX0_send 111 = .ok (.aload_n 0, 1) := by decide +kernel
theorem dX0_send_112 : decode cX0_send 112 = .ok (.getfield 13, 3) := by decide +kernel
theorem dX0_send_115 : decode cX0_send 115 = .ok (.iload 4, 2) := by decide +kernel
theorem dX0_send_117 : decode cX0_send 117 = .ok (.iload_n 2, 1) := by decide +kernel
theorem dX0_send_118 : decode cX0_send 118 = .ok (.iastore, 1) := by decide +kernel
theorem dX0_send_119 : decode cX0_send 119 = .ok (.aload_n 0, 1) := by decide +kernel
theorem dX0_send_120 : decode cX0_send 120 = .ok (.getfield 16, 3) := by decide +kernel
theorem dX0_send_123 : decode cX0_send 123 = .ok (.iload 4, 2) := by decide +kernel
theorem dX0_send_125 : decode cX0_send 125 = .ok (.iload_n 3, 1) := by decide +kernel
theorem dX0_send_126 : decode cX0_send 126 = .ok (.iastore, 1) := by decide +kernel
theorem dX0_send_127 : decode cX0_send 127 = .ok (.aload_n 0, 1) := by decide +kernel
theorem dX0_send_128 : decode cX0_send 128 = .ok (.getfield 19, 3) := by decide +kernel
theorem dX0_send_131 : decode cX0_send 131 = .ok (.iload 4, 2) := by decide +kernel
theorem dX0_send_133 : decode cX0_send 133 = .ok (.iconst 0, 1) := by decide +kernel
theorem dX0_send_134 : decode cX0_send 134 = .ok (.iastore, 1) := by decide +kernel
theorem dX0_send_135 : decode cX0_send 135 = .ok (.aload_n 0, 1) := by decide +kernel
theorem dX0_send_136 : decode cX0_send 136 = .ok (.getfield 35, 3) := by decide +kernel
theorem dX0_send_139 : decode cX0_send 139 = .ok (.iload_n 1, 1) := by decide +kernel
theorem dX0_send_140 : decode cX0_send 140 = .ok (.dup2, 1) := by decide +kernel
theorem dX0_send_141 : decode cX0_send 141 = .ok (.iaload, 1) := by decide +kernel
theorem dX0_send_142 : decode cX0_send 142 = .ok (.iload_n 3, 1) := by decide +kernel
theorem dX0_send_143 : decode cX0_send 143 = .ok (.isub, 1) := by decide +kernel
theorem dX0_send_144 : decode cX0_send 144 = .ok (.iastore, 1) := by decide +kernel
theorem dX0_send_145 : decode cX0_send 145 = .ok (.aload_n 0, 1) := by decide +kernel
theorem dX0_send_146 : decode cX0_send 146 = .ok (.iload 4, 2) := by decide +kernel
theorem dX0_send_148 : decode cX0_send 148 = .ok (.iload_n 1, 1) := by decide +kernel
theorem dX0_send_149 : decode cX0_send 149 = .ok (.invokestatic 96, 3) := by decide +kernel
theorem dX0_send_152 : decode cX0_send 152 = .ok (.invokevirtual 99, 3) := by decide +kernel
theorem dX0_send_155 : decode cX0_send 155 = .ok (.iload 4, 2) := by decide +kernel
theorem dX0_send_157 : decode cX0_send 157 = .ok (.ireturn, 1) := by decide +kernel
set_option maxRecDepth 20000 in
theorem ggX0_pass_X0_passOneTick : GoodIn wsX0_pass wsX0_passOneTick := goodIn_r _ [11, 5, 12, 13, 14, 10, 15, 16, 17, 18, 19, 20, 21, 22, 23, 24, 25, 26, 27, 28, 29, 30, 31, 32, 33, 34, 35, 36, 37, 38, 39, 40, 41, 42, 43, 44, 45, 46, 47, 48, 49, 50, 51, 52, 53, 54, 55, 56, 57, 58, 59, 60, 61, 62, 63, 64, 65, 66, 67, 68, 69, 70, 71, 72, 73, 74, 75, 76, 77, 78, 79, 80, 81, 82, 83, 84, 85, 86, 87, 88, 89, 90, 91, 92, 93, 94, 95, 96, 97, 98, 99, 100, 101, 102, 103, 104, 105, 106, 107, 108, 109, 110, 111, 112, 113, 114] (by decide +kernel) (by decide +kernel)
set_option maxRecDepth 20000 in
theorem gX0_pass_X0_passOneTick : GoodIn wsX0_pass (wsV RX0 108 RX0 yX0_passOneTick wsX0_passOneTick) := goodIn_app (goodIn_of _ (by decide +kernel)) ggX0_pass_X0_passOneTick
theorem dX0_pass_0 : decode cX0_pass 0 = .ok (.iload_n 1, 1) := by decide +kernel
theorem dX0_pass_1 : decode cX0_pass 1 = .ok (.iconst 1, 1) := by decide +kernel
theorem dX0_pass_2 : decode cX0_pass 2 = .ok (.if_icmp .lt 9, 3) := by decide +kernel
theorem dX0_pass_5 : decode cX0_pass 5 = .ok (.iload_n 1, 1) := by decide +kernel
theorem dX0_pass_6 : decode cX0_pass 6 = .ok (.bipush 50, 2) := by decide +kernel
theorem dX0_pass_8 : decode cX0_pass 8 = .ok (.if_icmp .le 13, 3) := by decide +kernel
theorem dX0_pass_11 : decode cX0_pass 11 = .ok (.new 71, 3) := by decide +kernel
theorem dX0_pass_14 : decode cX0_pass 14 = .ok (.dup, 1) := by decide +kernel
theorem dX0_pass_15 : decode cX0_pass 15 = .ok (.ldc 103, 2) := by decide +kernel
theorem dX0_pass_17 : decode cX0_pass 17 = .ok (.invokespecial 75, 3) := by decide +kernel
theorem dX0_pass_20 : decode cX0_pass 20 = .ok (.athrow, 1) := by decide +kernel
theorem dX0_pass_21 : decode cX0_pass 21 = .ok (.aload_n 0, 1) := by decide +kernel
theorem dX0_pass_22 : decode cX0_pass 22 = .ok (.getfield 51, 3) := by decide +kernel
theorem dX0_pass_25 : decode cX0_pass 25 = .ok (.ldc 105, 2) := by decide +kernel
theorem dX0_pass_27 : decode cX0_pass 27 = .ok (.iload_n 1, 1) := by decide +kernel
theorem dX0_pass_28 : decode cX0_pass 28 = .ok (.isub, 1) := by decide +kernel
theorem dX0_pass_29 : decode cX0_pass 29 = .ok (.if_icmp .le 13, 3) := by decide +kernel
theorem dX0_pass_32 : decode cX0_pass 32 = .ok (.new 91, 3) := by decide +kernel
theorem dX0_pass_35 : decode cX0_pass 35 = .ok (.dup, 1) := by decide +kernel
theorem dX0_pass_36 : decode cX0_pass 36 = .ok (.ldc 106, 2) := by decide +kernel
theorem dX0_pass_38 : decode cX0_pass 38 = .ok (.invokespecial 95, 3) := by decide +kernel
theorem dX0_pass_41 : decode cX0_pass 41 = .ok (.athrow, 1) := by decide +kernel
theorem dX0_pass_42 : decode cX0_pass 42 = .ok (.iconst 0, 1) := by decide +kernel
theorem dX0_pass_43 : decode cX0_pass 43 = .ok (.istore_n 2, 1) := by decide +kernel
theorem dX0_pass_44 : decode cX0_pass 44 = .ok (.iconst 0, 1) := by decide +kernel
theorem dX0_pass_45 : decode cX0_pass 45 = .ok (.istore_n 3, 1) := by decide +kernel
theorem dX0_pass_46 : decode cX0_pass 46 = .ok (.iload_n 3, 1) := by decide +kernel
theorem dX0_pass_47 : decode cX0_pass 47 = .ok (.iload_n 1, 1) := by decide +kernel
theorem dX0_pass_48 : decode cX0_pass 48 = .ok (.if_icmp .ge 16, 3) := by decide +kernel
theorem dX0_pass_51 : decode cX0_pass 51 = .ok (.iload_n 2, 1) := by decide +kernel
theorem dX0_pass_52 : decode cX0_pass 52 = .ok (.aload_n 0, 1) := by decide +kernel
theorem dX0_pass_53 : decode cX0_pass 53 = .ok (.invokevirtual 108, 3) := by decide +kernel
theorem dX0_pass_56 : decode cX0_pass 56 = .ok (.iadd, 1) := by decide +kernel
theorem dX0_pass_57 : decode cX0_pass 57 = .ok (.istore_n 2, 1) := by decide +kernel
theorem dX0_pass_58 : decode cX0_pass 58 = .ok (.iinc 3 1, 3) := by decide +kernel
theorem dX0_pass_61 : decode cX0_pass 61 = .ok (.goto (-15), 3) := by decide +kernel
theorem dX0_pass_64 : decode cX0_pass 64 = .ok (.iload_n 2, 1) := by decide +kernel
theorem dX0_pass_65 : decode cX0_pass 65 = .ok (.ireturn, 1) := by decide +kernel
set_option maxRecDepth 20000 in
theorem ggX0_answer_X0_isLetter : GoodIn wsX0_answer wsX0_isLetter := goodIn_r _ [11, 12, 41, 42, 43, 44, 45, 46, 47, 48, 49, 50, 51, 52, 53, 54, 55, 56] (by decide +kernel) (by decide +kernel)
set_option maxRecDepth 20000 in
theorem gX0_answer_X0_isLetter : GoodIn wsX0_answer (wsV RX0 112 RX0 yX0_isLetter wsX0_isLetter) := goodIn_app (goodIn_of _ (by decide +kernel)) ggX0_answer_X0_isLetter
set_option maxRecDepth 20000 in
theorem ggX0_answer_X0_giveStakeBack : GoodIn wsX0_answer wsX0_giveStakeBack := goodIn_r _ [16, 6, 17, 18, 7, 8, 9, 10, 11, 12, 19, 20, 21, 41, 42, 43, 44, 45, 46, 47, 48, 49, 50, 51, 52, 53, 54, 55, 56] (by decide +kernel) (by decide +kernel)
set_option maxRecDepth 20000 in
theorem gX0_answer_X0_giveStakeBack : GoodIn wsX0_answer (wsV RX0 119 RX0 yX0_giveStakeBack wsX0_giveStakeBack) := goodIn_app (goodIn_of _ (by decide +kernel)) ggX0_answer_X0_giveStakeBack
set_option maxRecDepth 20000 in
theorem ggX0_answer_X0_reputationOf : GoodIn wsX0_answer wsX0_reputationOf := goodIn_r _ [25, 12, 6, 26, 27, 28, 10, 29, 5, 30, 31, 7, 8, 9, 11, 32, 33, 34, 35, 36, 37, 38, 39, 40, 19, 20, 21, 41, 42, 43, 44, 45, 46, 47, 48, 49, 50, 51, 52, 53, 54, 55, 56] (by decide +kernel) (by decide +kernel)
set_option maxRecDepth 20000 in
theorem gX0_answer_X0_reputationOf : GoodIn wsX0_answer (wsV RX0 123 RX0 yX0_reputationOf wsX0_reputationOf) := goodIn_app (goodIn_of _ (by decide +kernel)) ggX0_answer_X0_reputationOf
theorem dX0_answer_0 : decode cX0_answer 0 = .ok (.aload_n 0, 1) := by decide +kernel
theorem dX0_answer_1 : decode cX0_answer 1 = .ok (.iload_n 1, 1) := by decide +kernel
theorem dX0_answer_2 : decode cX0_answer 2 = .ok (.invokevirtual 112, 3) := by decide +kernel
theorem dX0_answer_5 : decode cX0_answer 5 = .ok (.ifCond .ne 13, 3) := by decide +kernel
theorem dX0_answer_8 : decode cX0_answer 8 = .ok (.new 64, 3) := by decide +kernel
theorem dX0_answer_11 : decode cX0_answer 11 = .ok (.dup, 1) := by decide +kernel
theorem dX0_answer_12 : decode cX0_answer 12 = .ok (.ldc 115, 2) := by decide +kernel
theorem dX0_answer_14 : decode cX0_answer 14 = .ok (.invokespecial 68, 3) := by decide +kernel
theorem dX0_answer_17 : decode cX0_answer 17 = .ok (.athrow, 1) := by decide +kernel
theorem dX0_answer_18 : decode cX0_answer 18 = .ok (.aload_n 0, 1) := by decide +kernel
theorem dX0_answer_19 : decode cX0_answer 19 = .ok (.getfield 19, 3) := by decide +kernel
theorem dX0_answer_22 : decode cX0_answer 22 = .ok (.iload_n 1, 1) := by decide +kernel
theorem dX0_answer_23 : decode cX0_answer 23 = .ok (.iaload, 1) := by decide +kernel
theorem dX0_answer_24 : decode cX0_answer 24 = .ok (.iconst 1, 1) := by decide +kernel
theorem dX0_answer_25 : decode cX0_answer 25 = .ok (.if_icmp .eq 13, 3) := by decide +kernel
theorem dX0_answer_28 : decode cX0_answer 28 = .ok (.new 91, 3) := by decide +kernel
theorem dX0_answer_31 : decode cX0_answer 31 = .ok (.dup, 1) := by decide +kernel
theorem dX0_answer_32 : decode cX0_answer 32 = .ok (.ldc 117, 2) := by decide +kernel
theorem dX0_answer_34 : decode cX0_answer 34 = .ok (.invokespecial 95, 3) := by decide +kernel
theorem dX0_answer_37 : decode cX0_answer 37 = .ok (.athrow, 1) := by decide +kernel
theorem dX0_answer_38 : decode cX0_answer 38 = .ok (.aload_n 0, 1) := by decide +kernel
theorem dX0_answer_39 : decode cX0_answer 39 = .ok (.getfield 19, 3) := by decide +kernel
theorem dX0_answer_42 : decode cX0_answer 42 = .ok (.iload_n 1, 1) := by decide +kernel
theorem dX0_answer_43 : decode cX0_answer 43 = .ok (.iconst 2, 1) := by decide +kernel
theorem dX0_answer_44 : decode cX0_answer 44 = .ok (.iastore, 1) := by decide +kernel
theorem dX0_answer_45 : decode cX0_answer 45 = .ok (.aload_n 0, 1) := by decide +kernel
theorem dX0_answer_46 : decode cX0_answer 46 = .ok (.iload_n 1, 1) := by decide +kernel
theorem dX0_answer_47 : decode cX0_answer 47 = .ok (.invokevirtual 119, 3) := by decide +kernel
theorem dX0_answer_50 : decode cX0_answer 50 = .ok (.aload_n 0, 1) := by decide +kernel
theorem dX0_answer_51 : decode cX0_answer 51 = .ok (.aload_n 0, 1) := by decide +kernel
theorem dX0_answer_52 : decode cX0_answer 52 = .ok (.getfield 9, 3) := by decide +kernel
theorem dX0_answer_55 : decode cX0_answer 55 = .ok (.iload_n 1, 1) := by decide +kernel
theorem dX0_answer_56 : decode cX0_answer 56 = .ok (.iaload, 1) := by decide +kernel
theorem dX0_answer_57 : decode cX0_answer 57 = .ok (.invokevirtual 123, 3) := by decide +kernel
theorem dX0_answer_60 : decode cX0_answer 60 = .ok (.ireturn, 1) := by decide +kernel
set_option maxRecDepth 20000 in
theorem ggX0_mark_X0_isLetter : GoodIn wsX0_mark wsX0_isLetter := goodIn_r _ [14, 15, 51, 52, 53, 54, 55, 56, 57, 58, 59, 60, 61, 62, 63, 64, 65, 66] (by decide +kernel) (by decide +kernel)
set_option maxRecDepth 20000 in
theorem gX0_mark_X0_isLetter : GoodIn wsX0_mark (wsV RX0 112 RX0 yX0_isLetter wsX0_isLetter) := goodIn_app (goodIn_of _ (by decide +kernel)) ggX0_mark_X0_isLetter
set_option maxRecDepth 20000 in
theorem ggX0_mark_X0_homeOf : GoodIn wsX0_mark wsX0_homeOf := goodIn_r _ [18] (by decide +kernel) (by decide +kernel)
set_option maxRecDepth 20000 in
theorem gX0_mark_X0_homeOf : GoodIn wsX0_mark (va_wsS RX0 96 yX0_homeOf wsX0_homeOf) := goodIn_app (goodIn_of _ (by decide +kernel)) ggX0_mark_X0_homeOf
set_option maxRecDepth 20000 in
theorem ggX0_mark_X0_putStakeIntoPool : GoodIn wsX0_mark wsX0_putStakeIntoPool := goodIn_r _ [22, 23, 9, 10, 11, 12, 13, 14, 15, 24, 25, 26, 51, 52, 53, 54, 55, 56, 57, 58, 59, 60, 61, 62, 63, 64, 65, 66] (by decide +kernel) (by decide +kernel)
set_option maxRecDepth 20000 in
theorem gX0_mark_X0_putStakeIntoPool : GoodIn wsX0_mark (wsV RX0 126 RX0 yX0_putStakeIntoPool wsX0_putStakeIntoPool) := goodIn_app (goodIn_of _ (by decide +kernel)) ggX0_mark_X0_putStakeIntoPool
set_option maxRecDepth 20000 in
theorem ggX0_mark_X0_othersWhoAnswered : GoodIn wsX0_mark wsX0_othersWhoAnswered := goodIn_r _ [30, 15, 5, 7, 6, 31, 32, 33, 34, 35, 36, 37, 51, 52, 53, 54, 55, 56, 57, 58, 59, 60, 61, 62, 63, 64, 65, 66] (by decide +kernel) (by decide +kernel)
set_option maxRecDepth 20000 in
theorem gX0_mark_X0_othersWhoAnswered : GoodIn wsX0_mark (wsV RX0 129 RX0 yX0_othersWhoAnswered wsX0_othersWhoAnswered) := goodIn_app (goodIn_of _ (by decide +kernel)) ggX0_mark_X0_othersWhoAnswered
set_option maxRecDepth 20000 in
theorem ggX0_mark_X0_payForFalseMark : GoodIn wsX0_mark wsX0_payForFalseMark := goodIn_r _ [41, 42, 43, 44, 45, 46, 47, 48, 49, 13, 50, 51, 52, 53, 54, 55, 56, 57, 58, 59, 60, 61, 62, 63, 64, 65, 66] (by decide +kernel) (by decide +kernel)
set_option maxRecDepth 20000 in
theorem gX0_mark_X0_payForFalseMark : GoodIn wsX0_mark (wsV RX0 132 RX0 yX0_payForFalseMark wsX0_payForFalseMark) := goodIn_app (goodIn_of _ (by decide +kernel)) ggX0_mark_X0_payForFalseMark
theorem dX0_mark_0 : decode cX0_mark 0 = .ok (.aload_n 0, 1) := by decide +kernel
theorem dX0_mark_1 : decode cX0_mark 1 = .ok (.iload_n 1, 1) := by decide +kernel
theorem dX0_mark_2 : decode cX0_mark 2 = .ok (.invokevirtual 112, 3) := by decide +kernel
theorem dX0_mark_5 : decode cX0_mark 5 = .ok (.ifCond .ne 13, 3) := by decide +kernel
theorem dX0_mark_8 : decode cX0_mark 8 = .ok (.new 64, 3) := by decide +kernel
theorem dX0_mark_11 : decode cX0_mark 11 = .ok (.dup, 1) := by decide +kernel
theorem dX0_mark_12 : decode cX0_mark 12 = .ok (.ldc 115, 2) := by decide +kernel
theorem dX0_mark_14 : decode cX0_mark 14 = .ok (.invokespecial 68, 3) := by decide +kernel
theorem dX0_mark_17 : decode cX0_mark 17 = .ok (.athrow, 1) := by decide +kernel
theorem dX0_mark_18 : decode cX0_mark 18 = .ok (.aload_n 0, 1) := by decide +kernel
theorem dX0_mark_19 : decode cX0_mark 19 = .ok (.getfield 19, 3) := by decide +kernel
theorem dX0_mark_22 : decode cX0_mark 22 = .ok (.iload_n 1, 1) := by decide +kernel
theorem dX0_mark_23 : decode cX0_mark 23 = .ok (.iaload, 1) := by decide +kernel
theorem dX0_mark_24 : decode cX0_mark 24 = .ok (.iconst 1, 1) := by decide +kernel
theorem dX0_mark_25 : decode cX0_mark 25 = .ok (.if_icmp .eq 13, 3) := by decide +kernel
theorem dX0_mark_28 : decode cX0_mark 28 = .ok (.new 91, 3) := by decide +kernel
theorem dX0_mark_31 : decode cX0_mark 31 = .ok (.dup, 1) := by decide +kernel
theorem dX0_mark_32 : decode cX0_mark 32 = .ok (.ldc 117, 2) := by decide +kernel
theorem dX0_mark_34 : decode cX0_mark 34 = .ok (.invokespecial 95, 3) := by decide +kernel
theorem dX0_mark_37 : decode cX0_mark 37 = .ok (.athrow, 1) := by decide +kernel
theorem dX0_mark_38 : decode cX0_mark 38 = .ok (.aload_n 0, 1) := by decide +kernel
theorem dX0_mark_39 : decode cX0_mark 39 = .ok (.getfield 19, 3) := by decide +kernel
theorem dX0_mark_42 : decode cX0_mark 42 = .ok (.iload_n 1, 1) := by decide +kernel
theorem dX0_mark_43 : decode cX0_mark 43 = .ok (.iconst 3, 1) := by decide +kernel
theorem dX0_mark_44 : decode cX0_mark 44 = .ok (.iastore, 1) := by decide +kernel
theorem dX0_mark_45 : decode cX0_mark 45 = .ok (.aload_n 0, 1) := by decide +kernel
theorem dX0_mark_46 : decode cX0_mark 46 = .ok (.iload_n 1, 1) := by decide +kernel
theorem dX0_mark_47 : decode cX0_mark 47 = .ok (.aload_n 0, 1) := by decide +kernel
theorem dX0_mark_48 : decode cX0_mark 48 = .ok (.getfield 13, 3) := by decide +kernel
theorem dX0_mark_51 : decode cX0_mark 51 = .ok (.iload_n 1, 1) := by decide +kernel
theorem dX0_mark_52 : decode cX0_mark 52 = .ok (.iaload, 1) := by decide +kernel
theorem dX0_mark_53 : decode cX0_mark 53 = .ok (.invokestatic 96, 3) := by decide +kernel
theorem dX0_mark_56 : decode cX0_mark 56 = .ok (.invokevirtual 126, 3) := by decide +kernel
theorem dX0_mark_59 : decode cX0_mark 59 = .ok (.aload_n 0, 1) := by decide +kernel
theorem dX0_mark_60 : decode cX0_mark 60 = .ok (.aload_n 0, 1) := by decide +kernel
theorem dX0_mark_61 : decode cX0_mark 61 = .ok (.getfield 9, 3) := by decide +kernel
theorem dX0_mark_64 : decode cX0_mark 64 = .ok (.iload_n 1, 1) := by decide +kernel
theorem dX0_mark_65 : decode cX0_mark 65 = .ok (.iaload, 1) := by decide +kernel
theorem dX0_mark_66 : decode cX0_mark 66 = .ok (.aload_n 0, 1) := by decide +kernel
theorem dX0_mark_67 : decode cX0_mark 67 = .ok (.getfield 13, 3) := by decide +kernel
theorem dX0_mark_70 : decode cX0_mark 70 = .ok (.iload_n 1, 1) := by decide +kernel
theorem dX0_mark_71 : decode cX0_mark 71 = .ok (.iaload, 1) := by decide +kernel
theorem dX0_mark_72 : decode cX0_mark 72 = .ok (.invokevirtual 129, 3) := by decide +kernel
theorem dX0_mark_75 : decode cX0_mark 75 = .ok (.iconst 3, 1) := by decide +kernel
theorem dX0_mark_76 : decode cX0_mark 76 = .ok (.if_icmp .ge 5, 3) := by decide +kernel
theorem dX0_mark_79 : decode cX0_mark 79 = .ok (.iconst 0, 1) := by decide +kernel
theorem dX0_mark_80 : decode cX0_mark 80 = .ok (.ireturn, 1) := by decide +kernel
theorem dX0_mark_81 : decode cX0_mark 81 = .ok (.aload_n 0, 1) := by decide +kernel
theorem dX0_mark_82 : decode cX0_mark 82 = .ok (.getfield 31, 3) := by decide +kernel
theorem dX0_mark_85 : decode cX0_mark 85 = .ok (.iload_n 1, 1) := by decide +kernel
theorem dX0_mark_86 : decode cX0_mark 86 = .ok (.iconst 1, 1) := by decide +kernel
theorem dX0_mark_87 : decode cX0_mark 87 = .ok (.bastore, 1) := by decide +kernel
theorem dX0_mark_88 : decode cX0_mark 88 = .ok (.aload_n 0, 1) := by decide +kernel
theorem dX0_mark_89 : decode cX0_mark 89 = .ok (.aload_n 0, 1) := by decide +kernel
theorem dX0_mark_90 : decode cX0_mark 90 = .ok (.getfield 13, 3) := by decide +kernel
theorem dX0_mark_93 : decode cX0_mark 93 = .ok (.iload_n 1, 1) := by decide +kernel
theorem dX0_mark_94 : decode cX0_mark 94 = .ok (.iaload, 1) := by decide +kernel
theorem dX0_mark_95 : decode cX0_mark 95 = .ok (.aload_n 0, 1) := by decide +kernel
theorem dX0_mark_96 : decode cX0_mark 96 = .ok (.getfield 9, 3) := by decide +kernel
theorem dX0_mark_99 : decode cX0_mark 99 = .ok (.iload_n 1, 1) := by decide +kernel
theorem dX0_mark_100 : decode cX0_mark 100 = .ok (.iaload, 1) := by decide +kernel
theorem dX0_mark_101 : decode cX0_mark 101 = .ok (.aload_n 0, 1) := by decide +kernel
theorem dX0_mark_102 : decode cX0_mark 102 = .ok (.getfield 16, 3) := by decide +kernel
theorem dX0_mark_105 : decode cX0_mark 105 = .ok (.iload_n 1, 1) := by decide +kernel
theorem dX0_mark_106 : decode cX0_mark 106 = .ok (.iaload, 1) := by decide +kernel
theorem dX0_mark_107 : decode cX0_mark 107 = .ok (.invokevirtual 132, 3) := by decide +kernel
theorem dX0_mark_110 : decode cX0_mark 110 = .ok (.ireturn, 1) := by decide +kernel
theorem dX0_letters_0 : decode cX0_letters 0 = .ok (.aload_n 0, 1) := by decide +kernel
theorem dX0_letters_1 : decode cX0_letters 1 = .ok (.getfield 47, 3) := by decide +kernel
theorem dX0_letters_4 : decode cX0_letters 4 = .ok (.ireturn, 1) := by decide +kernel
theorem dX0_time_0 : decode cX0_time 0 = .ok (.aload_n 0, 1) := by decide +kernel
theorem dX0_time_1 : decode cX0_time 1 = .ok (.getfield 51, 3) := by decide +kernel
theorem dX0_time_4 : decode cX0_time 4 = .ok (.ireturn, 1) := by decide +kernel
set_option maxRecDepth 20000 in
theorem ggX0_stateOf_X0_isLetter : GoodIn wsX0_stateOf wsX0_isLetter := goodIn_r _ [8, 9, 10, 11, 12, 13, 14, 15, 16, 17, 18, 19, 20, 21, 22, 23, 24, 25] (by decide +kernel) (by decide +kernel)
set_option maxRecDepth 20000 in
theorem gX0_stateOf_X0_isLetter : GoodIn wsX0_stateOf (wsV RX0 112 RX0 yX0_isLetter wsX0_isLetter) := goodIn_app (goodIn_of _ (by decide +kernel)) ggX0_stateOf_X0_isLetter
theorem dX0_stateOf_0 : decode cX0_stateOf 0 = .ok (.aload_n 0, 1) := by decide +kernel
theorem dX0_stateOf_1 : decode cX0_stateOf 1 = .ok (.iload_n 1, 1) := by decide +kernel
theorem dX0_stateOf_2 : decode cX0_stateOf 2 = .ok (.invokevirtual 112, 3) := by decide +kernel
theorem dX0_stateOf_5 : decode cX0_stateOf 5 = .ok (.ifCond .ne 13, 3) := by decide +kernel
theorem dX0_stateOf_8 : decode cX0_stateOf 8 = .ok (.new 64, 3) := by decide +kernel
theorem dX0_stateOf_11 : decode cX0_stateOf 11 = .ok (.dup, 1) := by decide +kernel
theorem dX0_stateOf_12 : decode cX0_stateOf 12 = .ok (.ldc 115, 2) := by decide +kernel
theorem dX0_stateOf_14 : decode cX0_stateOf 14 = .ok (.invokespecial 68, 3) := by decide +kernel
theorem dX0_stateOf_17 : decode cX0_stateOf 17 = .ok (.athrow, 1) := by decide +kernel
theorem dX0_stateOf_18 : decode cX0_stateOf 18 = .ok (.aload_n 0, 1) := by decide +kernel
theorem dX0_stateOf_19 : decode cX0_stateOf 19 = .ok (.getfield 19, 3) := by decide +kernel
theorem dX0_stateOf_22 : decode cX0_stateOf 22 = .ok (.iload_n 1, 1) := by decide +kernel
theorem dX0_stateOf_23 : decode cX0_stateOf 23 = .ok (.iaload, 1) := by decide +kernel
theorem dX0_stateOf_24 : decode cX0_stateOf 24 = .ok (.ireturn, 1) := by decide +kernel
set_option maxRecDepth 20000 in
theorem ggX0_relayOf_X0_isLetter : GoodIn wsX0_relayOf wsX0_isLetter := goodIn_r _ [8, 9, 10, 11, 12, 13, 14, 15, 16, 17, 18, 19, 20, 21, 22, 23, 24, 25] (by decide +kernel) (by decide +kernel)
set_option maxRecDepth 20000 in
theorem gX0_relayOf_X0_isLetter : GoodIn wsX0_relayOf (wsV RX0 112 RX0 yX0_isLetter wsX0_isLetter) := goodIn_app (goodIn_of _ (by decide +kernel)) ggX0_relayOf_X0_isLetter
theorem dX0_relayOf_0 : decode cX0_relayOf 0 = .ok (.aload_n 0, 1) := by decide +kernel
theorem dX0_relayOf_1 : decode cX0_relayOf 1 = .ok (.iload_n 1, 1) := by decide +kernel
theorem dX0_relayOf_2 : decode cX0_relayOf 2 = .ok (.invokevirtual 112, 3) := by decide +kernel
theorem dX0_relayOf_5 : decode cX0_relayOf 5 = .ok (.ifCond .ne 13, 3) := by decide +kernel
theorem dX0_relayOf_8 : decode cX0_relayOf 8 = .ok (.new 64, 3) := by decide +kernel
theorem dX0_relayOf_11 : decode cX0_relayOf 11 = .ok (.dup, 1) := by decide +kernel
theorem dX0_relayOf_12 : decode cX0_relayOf 12 = .ok (.ldc 115, 2) := by decide +kernel
theorem dX0_relayOf_14 : decode cX0_relayOf 14 = .ok (.invokespecial 68, 3) := by decide +kernel
theorem dX0_relayOf_17 : decode cX0_relayOf 17 = .ok (.athrow, 1) := by decide +kernel
theorem dX0_relayOf_18 : decode cX0_relayOf 18 = .ok (.aload_n 0, 1) := by decide +kernel
theorem dX0_relayOf_19 : decode cX0_relayOf 19 = .ok (.getfield 22, 3) := by decide +kernel
theorem dX0_relayOf_22 : decode cX0_relayOf 22 = .ok (.iload_n 1, 1) := by decide +kernel
theorem dX0_relayOf_23 : decode cX0_relayOf 23 = .ok (.iaload, 1) := by decide +kernel
theorem dX0_relayOf_24 : decode cX0_relayOf 24 = .ok (.ireturn, 1) := by decide +kernel
set_option maxRecDepth 20000 in
theorem ggX0_marksOn_X0_isLetter : GoodIn wsX0_marksOn wsX0_isLetter := goodIn_r _ [8, 9, 10, 11, 12, 13, 14, 15, 16, 17, 18, 19, 20, 21, 22, 23, 24, 25] (by decide +kernel) (by decide +kernel)
set_option maxRecDepth 20000 in
theorem gX0_marksOn_X0_isLetter : GoodIn wsX0_marksOn (wsV RX0 112 RX0 yX0_isLetter wsX0_isLetter) := goodIn_app (goodIn_of _ (by decide +kernel)) ggX0_marksOn_X0_isLetter
theorem dX0_marksOn_0 : decode cX0_marksOn 0 = .ok (.aload_n 0, 1) := by decide +kernel
theorem dX0_marksOn_1 : decode cX0_marksOn 1 = .ok (.iload_n 1, 1) := by decide +kernel
theorem dX0_marksOn_2 : decode cX0_marksOn 2 = .ok (.invokevirtual 112, 3) := by decide +kernel
theorem dX0_marksOn_5 : decode cX0_marksOn 5 = .ok (.ifCond .ne 13, 3) := by decide +kernel
theorem dX0_marksOn_8 : decode cX0_marksOn 8 = .ok (.new 64, 3) := by decide +kernel
theorem dX0_marksOn_11 : decode cX0_marksOn 11 = .ok (.dup, 1) := by decide +kernel
theorem dX0_marksOn_12 : decode cX0_marksOn 12 = .ok (.ldc 115, 2) := by decide +kernel
theorem dX0_marksOn_14 : decode cX0_marksOn 14 = .ok (.invokespecial 68, 3) := by decide +kernel
theorem dX0_marksOn_17 : decode cX0_marksOn 17 = .ok (.athrow, 1) := by decide +kernel
theorem dX0_marksOn_18 : decode cX0_marksOn 18 = .ok (.aload_n 0, 1) := by decide +kernel
theorem dX0_marksOn_19 : decode cX0_marksOn 19 = .ok (.getfield 25, 3) := by decide +kernel
theorem dX0_marksOn_22 : decode cX0_marksOn 22 = .ok (.iload_n 1, 1) := by decide +kernel
theorem dX0_marksOn_23 : decode cX0_marksOn 23 = .ok (.iaload, 1) := by decide +kernel
theorem dX0_marksOn_24 : decode cX0_marksOn 24 = .ok (.ireturn, 1) := by decide +kernel
set_option maxRecDepth 20000 in
theorem ggX0_queue_X0_isRelay : GoodIn wsX0_queue wsX0_isRelay := goodIn_r _ [6] (by decide +kernel) (by decide +kernel)
set_option maxRecDepth 20000 in
theorem gX0_queue_X0_isRelay : GoodIn wsX0_queue (va_wsS RX0 60 yX0_isRelay wsX0_isRelay) := goodIn_app (goodIn_of _ (by decide +kernel)) ggX0_queue_X0_isRelay
set_option maxRecDepth 20000 in
theorem ggX0_queue_X0_lengthOfQueue : GoodIn wsX0_queue wsX0_lengthOfQueue := goodIn_r _ [10, 11, 12, 13, 14, 15, 16, 17, 18, 19, 20, 21, 22, 23, 24, 25, 26, 27, 28] (by decide +kernel) (by decide +kernel)
set_option maxRecDepth 20000 in
theorem gX0_queue_X0_lengthOfQueue : GoodIn wsX0_queue (wsV RX0 136 RX0 yX0_lengthOfQueue wsX0_lengthOfQueue) := goodIn_app (goodIn_of _ (by decide +kernel)) ggX0_queue_X0_lengthOfQueue
theorem dX0_queue_0 : decode cX0_queue 0 = .ok (.iload_n 1, 1) := by decide +kernel
theorem dX0_queue_1 : decode cX0_queue 1 = .ok (.invokestatic 60, 3) := by decide +kernel
theorem dX0_queue_4 : decode cX0_queue 4 = .ok (.ifCond .ne 13, 3) := by decide +kernel
theorem dX0_queue_7 : decode cX0_queue 7 = .ok (.new 64, 3) := by decide +kernel
theorem dX0_queue_10 : decode cX0_queue 10 = .ok (.dup, 1) := by decide +kernel
theorem dX0_queue_11 : decode cX0_queue 11 = .ok (.ldc 66, 2) := by decide +kernel
theorem dX0_queue_13 : decode cX0_queue 13 = .ok (.invokespecial 68, 3) := by decide +kernel
theorem dX0_queue_16 : decode cX0_queue 16 = .ok (.athrow, 1) := by decide +kernel
theorem dX0_queue_17 : decode cX0_queue 17 = .ok (.aload_n 0, 1) := by decide +kernel
theorem dX0_queue_18 : decode cX0_queue 18 = .ok (.iload_n 1, 1) := by decide +kernel
theorem dX0_queue_19 : decode cX0_queue 19 = .ok (.invokevirtual 136, 3) := by decide +kernel
theorem dX0_queue_22 : decode cX0_queue 22 = .ok (.ireturn, 1) := by decide +kernel
set_option maxRecDepth 20000 in
theorem ggX0_queueAt_X0_isRelay : GoodIn wsX0_queueAt wsX0_isRelay := goodIn_r _ [6] (by decide +kernel) (by decide +kernel)
set_option maxRecDepth 20000 in
theorem gX0_queueAt_X0_isRelay : GoodIn wsX0_queueAt (va_wsS RX0 60 yX0_isRelay wsX0_isRelay) := goodIn_app (goodIn_of _ (by decide +kernel)) ggX0_queueAt_X0_isRelay
set_option maxRecDepth 20000 in
theorem ggX0_queueAt_X0_lengthOfQueue : GoodIn wsX0_queueAt wsX0_lengthOfQueue := goodIn_r _ [10, 11, 12, 56, 57, 58, 59, 60, 61, 62, 63, 64, 65, 66, 67, 68, 69, 70, 71] (by decide +kernel) (by decide +kernel)
set_option maxRecDepth 20000 in
theorem gX0_queueAt_X0_lengthOfQueue : GoodIn wsX0_queueAt (wsV RX0 136 RX0 yX0_lengthOfQueue wsX0_lengthOfQueue) := goodIn_app (goodIn_of _ (by decide +kernel)) ggX0_queueAt_X0_lengthOfQueue
set_option maxRecDepth 20000 in
theorem ggX0_queueAt_X0_beginLookingAtQueues : GoodIn wsX0_queueAt wsX0_beginLookingAtQueues := goodIn_r _ [16, 11, 17, 12, 18, 19, 20, 5, 21, 22, 23, 24, 25, 26, 27, 28, 29, 30, 31, 32, 33, 34, 35, 36, 37, 38, 39, 40, 41, 42, 43, 44, 45, 46, 56, 57, 58, 59, 60, 61, 62, 63, 64, 65, 66, 67, 68, 69, 70, 71] (by decide +kernel) (by decide +kernel)
set_option maxRecDepth 20000 in
theorem gX0_queueAt_X0_beginLookingAtQueues : GoodIn wsX0_queueAt (wsV RX0 141 RX0 yX0_beginLookingAtQueues wsX0_beginLookingAtQueues) := goodIn_app (goodIn_of _ (by decide +kernel)) ggX0_queueAt_X0_beginLookingAtQueues
set_option maxRecDepth 20000 in
theorem ggX0_queueAt_X0_takeFirstWaiting : GoodIn wsX0_queueAt wsX0_takeFirstWaiting := goodIn_r _ [50, 11, 17, 51, 52, 53, 5, 54, 23, 55, 22, 34, 35, 36, 37, 24, 25, 26, 56, 57, 58, 59, 60, 61, 62, 63, 64, 65, 66, 67, 68, 69, 70, 71] (by decide +kernel) (by decide +kernel)
set_option maxRecDepth 20000 in
theorem gX0_queueAt_X0_takeFirstWaiting : GoodIn wsX0_queueAt (wsV RX0 144 RX0 yX0_takeFirstWaiting wsX0_takeFirstWaiting) := goodIn_app (goodIn_of _ (by decide +kernel)) ggX0_queueAt_X0_takeFirstWaiting
theorem dX0_queueAt_0 : decode cX0_queueAt 0 = .ok (.iload_n 1, 1) := by decide +kernel
theorem dX0_queueAt_1 : decode cX0_queueAt 1 = .ok (.invokestatic 60, 3) := by decide +kernel
theorem dX0_queueAt_4 : decode cX0_queueAt 4 = .ok (.ifCond .eq 16, 3) := by decide +kernel
theorem dX0_queueAt_7 : decode cX0_queueAt 7 = .ok (.iload_n 2, 1) := by decide +kernel
theorem dX0_queueAt_8 : decode cX0_queueAt 8 = .ok (.ifCond .lt 12, 3) := by decide +kernel
theorem dX0_queueAt_11 : decode cX0_queueAt 11 = .ok (.iload_n 2, 1) := by decide +kernel
theorem dX0_queueAt_12 : decode cX0_queueAt 12 = .ok (.aload_n 0, 1) := by decide +kernel
theorem dX0_queueAt_13 : decode cX0_queueAt 13 = .ok (.iload_n 1, 1) := by decide +kernel
theorem dX0_queueAt_14 : decode cX0_queueAt 14 = .ok (.invokevirtual 136, 3) := by decide +kernel
theorem dX0_queueAt_17 : decode cX0_queueAt 17 = .ok (.if_icmp .lt 13, 3) := by decide +kernel
theorem dX0_queueAt_20 : decode cX0_queueAt 20 = .ok (.new 64, 3) := by decide +kernel
theorem dX0_queueAt_23 : decode cX0_queueAt 23 = .ok (.dup, 1) := by decide +kernel
theorem dX0_queueAt_24 : decode cX0_queueAt 24 = .ok (.ldc 139, 2) := by decide +kernel
theorem dX0_queueAt_26 : decode cX0_queueAt 26 = .ok (.invokespecial 68, 3) := by decide +kernel
theorem dX0_queueAt_29 : decode cX0_queueAt 29 = .ok (.athrow, 1) := by decide +kernel
theorem dX0_queueAt_30 : decode cX0_queueAt 30 = .ok (.aload_n 0, 1) := by decide +kernel
theorem dX0_queueAt_31 : decode cX0_queueAt 31 = .ok (.invokevirtual 141, 3) := by decide +kernel
theorem dX0_queueAt_34 : decode cX0_queueAt 34 = .ok (.iconst 0, 1) := by decide +kernel
theorem dX0_queueAt_35 : decode cX0_queueAt 35 = .ok (.istore_n 3, 1) := by decide +kernel
theorem dX0_queueAt_36 : decode cX0_queueAt 36 = .ok (.iload_n 3, 1) := by decide +kernel
theorem dX0_queueAt_37 : decode cX0_queueAt 37 = .ok (.iload_n 2, 1) := by decide +kernel
theorem dX0_queueAt_38 : decode cX0_queueAt 38 = .ok (.if_icmp .ge 15, 3) := by decide +kernel
theorem dX0_queueAt_41 : decode cX0_queueAt 41 = .ok (.aload_n 0, 1) := by decide +kernel
theorem dX0_queueAt_42 : decode cX0_queueAt 42 = .ok (.iload_n 1, 1) := by decide +kernel
theorem dX0_queueAt_43 : decode cX0_queueAt 43 = .ok (.invokevirtual 144, 3) := by decide +kernel
theorem dX0_queueAt_46 : decode cX0_queueAt 46 = .ok (.pop, 1) := by decide +kernel
theorem dX0_queueAt_47 : decode cX0_queueAt 47 = .ok (.iinc 3 1, 3) := by decide +kernel
theorem dX0_queueAt_50 : decode cX0_queueAt 50 = .ok (.goto (-14), 3) := by decide +kernel
theorem dX0_queueAt_53 : decode cX0_queueAt 53 = .ok (.aload_n 0, 1) := by decide +kernel
theorem dX0_queueAt_54 : decode cX0_queueAt 54 = .ok (.iload_n 1, 1) := by decide +kernel
theorem dX0_queueAt_55 : decode cX0_queueAt 55 = .ok (.invokevirtual 144, 3) := by decide +kernel
theorem dX0_queueAt_58 : decode cX0_queueAt 58 = .ok (.ireturn, 1) := by decide +kernel
set_option maxRecDepth 20000 in
theorem ggX0_coins_X0_isPerson : GoodIn wsX0_coins wsX0_isPerson := goodIn_r _ [7] (by decide +kernel) (by decide +kernel)
set_option maxRecDepth 20000 in
theorem gX0_coins_X0_isPerson : GoodIn wsX0_coins (va_wsS RX0 80 yX0_isPerson wsX0_isPerson) := goodIn_app (goodIn_of _ (by decide +kernel)) ggX0_coins_X0_isPerson
theorem dX0_coins_0 : decode cX0_coins 0 = .ok (.iload_n 1, 1) := by decide +kernel
theorem dX0_coins_1 : decode cX0_coins 1 = .ok (.invokestatic 80, 3) := by decide +kernel
theorem dX0_coins_4 : decode cX0_coins 4 = .ok (.ifCond .ne 13, 3) := by decide +kernel
theorem dX0_coins_7 : decode cX0_coins 7 = .ok (.new 64, 3) := by decide +kernel
theorem dX0_coins_10 : decode cX0_coins 10 = .ok (.dup, 1) := by decide +kernel
theorem dX0_coins_11 : decode cX0_coins 11 = .ok (.ldc 83, 2) := by decide +kernel
theorem dX0_coins_13 : decode cX0_coins 13 = .ok (.invokespecial 68, 3) := by decide +kernel
theorem dX0_coins_16 : decode cX0_coins 16 = .ok (.athrow, 1) := by decide +kernel
theorem dX0_coins_17 : decode cX0_coins 17 = .ok (.aload_n 0, 1) := by decide +kernel
theorem dX0_coins_18 : decode cX0_coins 18 = .ok (.getfield 35, 3) := by decide +kernel
theorem dX0_coins_21 : decode cX0_coins 21 = .ok (.iload_n 1, 1) := by decide +kernel
theorem dX0_coins_22 : decode cX0_coins 22 = .ok (.iaload, 1) := by decide +kernel
theorem dX0_coins_23 : decode cX0_coins 23 = .ok (.ireturn, 1) := by decide +kernel
set_option maxRecDepth 20000 in
theorem ggX0_pool_X0_isRelay : GoodIn wsX0_pool wsX0_isRelay := goodIn_r _ [7] (by decide +kernel) (by decide +kernel)
set_option maxRecDepth 20000 in
theorem gX0_pool_X0_isRelay : GoodIn wsX0_pool (va_wsS RX0 60 yX0_isRelay wsX0_isRelay) := goodIn_app (goodIn_of _ (by decide +kernel)) ggX0_pool_X0_isRelay
theorem dX0_pool_0 : decode cX0_pool 0 = .ok (.iload_n 1, 1) := by decide +kernel
theorem dX0_pool_1 : decode cX0_pool 1 = .ok (.invokestatic 60, 3) := by decide +kernel
theorem dX0_pool_4 : decode cX0_pool 4 = .ok (.ifCond .ne 13, 3) := by decide +kernel
theorem dX0_pool_7 : decode cX0_pool 7 = .ok (.new 64, 3) := by decide +kernel
theorem dX0_pool_10 : decode cX0_pool 10 = .ok (.dup, 1) := by decide +kernel
theorem dX0_pool_11 : decode cX0_pool 11 = .ok (.ldc 66, 2) := by decide +kernel
theorem dX0_pool_13 : decode cX0_pool 13 = .ok (.invokespecial 68, 3) := by decide +kernel
theorem dX0_pool_16 : decode cX0_pool 16 = .ok (.athrow, 1) := by decide +kernel
theorem dX0_pool_17 : decode cX0_pool 17 = .ok (.aload_n 0, 1) := by decide +kernel
theorem dX0_pool_18 : decode cX0_pool 18 = .ok (.getfield 41, 3) := by decide +kernel
theorem dX0_pool_21 : decode cX0_pool 21 = .ok (.iload_n 1, 1) := by decide +kernel
theorem dX0_pool_22 : decode cX0_pool 22 = .ok (.iaload, 1) := by decide +kernel
theorem dX0_pool_23 : decode cX0_pool 23 = .ok (.ireturn, 1) := by decide +kernel
theorem dX0_escrow_0 : decode cX0_escrow 0 = .ok (.iconst 0, 1) := by decide +kernel
theorem dX0_escrow_1 : decode cX0_escrow 1 = .ok (.istore_n 1, 1) := by decide +kernel
theorem dX0_escrow_2 : decode cX0_escrow 2 = .ok (.iconst 0, 1) := by decide +kernel
theorem dX0_escrow_3 : decode cX0_escrow 3 = .ok (.istore_n 2, 1) := by decide +kernel
theorem dX0_escrow_4 : decode cX0_escrow 4 = .ok (.iload_n 2, 1) := by decide +kernel
theorem dX0_escrow_5 : decode cX0_escrow 5 = .ok (.aload_n 0, 1) := by decide +kernel
theorem dX0_escrow_6 : decode cX0_escrow 6 = .ok (.getfield 47, 3) := by decide +kernel
theorem dX0_escrow_9 : decode cX0_escrow 9 = .ok (.if_icmp .ge 37, 3) := by decide +kernel
theorem dX0_escrow_12 : decode cX0_escrow 12 = .ok (.aload_n 0, 1) := by decide +kernel
theorem dX0_escrow_13 : decode cX0_escrow 13 = .ok (.getfield 19, 3) := by decide +kernel
theorem dX0_escrow_16 : decode cX0_escrow 16 = .ok (.iload_n 2, 1) := by decide +kernel
theorem dX0_escrow_17 : decode cX0_escrow 17 = .ok (.iaload, 1) := by decide +kernel
theorem dX0_escrow_18 : decode cX0_escrow 18 = .ok (.ifCond .eq 13, 3) := by decide +kernel
theorem dX0_escrow_21 : decode cX0_escrow 21 = .ok (.aload_n 0, 1) := by decide +kernel
theorem dX0_escrow_22 : decode cX0_escrow 22 = .ok (.getfield 19, 3) := by decide +kernel
theorem dX0_escrow_25 : decode cX0_escrow 25 = .ok (.iload_n 2, 1) := by decide +kernel
theorem dX0_escrow_26 : decode cX0_escrow 26 = .ok (.iaload, 1) := by decide +kernel
theorem dX0_escrow_27 : decode cX0_escrow 27 = .ok (.iconst 1, 1) := by decide +kernel
theorem dX0_escrow_28 : decode cX0_escrow 28 = .ok (.if_icmp .ne 12, 3) := by decide +kernel
theorem dX0_escrow_31 : decode cX0_escrow 31 = .ok (.iload_n 1, 1) := by decide +kernel
theorem dX0_escrow_32 : decode cX0_escrow 32 = .ok (.aload_n 0, 1) := by decide +kernel
theorem dX0_escrow_33 : decode cX0_escrow 33 = .ok (.getfield 16, 3) := by decide +kernel
theorem dX0_escrow_36 : decode cX0_escrow 36 = .ok (.iload_n 2, 1) := by decide +kernel
theorem dX0_escrow_37 : decode cX0_escrow 37 = .ok (.iaload, 1) := by decide +kernel
theorem dX0_escrow_38 : decode cX0_escrow 38 = .ok (.iadd, 1) := by decide +kernel
theorem dX0_escrow_39 : decode cX0_escrow 39 = .ok (.istore_n 1, 1) := by decide +kernel
theorem dX0_escrow_40 : decode cX0_escrow 40 = .ok (.iinc 2 1, 3) := by decide +kernel
theorem dX0_escrow_43 : decode cX0_escrow 43 = .ok (.goto (-39), 3) := by decide +kernel
theorem dX0_escrow_46 : decode cX0_escrow 46 = .ok (.iload_n 1, 1) := by decide +kernel
theorem dX0_escrow_47 : decode cX0_escrow 47 = .ok (.ireturn, 1) := by decide +kernel
set_option maxRecDepth 20000 in
theorem ggX0_reputation_X0_isPerson : GoodIn wsX0_reputation wsX0_isPerson := goodIn_r _ [6] (by decide +kernel) (by decide +kernel)
set_option maxRecDepth 20000 in
theorem gX0_reputation_X0_isPerson : GoodIn wsX0_reputation (va_wsS RX0 80 yX0_isPerson wsX0_isPerson) := goodIn_app (goodIn_of _ (by decide +kernel)) ggX0_reputation_X0_isPerson
set_option maxRecDepth 20000 in
theorem ggX0_reputation_X0_reputationOf : GoodIn wsX0_reputation wsX0_reputationOf := goodIn_r _ [10, 11, 12, 13, 14, 15, 5, 16, 17, 18, 19, 20, 21, 22, 23, 24, 25, 26, 27, 28, 29, 30, 31, 32, 3, 4, 6, 33, 34, 35, 36, 37, 38, 39, 40, 41, 42, 43, 44, 45, 46, 47, 48] (by decide +kernel) (by decide +kernel)
set_option maxRecDepth 20000 in
theorem gX0_reputation_X0_reputationOf : GoodIn wsX0_reputation (wsV RX0 123 RX0 yX0_reputationOf wsX0_reputationOf) := goodIn_app (goodIn_of _ (by decide +kernel)) ggX0_reputation_X0_reputationOf
theorem dX0_reputation_0 : decode cX0_reputation 0 = .ok (.iload_n 1, 1) := by decide +kernel
theorem dX0_reputation_1 : decode cX0_reputation 1 = .ok (.invokestatic 80, 3) := by decide +kernel
theorem dX0_reputation_4 : decode cX0_reputation 4 = .ok (.ifCond .ne 13, 3) := by decide +kernel
theorem dX0_reputation_7 : decode cX0_reputation 7 = .ok (.new 64, 3) := by decide +kernel
theorem dX0_reputation_10 : decode cX0_reputation 10 = .ok (.dup, 1) := by decide +kernel
theorem dX0_reputation_11 : decode cX0_reputation 11 = .ok (.ldc 83, 2) := by decide +kernel
theorem dX0_reputation_13 : decode cX0_reputation 13 = .ok (.invokespecial 68, 3) := by decide +kernel
theorem dX0_reputation_16 : decode cX0_reputation 16 = .ok (.athrow, 1) := by decide +kernel
theorem dX0_reputation_17 : decode cX0_reputation 17 = .ok (.aload_n 0, 1) := by decide +kernel
theorem dX0_reputation_18 : decode cX0_reputation 18 = .ok (.iload_n 1, 1) := by decide +kernel
theorem dX0_reputation_19 : decode cX0_reputation 19 = .ok (.invokevirtual 123, 3) := by decide +kernel
theorem dX0_reputation_22 : decode cX0_reputation 22 = .ok (.ireturn, 1) := by decide +kernel
set_option maxRecDepth 20000 in
theorem ggX0_reputationAtOnce_X0_isPerson : GoodIn wsX0_reputationAtOnce wsX0_isPerson := goodIn_r _ [7] (by decide +kernel) (by decide +kernel)
set_option maxRecDepth 20000 in
theorem gX0_reputationAtOnce_X0_isPerson : GoodIn wsX0_reputationAtOnce (va_wsS RX0 80 yX0_isPerson wsX0_isPerson) := goodIn_app (goodIn_of _ (by decide +kernel)) ggX0_reputationAtOnce_X0_isPerson
set_option maxRecDepth 20000 in
theorem ggX0_reputationAtOnce_X0_findAllReputations : GoodIn wsX0_reputationAtOnce wsX0_findAllReputations := goodIn_r _ [11, 3, 12, 13, 4, 5, 6, 7, 14, 15, 16, 17, 18, 19, 20, 21, 22, 23, 24, 25, 26, 27, 28, 29, 30, 31, 32, 33, 34, 35, 36, 37, 38, 39, 40, 41, 42, 43, 44, 45, 46, 47, 48, 49] (by decide +kernel) (by decide +kernel)
set_option maxRecDepth 20000 in
theorem gX0_reputationAtOnce_X0_findAllReputations : GoodIn wsX0_reputationAtOnce (wsV RX0 147 RX0 yX0_findAllReputations wsX0_findAllReputations) := goodIn_app (goodIn_of _ (by decide +kernel)) ggX0_reputationAtOnce_X0_findAllReputations
theorem dX0_reputationAtOnce_0 : decode cX0_reputationAtOnce 0 = .ok (.iload_n 1, 1) := by decide +kernel
theorem dX0_reputationAtOnce_1 : decode cX0_reputationAtOnce 1 = .ok (.invokestatic 80, 3) := by decide +kernel
theorem dX0_reputationAtOnce_4 : decode cX0_reputationAtOnce 4 = .ok (.ifCond .ne 13, 3) := by decide +kernel
theorem dX0_reputationAtOnce_7 : decode cX0_reputationAtOnce 7 = .ok (.new 64, 3) := by decide +kernel
theorem dX0_reputationAtOnce_10 : decode cX0_reputationAtOnce 10 = .ok (.dup, 1) := by decide +kernel
theorem dX0_reputationAtOnce_11 : decode cX0_reputationAtOnce 11 = .ok (.ldc 83, 2) := by decide +kernel
theorem dX0_reputationAtOnce_13 : decode cX0_reputationAtOnce 13 = .ok (.invokespecial 68, 3) := by decide +kernel
theorem dX0_reputationAtOnce_16 : decode cX0_reputationAtOnce 16 = .ok (.athrow, 1) := by decide +kernel
theorem dX0_reputationAtOnce_17 : decode cX0_reputationAtOnce 17 = .ok (.aload_n 0, 1) := by decide +kernel
theorem dX0_reputationAtOnce_18 : decode cX0_reputationAtOnce 18 = .ok (.invokevirtual 147, 3) := by decide +kernel
theorem dX0_reputationAtOnce_21 : decode cX0_reputationAtOnce 21 = .ok (.aload_n 0, 1) := by decide +kernel
theorem dX0_reputationAtOnce_22 : decode cX0_reputationAtOnce 22 = .ok (.getfield 57, 3) := by decide +kernel
theorem dX0_reputationAtOnce_25 : decode cX0_reputationAtOnce 25 = .ok (.iload_n 1, 1) := by decide +kernel
theorem dX0_reputationAtOnce_26 : decode cX0_reputationAtOnce 26 = .ok (.iaload, 1) := by decide +kernel
theorem dX0_reputationAtOnce_27 : decode cX0_reputationAtOnce 27 = .ok (.ireturn, 1) := by decide +kernel
set_option maxRecDepth 20000 in
theorem ggX0_leastStake_X0_isPerson : GoodIn wsX0_leastStake wsX0_isPerson := goodIn_r _ [6] (by decide +kernel) (by decide +kernel)
set_option maxRecDepth 20000 in
theorem gX0_leastStake_X0_isPerson : GoodIn wsX0_leastStake (va_wsS RX0 80 yX0_isPerson wsX0_isPerson) := goodIn_app (goodIn_of _ (by decide +kernel)) ggX0_leastStake_X0_isPerson
set_option maxRecDepth 20000 in
theorem ggX0_leastStake_X0_lowestStakeOf : GoodIn wsX0_leastStake wsX0_lowestStakeOf := goodIn_r _ [10, 11, 12, 13, 14, 15, 16, 17, 18, 19, 20, 5, 21, 22, 23, 24, 25, 26, 27, 28, 29, 30, 31, 32, 33, 34, 35, 36, 37, 38, 39, 3, 4, 6, 40, 41, 42, 43, 44, 45, 46, 47, 48, 49, 50, 51, 52, 53, 54, 55] (by decide +kernel) (by decide +kernel)
set_option maxRecDepth 20000 in
theorem gX0_leastStake_X0_lowestStakeOf : GoodIn wsX0_leastStake (wsV RX0 87 RX0 yX0_lowestStakeOf wsX0_lowestStakeOf) := goodIn_app (goodIn_of _ (by decide +kernel)) ggX0_leastStake_X0_lowestStakeOf
theorem dX0_leastStake_0 : decode cX0_leastStake 0 = .ok (.iload_n 1, 1) := by decide +kernel
theorem dX0_leastStake_1 : decode cX0_leastStake 1 = .ok (.invokestatic 80, 3) := by decide +kernel
theorem dX0_leastStake_4 : decode cX0_leastStake 4 = .ok (.ifCond .ne 13, 3) := by decide +kernel
theorem dX0_leastStake_7 : decode cX0_leastStake 7 = .ok (.new 64, 3) := by decide +kernel
theorem dX0_leastStake_10 : decode cX0_leastStake 10 = .ok (.dup, 1) := by decide +kernel
theorem dX0_leastStake_11 : decode cX0_leastStake 11 = .ok (.ldc 83, 2) := by decide +kernel
theorem dX0_leastStake_13 : decode cX0_leastStake 13 = .ok (.invokespecial 68, 3) := by decide +kernel
theorem dX0_leastStake_16 : decode cX0_leastStake 16 = .ok (.athrow, 1) := by decide +kernel
theorem dX0_leastStake_17 : decode cX0_leastStake 17 = .ok (.aload_n 0, 1) := by decide +kernel
theorem dX0_leastStake_18 : decode cX0_leastStake 18 = .ok (.iload_n 1, 1) := by decide +kernel
theorem dX0_leastStake_19 : decode cX0_leastStake 19 = .ok (.invokevirtual 87, 3) := by decide +kernel
theorem dX0_leastStake_22 : decode cX0_leastStake 22 = .ok (.ireturn, 1) := by decide +kernel
set_option maxRecDepth 20000 in
theorem ggX0_falseMarks_X0_isPerson : GoodIn wsX0_falseMarks wsX0_isPerson := goodIn_r _ [7] (by decide +kernel) (by decide +kernel)
set_option maxRecDepth 20000 in
theorem gX0_falseMarks_X0_isPerson : GoodIn wsX0_falseMarks (va_wsS RX0 80 yX0_isPerson wsX0_isPerson) := goodIn_app (goodIn_of _ (by decide +kernel)) ggX0_falseMarks_X0_isPerson
theorem dX0_falseMarks_0 : decode cX0_falseMarks 0 = .ok (.iload_n 1, 1) := by decide +kernel
theorem dX0_falseMarks_1 : decode cX0_falseMarks 1 = .ok (.invokestatic 80, 3) := by decide +kernel
theorem dX0_falseMarks_4 : decode cX0_falseMarks 4 = .ok (.ifCond .ne 13, 3) := by decide +kernel
theorem dX0_falseMarks_7 : decode cX0_falseMarks 7 = .ok (.new 64, 3) := by decide +kernel
theorem dX0_falseMarks_10 : decode cX0_falseMarks 10 = .ok (.dup, 1) := by decide +kernel
theorem dX0_falseMarks_11 : decode cX0_falseMarks 11 = .ok (.ldc 83, 2) := by decide +kernel
theorem dX0_falseMarks_13 : decode cX0_falseMarks 13 = .ok (.invokespecial 68, 3) := by decide +kernel
theorem dX0_falseMarks_16 : decode cX0_falseMarks 16 = .ok (.athrow, 1) := by decide +kernel
theorem dX0_falseMarks_17 : decode cX0_falseMarks 17 = .ok (.aload_n 0, 1) := by decide +kernel
theorem dX0_falseMarks_18 : decode cX0_falseMarks 18 = .ok (.getfield 38, 3) := by decide +kernel
theorem dX0_falseMarks_21 : decode cX0_falseMarks 21 = .ok (.iload_n 1, 1) := by decide +kernel
theorem dX0_falseMarks_22 : decode cX0_falseMarks 22 = .ok (.iaload, 1) := by decide +kernel
theorem dX0_falseMarks_23 : decode cX0_falseMarks 23 = .ok (.ireturn, 1) := by decide +kernel
theorem dX0_isPerson_0 : decode cX0_isPerson 0 = .ok (.iload_n 0, 1) := by decide +kernel
theorem dX0_isPerson_1 : decode cX0_isPerson 1 = .ok (.ifCond .lt 13, 3) := by decide +kernel
theorem dX0_isPerson_4 : decode cX0_isPerson 4 = .ok (.iload_n 0, 1) := by decide +kernel
theorem dX0_isPerson_5 : decode cX0_isPerson 5 = .ok (.bipush 8, 2) := by decide +kernel
theorem dX0_isPerson_7 : decode cX0_isPerson 7 = .ok (.if_icmp .ge 7, 3) := by decide +kernel
theorem dX0_isPerson_10 : decode cX0_isPerson 10 = .ok (.iconst 1, 1) := by decide +kernel
theorem dX0_isPerson_11 : decode cX0_isPerson 11 = .ok (.goto 4, 3) := by decide +kernel
theorem dX0_isPerson_14 : decode cX0_isPerson 14 = .ok (.iconst 0, 1) := by decide +kernel
theorem dX0_isPerson_15 : decode cX0_isPerson 15 = .ok (.ireturn, 1) := by decide +kernel
theorem dX0_isRelay_0 : decode cX0_isRelay 0 = .ok (.iload_n 0, 1) := by decide +kernel
theorem dX0_isRelay_1 : decode cX0_isRelay 1 = .ok (.ifCond .lt 12, 3) := by decide +kernel
theorem dX0_isRelay_4 : decode cX0_isRelay 4 = .ok (.iload_n 0, 1) := by decide +kernel
theorem dX0_isRelay_5 : decode cX0_isRelay 5 = .ok (.iconst 4, 1) := by decide +kernel
theorem dX0_isRelay_6 : decode cX0_isRelay 6 = .ok (.if_icmp .ge 7, 3) := by decide +kernel
theorem dX0_isRelay_9 : decode cX0_isRelay 9 = .ok (.iconst 1, 1) := by decide +kernel
theorem dX0_isRelay_10 : decode cX0_isRelay 10 = .ok (.goto 4, 3) := by decide +kernel
theorem dX0_isRelay_13 : decode cX0_isRelay 13 = .ok (.iconst 0, 1) := by decide +kernel
theorem dX0_isRelay_14 : decode cX0_isRelay 14 = .ok (.ireturn, 1) := by decide +kernel
theorem dX0_isLetter_0 : decode cX0_isLetter 0 = .ok (.iload_n 1, 1) := by decide +kernel
theorem dX0_isLetter_1 : decode cX0_isLetter 1 = .ok (.ifCond .lt 15, 3) := by decide +kernel
theorem dX0_isLetter_4 : decode cX0_isLetter 4 = .ok (.iload_n 1, 1) := by decide +kernel
theorem dX0_isLetter_5 : decode cX0_isLetter 5 = .ok (.aload_n 0, 1) := by decide +kernel
theorem dX0_isLetter_6 : decode cX0_isLetter 6 = .ok (.getfield 47, 3) := by decide +kernel
theorem dX0_isLetter_9 : decode cX0_isLetter 9 = .ok (.if_icmp .ge 7, 3) := by decide +kernel
theorem dX0_isLetter_12 : decode cX0_isLetter 12 = .ok (.iconst 1, 1) := by decide +kernel
theorem dX0_isLetter_13 : decode cX0_isLetter 13 = .ok (.goto 4, 3) := by decide +kernel
theorem dX0_isLetter_16 : decode cX0_isLetter 16 = .ok (.iconst 0, 1) := by decide +kernel
theorem dX0_isLetter_17 : decode cX0_isLetter 17 = .ok (.ireturn, 1) := by decide +kernel
theorem dX0_homeOf_0 : decode cX0_homeOf 0 = .ok (.iload_n 0, 1) := by decide +kernel
theorem dX0_homeOf_1 : decode cX0_homeOf 1 = .ok (.iconst 4, 1) := by decide +kernel
theorem dX0_homeOf_2 : decode cX0_homeOf 2 = .ok (.irem, 1) := by decide +kernel
theorem dX0_homeOf_3 : decode cX0_homeOf 3 = .ok (.ireturn, 1) := by decide +kernel
theorem dX0_markOf_0 : decode cX0_markOf 0 = .ok (.iconst 1, 1) := by decide +kernel
theorem dX0_markOf_1 : decode cX0_markOf 1 = .ok (.iload_n 0, 1) := by decide +kernel
theorem dX0_markOf_2 : decode cX0_markOf 2 = .ok (.ishl, 1) := by decide +kernel
theorem dX0_markOf_3 : decode cX0_markOf 3 = .ok (.ireturn, 1) := by decide +kernel
set_option maxRecDepth 20000 in
theorem ggX0_nextRelay_X0_isRelay : GoodIn wsX0_nextRelay wsX0_isRelay := goodIn_r _ [5] (by decide +kernel) (by decide +kernel)
set_option maxRecDepth 20000 in
theorem gX0_nextRelay_X0_isRelay : GoodIn wsX0_nextRelay (va_wsS RX0 60 yX0_isRelay wsX0_isRelay) := goodIn_app (goodIn_of _ (by decide +kernel)) ggX0_nextRelay_X0_isRelay
theorem dX0_nextRelay_0 : decode cX0_nextRelay 0 = .ok (.iload_n 1, 1) := by decide +kernel
theorem dX0_nextRelay_1 : decode cX0_nextRelay 1 = .ok (.invokestatic 60, 3) := by decide +kernel
theorem dX0_nextRelay_4 : decode cX0_nextRelay 4 = .ok (.ifCond .eq 10, 3) := by decide +kernel
theorem dX0_nextRelay_7 : decode cX0_nextRelay 7 = .ok (.iload_n 2, 1) := by decide +kernel
theorem dX0_nextRelay_8 : decode cX0_nextRelay 8 = .ok (.invokestatic 60, 3) := by decide +kernel
theorem dX0_nextRelay_11 : decode cX0_nextRelay 11 = .ok (.ifCond .ne 5, 3) := by decide +kernel
theorem dX0_nextRelay_14 : decode cX0_nextRelay 14 = .ok (.iload_n 2, 1) := by decide +kernel
theorem dX0_nextRelay_15 : decode cX0_nextRelay 15 = .ok (.ireturn, 1) := by decide +kernel
theorem dX0_nextRelay_16 : decode cX0_nextRelay 16 = .ok (.aload_n 0, 1) := by decide +kernel
theorem dX0_nextRelay_17 : decode cX0_nextRelay 17 = .ok (.getfield 44, 3) := by decide +kernel
theorem dX0_nextRelay_20 : decode cX0_nextRelay 20 = .ok (.iload_n 1, 1) := by decide +kernel
theorem dX0_nextRelay_21 : decode cX0_nextRelay 21 = .ok (.iconst 4, 1) := by decide +kernel
theorem dX0_nextRelay_22 : decode cX0_nextRelay 22 = .ok (.imul, 1) := by decide +kernel
theorem dX0_nextRelay_23 : decode cX0_nextRelay 23 = .ok (.iload_n 2, 1) := by decide +kernel
theorem dX0_nextRelay_24 : decode cX0_nextRelay 24 = .ok (.iadd, 1) := by decide +kernel
theorem dX0_nextRelay_25 : decode cX0_nextRelay 25 = .ok (.iaload, 1) := by decide +kernel
theorem dX0_nextRelay_26 : decode cX0_nextRelay 26 = .ok (.ireturn, 1) := by decide +kernel
set_option maxRecDepth 20000 in
theorem ggX0_passOneTick_X0_beginLookingAtQueues : GoodIn wsX0_passOneTick wsX0_beginLookingAtQueues := goodIn_r _ [6, 7, 8, 9, 10, 11, 12, 5, 13, 14, 15, 16, 17, 18, 19, 20, 21, 22, 23, 24, 25, 26, 27, 28, 29, 30, 31, 32, 33, 34, 35, 36, 37, 38, 90, 91, 92, 93, 94, 95, 96, 97, 98, 99, 100, 101, 102, 103, 104, 105] (by decide +kernel) (by decide +kernel)
set_option maxRecDepth 20000 in
theorem gX0_passOneTick_X0_beginLookingAtQueues : GoodIn wsX0_passOneTick (wsV RX0 141 RX0 yX0_beginLookingAtQueues wsX0_beginLookingAtQueues) := goodIn_app (goodIn_of _ (by decide +kernel)) ggX0_passOneTick_X0_beginLookingAtQueues
set_option maxRecDepth 20000 in
theorem ggX0_passOneTick_X0_takeFirstWaiting : GoodIn wsX0_passOneTick wsX0_takeFirstWaiting := goodIn_r _ [42, 7, 8, 43, 44, 45, 5, 46, 15, 47, 14, 26, 27, 28, 29, 16, 17, 18, 90, 91, 92, 93, 94, 95, 96, 97, 98, 99, 100, 101, 102, 103, 104, 105] (by decide +kernel) (by decide +kernel)
set_option maxRecDepth 20000 in
theorem gX0_passOneTick_X0_takeFirstWaiting : GoodIn wsX0_passOneTick (wsV RX0 144 RX0 yX0_takeFirstWaiting wsX0_takeFirstWaiting) := goodIn_app (goodIn_of _ (by decide +kernel)) ggX0_passOneTick_X0_takeFirstWaiting
set_option maxRecDepth 20000 in
theorem ggX0_passOneTick_X0_moveOn : GoodIn wsX0_passOneTick wsX0_moveOn := goodIn_r _ [51, 24, 52, 1, 53, 26, 27, 28, 5, 29, 7, 54, 55, 56, 57, 58, 59, 60, 9, 23, 61, 62, 63, 64, 65, 66, 67, 68, 69, 70, 71, 72, 73, 74, 75, 76, 47, 77, 78, 79, 80, 90, 91, 92, 93, 94, 95, 96, 97, 98, 99, 100, 101, 102, 103, 104, 105] (by decide +kernel) (by decide +kernel)
set_option maxRecDepth 20000 in
theorem gX0_passOneTick_X0_moveOn : GoodIn wsX0_passOneTick (wsV RX0 150 RX0 yX0_moveOn wsX0_moveOn) := goodIn_app (goodIn_of _ (by decide +kernel)) ggX0_passOneTick_X0_moveOn
set_option maxRecDepth 20000 in
theorem ggX0_passOneTick_X0_expireOldLetters : GoodIn wsX0_passOneTick wsX0_expireOldLetters := goodIn_r _ [84, 7, 23, 1, 52, 85, 86, 87, 5, 88, 15, 89, 47, 26, 27, 28, 29, 16, 17, 18, 90, 91, 92, 93, 94, 95, 96, 97, 98, 99, 100, 101, 102, 103, 104, 105] (by decide +kernel) (by decide +kernel)
set_option maxRecDepth 20000 in
theorem gX0_passOneTick_X0_expireOldLetters : GoodIn wsX0_passOneTick (wsV RX0 153 RX0 yX0_expireOldLetters wsX0_expireOldLetters) := goodIn_app (goodIn_of _ (by decide +kernel)) ggX0_passOneTick_X0_expireOldLetters
theorem dX0_passOneTick_0 : decode cX0_passOneTick 0 = .ok (.aload_n 0, 1) := by decide +kernel
theorem dX0_passOneTick_1 : decode cX0_passOneTick 1 = .ok (.dup, 1) := by decide +kernel
theorem dX0_passOneTick_2 : decode cX0_passOneTick 2 = .ok (.getfield 51, 3) := by decide +kernel
theorem dX0_passOneTick_5 : decode cX0_passOneTick 5 = .ok (.iconst 1, 1) := by decide +kernel
theorem dX0_passOneTick_6 : decode cX0_passOneTick 6 = .ok (.iadd, 1) := by decide +kernel
theorem dX0_passOneTick_7 : decode cX0_passOneTick 7 = .ok (.putfield 51, 3) := by decide +kernel
theorem dX0_passOneTick_10 : decode cX0_passOneTick 10 = .ok (.aload_n 0, 1) := by decide +kernel
theorem dX0_passOneTick_11 : decode cX0_passOneTick 11 = .ok (.invokevirtual 141, 3) := by decide +kernel
theorem dX0_passOneTick_14 : decode cX0_passOneTick 14 = .ok (.iconst 0, 1) := by decide +kernel
theorem dX0_passOneTick_15 : decode cX0_passOneTick 15 = .ok (.istore_n 1, 1) := by decide +kernel
theorem dX0_passOneTick_16 : decode cX0_passOneTick 16 = .ok (.iconst 0, 1) := by decide +kernel
theorem dX0_passOneTick_17 : decode cX0_passOneTick 17 = .ok (.istore_n 2, 1) := by decide +kernel
theorem dX0_passOneTick_18 : decode cX0_passOneTick 18 = .ok (.iload_n 2, 1) := by decide +kernel
theorem dX0_passOneTick_19 : decode cX0_passOneTick 19 = .ok (.iconst 4, 1) := by decide +kernel
theorem dX0_passOneTick_20 : decode cX0_passOneTick 20 = .ok (.if_icmp .ge 35, 3) := by decide +kernel
theorem dX0_passOneTick_23 : decode cX0_passOneTick 23 = .ok (.iconst 0, 1) := by decide +kernel
theorem dX0_passOneTick_24 : decode cX0_passOneTick 24 = .ok (.istore_n 3, 1) := by decide +kernel
theorem dX0_passOneTick_25 : decode cX0_passOneTick 25 = .ok (.iload_n 3, 1) := by decide +kernel
theorem dX0_passOneTick_26 : decode cX0_passOneTick 26 = .ok (.iconst 2, 1) := by decide +kernel
theorem dX0_passOneTick_27 : decode cX0_passOneTick 27 = .ok (.if_icmp .ge 22, 3) := by decide +kernel
theorem dX0_passOneTick_30 : decode cX0_passOneTick 30 = .ok (.iload_n 1, 1) := by decide +kernel
theorem dX0_passOneTick_31 : decode cX0_passOneTick 31 = .ok (.aload_n 0, 1) := by decide +kernel
theorem dX0_passOneTick_32 : decode cX0_passOneTick 32 = .ok (.aload_n 0, 1) := by decide +kernel
theorem dX0_passOneTick_33 : decode cX0_passOneTick 33 = .ok (.iload_n 2, 1) := by decide +kernel
theorem dX0_passOneTick_34 : decode cX0_passOneTick 34 = .ok (.invokevirtual 144, 3) := by decide +kernel
theorem dX0_passOneTick_37 : decode cX0_passOneTick 37 = .ok (.iload_n 2, 1) := by decide +kernel
theorem dX0_passOneTick_38 : decode cX0_passOneTick 38 = .ok (.invokevirtual 150, 3) := by decide +kernel
theorem dX0_passOneTick_41 : decode cX0_passOneTick 41 = .ok (.iadd, 1) := by decide +kernel
theorem dX0_passOneTick_42 : decode cX0_passOneTick 42 = .ok (.istore_n 1, 1) := by decide +kernel
theorem dX0_passOneTick_43 : decode cX0_passOneTick 43 = .ok (.iinc 3 1, 3) := by decide +kernel
theorem dX0_passOneTick_46 : decode cX0_passOneTick 46 = .ok (.goto (-21), 3) := by decide +kernel
theorem dX0_passOneTick_49 : decode cX0_passOneTick 49 = .ok (.iinc 2 1, 3) := by decide +kernel
theorem dX0_passOneTick_52 : decode cX0_passOneTick 52 = .ok (.goto (-34), 3) := by decide +kernel
theorem dX0_passOneTick_55 : decode cX0_passOneTick 55 = .ok (.aload_n 0, 1) := by decide +kernel
theorem dX0_passOneTick_56 : decode cX0_passOneTick 56 = .ok (.invokevirtual 153, 3) := by decide +kernel
theorem dX0_passOneTick_59 : decode cX0_passOneTick 59 = .ok (.iload_n 1, 1) := by decide +kernel
theorem dX0_passOneTick_60 : decode cX0_passOneTick 60 = .ok (.ireturn, 1) := by decide +kernel
set_option maxRecDepth 20000 in
theorem ggX0_beginLookingAtQueues_X0_findAllReputations : GoodIn wsX0_beginLookingAtQueues wsX0_findAllReputations := goodIn_r _ [8, 9, 1, 10, 11, 12, 7, 13, 14, 15, 16, 17, 18, 19, 20, 21, 22, 23, 24, 25, 26, 27, 28, 29, 30, 31, 32, 33, 34, 35, 36, 37, 38, 39, 40, 41, 42, 43, 44, 45, 46, 47, 48, 49] (by decide +kernel) (by decide +kernel)
set_option maxRecDepth 20000 in
theorem gX0_beginLookingAtQueues_X0_findAllReputations : GoodIn wsX0_beginLookingAtQueues (wsV RX0 147 RX0 yX0_findAllReputations wsX0_findAllReputations) := goodIn_app (goodIn_of _ (by decide +kernel)) ggX0_beginLookingAtQueues_X0_findAllReputations
theorem dX0_beginLookingAtQueues_0 : decode cX0_beginLookingAtQueues 0 = .ok (.iconst 0, 1) := by decide +kernel
theorem dX0_beginLookingAtQueues_1 : decode cX0_beginLookingAtQueues 1 = .ok (.istore_n 1, 1) := by decide +kernel
theorem dX0_beginLookingAtQueues_2 : decode cX0_beginLookingAtQueues 2 = .ok (.iload_n 1, 1) := by decide +kernel
theorem dX0_beginLookingAtQueues_3 : decode cX0_beginLookingAtQueues 3 = .ok (.aload_n 0, 1) := by decide +kernel
theorem dX0_beginLookingAtQueues_4 : decode cX0_beginLookingAtQueues 4 = .ok (.getfield 47, 3) := by decide +kernel
theorem dX0_beginLookingAtQueues_7 : decode cX0_beginLookingAtQueues 7 = .ok (.if_icmp .ge 21, 3) := by decide +kernel
theorem dX0_beginLookingAtQueues_10 : decode cX0_beginLookingAtQueues 10 = .ok (.aload_n 0, 1) := by decide +kernel
theorem dX0_beginLookingAtQueues_11 : decode cX0_beginLookingAtQueues 11 = .ok (.getfield 54, 3) := by decide +kernel
theorem dX0_beginLookingAtQueues_14 : decode cX0_beginLookingAtQueues 14 = .ok (.iload_n 1, 1) := by decide +kernel
theorem dX0_beginLookingAtQueues_15 : decode cX0_beginLookingAtQueues 15 = .ok (.aload_n 0, 1) := by decide +kernel
theorem dX0_beginLookingAtQueues_16 : decode cX0_beginLookingAtQueues 16 = .ok (.getfield 22, 3) := by decide +kernel
theorem dX0_beginLookingAtQueues_19 : decode cX0_beginLookingAtQueues 19 = .ok (.iload_n 1, 1) := by decide +kernel
theorem dX0_beginLookingAtQueues_20 : decode cX0_beginLookingAtQueues 20 = .ok (.iaload, 1) := by decide +kernel
theorem dX0_beginLookingAtQueues_21 : decode cX0_beginLookingAtQueues 21 = .ok (.iastore, 1) := by decide +kernel
theorem dX0_beginLookingAtQueues_22 : decode cX0_beginLookingAtQueues 22 = .ok (.iinc 1 1, 3) := by decide +kernel
theorem dX0_beginLookingAtQueues_25 : decode cX0_beginLookingAtQueues 25 = .ok (.goto (-23), 3) := by decide +kernel
theorem dX0_beginLookingAtQueues_28 : decode cX0_beginLookingAtQueues 28 = .ok (.aload_n 0, 1) := by decide +kernel
theorem dX0_beginLookingAtQueues_29 : decode cX0_beginLookingAtQueues 29 = .ok (.invokevirtual 147, 3) := by decide +kernel
theorem dX0_beginLookingAtQueues_32 : decode cX0_beginLookingAtQueues 32 = .ok (.return_, 1) := by decide +kernel
set_option maxRecDepth 20000 in
theorem ggX0_takeFirstWaiting_X0_rankOf : GoodIn wsX0_takeFirstWaiting wsX0_rankOf := goodIn_r _ [7, 8, 9, 10, 11, 12, 13, 6, 14, 1, 15, 16, 17, 18, 19, 20, 21, 22, 23, 24, 25, 26, 27, 28, 29, 30, 31, 32, 33] (by decide +kernel) (by decide +kernel)
set_option maxRecDepth 20000 in
theorem gX0_takeFirstWaiting_X0_rankOf : GoodIn wsX0_takeFirstWaiting (wsV RX0 156 RX0 yX0_rankOf wsX0_rankOf) := goodIn_app (goodIn_of _ (by decide +kernel)) ggX0_takeFirstWaiting_X0_rankOf
set_option maxRecDepth 20000 in
theorem ggX0_takeFirstWaiting_X0_isLetter : GoodIn wsX0_takeFirstWaiting wsX0_isLetter := goodIn_r _ [14, 1, 18, 19, 20, 21, 22, 23, 24, 25, 26, 27, 28, 29, 30, 31, 32, 33] (by decide +kernel) (by decide +kernel)
set_option maxRecDepth 20000 in
theorem gX0_takeFirstWaiting_X0_isLetter : GoodIn wsX0_takeFirstWaiting (wsV RX0 112 RX0 yX0_isLetter wsX0_isLetter) := goodIn_app (goodIn_of _ (by decide +kernel)) ggX0_takeFirstWaiting_X0_isLetter
theorem dX0_takeFirstWaiting_0 : decode cX0_takeFirstWaiting 0 = .ok (.iconst (-1), 1) := by decide +kernel
theorem dX0_takeFirstWaiting_1 : decode cX0_takeFirstWaiting 1 = .ok (.istore_n 2, 1) := by decide +kernel
theorem dX0_takeFirstWaiting_2 : decode cX0_takeFirstWaiting 2 = .ok (.iconst 0, 1) := by decide +kernel
theorem dX0_takeFirstWaiting_3 : decode cX0_takeFirstWaiting 3 = .ok (.istore_n 3, 1) := by decide +kernel
theorem dX0_takeFirstWaiting_4 : decode cX0_takeFirstWaiting 4 = .ok (.iload_n 3, 1) := by decide +kernel
theorem dX0_takeFirstWaiting_5 : decode cX0_takeFirstWaiting 5 = .ok (.aload_n 0, 1) := by decide +kernel
theorem dX0_takeFirstWaiting_6 : decode cX0_takeFirstWaiting 6 = .ok (.getfield 47, 3) := by decide +kernel
theorem dX0_takeFirstWaiting_9 : decode cX0_takeFirstWaiting 9 = .ok (.if_icmp .ge 39, 3) := by decide +kernel
theorem dX0_takeFirstWaiting_12 : decode cX0_takeFirstWaiting 12 = .ok (.aload_n 0, 1) := by decide +kernel
theorem dX0_takeFirstWaiting_13 : decode cX0_takeFirstWaiting 13 = .ok (.getfield 54, 3) := by decide +kernel
theorem dX0_takeFirstWaiting_16 : decode cX0_takeFirstWaiting 16 = .ok (.iload_n 3, 1) := by decide +kernel
theorem dX0_takeFirstWaiting_17 : decode cX0_takeFirstWaiting 17 = .ok (.iaload, 1) := by decide +kernel
theorem dX0_takeFirstWaiting_18 : decode cX0_takeFirstWaiting 18 = .ok (.iload_n 1, 1) := by decide +kernel
theorem dX0_takeFirstWaiting_19 : decode cX0_takeFirstWaiting 19 = .ok (.if_icmp .ne 23, 3) := by decide +kernel
theorem dX0_takeFirstWaiting_22 : decode cX0_takeFirstWaiting 22 = .ok (.iload_n 2, 1) := by decide +kernel
theorem dX0_takeFirstWaiting_23 : decode cX0_takeFirstWaiting 23 = .ok (.iconst (-1), 1) := by decide +kernel
theorem dX0_takeFirstWaiting_24 : decode cX0_takeFirstWaiting 24 = .ok (.if_icmp .eq 16, 3) := by decide +kernel
theorem dX0_takeFirstWaiting_27 : decode cX0_takeFirstWaiting 27 = .ok (.aload_n 0, 1) := by decide +kernel
theorem dX0_takeFirstWaiting_28 : decode cX0_takeFirstWaiting 28 = .ok (.iload_n 3, 1) := by decide +kernel
theorem dX0_takeFirstWaiting_29 : decode cX0_takeFirstWaiting 29 = .ok (.invokevirtual 156, 3) := by decide +kernel
theorem dX0_takeFirstWaiting_32 : decode cX0_takeFirstWaiting 32 = .ok (.aload_n 0, 1) := by decide +kernel
theorem dX0_takeFirstWaiting_33 : decode cX0_takeFirstWaiting 33 = .ok (.iload_n 2, 1) := by decide +kernel
theorem dX0_takeFirstWaiting_34 : decode cX0_takeFirstWaiting 34 = .ok (.invokevirtual 156, 3) := by decide +kernel
theorem dX0_takeFirstWaiting_37 : decode cX0_takeFirstWaiting 37 = .ok (.if_icmp .le 5, 3) := by decide +kernel
theorem dX0_takeFirstWaiting_40 : decode cX0_takeFirstWaiting 40 = .ok (.iload_n 3, 1) := by decide +kernel
theorem dX0_takeFirstWaiting_41 : decode cX0_takeFirstWaiting 41 = .ok (.istore_n 2, 1) := by decide +kernel
theorem dX0_takeFirstWaiting_42 : decode cX0_takeFirstWaiting 42 = .ok (.iinc 3 1, 3) := by decide +kernel
theorem dX0_takeFirstWaiting_45 : decode cX0_takeFirstWaiting 45 = .ok (.goto (-41), 3) := by decide +kernel
theorem dX0_takeFirstWaiting_48 : decode cX0_takeFirstWaiting 48 = .ok (.aload_n 0, 1) := by decide +kernel
theorem dX0_takeFirstWaiting_49 : decode cX0_takeFirstWaiting 49 = .ok (.iload_n 2, 1) := by decide +kernel
theorem dX0_takeFirstWaiting_50 : decode cX0_takeFirstWaiting 50 = .ok (.invokevirtual 112, 3) := by decide +kernel
theorem dX0_takeFirstWaiting_53 : decode cX0_takeFirstWaiting 53 = .ok (.ifCond .eq 10, 3) := by decide +kernel
theorem dX0_takeFirstWaiting_56 : decode cX0_takeFirstWaiting 56 = .ok (.aload_n 0, 1) := by decide +kernel
theorem dX0_takeFirstWaiting_57 : decode cX0_takeFirstWaiting 57 = .ok (.getfield 54, 3) := by decide +kernel
theorem dX0_takeFirstWaiting_60 : decode cX0_takeFirstWaiting 60 = .ok (.iload_n 2, 1) := by decide +kernel
theorem dX0_takeFirstWaiting_61 : decode cX0_takeFirstWaiting 61 = .ok (.iconst (-1), 1) := by decide +kernel
theorem dX0_takeFirstWaiting_62 : decode cX0_takeFirstWaiting 62 = .ok (.iastore, 1) := by decide +kernel
theorem dX0_takeFirstWaiting_63 : decode cX0_takeFirstWaiting 63 = .ok (.iload_n 2, 1) := by decide +kernel
theorem dX0_takeFirstWaiting_64 : decode cX0_takeFirstWaiting 64 = .ok (.ireturn, 1) := by decide +kernel
set_option maxRecDepth 20000 in
theorem ggX0_rankOf_X0_isLetter : GoodIn wsX0_rankOf wsX0_isLetter := goodIn_r _ [8, 9, 13, 14, 15, 16, 17, 18, 19, 20, 21, 22, 23, 24, 25, 26, 27, 28] (by decide +kernel) (by decide +kernel)
set_option maxRecDepth 20000 in
theorem gX0_rankOf_X0_isLetter : GoodIn wsX0_rankOf (wsV RX0 112 RX0 yX0_isLetter wsX0_isLetter) := goodIn_app (goodIn_of _ (by decide +kernel)) ggX0_rankOf_X0_isLetter
set_option maxRecDepth 20000 in
theorem ggX0_rankOf_X0_isPerson : GoodIn wsX0_rankOf wsX0_isPerson := goodIn_r _ [12] (by decide +kernel) (by decide +kernel)
set_option maxRecDepth 20000 in
theorem gX0_rankOf_X0_isPerson : GoodIn wsX0_rankOf (va_wsS RX0 80 yX0_isPerson wsX0_isPerson) := goodIn_app (goodIn_of _ (by decide +kernel)) ggX0_rankOf_X0_isPerson
theorem dX0_rankOf_0 : decode cX0_rankOf 0 = .ok (.aload_n 0, 1) := by decide +kernel
theorem dX0_rankOf_1 : decode cX0_rankOf 1 = .ok (.iload_n 1, 1) := by decide +kernel
theorem dX0_rankOf_2 : decode cX0_rankOf 2 = .ok (.invokevirtual 112, 3) := by decide +kernel
theorem dX0_rankOf_5 : decode cX0_rankOf 5 = .ok (.ifCond .eq 15, 3) := by decide +kernel
theorem dX0_rankOf_8 : decode cX0_rankOf 8 = .ok (.aload_n 0, 1) := by decide +kernel
theorem dX0_rankOf_9 : decode cX0_rankOf 9 = .ok (.getfield 9, 3) := by decide +kernel
theorem dX0_rankOf_12 : decode cX0_rankOf 12 = .ok (.iload_n 1, 1) := by decide +kernel
theorem dX0_rankOf_13 : decode cX0_rankOf 13 = .ok (.iaload, 1) := by decide +kernel
theorem dX0_rankOf_14 : decode cX0_rankOf 14 = .ok (.invokestatic 80, 3) := by decide +kernel
theorem dX0_rankOf_17 : decode cX0_rankOf 17 = .ok (.ifCond .ne 5, 3) := by decide +kernel
theorem dX0_rankOf_20 : decode cX0_rankOf 20 = .ok (.iconst 0, 1) := by decide +kernel
theorem dX0_rankOf_21 : decode cX0_rankOf 21 = .ok (.ireturn, 1) := by decide +kernel
theorem dX0_rankOf_22 : decode cX0_rankOf 22 = .ok (.aload_n 0, 1) := by decide +kernel
theorem dX0_rankOf_23 : decode cX0_rankOf 23 = .ok (.getfield 16, 3) := by decide +kernel
theorem dX0_rankOf_26 : decode cX0_rankOf 26 = .ok (.iload_n 1, 1) := by decide +kernel
theorem dX0_rankOf_27 : decode cX0_rankOf 27 = .ok (.iaload, 1) := by decide +kernel
theorem dX0_rankOf_28 : decode cX0_rankOf 28 = .ok (.aload_n 0, 1) := by decide +kernel
theorem dX0_rankOf_29 : decode cX0_rankOf 29 = .ok (.getfield 57, 3) := by decide +kernel
theorem dX0_rankOf_32 : decode cX0_rankOf 32 = .ok (.aload_n 0, 1) := by decide +kernel
theorem dX0_rankOf_33 : decode cX0_rankOf 33 = .ok (.getfield 9, 3) := by decide +kernel
theorem dX0_rankOf_36 : decode cX0_rankOf 36 = .ok (.iload_n 1, 1) := by decide +kernel
theorem dX0_rankOf_37 : decode cX0_rankOf 37 = .ok (.iaload, 1) := by decide +kernel
theorem dX0_rankOf_38 : decode cX0_rankOf 38 = .ok (.iaload, 1) := by decide +kernel
theorem dX0_rankOf_39 : decode cX0_rankOf 39 = .ok (.iadd, 1) := by decide +kernel
theorem dX0_rankOf_40 : decode cX0_rankOf 40 = .ok (.ireturn, 1) := by decide +kernel
set_option maxRecDepth 20000 in
theorem ggX0_moveOn_X0_isLetter : GoodIn wsX0_moveOn wsX0_isLetter := goodIn_r _ [9, 10, 41, 42, 43, 44, 45, 46, 47, 48, 49, 50, 51, 52, 53, 54, 55, 56] (by decide +kernel) (by decide +kernel)
set_option maxRecDepth 20000 in
theorem gX0_moveOn_X0_isLetter : GoodIn wsX0_moveOn (wsV RX0 112 RX0 yX0_isLetter wsX0_isLetter) := goodIn_app (goodIn_of _ (by decide +kernel)) ggX0_moveOn_X0_isLetter
set_option maxRecDepth 20000 in
theorem ggX0_moveOn_X0_homeOf : GoodIn wsX0_moveOn wsX0_homeOf := goodIn_r _ [13] (by decide +kernel) (by decide +kernel)
set_option maxRecDepth 20000 in
theorem gX0_moveOn_X0_homeOf : GoodIn wsX0_moveOn (va_wsS RX0 96 yX0_homeOf wsX0_homeOf) := goodIn_app (goodIn_of _ (by decide +kernel)) ggX0_moveOn_X0_homeOf
set_option maxRecDepth 20000 in
theorem ggX0_moveOn_X0_leaveQueue : GoodIn wsX0_moveOn wsX0_leaveQueue := goodIn_r _ [17, 18, 19, 5, 6, 7, 8, 9, 10, 41, 42, 43, 44, 45, 46, 47, 48, 49, 50, 51, 52, 53, 54, 55, 56] (by decide +kernel) (by decide +kernel)
set_option maxRecDepth 20000 in
theorem gX0_moveOn_X0_leaveQueue : GoodIn wsX0_moveOn (wsV RX0 159 RX0 yX0_leaveQueue wsX0_leaveQueue) := goodIn_app (goodIn_of _ (by decide +kernel)) ggX0_moveOn_X0_leaveQueue
set_option maxRecDepth 20000 in
theorem ggX0_moveOn_X0_nextRelay : GoodIn wsX0_moveOn wsX0_nextRelay := goodIn_r _ [23, 24, 25, 26, 8, 27, 41, 42, 43, 44, 45, 46, 47, 48, 49, 50, 51, 52, 53, 54, 55, 56] (by decide +kernel) (by decide +kernel)
set_option maxRecDepth 20000 in
theorem gX0_moveOn_X0_nextRelay : GoodIn wsX0_moveOn (wsV RX0 76 RX0 yX0_nextRelay wsX0_nextRelay) := goodIn_app (goodIn_of _ (by decide +kernel)) ggX0_moveOn_X0_nextRelay
set_option maxRecDepth 20000 in
theorem ggX0_moveOn_X0_markOf : GoodIn wsX0_moveOn wsX0_markOf := goodIn_r _ [30] (by decide +kernel) (by decide +kernel)
set_option maxRecDepth 20000 in
theorem gX0_moveOn_X0_markOf : GoodIn wsX0_moveOn (va_wsS RX0 162 yX0_markOf wsX0_markOf) := goodIn_app (goodIn_of _ (by decide +kernel)) ggX0_moveOn_X0_markOf
set_option maxRecDepth 20000 in
theorem ggX0_moveOn_X0_putStakeIntoPool : GoodIn wsX0_moveOn wsX0_putStakeIntoPool := goodIn_r _ [34, 35, 36, 5, 6, 7, 8, 9, 10, 25, 26, 27, 41, 42, 43, 44, 45, 46, 47, 48, 49, 50, 51, 52, 53, 54, 55, 56] (by decide +kernel) (by decide +kernel)
set_option maxRecDepth 20000 in
theorem gX0_moveOn_X0_putStakeIntoPool : GoodIn wsX0_moveOn (wsV RX0 126 RX0 yX0_putStakeIntoPool wsX0_putStakeIntoPool) := goodIn_app (goodIn_of _ (by decide +kernel)) ggX0_moveOn_X0_putStakeIntoPool
set_option maxRecDepth 20000 in
theorem ggX0_moveOn_X0_layAt : GoodIn wsX0_moveOn wsX0_layAt := goodIn_r _ [40, 18, 4, 5, 6, 7, 8, 9, 10, 28, 29, 30, 41, 42, 43, 44, 45, 46, 47, 48, 49, 50, 51, 52, 53, 54, 55, 56] (by decide +kernel) (by decide +kernel)
set_option maxRecDepth 20000 in
theorem gX0_moveOn_X0_layAt : GoodIn wsX0_moveOn (wsV RX0 99 RX0 yX0_layAt wsX0_layAt) := goodIn_app (goodIn_of _ (by decide +kernel)) ggX0_moveOn_X0_layAt
theorem dX0_moveOn_0 : decode cX0_moveOn 0 = .ok (.aload_n 0, 1) := by decide +kernel
theorem dX0_moveOn_1 : decode cX0_moveOn 1 = .ok (.iload_n 1, 1) := by decide +kernel
theorem dX0_moveOn_2 : decode cX0_moveOn 2 = .ok (.invokevirtual 112, 3) := by decide +kernel
theorem dX0_moveOn_5 : decode cX0_moveOn 5 = .ok (.ifCond .ne 5, 3) := by decide +kernel
theorem dX0_moveOn_8 : decode cX0_moveOn 8 = .ok (.iconst 0, 1) := by decide +kernel
theorem dX0_moveOn_9 : decode cX0_moveOn 9 = .ok (.ireturn, 1) := by decide +kernel
theorem dX0_moveOn_10 : decode cX0_moveOn 10 = .ok (.aload_n 0, 1) := by decide +kernel
theorem dX0_moveOn_11 : decode cX0_moveOn 11 = .ok (.getfield 13, 3) := by decide +kernel
theorem dX0_moveOn_14 : decode cX0_moveOn 14 = .ok (.iload_n 1, 1) := by decide +kernel
theorem dX0_moveOn_15 : decode cX0_moveOn 15 = .ok (.iaload, 1) := by decide +kernel
theorem dX0_moveOn_16 : decode cX0_moveOn 16 = .ok (.invokestatic 96, 3) := by decide +kernel
theorem dX0_moveOn_19 : decode cX0_moveOn 19 = .ok (.istore_n 3, 1) := by decide +kernel
theorem dX0_moveOn_20 : decode cX0_moveOn 20 = .ok (.iload_n 2, 1) := by decide +kernel
theorem dX0_moveOn_21 : decode cX0_moveOn 21 = .ok (.iload_n 3, 1) := by decide +kernel
theorem dX0_moveOn_22 : decode cX0_moveOn 22 = .ok (.if_icmp .ne 21, 3) := by decide +kernel
theorem dX0_moveOn_25 : decode cX0_moveOn 25 = .ok (.aload_n 0, 1) := by decide +kernel
theorem dX0_moveOn_26 : decode cX0_moveOn 26 = .ok (.iload_n 1, 1) := by decide +kernel
theorem dX0_moveOn_27 : decode cX0_moveOn 27 = .ok (.iconst 1, 1) := by decide +kernel
theorem dX0_moveOn_28 : decode cX0_moveOn 28 = .ok (.invokevirtual 159, 3) := by decide +kernel
theorem dX0_moveOn_31 : decode cX0_moveOn 31 = .ok (.aload_n 0, 1) := by decide +kernel
theorem dX0_moveOn_32 : decode cX0_moveOn 32 = .ok (.getfield 28, 3) := by decide +kernel
theorem dX0_moveOn_35 : decode cX0_moveOn 35 = .ok (.iload_n 1, 1) := by decide +kernel
theorem dX0_moveOn_36 : decode cX0_moveOn 36 = .ok (.aload_n 0, 1) := by decide +kernel
theorem dX0_moveOn_37 : decode cX0_moveOn 37 = .ok (.getfield 51, 3) := by decide +kernel
theorem dX0_moveOn_40 : decode cX0_moveOn 40 = .ok (.iastore, 1) := by decide +kernel
theorem dX0_moveOn_41 : decode cX0_moveOn 41 = .ok (.iconst 1, 1) := by decide +kernel
theorem dX0_moveOn_42 : decode cX0_moveOn 42 = .ok (.ireturn, 1) := by decide +kernel
theorem dX0_moveOn_43 : decode cX0_moveOn 43 = .ok (.aload_n 0, 1) := by decide +kernel
theorem dX0_moveOn_44 : decode cX0_moveOn 44 = .ok (.iload_n 2, 1) := by decide +kernel
theorem dX0_moveOn_45 : decode cX0_moveOn 45 = .ok (.iload_n 3, 1) := by decide +kernel
theorem dX0_moveOn_46 : decode cX0_moveOn 46 = .ok (.invokevirtual 76, 3) := by decide +kernel
theorem dX0_moveOn_49 : decode cX0_moveOn 49 = .ok (.istore 4, 2) := by decide +kernel
theorem dX0_moveOn_51 : decode cX0_moveOn 51 = .ok (.aload_n 0, 1) := by decide +kernel
theorem dX0_moveOn_52 : decode cX0_moveOn 52 = .ok (.getfield 25, 3) := by decide +kernel
theorem dX0_moveOn_55 : decode cX0_moveOn 55 = .ok (.iload_n 1, 1) := by decide +kernel
theorem dX0_moveOn_56 : decode cX0_moveOn 56 = .ok (.iaload, 1) := by decide +kernel
theorem dX0_moveOn_57 : decode cX0_moveOn 57 = .ok (.iload 4, 2) := by decide +kernel
theorem dX0_moveOn_59 : decode cX0_moveOn 59 = .ok (.invokestatic 162, 3) := by decide +kernel
theorem dX0_moveOn_62 : decode cX0_moveOn 62 = .ok (.iand, 1) := by decide +kernel
theorem dX0_moveOn_63 : decode cX0_moveOn 63 = .ok (.ifCond .eq 18, 3) := by decide +kernel
theorem dX0_moveOn_66 : decode cX0_moveOn 66 = .ok (.aload_n 0, 1) := by decide +kernel
theorem dX0_moveOn_67 : decode cX0_moveOn 67 = .ok (.iload_n 1, 1) := by decide +kernel
theorem dX0_moveOn_68 : decode cX0_moveOn 68 = .ok (.iconst 4, 1) := by decide +kernel
theorem dX0_moveOn_69 : decode cX0_moveOn 69 = .ok (.invokevirtual 159, 3) := by decide +kernel
theorem dX0_moveOn_72 : decode cX0_moveOn 72 = .ok (.aload_n 0, 1) := by decide +kernel
theorem dX0_moveOn_73 : decode cX0_moveOn 73 = .ok (.iload_n 1, 1) := by decide +kernel
theorem dX0_moveOn_74 : decode cX0_moveOn 74 = .ok (.iload_n 2, 1) := by decide +kernel
theorem dX0_moveOn_75 : decode cX0_moveOn 75 = .ok (.invokevirtual 126, 3) := by decide +kernel
theorem dX0_moveOn_78 : decode cX0_moveOn 78 = .ok (.goto 10, 3) := by decide +kernel
theorem dX0_moveOn_81 : decode cX0_moveOn 81 = .ok (.aload_n 0, 1) := by decide +kernel
theorem dX0_moveOn_82 : decode cX0_moveOn 82 = .ok (.iload_n 1, 1) := by decide +kernel
theorem dX0_moveOn_83 : decode cX0_moveOn 83 = .ok (.iload 4, 2) := by decide +kernel
theorem dX0_moveOn_85 : decode cX0_moveOn 85 = .ok (.invokevirtual 99, 3) := by decide +kernel
theorem dX0_moveOn_88 : decode cX0_moveOn 88 = .ok (.iconst 0, 1) := by decide +kernel
theorem dX0_moveOn_89 : decode cX0_moveOn 89 = .ok (.ireturn, 1) := by decide +kernel
set_option maxRecDepth 20000 in
theorem ggX0_layAt_X0_isLetter : GoodIn wsX0_layAt wsX0_isLetter := goodIn_r _ [7, 8, 12, 13, 14, 15, 16, 17, 18, 19, 20, 21, 22, 23, 24, 25, 26, 27] (by decide +kernel) (by decide +kernel)
set_option maxRecDepth 20000 in
theorem gX0_layAt_X0_isLetter : GoodIn wsX0_layAt (wsV RX0 112 RX0 yX0_isLetter wsX0_isLetter) := goodIn_app (goodIn_of _ (by decide +kernel)) ggX0_layAt_X0_isLetter
set_option maxRecDepth 20000 in
theorem ggX0_layAt_X0_markOf : GoodIn wsX0_layAt wsX0_markOf := goodIn_r _ [11] (by decide +kernel) (by decide +kernel)
set_option maxRecDepth 20000 in
theorem gX0_layAt_X0_markOf : GoodIn wsX0_layAt (va_wsS RX0 162 yX0_markOf wsX0_markOf) := goodIn_app (goodIn_of _ (by decide +kernel)) ggX0_layAt_X0_markOf
theorem dX0_layAt_0 : decode cX0_layAt 0 = .ok (.aload_n 0, 1) := by decide +kernel
theorem dX0_layAt_1 : decode cX0_layAt 1 = .ok (.iload_n 1, 1) := by decide +kernel
theorem dX0_layAt_2 : decode cX0_layAt 2 = .ok (.invokevirtual 112, 3) := by decide +kernel
theorem dX0_layAt_5 : decode cX0_layAt 5 = .ok (.ifCond .eq 23, 3) := by decide +kernel
theorem dX0_layAt_8 : decode cX0_layAt 8 = .ok (.aload_n 0, 1) := by decide +kernel
theorem dX0_layAt_9 : decode cX0_layAt 9 = .ok (.getfield 22, 3) := by decide +kernel
theorem dX0_layAt_12 : decode cX0_layAt 12 = .ok (.iload_n 1, 1) := by decide +kernel
theorem dX0_layAt_13 : decode cX0_layAt 13 = .ok (.iload_n 2, 1) := by decide +kernel
theorem dX0_layAt_14 : decode cX0_layAt 14 = .ok (.iastore, 1) := by decide +kernel
theorem dX0_layAt_15 : decode cX0_layAt 15 = .ok (.aload_n 0, 1) := by decide +kernel
theorem dX0_layAt_16 : decode cX0_layAt 16 = .ok (.getfield 25, 3) := by decide +kernel
theorem dX0_layAt_19 : decode cX0_layAt 19 = .ok (.iload_n 1, 1) := by decide +kernel
theorem dX0_layAt_20 : decode cX0_layAt 20 = .ok (.dup2, 1) := by decide +kernel
theorem dX0_layAt_21 : decode cX0_layAt 21 = .ok (.iaload, 1) := by decide +kernel
theorem dX0_layAt_22 : decode cX0_layAt 22 = .ok (.iload_n 2, 1) := by decide +kernel
theorem dX0_layAt_23 : decode cX0_layAt 23 = .ok (.invokestatic 162, 3) := by decide +kernel
theorem dX0_layAt_26 : decode cX0_layAt 26 = .ok (.ior, 1) := by decide +kernel
theorem dX0_layAt_27 : decode cX0_layAt 27 = .ok (.iastore, 1) := by decide +kernel
theorem dX0_layAt_28 : decode cX0_layAt 28 = .ok (.return_, 1) := by decide +kernel
set_option maxRecDepth 20000 in
theorem ggX0_leaveQueue_X0_isLetter : GoodIn wsX0_leaveQueue wsX0_isLetter := goodIn_r _ [7, 8, 9, 10, 11, 12, 13, 14, 15, 16, 17, 18, 19, 20, 21, 22, 23, 24] (by decide +kernel) (by decide +kernel)
set_option maxRecDepth 20000 in
theorem gX0_leaveQueue_X0_isLetter : GoodIn wsX0_leaveQueue (wsV RX0 112 RX0 yX0_isLetter wsX0_isLetter) := goodIn_app (goodIn_of _ (by decide +kernel)) ggX0_leaveQueue_X0_isLetter
theorem dX0_leaveQueue_0 : decode cX0_leaveQueue 0 = .ok (.aload_n 0, 1) := by decide +kernel
theorem dX0_leaveQueue_1 : decode cX0_leaveQueue 1 = .ok (.iload_n 1, 1) := by decide +kernel
theorem dX0_leaveQueue_2 : decode cX0_leaveQueue 2 = .ok (.invokevirtual 112, 3) := by decide +kernel
theorem dX0_leaveQueue_5 : decode cX0_leaveQueue 5 = .ok (.ifCond .eq 17, 3) := by decide +kernel
theorem dX0_leaveQueue_8 : decode cX0_leaveQueue 8 = .ok (.aload_n 0, 1) := by decide +kernel
theorem dX0_leaveQueue_9 : decode cX0_leaveQueue 9 = .ok (.getfield 22, 3) := by decide +kernel
theorem dX0_leaveQueue_12 : decode cX0_leaveQueue 12 = .ok (.iload_n 1, 1) := by decide +kernel
theorem dX0_leaveQueue_13 : decode cX0_leaveQueue 13 = .ok (.iconst (-1), 1) := by decide +kernel
theorem dX0_leaveQueue_14 : decode cX0_leaveQueue 14 = .ok (.iastore, 1) := by decide +kernel
theorem dX0_leaveQueue_15 : decode cX0_leaveQueue 15 = .ok (.aload_n 0, 1) := by decide +kernel
theorem dX0_leaveQueue_16 : decode cX0_leaveQueue 16 = .ok (.getfield 19, 3) := by decide +kernel
theorem dX0_leaveQueue_19 : decode cX0_leaveQueue 19 = .ok (.iload_n 1, 1) := by decide +kernel
theorem dX0_leaveQueue_20 : decode cX0_leaveQueue 20 = .ok (.iload_n 2, 1) := by decide +kernel
theorem dX0_leaveQueue_21 : decode cX0_leaveQueue 21 = .ok (.iastore, 1) := by decide +kernel
theorem dX0_leaveQueue_22 : decode cX0_leaveQueue 22 = .ok (.return_, 1) := by decide +kernel
set_option maxRecDepth 20000 in
theorem ggX0_expireOldLetters_X0_giveStakeBack : GoodIn wsX0_expireOldLetters wsX0_giveStakeBack := goodIn_r _ [9, 10, 11, 12, 13, 14, 15, 8, 16, 1, 17, 18, 19, 20, 21, 22, 23, 24, 25, 26, 27, 28, 29, 30, 31, 32, 33, 34, 35] (by decide +kernel) (by decide +kernel)
set_option maxRecDepth 20000 in
theorem gX0_expireOldLetters_X0_giveStakeBack : GoodIn wsX0_expireOldLetters (wsV RX0 119 RX0 yX0_giveStakeBack wsX0_giveStakeBack) := goodIn_app (goodIn_of _ (by decide +kernel)) ggX0_expireOldLetters_X0_giveStakeBack
theorem dX0_expireOldLetters_0 : decode cX0_expireOldLetters 0 = .ok (.iconst 0, 1) := by decide +kernel
theorem dX0_expireOldLetters_1 : decode cX0_expireOldLetters 1 = .ok (.istore_n 1, 1) := by decide +kernel
theorem dX0_expireOldLetters_2 : decode cX0_expireOldLetters 2 = .ok (.iload_n 1, 1) := by decide +kernel
theorem dX0_expireOldLetters_3 : decode cX0_expireOldLetters 3 = .ok (.aload_n 0, 1) := by decide +kernel
theorem dX0_expireOldLetters_4 : decode cX0_expireOldLetters 4 = .ok (.getfield 47, 3) := by decide +kernel
theorem dX0_expireOldLetters_7 : decode cX0_expireOldLetters 7 = .ok (.if_icmp .ge 47, 3) := by decide +kernel
theorem dX0_expireOldLetters_10 : decode cX0_expireOldLetters 10 = .ok (.aload_n 0, 1) := by decide +kernel
theorem dX0_expireOldLetters_11 : decode cX0_expireOldLetters 11 = .ok (.getfield 19, 3) := by decide +kernel
theorem dX0_expireOldLetters_14 : decode cX0_expireOldLetters 14 = .ok (.iload_n 1, 1) := by decide +kernel
theorem dX0_expireOldLetters_15 : decode cX0_expireOldLetters 15 = .ok (.iaload, 1) := by decide +kernel
theorem dX0_expireOldLetters_16 : decode cX0_expireOldLetters 16 = .ok (.iconst 1, 1) := by decide +kernel
theorem dX0_expireOldLetters_17 : decode cX0_expireOldLetters 17 = .ok (.if_icmp .ne 31, 3) := by decide +kernel
theorem dX0_expireOldLetters_20 : decode cX0_expireOldLetters 20 = .ok (.aload_n 0, 1) := by decide +kernel
theorem dX0_expireOldLetters_21 : decode cX0_expireOldLetters 21 = .ok (.getfield 51, 3) := by decide +kernel
theorem dX0_expireOldLetters_24 : decode cX0_expireOldLetters 24 = .ok (.aload_n 0, 1) := by decide +kernel
theorem dX0_expireOldLetters_25 : decode cX0_expireOldLetters 25 = .ok (.getfield 28, 3) := by decide +kernel
theorem dX0_expireOldLetters_28 : decode cX0_expireOldLetters 28 = .ok (.iload_n 1, 1) := by decide +kernel
theorem dX0_expireOldLetters_29 : decode cX0_expireOldLetters 29 = .ok (.iaload, 1) := by decide +kernel
theorem dX0_expireOldLetters_30 : decode cX0_expireOldLetters 30 = .ok (.isub, 1) := by decide +kernel
theorem dX0_expireOldLetters_31 : decode cX0_expireOldLetters 31 = .ok (.bipush 20, 2) := by decide +kernel
theorem dX0_expireOldLetters_33 : decode cX0_expireOldLetters 33 = .ok (.if_icmp .lt 15, 3) := by decide +kernel
theorem dX0_expireOldLetters_36 : decode cX0_expireOldLetters 36 = .ok (.aload_n 0, 1) := by decide +kernel
theorem dX0_expireOldLetters_37 : decode cX0_expireOldLetters 37 = .ok (.getfield 19, 3) := by decide +kernel
theorem dX0_expireOldLetters_40 : decode cX0_expireOldLetters 40 = .ok (.iload_n 1, 1) := by decide +kernel
theorem dX0_expireOldLetters_41 : decode cX0_expireOldLetters 41 = .ok (.iconst 5, 1) := by decide +kernel
theorem dX0_expireOldLetters_42 : decode cX0_expireOldLetters 42 = .ok (.iastore, 1) := by decide +kernel
theorem dX0_expireOldLetters_43 : decode cX0_expireOldLetters 43 = .ok (.aload_n 0, 1) := by decide +kernel
theorem dX0_expireOldLetters_44 : decode cX0_expireOldLetters 44 = .ok (.iload_n 1, 1) := by decide +kernel
theorem dX0_expireOldLetters_45 : decode cX0_expireOldLetters 45 = .ok (.invokevirtual 119, 3) := by decide +kernel
theorem dX0_expireOldLetters_48 : decode cX0_expireOldLetters 48 = .ok (.iinc 1 1, 3) := by decide +kernel
theorem dX0_expireOldLetters_51 : decode cX0_expireOldLetters 51 = .ok (.goto (-49), 3) := by decide +kernel
theorem dX0_expireOldLetters_54 : decode cX0_expireOldLetters 54 = .ok (.return_, 1) := by decide +kernel
theorem dX0_lengthOfQueue_0 : decode cX0_lengthOfQueue 0 = .ok (.iconst 0, 1) := by decide +kernel
theorem dX0_lengthOfQueue_1 : decode cX0_lengthOfQueue 1 = .ok (.istore_n 2, 1) := by decide +kernel
theorem dX0_lengthOfQueue_2 : decode cX0_lengthOfQueue 2 = .ok (.iconst 0, 1) := by decide +kernel
theorem dX0_lengthOfQueue_3 : decode cX0_lengthOfQueue 3 = .ok (.istore_n 3, 1) := by decide +kernel
theorem dX0_lengthOfQueue_4 : decode cX0_lengthOfQueue 4 = .ok (.iload_n 3, 1) := by decide +kernel
theorem dX0_lengthOfQueue_5 : decode cX0_lengthOfQueue 5 = .ok (.aload_n 0, 1) := by decide +kernel
theorem dX0_lengthOfQueue_6 : decode cX0_lengthOfQueue 6 = .ok (.getfield 47, 3) := by decide +kernel
theorem dX0_lengthOfQueue_9 : decode cX0_lengthOfQueue 9 = .ok (.if_icmp .ge 22, 3) := by decide +kernel
theorem dX0_lengthOfQueue_12 : decode cX0_lengthOfQueue 12 = .ok (.aload_n 0, 1) := by decide +kernel
theorem dX0_lengthOfQueue_13 : decode cX0_lengthOfQueue 13 = .ok (.getfield 22, 3) := by decide +kernel
theorem dX0_lengthOfQueue_16 : decode cX0_lengthOfQueue 16 = .ok (.iload_n 3, 1) := by decide +kernel
theorem dX0_lengthOfQueue_17 : decode cX0_lengthOfQueue 17 = .ok (.iaload, 1) := by decide +kernel
theorem dX0_lengthOfQueue_18 : decode cX0_lengthOfQueue 18 = .ok (.iload_n 1, 1) := by decide +kernel
theorem dX0_lengthOfQueue_19 : decode cX0_lengthOfQueue 19 = .ok (.if_icmp .ne 6, 3) := by decide +kernel
theorem dX0_lengthOfQueue_22 : decode cX0_lengthOfQueue 22 = .ok (.iinc 2 1, 3) := by decide +kernel
theorem dX0_lengthOfQueue_25 : decode cX0_lengthOfQueue 25 = .ok (.iinc 3 1, 3) := by decide +kernel
theorem dX0_lengthOfQueue_28 : decode cX0_lengthOfQueue 28 = .ok (.goto (-24), 3) := by decide +kernel
theorem dX0_lengthOfQueue_31 : decode cX0_lengthOfQueue 31 = .ok (.iload_n 2, 1) := by decide +kernel
theorem dX0_lengthOfQueue_32 : decode cX0_lengthOfQueue 32 = .ok (.ireturn, 1) := by decide +kernel
set_option maxRecDepth 20000 in
theorem ggX0_giveStakeBack_X0_isLetter : GoodIn wsX0_giveStakeBack wsX0_isLetter := goodIn_r _ [8, 9, 13, 14, 15, 16, 17, 18, 19, 20, 21, 22, 23, 24, 25, 26, 27, 28] (by decide +kernel) (by decide +kernel)
set_option maxRecDepth 20000 in
theorem gX0_giveStakeBack_X0_isLetter : GoodIn wsX0_giveStakeBack (wsV RX0 112 RX0 yX0_isLetter wsX0_isLetter) := goodIn_app (goodIn_of _ (by decide +kernel)) ggX0_giveStakeBack_X0_isLetter
set_option maxRecDepth 20000 in
theorem ggX0_giveStakeBack_X0_isPerson : GoodIn wsX0_giveStakeBack wsX0_isPerson := goodIn_r _ [12] (by decide +kernel) (by decide +kernel)
set_option maxRecDepth 20000 in
theorem gX0_giveStakeBack_X0_isPerson : GoodIn wsX0_giveStakeBack (va_wsS RX0 80 yX0_isPerson wsX0_isPerson) := goodIn_app (goodIn_of _ (by decide +kernel)) ggX0_giveStakeBack_X0_isPerson
theorem dX0_giveStakeBack_0 : decode cX0_giveStakeBack 0 = .ok (.aload_n 0, 1) := by decide +kernel
theorem dX0_giveStakeBack_1 : decode cX0_giveStakeBack 1 = .ok (.iload_n 1, 1) := by decide +kernel
theorem dX0_giveStakeBack_2 : decode cX0_giveStakeBack 2 = .ok (.invokevirtual 112, 3) := by decide +kernel
theorem dX0_giveStakeBack_5 : decode cX0_giveStakeBack 5 = .ok (.ifCond .eq 35, 3) := by decide +kernel
theorem dX0_giveStakeBack_8 : decode cX0_giveStakeBack 8 = .ok (.aload_n 0, 1) := by decide +kernel
theorem dX0_giveStakeBack_9 : decode cX0_giveStakeBack 9 = .ok (.getfield 9, 3) := by decide +kernel
theorem dX0_giveStakeBack_12 : decode cX0_giveStakeBack 12 = .ok (.iload_n 1, 1) := by decide +kernel
theorem dX0_giveStakeBack_13 : decode cX0_giveStakeBack 13 = .ok (.iaload, 1) := by decide +kernel
theorem dX0_giveStakeBack_14 : decode cX0_giveStakeBack 14 = .ok (.invokestatic 80, 3) := by decide +kernel
theorem dX0_giveStakeBack_17 : decode cX0_giveStakeBack 17 = .ok (.ifCond .eq 23, 3) := by decide +kernel
theorem dX0_giveStakeBack_20 : decode cX0_giveStakeBack 20 = .ok (.aload_n 0, 1) := by decide +kernel
theorem dX0_giveStakeBack_21 : decode cX0_giveStakeBack 21 = .ok (.getfield 35, 3) := by decide +kernel
theorem dX0_giveStakeBack_24 : decode cX0_giveStakeBack 24 = .ok (.aload_n 0, 1) := by decide +kernel
theorem dX0_giveStakeBack_25 : decode cX0_giveStakeBack 25 = .ok (.getfield 9, 3) := by decide +kernel
theorem dX0_giveStakeBack_28 : decode cX0_giveStakeBack 28 = .ok (.iload_n 1, 1) := by decide +kernel
theorem dX0_giveStakeBack_29 : decode cX0_giveStakeBack 29 = .ok (.iaload, 1) := by decide +kernel
theorem dX0_giveStakeBack_30 : decode cX0_giveStakeBack 30 = .ok (.dup2, 1) := by decide +kernel
theorem dX0_giveStakeBack_31 : decode cX0_giveStakeBack 31 = .ok (.iaload, 1) := by decide +kernel
theorem dX0_giveStakeBack_32 : decode cX0_giveStakeBack 32 = .ok (.aload_n 0, 1) := by decide +kernel
theorem dX0_giveStakeBack_33 : decode cX0_giveStakeBack 33 = .ok (.getfield 16, 3) := by decide +kernel
theorem dX0_giveStakeBack_36 : decode cX0_giveStakeBack 36 = .ok (.iload_n 1, 1) := by decide +kernel
theorem dX0_giveStakeBack_37 : decode cX0_giveStakeBack 37 = .ok (.iaload, 1) := by decide +kernel
theorem dX0_giveStakeBack_38 : decode cX0_giveStakeBack 38 = .ok (.iadd, 1) := by decide +kernel
theorem dX0_giveStakeBack_39 : decode cX0_giveStakeBack 39 = .ok (.iastore, 1) := by decide +kernel
theorem dX0_giveStakeBack_40 : decode cX0_giveStakeBack 40 = .ok (.return_, 1) := by decide +kernel
set_option maxRecDepth 20000 in
theorem ggX0_putStakeIntoPool_X0_isLetter : GoodIn wsX0_putStakeIntoPool wsX0_isLetter := goodIn_r _ [7, 8, 12, 13, 14, 15, 16, 17, 18, 19, 20, 21, 22, 23, 24, 25, 26, 27] (by decide +kernel) (by decide +kernel)
set_option maxRecDepth 20000 in
theorem gX0_putStakeIntoPool_X0_isLetter : GoodIn wsX0_putStakeIntoPool (wsV RX0 112 RX0 yX0_isLetter wsX0_isLetter) := goodIn_app (goodIn_of _ (by decide +kernel)) ggX0_putStakeIntoPool_X0_isLetter
set_option maxRecDepth 20000 in
theorem ggX0_putStakeIntoPool_X0_isRelay : GoodIn wsX0_putStakeIntoPool wsX0_isRelay := goodIn_r _ [11] (by decide +kernel) (by decide +kernel)
set_option maxRecDepth 20000 in
theorem gX0_putStakeIntoPool_X0_isRelay : GoodIn wsX0_putStakeIntoPool (va_wsS RX0 60 yX0_isRelay wsX0_isRelay) := goodIn_app (goodIn_of _ (by decide +kernel)) ggX0_putStakeIntoPool_X0_isRelay
theorem dX0_putStakeIntoPool_0 : decode cX0_putStakeIntoPool 0 = .ok (.aload_n 0, 1) := by decide +kernel
theorem dX0_putStakeIntoPool_1 : decode cX0_putStakeIntoPool 1 = .ok (.iload_n 1, 1) := by decide +kernel
theorem dX0_putStakeIntoPool_2 : decode cX0_putStakeIntoPool 2 = .ok (.invokevirtual 112, 3) := by decide +kernel
theorem dX0_putStakeIntoPool_5 : decode cX0_putStakeIntoPool 5 = .ok (.ifCond .eq 25, 3) := by decide +kernel
theorem dX0_putStakeIntoPool_8 : decode cX0_putStakeIntoPool 8 = .ok (.iload_n 2, 1) := by decide +kernel
theorem dX0_putStakeIntoPool_9 : decode cX0_putStakeIntoPool 9 = .ok (.invokestatic 60, 3) := by decide +kernel
theorem dX0_putStakeIntoPool_12 : decode cX0_putStakeIntoPool 12 = .ok (.ifCond .eq 18, 3) := by decide +kernel
theorem dX0_putStakeIntoPool_15 : decode cX0_putStakeIntoPool 15 = .ok (.aload_n 0, 1) := by decide +kernel
theorem dX0_putStakeIntoPool_16 : decode cX0_putStakeIntoPool 16 = .ok (.getfield 41, 3) := by decide +kernel
theorem dX0_putStakeIntoPool_19 : decode cX0_putStakeIntoPool 19 = .ok (.iload_n 2, 1) := by decide +kernel
theorem dX0_putStakeIntoPool_20 : decode cX0_putStakeIntoPool 20 = .ok (.dup2, 1) := by decide +kernel
theorem dX0_putStakeIntoPool_21 : decode cX0_putStakeIntoPool 21 = .ok (.iaload, 1) := by decide +kernel
theorem dX0_putStakeIntoPool_22 : decode cX0_putStakeIntoPool 22 = .ok (.aload_n 0, 1) := by decide +kernel
theorem dX0_putStakeIntoPool_23 : decode cX0_putStakeIntoPool 23 = .ok (.getfield 16, 3) := by decide +kernel
theorem dX0_putStakeIntoPool_26 : decode cX0_putStakeIntoPool 26 = .ok (.iload_n 1, 1) := by decide +kernel
theorem dX0_putStakeIntoPool_27 : decode cX0_putStakeIntoPool 27 = .ok (.iaload, 1) := by decide +kernel
theorem dX0_putStakeIntoPool_28 : decode cX0_putStakeIntoPool 28 = .ok (.iadd, 1) := by decide +kernel
theorem dX0_putStakeIntoPool_29 : decode cX0_putStakeIntoPool 29 = .ok (.iastore, 1) := by decide +kernel
theorem dX0_putStakeIntoPool_30 : decode cX0_putStakeIntoPool 30 = .ok (.return_, 1) := by decide +kernel
set_option maxRecDepth 20000 in
theorem ggX0_payForFalseMark_X0_isPerson : GoodIn wsX0_payForFalseMark wsX0_isPerson := goodIn_r _ [10] (by decide +kernel) (by decide +kernel)
set_option maxRecDepth 20000 in
theorem gX0_payForFalseMark_X0_isPerson : GoodIn wsX0_payForFalseMark (va_wsS RX0 80 yX0_isPerson wsX0_isPerson) := goodIn_app (goodIn_of _ (by decide +kernel)) ggX0_payForFalseMark_X0_isPerson
theorem dX0_payForFalseMark_0 : decode cX0_payForFalseMark 0 = .ok (.iload_n 1, 1) := by decide +kernel
theorem dX0_payForFalseMark_1 : decode cX0_payForFalseMark 1 = .ok (.invokestatic 80, 3) := by decide +kernel
theorem dX0_payForFalseMark_4 : decode cX0_payForFalseMark 4 = .ok (.ifCond .eq 10, 3) := by decide +kernel
theorem dX0_payForFalseMark_7 : decode cX0_payForFalseMark 7 = .ok (.iload_n 2, 1) := by decide +kernel
theorem dX0_payForFalseMark_8 : decode cX0_payForFalseMark 8 = .ok (.invokestatic 80, 3) := by decide +kernel
theorem dX0_payForFalseMark_11 : decode cX0_payForFalseMark 11 = .ok (.ifCond .ne 5, 3) := by decide +kernel
theorem dX0_payForFalseMark_14 : decode cX0_payForFalseMark 14 = .ok (.iconst 0, 1) := by decide +kernel
theorem dX0_payForFalseMark_15 : decode cX0_payForFalseMark 15 = .ok (.ireturn, 1) := by decide +kernel
theorem dX0_payForFalseMark_16 : decode cX0_payForFalseMark 16 = .ok (.iload_n 3, 1) := by decide +kernel
theorem dX0_payForFalseMark_17 : decode cX0_payForFalseMark 17 = .ok (.aload_n 0, 1) := by decide +kernel
theorem dX0_payForFalseMark_18 : decode cX0_payForFalseMark 18 = .ok (.getfield 35, 3) := by decide +kernel
theorem dX0_payForFalseMark_21 : decode cX0_payForFalseMark 21 = .ok (.iload_n 1, 1) := by decide +kernel
theorem dX0_payForFalseMark_22 : decode cX0_payForFalseMark 22 = .ok (.iaload, 1) := by decide +kernel
theorem dX0_payForFalseMark_23 : decode cX0_payForFalseMark 23 = .ok (.invokestatic 165, 3) := by decide +kernel
theorem dX0_payForFalseMark_26 : decode cX0_payForFalseMark 26 = .ok (.istore 4, 2) := by decide +kernel
theorem dX0_payForFalseMark_28 : decode cX0_payForFalseMark 28 = .ok (.aload_n 0, 1) := by decide +kernel
theorem dX0_payForFalseMark_29 : decode cX0_payForFalseMark 29 = .ok (.getfield 38, 3) := by decide +kernel
theorem dX0_payForFalseMark_32 : decode cX0_payForFalseMark 32 = .ok (.iload_n 1, 1) := by decide +kernel
theorem dX0_payForFalseMark_33 : decode cX0_payForFalseMark 33 = .ok (.dup2, 1) := by decide +kernel
theorem dX0_payForFalseMark_34 : decode cX0_payForFalseMark 34 = .ok (.iaload, 1) := by decide +kernel
theorem dX0_payForFalseMark_35 : decode cX0_payForFalseMark 35 = .ok (.iconst 1, 1) := by decide +kernel
theorem dX0_payForFalseMark_36 : decode cX0_payForFalseMark 36 = .ok (.iadd, 1) := by decide +kernel
theorem dX0_payForFalseMark_37 : decode cX0_payForFalseMark 37 = .ok (.iastore, 1) := by decide +kernel
theorem dX0_payForFalseMark_38 : decode cX0_payForFalseMark 38 = .ok (.aload_n 0, 1) := by decide +kernel
theorem dX0_payForFalseMark_39 : decode cX0_payForFalseMark 39 = .ok (.getfield 35, 3) := by decide +kernel
theorem dX0_payForFalseMark_42 : decode cX0_payForFalseMark 42 = .ok (.iload_n 1, 1) := by decide +kernel
theorem dX0_payForFalseMark_43 : decode cX0_payForFalseMark 43 = .ok (.dup2, 1) := by decide +kernel
theorem dX0_payForFalseMark_44 : decode cX0_payForFalseMark 44 = .ok (.iaload, 1) := by decide +kernel
theorem dX0_payForFalseMark_45 : decode cX0_payForFalseMark 45 = .ok (.iload 4, 2) := by decide +kernel
theorem dX0_payForFalseMark_47 : decode cX0_payForFalseMark 47 = .ok (.isub, 1) := by decide +kernel
theorem dX0_payForFalseMark_48 : decode cX0_payForFalseMark 48 = .ok (.iastore, 1) := by decide +kernel
theorem dX0_payForFalseMark_49 : decode cX0_payForFalseMark 49 = .ok (.aload_n 0, 1) := by decide +kernel
theorem dX0_payForFalseMark_50 : decode cX0_payForFalseMark 50 = .ok (.getfield 35, 3) := by decide +kernel
theorem dX0_payForFalseMark_53 : decode cX0_payForFalseMark 53 = .ok (.iload_n 2, 1) := by decide +kernel
theorem dX0_payForFalseMark_54 : decode cX0_payForFalseMark 54 = .ok (.dup2, 1) := by decide +kernel
theorem dX0_payForFalseMark_55 : decode cX0_payForFalseMark 55 = .ok (.iaload, 1) := by decide +kernel
theorem dX0_payForFalseMark_56 : decode cX0_payForFalseMark 56 = .ok (.iload 4, 2) := by decide +kernel
theorem dX0_payForFalseMark_58 : decode cX0_payForFalseMark 58 = .ok (.iadd, 1) := by decide +kernel
theorem dX0_payForFalseMark_59 : decode cX0_payForFalseMark 59 = .ok (.iastore, 1) := by decide +kernel
theorem dX0_payForFalseMark_60 : decode cX0_payForFalseMark 60 = .ok (.iload 4, 2) := by decide +kernel
theorem dX0_payForFalseMark_62 : decode cX0_payForFalseMark 62 = .ok (.ireturn, 1) := by decide +kernel
set_option maxRecDepth 20000 in
theorem ggX0_othersWhoAnswered_J6_bitCount_0f7a4 : GoodIn wsX0_othersWhoAnswered wsJ6_bitCount_0f7a4 := goodIn_r _ [8, 9, 10, 11] (by decide +kernel) (by decide +kernel)
set_option maxRecDepth 20000 in
theorem gX0_othersWhoAnswered_J6_bitCount_0f7a4 : GoodIn wsX0_othersWhoAnswered (va_wsS RX0 170 yJ6_bitCount_0f7a4 wsJ6_bitCount_0f7a4) := goodIn_app (goodIn_of _ (by decide +kernel)) ggX0_othersWhoAnswered_J6_bitCount_0f7a4
theorem dX0_othersWhoAnswered_0 : decode cX0_othersWhoAnswered 0 = .ok (.iconst 0, 1) := by decide +kernel
theorem dX0_othersWhoAnswered_1 : decode cX0_othersWhoAnswered 1 = .ok (.istore_n 3, 1) := by decide +kernel
theorem dX0_othersWhoAnswered_2 : decode cX0_othersWhoAnswered 2 = .ok (.iconst 0, 1) := by decide +kernel
theorem dX0_othersWhoAnswered_3 : decode cX0_othersWhoAnswered 3 = .ok (.istore 4, 2) := by decide +kernel
theorem dX0_othersWhoAnswered_5 : decode cX0_othersWhoAnswered 5 = .ok (.iload 4, 2) := by decide +kernel
theorem dX0_othersWhoAnswered_7 : decode cX0_othersWhoAnswered 7 = .ok (.aload_n 0, 1) := by decide +kernel
theorem dX0_othersWhoAnswered_8 : decode cX0_othersWhoAnswered 8 = .ok (.getfield 47, 3) := by decide +kernel
theorem dX0_othersWhoAnswered_11 : decode cX0_othersWhoAnswered 11 = .ok (.if_icmp .ge 54, 3) := by decide +kernel
theorem dX0_othersWhoAnswered_14 : decode cX0_othersWhoAnswered 14 = .ok (.aload_n 0, 1) := by decide +kernel
theorem dX0_othersWhoAnswered_15 : decode cX0_othersWhoAnswered 15 = .ok (.getfield 19, 3) := by decide +kernel
theorem dX0_othersWhoAnswered_18 : decode cX0_othersWhoAnswered 18 = .ok (.iload 4, 2) := by decide +kernel
theorem dX0_othersWhoAnswered_20 : decode cX0_othersWhoAnswered 20 = .ok (.iaload, 1) := by decide +kernel
theorem dX0_othersWhoAnswered_21 : decode cX0_othersWhoAnswered 21 = .ok (.iconst 2, 1) := by decide +kernel
theorem dX0_othersWhoAnswered_22 : decode cX0_othersWhoAnswered 22 = .ok (.if_icmp .ne 37, 3) := by decide +kernel
theorem dX0_othersWhoAnswered_25 : decode cX0_othersWhoAnswered 25 = .ok (.aload_n 0, 1) := by decide +kernel
theorem dX0_othersWhoAnswered_26 : decode cX0_othersWhoAnswered 26 = .ok (.getfield 9, 3) := by decide +kernel
theorem dX0_othersWhoAnswered_29 : decode cX0_othersWhoAnswered 29 = .ok (.iload 4, 2) := by decide +kernel
theorem dX0_othersWhoAnswered_31 : decode cX0_othersWhoAnswered 31 = .ok (.iaload, 1) := by decide +kernel
theorem dX0_othersWhoAnswered_32 : decode cX0_othersWhoAnswered 32 = .ok (.iload_n 1, 1) := by decide +kernel
theorem dX0_othersWhoAnswered_33 : decode cX0_othersWhoAnswered 33 = .ok (.if_icmp .ne 26, 3) := by decide +kernel
theorem dX0_othersWhoAnswered_36 : decode cX0_othersWhoAnswered 36 = .ok (.aload_n 0, 1) := by decide +kernel
theorem dX0_othersWhoAnswered_37 : decode cX0_othersWhoAnswered 37 = .ok (.getfield 13, 3) := by decide +kernel
theorem dX0_othersWhoAnswered_40 : decode cX0_othersWhoAnswered 40 = .ok (.iload 4, 2) := by decide +kernel
theorem dX0_othersWhoAnswered_42 : decode cX0_othersWhoAnswered 42 = .ok (.iaload, 1) := by decide +kernel
theorem dX0_othersWhoAnswered_43 : decode cX0_othersWhoAnswered 43 = .ok (.iload_n 2, 1) := by decide +kernel
theorem dX0_othersWhoAnswered_44 : decode cX0_othersWhoAnswered 44 = .ok (.if_icmp .eq 15, 3) := by decide +kernel
theorem dX0_othersWhoAnswered_47 : decode cX0_othersWhoAnswered 47 = .ok (.iload_n 3, 1) := by decide +kernel
theorem dX0_othersWhoAnswered_48 : decode cX0_othersWhoAnswered 48 = .ok (.iconst 1, 1) := by decide +kernel
theorem dX0_othersWhoAnswered_49 : decode cX0_othersWhoAnswered 49 = .ok (.aload_n 0, 1) := by decide +kernel
theorem dX0_othersWhoAnswered_50 : decode cX0_othersWhoAnswered 50 = .ok (.getfield 13, 3) := by decide +kernel
theorem dX0_othersWhoAnswered_53 : decode cX0_othersWhoAnswered 53 = .ok (.iload 4, 2) := by decide +kernel
theorem dX0_othersWhoAnswered_55 : decode cX0_othersWhoAnswered 55 = .ok (.iaload, 1) := by decide +kernel
theorem dX0_othersWhoAnswered_56 : decode cX0_othersWhoAnswered 56 = .ok (.ishl, 1) := by decide +kernel
theorem dX0_othersWhoAnswered_57 : decode cX0_othersWhoAnswered 57 = .ok (.ior, 1) := by decide +kernel
theorem dX0_othersWhoAnswered_58 : decode cX0_othersWhoAnswered 58 = .ok (.istore_n 3, 1) := by decide +kernel
theorem dX0_othersWhoAnswered_59 : decode cX0_othersWhoAnswered 59 = .ok (.iinc 4 1, 3) := by decide +kernel
theorem dX0_othersWhoAnswered_62 : decode cX0_othersWhoAnswered 62 = .ok (.goto (-57), 3) := by decide +kernel
theorem dX0_othersWhoAnswered_65 : decode cX0_othersWhoAnswered 65 = .ok (.iload_n 3, 1) := by decide +kernel
theorem dX0_othersWhoAnswered_66 : decode cX0_othersWhoAnswered 66 = .ok (.invokestatic 170, 3) := by decide +kernel
theorem dX0_othersWhoAnswered_69 : decode cX0_othersWhoAnswered 69 = .ok (.ireturn, 1) := by decide +kernel
set_option maxRecDepth 20000 in
theorem ggX0_opinionIn_X0_isLetter : GoodIn wsX0_opinionIn wsX0_isLetter := goodIn_r _ [8, 9, 22, 23, 24, 25, 26, 27, 28, 29, 30, 31, 32, 33, 34, 35, 36, 37] (by decide +kernel) (by decide +kernel)
set_option maxRecDepth 20000 in
theorem gX0_opinionIn_X0_isLetter : GoodIn wsX0_opinionIn (wsV RX0 112 RX0 yX0_isLetter wsX0_isLetter) := goodIn_app (goodIn_of _ (by decide +kernel)) ggX0_opinionIn_X0_isLetter
set_option maxRecDepth 20000 in
theorem ggX0_opinionIn_X0_weightOf : GoodIn wsX0_opinionIn wsX0_weightOf := goodIn_r _ [13, 14, 15, 16, 17, 18, 19, 20, 7, 21, 22, 23, 24, 25, 26, 27, 28, 29, 30, 31, 32, 33, 34, 35, 36, 37] (by decide +kernel) (by decide +kernel)
set_option maxRecDepth 20000 in
theorem gX0_opinionIn_X0_weightOf : GoodIn wsX0_opinionIn (wsV RX0 175 RX0 yX0_weightOf wsX0_weightOf) := goodIn_app (goodIn_of _ (by decide +kernel)) ggX0_opinionIn_X0_weightOf
theorem dX0_opinionIn_0 : decode cX0_opinionIn 0 = .ok (.aload_n 0, 1) := by decide +kernel
theorem dX0_opinionIn_1 : decode cX0_opinionIn 1 = .ok (.iload_n 1, 1) := by decide +kernel
theorem dX0_opinionIn_2 : decode cX0_opinionIn 2 = .ok (.invokevirtual 112, 3) := by decide +kernel
theorem dX0_opinionIn_5 : decode cX0_opinionIn 5 = .ok (.ifCond .ne 5, 3) := by decide +kernel
theorem dX0_opinionIn_8 : decode cX0_opinionIn 8 = .ok (.iconst 0, 1) := by decide +kernel
theorem dX0_opinionIn_9 : decode cX0_opinionIn 9 = .ok (.ireturn, 1) := by decide +kernel
theorem dX0_opinionIn_10 : decode cX0_opinionIn 10 = .ok (.aload_n 0, 1) := by decide +kernel
theorem dX0_opinionIn_11 : decode cX0_opinionIn 11 = .ok (.getfield 19, 3) := by decide +kernel
theorem dX0_opinionIn_14 : decode cX0_opinionIn 14 = .ok (.iload_n 1, 1) := by decide +kernel
theorem dX0_opinionIn_15 : decode cX0_opinionIn 15 = .ok (.iaload, 1) := by decide +kernel
theorem dX0_opinionIn_16 : decode cX0_opinionIn 16 = .ok (.iconst 2, 1) := by decide +kernel
theorem dX0_opinionIn_17 : decode cX0_opinionIn 17 = .ok (.if_icmp .ne 16, 3) := by decide +kernel
theorem dX0_opinionIn_20 : decode cX0_opinionIn 20 = .ok (.iconst 2, 1) := by decide +kernel
theorem dX0_opinionIn_21 : decode cX0_opinionIn 21 = .ok (.aload_n 0, 1) := by decide +kernel
theorem dX0_opinionIn_22 : decode cX0_opinionIn 22 = .ok (.aload_n 0, 1) := by decide +kernel
theorem dX0_opinionIn_23 : decode cX0_opinionIn 23 = .ok (.getfield 13, 3) := by decide +kernel
theorem dX0_opinionIn_26 : decode cX0_opinionIn 26 = .ok (.iload_n 1, 1) := by decide +kernel
theorem dX0_opinionIn_27 : decode cX0_opinionIn 27 = .ok (.iaload, 1) := by decide +kernel
theorem dX0_opinionIn_28 : decode cX0_opinionIn 28 = .ok (.invokevirtual 175, 3) := by decide +kernel
theorem dX0_opinionIn_31 : decode cX0_opinionIn 31 = .ok (.imul, 1) := by decide +kernel
theorem dX0_opinionIn_32 : decode cX0_opinionIn 32 = .ok (.ireturn, 1) := by decide +kernel
theorem dX0_opinionIn_33 : decode cX0_opinionIn 33 = .ok (.aload_n 0, 1) := by decide +kernel
theorem dX0_opinionIn_34 : decode cX0_opinionIn 34 = .ok (.getfield 19, 3) := by decide +kernel
theorem dX0_opinionIn_37 : decode cX0_opinionIn 37 = .ok (.iload_n 1, 1) := by decide +kernel
theorem dX0_opinionIn_38 : decode cX0_opinionIn 38 = .ok (.iaload, 1) := by decide +kernel
theorem dX0_opinionIn_39 : decode cX0_opinionIn 39 = .ok (.iconst 3, 1) := by decide +kernel
theorem dX0_opinionIn_40 : decode cX0_opinionIn 40 = .ok (.if_icmp .ne 26, 3) := by decide +kernel
theorem dX0_opinionIn_43 : decode cX0_opinionIn 43 = .ok (.aload_n 0, 1) := by decide +kernel
theorem dX0_opinionIn_44 : decode cX0_opinionIn 44 = .ok (.getfield 31, 3) := by decide +kernel
theorem dX0_opinionIn_47 : decode cX0_opinionIn 47 = .ok (.iload_n 1, 1) := by decide +kernel
theorem dX0_opinionIn_48 : decode cX0_opinionIn 48 = .ok (.baload, 1) := by decide +kernel
theorem dX0_opinionIn_49 : decode cX0_opinionIn 49 = .ok (.ifCond .ne 17, 3) := by decide +kernel
theorem dX0_opinionIn_52 : decode cX0_opinionIn 52 = .ok (.bipush (-3), 2) := by decide +kernel
theorem dX0_opinionIn_54 : decode cX0_opinionIn 54 = .ok (.aload_n 0, 1) := by decide +kernel
theorem dX0_opinionIn_55 : decode cX0_opinionIn 55 = .ok (.aload_n 0, 1) := by decide +kernel
theorem dX0_opinionIn_56 : decode cX0_opinionIn 56 = .ok (.getfield 13, 3) := by decide +kernel
theorem dX0_opinionIn_59 : decode cX0_opinionIn 59 = .ok (.iload_n 1, 1) := by decide +kernel
theorem dX0_opinionIn_60 : decode cX0_opinionIn 60 = .ok (.iaload, 1) := by decide +kernel
theorem dX0_opinionIn_61 : decode cX0_opinionIn 61 = .ok (.invokevirtual 175, 3) := by decide +kernel
theorem dX0_opinionIn_64 : decode cX0_opinionIn 64 = .ok (.imul, 1) := by decide +kernel
theorem dX0_opinionIn_65 : decode cX0_opinionIn 65 = .ok (.ireturn, 1) := by decide +kernel
theorem dX0_opinionIn_66 : decode cX0_opinionIn 66 = .ok (.iconst 0, 1) := by decide +kernel
theorem dX0_opinionIn_67 : decode cX0_opinionIn 67 = .ok (.ireturn, 1) := by decide +kernel
set_option maxRecDepth 20000 in
theorem ggX0_weightOf_X0_isPerson : GoodIn wsX0_weightOf wsX0_isPerson := goodIn_r _ [9] (by decide +kernel) (by decide +kernel)
set_option maxRecDepth 20000 in
theorem gX0_weightOf_X0_isPerson : GoodIn wsX0_weightOf (va_wsS RX0 80 yX0_isPerson wsX0_isPerson) := goodIn_app (goodIn_of _ (by decide +kernel)) ggX0_weightOf_X0_isPerson
theorem dX0_weightOf_0 : decode cX0_weightOf 0 = .ok (.iload_n 1, 1) := by decide +kernel
theorem dX0_weightOf_1 : decode cX0_weightOf 1 = .ok (.invokestatic 80, 3) := by decide +kernel
theorem dX0_weightOf_4 : decode cX0_weightOf 4 = .ok (.ifCond .ne 5, 3) := by decide +kernel
theorem dX0_weightOf_7 : decode cX0_weightOf 7 = .ok (.iconst 1, 1) := by decide +kernel
theorem dX0_weightOf_8 : decode cX0_weightOf 8 = .ok (.ireturn, 1) := by decide +kernel
theorem dX0_weightOf_9 : decode cX0_weightOf 9 = .ok (.iconst 5, 1) := by decide +kernel
theorem dX0_weightOf_10 : decode cX0_weightOf 10 = .ok (.aload_n 0, 1) := by decide +kernel
theorem dX0_weightOf_11 : decode cX0_weightOf 11 = .ok (.getfield 38, 3) := by decide +kernel
theorem dX0_weightOf_14 : decode cX0_weightOf 14 = .ok (.iload_n 1, 1) := by decide +kernel
theorem dX0_weightOf_15 : decode cX0_weightOf 15 = .ok (.iaload, 1) := by decide +kernel
theorem dX0_weightOf_16 : decode cX0_weightOf 16 = .ok (.isub, 1) := by decide +kernel
theorem dX0_weightOf_17 : decode cX0_weightOf 17 = .ok (.iconst 1, 1) := by decide +kernel
theorem dX0_weightOf_18 : decode cX0_weightOf 18 = .ok (.invokestatic 178, 3) := by decide +kernel
theorem dX0_weightOf_21 : decode cX0_weightOf 21 = .ok (.ireturn, 1) := by decide +kernel
set_option maxRecDepth 20000 in
theorem ggX0_reputationOf_X0_opinionIn : GoodIn wsX0_reputationOf wsX0_opinionIn := goodIn_r _ [7, 8, 9, 10, 11, 12, 13, 6, 14, 1, 15, 16, 17, 18, 19, 20, 21, 22, 23, 24, 25, 26, 27, 28, 29, 30, 31, 32, 33, 34, 35, 36, 37, 38, 39, 40, 41, 42] (by decide +kernel) (by decide +kernel)
set_option maxRecDepth 20000 in
theorem gX0_reputationOf_X0_opinionIn : GoodIn wsX0_reputationOf (wsV RX0 181 RX0 yX0_opinionIn wsX0_opinionIn) := goodIn_app (goodIn_of _ (by decide +kernel)) ggX0_reputationOf_X0_opinionIn
theorem dX0_reputationOf_0 : decode cX0_reputationOf 0 = .ok (.iconst 0, 1) := by decide +kernel
theorem dX0_reputationOf_1 : decode cX0_reputationOf 1 = .ok (.istore_n 2, 1) := by decide +kernel
theorem dX0_reputationOf_2 : decode cX0_reputationOf 2 = .ok (.iconst 0, 1) := by decide +kernel
theorem dX0_reputationOf_3 : decode cX0_reputationOf 3 = .ok (.istore_n 3, 1) := by decide +kernel
theorem dX0_reputationOf_4 : decode cX0_reputationOf 4 = .ok (.iload_n 3, 1) := by decide +kernel
theorem dX0_reputationOf_5 : decode cX0_reputationOf 5 = .ok (.aload_n 0, 1) := by decide +kernel
theorem dX0_reputationOf_6 : decode cX0_reputationOf 6 = .ok (.getfield 47, 3) := by decide +kernel
theorem dX0_reputationOf_9 : decode cX0_reputationOf 9 = .ok (.if_icmp .ge 27, 3) := by decide +kernel
theorem dX0_reputationOf_12 : decode cX0_reputationOf 12 = .ok (.aload_n 0, 1) := by decide +kernel
theorem dX0_reputationOf_13 : decode cX0_reputationOf 13 = .ok (.getfield 9, 3) := by decide +kernel
theorem dX0_reputationOf_16 : decode cX0_reputationOf 16 = .ok (.iload_n 3, 1) := by decide +kernel
theorem dX0_reputationOf_17 : decode cX0_reputationOf 17 = .ok (.iaload, 1) := by decide +kernel
theorem dX0_reputationOf_18 : decode cX0_reputationOf 18 = .ok (.iload_n 1, 1) := by decide +kernel
theorem dX0_reputationOf_19 : decode cX0_reputationOf 19 = .ok (.if_icmp .ne 11, 3) := by decide +kernel
theorem dX0_reputationOf_22 : decode cX0_reputationOf 22 = .ok (.iload_n 2, 1) := by decide +kernel
theorem dX0_reputationOf_23 : decode cX0_reputationOf 23 = .ok (.aload_n 0, 1) := by decide +kernel
theorem dX0_reputationOf_24 : decode cX0_reputationOf 24 = .ok (.iload_n 3, 1) := by decide +kernel
theorem dX0_reputationOf_25 : decode cX0_reputationOf 25 = .ok (.invokevirtual 181, 3) := by decide +kernel
theorem dX0_reputationOf_28 : decode cX0_reputationOf 28 = .ok (.iadd, 1) := by decide +kernel
theorem dX0_reputationOf_29 : decode cX0_reputationOf 29 = .ok (.istore_n 2, 1) := by decide +kernel
theorem dX0_reputationOf_30 : decode cX0_reputationOf 30 = .ok (.iinc 3 1, 3) := by decide +kernel
theorem dX0_reputationOf_33 : decode cX0_reputationOf 33 = .ok (.goto (-29), 3) := by decide +kernel
theorem dX0_reputationOf_36 : decode cX0_reputationOf 36 = .ok (.iload_n 2, 1) := by decide +kernel
theorem dX0_reputationOf_37 : decode cX0_reputationOf 37 = .ok (.ireturn, 1) := by decide +kernel
set_option maxRecDepth 20000 in
theorem ggX0_findAllReputations_X0_isPerson : GoodIn wsX0_findAllReputations wsX0_isPerson := goodIn_r _ [7] (by decide +kernel) (by decide +kernel)
set_option maxRecDepth 20000 in
theorem gX0_findAllReputations_X0_isPerson : GoodIn wsX0_findAllReputations (va_wsS RX0 80 yX0_isPerson wsX0_isPerson) := goodIn_app (goodIn_of _ (by decide +kernel)) ggX0_findAllReputations_X0_isPerson
set_option maxRecDepth 20000 in
theorem ggX0_findAllReputations_X0_opinionIn : GoodIn wsX0_findAllReputations wsX0_opinionIn := goodIn_r _ [11, 12, 13, 14, 15, 16, 17, 6, 18, 2, 19, 20, 21, 22, 23, 24, 25, 26, 27, 4, 5, 7, 28, 29, 30, 31, 32, 33, 34, 35, 36, 37, 38, 39, 40, 41, 42, 43] (by decide +kernel) (by decide +kernel)
set_option maxRecDepth 20000 in
theorem gX0_findAllReputations_X0_opinionIn : GoodIn wsX0_findAllReputations (wsV RX0 181 RX0 yX0_opinionIn wsX0_opinionIn) := goodIn_app (goodIn_of _ (by decide +kernel)) ggX0_findAllReputations_X0_opinionIn
theorem dX0_findAllReputations_0 : decode cX0_findAllReputations 0 = .ok (.iconst 0, 1) := by decide +kernel
theorem dX0_findAllReputations_1 : decode cX0_findAllReputations 1 = .ok (.istore_n 1, 1) := by decide +kernel
theorem dX0_findAllReputations_2 : decode cX0_findAllReputations 2 = .ok (.iload_n 1, 1) := by decide +kernel
theorem dX0_findAllReputations_3 : decode cX0_findAllReputations 3 = .ok (.bipush 8, 2) := by decide +kernel
theorem dX0_findAllReputations_5 : decode cX0_findAllReputations 5 = .ok (.if_icmp .ge 16, 3) := by decide +kernel
theorem dX0_findAllReputations_8 : decode cX0_findAllReputations 8 = .ok (.aload_n 0, 1) := by decide +kernel
theorem dX0_findAllReputations_9 : decode cX0_findAllReputations 9 = .ok (.getfield 57, 3) := by decide +kernel
theorem dX0_findAllReputations_12 : decode cX0_findAllReputations 12 = .ok (.iload_n 1, 1) := by decide +kernel
theorem dX0_findAllReputations_13 : decode cX0_findAllReputations 13 = .ok (.iconst 0, 1) := by decide +kernel
theorem dX0_findAllReputations_14 : decode cX0_findAllReputations 14 = .ok (.iastore, 1) := by decide +kernel
theorem dX0_findAllReputations_15 : decode cX0_findAllReputations 15 = .ok (.iinc 1 1, 3) := by decide +kernel
theorem dX0_findAllReputations_18 : decode cX0_findAllReputations 18 = .ok (.goto (-16), 3) := by decide +kernel
theorem dX0_findAllReputations_21 : decode cX0_findAllReputations 21 = .ok (.iconst 0, 1) := by decide +kernel
theorem dX0_findAllReputations_22 : decode cX0_findAllReputations 22 = .ok (.istore_n 1, 1) := by decide +kernel
theorem dX0_findAllReputations_23 : decode cX0_findAllReputations 23 = .ok (.iload_n 1, 1) := by decide +kernel
theorem dX0_findAllReputations_24 : decode cX0_findAllReputations 24 = .ok (.aload_n 0, 1) := by decide +kernel
theorem dX0_findAllReputations_25 : decode cX0_findAllReputations 25 = .ok (.getfield 47, 3) := by decide +kernel
theorem dX0_findAllReputations_28 : decode cX0_findAllReputations 28 = .ok (.if_icmp .ge 40, 3) := by decide +kernel
theorem dX0_findAllReputations_31 : decode cX0_findAllReputations 31 = .ok (.aload_n 0, 1) := by decide +kernel
theorem dX0_findAllReputations_32 : decode cX0_findAllReputations 32 = .ok (.getfield 9, 3) := by decide +kernel
theorem dX0_findAllReputations_35 : decode cX0_findAllReputations 35 = .ok (.iload_n 1, 1) := by decide +kernel
theorem dX0_findAllReputations_36 : decode cX0_findAllReputations 36 = .ok (.iaload, 1) := by decide +kernel
theorem dX0_findAllReputations_37 : decode cX0_findAllReputations 37 = .ok (.invokestatic 80, 3) := by decide +kernel
theorem dX0_findAllReputations_40 : decode cX0_findAllReputations 40 = .ok (.ifCond .eq 22, 3) := by decide +kernel
theorem dX0_findAllReputations_43 : decode cX0_findAllReputations 43 = .ok (.aload_n 0, 1) := by decide +kernel
theorem dX0_findAllReputations_44 : decode cX0_findAllReputations 44 = .ok (.getfield 57, 3) := by decide +kernel
theorem dX0_findAllReputations_47 : decode cX0_findAllReputations 47 = .ok (.aload_n 0, 1) := by decide +kernel
theorem dX0_findAllReputations_48 : decode cX0_findAllReputations 48 = .ok (.getfield 9, 3) := by decide +kernel
theorem dX0_findAllReputations_51 : decode cX0_findAllReputations 51 = .ok (.iload_n 1, 1) := by decide +kernel
theorem dX0_findAllReputations_52 : decode cX0_findAllReputations 52 = .ok (.iaload, 1) := by decide +kernel
theorem dX0_findAllReputations_53 : decode cX0_findAllReputations 53 = .ok (.dup2, 1) := by decide +kernel
theorem dX0_findAllReputations_54 : decode cX0_findAllReputations 54 = .ok (.iaload, 1) := by decide +kernel
theorem dX0_findAllReputations_55 : decode cX0_findAllReputations 55 = .ok (.aload_n 0, 1) := by decide +kernel
theorem dX0_findAllReputations_56 : decode cX0_findAllReputations 56 = .ok (.iload_n 1, 1) := by decide +kernel
theorem dX0_findAllReputations_57 : decode cX0_findAllReputations 57 = .ok (.invokevirtual 181, 3) := by decide +kernel
theorem dX0_findAllReputations_60 : decode cX0_findAllReputations 60 = .ok (.iadd, 1) := by decide +kernel
theorem dX0_findAllReputations_61 : decode cX0_findAllReputations 61 = .ok (.iastore, 1) := by decide +kernel
theorem dX0_findAllReputations_62 : decode cX0_findAllReputations 62 = .ok (.iinc 1 1, 3) := by decide +kernel
theorem dX0_findAllReputations_65 : decode cX0_findAllReputations 65 = .ok (.goto (-42), 3) := by decide +kernel
theorem dX0_findAllReputations_68 : decode cX0_findAllReputations 68 = .ok (.return_, 1) := by decide +kernel
set_option maxRecDepth 20000 in
theorem ggX0_lowestStakeOf_X0_reputationOf : GoodIn wsX0_lowestStakeOf wsX0_reputationOf := goodIn_r _ [12, 13, 14, 15, 16, 17, 11, 18, 19, 20, 21, 22, 23, 24, 25, 26, 27, 28, 29, 30, 5, 6, 3, 7, 31, 32, 33, 34, 35, 36, 37, 38, 39, 40, 41, 42, 43, 44, 45, 46, 47, 48, 49] (by decide +kernel) (by decide +kernel)
set_option maxRecDepth 20000 in
theorem gX0_lowestStakeOf_X0_reputationOf : GoodIn wsX0_lowestStakeOf (wsV RX0 123 RX0 yX0_reputationOf wsX0_reputationOf) := goodIn_app (goodIn_of _ (by decide +kernel)) ggX0_lowestStakeOf_X0_reputationOf
theorem dX0_lowestStakeOf_0 : decode cX0_lowestStakeOf 0 = .ok (.iconst 0, 1) := by decide +kernel
theorem dX0_lowestStakeOf_1 : decode cX0_lowestStakeOf 1 = .ok (.bipush 20, 2) := by decide +kernel
theorem dX0_lowestStakeOf_3 : decode cX0_lowestStakeOf 3 = .ok (.bipush 10, 2) := by decide +kernel
theorem dX0_lowestStakeOf_5 : decode cX0_lowestStakeOf 5 = .ok (.aload_n 0, 1) := by decide +kernel
theorem dX0_lowestStakeOf_6 : decode cX0_lowestStakeOf 6 = .ok (.iload_n 1, 1) := by decide +kernel
theorem dX0_lowestStakeOf_7 : decode cX0_lowestStakeOf 7 = .ok (.invokevirtual 123, 3) := by decide +kernel
theorem dX0_lowestStakeOf_10 : decode cX0_lowestStakeOf 10 = .ok (.isub, 1) := by decide +kernel
theorem dX0_lowestStakeOf_11 : decode cX0_lowestStakeOf 11 = .ok (.invokestatic 165, 3) := by decide +kernel
theorem dX0_lowestStakeOf_14 : decode cX0_lowestStakeOf 14 = .ok (.invokestatic 178, 3) := by decide +kernel
theorem dX0_lowestStakeOf_17 : decode cX0_lowestStakeOf 17 = .ok (.ireturn, 1) := by decide +kernel
