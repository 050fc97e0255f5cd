theorem dX6_charge_132 : decode cX6_charge 132 = .ok (.iload_n 1, 1) := by decide +kernel
theorem dX6_charge_133 : decode cX6_charge 133 = .ok (.iaload, 1) := by decide +kernel
theorem dX6_charge_134 : decode cX6_charge 134 = .ok (.if_icmp .ne 38, 3) := by decide +kernel
theorem dX6_charge_137 : decode cX6_charge 137 = .ok (.aload_n 0, 1) := by decide +kernel
theorem dX6_charge_138 : decode cX6_charge 138 = .ok (.iconst 1, 1) := by decide +kernel
theorem dX6_charge_139 : decode cX6_charge 139 = .ok (.putfield 155, 3) := by decide +kernel
theorem dX6_charge_142 : decode cX6_charge 142 = .ok (.aload_n 0, 1) := by decide +kernel
theorem dX6_charge_143 : decode cX6_charge 143 = .ok (.getfield 65, 3) := by decide +kernel
theorem dX6_charge_146 : decode cX6_charge 146 = .ok (.aload_n 0, 1) := by decide +kernel
theorem dX6_charge_147 : decode cX6_charge 147 = .ok (.getfield 164, 3) := by decide +kernel
theorem dX6_charge_150 : decode cX6_charge 150 = .ok (.bipush 8, 2) := by decide +kernel
theorem dX6_charge_152 : decode cX6_charge 152 = .ok (.irem, 1) := by decide +kernel
theorem dX6_charge_153 : decode cX6_charge 153 = .ok (.aload_n 0, 1) := by decide +kernel
theorem dX6_charge_154 : decode cX6_charge 154 = .ok (.getfield 152, 3) := by decide +kernel
theorem dX6_charge_157 : decode cX6_charge 157 = .ok (.iastore, 1) := by decide +kernel
theorem dX6_charge_158 : decode cX6_charge 158 = .ok (.aload_n 0, 1) := by decide +kernel
theorem dX6_charge_159 : decode cX6_charge 159 = .ok (.dup, 1) := by decide +kernel
theorem dX6_charge_160 : decode cX6_charge 160 = .ok (.getfield 164, 3) := by decide +kernel
theorem dX6_charge_163 : decode cX6_charge 163 = .ok (.iconst 1, 1) := by decide +kernel
theorem dX6_charge_164 : decode cX6_charge 164 = .ok (.iadd, 1) := by decide +kernel
theorem dX6_charge_165 : decode cX6_charge 165 = .ok (.putfield 164, 3) := by decide +kernel
theorem dX6_charge_168 : decode cX6_charge 168 = .ok (.aload_n 0, 1) := by decide +kernel
theorem dX6_charge_169 : decode cX6_charge 169 = .ok (.invokevirtual 167, 3) := by decide +kernel
theorem dX6_charge_172 : decode cX6_charge 172 = .ok (.return_, 1) := by decide +kernel
set_option maxRecDepth 20000 in
theorem ggX6_oneTick_X6_pending : GoodIn wsX6_oneTick wsX6_pending := goodIn_r _ [14, 15, 16, 17, 18, 13, 19, 20, 21, 22, 23, 57, 58, 59, 60, 61, 62, 63, 64, 65, 66, 67, 68, 69, 70, 71, 72, 73, 74, 75, 76, 77, 78, 79, 80, 81, 82, 83, 84, 85, 86, 87, 88, 89, 90, 91] (by decide +kernel) (by decide +kernel)
set_option maxRecDepth 20000 in
theorem gX6_oneTick_X6_pending : GoodIn wsX6_oneTick (wsV RX6 140 RX6 yX6_pending wsX6_pending) := goodIn_app (goodIn_of _ (by decide +kernel)) ggX6_oneTick_X6_pending
set_option maxRecDepth 20000 in
theorem ggX6_oneTick_X6_charge : GoodIn wsX6_oneTick wsX6_charge := goodIn_r _ [27, 28, 29, 30, 20, 4, 31, 32, 33, 7, 34, 35, 36, 37, 38, 39, 40, 13, 41, 15, 16, 17, 18, 19, 21, 22, 23, 42, 43, 44, 45, 46, 47, 1, 2, 10, 11, 12, 14, 48, 49, 50, 51, 8, 9, 52, 53, 54, 55, 56, 57, 58, 59, 60, 61, 62, 63, 64, 65, 66, 67, 68, 69, 70, 71, 72, 73, 74, 75, 76, 77, 78, 79, 80, 81, 82, 83, 84, 85, 86, 87, 88, 89, 90, 91] (by decide +kernel) (by decide +kernel)
set_option maxRecDepth 20000 in
theorem gX6_oneTick_X6_charge : GoodIn wsX6_oneTick (wsV RX6 170 RX6 yX6_charge wsX6_charge) := goodIn_app (goodIn_of _ (by decide +kernel)) ggX6_oneTick_X6_charge
theorem dX6_oneTick_0 : decode cX6_oneTick 0 = .ok (.iconst 0, 1) := by decide +kernel
theorem dX6_oneTick_1 : decode cX6_oneTick 1 = .ok (.istore_n 1, 1) := by decide +kernel
theorem dX6_oneTick_2 : decode cX6_oneTick 2 = .ok (.iconst 0, 1) := by decide +kernel
theorem dX6_oneTick_3 : decode cX6_oneTick 3 = .ok (.istore_n 2, 1) := by decide +kernel
theorem dX6_oneTick_4 : decode cX6_oneTick 4 = .ok (.iload_n 2, 1) := by decide +kernel
theorem dX6_oneTick_5 : decode cX6_oneTick 5 = .ok (.aload_n 0, 1) := by decide +kernel
theorem dX6_oneTick_6 : decode cX6_oneTick 6 = .ok (.getfield 143, 3) := by decide +kernel
theorem dX6_oneTick_9 : decode cX6_oneTick 9 = .ok (.if_icmp .ge 37, 3) := by decide +kernel
theorem dX6_oneTick_12 : decode cX6_oneTick 12 = .ok (.iload_n 1, 1) := by decide +kernel
theorem dX6_oneTick_13 : decode cX6_oneTick 13 = .ok (.ifCond .ne 33, 3) := by decide +kernel
theorem dX6_oneTick_16 : decode cX6_oneTick 16 = .ok (.aload_n 0, 1) := by decide +kernel
theorem dX6_oneTick_17 : decode cX6_oneTick 17 = .ok (.aload_n 0, 1) := by decide +kernel
theorem dX6_oneTick_18 : decode cX6_oneTick 18 = .ok (.getfield 32, 3) := by decide +kernel
theorem dX6_oneTick_21 : decode cX6_oneTick 21 = .ok (.iload_n 2, 1) := by decide +kernel
theorem dX6_oneTick_22 : decode cX6_oneTick 22 = .ok (.iaload, 1) := by decide +kernel
theorem dX6_oneTick_23 : decode cX6_oneTick 23 = .ok (.invokevirtual 140, 3) := by decide +kernel
theorem dX6_oneTick_26 : decode cX6_oneTick 26 = .ok (.ifCond .le 12, 3) := by decide +kernel
theorem dX6_oneTick_29 : decode cX6_oneTick 29 = .ok (.aload_n 0, 1) := by decide +kernel
theorem dX6_oneTick_30 : decode cX6_oneTick 30 = .ok (.getfield 32, 3) := by decide +kernel
theorem dX6_oneTick_33 : decode cX6_oneTick 33 = .ok (.iload_n 2, 1) := by decide +kernel
theorem dX6_oneTick_34 : decode cX6_oneTick 34 = .ok (.iaload, 1) := by decide +kernel
theorem dX6_oneTick_35 : decode cX6_oneTick 35 = .ok (.goto 4, 3) := by decide +kernel
theorem dX6_oneTick_38 : decode cX6_oneTick 38 = .ok (.iconst 0, 1) := by decide +kernel
theorem dX6_oneTick_39 : decode cX6_oneTick 39 = .ok (.istore_n 1, 1) := by decide +kernel
theorem dX6_oneTick_40 : decode cX6_oneTick 40 = .ok (.iinc 2 1, 3) := by decide +kernel
theorem dX6_oneTick_43 : decode cX6_oneTick 43 = .ok (.goto (-39), 3) := by decide +kernel
theorem dX6_oneTick_46 : decode cX6_oneTick 46 = .ok (.aload_n 0, 1) := by decide +kernel
theorem dX6_oneTick_47 : decode cX6_oneTick 47 = .ok (.getfield 68, 3) := by decide +kernel
theorem dX6_oneTick_50 : decode cX6_oneTick 50 = .ok (.aload_n 0, 1) := by decide +kernel
theorem dX6_oneTick_51 : decode cX6_oneTick 51 = .ok (.getfield 152, 3) := by decide +kernel
theorem dX6_oneTick_54 : decode cX6_oneTick 54 = .ok (.sipush 256, 3) := by decide +kernel
theorem dX6_oneTick_57 : decode cX6_oneTick 57 = .ok (.irem, 1) := by decide +kernel
theorem dX6_oneTick_58 : decode cX6_oneTick 58 = .ok (.iload_n 1, 1) := by decide +kernel
theorem dX6_oneTick_59 : decode cX6_oneTick 59 = .ok (.iastore, 1) := by decide +kernel
theorem dX6_oneTick_60 : decode cX6_oneTick 60 = .ok (.aload_n 0, 1) := by decide +kernel
theorem dX6_oneTick_61 : decode cX6_oneTick 61 = .ok (.dup, 1) := by decide +kernel
theorem dX6_oneTick_62 : decode cX6_oneTick 62 = .ok (.getfield 152, 3) := by decide +kernel
theorem dX6_oneTick_65 : decode cX6_oneTick 65 = .ok (.iconst 1, 1) := by decide +kernel
theorem dX6_oneTick_66 : decode cX6_oneTick 66 = .ok (.iadd, 1) := by decide +kernel
theorem dX6_oneTick_67 : decode cX6_oneTick 67 = .ok (.putfield 152, 3) := by decide +kernel
theorem dX6_oneTick_70 : decode cX6_oneTick 70 = .ok (.iload_n 1, 1) := by decide +kernel
theorem dX6_oneTick_71 : decode cX6_oneTick 71 = .ok (.ifCond .le 10, 3) := by decide +kernel
theorem dX6_oneTick_74 : decode cX6_oneTick 74 = .ok (.aload_n 0, 1) := by decide +kernel
theorem dX6_oneTick_75 : decode cX6_oneTick 75 = .ok (.iload_n 1, 1) := by decide +kernel
theorem dX6_oneTick_76 : decode cX6_oneTick 76 = .ok (.invokevirtual 170, 3) := by decide +kernel
theorem dX6_oneTick_79 : decode cX6_oneTick 79 = .ok (.iload_n 1, 1) := by decide +kernel
theorem dX6_oneTick_80 : decode cX6_oneTick 80 = .ok (.ireturn, 1) := by decide +kernel
theorem dX6_oneTick_81 : decode cX6_oneTick 81 = .ok (.aload_n 0, 1) := by decide +kernel
theorem dX6_oneTick_82 : decode cX6_oneTick 82 = .ok (.dup, 1) := by decide +kernel
theorem dX6_oneTick_83 : decode cX6_oneTick 83 = .ok (.getfield 173, 3) := by decide +kernel
theorem dX6_oneTick_86 : decode cX6_oneTick 86 = .ok (.iconst 1, 1) := by decide +kernel
theorem dX6_oneTick_87 : decode cX6_oneTick 87 = .ok (.iadd, 1) := by decide +kernel
theorem dX6_oneTick_88 : decode cX6_oneTick 88 = .ok (.putfield 173, 3) := by decide +kernel
theorem dX6_oneTick_91 : decode cX6_oneTick 91 = .ok (.aload_n 0, 1) := by decide +kernel
theorem dX6_oneTick_92 : decode cX6_oneTick 92 = .ok (.aload_n 0, 1) := by decide +kernel
theorem dX6_oneTick_93 : decode cX6_oneTick 93 = .ok (.getfield 152, 3) := by decide +kernel
theorem dX6_oneTick_96 : decode cX6_oneTick 96 = .ok (.putfield 176, 3) := by decide +kernel
theorem dX6_oneTick_99 : decode cX6_oneTick 99 = .ok (.aload_n 0, 1) := by decide +kernel
theorem dX6_oneTick_100 : decode cX6_oneTick 100 = .ok (.iconst 0, 1) := by decide +kernel
theorem dX6_oneTick_101 : decode cX6_oneTick 101 = .ok (.putfield 155, 3) := by decide +kernel
theorem dX6_oneTick_104 : decode cX6_oneTick 104 = .ok (.aload_n 0, 1) := by decide +kernel
theorem dX6_oneTick_105 : decode cX6_oneTick 105 = .ok (.aload_n 0, 1) := by decide +kernel
theorem dX6_oneTick_106 : decode cX6_oneTick 106 = .ok (.getfield 91, 3) := by decide +kernel
theorem dX6_oneTick_109 : decode cX6_oneTick 109 = .ok (.putfield 143, 3) := by decide +kernel
theorem dX6_oneTick_112 : decode cX6_oneTick 112 = .ok (.iconst 0, 1) := by decide +kernel
theorem dX6_oneTick_113 : decode cX6_oneTick 113 = .ok (.istore_n 2, 1) := by decide +kernel
theorem dX6_oneTick_114 : decode cX6_oneTick 114 = .ok (.iload_n 2, 1) := by decide +kernel
theorem dX6_oneTick_115 : decode cX6_oneTick 115 = .ok (.aload_n 0, 1) := by decide +kernel
theorem dX6_oneTick_116 : decode cX6_oneTick 116 = .ok (.getfield 91, 3) := by decide +kernel
theorem dX6_oneTick_119 : decode cX6_oneTick 119 = .ok (.if_icmp .ge 21, 3) := by decide +kernel
theorem dX6_oneTick_122 : decode cX6_oneTick 122 = .ok (.aload_n 0, 1) := by decide +kernel
theorem dX6_oneTick_123 : decode cX6_oneTick 123 = .ok (.getfield 32, 3) := by decide +kernel
theorem dX6_oneTick_126 : decode cX6_oneTick 126 = .ok (.iload_n 2, 1) := by decide +kernel
theorem dX6_oneTick_127 : decode cX6_oneTick 127 = .ok (.aload_n 0, 1) := by decide +kernel
theorem dX6_oneTick_128 : decode cX6_oneTick 128 = .ok (.getfield 29, 3) := by decide +kernel
theorem dX6_oneTick_131 : decode cX6_oneTick 131 = .ok (.iload_n 2, 1) := by decide +kernel
theorem dX6_oneTick_132 : decode cX6_oneTick 132 = .ok (.iaload, 1) := by decide +kernel
theorem dX6_oneTick_133 : decode cX6_oneTick 133 = .ok (.iastore, 1) := by decide +kernel
theorem dX6_oneTick_134 : decode cX6_oneTick 134 = .ok (.iinc 2 1, 3) := by decide +kernel
theorem dX6_oneTick_137 : decode cX6_oneTick 137 = .ok (.goto (-23), 3) := by decide +kernel
theorem dX6_oneTick_140 : decode cX6_oneTick 140 = .ok (.iconst 0, 1) := by decide +kernel
theorem dX6_oneTick_141 : decode cX6_oneTick 141 = .ok (.ireturn, 1) := by decide +kernel
set_option maxRecDepth 20000 in
theorem ggX6_tick_X6_oneTick : GoodIn wsX6_tick wsX6_oneTick := goodIn_r _ [6, 7, 8, 9, 10, 11, 12, 13, 14, 15, 16, 17, 18, 5, 19, 20, 21, 22, 23, 24, 25, 26, 27, 28, 29, 30, 31, 32, 33, 34, 35, 36, 37, 38, 39, 40, 41, 42, 43, 44, 45, 46, 47, 48, 49, 50, 51, 52, 53, 54, 55, 56, 57, 58, 59, 60, 61, 62, 63, 64, 65, 66, 67, 68, 69, 70, 71, 72, 73, 74, 75, 76, 77, 78, 79, 80, 81, 82, 83, 84, 85, 86, 87, 88, 89, 90, 91, 92, 93, 94, 95, 96] (by decide +kernel) (by decide +kernel)
set_option maxRecDepth 20000 in
theorem gX6_tick_X6_oneTick : GoodIn wsX6_tick (wsV RX6 179 RX6 yX6_oneTick wsX6_oneTick) := goodIn_app (goodIn_of _ (by decide +kernel)) ggX6_tick_X6_oneTick
theorem dX6_tick_0 : decode cX6_tick 0 = .ok (.aload_n 0, 1) := by decide +kernel
theorem dX6_tick_1 : decode cX6_tick 1 = .ok (.iconst 0, 1) := by decide +kernel
theorem dX6_tick_2 : decode cX6_tick 2 = .ok (.putfield 83, 3) := by decide +kernel
theorem dX6_tick_5 : decode cX6_tick 5 = .ok (.aload_n 0, 1) := by decide +kernel
theorem dX6_tick_6 : decode cX6_tick 6 = .ok (.invokevirtual 179, 3) := by decide +kernel
theorem dX6_tick_9 : decode cX6_tick 9 = .ok (.ireturn, 1) := by decide +kernel
set_option maxRecDepth 20000 in
theorem ggX6_run_X6_within : GoodIn wsX6_run wsX6_within := goodIn_r _ [4] (by decide +kernel) (by decide +kernel)
set_option maxRecDepth 20000 in
theorem gX6_run_X6_within : GoodIn wsX6_run (va_wsS RX6 111 yX6_within wsX6_within) := goodIn_app (goodIn_of _ (by decide +kernel)) ggX6_run_X6_within
set_option maxRecDepth 20000 in
theorem ggX6_run_X6_goes : GoodIn wsX6_run wsX6_goes := goodIn_r _ [8, 9, 69, 70, 71, 72, 73, 74, 75, 76, 77, 78, 79, 80, 81, 82, 83, 84, 85, 86, 87, 88, 89, 90, 91, 92, 93, 94, 95, 96, 97, 98, 99, 100, 101, 102, 103] (by decide +kernel) (by decide +kernel)
set_option maxRecDepth 20000 in
theorem gX6_run_X6_goes : GoodIn wsX6_run (wsV RX6 119 RX6 yX6_goes wsX6_goes) := goodIn_app (goodIn_of _ (by decide +kernel)) ggX6_run_X6_goes
set_option maxRecDepth 20000 in
theorem ggX6_run_X6_oneTick : GoodIn wsX6_run wsX6_oneTick := goodIn_r _ [13, 14, 15, 16, 17, 18, 19, 20, 21, 22, 23, 24, 25, 3, 26, 27, 28, 29, 30, 31, 32, 33, 34, 35, 36, 37, 38, 39, 40, 41, 42, 43, 44, 45, 46, 47, 48, 49, 50, 51, 52, 53, 54, 55, 56, 57, 58, 59, 60, 61, 62, 63, 64, 65, 66, 67, 68, 69, 70, 71, 72, 73, 74, 75, 76, 77, 78, 79, 80, 81, 82, 83, 84, 85, 86, 87, 88, 89, 90, 91, 92, 93, 94, 95, 96, 97, 98, 99, 100, 101, 102, 103] (by decide +kernel) (by decide +kernel)
set_option maxRecDepth 20000 in
theorem gX6_run_X6_oneTick : GoodIn wsX6_run (wsV RX6 179 RX6 yX6_oneTick wsX6_oneTick) := goodIn_app (goodIn_of _ (by decide +kernel)) ggX6_run_X6_oneTick
theorem dX6_run_0 : decode cX6_run 0 = .ok (.aload_n 0, 1) := by decide +kernel
theorem dX6_run_1 : decode cX6_run 1 = .ok (.iload_n 1, 1) := by decide +kernel
theorem dX6_run_2 : decode cX6_run 2 = .ok (.iconst 0, 1) := by decide +kernel
theorem dX6_run_3 : decode cX6_run 3 = .ok (.sipush 1000, 3) := by decide +kernel
theorem dX6_run_6 : decode cX6_run 6 = .ok (.invokestatic 111, 3) := by decide +kernel
theorem dX6_run_9 : decode cX6_run 9 = .ok (.iconst 1, 1) := by decide +kernel
theorem dX6_run_10 : decode cX6_run 10 = .ok (.iconst 1, 1) := by decide +kernel
theorem dX6_run_11 : decode cX6_run 11 = .ok (.invokevirtual 119, 3) := by decide +kernel
theorem dX6_run_14 : decode cX6_run 14 = .ok (.ifCond .ne 5, 3) := by decide +kernel
theorem dX6_run_17 : decode cX6_run 17 = .ok (.iconst 0, 1) := by decide +kernel
theorem dX6_run_18 : decode cX6_run 18 = .ok (.ireturn, 1) := by decide +kernel
theorem dX6_run_19 : decode cX6_run 19 = .ok (.iconst 0, 1) := by decide +kernel
theorem dX6_run_20 : decode cX6_run 20 = .ok (.istore_n 2, 1) := by decide +kernel
theorem dX6_run_21 : decode cX6_run 21 = .ok (.iconst 0, 1) := by decide +kernel
theorem dX6_run_22 : decode cX6_run 22 = .ok (.istore_n 3, 1) := by decide +kernel
theorem dX6_run_23 : decode cX6_run 23 = .ok (.iload_n 3, 1) := by decide +kernel
theorem dX6_run_24 : decode cX6_run 24 = .ok (.iload_n 1, 1) := by decide +kernel
theorem dX6_run_25 : decode cX6_run 25 = .ok (.if_icmp .ge 24, 3) := by decide +kernel
theorem dX6_run_28 : decode cX6_run 28 = .ok (.aload_n 0, 1) := by decide +kernel
theorem dX6_run_29 : decode cX6_run 29 = .ok (.invokevirtual 179, 3) := by decide +kernel
theorem dX6_run_32 : decode cX6_run 32 = .ok (.ifCond .ne 9, 3) := by decide +kernel
theorem dX6_run_35 : decode cX6_run 35 = .ok (.iload_n 2, 1) := by decide +kernel
theorem dX6_run_36 : decode cX6_run 36 = .ok (.iconst 1, 1) := by decide +kernel
theorem dX6_run_37 : decode cX6_run 37 = .ok (.iadd, 1) := by decide +kernel
theorem dX6_run_38 : decode cX6_run 38 = .ok (.goto 4, 3) := by decide +kernel
theorem dX6_run_41 : decode cX6_run 41 = .ok (.iload_n 2, 1) := by decide +kernel
theorem dX6_run_42 : decode cX6_run 42 = .ok (.istore_n 2, 1) := by decide +kernel
theorem dX6_run_43 : decode cX6_run 43 = .ok (.iinc 3 1, 3) := by decide +kernel
theorem dX6_run_46 : decode cX6_run 46 = .ok (.goto (-23), 3) := by decide +kernel
theorem dX6_run_49 : decode cX6_run 49 = .ok (.iload_n 2, 1) := by decide +kernel
theorem dX6_run_50 : decode cX6_run 50 = .ok (.ireturn, 1) := by decide +kernel
set_option maxRecDepth 20000 in
theorem ggX6_passes_X6_lowResponse : GoodIn wsX6_passes wsX6_lowResponse := goodIn_r _ [6, 7, 8, 9, 10, 11, 12, 5, 13, 18, 19, 20, 21, 22, 23, 24, 25, 26, 27, 28, 29, 30, 31, 32, 33, 34, 35, 36, 37, 38, 39, 40, 41, 42, 43, 44, 45, 46, 47, 48, 49, 50, 51, 52] (by decide +kernel) (by decide +kernel)
set_option maxRecDepth 20000 in
theorem gX6_passes_X6_lowResponse : GoodIn wsX6_passes (wsV RX6 98 RX6 yX6_lowResponse wsX6_lowResponse) := goodIn_app (goodIn_of _ (by decide +kernel)) ggX6_passes_X6_lowResponse
set_option maxRecDepth 20000 in
theorem ggX6_passes_X6_bound : GoodIn wsX6_passes wsX6_bound := goodIn_r _ [17, 1, 9, 10, 8, 7, 11, 12, 5, 13, 18, 19, 20, 21, 22, 23, 24, 25, 26, 27, 28, 29, 30, 31, 32, 33, 34, 35, 36, 37, 38, 39, 40, 41, 42, 43, 44, 45, 46, 47, 48, 49, 50, 51, 52] (by decide +kernel) (by decide +kernel)
set_option maxRecDepth 20000 in
theorem gX6_passes_X6_bound : GoodIn wsX6_passes (wsV RX6 102 RX6 yX6_bound wsX6_bound) := goodIn_app (goodIn_of _ (by decide +kernel)) ggX6_passes_X6_bound
theorem dX6_passes_0 : decode cX6_passes 0 = .ok (.aload_n 0, 1) := by decide +kernel
theorem dX6_passes_1 : decode cX6_passes 1 = .ok (.iload_n 1, 1) := by decide +kernel
theorem dX6_passes_2 : decode cX6_passes 2 = .ok (.invokevirtual 98, 3) := by decide +kernel
theorem dX6_passes_5 : decode cX6_passes 5 = .ok (.istore_n 2, 1) := by decide +kernel
theorem dX6_passes_6 : decode cX6_passes 6 = .ok (.iload_n 2, 1) := by decide +kernel
theorem dX6_passes_7 : decode cX6_passes 7 = .ok (.ifCond .le 25, 3) := by decide +kernel
theorem dX6_passes_10 : decode cX6_passes 10 = .ok (.aload_n 0, 1) := by decide +kernel
theorem dX6_passes_11 : decode cX6_passes 11 = .ok (.getfield 26, 3) := by decide +kernel
theorem dX6_passes_14 : decode cX6_passes 14 = .ok (.iload_n 1, 1) := by decide +kernel
theorem dX6_passes_15 : decode cX6_passes 15 = .ok (.iaload, 1) := by decide +kernel
theorem dX6_passes_16 : decode cX6_passes 16 = .ok (.ifCond .eq 12, 3) := by decide +kernel
theorem dX6_passes_19 : decode cX6_passes 19 = .ok (.aload_n 0, 1) := by decide +kernel
theorem dX6_passes_20 : decode cX6_passes 20 = .ok (.iload_n 1, 1) := by decide +kernel
theorem dX6_passes_21 : decode cX6_passes 21 = .ok (.iload_n 2, 1) := by decide +kernel
theorem dX6_passes_22 : decode cX6_passes 22 = .ok (.invokevirtual 102, 3) := by decide +kernel
theorem dX6_passes_25 : decode cX6_passes 25 = .ok (.ifCond .le 7, 3) := by decide +kernel
theorem dX6_passes_28 : decode cX6_passes 28 = .ok (.iconst 1, 1) := by decide +kernel
theorem dX6_passes_29 : decode cX6_passes 29 = .ok (.goto 4, 3) := by decide +kernel
theorem dX6_passes_32 : decode cX6_passes 32 = .ok (.iconst 0, 1) := by decide +kernel
theorem dX6_passes_33 : decode cX6_passes 33 = .ok (.ireturn, 1) := by decide +kernel
set_option maxRecDepth 20000 in
theorem ggX6_assign_X6_passes : GoodIn wsX6_assign wsX6_passes := goodIn_r _ [11, 12, 13, 14, 15, 10, 16, 17, 18, 2, 19, 20, 21, 22, 23, 24, 25, 26, 27, 28, 29, 30, 31, 32, 33, 34, 35, 36, 37, 38, 39, 40, 41, 42, 43, 44, 45, 46, 47, 48, 49, 50, 51, 52, 53, 54, 55, 56, 57, 58, 59, 60, 61] (by decide +kernel) (by decide +kernel)
set_option maxRecDepth 20000 in
theorem gX6_assign_X6_passes : GoodIn wsX6_assign (wsV RX6 182 RX6 yX6_passes wsX6_passes) := goodIn_app (goodIn_of _ (by decide +kernel)) ggX6_assign_X6_passes
theorem dX6_assign_0 : decode cX6_assign 0 = .ok (.aload_n 0, 1) := by decide +kernel
theorem dX6_assign_1 : decode cX6_assign 1 = .ok (.iconst 0, 1) := by decide +kernel
theorem dX6_assign_2 : decode cX6_assign 2 = .ok (.putfield 83, 3) := by decide +kernel
theorem dX6_assign_5 : decode cX6_assign 5 = .ok (.iconst 1, 1) := by decide +kernel
theorem dX6_assign_6 : decode cX6_assign 6 = .ok (.istore_n 1, 1) := by decide +kernel
theorem dX6_assign_7 : decode cX6_assign 7 = .ok (.iload_n 1, 1) := by decide +kernel
theorem dX6_assign_8 : decode cX6_assign 8 = .ok (.bipush 13, 2) := by decide +kernel
theorem dX6_assign_10 : decode cX6_assign 10 = .ok (.if_icmp .ge 21, 3) := by decide +kernel
theorem dX6_assign_13 : decode cX6_assign 13 = .ok (.aload_n 0, 1) := by decide +kernel
theorem dX6_assign_14 : decode cX6_assign 14 = .ok (.getfield 80, 3) := by decide +kernel
theorem dX6_assign_17 : decode cX6_assign 17 = .ok (.iload_n 1, 1) := by decide +kernel
theorem dX6_assign_18 : decode cX6_assign 18 = .ok (.aload_n 0, 1) := by decide +kernel
theorem dX6_assign_19 : decode cX6_assign 19 = .ok (.getfield 7, 3) := by decide +kernel
theorem dX6_assign_22 : decode cX6_assign 22 = .ok (.iload_n 1, 1) := by decide +kernel
theorem dX6_assign_23 : decode cX6_assign 23 = .ok (.baload, 1) := by decide +kernel
theorem dX6_assign_24 : decode cX6_assign 24 = .ok (.bastore, 1) := by decide +kernel
theorem dX6_assign_25 : decode cX6_assign 25 = .ok (.iinc 1 1, 3) := by decide +kernel
theorem dX6_assign_28 : decode cX6_assign 28 = .ok (.goto (-21), 3) := by decide +kernel
theorem dX6_assign_31 : decode cX6_assign 31 = .ok (.aload_n 0, 1) := by decide +kernel
theorem dX6_assign_32 : decode cX6_assign 32 = .ok (.getfield 91, 3) := by decide +kernel
theorem dX6_assign_35 : decode cX6_assign 35 = .ok (.iconst 1, 1) := by decide +kernel
theorem dX6_assign_36 : decode cX6_assign 36 = .ok (.isub, 1) := by decide +kernel
theorem dX6_assign_37 : decode cX6_assign 37 = .ok (.istore_n 1, 1) := by decide +kernel
theorem dX6_assign_38 : decode cX6_assign 38 = .ok (.iload_n 1, 1) := by decide +kernel
theorem dX6_assign_39 : decode cX6_assign 39 = .ok (.ifCond .lt 85, 3) := by decide +kernel
theorem dX6_assign_42 : decode cX6_assign 42 = .ok (.iconst 0, 1) := by decide +kernel
theorem dX6_assign_43 : decode cX6_assign 43 = .ok (.istore_n 2, 1) := by decide +kernel
theorem dX6_assign_44 : decode cX6_assign 44 = .ok (.iconst 0, 1) := by decide +kernel
theorem dX6_assign_45 : decode cX6_assign 45 = .ok (.istore_n 3, 1) := by decide +kernel
theorem dX6_assign_46 : decode cX6_assign 46 = .ok (.iload_n 3, 1) := by decide +kernel
theorem dX6_assign_47 : decode cX6_assign 47 = .ok (.aload_n 0, 1) := by decide +kernel
theorem dX6_assign_48 : decode cX6_assign 48 = .ok (.getfield 91, 3) := by decide +kernel
theorem dX6_assign_51 : decode cX6_assign 51 = .ok (.if_icmp .ge 47, 3) := by decide +kernel
theorem dX6_assign_54 : decode cX6_assign 54 = .ok (.aload_n 0, 1) := by decide +kernel
theorem dX6_assign_55 : decode cX6_assign 55 = .ok (.getfield 80, 3) := by decide +kernel
theorem dX6_assign_58 : decode cX6_assign 58 = .ok (.aload_n 0, 1) := by decide +kernel
theorem dX6_assign_59 : decode cX6_assign 59 = .ok (.getfield 29, 3) := by decide +kernel
theorem dX6_assign_62 : decode cX6_assign 62 = .ok (.iload_n 3, 1) := by decide +kernel
theorem dX6_assign_63 : decode cX6_assign 63 = .ok (.iaload, 1) := by decide +kernel
theorem dX6_assign_64 : decode cX6_assign 64 = .ok (.baload, 1) := by decide +kernel
theorem dX6_assign_65 : decode cX6_assign 65 = .ok (.ifCond .eq 25, 3) := by decide +kernel
theorem dX6_assign_68 : decode cX6_assign 68 = .ok (.aload_n 0, 1) := by decide +kernel
theorem dX6_assign_69 : decode cX6_assign 69 = .ok (.aload_n 0, 1) := by decide +kernel
theorem dX6_assign_70 : decode cX6_assign 70 = .ok (.getfield 29, 3) := by decide +kernel
theorem dX6_assign_73 : decode cX6_assign 73 = .ok (.iload_n 3, 1) := by decide +kernel
theorem dX6_assign_74 : decode cX6_assign 74 = .ok (.iaload, 1) := by decide +kernel
theorem dX6_assign_75 : decode cX6_assign 75 = .ok (.invokevirtual 182, 3) := by decide +kernel
theorem dX6_assign_78 : decode cX6_assign 78 = .ok (.ifCond .eq 12, 3) := by decide +kernel
theorem dX6_assign_81 : decode cX6_assign 81 = .ok (.aload_n 0, 1) := by decide +kernel
theorem dX6_assign_82 : decode cX6_assign 82 = .ok (.getfield 29, 3) := by decide +kernel
theorem dX6_assign_85 : decode cX6_assign 85 = .ok (.iload_n 3, 1) := by decide +kernel
theorem dX6_assign_86 : decode cX6_assign 86 = .ok (.iaload, 1) := by decide +kernel
theorem dX6_assign_87 : decode cX6_assign 87 = .ok (.goto 4, 3) := by decide +kernel
theorem dX6_assign_90 : decode cX6_assign 90 = .ok (.iload_n 2, 1) := by decide +kernel
theorem dX6_assign_91 : decode cX6_assign 91 = .ok (.istore_n 2, 1) := by decide +kernel
theorem dX6_assign_92 : decode cX6_assign 92 = .ok (.iinc 3 1, 3) := by decide +kernel
theorem dX6_assign_95 : decode cX6_assign 95 = .ok (.goto (-49), 3) := by decide +kernel
theorem dX6_assign_98 : decode cX6_assign 98 = .ok (.iload_n 2, 1) := by decide +kernel
theorem dX6_assign_99 : decode cX6_assign 99 = .ok (.ifCond .ne 5, 3) := by decide +kernel
theorem dX6_assign_102 : decode cX6_assign 102 = .ok (.iconst 0, 1) := by decide +kernel
theorem dX6_assign_103 : decode cX6_assign 103 = .ok (.ireturn, 1) := by decide +kernel
theorem dX6_assign_104 : decode cX6_assign 104 = .ok (.aload_n 0, 1) := by decide +kernel
theorem dX6_assign_105 : decode cX6_assign 105 = .ok (.getfield 77, 3) := by decide +kernel
theorem dX6_assign_108 : decode cX6_assign 108 = .ok (.iload_n 1, 1) := by decide +kernel
theorem dX6_assign_109 : decode cX6_assign 109 = .ok (.iload_n 2, 1) := by decide +kernel
theorem dX6_assign_110 : decode cX6_assign 110 = .ok (.iastore, 1) := by decide +kernel
theorem dX6_assign_111 : decode cX6_assign 111 = .ok (.aload_n 0, 1) := by decide +kernel
theorem dX6_assign_112 : decode cX6_assign 112 = .ok (.getfield 80, 3) := by decide +kernel
theorem dX6_assign_115 : decode cX6_assign 115 = .ok (.iload_n 2, 1) := by decide +kernel
theorem dX6_assign_116 : decode cX6_assign 116 = .ok (.iconst 0, 1) := by decide +kernel
theorem dX6_assign_117 : decode cX6_assign 117 = .ok (.bastore, 1) := by decide +kernel
theorem dX6_assign_118 : decode cX6_assign 118 = .ok (.iinc 1 (-1), 3) := by decide +kernel
theorem dX6_assign_121 : decode cX6_assign 121 = .ok (.goto (-83), 3) := by decide +kernel
theorem dX6_assign_124 : decode cX6_assign 124 = .ok (.iconst 0, 1) := by decide +kernel
theorem dX6_assign_125 : decode cX6_assign 125 = .ok (.istore_n 1, 1) := by decide +kernel
theorem dX6_assign_126 : decode cX6_assign 126 = .ok (.iload_n 1, 1) := by decide +kernel
theorem dX6_assign_127 : decode cX6_assign 127 = .ok (.aload_n 0, 1) := by decide +kernel
theorem dX6_assign_128 : decode cX6_assign 128 = .ok (.getfield 91, 3) := by decide +kernel
theorem dX6_assign_131 : decode cX6_assign 131 = .ok (.if_icmp .ge 21, 3) := by decide +kernel
theorem dX6_assign_134 : decode cX6_assign 134 = .ok (.aload_n 0, 1) := by decide +kernel
theorem dX6_assign_135 : decode cX6_assign 135 = .ok (.getfield 29, 3) := by decide +kernel
theorem dX6_assign_138 : decode cX6_assign 138 = .ok (.iload_n 1, 1) := by decide +kernel
theorem dX6_assign_139 : decode cX6_assign 139 = .ok (.aload_n 0, 1) := by decide +kernel
theorem dX6_assign_140 : decode cX6_assign 140 = .ok (.getfield 77, 3) := by decide +kernel
theorem dX6_assign_143 : decode cX6_assign 143 = .ok (.iload_n 1, 1) := by decide +kernel
theorem dX6_assign_144 : decode cX6_assign 144 = .ok (.iaload, 1) := by decide +kernel
theorem dX6_assign_145 : decode cX6_assign 145 = .ok (.iastore, 1) := by decide +kernel
theorem dX6_assign_146 : decode cX6_assign 146 = .ok (.iinc 1 1, 3) := by decide +kernel
theorem dX6_assign_149 : decode cX6_assign 149 = .ok (.goto (-23), 3) := by decide +kernel
theorem dX6_assign_152 : decode cX6_assign 152 = .ok (.iconst 1, 1) := by decide +kernel
theorem dX6_assign_153 : decode cX6_assign 153 = .ok (.ireturn, 1) := by decide +kernel
theorem dX6_planPlace_0 : decode cX6_planPlace 0 = .ok (.iconst 0, 1) := by decide +kernel
theorem dX6_planPlace_1 : decode cX6_planPlace 1 = .ok (.istore_n 2, 1) := by decide +kernel
theorem dX6_planPlace_2 : decode cX6_planPlace 2 = .ok (.aload_n 0, 1) := by decide +kernel
theorem dX6_planPlace_3 : decode cX6_planPlace 3 = .ok (.getfield 29, 3) := by decide +kernel
theorem dX6_planPlace_6 : decode cX6_planPlace 6 = .ok (.iload_n 2, 1) := by decide +kernel
theorem dX6_planPlace_7 : decode cX6_planPlace 7 = .ok (.iaload, 1) := by decide +kernel
theorem dX6_planPlace_8 : decode cX6_planPlace 8 = .ok (.iload_n 1, 1) := by decide +kernel
theorem dX6_planPlace_9 : decode cX6_planPlace 9 = .ok (.if_icmp .eq 9, 3) := by decide +kernel
theorem dX6_planPlace_12 : decode cX6_planPlace 12 = .ok (.iinc 2 1, 3) := by decide +kernel
theorem dX6_planPlace_15 : decode cX6_planPlace 15 = .ok (.goto (-13), 3) := by decide +kernel
theorem dX6_planPlace_18 : decode cX6_planPlace 18 = .ok (.iload_n 2, 1) := by decide +kernel
theorem dX6_planPlace_19 : decode cX6_planPlace 19 = .ok (.ireturn, 1) := by decide +kernel
set_option maxRecDepth 20000 in
theorem ggX6_response_X6_isKnown : GoodIn wsX6_response wsX6_isKnown := goodIn_r _ [6, 7, 40, 41, 42, 43, 44, 45, 46, 47, 48, 49, 50, 51, 52, 53, 54, 55, 56, 57, 58, 59, 60, 61, 62, 63, 64, 65, 66, 67, 68, 69, 70, 71, 72, 73, 74] (by decide +kernel) (by decide +kernel)
set_option maxRecDepth 20000 in
theorem gX6_response_X6_isKnown : GoodIn wsX6_response (wsV RX6 115 RX6 yX6_isKnown wsX6_isKnown) := goodIn_app (goodIn_of _ (by decide +kernel)) ggX6_response_X6_isKnown
set_option maxRecDepth 20000 in
theorem ggX6_response_X6_within : GoodIn wsX6_response wsX6_within := goodIn_r _ [10] (by decide +kernel) (by decide +kernel)
set_option maxRecDepth 20000 in
theorem gX6_response_X6_within : GoodIn wsX6_response (va_wsS RX6 111 yX6_within wsX6_within) := goodIn_app (goodIn_of _ (by decide +kernel)) ggX6_response_X6_within
set_option maxRecDepth 20000 in
theorem ggX6_response_X6_goes : GoodIn wsX6_response wsX6_goes := goodIn_r _ [14, 15, 40, 41, 42, 43, 44, 45, 46, 47, 48, 49, 50, 51, 52, 53, 54, 55, 56, 57, 58, 59, 60, 61, 62, 63, 64, 65, 66, 67, 68, 69, 70, 71, 72, 73, 74] (by decide +kernel) (by decide +kernel)
set_option maxRecDepth 20000 in
theorem gX6_response_X6_goes : GoodIn wsX6_response (wsV RX6 119 RX6 yX6_goes wsX6_goes) := goodIn_app (goodIn_of _ (by decide +kernel)) ggX6_response_X6_goes
set_option maxRecDepth 20000 in
theorem ggX6_response_X6_planPlace : GoodIn wsX6_response wsX6_planPlace := goodIn_r _ [19, 20, 40, 41, 42, 43, 44, 45, 46, 47, 48, 49, 50, 51, 52, 53, 54, 55, 56, 57, 58, 59, 60, 61, 62, 63, 64, 65, 66, 67, 68, 69, 70, 71, 72, 73, 74] (by decide +kernel) (by decide +kernel)
set_option maxRecDepth 20000 in
theorem gX6_response_X6_planPlace : GoodIn wsX6_response (wsV RX6 185 RX6 yX6_planPlace wsX6_planPlace) := goodIn_app (goodIn_of _ (by decide +kernel)) ggX6_response_X6_planPlace
set_option maxRecDepth 20000 in
theorem ggX6_response_X6_markAhead : GoodIn wsX6_response wsX6_markAhead := goodIn_r _ [24, 25, 20, 40, 41, 42, 43, 44, 45, 46, 47, 48, 49, 50, 51, 52, 53, 54, 55, 56, 57, 58, 59, 60, 61, 62, 63, 64, 65, 66, 67, 68, 69, 70, 71, 72, 73, 74] (by decide +kernel) (by decide +kernel)
set_option maxRecDepth 20000 in
theorem gX6_response_X6_markAhead : GoodIn wsX6_response (wsV RX6 94 RX6 yX6_markAhead wsX6_markAhead) := goodIn_app (goodIn_of _ (by decide +kernel)) ggX6_response_X6_markAhead
set_option maxRecDepth 20000 in
theorem ggX6_response_X6_lowResponse : GoodIn wsX6_response wsX6_lowResponse := goodIn_r _ [29, 30, 31, 25, 32, 33, 34, 5, 35, 40, 41, 42, 43, 44, 45, 46, 47, 48, 49, 50, 51, 52, 53, 54, 55, 56, 57, 58, 59, 60, 61, 62, 63, 64, 65, 66, 67, 68, 69, 70, 71, 72, 73, 74] (by decide +kernel) (by decide +kernel)
set_option maxRecDepth 20000 in
theorem gX6_response_X6_lowResponse : GoodIn wsX6_response (wsV RX6 98 RX6 yX6_lowResponse wsX6_lowResponse) := goodIn_app (goodIn_of _ (by decide +kernel)) ggX6_response_X6_lowResponse
set_option maxRecDepth 20000 in
theorem ggX6_response_X6_bound : GoodIn wsX6_response wsX6_bound := goodIn_r _ [39, 1, 25, 32, 31, 30, 33, 34, 5, 35, 40, 41, 42, 43, 44, 45, 46, 47, 48, 49, 50, 51, 52, 53, 54, 55, 56, 57, 58, 59, 60, 61, 62, 63, 64, 65, 66, 67, 68, 69, 70, 71, 72, 73, 74] (by decide +kernel) (by decide +kernel)
set_option maxRecDepth 20000 in
theorem gX6_response_X6_bound : GoodIn wsX6_response (wsV RX6 102 RX6 yX6_bound wsX6_bound) := goodIn_app (goodIn_of _ (by decide +kernel)) ggX6_response_X6_bound
theorem dX6_response_0 : decode cX6_response 0 = .ok (.aload_n 0, 1) := by decide +kernel
theorem dX6_response_1 : decode cX6_response 1 = .ok (.aload_n 0, 1) := by decide +kernel
theorem dX6_response_2 : decode cX6_response 2 = .ok (.iload_n 1, 1) := by decide +kernel
theorem dX6_response_3 : decode cX6_response 3 = .ok (.invokevirtual 115, 3) := by decide +kernel
theorem dX6_response_6 : decode cX6_response 6 = .ok (.iload_n 2, 1) := by decide +kernel
theorem dX6_response_7 : decode cX6_response 7 = .ok (.iconst 0, 1) := by decide +kernel
theorem dX6_response_8 : decode cX6_response 8 = .ok (.iconst 1, 1) := by decide +kernel
theorem dX6_response_9 : decode cX6_response 9 = .ok (.invokestatic 111, 3) := by decide +kernel
theorem dX6_response_12 : decode cX6_response 12 = .ok (.iconst 1, 1) := by decide +kernel
theorem dX6_response_13 : decode cX6_response 13 = .ok (.invokevirtual 119, 3) := by decide +kernel
theorem dX6_response_16 : decode cX6_response 16 = .ok (.ifCond .ne 5, 3) := by decide +kernel
theorem dX6_response_19 : decode cX6_response 19 = .ok (.iconst 0, 1) := by decide +kernel
theorem dX6_response_20 : decode cX6_response 20 = .ok (.ireturn, 1) := by decide +kernel
theorem dX6_response_21 : decode cX6_response 21 = .ok (.aload_n 0, 1) := by decide +kernel
theorem dX6_response_22 : decode cX6_response 22 = .ok (.aload_n 0, 1) := by decide +kernel
theorem dX6_response_23 : decode cX6_response 23 = .ok (.iload_n 1, 1) := by decide +kernel
theorem dX6_response_24 : decode cX6_response 24 = .ok (.invokevirtual 185, 3) := by decide +kernel
theorem dX6_response_27 : decode cX6_response 27 = .ok (.invokevirtual 94, 3) := by decide +kernel
theorem dX6_response_30 : decode cX6_response 30 = .ok (.aload_n 0, 1) := by decide +kernel
theorem dX6_response_31 : decode cX6_response 31 = .ok (.iload_n 1, 1) := by decide +kernel
theorem dX6_response_32 : decode cX6_response 32 = .ok (.invokevirtual 98, 3) := by decide +kernel
theorem dX6_response_35 : decode cX6_response 35 = .ok (.istore_n 3, 1) := by decide +kernel
theorem dX6_response_36 : decode cX6_response 36 = .ok (.iload_n 2, 1) := by decide +kernel
theorem dX6_response_37 : decode cX6_response 37 = .ok (.ifCond .ne 7, 3) := by decide +kernel
theorem dX6_response_40 : decode cX6_response 40 = .ok (.iload_n 3, 1) := by decide +kernel
theorem dX6_response_41 : decode cX6_response 41 = .ok (.goto 22, 3) := by decide +kernel
theorem dX6_response_44 : decode cX6_response 44 = .ok (.aload_n 0, 1) := by decide +kernel
theorem dX6_response_45 : decode cX6_response 45 = .ok (.getfield 26, 3) := by decide +kernel
theorem dX6_response_48 : decode cX6_response 48 = .ok (.iload_n 1, 1) := by decide +kernel
theorem dX6_response_49 : decode cX6_response 49 = .ok (.iaload, 1) := by decide +kernel
theorem dX6_response_50 : decode cX6_response 50 = .ok (.ifCond .ne 7, 3) := by decide +kernel
theorem dX6_response_53 : decode cX6_response 53 = .ok (.iconst (-1), 1) := by decide +kernel
theorem dX6_response_54 : decode cX6_response 54 = .ok (.goto 9, 3) := by decide +kernel
theorem dX6_response_57 : decode cX6_response 57 = .ok (.aload_n 0, 1) := by decide +kernel
theorem dX6_response_58 : decode cX6_response 58 = .ok (.iload_n 1, 1) := by decide +kernel
theorem dX6_response_59 : decode cX6_response 59 = .ok (.iload_n 3, 1) := by decide +kernel
theorem dX6_response_60 : decode cX6_response 60 = .ok (.invokevirtual 102, 3) := by decide +kernel
theorem dX6_response_63 : decode cX6_response 63 = .ok (.ireturn, 1) := by decide +kernel
set_option maxRecDepth 20000 in
theorem ggX6_ended_X6_isKnown : GoodIn wsX6_ended wsX6_isKnown := goodIn_r _ [7, 8, 17, 18, 19, 20, 21, 22, 23, 24, 25, 26, 27, 28, 29, 30, 31, 32, 33, 34, 35, 36, 37, 38, 39, 40, 41, 42, 43, 44, 45, 46, 47, 48, 49, 50, 51] (by decide +kernel) (by decide +kernel)
set_option maxRecDepth 20000 in
theorem gX6_ended_X6_isKnown : GoodIn wsX6_ended (wsV RX6 115 RX6 yX6_isKnown wsX6_isKnown) := goodIn_app (goodIn_of _ (by decide +kernel)) ggX6_ended_X6_isKnown
set_option maxRecDepth 20000 in
theorem ggX6_ended_X6_goes : GoodIn wsX6_ended wsX6_goes := goodIn_r _ [12, 13, 17, 18, 19, 20, 21, 22, 23, 24, 25, 26, 27, 28, 29, 30, 31, 32, 33, 34, 35, 36, 37, 38, 39, 40, 41, 42, 43, 44, 45, 46, 47, 48, 49, 50, 51] (by decide +kernel) (by decide +kernel)
set_option maxRecDepth 20000 in
theorem gX6_ended_X6_goes : GoodIn wsX6_ended (wsV RX6 119 RX6 yX6_goes wsX6_goes) := goodIn_app (goodIn_of _ (by decide +kernel)) ggX6_ended_X6_goes
set_option maxRecDepth 20000 in
theorem ggX6_ended_X6_at : GoodIn wsX6_ended wsX6_at := goodIn_r _ [16] (by decide +kernel) (by decide +kernel)
set_option maxRecDepth 20000 in
theorem gX6_ended_X6_at : GoodIn wsX6_ended (va_wsS RX6 133 yX6_at wsX6_at) := goodIn_app (goodIn_of _ (by decide +kernel)) ggX6_ended_X6_at
theorem dX6_ended_0 : decode cX6_ended 0 = .ok (.aload_n 0, 1) := by decide +kernel
theorem dX6_ended_1 : decode cX6_ended 1 = .ok (.iload_n 1, 1) := by decide +kernel
theorem dX6_ended_2 : decode cX6_ended 2 = .ok (.invokevirtual 115, 3) := by decide +kernel
theorem dX6_ended_5 : decode cX6_ended 5 = .ok (.ifCond .eq 35, 3) := by decide +kernel
theorem dX6_ended_8 : decode cX6_ended 8 = .ok (.iload_n 2, 1) := by decide +kernel
theorem dX6_ended_9 : decode cX6_ended 9 = .ok (.iconst 1, 1) := by decide +kernel
theorem dX6_ended_10 : decode cX6_ended 10 = .ok (.if_icmp .lt 30, 3) := by decide +kernel
theorem dX6_ended_13 : decode cX6_ended 13 = .ok (.iload_n 2, 1) := by decide +kernel
theorem dX6_ended_14 : decode cX6_ended 14 = .ok (.aload_n 0, 1) := by decide +kernel
theorem dX6_ended_15 : decode cX6_ended 15 = .ok (.getfield 38, 3) := by decide +kernel
theorem dX6_ended_18 : decode cX6_ended 18 = .ok (.iload_n 1, 1) := by decide +kernel
theorem dX6_ended_19 : decode cX6_ended 19 = .ok (.iaload, 1) := by decide +kernel
theorem dX6_ended_20 : decode cX6_ended 20 = .ok (.if_icmp .gt 20, 3) := by decide +kernel
theorem dX6_ended_23 : decode cX6_ended 23 = .ok (.iload_n 2, 1) := by decide +kernel
theorem dX6_ended_24 : decode cX6_ended 24 = .ok (.aload_n 0, 1) := by decide +kernel
theorem dX6_ended_25 : decode cX6_ended 25 = .ok (.getfield 38, 3) := by decide +kernel
theorem dX6_ended_28 : decode cX6_ended 28 = .ok (.iload_n 1, 1) := by decide +kernel
theorem dX6_ended_29 : decode cX6_ended 29 = .ok (.iaload, 1) := by decide +kernel
theorem dX6_ended_30 : decode cX6_ended 30 = .ok (.bipush 8, 2) := by decide +kernel
theorem dX6_ended_32 : decode cX6_ended 32 = .ok (.isub, 1) := by decide +kernel
theorem dX6_ended_33 : decode cX6_ended 33 = .ok (.if_icmp .le 7, 3) := by decide +kernel
theorem dX6_ended_36 : decode cX6_ended 36 = .ok (.iconst 1, 1) := by decide +kernel
theorem dX6_ended_37 : decode cX6_ended 37 = .ok (.goto 4, 3) := by decide +kernel
theorem dX6_ended_40 : decode cX6_ended 40 = .ok (.iconst 0, 1) := by decide +kernel
theorem dX6_ended_41 : decode cX6_ended 41 = .ok (.istore_n 3, 1) := by decide +kernel
theorem dX6_ended_42 : decode cX6_ended 42 = .ok (.aload_n 0, 1) := by decide +kernel
theorem dX6_ended_43 : decode cX6_ended 43 = .ok (.iload_n 3, 1) := by decide +kernel
theorem dX6_ended_44 : decode cX6_ended 44 = .ok (.iconst 1, 1) := by decide +kernel
theorem dX6_ended_45 : decode cX6_ended 45 = .ok (.iconst 1, 1) := by decide +kernel
theorem dX6_ended_46 : decode cX6_ended 46 = .ok (.invokevirtual 119, 3) := by decide +kernel
theorem dX6_ended_49 : decode cX6_ended 49 = .ok (.ifCond .eq 16, 3) := by decide +kernel
theorem dX6_ended_52 : decode cX6_ended 52 = .ok (.aload_n 0, 1) := by decide +kernel
theorem dX6_ended_53 : decode cX6_ended 53 = .ok (.getfield 62, 3) := by decide +kernel
theorem dX6_ended_56 : decode cX6_ended 56 = .ok (.iload_n 1, 1) := by decide +kernel
theorem dX6_ended_57 : decode cX6_ended 57 = .ok (.iload_n 2, 1) := by decide +kernel
theorem dX6_ended_58 : decode cX6_ended 58 = .ok (.invokestatic 133, 3) := by decide +kernel
theorem dX6_ended_61 : decode cX6_ended 61 = .ok (.iaload, 1) := by decide +kernel
theorem dX6_ended_62 : decode cX6_ended 62 = .ok (.goto 4, 3) := by decide +kernel
theorem dX6_ended_65 : decode cX6_ended 65 = .ok (.iconst 0, 1) := by decide +kernel
theorem dX6_ended_66 : decode cX6_ended 66 = .ok (.ireturn, 1) := by decide +kernel
set_option maxRecDepth 20000 in
theorem ggX6_late_X6_isPending : GoodIn wsX6_late wsX6_isPending := goodIn_r _ [10, 2, 11, 12, 13, 9, 14, 15, 16, 17, 18, 19, 20, 21, 22, 23, 24, 25, 26, 27, 28, 29, 30, 31, 32, 33, 34, 35, 36, 37, 38, 39, 40, 41, 42, 43, 44, 45, 46, 47, 48, 49] (by decide +kernel) (by decide +kernel)
set_option maxRecDepth 20000 in
theorem gX6_late_X6_isPending : GoodIn wsX6_late (wsV RX6 136 RX6 yX6_isPending wsX6_isPending) := goodIn_app (goodIn_of _ (by decide +kernel)) ggX6_late_X6_isPending
set_option maxRecDepth 20000 in
theorem ggX6_late_X6_at : GoodIn wsX6_late wsX6_at := goodIn_r _ [14] (by decide +kernel) (by decide +kernel)
set_option maxRecDepth 20000 in
theorem gX6_late_X6_at : GoodIn wsX6_late (va_wsS RX6 133 yX6_at wsX6_at) := goodIn_app (goodIn_of _ (by decide +kernel)) ggX6_late_X6_at
theorem dX6_late_0 : decode cX6_late 0 = .ok (.aload_n 0, 1) := by decide +kernel
theorem dX6_late_1 : decode cX6_late 1 = .ok (.getfield 47, 3) := by decide +kernel
theorem dX6_late_4 : decode cX6_late 4 = .ok (.iload_n 1, 1) := by decide +kernel
theorem dX6_late_5 : decode cX6_late 5 = .ok (.iaload, 1) := by decide +kernel
theorem dX6_late_6 : decode cX6_late 6 = .ok (.istore_n 2, 1) := by decide +kernel
theorem dX6_late_7 : decode cX6_late 7 = .ok (.aload_n 0, 1) := by decide +kernel
theorem dX6_late_8 : decode cX6_late 8 = .ok (.getfield 38, 3) := by decide +kernel
theorem dX6_late_11 : decode cX6_late 11 = .ok (.iload_n 1, 1) := by decide +kernel
theorem dX6_late_12 : decode cX6_late 12 = .ok (.iaload, 1) := by decide +kernel
theorem dX6_late_13 : decode cX6_late 13 = .ok (.bipush 7, 2) := by decide +kernel
theorem dX6_late_15 : decode cX6_late 15 = .ok (.isub, 1) := by decide +kernel
theorem dX6_late_16 : decode cX6_late 16 = .ok (.istore_n 3, 1) := by decide +kernel
theorem dX6_late_17 : decode cX6_late 17 = .ok (.iload_n 3, 1) := by decide +kernel
theorem dX6_late_18 : decode cX6_late 18 = .ok (.aload_n 0, 1) := by decide +kernel
theorem dX6_late_19 : decode cX6_late 19 = .ok (.getfield 38, 3) := by decide +kernel
theorem dX6_late_22 : decode cX6_late 22 = .ok (.iload_n 1, 1) := by decide +kernel
theorem dX6_late_23 : decode cX6_late 23 = .ok (.iaload, 1) := by decide +kernel
theorem dX6_late_24 : decode cX6_late 24 = .ok (.if_icmp .gt 50, 3) := by decide +kernel
theorem dX6_late_27 : decode cX6_late 27 = .ok (.aload_n 0, 1) := by decide +kernel
theorem dX6_late_28 : decode cX6_late 28 = .ok (.iload_n 1, 1) := by decide +kernel
theorem dX6_late_29 : decode cX6_late 29 = .ok (.iload_n 3, 1) := by decide +kernel
theorem dX6_late_30 : decode cX6_late 30 = .ok (.invokevirtual 136, 3) := by decide +kernel
theorem dX6_late_33 : decode cX6_late 33 = .ok (.ifCond .eq 33, 3) := by decide +kernel
theorem dX6_late_36 : decode cX6_late 36 = .ok (.aload_n 0, 1) := by decide +kernel
theorem dX6_late_37 : decode cX6_late 37 = .ok (.getfield 152, 3) := by decide +kernel
theorem dX6_late_40 : decode cX6_late 40 = .ok (.aload_n 0, 1) := by decide +kernel
theorem dX6_late_41 : decode cX6_late 41 = .ok (.getfield 53, 3) := by decide +kernel
theorem dX6_late_44 : decode cX6_late 44 = .ok (.iload_n 1, 1) := by decide +kernel
theorem dX6_late_45 : decode cX6_late 45 = .ok (.iload_n 3, 1) := by decide +kernel
theorem dX6_late_46 : decode cX6_late 46 = .ok (.invokestatic 133, 3) := by decide +kernel
theorem dX6_late_49 : decode cX6_late 49 = .ok (.iaload, 1) := by decide +kernel
theorem dX6_late_50 : decode cX6_late 50 = .ok (.aload_n 0, 1) := by decide +kernel
theorem dX6_late_51 : decode cX6_late 51 = .ok (.getfield 20, 3) := by decide +kernel
theorem dX6_late_54 : decode cX6_late 54 = .ok (.iload_n 1, 1) := by decide +kernel
theorem dX6_late_55 : decode cX6_late 55 = .ok (.iaload, 1) := by decide +kernel
theorem dX6_late_56 : decode cX6_late 56 = .ok (.iadd, 1) := by decide +kernel
theorem dX6_late_57 : decode cX6_late 57 = .ok (.if_icmp .le 9, 3) := by decide +kernel
theorem dX6_late_60 : decode cX6_late 60 = .ok (.iload_n 2, 1) := by decide +kernel
theorem dX6_late_61 : decode cX6_late 61 = .ok (.iconst 1, 1) := by decide +kernel
theorem dX6_late_62 : decode cX6_late 62 = .ok (.iadd, 1) := by decide +kernel
theorem dX6_late_63 : decode cX6_late 63 = .ok (.goto 4, 3) := by decide +kernel
theorem dX6_late_66 : decode cX6_late 66 = .ok (.iload_n 2, 1) := by decide +kernel
theorem dX6_late_67 : decode cX6_late 67 = .ok (.istore_n 2, 1) := by decide +kernel
theorem dX6_late_68 : decode cX6_late 68 = .ok (.iinc 3 1, 3) := by decide +kernel
theorem dX6_late_71 : decode cX6_late 71 = .ok (.goto (-54), 3) := by decide +kernel
theorem dX6_late_74 : decode cX6_late 74 = .ok (.iload_n 2, 1) := by decide +kernel
theorem dX6_late_75 : decode cX6_late 75 = .ok (.ireturn, 1) := by decide +kernel
set_option maxRecDepth 20000 in
theorem ggX6_about_X6_isKnown : GoodIn wsX6_about wsX6_isKnown := goodIn_r _ [10, 11, 51, 52, 53, 54, 55, 56, 57, 58, 59, 60, 61, 62, 63, 64, 65, 66, 67, 68, 69, 70, 71, 72, 73, 74, 75, 76, 77, 78, 79, 80, 81, 82, 83, 84, 85] (by decide +kernel) (by decide +kernel)
set_option maxRecDepth 20000 in
theorem gX6_about_X6_isKnown : GoodIn wsX6_about (wsV RX6 115 RX6 yX6_isKnown wsX6_isKnown) := goodIn_app (goodIn_of _ (by decide +kernel)) ggX6_about_X6_isKnown
set_option maxRecDepth 20000 in
theorem ggX6_about_X6_within : GoodIn wsX6_about wsX6_within := goodIn_r _ [14] (by decide +kernel) (by decide +kernel)
set_option maxRecDepth 20000 in
theorem gX6_about_X6_within : GoodIn wsX6_about (va_wsS RX6 111 yX6_within wsX6_within) := goodIn_app (goodIn_of _ (by decide +kernel)) ggX6_about_X6_within
set_option maxRecDepth 20000 in
theorem ggX6_about_X6_goes : GoodIn wsX6_about wsX6_goes := goodIn_r _ [18, 19, 51, 52, 53, 54, 55, 56, 57, 58, 59, 60, 61, 62, 63, 64, 65, 66, 67, 68, 69, 70, 71, 72, 73, 74, 75, 76, 77, 78, 79, 80, 81, 82, 83, 84, 85] (by decide +kernel) (by decide +kernel)
set_option maxRecDepth 20000 in
theorem gX6_about_X6_goes : GoodIn wsX6_about (wsV RX6 119 RX6 yX6_goes wsX6_goes) := goodIn_app (goodIn_of _ (by decide +kernel)) ggX6_about_X6_goes
set_option maxRecDepth 20000 in
theorem ggX6_about_X6_place : GoodIn wsX6_about wsX6_place := goodIn_r _ [23, 24, 25, 51, 52, 53, 54, 55, 56, 57, 58, 59, 60, 61, 62, 63, 64, 65, 66, 67, 68, 69, 70, 71, 72, 73, 74, 75, 76, 77, 78, 79, 80, 81, 82, 83, 84, 85] (by decide +kernel) (by decide +kernel)
set_option maxRecDepth 20000 in
theorem gX6_about_X6_place : GoodIn wsX6_about (wsV RX6 149 RX6 yX6_place wsX6_place) := goodIn_app (goodIn_of _ (by decide +kernel)) ggX6_about_X6_place
set_option maxRecDepth 20000 in
theorem ggX6_about_X6_planPlace : GoodIn wsX6_about wsX6_planPlace := goodIn_r _ [29, 30, 51, 52, 53, 54, 55, 56, 57, 58, 59, 60, 61, 62, 63, 64, 65, 66, 67, 68, 69, 70, 71, 72, 73, 74, 75, 76, 77, 78, 79, 80, 81, 82, 83, 84, 85] (by decide +kernel) (by decide +kernel)
set_option maxRecDepth 20000 in
theorem gX6_about_X6_planPlace : GoodIn wsX6_about (wsV RX6 185 RX6 yX6_planPlace wsX6_planPlace) := goodIn_app (goodIn_of _ (by decide +kernel)) ggX6_about_X6_planPlace
set_option maxRecDepth 20000 in
theorem ggX6_about_X6_pending : GoodIn wsX6_about wsX6_pending := goodIn_r _ [34, 1, 35, 36, 37, 9, 38, 39, 40, 41, 42, 51, 52, 53, 54, 55, 56, 57, 58, 59, 60, 61, 62, 63, 64, 65, 66, 67, 68, 69, 70, 71, 72, 73, 74, 75, 76, 77, 78, 79, 80, 81, 82, 83, 84, 85] (by decide +kernel) (by decide +kernel)
set_option maxRecDepth 20000 in
theorem gX6_about_X6_pending : GoodIn wsX6_about (wsV RX6 140 RX6 yX6_pending wsX6_pending) := goodIn_app (goodIn_of _ (by decide +kernel)) ggX6_about_X6_pending
set_option maxRecDepth 20000 in
theorem ggX6_about_X6_late : GoodIn wsX6_about wsX6_late := goodIn_r _ [46, 47, 1, 48, 49, 50, 35, 36, 37, 9, 38, 39, 40, 41, 42, 51, 52, 53, 54, 55, 56, 57, 58, 59, 60, 61, 62, 63, 64, 65, 66, 67, 68, 69, 70, 71, 72, 73, 74, 75, 76, 77, 78, 79, 80, 81, 82, 83, 84, 85] (by decide +kernel) (by decide +kernel)
set_option maxRecDepth 20000 in
theorem gX6_about_X6_late : GoodIn wsX6_about (wsV RX6 188 RX6 yX6_late wsX6_late) := goodIn_app (goodIn_of _ (by decide +kernel)) ggX6_about_X6_late
theorem dX6_about_0 : decode cX6_about 0 = .ok (.aload_n 0, 1) := by decide +kernel
theorem dX6_about_1 : decode cX6_about 1 = .ok (.aload_n 0, 1) := by decide +kernel
theorem dX6_about_2 : decode cX6_about 2 = .ok (.iload_n 1, 1) := by decide +kernel
theorem dX6_about_3 : decode cX6_about 3 = .ok (.invokevirtual 115, 3) := by decide +kernel
theorem dX6_about_6 : decode cX6_about 6 = .ok (.iload_n 2, 1) := by decide +kernel
theorem dX6_about_7 : decode cX6_about 7 = .ok (.iconst 0, 1) := by decide +kernel
theorem dX6_about_8 : decode cX6_about 8 = .ok (.bipush 8, 2) := by decide +kernel
theorem dX6_about_10 : decode cX6_about 10 = .ok (.invokestatic 111, 3) := by decide +kernel
theorem dX6_about_13 : decode cX6_about 13 = .ok (.iconst 1, 1) := by decide +kernel
theorem dX6_about_14 : decode cX6_about 14 = .ok (.invokevirtual 119, 3) := by decide +kernel
theorem dX6_about_17 : decode cX6_about 17 = .ok (.ifCond .ne 5, 3) := by decide +kernel
theorem dX6_about_20 : decode cX6_about 20 = .ok (.iconst 0, 1) := by decide +kernel
theorem dX6_about_21 : decode cX6_about 21 = .ok (.ireturn, 1) := by decide +kernel
theorem dX6_about_22 : decode cX6_about 22 = .ok (.iload_n 2, 1) := by decide +kernel
theorem dX6_about_23 : decode cX6_about 23 = .ok (.tableswitch 106 0 7 #[45, 51, 57, 63, 70, 77, 84, 91], 45) := by decide +kernel
theorem dX6_about_68 : decode cX6_about 68 = .ok (.aload_n 0, 1) := by decide +kernel
theorem dX6_about_69 : decode cX6_about 69 = .ok (.iload_n 1, 1) := by decide +kernel
theorem dX6_about_70 : decode cX6_about 70 = .ok (.invokevirtual 149, 3) := by decide +kernel
theorem dX6_about_73 : decode cX6_about 73 = .ok (.ireturn, 1) := by decide +kernel
theorem dX6_about_74 : decode cX6_about 74 = .ok (.aload_n 0, 1) := by decide +kernel
theorem dX6_about_75 : decode cX6_about 75 = .ok (.iload_n 1, 1) := by decide +kernel
theorem dX6_about_76 : decode cX6_about 76 = .ok (.invokevirtual 185, 3) := by decide +kernel
theorem dX6_about_79 : decode cX6_about 79 = .ok (.ireturn, 1) := by decide +kernel
theorem dX6_about_80 : decode cX6_about 80 = .ok (.aload_n 0, 1) := by decide +kernel
theorem dX6_about_81 : decode cX6_about 81 = .ok (.iload_n 1, 1) := by decide +kernel
theorem dX6_about_82 : decode cX6_about 82 = .ok (.invokevirtual 140, 3) := by decide +kernel
theorem dX6_about_85 : decode cX6_about 85 = .ok (.ireturn, 1) := by decide +kernel
theorem dX6_about_86 : decode cX6_about 86 = .ok (.aload_n 0, 1) := by decide +kernel
theorem dX6_about_87 : decode cX6_about 87 = .ok (.getfield 38, 3) := by decide +kernel
theorem dX6_about_90 : decode cX6_about 90 = .ok (.iload_n 1, 1) := by decide +kernel
theorem dX6_about_91 : decode cX6_about 91 = .ok (.iaload, 1) := by decide +kernel
theorem dX6_about_92 : decode cX6_about 92 = .ok (.ireturn, 1) := by decide +kernel
theorem dX6_about_93 : decode cX6_about 93 = .ok (.aload_n 0, 1) := by decide +kernel
theorem dX6_about_94 : decode cX6_about 94 = .ok (.getfield 41, 3) := by decide +kernel
theorem dX6_about_97 : decode cX6_about 97 = .ok (.iload_n 1, 1) := by decide +kernel
theorem dX6_about_98 : decode cX6_about 98 = .ok (.iaload, 1) := by decide +kernel
theorem dX6_about_99 : decode cX6_about 99 = .ok (.ireturn, 1) := by decide +kernel
theorem dX6_about_100 : decode cX6_about 100 = .ok (.aload_n 0, 1) := by decide +kernel
theorem dX6_about_101 : decode cX6_about 101 = .ok (.getfield 44, 3) := by decide +kernel
theorem dX6_about_104 : decode cX6_about 104 = .ok (.iload_n 1, 1) := by decide +kernel
theorem dX6_about_105 : decode cX6_about 105 = .ok (.iaload, 1) := by decide +kernel
theorem dX6_about_106 : decode cX6_about 106 = .ok (.ireturn, 1) := by decide +kernel
theorem dX6_about_107 : decode cX6_about 107 = .ok (.aload_n 0, 1) := by decide +kernel
theorem dX6_about_108 : decode cX6_about 108 = .ok (.getfield 50, 3) := by decide +kernel
theorem dX6_about_111 : decode cX6_about 111 = .ok (.iload_n 1, 1) := by decide +kernel
theorem dX6_about_112 : decode cX6_about 112 = .ok (.iaload, 1) := by decide +kernel
theorem dX6_about_113 : decode cX6_about 113 = .ok (.ireturn, 1) := by decide +kernel
theorem dX6_about_114 : decode cX6_about 114 = .ok (.aload_n 0, 1) := by decide +kernel
theorem dX6_about_115 : decode cX6_about 115 = .ok (.getfield 13, 3) := by decide +kernel
theorem dX6_about_118 : decode cX6_about 118 = .ok (.iload_n 1, 1) := by decide +kernel
theorem dX6_about_119 : decode cX6_about 119 = .ok (.baload, 1) := by decide +kernel
theorem dX6_about_120 : decode cX6_about 120 = .ok (.ifCond .eq 7, 3) := by decide +kernel
theorem dX6_about_123 : decode cX6_about 123 = .ok (.iconst 1, 1) := by decide +kernel
theorem dX6_about_124 : decode cX6_about 124 = .ok (.goto 4, 3) := by decide +kernel
theorem dX6_about_127 : decode cX6_about 127 = .ok (.iconst 0, 1) := by decide +kernel
theorem dX6_about_128 : decode cX6_about 128 = .ok (.ireturn, 1) := by decide +kernel
theorem dX6_about_129 : decode cX6_about 129 = .ok (.aload_n 0, 1) := by decide +kernel
theorem dX6_about_130 : decode cX6_about 130 = .ok (.iload_n 1, 1) := by decide +kernel
theorem dX6_about_131 : decode cX6_about 131 = .ok (.invokevirtual 188, 3) := by decide +kernel
theorem dX6_about_134 : decode cX6_about 134 = .ok (.ireturn, 1) := by decide +kernel
set_option maxRecDepth 20000 in
theorem ggX6_witness_X6_within : GoodIn wsX6_witness wsX6_within := goodIn_r _ [8] (by decide +kernel) (by decide +kernel)
set_option maxRecDepth 20000 in
theorem gX6_witness_X6_within : GoodIn wsX6_witness (va_wsS RX6 111 yX6_within wsX6_within) := goodIn_app (goodIn_of _ (by decide +kernel)) ggX6_witness_X6_within
set_option maxRecDepth 20000 in
theorem ggX6_witness_X6_goes : GoodIn wsX6_witness wsX6_goes := goodIn_r _ [12, 13, 14, 15, 16, 17, 18, 19, 20, 21, 22, 23, 24, 25, 26, 27, 28, 29, 30, 31, 32, 33, 34, 35, 36, 37, 38, 39, 40, 41, 42, 43, 44, 45, 46, 47, 48] (by decide +kernel) (by decide +kernel)
set_option maxRecDepth 20000 in
theorem gX6_witness_X6_goes : GoodIn wsX6_witness (wsV RX6 119 RX6 yX6_goes wsX6_goes) := goodIn_app (goodIn_of _ (by decide +kernel)) ggX6_witness_X6_goes
theorem dX6_witness_0 : decode cX6_witness 0 = .ok (.iload_n 1, 1) := by decide +kernel
theorem dX6_witness_1 : decode cX6_witness 1 = .ok (.istore_n 3, 1) := by decide +kernel
theorem dX6_witness_2 : decode cX6_witness 2 = .ok (.iconst (-1), 1) := by decide +kernel
theorem dX6_witness_3 : decode cX6_witness 3 = .ok (.istore 4, 2) := by decide +kernel
theorem dX6_witness_5 : decode cX6_witness 5 = .ok (.iconst 0, 1) := by decide +kernel
theorem dX6_witness_6 : decode cX6_witness 6 = .ok (.istore 5, 2) := by decide +kernel
theorem dX6_witness_8 : decode cX6_witness 8 = .ok (.iconst 0, 1) := by decide +kernel
theorem dX6_witness_9 : decode cX6_witness 9 = .ok (.istore 6, 2) := by decide +kernel
theorem dX6_witness_11 : decode cX6_witness 11 = .ok (.iload 6, 2) := by decide +kernel
theorem dX6_witness_13 : decode cX6_witness 13 = .ok (.aload_n 0, 1) := by decide +kernel
theorem dX6_witness_14 : decode cX6_witness 14 = .ok (.getfield 108, 3) := by decide +kernel
theorem dX6_witness_17 : decode cX6_witness 17 = .ok (.if_icmp .ge 69, 3) := by decide +kernel
theorem dX6_witness_20 : decode cX6_witness 20 = .ok (.iload_n 3, 1) := by decide +kernel
theorem dX6_witness_21 : decode cX6_witness 21 = .ok (.ifCond .lt 65, 3) := by decide +kernel
theorem dX6_witness_24 : decode cX6_witness 24 = .ok (.iconst 0, 1) := by decide +kernel
theorem dX6_witness_25 : decode cX6_witness 25 = .ok (.istore 7, 2) := by decide +kernel
theorem dX6_witness_27 : decode cX6_witness 27 = .ok (.iload 7, 2) := by decide +kernel
theorem dX6_witness_29 : decode cX6_witness 29 = .ok (.aload_n 0, 1) := by decide +kernel
theorem dX6_witness_30 : decode cX6_witness 30 = .ok (.getfield 105, 3) := by decide +kernel
theorem dX6_witness_33 : decode cX6_witness 33 = .ok (.if_icmp .ge 47, 3) := by decide +kernel
theorem dX6_witness_36 : decode cX6_witness 36 = .ok (.iload_n 3, 1) := by decide +kernel
theorem dX6_witness_37 : decode cX6_witness 37 = .ok (.ifCond .lt 43, 3) := by decide +kernel
theorem dX6_witness_40 : decode cX6_witness 40 = .ok (.iload 6, 2) := by decide +kernel
theorem dX6_witness_42 : decode cX6_witness 42 = .ok (.aload_n 0, 1) := by decide +kernel
theorem dX6_witness_43 : decode cX6_witness 43 = .ok (.getfield 74, 3) := by decide +kernel
theorem dX6_witness_46 : decode cX6_witness 46 = .ok (.iload 7, 2) := by decide +kernel
theorem dX6_witness_48 : decode cX6_witness 48 = .ok (.iaload, 1) := by decide +kernel
theorem dX6_witness_49 : decode cX6_witness 49 = .ok (.irem, 1) := by decide +kernel
theorem dX6_witness_50 : decode cX6_witness 50 = .ok (.ifCond .ne 9, 3) := by decide +kernel
theorem dX6_witness_53 : decode cX6_witness 53 = .ok (.iload_n 3, 1) := by decide +kernel
theorem dX6_witness_54 : decode cX6_witness 54 = .ok (.iconst 1, 1) := by decide +kernel
theorem dX6_witness_55 : decode cX6_witness 55 = .ok (.isub, 1) := by decide +kernel
theorem dX6_witness_56 : decode cX6_witness 56 = .ok (.goto 4, 3) := by decide +kernel
theorem dX6_witness_59 : decode cX6_witness 59 = .ok (.iload_n 3, 1) := by decide +kernel
theorem dX6_witness_60 : decode cX6_witness 60 = .ok (.istore_n 3, 1) := by decide +kernel
theorem dX6_witness_61 : decode cX6_witness 61 = .ok (.iload 6, 2) := by decide +kernel
theorem dX6_witness_63 : decode cX6_witness 63 = .ok (.istore 4, 2) := by decide +kernel
theorem dX6_witness_65 : decode cX6_witness 65 = .ok (.aload_n 0, 1) := by decide +kernel
theorem dX6_witness_66 : decode cX6_witness 66 = .ok (.getfield 71, 3) := by decide +kernel
theorem dX6_witness_69 : decode cX6_witness 69 = .ok (.iload 7, 2) := by decide +kernel
theorem dX6_witness_71 : decode cX6_witness 71 = .ok (.iaload, 1) := by decide +kernel
theorem dX6_witness_72 : decode cX6_witness 72 = .ok (.istore 5, 2) := by decide +kernel
theorem dX6_witness_74 : decode cX6_witness 74 = .ok (.iinc 7 1, 3) := by decide +kernel
theorem dX6_witness_77 : decode cX6_witness 77 = .ok (.goto (-50), 3) := by decide +kernel
theorem dX6_witness_80 : decode cX6_witness 80 = .ok (.iinc 6 1, 3) := by decide +kernel
theorem dX6_witness_83 : decode cX6_witness 83 = .ok (.goto (-72), 3) := by decide +kernel
theorem dX6_witness_86 : decode cX6_witness 86 = .ok (.iload_n 1, 1) := by decide +kernel
theorem dX6_witness_87 : decode cX6_witness 87 = .ok (.ifCond .lt 11, 3) := by decide +kernel
theorem dX6_witness_90 : decode cX6_witness 90 = .ok (.iload_n 3, 1) := by decide +kernel
theorem dX6_witness_91 : decode cX6_witness 91 = .ok (.ifCond .ge 7, 3) := by decide +kernel
theorem dX6_witness_94 : decode cX6_witness 94 = .ok (.iconst 1, 1) := by decide +kernel
theorem dX6_witness_95 : decode cX6_witness 95 = .ok (.goto 4, 3) := by decide +kernel
theorem dX6_witness_98 : decode cX6_witness 98 = .ok (.iconst 0, 1) := by decide +kernel
theorem dX6_witness_99 : decode cX6_witness 99 = .ok (.istore 6, 2) := by decide +kernel
theorem dX6_witness_101 : decode cX6_witness 101 = .ok (.aload_n 0, 1) := by decide +kernel
theorem dX6_witness_102 : decode cX6_witness 102 = .ok (.iload 6, 2) := by decide +kernel
theorem dX6_witness_104 : decode cX6_witness 104 = .ok (.iload_n 2, 1) := by decide +kernel
theorem dX6_witness_105 : decode cX6_witness 105 = .ok (.iconst 0, 1) := by decide +kernel
theorem dX6_witness_106 : decode cX6_witness 106 = .ok (.iconst 1, 1) := by decide +kernel
theorem dX6_witness_107 : decode cX6_witness 107 = .ok (.invokestatic 111, 3) := by decide +kernel
theorem dX6_witness_110 : decode cX6_witness 110 = .ok (.iconst 1, 1) := by decide +kernel
theorem dX6_witness_111 : decode cX6_witness 111 = .ok (.invokevirtual 119, 3) := by decide +kernel
theorem dX6_witness_114 : decode cX6_witness 114 = .ok (.ifCond .ne 5, 3) := by decide +kernel
theorem dX6_witness_117 : decode cX6_witness 117 = .ok (.iconst 0, 1) := by decide +kernel
theorem dX6_witness_118 : decode cX6_witness 118 = .ok (.ireturn, 1) := by decide +kernel
theorem dX6_witness_119 : decode cX6_witness 119 = .ok (.iload_n 2, 1) := by decide +kernel
theorem dX6_witness_120 : decode cX6_witness 120 = .ok (.ifCond .ne 8, 3) := by decide +kernel
theorem dX6_witness_123 : decode cX6_witness 123 = .ok (.iload 4, 2) := by decide +kernel
theorem dX6_witness_125 : decode cX6_witness 125 = .ok (.goto 5, 3) := by decide +kernel
theorem dX6_witness_128 : decode cX6_witness 128 = .ok (.iload 5, 2) := by decide +kernel
theorem dX6_witness_130 : decode cX6_witness 130 = .ok (.ireturn, 1) := by decide +kernel
set_option maxRecDepth 20000 in
theorem ggX6_trace_X6_goes : GoodIn wsX6_trace wsX6_goes := goodIn_r _ [7, 8, 9, 10, 11, 12, 13, 14, 15, 16, 17, 18, 19, 20, 21, 22, 23, 24, 25, 26, 27, 28, 29, 30, 31, 32, 33, 34, 35, 36, 37, 38, 39, 40, 41, 42, 43] (by decide +kernel) (by decide +kernel)
set_option maxRecDepth 20000 in
theorem gX6_trace_X6_goes : GoodIn wsX6_trace (wsV RX6 119 RX6 yX6_goes wsX6_goes) := goodIn_app (goodIn_of _ (by decide +kernel)) ggX6_trace_X6_goes
theorem dX6_trace_0 : decode cX6_trace 0 = .ok (.aload_n 0, 1) := by decide +kernel
theorem dX6_trace_1 : decode cX6_trace 1 = .ok (.iload_n 1, 1) := by decide +kernel
theorem dX6_trace_2 : decode cX6_trace 2 = .ok (.ifCond .lt 22, 3) := by decide +kernel
theorem dX6_trace_5 : decode cX6_trace 5 = .ok (.iload_n 1, 1) := by decide +kernel
theorem dX6_trace_6 : decode cX6_trace 6 = .ok (.sipush 256, 3) := by decide +kernel
theorem dX6_trace_9 : decode cX6_trace 9 = .ok (.if_icmp .ge 15, 3) := by decide +kernel
theorem dX6_trace_12 : decode cX6_trace 12 = .ok (.iload_n 1, 1) := by decide +kernel
theorem dX6_trace_13 : decode cX6_trace 13 = .ok (.aload_n 0, 1) := by decide +kernel
theorem dX6_trace_14 : decode cX6_trace 14 = .ok (.getfield 152, 3) := by decide +kernel
theorem dX6_trace_17 : decode cX6_trace 17 = .ok (.if_icmp .ge 7, 3) := by decide +kernel
theorem dX6_trace_20 : decode cX6_trace 20 = .ok (.iconst 1, 1) := by decide +kernel
theorem dX6_trace_21 : decode cX6_trace 21 = .ok (.goto 4, 3) := by decide +kernel
theorem dX6_trace_24 : decode cX6_trace 24 = .ok (.iconst 0, 1) := by decide +kernel
theorem dX6_trace_25 : decode cX6_trace 25 = .ok (.iconst 1, 1) := by decide +kernel
theorem dX6_trace_26 : decode cX6_trace 26 = .ok (.iconst 1, 1) := by decide +kernel
theorem dX6_trace_27 : decode cX6_trace 27 = .ok (.invokevirtual 119, 3) := by decide +kernel
theorem dX6_trace_30 : decode cX6_trace 30 = .ok (.ifCond .eq 23, 3) := by decide +kernel
theorem dX6_trace_33 : decode cX6_trace 33 = .ok (.aload_n 0, 1) := by decide +kernel
theorem dX6_trace_34 : decode cX6_trace 34 = .ok (.getfield 68, 3) := by decide +kernel
theorem dX6_trace_37 : decode cX6_trace 37 = .ok (.aload_n 0, 1) := by decide +kernel
theorem dX6_trace_38 : decode cX6_trace 38 = .ok (.getfield 152, 3) := by decide +kernel
theorem dX6_trace_41 : decode cX6_trace 41 = .ok (.iconst 1, 1) := by decide +kernel
theorem dX6_trace_42 : decode cX6_trace 42 = .ok (.isub, 1) := by decide +kernel
theorem dX6_trace_43 : decode cX6_trace 43 = .ok (.iload_n 1, 1) := by decide +kernel
theorem dX6_trace_44 : decode cX6_trace 44 = .ok (.isub, 1) := by decide +kernel
theorem dX6_trace_45 : decode cX6_trace 45 = .ok (.sipush 256, 3) := by decide +kernel
theorem dX6_trace_48 : decode cX6_trace 48 = .ok (.irem, 1) := by decide +kernel
theorem dX6_trace_49 : decode cX6_trace 49 = .ok (.iaload, 1) := by decide +kernel
theorem dX6_trace_50 : decode cX6_trace 50 = .ok (.goto 4, 3) := by decide +kernel
theorem dX6_trace_53 : decode cX6_trace 53 = .ok (.iconst 0, 1) := by decide +kernel
theorem dX6_trace_54 : decode cX6_trace 54 = .ok (.ireturn, 1) := by decide +kernel
set_option maxRecDepth 20000 in
theorem ggX6_changed_X6_goes : GoodIn wsX6_changed wsX6_goes := goodIn_r _ [7, 8, 9, 10, 11, 12, 13, 14, 15, 16, 17, 18, 19, 20, 21, 22, 23, 24, 25, 26, 27, 28, 29, 30, 31, 32, 33, 34, 35, 36, 37, 38, 39, 40, 41, 42, 43] (by decide +kernel) (by decide +kernel)
set_option maxRecDepth 20000 in
theorem gX6_changed_X6_goes : GoodIn wsX6_changed (wsV RX6 119 RX6 yX6_goes wsX6_goes) := goodIn_app (goodIn_of _ (by decide +kernel)) ggX6_changed_X6_goes
theorem dX6_changed_0 : decode cX6_changed 0 = .ok (.aload_n 0, 1) := by decide +kernel
theorem dX6_changed_1 : decode cX6_changed 1 = .ok (.iload_n 1, 1) := by decide +kernel
theorem dX6_changed_2 : decode cX6_changed 2 = .ok (.ifCond .lt 21, 3) := by decide +kernel
theorem dX6_changed_5 : decode cX6_changed 5 = .ok (.iload_n 1, 1) := by decide +kernel
theorem dX6_changed_6 : decode cX6_changed 6 = .ok (.bipush 8, 2) := by decide +kernel
theorem dX6_changed_8 : decode cX6_changed 8 = .ok (.if_icmp .ge 15, 3) := by decide +kernel
theorem dX6_changed_11 : decode cX6_changed 11 = .ok (.iload_n 1, 1) := by decide +kernel
theorem dX6_changed_12 : decode cX6_changed 12 = .ok (.aload_n 0, 1) := by decide +kernel
theorem dX6_changed_13 : decode cX6_changed 13 = .ok (.getfield 164, 3) := by decide +kernel
theorem dX6_changed_16 : decode cX6_changed 16 = .ok (.if_icmp .ge 7, 3) := by decide +kernel
theorem dX6_changed_19 : decode cX6_changed 19 = .ok (.iconst 1, 1) := by decide +kernel
theorem dX6_changed_20 : decode cX6_changed 20 = .ok (.goto 4, 3) := by decide +kernel
theorem dX6_changed_23 : decode cX6_changed 23 = .ok (.iconst 0, 1) := by decide +kernel
theorem dX6_changed_24 : decode cX6_changed 24 = .ok (.iconst 1, 1) := by decide +kernel
theorem dX6_changed_25 : decode cX6_changed 25 = .ok (.iconst 1, 1) := by decide +kernel
theorem dX6_changed_26 : decode cX6_changed 26 = .ok (.invokevirtual 119, 3) := by decide +kernel
theorem dX6_changed_29 : decode cX6_changed 29 = .ok (.ifCond .eq 22, 3) := by decide +kernel
theorem dX6_changed_32 : decode cX6_changed 32 = .ok (.aload_n 0, 1) := by decide +kernel
theorem dX6_changed_33 : decode cX6_changed 33 = .ok (.getfield 65, 3) := by decide +kernel
theorem dX6_changed_36 : decode cX6_changed 36 = .ok (.aload_n 0, 1) := by decide +kernel
theorem dX6_changed_37 : decode cX6_changed 37 = .ok (.getfield 164, 3) := by decide +kernel
theorem dX6_changed_40 : decode cX6_changed 40 = .ok (.iconst 1, 1) := by decide +kernel
theorem dX6_changed_41 : decode cX6_changed 41 = .ok (.isub, 1) := by decide +kernel
theorem dX6_changed_42 : decode cX6_changed 42 = .ok (.iload_n 1, 1) := by decide +kernel
theorem dX6_changed_43 : decode cX6_changed 43 = .ok (.isub, 1) := by decide +kernel
theorem dX6_changed_44 : decode cX6_changed 44 = .ok (.bipush 8, 2) := by decide +kernel
theorem dX6_changed_46 : decode cX6_changed 46 = .ok (.irem, 1) := by decide +kernel
theorem dX6_changed_47 : decode cX6_changed 47 = .ok (.iaload, 1) := by decide +kernel
theorem dX6_changed_48 : decode cX6_changed 48 = .ok (.goto 4, 3) := by decide +kernel
theorem dX6_changed_51 : decode cX6_changed 51 = .ok (.iconst 0, 1) := by decide +kernel
theorem dX6_changed_52 : decode cX6_changed 52 = .ok (.ireturn, 1) := by decide +kernel
set_option maxRecDepth 20000 in
theorem ggX6_sum_X6_pending : GoodIn wsX6_sum wsX6_pending := goodIn_r _ [6, 7, 8, 9, 10, 5, 11, 12, 13, 14, 15, 16, 17, 18, 19, 20, 21, 22, 23, 24, 25, 26, 27, 28, 29, 30, 31, 32, 33, 34, 35, 36, 37, 38, 39, 40, 41, 42, 43, 44, 45, 46, 47, 48, 49, 50] (by decide +kernel) (by decide +kernel)
set_option maxRecDepth 20000 in
theorem gX6_sum_X6_pending : GoodIn wsX6_sum (wsV RX6 140 RX6 yX6_pending wsX6_pending) := goodIn_app (goodIn_of _ (by decide +kernel)) ggX6_sum_X6_pending
theorem dX6_sum_0 : decode cX6_sum 0 = .ok (.iconst 0, 1) := by decide +kernel
theorem dX6_sum_1 : decode cX6_sum 1 = .ok (.istore_n 2, 1) := by decide +kernel
theorem dX6_sum_2 : decode cX6_sum 2 = .ok (.iconst 1, 1) := by decide +kernel
theorem dX6_sum_3 : decode cX6_sum 3 = .ok (.istore_n 3, 1) := by decide +kernel
theorem dX6_sum_4 : decode cX6_sum 4 = .ok (.iload_n 3, 1) := by decide +kernel
theorem dX6_sum_5 : decode cX6_sum 5 = .ok (.bipush 13, 2) := by decide +kernel
theorem dX6_sum_7 : decode cX6_sum 7 = .ok (.if_icmp .ge 58, 3) := by decide +kernel
theorem dX6_sum_10 : decode cX6_sum 10 = .ok (.aload_n 0, 1) := by decide +kernel
theorem dX6_sum_11 : decode cX6_sum 11 = .ok (.getfield 7, 3) := by decide +kernel
theorem dX6_sum_14 : decode cX6_sum 14 = .ok (.iload_n 3, 1) := by decide +kernel
theorem dX6_sum_15 : decode cX6_sum 15 = .ok (.baload, 1) := by decide +kernel
theorem dX6_sum_16 : decode cX6_sum 16 = .ok (.ifCond .eq 14, 3) := by decide +kernel
theorem dX6_sum_19 : decode cX6_sum 19 = .ok (.iload_n 1, 1) := by decide +kernel
theorem dX6_sum_20 : decode cX6_sum 20 = .ok (.iconst 4, 1) := by decide +kernel
theorem dX6_sum_21 : decode cX6_sum 21 = .ok (.if_icmp .ne 9, 3) := by decide +kernel
theorem dX6_sum_24 : decode cX6_sum 24 = .ok (.iload_n 2, 1) := by decide +kernel
theorem dX6_sum_25 : decode cX6_sum 25 = .ok (.iconst 1, 1) := by decide +kernel
theorem dX6_sum_26 : decode cX6_sum 26 = .ok (.iadd, 1) := by decide +kernel
theorem dX6_sum_27 : decode cX6_sum 27 = .ok (.goto 4, 3) := by decide +kernel
theorem dX6_sum_30 : decode cX6_sum 30 = .ok (.iload_n 2, 1) := by decide +kernel
theorem dX6_sum_31 : decode cX6_sum 31 = .ok (.istore_n 2, 1) := by decide +kernel
theorem dX6_sum_32 : decode cX6_sum 32 = .ok (.aload_n 0, 1) := by decide +kernel
theorem dX6_sum_33 : decode cX6_sum 33 = .ok (.getfield 7, 3) := by decide +kernel
theorem dX6_sum_36 : decode cX6_sum 36 = .ok (.iload_n 3, 1) := by decide +kernel
theorem dX6_sum_37 : decode cX6_sum 37 = .ok (.baload, 1) := by decide +kernel
theorem dX6_sum_38 : decode cX6_sum 38 = .ok (.ifCond .eq 19, 3) := by decide +kernel
theorem dX6_sum_41 : decode cX6_sum 41 = .ok (.iload_n 1, 1) := by decide +kernel
theorem dX6_sum_42 : decode cX6_sum 42 = .ok (.bipush 6, 2) := by decide +kernel
theorem dX6_sum_44 : decode cX6_sum 44 = .ok (.if_icmp .ne 13, 3) := by decide +kernel
theorem dX6_sum_47 : decode cX6_sum 47 = .ok (.iload_n 2, 1) := by decide +kernel
theorem dX6_sum_48 : decode cX6_sum 48 = .ok (.aload_n 0, 1) := by decide +kernel
theorem dX6_sum_49 : decode cX6_sum 49 = .ok (.iload_n 3, 1) := by decide +kernel
theorem dX6_sum_50 : decode cX6_sum 50 = .ok (.invokevirtual 140, 3) := by decide +kernel
theorem dX6_sum_53 : decode cX6_sum 53 = .ok (.iadd, 1) := by decide +kernel
theorem dX6_sum_54 : decode cX6_sum 54 = .ok (.goto 4, 3) := by decide +kernel
theorem dX6_sum_57 : decode cX6_sum 57 = .ok (.iload_n 2, 1) := by decide +kernel
theorem dX6_sum_58 : decode cX6_sum 58 = .ok (.istore_n 2, 1) := by decide +kernel
theorem dX6_sum_59 : decode cX6_sum 59 = .ok (.iinc 3 1, 3) := by decide +kernel
theorem dX6_sum_62 : decode cX6_sum 62 = .ok (.goto (-58), 3) := by decide +kernel
theorem dX6_sum_65 : decode cX6_sum 65 = .ok (.iload_n 2, 1) := by decide +kernel
theorem dX6_sum_66 : decode cX6_sum 66 = .ok (.ireturn, 1) := by decide +kernel
set_option maxRecDepth 20000 in
theorem ggX6_count_X6_within : GoodIn wsX6_count wsX6_within := goodIn_r _ [11] (by decide +kernel) (by decide +kernel)
set_option maxRecDepth 20000 in
theorem gX6_count_X6_within : GoodIn wsX6_count (va_wsS RX6 111 yX6_within wsX6_within) := goodIn_app (goodIn_of _ (by decide +kernel)) ggX6_count_X6_within
set_option maxRecDepth 20000 in
theorem ggX6_count_X6_goes : GoodIn wsX6_count wsX6_goes := goodIn_r _ [15, 16, 35, 36, 37, 38, 39, 40, 41, 42, 43, 44, 45, 46, 47, 48, 49, 50, 51, 52, 53, 54, 55, 56, 57, 58, 59, 60, 61, 62, 63, 64, 65, 66, 67, 68, 69] (by decide +kernel) (by decide +kernel)
set_option maxRecDepth 20000 in
theorem gX6_count_X6_goes : GoodIn wsX6_count (wsV RX6 119 RX6 yX6_goes wsX6_goes) := goodIn_app (goodIn_of _ (by decide +kernel)) ggX6_count_X6_goes
set_option maxRecDepth 20000 in
theorem ggX6_count_X6_sum : GoodIn wsX6_count wsX6_sum := goodIn_r _ [20, 21, 22, 23, 24, 10, 25, 26, 27, 28, 29, 30, 31, 32, 33, 34, 35, 36, 37, 38, 39, 40, 41, 42, 43, 44, 45, 46, 47, 48, 49, 50, 51, 52, 53, 54, 55, 56, 57, 58, 59, 60, 61, 62, 63, 64, 65, 66, 67, 68, 69] (by decide +kernel) (by decide +kernel)
set_option maxRecDepth 20000 in
theorem gX6_count_X6_sum : GoodIn wsX6_count (wsV RX6 191 RX6 yX6_sum wsX6_sum) := goodIn_app (goodIn_of _ (by decide +kernel)) ggX6_count_X6_sum
theorem dX6_count_0 : decode cX6_count 0 = .ok (.aload_n 0, 1) := by decide +kernel
theorem dX6_count_1 : decode cX6_count 1 = .ok (.iload_n 1, 1) := by decide +kernel
theorem dX6_count_2 : decode cX6_count 2 = .ok (.iconst 0, 1) := by decide +kernel
theorem dX6_count_3 : decode cX6_count 3 = .ok (.bipush 8, 2) := by decide +kernel
theorem dX6_count_5 : decode cX6_count 5 = .ok (.invokestatic 111, 3) := by decide +kernel
theorem dX6_count_8 : decode cX6_count 8 = .ok (.iconst 1, 1) := by decide +kernel
theorem dX6_count_9 : decode cX6_count 9 = .ok (.iconst 1, 1) := by decide +kernel
theorem dX6_count_10 : decode cX6_count 10 = .ok (.invokevirtual 119, 3) := by decide +kernel
theorem dX6_count_13 : decode cX6_count 13 = .ok (.ifCond .ne 5, 3) := by decide +kernel
theorem dX6_count_16 : decode cX6_count 16 = .ok (.iconst 0, 1) := by decide +kernel
theorem dX6_count_17 : decode cX6_count 17 = .ok (.ireturn, 1) := by decide +kernel
theorem dX6_count_18 : decode cX6_count 18 = .ok (.iload_n 1, 1) := by decide +kernel
theorem dX6_count_19 : decode cX6_count 19 = .ok (.tableswitch 89 0 8 #[49, 54, 59, 64, 89, 69, 89, 74, 79], 49) := by decide +kernel
theorem dX6_count_68 : decode cX6_count 68 = .ok (.aload_n 0, 1) := by decide +kernel
theorem dX6_count_69 : decode cX6_count 69 = .ok (.getfield 152, 3) := by decide +kernel
theorem dX6_count_72 : decode cX6_count 72 = .ok (.ireturn, 1) := by decide +kernel
theorem dX6_count_73 : decode cX6_count 73 = .ok (.aload_n 0, 1) := by decide +kernel
theorem dX6_count_74 : decode cX6_count 74 = .ok (.getfield 173, 3) := by decide +kernel
theorem dX6_count_77 : decode cX6_count 77 = .ok (.ireturn, 1) := by decide +kernel
theorem dX6_count_78 : decode cX6_count 78 = .ok (.aload_n 0, 1) := by decide +kernel
theorem dX6_count_79 : decode cX6_count 79 = .ok (.getfield 155, 3) := by decide +kernel
theorem dX6_count_82 : decode cX6_count 82 = .ok (.ireturn, 1) := by decide +kernel
theorem dX6_count_83 : decode cX6_count 83 = .ok (.aload_n 0, 1) := by decide +kernel
theorem dX6_count_84 : decode cX6_count 84 = .ok (.getfield 164, 3) := by decide +kernel
theorem dX6_count_87 : decode cX6_count 87 = .ok (.ireturn, 1) := by decide +kernel
theorem dX6_count_88 : decode cX6_count 88 = .ok (.aload_n 0, 1) := by decide +kernel
theorem dX6_count_89 : decode cX6_count 89 = .ok (.getfield 143, 3) := by decide +kernel
theorem dX6_count_92 : decode cX6_count 92 = .ok (.ireturn, 1) := by decide +kernel
theorem dX6_count_93 : decode cX6_count 93 = .ok (.aload_n 0, 1) := by decide +kernel
theorem dX6_count_94 : decode cX6_count 94 = .ok (.getfield 158, 3) := by decide +kernel
theorem dX6_count_97 : decode cX6_count 97 = .ok (.ireturn, 1) := by decide +kernel
theorem dX6_count_98 : decode cX6_count 98 = .ok (.aload_n 0, 1) := by decide +kernel
theorem dX6_count_99 : decode cX6_count 99 = .ok (.getfield 152, 3) := by decide +kernel
theorem dX6_count_102 : decode cX6_count 102 = .ok (.aload_n 0, 1) := by decide +kernel
theorem dX6_count_103 : decode cX6_count 103 = .ok (.getfield 176, 3) := by decide +kernel
theorem dX6_count_106 : decode cX6_count 106 = .ok (.isub, 1) := by decide +kernel
theorem dX6_count_107 : decode cX6_count 107 = .ok (.ireturn, 1) := by decide +kernel
theorem dX6_count_108 : decode cX6_count 108 = .ok (.aload_n 0, 1) := by decide +kernel
theorem dX6_count_109 : decode cX6_count 109 = .ok (.iload_n 1, 1) := by decide +kernel
theorem dX6_count_110 : decode cX6_count 110 = .ok (.invokevirtual 191, 3) := by decide +kernel
theorem dX6_count_113 : decode cX6_count 113 = .ok (.ireturn, 1) := by decide +kernel
theorem dJ9_floorMod_7cf53_0 : decode cJ9_floorMod_7cf53 0 = .ok (.iload_n 0, 1) := by decide +kernel
theorem dJ9_floorMod_7cf53_1 : decode cJ9_floorMod_7cf53 1 = .ok (.iload_n 1, 1) := by decide +kernel
theorem dJ9_floorMod_7cf53_2 : decode cJ9_floorMod_7cf53 2 = .ok (.irem, 1) := by decide +kernel
theorem dJ9_floorMod_7cf53_3 : decode cJ9_floorMod_7cf53 3 = .ok (.istore_n 2, 1) := by decide +kernel
theorem dJ9_floorMod_7cf53_4 : decode cJ9_floorMod_7cf53 4 = .ok (.iload_n 0, 1) := by decide +kernel
theorem dJ9_floorMod_7cf53_5 : decode cJ9_floorMod_7cf53 5 = .ok (.iload_n 1, 1) := by decide +kernel
theorem dJ9_floorMod_7cf53_6 : decode cJ9_floorMod_7cf53 6 = .ok (.ixor, 1) := by decide +kernel
theorem dJ9_floorMod_7cf53_7 : decode cJ9_floorMod_7cf53 7 = .ok (.ifCond .ge 11, 3) := by decide +kernel
theorem dJ9_floorMod_7cf53_10 : decode cJ9_floorMod_7cf53 10 = .ok (.iload_n 2, 1) := by decide +kernel
theorem dJ9_floorMod_7cf53_11 : decode cJ9_floorMod_7cf53 11 = .ok (.ifCond .eq 7, 3) := by decide +kernel
theorem dJ9_floorMod_7cf53_14 : decode cJ9_floorMod_7cf53 14 = .ok (.iload_n 2, 1) := by decide +kernel
theorem dJ9_floorMod_7cf53_15 : decode cJ9_floorMod_7cf53 15 = .ok (.iload_n 1, 1) := by decide +kernel
theorem dJ9_floorMod_7cf53_16 : decode cJ9_floorMod_7cf53 16 = .ok (.iadd, 1) := by decide +kernel
theorem dJ9_floorMod_7cf53_17 : decode cJ9_floorMod_7cf53 17 = .ok (.ireturn, 1) := by decide +kernel
theorem dJ9_floorMod_7cf53_18 : decode cJ9_floorMod_7cf53 18 = .ok (.iload_n 2, 1) := by decide +kernel
theorem dJ9_floorMod_7cf53_19 : decode cJ9_floorMod_7cf53 19 = .ok (.ireturn, 1) := by decide +kernel
set_option maxRecDepth 20000 in
theorem ggL_add_X5_add : GoodIn wsL_add wsX5_add := goodIn_ca (goodIn_ca (goodIn_r _ [7, 8, 9, 10, 11, 12, 13, 14, 15, 16, 6, 17, 18, 19, 20, 21, 22, 23, 24, 25, 26, 27, 28, 29, 30, 31, 32, 33, 34, 35, 36, 37, 38, 39, 40, 41, 42, 43, 44, 45, 46, 47, 48, 49, 50, 51, 52, 53, 54, 55, 56, 57, 58, 59, 60, 61, 62, 63, 64, 65, 66, 67, 68, 69, 70, 71, 72, 73, 74, 75, 76, 77, 78, 79, 80, 81, 82, 83, 84, 85, 86, 87, 88, 89, 90, 91, 92, 93, 94, 95, 96, 97, 98, 99, 100, 101, 102, 103, 104, 105, 106, 107, 108, 109, 110, 111, 112, 113, 114, 115, 116, 117, 118, 119, 120, 121, 122, 123, 124, 125, 126, 127, 128, 129, 130, 131, 132, 133, 134, 135, 136, 137, 138, 139, 140, 141, 142, 143, 144, 145, 146, 147, 148, 149, 150, 151] (by decide +kernel) (by decide +kernel)) (goodIn_sub (fun _ h => List.mem_cons_of_mem _ (List.mem_append_left _ (List.mem_append_right _ h))) (by decide +kernel))) (goodIn_sub (fun _ h => List.mem_cons_of_mem _ (List.mem_append_right _ h)) (by decide +kernel))
set_option maxRecDepth 20000 in
theorem gL_add_X5_add : GoodIn wsL_add (wsV RL 7 RX5 yX5_add wsX5_add) := goodIn_app (goodIn_of _ (by decide +kernel)) ggL_add_X5_add
theorem dL_add_0 : decode cL_add 0 = .ok (.aload 6, 2) := by decide +kernel
theorem dL_add_2 : decode cL_add 2 = .ok (.iconst 0, 1) := by decide +kernel
theorem dL_add_3 : decode cL_add 3 = .ok (.aload_n 0, 1) := by decide +kernel
theorem dL_add_4 : decode cL_add 4 = .ok (.iload_n 1, 1) := by decide +kernel
theorem dL_add_5 : decode cL_add 5 = .ok (.iload_n 2, 1) := by decide +kernel
theorem dL_add_6 : decode cL_add 6 = .ok (.iload_n 3, 1) := by decide +kernel
theorem dL_add_7 : decode cL_add 7 = .ok (.iload 4, 2) := by decide +kernel
theorem dL_add_9 : decode cL_add 9 = .ok (.iload 5, 2) := by decide +kernel
theorem dL_add_11 : decode cL_add 11 = .ok (.invokevirtual 7, 3) := by decide +kernel
theorem dL_add_14 : decode cL_add 14 = .ok (.i2l, 1) := by decide +kernel
theorem dL_add_15 : decode cL_add 15 = .ok (.lastore, 1) := by decide +kernel
theorem dL_add_16 : decode cL_add 16 = .ok (.goto 11, 3) := by decide +kernel
theorem dL_add_19 : decode cL_add 19 = .ok (.astore 7, 2) := by decide +kernel
theorem dL_add_21 : decode cL_add 21 = .ok (.iconst 1, 1) := by decide +kernel
theorem dL_add_22 : decode cL_add 22 = .ok (.ireturn, 1) := by decide +kernel
theorem dL_add_23 : decode cL_add 23 = .ok (.astore 7, 2) := by decide +kernel
theorem dL_add_25 : decode cL_add 25 = .ok (.iconst 2, 1) := by decide +kernel
theorem dL_add_26 : decode cL_add 26 = .ok (.ireturn, 1) := by decide +kernel
theorem dL_add_27 : decode cL_add 27 = .ok (.iconst 0, 1) := by decide +kernel
theorem dL_add_28 : decode cL_add 28 = .ok (.ireturn, 1) := by decide +kernel
set_option maxRecDepth 20000 in
theorem ggL_remove_X5_remove : GoodIn wsL_remove wsX5_remove := goodIn_ca (goodIn_ca (goodIn_r _ [7, 8, 9, 10, 11, 12, 13, 14, 15, 6, 16, 17, 18, 19, 20, 21, 22, 23, 24, 25, 26, 27, 28, 29, 30, 31, 32, 33, 34, 35, 36, 37, 38, 39, 40, 41, 42, 43, 44, 45, 46, 47, 48, 49, 50, 51, 52, 53, 54, 55, 56, 57, 58, 59, 60, 61, 62, 63, 64, 65, 66, 67] (by decide +kernel) (by decide +kernel)) (goodIn_sub (fun _ h => List.mem_cons_of_mem _ (List.mem_append_left _ (List.mem_append_right _ h))) (by decide +kernel))) (goodIn_sub (fun _ h => List.mem_cons_of_mem _ (List.mem_append_right _ h)) (by decide +kernel))
set_option maxRecDepth 20000 in
theorem gL_remove_X5_remove : GoodIn wsL_remove (wsV RL 17 RX5 yX5_remove wsX5_remove) := goodIn_app (goodIn_of _ (by decide +kernel)) ggL_remove_X5_remove
theorem dL_remove_0 : decode cL_remove 0 = .ok (.aload_n 2, 1) := by decide +kernel
theorem dL_remove_1 : decode cL_remove 1 = .ok (.iconst 0, 1) := by decide +kernel
theorem dL_remove_2 : decode cL_remove 2 = .ok (.aload_n 0, 1) := by decide +kernel
theorem dL_remove_3 : decode cL_remove 3 = .ok (.iload_n 1, 1) := by decide +kernel
theorem dL_remove_4 : decode cL_remove 4 = .ok (.invokevirtual 17, 3) := by decide +kernel
theorem dL_remove_7 : decode cL_remove 7 = .ok (.ifCond .eq 7, 3) := by decide +kernel
theorem dL_remove_10 : decode cL_remove 10 = .ok (.lconst 1, 1) := by decide +kernel
theorem dL_remove_11 : decode cL_remove 11 = .ok (.goto 4, 3) := by decide +kernel
theorem dL_remove_14 : decode cL_remove 14 = .ok (.lconst 0, 1) := by decide +kernel
theorem dL_remove_15 : decode cL_remove 15 = .ok (.lastore, 1) := by decide +kernel
theorem dL_remove_16 : decode cL_remove 16 = .ok (.goto 9, 3) := by decide +kernel
theorem dL_remove_19 : decode cL_remove 19 = .ok (.astore_n 3, 1) := by decide +kernel
theorem dL_remove_20 : decode cL_remove 20 = .ok (.iconst 1, 1) := by decide +kernel
theorem dL_remove_21 : decode cL_remove 21 = .ok (.ireturn, 1) := by decide +kernel
theorem dL_remove_22 : decode cL_remove 22 = .ok (.astore_n 3, 1) := by decide +kernel
theorem dL_remove_23 : decode cL_remove 23 = .ok (.iconst 2, 1) := by decide +kernel
theorem dL_remove_24 : decode cL_remove 24 = .ok (.ireturn, 1) := by decide +kernel
theorem dL_remove_25 : decode cL_remove 25 = .ok (.iconst 0, 1) := by decide +kernel
theorem dL_remove_26 : decode cL_remove 26 = .ok (.ireturn, 1) := by decide +kernel
set_option maxRecDepth 20000 in
theorem ggL_release_X5_release : GoodIn wsL_release wsX5_release := goodIn_ca (goodIn_ca (goodIn_ca (goodIn_r _ [8, 9, 10, 11, 12, 13, 14, 15, 16, 17, 18, 19, 20, 7, 21, 22, 23, 24, 25, 26, 27, 28, 29, 30, 31, 32, 33, 34, 35, 36, 37, 38, 39, 40, 41, 42, 43, 44, 45, 46, 47, 48, 49, 50, 51, 52, 53, 54, 55, 56, 57, 58, 59, 60, 61, 62, 63, 64, 65, 66, 67, 68, 69, 70, 71, 72, 73, 74, 75, 76, 77, 78, 79, 80, 81, 82, 83, 84, 85, 86, 87, 88, 89, 90] (by decide +kernel) (by decide +kernel)) (goodIn_sub (fun _ h => List.mem_cons_of_mem _ (List.mem_append_left _ (List.mem_append_left _ (List.mem_append_right _ h)))) (by decide +kernel))) (goodIn_sub (fun _ h => List.mem_cons_of_mem _ (List.mem_append_left _ (List.mem_append_right _ h))) (by decide +kernel))) (goodIn_sub (fun _ h => List.mem_cons_of_mem _ (List.mem_append_right _ h)) (by decide +kernel))
set_option maxRecDepth 20000 in
theorem gL_release_X5_release : GoodIn wsL_release (wsV RL 23 RX5 yX5_release wsX5_release) := goodIn_app (goodIn_of _ (by decide +kernel)) ggL_release_X5_release
theorem dL_release_0 : decode cL_release 0 = .ok (.aload_n 3, 1) := by decide +kernel
theorem dL_release_1 : decode cL_release 1 = .ok (.iconst 0, 1) := by decide +kernel
theorem dL_release_2 : decode cL_release 2 = .ok (.aload_n 0, 1) := by decide +kernel
theorem dL_release_3 : decode cL_release 3 = .ok (.iload_n 1, 1) := by decide +kernel
theorem dL_release_4 : decode cL_release 4 = .ok (.iload_n 2, 1) := by decide +kernel
theorem dL_release_5 : decode cL_release 5 = .ok (.invokevirtual 23, 3) := by decide +kernel
theorem dL_release_8 : decode cL_release 8 = .ok (.i2l, 1) := by decide +kernel
theorem dL_release_9 : decode cL_release 9 = .ok (.lastore, 1) := by decide +kernel
theorem dL_release_10 : decode cL_release 10 = .ok (.goto 15, 3) := by decide +kernel
theorem dL_release_13 : decode cL_release 13 = .ok (.astore 4, 2) := by decide +kernel
theorem dL_release_15 : decode cL_release 15 = .ok (.iconst 1, 1) := by decide +kernel
theorem dL_release_16 : decode cL_release 16 = .ok (.ireturn, 1) := by decide +kernel
theorem dL_release_17 : decode cL_release 17 = .ok (.astore 4, 2) := by decide +kernel
theorem dL_release_19 : decode cL_release 19 = .ok (.iconst 2, 1) := by decide +kernel
theorem dL_release_20 : decode cL_release 20 = .ok (.ireturn, 1) := by decide +kernel
theorem dL_release_21 : decode cL_release 21 = .ok (.astore 4, 2) := by decide +kernel
theorem dL_release_23 : decode cL_release 23 = .ok (.iconst 3, 1) := by decide +kernel
theorem dL_release_24 : decode cL_release 24 = .ok (.ireturn, 1) := by decide +kernel
theorem dL_release_25 : decode cL_release 25 = .ok (.iconst 0, 1) := by decide +kernel
theorem dL_release_26 : decode cL_release 26 = .ok (.ireturn, 1) := by decide +kernel
set_option maxRecDepth 20000 in
theorem ggL_run_X5_run : GoodIn wsL_run wsX5_run := goodIn_ca (goodIn_r _ [6, 7, 8, 9, 10, 11, 5, 12, 13, 14, 15, 16, 17, 18, 19, 20, 21, 22, 23, 24, 25, 26, 27, 28, 29, 30, 31, 32, 33, 34, 35, 36, 37, 38, 39, 40, 41, 42, 43, 44, 45, 46, 47, 48, 49, 50, 51, 52, 53, 54, 55, 56, 57, 58, 59, 60, 61, 62, 63, 64, 65, 66, 67, 68, 69, 70, 71, 72, 73, 74, 75, 76, 77, 78, 79, 80, 81, 82, 83, 84, 85, 86, 87, 88, 89, 90, 91, 92, 93, 94, 95, 96, 97, 98, 99, 100, 101, 102, 103, 104, 105, 106, 107, 108, 109, 110, 111, 112, 113, 114, 115, 116, 117, 118, 119, 120, 121, 122, 123, 124, 125, 126, 127, 128, 129, 130, 131, 132, 133, 134, 135, 136, 137] (by decide +kernel) (by decide +kernel)) (goodIn_sub (fun _ h => List.mem_cons_of_mem _ (List.mem_append_right _ h)) (by decide +kernel))
set_option maxRecDepth 20000 in
theorem gL_run_X5_run : GoodIn wsL_run (wsV RL 27 RX5 yX5_run wsX5_run) := goodIn_app (goodIn_of _ (by decide +kernel)) ggL_run_X5_run
theorem dL_run_0 : decode cL_run 0 = .ok (.aload_n 2, 1) := by decide +kernel
theorem dL_run_1 : decode cL_run 1 = .ok (.iconst 0, 1) := by decide +kernel
theorem dL_run_2 : decode cL_run 2 = .ok (.aload_n 0, 1) := by decide +kernel
theorem dL_run_3 : decode cL_run 3 = .ok (.iload_n 1, 1) := by decide +kernel
theorem dL_run_4 : decode cL_run 4 = .ok (.invokevirtual 27, 3) := by decide +kernel
theorem dL_run_7 : decode cL_run 7 = .ok (.i2l, 1) := by decide +kernel
theorem dL_run_8 : decode cL_run 8 = .ok (.lastore, 1) := by decide +kernel
theorem dL_run_9 : decode cL_run 9 = .ok (.goto 6, 3) := by decide +kernel
theorem dL_run_12 : decode cL_run 12 = .ok (.astore_n 3, 1) := by decide +kernel
theorem dL_run_13 : decode cL_run 13 = .ok (.iconst 1, 1) := by decide +kernel
theorem dL_run_14 : decode cL_run 14 = .ok (.ireturn, 1) := by decide +kernel
theorem dL_run_15 : decode cL_run 15 = .ok (.iconst 0, 1) := by decide +kernel
theorem dL_run_16 : decode cL_run 16 = .ok (.ireturn, 1) := by decide +kernel
set_option maxRecDepth 20000 in
theorem ggL_response_X5_response : GoodIn wsL_response wsX5_response := goodIn_ca (goodIn_ca (goodIn_r _ [7, 8, 9, 10, 11, 12, 13, 14, 15, 16, 17, 18, 19, 20, 21, 22, 23, 24, 25, 26, 27, 28, 29, 30, 31, 32, 33, 34, 35, 6, 36, 37, 38, 39, 40, 41, 42, 43, 44, 45, 46, 47, 48, 49, 50, 51, 52, 53, 54, 55, 56, 57, 58, 59, 60, 61, 62, 63, 64, 65, 66, 67, 68, 69, 70, 71, 72, 73, 74, 75, 76, 77, 78, 79, 80, 81] (by decide +kernel) (by decide +kernel)) (goodIn_sub (fun _ h => List.mem_cons_of_mem _ (List.mem_append_left _ (List.mem_append_right _ h))) (by decide +kernel))) (goodIn_sub (fun _ h => List.mem_cons_of_mem _ (List.mem_append_right _ h)) (by decide +kernel))
set_option maxRecDepth 20000 in
theorem gL_response_X5_response : GoodIn wsL_response (wsV RL 31 RX5 yX5_response wsX5_response) := goodIn_app (goodIn_of _ (by decide +kernel)) ggL_response_X5_response
theorem dL_response_0 : decode cL_response 0 = .ok (.aload_n 3, 1) := by decide +kernel
theorem dL_response_1 : decode cL_response 1 = .ok (.iconst 0, 1) := by decide +kernel
theorem dL_response_2 : decode cL_response 2 = .ok (.aload_n 0, 1) := by decide +kernel
theorem dL_response_3 : decode cL_response 3 = .ok (.iload_n 1, 1) := by decide +kernel
theorem dL_response_4 : decode cL_response 4 = .ok (.iload_n 2, 1) := by decide +kernel
theorem dL_response_5 : decode cL_response 5 = .ok (.invokevirtual 31, 3) := by decide +kernel
theorem dL_response_8 : decode cL_response 8 = .ok (.i2l, 1) := by decide +kernel
theorem dL_response_9 : decode cL_response 9 = .ok (.lastore, 1) := by decide +kernel
theorem dL_response_10 : decode cL_response 10 = .ok (.goto 11, 3) := by decide +kernel
theorem dL_response_13 : decode cL_response 13 = .ok (.astore 4, 2) := by decide +kernel
theorem dL_response_15 : decode cL_response 15 = .ok (.iconst 1, 1) := by decide +kernel
theorem dL_response_16 : decode cL_response 16 = .ok (.ireturn, 1) := by decide +kernel
theorem dL_response_17 : decode cL_response 17 = .ok (.astore 4, 2) := by decide +kernel
theorem dL_response_19 : decode cL_response 19 = .ok (.iconst 2, 1) := by decide +kernel
theorem dL_response_20 : decode cL_response 20 = .ok (.ireturn, 1) := by decide +kernel
theorem dL_response_21 : decode cL_response 21 = .ok (.iconst 0, 1) := by decide +kernel
theorem dL_response_22 : decode cL_response 22 = .ok (.ireturn, 1) := by decide +kernel
set_option maxRecDepth 20000 in
theorem ggL_ended_X5_ended : GoodIn wsL_ended wsX5_ended := goodIn_ca (goodIn_r _ [6, 7, 8, 9, 10, 11, 12, 5, 13, 14, 15, 16, 17, 18, 19, 20, 21, 22, 23, 24, 25, 26, 27, 28, 29, 30, 31, 32, 33, 34, 35, 36, 37, 38, 39, 40, 41, 42, 43, 44, 45, 46, 47, 48, 49, 50, 51, 52, 53, 54, 55, 56, 57, 58, 59, 60, 61, 62, 63] (by decide +kernel) (by decide +kernel)) (goodIn_sub (fun _ h => List.mem_cons_of_mem _ (List.mem_append_right _ h)) (by decide +kernel))
set_option maxRecDepth 20000 in
theorem gL_ended_X5_ended : GoodIn wsL_ended (wsV RL 34 RX5 yX5_ended wsX5_ended) := goodIn_app (goodIn_of _ (by decide +kernel)) ggL_ended_X5_ended
theorem dL_ended_0 : decode cL_ended 0 = .ok (.aload_n 3, 1) := by decide +kernel
theorem dL_ended_1 : decode cL_ended 1 = .ok (.iconst 0, 1) := by decide +kernel
theorem dL_ended_2 : decode cL_ended 2 = .ok (.aload_n 0, 1) := by decide +kernel
theorem dL_ended_3 : decode cL_ended 3 = .ok (.iload_n 1, 1) := by decide +kernel
theorem dL_ended_4 : decode cL_ended 4 = .ok (.iload_n 2, 1) := by decide +kernel
theorem dL_ended_5 : decode cL_ended 5 = .ok (.invokevirtual 34, 3) := by decide +kernel
theorem dL_ended_8 : decode cL_ended 8 = .ok (.i2l, 1) := by decide +kernel
theorem dL_ended_9 : decode cL_ended 9 = .ok (.lastore, 1) := by decide +kernel
theorem dL_ended_10 : decode cL_ended 10 = .ok (.goto 7, 3) := by decide +kernel
theorem dL_ended_13 : decode cL_ended 13 = .ok (.astore 4, 2) := by decide +kernel
theorem dL_ended_15 : decode cL_ended 15 = .ok (.iconst 1, 1) := by decide +kernel
theorem dL_ended_16 : decode cL_ended 16 = .ok (.ireturn, 1) := by decide +kernel
theorem dL_ended_17 : decode cL_ended 17 = .ok (.iconst 0, 1) := by decide +kernel
theorem dL_ended_18 : decode cL_ended 18 = .ok (.ireturn, 1) := by decide +kernel
set_option maxRecDepth 20000 in
theorem ggL_about_X5_about : GoodIn wsL_about wsX5_about := goodIn_ca (goodIn_ca (goodIn_r _ [7, 8, 9, 10, 11, 12, 13, 14, 15, 16, 17, 18, 6, 19, 20, 21, 22, 23, 24, 25, 26, 27, 28, 29, 30, 31, 32, 33, 34, 35, 36, 37, 38, 39, 40, 41, 42, 43, 44, 45, 46, 47, 48, 49, 50, 51, 52, 53, 54, 55, 56, 57, 58, 59, 60, 61, 62, 63, 64, 65, 66, 67, 68, 69, 70, 71, 72, 73, 74, 75, 76, 77, 78, 79, 80] (by decide +kernel) (by decide +kernel)) (goodIn_sub (fun _ h => List.mem_cons_of_mem _ (List.mem_append_left _ (List.mem_append_right _ h))) (by decide +kernel))) (goodIn_sub (fun _ h => List.mem_cons_of_mem _ (List.mem_append_right _ h)) (by decide +kernel))
set_option maxRecDepth 20000 in
theorem gL_about_X5_about : GoodIn wsL_about (wsV RL 37 RX5 yX5_about wsX5_about) := goodIn_app (goodIn_of _ (by decide +kernel)) ggL_about_X5_about
theorem dL_about_0 : decode cL_about 0 = .ok (.aload_n 3, 1) := by decide +kernel
theorem dL_about_1 : decode cL_about 1 = .ok (.iconst 0, 1) := by decide +kernel
theorem dL_about_2 : decode cL_about 2 = .ok (.aload_n 0, 1) := by decide +kernel
theorem dL_about_3 : decode cL_about 3 = .ok (.iload_n 1, 1) := by decide +kernel
theorem dL_about_4 : decode cL_about 4 = .ok (.iload_n 2, 1) := by decide +kernel
theorem dL_about_5 : decode cL_about 5 = .ok (.invokevirtual 37, 3) := by decide +kernel
theorem dL_about_8 : decode cL_about 8 = .ok (.i2l, 1) := by decide +kernel
theorem dL_about_9 : decode cL_about 9 = .ok (.lastore, 1) := by decide +kernel
theorem dL_about_10 : decode cL_about 10 = .ok (.goto 11, 3) := by decide +kernel
theorem dL_about_13 : decode cL_about 13 = .ok (.astore 4, 2) := by decide +kernel
theorem dL_about_15 : decode cL_about 15 = .ok (.iconst 1, 1) := by decide +kernel
theorem dL_about_16 : decode cL_about 16 = .ok (.ireturn, 1) := by decide +kernel
theorem dL_about_17 : decode cL_about 17 = .ok (.astore 4, 2) := by decide +kernel
theorem dL_about_19 : decode cL_about 19 = .ok (.iconst 2, 1) := by decide +kernel
theorem dL_about_20 : decode cL_about 20 = .ok (.ireturn, 1) := by decide +kernel
theorem dL_about_21 : decode cL_about 21 = .ok (.iconst 0, 1) := by decide +kernel
theorem dL_about_22 : decode cL_about 22 = .ok (.ireturn, 1) := by decide +kernel
set_option maxRecDepth 20000 in
theorem ggL_witness_X5_witness : GoodIn wsL_witness wsX5_witness := goodIn_ca (goodIn_ca (goodIn_r _ [7, 8, 9, 10, 11, 12, 13, 14, 15, 16, 17, 18, 19, 20, 21, 22, 23, 24, 25, 6, 26, 27, 28, 29, 30, 31, 32, 33, 34, 35, 36, 37, 38, 39, 40, 41, 42, 43, 44, 45, 46, 47, 48, 49, 50, 51, 52, 53, 54, 55, 56] (by decide +kernel) (by decide +kernel)) (goodIn_sub (fun _ h => List.mem_cons_of_mem _ (List.mem_append_left _ (List.mem_append_right _ h))) (by decide +kernel))) (goodIn_sub (fun _ h => List.mem_cons_of_mem _ (List.mem_append_right _ h)) (by decide +kernel))
set_option maxRecDepth 20000 in
theorem gL_witness_X5_witness : GoodIn wsL_witness (wsV RL 40 RX5 yX5_witness wsX5_witness) := goodIn_app (goodIn_of _ (by decide +kernel)) ggL_witness_X5_witness
theorem dL_witness_0 : decode cL_witness 0 = .ok (.aload_n 3, 1) := by decide +kernel
theorem dL_witness_1 : decode cL_witness 1 = .ok (.iconst 0, 1) := by decide +kernel
theorem dL_witness_2 : decode cL_witness 2 = .ok (.aload_n 0, 1) := by decide +kernel
theorem dL_witness_3 : decode cL_witness 3 = .ok (.iload_n 1, 1) := by decide +kernel
theorem dL_witness_4 : decode cL_witness 4 = .ok (.iload_n 2, 1) := by decide +kernel
theorem dL_witness_5 : decode cL_witness 5 = .ok (.invokevirtual 40, 3) := by decide +kernel
theorem dL_witness_8 : decode cL_witness 8 = .ok (.i2l, 1) := by decide +kernel
theorem dL_witness_9 : decode cL_witness 9 = .ok (.lastore, 1) := by decide +kernel
theorem dL_witness_10 : decode cL_witness 10 = .ok (.goto 11, 3) := by decide +kernel
theorem dL_witness_13 : decode cL_witness 13 = .ok (.astore 4, 2) := by decide +kernel
theorem dL_witness_15 : decode cL_witness 15 = .ok (.iconst 1, 1) := by decide +kernel
theorem dL_witness_16 : decode cL_witness 16 = .ok (.ireturn, 1) := by decide +kernel
theorem dL_witness_17 : decode cL_witness 17 = .ok (.astore 4, 2) := by decide +kernel
theorem dL_witness_19 : decode cL_witness 19 = .ok (.iconst 2, 1) := by decide +kernel
theorem dL_witness_20 : decode cL_witness 20 = .ok (.ireturn, 1) := by decide +kernel
theorem dL_witness_21 : decode cL_witness 21 = .ok (.iconst 0, 1) := by decide +kernel
theorem dL_witness_22 : decode cL_witness 22 = .ok (.ireturn, 1) := by decide +kernel
set_option maxRecDepth 20000 in
theorem ggL_trace_X5_trace : GoodIn wsL_trace wsX5_trace := goodIn_ca (goodIn_r _ [6, 7, 8, 9, 10, 11, 12, 13, 14, 15, 16, 17, 18, 19, 20, 21, 22, 23, 24, 25, 26, 27, 28, 29, 30, 31, 32, 33, 34, 35, 36, 37, 38, 39] (by decide +kernel) (by decide +kernel)) (goodIn_sub (fun _ h => List.mem_cons_of_mem _ (List.mem_append_right _ h)) (by decide +kernel))
set_option maxRecDepth 20000 in
theorem gL_trace_X5_trace : GoodIn wsL_trace (wsV RL 43 RX5 yX5_trace wsX5_trace) := goodIn_app (goodIn_of _ (by decide +kernel)) ggL_trace_X5_trace
theorem dL_trace_0 : decode cL_trace 0 = .ok (.aload_n 2, 1) := by decide +kernel
