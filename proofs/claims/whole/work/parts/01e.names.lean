theorem dX6_bound_130 : decode cX6_bound 130 = .ok (.iload 4, 2) := by decide +kernel
theorem dX6_bound_132 : decode cX6_bound 132 = .ok (.aload_n 0, 1) := by decide +kernel
theorem dX6_bound_133 : decode cX6_bound 133 = .ok (.getfield 16, 3) := by decide +kernel
theorem dX6_bound_136 : decode cX6_bound 136 = .ok (.iload 6, 2) := by decide +kernel
theorem dX6_bound_138 : decode cX6_bound 138 = .ok (.iaload, 1) := by decide +kernel
theorem dX6_bound_139 : decode cX6_bound 139 = .ok (.invokestatic 87, 3) := by decide +kernel
theorem dX6_bound_142 : decode cX6_bound 142 = .ok (.aload_n 0, 1) := by decide +kernel
theorem dX6_bound_143 : decode cX6_bound 143 = .ok (.getfield 26, 3) := by decide +kernel
theorem dX6_bound_146 : decode cX6_bound 146 = .ok (.iload 6, 2) := by decide +kernel
theorem dX6_bound_148 : decode cX6_bound 148 = .ok (.iaload, 1) := by decide +kernel
theorem dX6_bound_149 : decode cX6_bound 149 = .ok (.imul, 1) := by decide +kernel
theorem dX6_bound_150 : decode cX6_bound 150 = .ok (.iadd, 1) := by decide +kernel
theorem dX6_bound_151 : decode cX6_bound 151 = .ok (.goto 5, 3) := by decide +kernel
theorem dX6_bound_154 : decode cX6_bound 154 = .ok (.iload 5, 2) := by decide +kernel
theorem dX6_bound_156 : decode cX6_bound 156 = .ok (.istore 5, 2) := by decide +kernel
theorem dX6_bound_158 : decode cX6_bound 158 = .ok (.iinc 6 1, 3) := by decide +kernel
theorem dX6_bound_161 : decode cX6_bound 161 = .ok (.goto (-66), 3) := by decide +kernel
theorem dX6_bound_164 : decode cX6_bound 164 = .ok (.iload 5, 2) := by decide +kernel
theorem dX6_bound_166 : decode cX6_bound 166 = .ok (.iload 4, 2) := by decide +kernel
theorem dX6_bound_168 : decode cX6_bound 168 = .ok (.if_icmp .gt 6, 3) := by decide +kernel
theorem dX6_bound_171 : decode cX6_bound 171 = .ok (.iload 4, 2) := by decide +kernel
theorem dX6_bound_173 : decode cX6_bound 173 = .ok (.ireturn, 1) := by decide +kernel
theorem dX6_bound_174 : decode cX6_bound 174 = .ok (.iinc 4 1, 3) := by decide +kernel
theorem dX6_bound_177 : decode cX6_bound 177 = .ok (.goto (-99), 3) := by decide +kernel
theorem dX6_bound_180 : decode cX6_bound 180 = .ok (.iconst 0, 1) := by decide +kernel
theorem dX6_bound_181 : decode cX6_bound 181 = .ok (.ireturn, 1) := by decide +kernel
theorem dX6_markAhead_0 : decode cX6_markAhead 0 = .ok (.iconst 1, 1) := by decide +kernel
theorem dX6_markAhead_1 : decode cX6_markAhead 1 = .ok (.istore_n 2, 1) := by decide +kernel
theorem dX6_markAhead_2 : decode cX6_markAhead 2 = .ok (.iload_n 2, 1) := by decide +kernel
theorem dX6_markAhead_3 : decode cX6_markAhead 3 = .ok (.bipush 13, 2) := by decide +kernel
theorem dX6_markAhead_5 : decode cX6_markAhead 5 = .ok (.if_icmp .ge 16, 3) := by decide +kernel
theorem dX6_markAhead_8 : decode cX6_markAhead 8 = .ok (.aload_n 0, 1) := by decide +kernel
theorem dX6_markAhead_9 : decode cX6_markAhead 9 = .ok (.getfield 80, 3) := by decide +kernel
theorem dX6_markAhead_12 : decode cX6_markAhead 12 = .ok (.iload_n 2, 1) := by decide +kernel
theorem dX6_markAhead_13 : decode cX6_markAhead 13 = .ok (.iconst 0, 1) := by decide +kernel
theorem dX6_markAhead_14 : decode cX6_markAhead 14 = .ok (.bastore, 1) := by decide +kernel
theorem dX6_markAhead_15 : decode cX6_markAhead 15 = .ok (.iinc 2 1, 3) := by decide +kernel
theorem dX6_markAhead_18 : decode cX6_markAhead 18 = .ok (.goto (-16), 3) := by decide +kernel
theorem dX6_markAhead_21 : decode cX6_markAhead 21 = .ok (.iconst 0, 1) := by decide +kernel
theorem dX6_markAhead_22 : decode cX6_markAhead 22 = .ok (.istore_n 2, 1) := by decide +kernel
theorem dX6_markAhead_23 : decode cX6_markAhead 23 = .ok (.iload_n 2, 1) := by decide +kernel
theorem dX6_markAhead_24 : decode cX6_markAhead 24 = .ok (.iload_n 1, 1) := by decide +kernel
theorem dX6_markAhead_25 : decode cX6_markAhead 25 = .ok (.if_icmp .ge 21, 3) := by decide +kernel
theorem dX6_markAhead_28 : decode cX6_markAhead 28 = .ok (.aload_n 0, 1) := by decide +kernel
theorem dX6_markAhead_29 : decode cX6_markAhead 29 = .ok (.getfield 80, 3) := by decide +kernel
theorem dX6_markAhead_32 : decode cX6_markAhead 32 = .ok (.aload_n 0, 1) := by decide +kernel
theorem dX6_markAhead_33 : decode cX6_markAhead 33 = .ok (.getfield 29, 3) := by decide +kernel
theorem dX6_markAhead_36 : decode cX6_markAhead 36 = .ok (.iload_n 2, 1) := by decide +kernel
theorem dX6_markAhead_37 : decode cX6_markAhead 37 = .ok (.iaload, 1) := by decide +kernel
theorem dX6_markAhead_38 : decode cX6_markAhead 38 = .ok (.iconst 1, 1) := by decide +kernel
theorem dX6_markAhead_39 : decode cX6_markAhead 39 = .ok (.bastore, 1) := by decide +kernel
theorem dX6_markAhead_40 : decode cX6_markAhead 40 = .ok (.iinc 2 1, 3) := by decide +kernel
theorem dX6_markAhead_43 : decode cX6_markAhead 43 = .ok (.goto (-20), 3) := by decide +kernel
theorem dX6_markAhead_46 : decode cX6_markAhead 46 = .ok (.return_, 1) := by decide +kernel
set_option maxRecDepth 20000 in
theorem ggX6_unfit_X6_markAhead : GoodIn wsX6_unfit wsX6_markAhead := goodIn_r _ [9, 10, 3, 25, 26, 27, 28, 29, 30, 31, 32, 33, 34, 35, 36, 37, 38, 39, 40, 41, 42, 43, 44, 45, 46, 47, 48, 49, 50, 51, 52, 53, 54, 55, 56, 57, 58, 59] (by decide +kernel) (by decide +kernel)
set_option maxRecDepth 20000 in
theorem gX6_unfit_X6_markAhead : GoodIn wsX6_unfit (wsV RX6 94 RX6 yX6_markAhead wsX6_markAhead) := goodIn_app (goodIn_of _ (by decide +kernel)) ggX6_unfit_X6_markAhead
set_option maxRecDepth 20000 in
theorem ggX6_unfit_X6_lowResponse : GoodIn wsX6_unfit wsX6_lowResponse := goodIn_r _ [14, 15, 16, 10, 17, 18, 19, 8, 20, 25, 26, 27, 28, 29, 30, 31, 32, 33, 34, 35, 36, 37, 38, 39, 40, 41, 42, 43, 44, 45, 46, 47, 48, 49, 50, 51, 52, 53, 54, 55, 56, 57, 58, 59] (by decide +kernel) (by decide +kernel)
set_option maxRecDepth 20000 in
theorem gX6_unfit_X6_lowResponse : GoodIn wsX6_unfit (wsV RX6 98 RX6 yX6_lowResponse wsX6_lowResponse) := goodIn_app (goodIn_of _ (by decide +kernel)) ggX6_unfit_X6_lowResponse
set_option maxRecDepth 20000 in
theorem ggX6_unfit_X6_bound : GoodIn wsX6_unfit wsX6_bound := goodIn_r _ [24, 4, 10, 17, 16, 15, 18, 19, 8, 20, 25, 26, 27, 28, 29, 30, 31, 32, 33, 34, 35, 36, 37, 38, 39, 40, 41, 42, 43, 44, 45, 46, 47, 48, 49, 50, 51, 52, 53, 54, 55, 56, 57, 58, 59] (by decide +kernel) (by decide +kernel)
set_option maxRecDepth 20000 in
theorem gX6_unfit_X6_bound : GoodIn wsX6_unfit (wsV RX6 102 RX6 yX6_bound wsX6_bound) := goodIn_app (goodIn_of _ (by decide +kernel)) ggX6_unfit_X6_bound
theorem dX6_unfit_0 : decode cX6_unfit 0 = .ok (.iconst 0, 1) := by decide +kernel
theorem dX6_unfit_1 : decode cX6_unfit 1 = .ok (.istore_n 1, 1) := by decide +kernel
theorem dX6_unfit_2 : decode cX6_unfit 2 = .ok (.iload_n 1, 1) := by decide +kernel
theorem dX6_unfit_3 : decode cX6_unfit 3 = .ok (.aload_n 0, 1) := by decide +kernel
theorem dX6_unfit_4 : decode cX6_unfit 4 = .ok (.getfield 91, 3) := by decide +kernel
theorem dX6_unfit_7 : decode cX6_unfit 7 = .ok (.if_icmp .ge 56, 3) := by decide +kernel
theorem dX6_unfit_10 : decode cX6_unfit 10 = .ok (.aload_n 0, 1) := by decide +kernel
theorem dX6_unfit_11 : decode cX6_unfit 11 = .ok (.iload_n 1, 1) := by decide +kernel
theorem dX6_unfit_12 : decode cX6_unfit 12 = .ok (.invokevirtual 94, 3) := by decide +kernel
theorem dX6_unfit_15 : decode cX6_unfit 15 = .ok (.aload_n 0, 1) := by decide +kernel
theorem dX6_unfit_16 : decode cX6_unfit 16 = .ok (.getfield 35, 3) := by decide +kernel
theorem dX6_unfit_19 : decode cX6_unfit 19 = .ok (.aload_n 0, 1) := by decide +kernel
theorem dX6_unfit_20 : decode cX6_unfit 20 = .ok (.getfield 29, 3) := by decide +kernel
theorem dX6_unfit_23 : decode cX6_unfit 23 = .ok (.iload_n 1, 1) := by decide +kernel
theorem dX6_unfit_24 : decode cX6_unfit 24 = .ok (.iaload, 1) := by decide +kernel
theorem dX6_unfit_25 : decode cX6_unfit 25 = .ok (.aload_n 0, 1) := by decide +kernel
theorem dX6_unfit_26 : decode cX6_unfit 26 = .ok (.aload_n 0, 1) := by decide +kernel
theorem dX6_unfit_27 : decode cX6_unfit 27 = .ok (.getfield 29, 3) := by decide +kernel
theorem dX6_unfit_30 : decode cX6_unfit 30 = .ok (.iload_n 1, 1) := by decide +kernel
theorem dX6_unfit_31 : decode cX6_unfit 31 = .ok (.iaload, 1) := by decide +kernel
theorem dX6_unfit_32 : decode cX6_unfit 32 = .ok (.invokevirtual 98, 3) := by decide +kernel
theorem dX6_unfit_35 : decode cX6_unfit 35 = .ok (.iastore, 1) := by decide +kernel
theorem dX6_unfit_36 : decode cX6_unfit 36 = .ok (.aload_n 0, 1) := by decide +kernel
theorem dX6_unfit_37 : decode cX6_unfit 37 = .ok (.getfield 35, 3) := by decide +kernel
theorem dX6_unfit_40 : decode cX6_unfit 40 = .ok (.aload_n 0, 1) := by decide +kernel
theorem dX6_unfit_41 : decode cX6_unfit 41 = .ok (.getfield 29, 3) := by decide +kernel
theorem dX6_unfit_44 : decode cX6_unfit 44 = .ok (.iload_n 1, 1) := by decide +kernel
theorem dX6_unfit_45 : decode cX6_unfit 45 = .ok (.iaload, 1) := by decide +kernel
theorem dX6_unfit_46 : decode cX6_unfit 46 = .ok (.iaload, 1) := by decide +kernel
theorem dX6_unfit_47 : decode cX6_unfit 47 = .ok (.ifCond .ne 10, 3) := by decide +kernel
theorem dX6_unfit_50 : decode cX6_unfit 50 = .ok (.aload_n 0, 1) := by decide +kernel
theorem dX6_unfit_51 : decode cX6_unfit 51 = .ok (.getfield 29, 3) := by decide +kernel
theorem dX6_unfit_54 : decode cX6_unfit 54 = .ok (.iload_n 1, 1) := by decide +kernel
theorem dX6_unfit_55 : decode cX6_unfit 55 = .ok (.iaload, 1) := by decide +kernel
theorem dX6_unfit_56 : decode cX6_unfit 56 = .ok (.ireturn, 1) := by decide +kernel
theorem dX6_unfit_57 : decode cX6_unfit 57 = .ok (.iinc 1 1, 3) := by decide +kernel
theorem dX6_unfit_60 : decode cX6_unfit 60 = .ok (.goto (-58), 3) := by decide +kernel
theorem dX6_unfit_63 : decode cX6_unfit 63 = .ok (.iconst 0, 1) := by decide +kernel
theorem dX6_unfit_64 : decode cX6_unfit 64 = .ok (.istore_n 1, 1) := by decide +kernel
theorem dX6_unfit_65 : decode cX6_unfit 65 = .ok (.iload_n 1, 1) := by decide +kernel
theorem dX6_unfit_66 : decode cX6_unfit 66 = .ok (.aload_n 0, 1) := by decide +kernel
theorem dX6_unfit_67 : decode cX6_unfit 67 = .ok (.getfield 91, 3) := by decide +kernel
theorem dX6_unfit_70 : decode cX6_unfit 70 = .ok (.if_icmp .ge 61, 3) := by decide +kernel
theorem dX6_unfit_73 : decode cX6_unfit 73 = .ok (.aload_n 0, 1) := by decide +kernel
theorem dX6_unfit_74 : decode cX6_unfit 74 = .ok (.iload_n 1, 1) := by decide +kernel
theorem dX6_unfit_75 : decode cX6_unfit 75 = .ok (.invokevirtual 94, 3) := by decide +kernel
theorem dX6_unfit_78 : decode cX6_unfit 78 = .ok (.aload_n 0, 1) := by decide +kernel
theorem dX6_unfit_79 : decode cX6_unfit 79 = .ok (.getfield 26, 3) := by decide +kernel
theorem dX6_unfit_82 : decode cX6_unfit 82 = .ok (.aload_n 0, 1) := by decide +kernel
theorem dX6_unfit_83 : decode cX6_unfit 83 = .ok (.getfield 29, 3) := by decide +kernel
theorem dX6_unfit_86 : decode cX6_unfit 86 = .ok (.iload_n 1, 1) := by decide +kernel
theorem dX6_unfit_87 : decode cX6_unfit 87 = .ok (.iaload, 1) := by decide +kernel
theorem dX6_unfit_88 : decode cX6_unfit 88 = .ok (.iaload, 1) := by decide +kernel
theorem dX6_unfit_89 : decode cX6_unfit 89 = .ok (.ifCond .le 36, 3) := by decide +kernel
theorem dX6_unfit_92 : decode cX6_unfit 92 = .ok (.aload_n 0, 1) := by decide +kernel
theorem dX6_unfit_93 : decode cX6_unfit 93 = .ok (.aload_n 0, 1) := by decide +kernel
theorem dX6_unfit_94 : decode cX6_unfit 94 = .ok (.getfield 29, 3) := by decide +kernel
theorem dX6_unfit_97 : decode cX6_unfit 97 = .ok (.iload_n 1, 1) := by decide +kernel
theorem dX6_unfit_98 : decode cX6_unfit 98 = .ok (.iaload, 1) := by decide +kernel
theorem dX6_unfit_99 : decode cX6_unfit 99 = .ok (.aload_n 0, 1) := by decide +kernel
theorem dX6_unfit_100 : decode cX6_unfit 100 = .ok (.getfield 35, 3) := by decide +kernel
theorem dX6_unfit_103 : decode cX6_unfit 103 = .ok (.aload_n 0, 1) := by decide +kernel
theorem dX6_unfit_104 : decode cX6_unfit 104 = .ok (.getfield 29, 3) := by decide +kernel
theorem dX6_unfit_107 : decode cX6_unfit 107 = .ok (.iload_n 1, 1) := by decide +kernel
theorem dX6_unfit_108 : decode cX6_unfit 108 = .ok (.iaload, 1) := by decide +kernel
theorem dX6_unfit_109 : decode cX6_unfit 109 = .ok (.iaload, 1) := by decide +kernel
theorem dX6_unfit_110 : decode cX6_unfit 110 = .ok (.invokevirtual 102, 3) := by decide +kernel
theorem dX6_unfit_113 : decode cX6_unfit 113 = .ok (.ifCond .ne 12, 3) := by decide +kernel
theorem dX6_unfit_116 : decode cX6_unfit 116 = .ok (.iconst 0, 1) := by decide +kernel
theorem dX6_unfit_117 : decode cX6_unfit 117 = .ok (.aload_n 0, 1) := by decide +kernel
theorem dX6_unfit_118 : decode cX6_unfit 118 = .ok (.getfield 29, 3) := by decide +kernel
theorem dX6_unfit_121 : decode cX6_unfit 121 = .ok (.iload_n 1, 1) := by decide +kernel
theorem dX6_unfit_122 : decode cX6_unfit 122 = .ok (.iaload, 1) := by decide +kernel
theorem dX6_unfit_123 : decode cX6_unfit 123 = .ok (.isub, 1) := by decide +kernel
theorem dX6_unfit_124 : decode cX6_unfit 124 = .ok (.ireturn, 1) := by decide +kernel
theorem dX6_unfit_125 : decode cX6_unfit 125 = .ok (.iinc 1 1, 3) := by decide +kernel
theorem dX6_unfit_128 : decode cX6_unfit 128 = .ok (.goto (-63), 3) := by decide +kernel
theorem dX6_unfit_131 : decode cX6_unfit 131 = .ok (.iconst 0, 1) := by decide +kernel
theorem dX6_unfit_132 : decode cX6_unfit 132 = .ok (.ireturn, 1) := by decide +kernel
theorem dX6_takeOut_0 : decode cX6_takeOut 0 = .ok (.iconst 0, 1) := by decide +kernel
theorem dX6_takeOut_1 : decode cX6_takeOut 1 = .ok (.istore_n 2, 1) := by decide +kernel
theorem dX6_takeOut_2 : decode cX6_takeOut 2 = .ok (.iconst 0, 1) := by decide +kernel
theorem dX6_takeOut_3 : decode cX6_takeOut 3 = .ok (.istore_n 3, 1) := by decide +kernel
theorem dX6_takeOut_4 : decode cX6_takeOut 4 = .ok (.iload_n 3, 1) := by decide +kernel
theorem dX6_takeOut_5 : decode cX6_takeOut 5 = .ok (.aload_n 0, 1) := by decide +kernel
theorem dX6_takeOut_6 : decode cX6_takeOut 6 = .ok (.getfield 91, 3) := by decide +kernel
theorem dX6_takeOut_9 : decode cX6_takeOut 9 = .ok (.if_icmp .ge 39, 3) := by decide +kernel
theorem dX6_takeOut_12 : decode cX6_takeOut 12 = .ok (.aload_n 0, 1) := by decide +kernel
theorem dX6_takeOut_13 : decode cX6_takeOut 13 = .ok (.getfield 29, 3) := by decide +kernel
theorem dX6_takeOut_16 : decode cX6_takeOut 16 = .ok (.iload_n 2, 1) := by decide +kernel
theorem dX6_takeOut_17 : decode cX6_takeOut 17 = .ok (.aload_n 0, 1) := by decide +kernel
theorem dX6_takeOut_18 : decode cX6_takeOut 18 = .ok (.getfield 29, 3) := by decide +kernel
theorem dX6_takeOut_21 : decode cX6_takeOut 21 = .ok (.iload_n 3, 1) := by decide +kernel
theorem dX6_takeOut_22 : decode cX6_takeOut 22 = .ok (.iaload, 1) := by decide +kernel
theorem dX6_takeOut_23 : decode cX6_takeOut 23 = .ok (.iastore, 1) := by decide +kernel
theorem dX6_takeOut_24 : decode cX6_takeOut 24 = .ok (.aload_n 0, 1) := by decide +kernel
theorem dX6_takeOut_25 : decode cX6_takeOut 25 = .ok (.getfield 29, 3) := by decide +kernel
theorem dX6_takeOut_28 : decode cX6_takeOut 28 = .ok (.iload_n 3, 1) := by decide +kernel
theorem dX6_takeOut_29 : decode cX6_takeOut 29 = .ok (.iaload, 1) := by decide +kernel
theorem dX6_takeOut_30 : decode cX6_takeOut 30 = .ok (.iload_n 1, 1) := by decide +kernel
theorem dX6_takeOut_31 : decode cX6_takeOut 31 = .ok (.if_icmp .ne 7, 3) := by decide +kernel
theorem dX6_takeOut_34 : decode cX6_takeOut 34 = .ok (.iload_n 2, 1) := by decide +kernel
theorem dX6_takeOut_35 : decode cX6_takeOut 35 = .ok (.goto 6, 3) := by decide +kernel
theorem dX6_takeOut_38 : decode cX6_takeOut 38 = .ok (.iload_n 2, 1) := by decide +kernel
theorem dX6_takeOut_39 : decode cX6_takeOut 39 = .ok (.iconst 1, 1) := by decide +kernel
theorem dX6_takeOut_40 : decode cX6_takeOut 40 = .ok (.iadd, 1) := by decide +kernel
theorem dX6_takeOut_41 : decode cX6_takeOut 41 = .ok (.istore_n 2, 1) := by decide +kernel
theorem dX6_takeOut_42 : decode cX6_takeOut 42 = .ok (.iinc 3 1, 3) := by decide +kernel
theorem dX6_takeOut_45 : decode cX6_takeOut 45 = .ok (.goto (-41), 3) := by decide +kernel
theorem dX6_takeOut_48 : decode cX6_takeOut 48 = .ok (.aload_n 0, 1) := by decide +kernel
theorem dX6_takeOut_49 : decode cX6_takeOut 49 = .ok (.iload_n 2, 1) := by decide +kernel
theorem dX6_takeOut_50 : decode cX6_takeOut 50 = .ok (.putfield 91, 3) := by decide +kernel
theorem dX6_takeOut_53 : decode cX6_takeOut 53 = .ok (.return_, 1) := by decide +kernel
theorem dX6_noteWitness_0 : decode cX6_noteWitness 0 = .ok (.aload_n 0, 1) := by decide +kernel
theorem dX6_noteWitness_1 : decode cX6_noteWitness 1 = .ok (.iconst 0, 1) := by decide +kernel
theorem dX6_noteWitness_2 : decode cX6_noteWitness 2 = .ok (.putfield 105, 3) := by decide +kernel
theorem dX6_noteWitness_5 : decode cX6_noteWitness 5 = .ok (.iconst 0, 1) := by decide +kernel
theorem dX6_noteWitness_6 : decode cX6_noteWitness 6 = .ok (.istore_n 2, 1) := by decide +kernel
theorem dX6_noteWitness_7 : decode cX6_noteWitness 7 = .ok (.iload_n 2, 1) := by decide +kernel
theorem dX6_noteWitness_8 : decode cX6_noteWitness 8 = .ok (.aload_n 0, 1) := by decide +kernel
theorem dX6_noteWitness_9 : decode cX6_noteWitness 9 = .ok (.getfield 91, 3) := by decide +kernel
theorem dX6_noteWitness_12 : decode cX6_noteWitness 12 = .ok (.if_icmp .ge 64, 3) := by decide +kernel
theorem dX6_noteWitness_15 : decode cX6_noteWitness 15 = .ok (.iload_n 2, 1) := by decide +kernel
theorem dX6_noteWitness_16 : decode cX6_noteWitness 16 = .ok (.ifCond .eq 15, 3) := by decide +kernel
theorem dX6_noteWitness_19 : decode cX6_noteWitness 19 = .ok (.aload_n 0, 1) := by decide +kernel
theorem dX6_noteWitness_20 : decode cX6_noteWitness 20 = .ok (.getfield 29, 3) := by decide +kernel
theorem dX6_noteWitness_23 : decode cX6_noteWitness 23 = .ok (.iload_n 2, 1) := by decide +kernel
theorem dX6_noteWitness_24 : decode cX6_noteWitness 24 = .ok (.iconst 1, 1) := by decide +kernel
theorem dX6_noteWitness_25 : decode cX6_noteWitness 25 = .ok (.isub, 1) := by decide +kernel
theorem dX6_noteWitness_26 : decode cX6_noteWitness 26 = .ok (.iaload, 1) := by decide +kernel
theorem dX6_noteWitness_27 : decode cX6_noteWitness 27 = .ok (.iload_n 1, 1) := by decide +kernel
theorem dX6_noteWitness_28 : decode cX6_noteWitness 28 = .ok (.if_icmp .eq 48, 3) := by decide +kernel
theorem dX6_noteWitness_31 : decode cX6_noteWitness 31 = .ok (.aload_n 0, 1) := by decide +kernel
theorem dX6_noteWitness_32 : decode cX6_noteWitness 32 = .ok (.getfield 71, 3) := by decide +kernel
theorem dX6_noteWitness_35 : decode cX6_noteWitness 35 = .ok (.iload_n 2, 1) := by decide +kernel
theorem dX6_noteWitness_36 : decode cX6_noteWitness 36 = .ok (.aload_n 0, 1) := by decide +kernel
theorem dX6_noteWitness_37 : decode cX6_noteWitness 37 = .ok (.getfield 29, 3) := by decide +kernel
theorem dX6_noteWitness_40 : decode cX6_noteWitness 40 = .ok (.iload_n 2, 1) := by decide +kernel
theorem dX6_noteWitness_41 : decode cX6_noteWitness 41 = .ok (.iaload, 1) := by decide +kernel
theorem dX6_noteWitness_42 : decode cX6_noteWitness 42 = .ok (.iastore, 1) := by decide +kernel
theorem dX6_noteWitness_43 : decode cX6_noteWitness 43 = .ok (.aload_n 0, 1) := by decide +kernel
theorem dX6_noteWitness_44 : decode cX6_noteWitness 44 = .ok (.getfield 74, 3) := by decide +kernel
theorem dX6_noteWitness_47 : decode cX6_noteWitness 47 = .ok (.iload_n 2, 1) := by decide +kernel
theorem dX6_noteWitness_48 : decode cX6_noteWitness 48 = .ok (.aload_n 0, 1) := by decide +kernel
theorem dX6_noteWitness_49 : decode cX6_noteWitness 49 = .ok (.getfield 16, 3) := by decide +kernel
theorem dX6_noteWitness_52 : decode cX6_noteWitness 52 = .ok (.aload_n 0, 1) := by decide +kernel
theorem dX6_noteWitness_53 : decode cX6_noteWitness 53 = .ok (.getfield 29, 3) := by decide +kernel
theorem dX6_noteWitness_56 : decode cX6_noteWitness 56 = .ok (.iload_n 2, 1) := by decide +kernel
theorem dX6_noteWitness_57 : decode cX6_noteWitness 57 = .ok (.iaload, 1) := by decide +kernel
theorem dX6_noteWitness_58 : decode cX6_noteWitness 58 = .ok (.iaload, 1) := by decide +kernel
theorem dX6_noteWitness_59 : decode cX6_noteWitness 59 = .ok (.iastore, 1) := by decide +kernel
theorem dX6_noteWitness_60 : decode cX6_noteWitness 60 = .ok (.aload_n 0, 1) := by decide +kernel
theorem dX6_noteWitness_61 : decode cX6_noteWitness 61 = .ok (.dup, 1) := by decide +kernel
theorem dX6_noteWitness_62 : decode cX6_noteWitness 62 = .ok (.getfield 105, 3) := by decide +kernel
theorem dX6_noteWitness_65 : decode cX6_noteWitness 65 = .ok (.iconst 1, 1) := by decide +kernel
theorem dX6_noteWitness_66 : decode cX6_noteWitness 66 = .ok (.iadd, 1) := by decide +kernel
theorem dX6_noteWitness_67 : decode cX6_noteWitness 67 = .ok (.putfield 105, 3) := by decide +kernel
theorem dX6_noteWitness_70 : decode cX6_noteWitness 70 = .ok (.iinc 2 1, 3) := by decide +kernel
theorem dX6_noteWitness_73 : decode cX6_noteWitness 73 = .ok (.goto (-66), 3) := by decide +kernel
theorem dX6_noteWitness_76 : decode cX6_noteWitness 76 = .ok (.aload_n 0, 1) := by decide +kernel
theorem dX6_noteWitness_77 : decode cX6_noteWitness 77 = .ok (.aload_n 0, 1) := by decide +kernel
theorem dX6_noteWitness_78 : decode cX6_noteWitness 78 = .ok (.getfield 20, 3) := by decide +kernel
theorem dX6_noteWitness_81 : decode cX6_noteWitness 81 = .ok (.iload_n 1, 1) := by decide +kernel
theorem dX6_noteWitness_82 : decode cX6_noteWitness 82 = .ok (.iaload, 1) := by decide +kernel
theorem dX6_noteWitness_83 : decode cX6_noteWitness 83 = .ok (.putfield 108, 3) := by decide +kernel
theorem dX6_noteWitness_86 : decode cX6_noteWitness 86 = .ok (.return_, 1) := by decide +kernel
set_option maxRecDepth 20000 in
theorem ggX6_add_X6_within : GoodIn wsX6_add wsX6_within := goodIn_r _ [17] (by decide +kernel) (by decide +kernel)
set_option maxRecDepth 20000 in
theorem gX6_add_X6_within : GoodIn wsX6_add (va_wsS RX6 111 yX6_within wsX6_within) := goodIn_app (goodIn_of _ (by decide +kernel)) ggX6_add_X6_within
set_option maxRecDepth 20000 in
theorem ggX6_add_X6_isKnown : GoodIn wsX6_add wsX6_isKnown := goodIn_r _ [21, 7, 60, 61, 62, 63, 64, 65, 66, 67, 68, 69, 70, 71, 72, 73, 74, 75, 76, 77, 78, 79, 80, 81, 82, 83, 84, 85, 86, 87, 88, 89, 90, 91, 92, 93, 94] (by decide +kernel) (by decide +kernel)
set_option maxRecDepth 20000 in
theorem gX6_add_X6_isKnown : GoodIn wsX6_add (wsV RX6 115 RX6 yX6_isKnown wsX6_isKnown) := goodIn_app (goodIn_of _ (by decide +kernel)) ggX6_add_X6_isKnown
set_option maxRecDepth 20000 in
theorem ggX6_add_X6_goes : GoodIn wsX6_add wsX6_goes := goodIn_r _ [25, 26, 60, 61, 62, 63, 64, 65, 66, 67, 68, 69, 70, 71, 72, 73, 74, 75, 76, 77, 78, 79, 80, 81, 82, 83, 84, 85, 86, 87, 88, 89, 90, 91, 92, 93, 94] (by decide +kernel) (by decide +kernel)
set_option maxRecDepth 20000 in
theorem gX6_add_X6_goes : GoodIn wsX6_add (wsV RX6 119 RX6 yX6_goes wsX6_goes) := goodIn_app (goodIn_of _ (by decide +kernel)) ggX6_add_X6_goes
set_option maxRecDepth 20000 in
theorem ggX6_add_X6_unfit : GoodIn wsX6_add wsX6_unfit := goodIn_r _ [30, 1, 31, 3, 6, 32, 33, 34, 16, 35, 36, 37, 38, 39, 40, 2, 5, 4, 41, 42, 43, 44, 45, 46, 47, 60, 61, 62, 63, 64, 65, 66, 67, 68, 69, 70, 71, 72, 73, 74, 75, 76, 77, 78, 79, 80, 81, 82, 83, 84, 85, 86, 87, 88, 89, 90, 91, 92, 93, 94] (by decide +kernel) (by decide +kernel)
set_option maxRecDepth 20000 in
theorem gX6_add_X6_unfit : GoodIn wsX6_add (wsV RX6 123 RX6 yX6_unfit wsX6_unfit) := goodIn_app (goodIn_of _ (by decide +kernel)) ggX6_add_X6_unfit
set_option maxRecDepth 20000 in
theorem ggX6_add_X6_noteWitness : GoodIn wsX6_add wsX6_noteWitness := goodIn_r _ [51, 52, 1, 3, 53, 54, 4, 2, 55, 60, 61, 62, 63, 64, 65, 66, 67, 68, 69, 70, 71, 72, 73, 74, 75, 76, 77, 78, 79, 80, 81, 82, 83, 84, 85, 86, 87, 88, 89, 90, 91, 92, 93, 94] (by decide +kernel) (by decide +kernel)
set_option maxRecDepth 20000 in
theorem gX6_add_X6_noteWitness : GoodIn wsX6_add (wsV RX6 127 RX6 yX6_noteWitness wsX6_noteWitness) := goodIn_app (goodIn_of _ (by decide +kernel)) ggX6_add_X6_noteWitness
set_option maxRecDepth 20000 in
theorem ggX6_add_X6_takeOut : GoodIn wsX6_add wsX6_takeOut := goodIn_r _ [59, 1, 3, 60, 61, 62, 63, 64, 65, 66, 67, 68, 69, 70, 71, 72, 73, 74, 75, 76, 77, 78, 79, 80, 81, 82, 83, 84, 85, 86, 87, 88, 89, 90, 91, 92, 93, 94] (by decide +kernel) (by decide +kernel)
set_option maxRecDepth 20000 in
theorem gX6_add_X6_takeOut : GoodIn wsX6_add (wsV RX6 130 RX6 yX6_takeOut wsX6_takeOut) := goodIn_app (goodIn_of _ (by decide +kernel)) ggX6_add_X6_takeOut
theorem dX6_add_0 : decode cX6_add 0 = .ok (.iload_n 1, 1) := by decide +kernel
theorem dX6_add_1 : decode cX6_add 1 = .ok (.iconst 1, 1) := by decide +kernel
theorem dX6_add_2 : decode cX6_add 2 = .ok (.bipush 12, 2) := by decide +kernel
theorem dX6_add_4 : decode cX6_add 4 = .ok (.invokestatic 111, 3) := by decide +kernel
theorem dX6_add_7 : decode cX6_add 7 = .ok (.ifCond .eq 56, 3) := by decide +kernel
theorem dX6_add_10 : decode cX6_add 10 = .ok (.iload_n 2, 1) := by decide +kernel
theorem dX6_add_11 : decode cX6_add 11 = .ok (.iconst 1, 1) := by decide +kernel
theorem dX6_add_12 : decode cX6_add 12 = .ok (.sipush 1000, 3) := by decide +kernel
theorem dX6_add_15 : decode cX6_add 15 = .ok (.invokestatic 111, 3) := by decide +kernel
theorem dX6_add_18 : decode cX6_add 18 = .ok (.ifCond .eq 45, 3) := by decide +kernel
theorem dX6_add_21 : decode cX6_add 21 = .ok (.iload_n 3, 1) := by decide +kernel
theorem dX6_add_22 : decode cX6_add 22 = .ok (.iconst 1, 1) := by decide +kernel
theorem dX6_add_23 : decode cX6_add 23 = .ok (.iload_n 2, 1) := by decide +kernel
theorem dX6_add_24 : decode cX6_add 24 = .ok (.invokestatic 111, 3) := by decide +kernel
theorem dX6_add_27 : decode cX6_add 27 = .ok (.ifCond .eq 36, 3) := by decide +kernel
theorem dX6_add_30 : decode cX6_add 30 = .ok (.iload 4, 2) := by decide +kernel
theorem dX6_add_32 : decode cX6_add 32 = .ok (.iconst 1, 1) := by decide +kernel
theorem dX6_add_33 : decode cX6_add 33 = .ok (.bipush 100, 2) := by decide +kernel
theorem dX6_add_35 : decode cX6_add 35 = .ok (.invokestatic 111, 3) := by decide +kernel
theorem dX6_add_38 : decode cX6_add 38 = .ok (.ifCond .eq 25, 3) := by decide +kernel
theorem dX6_add_41 : decode cX6_add 41 = .ok (.iload 5, 2) := by decide +kernel
theorem dX6_add_43 : decode cX6_add 43 = .ok (.ifCond .eq 16, 3) := by decide +kernel
theorem dX6_add_46 : decode cX6_add 46 = .ok (.iload 5, 2) := by decide +kernel
theorem dX6_add_48 : decode cX6_add 48 = .ok (.iload 4, 2) := by decide +kernel
theorem dX6_add_50 : decode cX6_add 50 = .ok (.sipush 200, 3) := by decide +kernel
theorem dX6_add_53 : decode cX6_add 53 = .ok (.invokestatic 111, 3) := by decide +kernel
theorem dX6_add_56 : decode cX6_add 56 = .ok (.ifCond .eq 7, 3) := by decide +kernel
theorem dX6_add_59 : decode cX6_add 59 = .ok (.iconst 1, 1) := by decide +kernel
theorem dX6_add_60 : decode cX6_add 60 = .ok (.goto 4, 3) := by decide +kernel
theorem dX6_add_63 : decode cX6_add 63 = .ok (.iconst 0, 1) := by decide +kernel
theorem dX6_add_64 : decode cX6_add 64 = .ok (.istore 6, 2) := by decide +kernel
theorem dX6_add_66 : decode cX6_add 66 = .ok (.aload_n 0, 1) := by decide +kernel
theorem dX6_add_67 : decode cX6_add 67 = .ok (.iload 6, 2) := by decide +kernel
theorem dX6_add_69 : decode cX6_add 69 = .ok (.aload_n 0, 1) := by decide +kernel
theorem dX6_add_70 : decode cX6_add 70 = .ok (.iload_n 1, 1) := by decide +kernel
theorem dX6_add_71 : decode cX6_add 71 = .ok (.invokevirtual 115, 3) := by decide +kernel
theorem dX6_add_74 : decode cX6_add 74 = .ok (.ifCond .ne 7, 3) := by decide +kernel
theorem dX6_add_77 : decode cX6_add 77 = .ok (.iconst 1, 1) := by decide +kernel
theorem dX6_add_78 : decode cX6_add 78 = .ok (.goto 4, 3) := by decide +kernel
theorem dX6_add_81 : decode cX6_add 81 = .ok (.iconst 0, 1) := by decide +kernel
theorem dX6_add_82 : decode cX6_add 82 = .ok (.iconst 1, 1) := by decide +kernel
theorem dX6_add_83 : decode cX6_add 83 = .ok (.invokevirtual 119, 3) := by decide +kernel
theorem dX6_add_86 : decode cX6_add 86 = .ok (.ifCond .ne 5, 3) := by decide +kernel
theorem dX6_add_89 : decode cX6_add 89 = .ok (.iconst 0, 1) := by decide +kernel
theorem dX6_add_90 : decode cX6_add 90 = .ok (.ireturn, 1) := by decide +kernel
theorem dX6_add_91 : decode cX6_add 91 = .ok (.iconst 0, 1) := by decide +kernel
theorem dX6_add_92 : decode cX6_add 92 = .ok (.istore 7, 2) := by decide +kernel
theorem dX6_add_94 : decode cX6_add 94 = .ok (.iconst 0, 1) := by decide +kernel
theorem dX6_add_95 : decode cX6_add 95 = .ok (.istore 8, 2) := by decide +kernel
theorem dX6_add_97 : decode cX6_add 97 = .ok (.iload 8, 2) := by decide +kernel
theorem dX6_add_99 : decode cX6_add 99 = .ok (.aload_n 0, 1) := by decide +kernel
theorem dX6_add_100 : decode cX6_add 100 = .ok (.getfield 91, 3) := by decide +kernel
theorem dX6_add_103 : decode cX6_add 103 = .ok (.if_icmp .ge 36, 3) := by decide +kernel
theorem dX6_add_106 : decode cX6_add 106 = .ok (.aload_n 0, 1) := by decide +kernel
theorem dX6_add_107 : decode cX6_add 107 = .ok (.getfield 20, 3) := by decide +kernel
theorem dX6_add_110 : decode cX6_add 110 = .ok (.aload_n 0, 1) := by decide +kernel
theorem dX6_add_111 : decode cX6_add 111 = .ok (.getfield 29, 3) := by decide +kernel
theorem dX6_add_114 : decode cX6_add 114 = .ok (.iload 8, 2) := by decide +kernel
theorem dX6_add_116 : decode cX6_add 116 = .ok (.iaload, 1) := by decide +kernel
theorem dX6_add_117 : decode cX6_add 117 = .ok (.iaload, 1) := by decide +kernel
theorem dX6_add_118 : decode cX6_add 118 = .ok (.iload_n 3, 1) := by decide +kernel
theorem dX6_add_119 : decode cX6_add 119 = .ok (.if_icmp .gt 10, 3) := by decide +kernel
theorem dX6_add_122 : decode cX6_add 122 = .ok (.iload 8, 2) := by decide +kernel
theorem dX6_add_124 : decode cX6_add 124 = .ok (.iconst 1, 1) := by decide +kernel
theorem dX6_add_125 : decode cX6_add 125 = .ok (.iadd, 1) := by decide +kernel
theorem dX6_add_126 : decode cX6_add 126 = .ok (.goto 5, 3) := by decide +kernel
theorem dX6_add_129 : decode cX6_add 129 = .ok (.iload 7, 2) := by decide +kernel
theorem dX6_add_131 : decode cX6_add 131 = .ok (.istore 7, 2) := by decide +kernel
theorem dX6_add_133 : decode cX6_add 133 = .ok (.iinc 8 1, 3) := by decide +kernel
theorem dX6_add_136 : decode cX6_add 136 = .ok (.goto (-39), 3) := by decide +kernel
theorem dX6_add_139 : decode cX6_add 139 = .ok (.aload_n 0, 1) := by decide +kernel
theorem dX6_add_140 : decode cX6_add 140 = .ok (.getfield 91, 3) := by decide +kernel
theorem dX6_add_143 : decode cX6_add 143 = .ok (.istore 8, 2) := by decide +kernel
theorem dX6_add_145 : decode cX6_add 145 = .ok (.iload 8, 2) := by decide +kernel
theorem dX6_add_147 : decode cX6_add 147 = .ok (.iload 7, 2) := by decide +kernel
theorem dX6_add_149 : decode cX6_add 149 = .ok (.if_icmp .le 25, 3) := by decide +kernel
theorem dX6_add_152 : decode cX6_add 152 = .ok (.aload_n 0, 1) := by decide +kernel
theorem dX6_add_153 : decode cX6_add 153 = .ok (.getfield 29, 3) := by decide +kernel
theorem dX6_add_156 : decode cX6_add 156 = .ok (.iload 8, 2) := by decide +kernel
theorem dX6_add_158 : decode cX6_add 158 = .ok (.aload_n 0, 1) := by decide +kernel
theorem dX6_add_159 : decode cX6_add 159 = .ok (.getfield 29, 3) := by decide +kernel
theorem dX6_add_162 : decode cX6_add 162 = .ok (.iload 8, 2) := by decide +kernel
theorem dX6_add_164 : decode cX6_add 164 = .ok (.iconst 1, 1) := by decide +kernel
theorem dX6_add_165 : decode cX6_add 165 = .ok (.isub, 1) := by decide +kernel
theorem dX6_add_166 : decode cX6_add 166 = .ok (.iaload, 1) := by decide +kernel
theorem dX6_add_167 : decode cX6_add 167 = .ok (.iastore, 1) := by decide +kernel
theorem dX6_add_168 : decode cX6_add 168 = .ok (.iinc 8 (-1), 3) := by decide +kernel
theorem dX6_add_171 : decode cX6_add 171 = .ok (.goto (-26), 3) := by decide +kernel
theorem dX6_add_174 : decode cX6_add 174 = .ok (.aload_n 0, 1) := by decide +kernel
theorem dX6_add_175 : decode cX6_add 175 = .ok (.getfield 29, 3) := by decide +kernel
theorem dX6_add_178 : decode cX6_add 178 = .ok (.iload 7, 2) := by decide +kernel
theorem dX6_add_180 : decode cX6_add 180 = .ok (.iload_n 1, 1) := by decide +kernel
theorem dX6_add_181 : decode cX6_add 181 = .ok (.iastore, 1) := by decide +kernel
theorem dX6_add_182 : decode cX6_add 182 = .ok (.aload_n 0, 1) := by decide +kernel
theorem dX6_add_183 : decode cX6_add 183 = .ok (.dup, 1) := by decide +kernel
theorem dX6_add_184 : decode cX6_add 184 = .ok (.getfield 91, 3) := by decide +kernel
theorem dX6_add_187 : decode cX6_add 187 = .ok (.iconst 1, 1) := by decide +kernel
theorem dX6_add_188 : decode cX6_add 188 = .ok (.iadd, 1) := by decide +kernel
theorem dX6_add_189 : decode cX6_add 189 = .ok (.putfield 91, 3) := by decide +kernel
theorem dX6_add_192 : decode cX6_add 192 = .ok (.aload_n 0, 1) := by decide +kernel
theorem dX6_add_193 : decode cX6_add 193 = .ok (.getfield 16, 3) := by decide +kernel
theorem dX6_add_196 : decode cX6_add 196 = .ok (.iload_n 1, 1) := by decide +kernel
theorem dX6_add_197 : decode cX6_add 197 = .ok (.iload_n 2, 1) := by decide +kernel
theorem dX6_add_198 : decode cX6_add 198 = .ok (.iastore, 1) := by decide +kernel
theorem dX6_add_199 : decode cX6_add 199 = .ok (.aload_n 0, 1) := by decide +kernel
theorem dX6_add_200 : decode cX6_add 200 = .ok (.getfield 20, 3) := by decide +kernel
theorem dX6_add_203 : decode cX6_add 203 = .ok (.iload_n 1, 1) := by decide +kernel
theorem dX6_add_204 : decode cX6_add 204 = .ok (.iload_n 3, 1) := by decide +kernel
theorem dX6_add_205 : decode cX6_add 205 = .ok (.iastore, 1) := by decide +kernel
theorem dX6_add_206 : decode cX6_add 206 = .ok (.aload_n 0, 1) := by decide +kernel
theorem dX6_add_207 : decode cX6_add 207 = .ok (.getfield 23, 3) := by decide +kernel
theorem dX6_add_210 : decode cX6_add 210 = .ok (.iload_n 1, 1) := by decide +kernel
theorem dX6_add_211 : decode cX6_add 211 = .ok (.iload 4, 2) := by decide +kernel
theorem dX6_add_213 : decode cX6_add 213 = .ok (.iastore, 1) := by decide +kernel
theorem dX6_add_214 : decode cX6_add 214 = .ok (.aload_n 0, 1) := by decide +kernel
theorem dX6_add_215 : decode cX6_add 215 = .ok (.getfield 26, 3) := by decide +kernel
theorem dX6_add_218 : decode cX6_add 218 = .ok (.iload_n 1, 1) := by decide +kernel
theorem dX6_add_219 : decode cX6_add 219 = .ok (.iload 5, 2) := by decide +kernel
theorem dX6_add_221 : decode cX6_add 221 = .ok (.iastore, 1) := by decide +kernel
theorem dX6_add_222 : decode cX6_add 222 = .ok (.aload_n 0, 1) := by decide +kernel
theorem dX6_add_223 : decode cX6_add 223 = .ok (.invokevirtual 123, 3) := by decide +kernel
theorem dX6_add_226 : decode cX6_add 226 = .ok (.istore 8, 2) := by decide +kernel
theorem dX6_add_228 : decode cX6_add 228 = .ok (.iload 8, 2) := by decide +kernel
theorem dX6_add_230 : decode cX6_add 230 = .ok (.ifCond .eq 22, 3) := by decide +kernel
theorem dX6_add_233 : decode cX6_add 233 = .ok (.iload 8, 2) := by decide +kernel
theorem dX6_add_235 : decode cX6_add 235 = .ok (.ifCond .le 9, 3) := by decide +kernel
theorem dX6_add_238 : decode cX6_add 238 = .ok (.aload_n 0, 1) := by decide +kernel
theorem dX6_add_239 : decode cX6_add 239 = .ok (.iload 8, 2) := by decide +kernel
theorem dX6_add_241 : decode cX6_add 241 = .ok (.invokevirtual 127, 3) := by decide +kernel
theorem dX6_add_244 : decode cX6_add 244 = .ok (.aload_n 0, 1) := by decide +kernel
theorem dX6_add_245 : decode cX6_add 245 = .ok (.iload_n 1, 1) := by decide +kernel
theorem dX6_add_246 : decode cX6_add 246 = .ok (.invokevirtual 130, 3) := by decide +kernel
theorem dX6_add_249 : decode cX6_add 249 = .ok (.iload 8, 2) := by decide +kernel
theorem dX6_add_251 : decode cX6_add 251 = .ok (.ireturn, 1) := by decide +kernel
theorem dX6_add_252 : decode cX6_add 252 = .ok (.aload_n 0, 1) := by decide +kernel
theorem dX6_add_253 : decode cX6_add 253 = .ok (.getfield 7, 3) := by decide +kernel
theorem dX6_add_256 : decode cX6_add 256 = .ok (.iload_n 1, 1) := by decide +kernel
theorem dX6_add_257 : decode cX6_add 257 = .ok (.iconst 1, 1) := by decide +kernel
theorem dX6_add_258 : decode cX6_add 258 = .ok (.bastore, 1) := by decide +kernel
theorem dX6_add_259 : decode cX6_add 259 = .ok (.aload_n 0, 1) := by decide +kernel
theorem dX6_add_260 : decode cX6_add 260 = .ok (.getfield 13, 3) := by decide +kernel
theorem dX6_add_263 : decode cX6_add 263 = .ok (.iload_n 1, 1) := by decide +kernel
theorem dX6_add_264 : decode cX6_add 264 = .ok (.iconst 0, 1) := by decide +kernel
theorem dX6_add_265 : decode cX6_add 265 = .ok (.bastore, 1) := by decide +kernel
theorem dX6_add_266 : decode cX6_add 266 = .ok (.aload_n 0, 1) := by decide +kernel
theorem dX6_add_267 : decode cX6_add 267 = .ok (.getfield 38, 3) := by decide +kernel
theorem dX6_add_270 : decode cX6_add 270 = .ok (.iload_n 1, 1) := by decide +kernel
theorem dX6_add_271 : decode cX6_add 271 = .ok (.iconst 0, 1) := by decide +kernel
theorem dX6_add_272 : decode cX6_add 272 = .ok (.iastore, 1) := by decide +kernel
theorem dX6_add_273 : decode cX6_add 273 = .ok (.aload_n 0, 1) := by decide +kernel
theorem dX6_add_274 : decode cX6_add 274 = .ok (.getfield 41, 3) := by decide +kernel
theorem dX6_add_277 : decode cX6_add 277 = .ok (.iload_n 1, 1) := by decide +kernel
theorem dX6_add_278 : decode cX6_add 278 = .ok (.iconst 0, 1) := by decide +kernel
theorem dX6_add_279 : decode cX6_add 279 = .ok (.iastore, 1) := by decide +kernel
theorem dX6_add_280 : decode cX6_add 280 = .ok (.aload_n 0, 1) := by decide +kernel
theorem dX6_add_281 : decode cX6_add 281 = .ok (.getfield 44, 3) := by decide +kernel
theorem dX6_add_284 : decode cX6_add 284 = .ok (.iload_n 1, 1) := by decide +kernel
theorem dX6_add_285 : decode cX6_add 285 = .ok (.iconst 0, 1) := by decide +kernel
theorem dX6_add_286 : decode cX6_add 286 = .ok (.iastore, 1) := by decide +kernel
theorem dX6_add_287 : decode cX6_add 287 = .ok (.aload_n 0, 1) := by decide +kernel
theorem dX6_add_288 : decode cX6_add 288 = .ok (.getfield 47, 3) := by decide +kernel
theorem dX6_add_291 : decode cX6_add 291 = .ok (.iload_n 1, 1) := by decide +kernel
theorem dX6_add_292 : decode cX6_add 292 = .ok (.iconst 0, 1) := by decide +kernel
theorem dX6_add_293 : decode cX6_add 293 = .ok (.iastore, 1) := by decide +kernel
theorem dX6_add_294 : decode cX6_add 294 = .ok (.aload_n 0, 1) := by decide +kernel
theorem dX6_add_295 : decode cX6_add 295 = .ok (.getfield 50, 3) := by decide +kernel
theorem dX6_add_298 : decode cX6_add 298 = .ok (.iload_n 1, 1) := by decide +kernel
theorem dX6_add_299 : decode cX6_add 299 = .ok (.iconst 0, 1) := by decide +kernel
theorem dX6_add_300 : decode cX6_add 300 = .ok (.iastore, 1) := by decide +kernel
theorem dX6_add_301 : decode cX6_add 301 = .ok (.iconst 0, 1) := by decide +kernel
theorem dX6_add_302 : decode cX6_add 302 = .ok (.ireturn, 1) := by decide +kernel
theorem dX6_at_0 : decode cX6_at 0 = .ok (.bipush 8, 2) := by decide +kernel
theorem dX6_at_2 : decode cX6_at 2 = .ok (.iload_n 0, 1) := by decide +kernel
theorem dX6_at_3 : decode cX6_at 3 = .ok (.imul, 1) := by decide +kernel
theorem dX6_at_4 : decode cX6_at 4 = .ok (.iload_n 1, 1) := by decide +kernel
theorem dX6_at_5 : decode cX6_at 5 = .ok (.bipush 8, 2) := by decide +kernel
theorem dX6_at_7 : decode cX6_at 7 = .ok (.irem, 1) := by decide +kernel
theorem dX6_at_8 : decode cX6_at 8 = .ok (.iadd, 1) := by decide +kernel
theorem dX6_at_9 : decode cX6_at 9 = .ok (.ireturn, 1) := by decide +kernel
set_option maxRecDepth 20000 in
theorem ggX6_isPending_X6_at : GoodIn wsX6_isPending wsX6_at := goodIn_r _ [6] (by decide +kernel) (by decide +kernel)
set_option maxRecDepth 20000 in
theorem gX6_isPending_X6_at : GoodIn wsX6_isPending (va_wsS RX6 133 yX6_at wsX6_at) := goodIn_app (goodIn_of _ (by decide +kernel)) ggX6_isPending_X6_at
theorem dX6_isPending_0 : decode cX6_isPending 0 = .ok (.iload_n 2, 1) := by decide +kernel
theorem dX6_isPending_1 : decode cX6_isPending 1 = .ok (.iconst 1, 1) := by decide +kernel
theorem dX6_isPending_2 : decode cX6_isPending 2 = .ok (.if_icmp .lt 44, 3) := by decide +kernel
theorem dX6_isPending_5 : decode cX6_isPending 5 = .ok (.iload_n 2, 1) := by decide +kernel
theorem dX6_isPending_6 : decode cX6_isPending 6 = .ok (.aload_n 0, 1) := by decide +kernel
theorem dX6_isPending_7 : decode cX6_isPending 7 = .ok (.getfield 38, 3) := by decide +kernel
theorem dX6_isPending_10 : decode cX6_isPending 10 = .ok (.iload_n 1, 1) := by decide +kernel
theorem dX6_isPending_11 : decode cX6_isPending 11 = .ok (.iaload, 1) := by decide +kernel
theorem dX6_isPending_12 : decode cX6_isPending 12 = .ok (.if_icmp .gt 34, 3) := by decide +kernel
theorem dX6_isPending_15 : decode cX6_isPending 15 = .ok (.iload_n 2, 1) := by decide +kernel
theorem dX6_isPending_16 : decode cX6_isPending 16 = .ok (.aload_n 0, 1) := by decide +kernel
theorem dX6_isPending_17 : decode cX6_isPending 17 = .ok (.getfield 38, 3) := by decide +kernel
theorem dX6_isPending_20 : decode cX6_isPending 20 = .ok (.iload_n 1, 1) := by decide +kernel
theorem dX6_isPending_21 : decode cX6_isPending 21 = .ok (.iaload, 1) := by decide +kernel
theorem dX6_isPending_22 : decode cX6_isPending 22 = .ok (.bipush 8, 2) := by decide +kernel
theorem dX6_isPending_24 : decode cX6_isPending 24 = .ok (.isub, 1) := by decide +kernel
theorem dX6_isPending_25 : decode cX6_isPending 25 = .ok (.if_icmp .le 21, 3) := by decide +kernel
theorem dX6_isPending_28 : decode cX6_isPending 28 = .ok (.aload_n 0, 1) := by decide +kernel
theorem dX6_isPending_29 : decode cX6_isPending 29 = .ok (.getfield 62, 3) := by decide +kernel
theorem dX6_isPending_32 : decode cX6_isPending 32 = .ok (.iload_n 1, 1) := by decide +kernel
theorem dX6_isPending_33 : decode cX6_isPending 33 = .ok (.iload_n 2, 1) := by decide +kernel
theorem dX6_isPending_34 : decode cX6_isPending 34 = .ok (.invokestatic 133, 3) := by decide +kernel
theorem dX6_isPending_37 : decode cX6_isPending 37 = .ok (.iaload, 1) := by decide +kernel
theorem dX6_isPending_38 : decode cX6_isPending 38 = .ok (.iconst (-1), 1) := by decide +kernel
theorem dX6_isPending_39 : decode cX6_isPending 39 = .ok (.if_icmp .ne 7, 3) := by decide +kernel
theorem dX6_isPending_42 : decode cX6_isPending 42 = .ok (.iconst 1, 1) := by decide +kernel
theorem dX6_isPending_43 : decode cX6_isPending 43 = .ok (.goto 4, 3) := by decide +kernel
theorem dX6_isPending_46 : decode cX6_isPending 46 = .ok (.iconst 0, 1) := by decide +kernel
theorem dX6_isPending_47 : decode cX6_isPending 47 = .ok (.ireturn, 1) := by decide +kernel
set_option maxRecDepth 20000 in
theorem ggX6_pending_X6_isPending : GoodIn wsX6_pending wsX6_isPending := goodIn_r _ [6, 1, 7, 8, 9, 5, 10, 11, 12, 13, 14, 15, 16, 17, 18, 19, 20, 21, 22, 23, 24, 25, 26, 27, 28, 29, 30, 31, 32, 33, 34, 35, 36, 37, 38, 39, 40, 41, 42, 43, 44, 45] (by decide +kernel) (by decide +kernel)
set_option maxRecDepth 20000 in
theorem gX6_pending_X6_isPending : GoodIn wsX6_pending (wsV RX6 136 RX6 yX6_isPending wsX6_isPending) := goodIn_app (goodIn_of _ (by decide +kernel)) ggX6_pending_X6_isPending
theorem dX6_pending_0 : decode cX6_pending 0 = .ok (.iconst 0, 1) := by decide +kernel
theorem dX6_pending_1 : decode cX6_pending 1 = .ok (.istore_n 2, 1) := by decide +kernel
theorem dX6_pending_2 : decode cX6_pending 2 = .ok (.aload_n 0, 1) := by decide +kernel
theorem dX6_pending_3 : decode cX6_pending 3 = .ok (.getfield 38, 3) := by decide +kernel
theorem dX6_pending_6 : decode cX6_pending 6 = .ok (.iload_n 1, 1) := by decide +kernel
theorem dX6_pending_7 : decode cX6_pending 7 = .ok (.iaload, 1) := by decide +kernel
theorem dX6_pending_8 : decode cX6_pending 8 = .ok (.bipush 7, 2) := by decide +kernel
theorem dX6_pending_10 : decode cX6_pending 10 = .ok (.isub, 1) := by decide +kernel
theorem dX6_pending_11 : decode cX6_pending 11 = .ok (.istore_n 3, 1) := by decide +kernel
theorem dX6_pending_12 : decode cX6_pending 12 = .ok (.iload_n 3, 1) := by decide +kernel
theorem dX6_pending_13 : decode cX6_pending 13 = .ok (.aload_n 0, 1) := by decide +kernel
theorem dX6_pending_14 : decode cX6_pending 14 = .ok (.getfield 38, 3) := by decide +kernel
theorem dX6_pending_17 : decode cX6_pending 17 = .ok (.iload_n 1, 1) := by decide +kernel
theorem dX6_pending_18 : decode cX6_pending 18 = .ok (.iaload, 1) := by decide +kernel
theorem dX6_pending_19 : decode cX6_pending 19 = .ok (.if_icmp .gt 26, 3) := by decide +kernel
theorem dX6_pending_22 : decode cX6_pending 22 = .ok (.aload_n 0, 1) := by decide +kernel
theorem dX6_pending_23 : decode cX6_pending 23 = .ok (.iload_n 1, 1) := by decide +kernel
theorem dX6_pending_24 : decode cX6_pending 24 = .ok (.iload_n 3, 1) := by decide +kernel
theorem dX6_pending_25 : decode cX6_pending 25 = .ok (.invokevirtual 136, 3) := by decide +kernel
theorem dX6_pending_28 : decode cX6_pending 28 = .ok (.ifCond .eq 9, 3) := by decide +kernel
theorem dX6_pending_31 : decode cX6_pending 31 = .ok (.iload_n 2, 1) := by decide +kernel
theorem dX6_pending_32 : decode cX6_pending 32 = .ok (.iconst 1, 1) := by decide +kernel
theorem dX6_pending_33 : decode cX6_pending 33 = .ok (.iadd, 1) := by decide +kernel
theorem dX6_pending_34 : decode cX6_pending 34 = .ok (.goto 4, 3) := by decide +kernel
theorem dX6_pending_37 : decode cX6_pending 37 = .ok (.iload_n 2, 1) := by decide +kernel
theorem dX6_pending_38 : decode cX6_pending 38 = .ok (.istore_n 2, 1) := by decide +kernel
theorem dX6_pending_39 : decode cX6_pending 39 = .ok (.iinc 3 1, 3) := by decide +kernel
theorem dX6_pending_42 : decode cX6_pending 42 = .ok (.goto (-30), 3) := by decide +kernel
theorem dX6_pending_45 : decode cX6_pending 45 = .ok (.iload_n 2, 1) := by decide +kernel
theorem dX6_pending_46 : decode cX6_pending 46 = .ok (.ireturn, 1) := by decide +kernel
set_option maxRecDepth 20000 in
theorem ggX6_leave_X6_pending : GoodIn wsX6_leave wsX6_pending := goodIn_r _ [9, 10, 11, 12, 13, 8, 14, 15, 16, 17, 18, 25, 26, 27, 28, 29, 30, 31, 32, 33, 34, 35, 36, 37, 38, 39, 40, 41, 42, 43, 44, 45, 46, 47, 48, 49, 50, 51, 52, 53, 54, 55, 56, 57, 58, 59] (by decide +kernel) (by decide +kernel)
set_option maxRecDepth 20000 in
theorem gX6_leave_X6_pending : GoodIn wsX6_leave (wsV RX6 140 RX6 yX6_pending wsX6_pending) := goodIn_app (goodIn_of _ (by decide +kernel)) ggX6_leave_X6_pending
set_option maxRecDepth 20000 in
theorem ggX6_leave_X6_takeOut : GoodIn wsX6_leave wsX6_takeOut := goodIn_r _ [22, 23, 24, 25, 26, 27, 28, 29, 30, 31, 32, 33, 34, 35, 36, 37, 38, 39, 40, 41, 42, 43, 44, 45, 46, 47, 48, 49, 50, 51, 52, 53, 54, 55, 56, 57, 58, 59] (by decide +kernel) (by decide +kernel)
set_option maxRecDepth 20000 in
theorem gX6_leave_X6_takeOut : GoodIn wsX6_leave (wsV RX6 130 RX6 yX6_takeOut wsX6_takeOut) := goodIn_app (goodIn_of _ (by decide +kernel)) ggX6_leave_X6_takeOut
theorem dX6_leave_0 : decode cX6_leave 0 = .ok (.aload_n 0, 1) := by decide +kernel
theorem dX6_leave_1 : decode cX6_leave 1 = .ok (.getfield 7, 3) := by decide +kernel
theorem dX6_leave_4 : decode cX6_leave 4 = .ok (.iload_n 1, 1) := by decide +kernel
theorem dX6_leave_5 : decode cX6_leave 5 = .ok (.baload, 1) := by decide +kernel
theorem dX6_leave_6 : decode cX6_leave 6 = .ok (.ifCond .eq 20, 3) := by decide +kernel
theorem dX6_leave_9 : decode cX6_leave 9 = .ok (.aload_n 0, 1) := by decide +kernel
theorem dX6_leave_10 : decode cX6_leave 10 = .ok (.getfield 13, 3) := by decide +kernel
theorem dX6_leave_13 : decode cX6_leave 13 = .ok (.iload_n 1, 1) := by decide +kernel
theorem dX6_leave_14 : decode cX6_leave 14 = .ok (.baload, 1) := by decide +kernel
theorem dX6_leave_15 : decode cX6_leave 15 = .ok (.ifCond .eq 11, 3) := by decide +kernel
theorem dX6_leave_18 : decode cX6_leave 18 = .ok (.aload_n 0, 1) := by decide +kernel
theorem dX6_leave_19 : decode cX6_leave 19 = .ok (.iload_n 1, 1) := by decide +kernel
theorem dX6_leave_20 : decode cX6_leave 20 = .ok (.invokevirtual 140, 3) := by decide +kernel
theorem dX6_leave_23 : decode cX6_leave 23 = .ok (.ifCond .le 4, 3) := by decide +kernel
theorem dX6_leave_26 : decode cX6_leave 26 = .ok (.return_, 1) := by decide +kernel
theorem dX6_leave_27 : decode cX6_leave 27 = .ok (.aload_n 0, 1) := by decide +kernel
theorem dX6_leave_28 : decode cX6_leave 28 = .ok (.getfield 7, 3) := by decide +kernel
theorem dX6_leave_31 : decode cX6_leave 31 = .ok (.iload_n 1, 1) := by decide +kernel
theorem dX6_leave_32 : decode cX6_leave 32 = .ok (.iconst 0, 1) := by decide +kernel
theorem dX6_leave_33 : decode cX6_leave 33 = .ok (.bastore, 1) := by decide +kernel
theorem dX6_leave_34 : decode cX6_leave 34 = .ok (.aload_n 0, 1) := by decide +kernel
theorem dX6_leave_35 : decode cX6_leave 35 = .ok (.iload_n 1, 1) := by decide +kernel
theorem dX6_leave_36 : decode cX6_leave 36 = .ok (.invokevirtual 130, 3) := by decide +kernel
theorem dX6_leave_39 : decode cX6_leave 39 = .ok (.iconst 0, 1) := by decide +kernel
theorem dX6_leave_40 : decode cX6_leave 40 = .ok (.istore_n 2, 1) := by decide +kernel
theorem dX6_leave_41 : decode cX6_leave 41 = .ok (.iconst 0, 1) := by decide +kernel
theorem dX6_leave_42 : decode cX6_leave 42 = .ok (.istore_n 3, 1) := by decide +kernel
theorem dX6_leave_43 : decode cX6_leave 43 = .ok (.iload_n 3, 1) := by decide +kernel
theorem dX6_leave_44 : decode cX6_leave 44 = .ok (.aload_n 0, 1) := by decide +kernel
theorem dX6_leave_45 : decode cX6_leave 45 = .ok (.getfield 143, 3) := by decide +kernel
theorem dX6_leave_48 : decode cX6_leave 48 = .ok (.if_icmp .ge 39, 3) := by decide +kernel
theorem dX6_leave_51 : decode cX6_leave 51 = .ok (.aload_n 0, 1) := by decide +kernel
theorem dX6_leave_52 : decode cX6_leave 52 = .ok (.getfield 32, 3) := by decide +kernel
theorem dX6_leave_55 : decode cX6_leave 55 = .ok (.iload_n 2, 1) := by decide +kernel
theorem dX6_leave_56 : decode cX6_leave 56 = .ok (.aload_n 0, 1) := by decide +kernel
theorem dX6_leave_57 : decode cX6_leave 57 = .ok (.getfield 32, 3) := by decide +kernel
theorem dX6_leave_60 : decode cX6_leave 60 = .ok (.iload_n 3, 1) := by decide +kernel
theorem dX6_leave_61 : decode cX6_leave 61 = .ok (.iaload, 1) := by decide +kernel
theorem dX6_leave_62 : decode cX6_leave 62 = .ok (.iastore, 1) := by decide +kernel
theorem dX6_leave_63 : decode cX6_leave 63 = .ok (.aload_n 0, 1) := by decide +kernel
theorem dX6_leave_64 : decode cX6_leave 64 = .ok (.getfield 32, 3) := by decide +kernel
theorem dX6_leave_67 : decode cX6_leave 67 = .ok (.iload_n 3, 1) := by decide +kernel
theorem dX6_leave_68 : decode cX6_leave 68 = .ok (.iaload, 1) := by decide +kernel
theorem dX6_leave_69 : decode cX6_leave 69 = .ok (.iload_n 1, 1) := by decide +kernel
theorem dX6_leave_70 : decode cX6_leave 70 = .ok (.if_icmp .ne 7, 3) := by decide +kernel
theorem dX6_leave_73 : decode cX6_leave 73 = .ok (.iload_n 2, 1) := by decide +kernel
theorem dX6_leave_74 : decode cX6_leave 74 = .ok (.goto 6, 3) := by decide +kernel
theorem dX6_leave_77 : decode cX6_leave 77 = .ok (.iload_n 2, 1) := by decide +kernel
theorem dX6_leave_78 : decode cX6_leave 78 = .ok (.iconst 1, 1) := by decide +kernel
theorem dX6_leave_79 : decode cX6_leave 79 = .ok (.iadd, 1) := by decide +kernel
theorem dX6_leave_80 : decode cX6_leave 80 = .ok (.istore_n 2, 1) := by decide +kernel
theorem dX6_leave_81 : decode cX6_leave 81 = .ok (.iinc 3 1, 3) := by decide +kernel
theorem dX6_leave_84 : decode cX6_leave 84 = .ok (.goto (-41), 3) := by decide +kernel
theorem dX6_leave_87 : decode cX6_leave 87 = .ok (.aload_n 0, 1) := by decide +kernel
theorem dX6_leave_88 : decode cX6_leave 88 = .ok (.iload_n 2, 1) := by decide +kernel
theorem dX6_leave_89 : decode cX6_leave 89 = .ok (.putfield 143, 3) := by decide +kernel
theorem dX6_leave_92 : decode cX6_leave 92 = .ok (.return_, 1) := by decide +kernel
set_option maxRecDepth 20000 in
theorem ggX6_remove_X6_isKnown : GoodIn wsX6_remove wsX6_isKnown := goodIn_r _ [7, 2, 38, 39, 40, 41, 42, 43, 44, 45, 46, 47, 48, 49, 50, 51, 52, 53, 54, 55, 56, 57, 58, 59, 60, 61, 62, 63, 64, 65, 66, 67, 68, 69, 70, 71, 72] (by decide +kernel) (by decide +kernel)
set_option maxRecDepth 20000 in
theorem gX6_remove_X6_isKnown : GoodIn wsX6_remove (wsV RX6 115 RX6 yX6_isKnown wsX6_isKnown) := goodIn_app (goodIn_of _ (by decide +kernel)) ggX6_remove_X6_isKnown
set_option maxRecDepth 20000 in
theorem ggX6_remove_X6_goes : GoodIn wsX6_remove wsX6_goes := goodIn_r _ [11, 12, 38, 39, 40, 41, 42, 43, 44, 45, 46, 47, 48, 49, 50, 51, 52, 53, 54, 55, 56, 57, 58, 59, 60, 61, 62, 63, 64, 65, 66, 67, 68, 69, 70, 71, 72] (by decide +kernel) (by decide +kernel)
set_option maxRecDepth 20000 in
theorem gX6_remove_X6_goes : GoodIn wsX6_remove (wsV RX6 119 RX6 yX6_goes wsX6_goes) := goodIn_app (goodIn_of _ (by decide +kernel)) ggX6_remove_X6_goes
set_option maxRecDepth 20000 in
theorem ggX6_remove_X6_leave : GoodIn wsX6_remove wsX6_leave := goodIn_r _ [16, 2, 1, 17, 18, 19, 20, 21, 6, 22, 23, 24, 25, 26, 27, 28, 29, 30, 31, 32, 33, 34, 35, 36, 37, 38, 39, 40, 41, 42, 43, 44, 45, 46, 47, 48, 49, 50, 51, 52, 53, 54, 55, 56, 57, 58, 59, 60, 61, 62, 63, 64, 65, 66, 67, 68, 69, 70, 71, 72] (by decide +kernel) (by decide +kernel)
set_option maxRecDepth 20000 in
theorem gX6_remove_X6_leave : GoodIn wsX6_remove (wsV RX6 146 RX6 yX6_leave wsX6_leave) := goodIn_app (goodIn_of _ (by decide +kernel)) ggX6_remove_X6_leave
theorem dX6_remove_0 : decode cX6_remove 0 = .ok (.aload_n 0, 1) := by decide +kernel
theorem dX6_remove_1 : decode cX6_remove 1 = .ok (.aload_n 0, 1) := by decide +kernel
theorem dX6_remove_2 : decode cX6_remove 2 = .ok (.iload_n 1, 1) := by decide +kernel
theorem dX6_remove_3 : decode cX6_remove 3 = .ok (.invokevirtual 115, 3) := by decide +kernel
theorem dX6_remove_6 : decode cX6_remove 6 = .ok (.aload_n 0, 1) := by decide +kernel
theorem dX6_remove_7 : decode cX6_remove 7 = .ok (.iload_n 1, 1) := by decide +kernel
theorem dX6_remove_8 : decode cX6_remove 8 = .ok (.invokevirtual 115, 3) := by decide +kernel
theorem dX6_remove_11 : decode cX6_remove 11 = .ok (.ifCond .eq 12, 3) := by decide +kernel
theorem dX6_remove_14 : decode cX6_remove 14 = .ok (.aload_n 0, 1) := by decide +kernel
theorem dX6_remove_15 : decode cX6_remove 15 = .ok (.getfield 13, 3) := by decide +kernel
theorem dX6_remove_18 : decode cX6_remove 18 = .ok (.iload_n 1, 1) := by decide +kernel
theorem dX6_remove_19 : decode cX6_remove 19 = .ok (.baload, 1) := by decide +kernel
theorem dX6_remove_20 : decode cX6_remove 20 = .ok (.ifCond .ne 7, 3) := by decide +kernel
theorem dX6_remove_23 : decode cX6_remove 23 = .ok (.iconst 1, 1) := by decide +kernel
theorem dX6_remove_24 : decode cX6_remove 24 = .ok (.goto 4, 3) := by decide +kernel
theorem dX6_remove_27 : decode cX6_remove 27 = .ok (.iconst 0, 1) := by decide +kernel
theorem dX6_remove_28 : decode cX6_remove 28 = .ok (.iconst 1, 1) := by decide +kernel
theorem dX6_remove_29 : decode cX6_remove 29 = .ok (.invokevirtual 119, 3) := by decide +kernel
theorem dX6_remove_32 : decode cX6_remove 32 = .ok (.ifCond .ne 5, 3) := by decide +kernel
theorem dX6_remove_35 : decode cX6_remove 35 = .ok (.iconst 0, 1) := by decide +kernel
theorem dX6_remove_36 : decode cX6_remove 36 = .ok (.ireturn, 1) := by decide +kernel
theorem dX6_remove_37 : decode cX6_remove 37 = .ok (.aload_n 0, 1) := by decide +kernel
theorem dX6_remove_38 : decode cX6_remove 38 = .ok (.getfield 13, 3) := by decide +kernel
theorem dX6_remove_41 : decode cX6_remove 41 = .ok (.iload_n 1, 1) := by decide +kernel
theorem dX6_remove_42 : decode cX6_remove 42 = .ok (.iconst 1, 1) := by decide +kernel
theorem dX6_remove_43 : decode cX6_remove 43 = .ok (.bastore, 1) := by decide +kernel
theorem dX6_remove_44 : decode cX6_remove 44 = .ok (.aload_n 0, 1) := by decide +kernel
theorem dX6_remove_45 : decode cX6_remove 45 = .ok (.iload_n 1, 1) := by decide +kernel
theorem dX6_remove_46 : decode cX6_remove 46 = .ok (.invokevirtual 146, 3) := by decide +kernel
theorem dX6_remove_49 : decode cX6_remove 49 = .ok (.aload_n 0, 1) := by decide +kernel
theorem dX6_remove_50 : decode cX6_remove 50 = .ok (.getfield 7, 3) := by decide +kernel
theorem dX6_remove_53 : decode cX6_remove 53 = .ok (.iload_n 1, 1) := by decide +kernel
theorem dX6_remove_54 : decode cX6_remove 54 = .ok (.baload, 1) := by decide +kernel
theorem dX6_remove_55 : decode cX6_remove 55 = .ok (.ifCond .ne 7, 3) := by decide +kernel
theorem dX6_remove_58 : decode cX6_remove 58 = .ok (.iconst 1, 1) := by decide +kernel
theorem dX6_remove_59 : decode cX6_remove 59 = .ok (.goto 4, 3) := by decide +kernel
theorem dX6_remove_62 : decode cX6_remove 62 = .ok (.iconst 0, 1) := by decide +kernel
theorem dX6_remove_63 : decode cX6_remove 63 = .ok (.ireturn, 1) := by decide +kernel
theorem dX6_place_0 : decode cX6_place 0 = .ok (.iconst 0, 1) := by decide +kernel
theorem dX6_place_1 : decode cX6_place 1 = .ok (.istore_n 2, 1) := by decide +kernel
theorem dX6_place_2 : decode cX6_place 2 = .ok (.iload_n 2, 1) := by decide +kernel
theorem dX6_place_3 : decode cX6_place 3 = .ok (.aload_n 0, 1) := by decide +kernel
theorem dX6_place_4 : decode cX6_place 4 = .ok (.getfield 143, 3) := by decide +kernel
theorem dX6_place_7 : decode cX6_place 7 = .ok (.if_icmp .ge 21, 3) := by decide +kernel
theorem dX6_place_10 : decode cX6_place 10 = .ok (.aload_n 0, 1) := by decide +kernel
theorem dX6_place_11 : decode cX6_place 11 = .ok (.getfield 32, 3) := by decide +kernel
theorem dX6_place_14 : decode cX6_place 14 = .ok (.iload_n 2, 1) := by decide +kernel
theorem dX6_place_15 : decode cX6_place 15 = .ok (.iaload, 1) := by decide +kernel
theorem dX6_place_16 : decode cX6_place 16 = .ok (.iload_n 1, 1) := by decide +kernel
theorem dX6_place_17 : decode cX6_place 17 = .ok (.if_icmp .ne 5, 3) := by decide +kernel
theorem dX6_place_20 : decode cX6_place 20 = .ok (.iload_n 2, 1) := by decide +kernel
theorem dX6_place_21 : decode cX6_place 21 = .ok (.ireturn, 1) := by decide +kernel
theorem dX6_place_22 : decode cX6_place 22 = .ok (.iinc 2 1, 3) := by decide +kernel
theorem dX6_place_25 : decode cX6_place 25 = .ok (.goto (-23), 3) := by decide +kernel
theorem dX6_place_28 : decode cX6_place 28 = .ok (.iconst (-1), 1) := by decide +kernel
theorem dX6_place_29 : decode cX6_place 29 = .ok (.ireturn, 1) := by decide +kernel
set_option maxRecDepth 20000 in
theorem ggX6_release_X6_isKnown : GoodIn wsX6_release wsX6_isKnown := goodIn_r _ [18, 19, 45, 46, 47, 48, 49, 50, 51, 52, 53, 54, 55, 56, 57, 58, 59, 60, 61, 62, 63, 64, 65, 66, 67, 68, 69, 70, 71, 72, 73, 74, 75, 76, 77, 78, 79] (by decide +kernel) (by decide +kernel)
set_option maxRecDepth 20000 in
theorem gX6_release_X6_isKnown : GoodIn wsX6_release (wsV RX6 115 RX6 yX6_isKnown wsX6_isKnown) := goodIn_app (goodIn_of _ (by decide +kernel)) ggX6_release_X6_isKnown
set_option maxRecDepth 20000 in
theorem ggX6_release_X6_place : GoodIn wsX6_release wsX6_place := goodIn_r _ [23, 24, 25, 45, 46, 47, 48, 49, 50, 51, 52, 53, 54, 55, 56, 57, 58, 59, 60, 61, 62, 63, 64, 65, 66, 67, 68, 69, 70, 71, 72, 73, 74, 75, 76, 77, 78, 79] (by decide +kernel) (by decide +kernel)
set_option maxRecDepth 20000 in
theorem gX6_release_X6_place : GoodIn wsX6_release (wsV RX6 149 RX6 yX6_place wsX6_place) := goodIn_app (goodIn_of _ (by decide +kernel)) ggX6_release_X6_place
set_option maxRecDepth 20000 in
theorem ggX6_release_X6_within : GoodIn wsX6_release wsX6_within := goodIn_r _ [28] (by decide +kernel) (by decide +kernel)
set_option maxRecDepth 20000 in
theorem gX6_release_X6_within : GoodIn wsX6_release (va_wsS RX6 111 yX6_within wsX6_within) := goodIn_app (goodIn_of _ (by decide +kernel)) ggX6_release_X6_within
set_option maxRecDepth 20000 in
theorem ggX6_release_X6_pending : GoodIn wsX6_release wsX6_pending := goodIn_r _ [32, 8, 33, 34, 35, 17, 36, 12, 37, 38, 39, 45, 46, 47, 48, 49, 50, 51, 52, 53, 54, 55, 56, 57, 58, 59, 60, 61, 62, 63, 64, 65, 66, 67, 68, 69, 70, 71, 72, 73, 74, 75, 76, 77, 78, 79] (by decide +kernel) (by decide +kernel)
set_option maxRecDepth 20000 in
theorem gX6_release_X6_pending : GoodIn wsX6_release (wsV RX6 140 RX6 yX6_pending wsX6_pending) := goodIn_app (goodIn_of _ (by decide +kernel)) ggX6_release_X6_pending
set_option maxRecDepth 20000 in
theorem ggX6_release_X6_goes : GoodIn wsX6_release wsX6_goes := goodIn_r _ [43, 44, 45, 46, 47, 48, 49, 50, 51, 52, 53, 54, 55, 56, 57, 58, 59, 60, 61, 62, 63, 64, 65, 66, 67, 68, 69, 70, 71, 72, 73, 74, 75, 76, 77, 78, 79] (by decide +kernel) (by decide +kernel)
set_option maxRecDepth 20000 in
theorem gX6_release_X6_goes : GoodIn wsX6_release (wsV RX6 119 RX6 yX6_goes wsX6_goes) := goodIn_app (goodIn_of _ (by decide +kernel)) ggX6_release_X6_goes
set_option maxRecDepth 20000 in
theorem ggX6_release_X6_at : GoodIn wsX6_release wsX6_at := goodIn_r _ [39] (by decide +kernel) (by decide +kernel)
set_option maxRecDepth 20000 in
theorem gX6_release_X6_at : GoodIn wsX6_release (va_wsS RX6 133 yX6_at wsX6_at) := goodIn_app (goodIn_of _ (by decide +kernel)) ggX6_release_X6_at
theorem dX6_release_0 : decode cX6_release 0 = .ok (.aload_n 0, 1) := by decide +kernel
theorem dX6_release_1 : decode cX6_release 1 = .ok (.iload_n 1, 1) := by decide +kernel
theorem dX6_release_2 : decode cX6_release 2 = .ok (.invokevirtual 115, 3) := by decide +kernel
theorem dX6_release_5 : decode cX6_release 5 = .ok (.ifCond .eq 16, 3) := by decide +kernel
theorem dX6_release_8 : decode cX6_release 8 = .ok (.aload_n 0, 1) := by decide +kernel
theorem dX6_release_9 : decode cX6_release 9 = .ok (.iload_n 1, 1) := by decide +kernel
theorem dX6_release_10 : decode cX6_release 10 = .ok (.invokevirtual 149, 3) := by decide +kernel
theorem dX6_release_13 : decode cX6_release 13 = .ok (.iconst (-1), 1) := by decide +kernel
theorem dX6_release_14 : decode cX6_release 14 = .ok (.if_icmp .eq 7, 3) := by decide +kernel
theorem dX6_release_17 : decode cX6_release 17 = .ok (.iconst 1, 1) := by decide +kernel
theorem dX6_release_18 : decode cX6_release 18 = .ok (.goto 4, 3) := by decide +kernel
theorem dX6_release_21 : decode cX6_release 21 = .ok (.iconst 0, 1) := by decide +kernel
theorem dX6_release_22 : decode cX6_release 22 = .ok (.istore_n 3, 1) := by decide +kernel
theorem dX6_release_23 : decode cX6_release 23 = .ok (.iload_n 3, 1) := by decide +kernel
theorem dX6_release_24 : decode cX6_release 24 = .ok (.ifCond .eq 39, 3) := by decide +kernel
theorem dX6_release_27 : decode cX6_release 27 = .ok (.iload_n 2, 1) := by decide +kernel
theorem dX6_release_28 : decode cX6_release 28 = .ok (.iconst 1, 1) := by decide +kernel
theorem dX6_release_29 : decode cX6_release 29 = .ok (.aload_n 0, 1) := by decide +kernel
theorem dX6_release_30 : decode cX6_release 30 = .ok (.getfield 26, 3) := by decide +kernel
theorem dX6_release_33 : decode cX6_release 33 = .ok (.iload_n 1, 1) := by decide +kernel
theorem dX6_release_34 : decode cX6_release 34 = .ok (.iaload, 1) := by decide +kernel
theorem dX6_release_35 : decode cX6_release 35 = .ok (.ifCond .le 12, 3) := by decide +kernel
theorem dX6_release_38 : decode cX6_release 38 = .ok (.aload_n 0, 1) := by decide +kernel
theorem dX6_release_39 : decode cX6_release 39 = .ok (.getfield 26, 3) := by decide +kernel
theorem dX6_release_42 : decode cX6_release 42 = .ok (.iload_n 1, 1) := by decide +kernel
theorem dX6_release_43 : decode cX6_release 43 = .ok (.iaload, 1) := by decide +kernel
theorem dX6_release_44 : decode cX6_release 44 = .ok (.goto 9, 3) := by decide +kernel
theorem dX6_release_47 : decode cX6_release 47 = .ok (.aload_n 0, 1) := by decide +kernel
theorem dX6_release_48 : decode cX6_release 48 = .ok (.getfield 23, 3) := by decide +kernel
theorem dX6_release_51 : decode cX6_release 51 = .ok (.iload_n 1, 1) := by decide +kernel
theorem dX6_release_52 : decode cX6_release 52 = .ok (.iaload, 1) := by decide +kernel
theorem dX6_release_53 : decode cX6_release 53 = .ok (.invokestatic 111, 3) := by decide +kernel
theorem dX6_release_56 : decode cX6_release 56 = .ok (.ifCond .eq 7, 3) := by decide +kernel
theorem dX6_release_59 : decode cX6_release 59 = .ok (.iconst 1, 1) := by decide +kernel
theorem dX6_release_60 : decode cX6_release 60 = .ok (.goto 4, 3) := by decide +kernel
theorem dX6_release_63 : decode cX6_release 63 = .ok (.iconst 0, 1) := by decide +kernel
theorem dX6_release_64 : decode cX6_release 64 = .ok (.istore 4, 2) := by decide +kernel
theorem dX6_release_66 : decode cX6_release 66 = .ok (.aload_n 0, 1) := by decide +kernel
theorem dX6_release_67 : decode cX6_release 67 = .ok (.iload_n 3, 1) := by decide +kernel
theorem dX6_release_68 : decode cX6_release 68 = .ok (.iload 4, 2) := by decide +kernel
theorem dX6_release_70 : decode cX6_release 70 = .ok (.iload_n 3, 1) := by decide +kernel
theorem dX6_release_71 : decode cX6_release 71 = .ok (.ifCond .eq 38, 3) := by decide +kernel
theorem dX6_release_74 : decode cX6_release 74 = .ok (.aload_n 0, 1) := by decide +kernel
theorem dX6_release_75 : decode cX6_release 75 = .ok (.getfield 13, 3) := by decide +kernel
theorem dX6_release_78 : decode cX6_release 78 = .ok (.iload_n 1, 1) := by decide +kernel
theorem dX6_release_79 : decode cX6_release 79 = .ok (.baload, 1) := by decide +kernel
theorem dX6_release_80 : decode cX6_release 80 = .ok (.ifCond .ne 29, 3) := by decide +kernel
theorem dX6_release_83 : decode cX6_release 83 = .ok (.aload_n 0, 1) := by decide +kernel
theorem dX6_release_84 : decode cX6_release 84 = .ok (.getfield 152, 3) := by decide +kernel
theorem dX6_release_87 : decode cX6_release 87 = .ok (.aload_n 0, 1) := by decide +kernel
theorem dX6_release_88 : decode cX6_release 88 = .ok (.getfield 50, 3) := by decide +kernel
theorem dX6_release_91 : decode cX6_release 91 = .ok (.iload_n 1, 1) := by decide +kernel
theorem dX6_release_92 : decode cX6_release 92 = .ok (.iaload, 1) := by decide +kernel
theorem dX6_release_93 : decode cX6_release 93 = .ok (.if_icmp .lt 16, 3) := by decide +kernel
theorem dX6_release_96 : decode cX6_release 96 = .ok (.aload_n 0, 1) := by decide +kernel
theorem dX6_release_97 : decode cX6_release 97 = .ok (.iload_n 1, 1) := by decide +kernel
theorem dX6_release_98 : decode cX6_release 98 = .ok (.invokevirtual 140, 3) := by decide +kernel
theorem dX6_release_101 : decode cX6_release 101 = .ok (.iconst 4, 1) := by decide +kernel
theorem dX6_release_102 : decode cX6_release 102 = .ok (.if_icmp .ge 7, 3) := by decide +kernel
theorem dX6_release_105 : decode cX6_release 105 = .ok (.iconst 1, 1) := by decide +kernel
theorem dX6_release_106 : decode cX6_release 106 = .ok (.goto 4, 3) := by decide +kernel
theorem dX6_release_109 : decode cX6_release 109 = .ok (.iconst 0, 1) := by decide +kernel
theorem dX6_release_110 : decode cX6_release 110 = .ok (.invokevirtual 119, 3) := by decide +kernel
theorem dX6_release_113 : decode cX6_release 113 = .ok (.ifCond .ne 5, 3) := by decide +kernel
theorem dX6_release_116 : decode cX6_release 116 = .ok (.iconst 0, 1) := by decide +kernel
theorem dX6_release_117 : decode cX6_release 117 = .ok (.ireturn, 1) := by decide +kernel
theorem dX6_release_118 : decode cX6_release 118 = .ok (.aload_n 0, 1) := by decide +kernel
theorem dX6_release_119 : decode cX6_release 119 = .ok (.getfield 155, 3) := by decide +kernel
theorem dX6_release_122 : decode cX6_release 122 = .ok (.iconst 1, 1) := by decide +kernel
theorem dX6_release_123 : decode cX6_release 123 = .ok (.if_icmp .ne 24, 3) := by decide +kernel
theorem dX6_release_126 : decode cX6_release 126 = .ok (.aload_n 0, 1) := by decide +kernel
theorem dX6_release_127 : decode cX6_release 127 = .ok (.getfield 26, 3) := by decide +kernel
theorem dX6_release_130 : decode cX6_release 130 = .ok (.iload_n 1, 1) := by decide +kernel
theorem dX6_release_131 : decode cX6_release 131 = .ok (.iaload, 1) := by decide +kernel
theorem dX6_release_132 : decode cX6_release 132 = .ok (.ifCond .ne 15, 3) := by decide +kernel
theorem dX6_release_135 : decode cX6_release 135 = .ok (.aload_n 0, 1) := by decide +kernel
theorem dX6_release_136 : decode cX6_release 136 = .ok (.getfield 41, 3) := by decide +kernel
theorem dX6_release_139 : decode cX6_release 139 = .ok (.iload_n 1, 1) := by decide +kernel
theorem dX6_release_140 : decode cX6_release 140 = .ok (.dup2, 1) := by decide +kernel
theorem dX6_release_141 : decode cX6_release 141 = .ok (.iaload, 1) := by decide +kernel
theorem dX6_release_142 : decode cX6_release 142 = .ok (.iconst 1, 1) := by decide +kernel
theorem dX6_release_143 : decode cX6_release 143 = .ok (.iadd, 1) := by decide +kernel
theorem dX6_release_144 : decode cX6_release 144 = .ok (.iastore, 1) := by decide +kernel
theorem dX6_release_145 : decode cX6_release 145 = .ok (.iconst 0, 1) := by decide +kernel
theorem dX6_release_146 : decode cX6_release 146 = .ok (.ireturn, 1) := by decide +kernel
theorem dX6_release_147 : decode cX6_release 147 = .ok (.aload_n 0, 1) := by decide +kernel
theorem dX6_release_148 : decode cX6_release 148 = .ok (.getfield 38, 3) := by decide +kernel
theorem dX6_release_151 : decode cX6_release 151 = .ok (.iload_n 1, 1) := by decide +kernel
theorem dX6_release_152 : decode cX6_release 152 = .ok (.dup2, 1) := by decide +kernel
theorem dX6_release_153 : decode cX6_release 153 = .ok (.iaload, 1) := by decide +kernel
theorem dX6_release_154 : decode cX6_release 154 = .ok (.iconst 1, 1) := by decide +kernel
theorem dX6_release_155 : decode cX6_release 155 = .ok (.iadd, 1) := by decide +kernel
theorem dX6_release_156 : decode cX6_release 156 = .ok (.iastore, 1) := by decide +kernel
theorem dX6_release_157 : decode cX6_release 157 = .ok (.iload_n 1, 1) := by decide +kernel
theorem dX6_release_158 : decode cX6_release 158 = .ok (.aload_n 0, 1) := by decide +kernel
theorem dX6_release_159 : decode cX6_release 159 = .ok (.getfield 38, 3) := by decide +kernel
theorem dX6_release_162 : decode cX6_release 162 = .ok (.iload_n 1, 1) := by decide +kernel
theorem dX6_release_163 : decode cX6_release 163 = .ok (.iaload, 1) := by decide +kernel
theorem dX6_release_164 : decode cX6_release 164 = .ok (.invokestatic 133, 3) := by decide +kernel
theorem dX6_release_167 : decode cX6_release 167 = .ok (.istore 5, 2) := by decide +kernel
theorem dX6_release_169 : decode cX6_release 169 = .ok (.aload_n 0, 1) := by decide +kernel
theorem dX6_release_170 : decode cX6_release 170 = .ok (.getfield 53, 3) := by decide +kernel
theorem dX6_release_173 : decode cX6_release 173 = .ok (.iload 5, 2) := by decide +kernel
theorem dX6_release_175 : decode cX6_release 175 = .ok (.aload_n 0, 1) := by decide +kernel
theorem dX6_release_176 : decode cX6_release 176 = .ok (.getfield 152, 3) := by decide +kernel
theorem dX6_release_179 : decode cX6_release 179 = .ok (.iastore, 1) := by decide +kernel
theorem dX6_release_180 : decode cX6_release 180 = .ok (.aload_n 0, 1) := by decide +kernel
theorem dX6_release_181 : decode cX6_release 181 = .ok (.getfield 56, 3) := by decide +kernel
theorem dX6_release_184 : decode cX6_release 184 = .ok (.iload 5, 2) := by decide +kernel
theorem dX6_release_186 : decode cX6_release 186 = .ok (.iload_n 2, 1) := by decide +kernel
theorem dX6_release_187 : decode cX6_release 187 = .ok (.iastore, 1) := by decide +kernel
theorem dX6_release_188 : decode cX6_release 188 = .ok (.aload_n 0, 1) := by decide +kernel
theorem dX6_release_189 : decode cX6_release 189 = .ok (.getfield 59, 3) := by decide +kernel
theorem dX6_release_192 : decode cX6_release 192 = .ok (.iload 5, 2) := by decide +kernel
theorem dX6_release_194 : decode cX6_release 194 = .ok (.iconst 0, 1) := by decide +kernel
theorem dX6_release_195 : decode cX6_release 195 = .ok (.iastore, 1) := by decide +kernel
theorem dX6_release_196 : decode cX6_release 196 = .ok (.aload_n 0, 1) := by decide +kernel
theorem dX6_release_197 : decode cX6_release 197 = .ok (.getfield 62, 3) := by decide +kernel
theorem dX6_release_200 : decode cX6_release 200 = .ok (.iload 5, 2) := by decide +kernel
theorem dX6_release_202 : decode cX6_release 202 = .ok (.iconst (-1), 1) := by decide +kernel
theorem dX6_release_203 : decode cX6_release 203 = .ok (.iastore, 1) := by decide +kernel
theorem dX6_release_204 : decode cX6_release 204 = .ok (.aload_n 0, 1) := by decide +kernel
theorem dX6_release_205 : decode cX6_release 205 = .ok (.getfield 50, 3) := by decide +kernel
theorem dX6_release_208 : decode cX6_release 208 = .ok (.iload_n 1, 1) := by decide +kernel
theorem dX6_release_209 : decode cX6_release 209 = .ok (.aload_n 0, 1) := by decide +kernel
theorem dX6_release_210 : decode cX6_release 210 = .ok (.getfield 152, 3) := by decide +kernel
theorem dX6_release_213 : decode cX6_release 213 = .ok (.aload_n 0, 1) := by decide +kernel
theorem dX6_release_214 : decode cX6_release 214 = .ok (.getfield 16, 3) := by decide +kernel
theorem dX6_release_217 : decode cX6_release 217 = .ok (.iload_n 1, 1) := by decide +kernel
theorem dX6_release_218 : decode cX6_release 218 = .ok (.iaload, 1) := by decide +kernel
theorem dX6_release_219 : decode cX6_release 219 = .ok (.iadd, 1) := by decide +kernel
theorem dX6_release_220 : decode cX6_release 220 = .ok (.iastore, 1) := by decide +kernel
theorem dX6_release_221 : decode cX6_release 221 = .ok (.aload_n 0, 1) := by decide +kernel
theorem dX6_release_222 : decode cX6_release 222 = .ok (.getfield 38, 3) := by decide +kernel
theorem dX6_release_225 : decode cX6_release 225 = .ok (.iload_n 1, 1) := by decide +kernel
theorem dX6_release_226 : decode cX6_release 226 = .ok (.iaload, 1) := by decide +kernel
theorem dX6_release_227 : decode cX6_release 227 = .ok (.ireturn, 1) := by decide +kernel
set_option maxRecDepth 20000 in
theorem ggX6_giveUp_X6_isPending : GoodIn wsX6_giveUp wsX6_isPending := goodIn_r _ [10, 1, 4, 11, 12, 9, 13, 31, 32, 33, 34, 35, 36, 37, 38, 39, 40, 41, 42, 43, 44, 45, 46, 47, 48, 49, 50, 51, 52, 53, 54, 55, 56, 57, 58, 59, 60, 61, 62, 63, 64, 65] (by decide +kernel) (by decide +kernel)
set_option maxRecDepth 20000 in
theorem gX6_giveUp_X6_isPending : GoodIn wsX6_giveUp (wsV RX6 136 RX6 yX6_isPending wsX6_isPending) := goodIn_app (goodIn_of _ (by decide +kernel)) ggX6_giveUp_X6_isPending
set_option maxRecDepth 20000 in
theorem ggX6_giveUp_X6_at : GoodIn wsX6_giveUp wsX6_at := goodIn_r _ [13] (by decide +kernel) (by decide +kernel)
set_option maxRecDepth 20000 in
theorem gX6_giveUp_X6_at : GoodIn wsX6_giveUp (va_wsS RX6 133 yX6_at wsX6_at) := goodIn_app (goodIn_of _ (by decide +kernel)) ggX6_giveUp_X6_at
set_option maxRecDepth 20000 in
theorem ggX6_giveUp_X6_leave : GoodIn wsX6_giveUp wsX6_leave := goodIn_r _ [17, 2, 18, 19, 20, 21, 22, 23, 9, 24, 1, 6, 7, 8, 10, 4, 11, 12, 13, 25, 26, 27, 28, 29, 30, 31, 32, 33, 34, 35, 36, 37, 38, 39, 40, 41, 42, 43, 44, 45, 46, 47, 48, 49, 50, 51, 52, 53, 54, 55, 56, 57, 58, 59, 60, 61, 62, 63, 64, 65] (by decide +kernel) (by decide +kernel)
set_option maxRecDepth 20000 in
theorem gX6_giveUp_X6_leave : GoodIn wsX6_giveUp (wsV RX6 146 RX6 yX6_leave wsX6_leave) := goodIn_app (goodIn_of _ (by decide +kernel)) ggX6_giveUp_X6_leave
theorem dX6_giveUp_0 : decode cX6_giveUp 0 = .ok (.iconst 1, 1) := by decide +kernel
theorem dX6_giveUp_1 : decode cX6_giveUp 1 = .ok (.istore_n 1, 1) := by decide +kernel
theorem dX6_giveUp_2 : decode cX6_giveUp 2 = .ok (.iload_n 1, 1) := by decide +kernel
theorem dX6_giveUp_3 : decode cX6_giveUp 3 = .ok (.bipush 13, 2) := by decide +kernel
theorem dX6_giveUp_5 : decode cX6_giveUp 5 = .ok (.if_icmp .ge 84, 3) := by decide +kernel
theorem dX6_giveUp_8 : decode cX6_giveUp 8 = .ok (.aload_n 0, 1) := by decide +kernel
theorem dX6_giveUp_9 : decode cX6_giveUp 9 = .ok (.getfield 38, 3) := by decide +kernel
theorem dX6_giveUp_12 : decode cX6_giveUp 12 = .ok (.iload_n 1, 1) := by decide +kernel
theorem dX6_giveUp_13 : decode cX6_giveUp 13 = .ok (.iaload, 1) := by decide +kernel
theorem dX6_giveUp_14 : decode cX6_giveUp 14 = .ok (.bipush 7, 2) := by decide +kernel
theorem dX6_giveUp_16 : decode cX6_giveUp 16 = .ok (.isub, 1) := by decide +kernel
theorem dX6_giveUp_17 : decode cX6_giveUp 17 = .ok (.istore_n 2, 1) := by decide +kernel
theorem dX6_giveUp_18 : decode cX6_giveUp 18 = .ok (.iload_n 2, 1) := by decide +kernel
theorem dX6_giveUp_19 : decode cX6_giveUp 19 = .ok (.aload_n 0, 1) := by decide +kernel
theorem dX6_giveUp_20 : decode cX6_giveUp 20 = .ok (.getfield 38, 3) := by decide +kernel
theorem dX6_giveUp_23 : decode cX6_giveUp 23 = .ok (.iload_n 1, 1) := by decide +kernel
theorem dX6_giveUp_24 : decode cX6_giveUp 24 = .ok (.iaload, 1) := by decide +kernel
theorem dX6_giveUp_25 : decode cX6_giveUp 25 = .ok (.if_icmp .gt 58, 3) := by decide +kernel
theorem dX6_giveUp_28 : decode cX6_giveUp 28 = .ok (.aload_n 0, 1) := by decide +kernel
theorem dX6_giveUp_29 : decode cX6_giveUp 29 = .ok (.getfield 7, 3) := by decide +kernel
theorem dX6_giveUp_32 : decode cX6_giveUp 32 = .ok (.iload_n 1, 1) := by decide +kernel
theorem dX6_giveUp_33 : decode cX6_giveUp 33 = .ok (.baload, 1) := by decide +kernel
theorem dX6_giveUp_34 : decode cX6_giveUp 34 = .ok (.ifCond .eq 49, 3) := by decide +kernel
theorem dX6_giveUp_37 : decode cX6_giveUp 37 = .ok (.aload_n 0, 1) := by decide +kernel
theorem dX6_giveUp_38 : decode cX6_giveUp 38 = .ok (.getfield 26, 3) := by decide +kernel
theorem dX6_giveUp_41 : decode cX6_giveUp 41 = .ok (.iload_n 1, 1) := by decide +kernel
theorem dX6_giveUp_42 : decode cX6_giveUp 42 = .ok (.iaload, 1) := by decide +kernel
theorem dX6_giveUp_43 : decode cX6_giveUp 43 = .ok (.ifCond .ne 40, 3) := by decide +kernel
theorem dX6_giveUp_46 : decode cX6_giveUp 46 = .ok (.aload_n 0, 1) := by decide +kernel
theorem dX6_giveUp_47 : decode cX6_giveUp 47 = .ok (.iload_n 1, 1) := by decide +kernel
theorem dX6_giveUp_48 : decode cX6_giveUp 48 = .ok (.iload_n 2, 1) := by decide +kernel
theorem dX6_giveUp_49 : decode cX6_giveUp 49 = .ok (.invokevirtual 136, 3) := by decide +kernel
theorem dX6_giveUp_52 : decode cX6_giveUp 52 = .ok (.ifCond .eq 25, 3) := by decide +kernel
theorem dX6_giveUp_55 : decode cX6_giveUp 55 = .ok (.aload_n 0, 1) := by decide +kernel
theorem dX6_giveUp_56 : decode cX6_giveUp 56 = .ok (.getfield 62, 3) := by decide +kernel
theorem dX6_giveUp_59 : decode cX6_giveUp 59 = .ok (.iload_n 1, 1) := by decide +kernel
theorem dX6_giveUp_60 : decode cX6_giveUp 60 = .ok (.iload_n 2, 1) := by decide +kernel
theorem dX6_giveUp_61 : decode cX6_giveUp 61 = .ok (.invokestatic 133, 3) := by decide +kernel
theorem dX6_giveUp_64 : decode cX6_giveUp 64 = .ok (.bipush (-2), 2) := by decide +kernel
theorem dX6_giveUp_66 : decode cX6_giveUp 66 = .ok (.iastore, 1) := by decide +kernel
theorem dX6_giveUp_67 : decode cX6_giveUp 67 = .ok (.aload_n 0, 1) := by decide +kernel
theorem dX6_giveUp_68 : decode cX6_giveUp 68 = .ok (.dup, 1) := by decide +kernel
theorem dX6_giveUp_69 : decode cX6_giveUp 69 = .ok (.getfield 158, 3) := by decide +kernel
theorem dX6_giveUp_72 : decode cX6_giveUp 72 = .ok (.iconst 1, 1) := by decide +kernel
theorem dX6_giveUp_73 : decode cX6_giveUp 73 = .ok (.iadd, 1) := by decide +kernel
theorem dX6_giveUp_74 : decode cX6_giveUp 74 = .ok (.putfield 158, 3) := by decide +kernel
theorem dX6_giveUp_77 : decode cX6_giveUp 77 = .ok (.iinc 2 1, 3) := by decide +kernel
theorem dX6_giveUp_80 : decode cX6_giveUp 80 = .ok (.goto (-62), 3) := by decide +kernel
theorem dX6_giveUp_83 : decode cX6_giveUp 83 = .ok (.iinc 1 1, 3) := by decide +kernel
theorem dX6_giveUp_86 : decode cX6_giveUp 86 = .ok (.goto (-84), 3) := by decide +kernel
theorem dX6_giveUp_89 : decode cX6_giveUp 89 = .ok (.iconst 1, 1) := by decide +kernel
theorem dX6_giveUp_90 : decode cX6_giveUp 90 = .ok (.istore_n 1, 1) := by decide +kernel
theorem dX6_giveUp_91 : decode cX6_giveUp 91 = .ok (.iload_n 1, 1) := by decide +kernel
theorem dX6_giveUp_92 : decode cX6_giveUp 92 = .ok (.bipush 13, 2) := by decide +kernel
theorem dX6_giveUp_94 : decode cX6_giveUp 94 = .ok (.if_icmp .ge 23, 3) := by decide +kernel
theorem dX6_giveUp_97 : decode cX6_giveUp 97 = .ok (.aload_n 0, 1) := by decide +kernel
theorem dX6_giveUp_98 : decode cX6_giveUp 98 = .ok (.getfield 26, 3) := by decide +kernel
theorem dX6_giveUp_101 : decode cX6_giveUp 101 = .ok (.iload_n 1, 1) := by decide +kernel
theorem dX6_giveUp_102 : decode cX6_giveUp 102 = .ok (.iaload, 1) := by decide +kernel
theorem dX6_giveUp_103 : decode cX6_giveUp 103 = .ok (.ifCond .ne 8, 3) := by decide +kernel
theorem dX6_giveUp_106 : decode cX6_giveUp 106 = .ok (.aload_n 0, 1) := by decide +kernel
theorem dX6_giveUp_107 : decode cX6_giveUp 107 = .ok (.iload_n 1, 1) := by decide +kernel
theorem dX6_giveUp_108 : decode cX6_giveUp 108 = .ok (.invokevirtual 146, 3) := by decide +kernel
theorem dX6_giveUp_111 : decode cX6_giveUp 111 = .ok (.iinc 1 1, 3) := by decide +kernel
theorem dX6_giveUp_114 : decode cX6_giveUp 114 = .ok (.goto (-23), 3) := by decide +kernel
theorem dX6_giveUp_117 : decode cX6_giveUp 117 = .ok (.return_, 1) := by decide +kernel
set_option maxRecDepth 20000 in
theorem ggX6_firstJob_X6_isPending : GoodIn wsX6_firstJob wsX6_isPending := goodIn_r _ [6, 1, 7, 8, 9, 5, 10, 11, 12, 13, 14, 15, 16, 17, 18, 19, 20, 21, 22, 23, 24, 25, 26, 27, 28, 29, 30, 31, 32, 33, 34, 35, 36, 37, 38, 39, 40, 41, 42, 43, 44, 45] (by decide +kernel) (by decide +kernel)
set_option maxRecDepth 20000 in
theorem gX6_firstJob_X6_isPending : GoodIn wsX6_firstJob (wsV RX6 136 RX6 yX6_isPending wsX6_isPending) := goodIn_app (goodIn_of _ (by decide +kernel)) ggX6_firstJob_X6_isPending
theorem dX6_firstJob_0 : decode cX6_firstJob 0 = .ok (.aload_n 0, 1) := by decide +kernel
theorem dX6_firstJob_1 : decode cX6_firstJob 1 = .ok (.getfield 38, 3) := by decide +kernel
theorem dX6_firstJob_4 : decode cX6_firstJob 4 = .ok (.iload_n 1, 1) := by decide +kernel
theorem dX6_firstJob_5 : decode cX6_firstJob 5 = .ok (.iaload, 1) := by decide +kernel
theorem dX6_firstJob_6 : decode cX6_firstJob 6 = .ok (.bipush 8, 2) := by decide +kernel
theorem dX6_firstJob_8 : decode cX6_firstJob 8 = .ok (.if_icmp .ge 7, 3) := by decide +kernel
theorem dX6_firstJob_11 : decode cX6_firstJob 11 = .ok (.iconst 1, 1) := by decide +kernel
theorem dX6_firstJob_12 : decode cX6_firstJob 12 = .ok (.goto 12, 3) := by decide +kernel
theorem dX6_firstJob_15 : decode cX6_firstJob 15 = .ok (.aload_n 0, 1) := by decide +kernel
theorem dX6_firstJob_16 : decode cX6_firstJob 16 = .ok (.getfield 38, 3) := by decide +kernel
theorem dX6_firstJob_19 : decode cX6_firstJob 19 = .ok (.iload_n 1, 1) := by decide +kernel
theorem dX6_firstJob_20 : decode cX6_firstJob 20 = .ok (.iaload, 1) := by decide +kernel
theorem dX6_firstJob_21 : decode cX6_firstJob 21 = .ok (.bipush 7, 2) := by decide +kernel
theorem dX6_firstJob_23 : decode cX6_firstJob 23 = .ok (.isub, 1) := by decide +kernel
theorem dX6_firstJob_24 : decode cX6_firstJob 24 = .ok (.istore_n 2, 1) := by decide +kernel
theorem dX6_firstJob_25 : decode cX6_firstJob 25 = .ok (.aload_n 0, 1) := by decide +kernel
theorem dX6_firstJob_26 : decode cX6_firstJob 26 = .ok (.iload_n 1, 1) := by decide +kernel
theorem dX6_firstJob_27 : decode cX6_firstJob 27 = .ok (.iload_n 2, 1) := by decide +kernel
theorem dX6_firstJob_28 : decode cX6_firstJob 28 = .ok (.invokevirtual 136, 3) := by decide +kernel
theorem dX6_firstJob_31 : decode cX6_firstJob 31 = .ok (.ifCond .ne 9, 3) := by decide +kernel
theorem dX6_firstJob_34 : decode cX6_firstJob 34 = .ok (.iinc 2 1, 3) := by decide +kernel
theorem dX6_firstJob_37 : decode cX6_firstJob 37 = .ok (.goto (-12), 3) := by decide +kernel
theorem dX6_firstJob_40 : decode cX6_firstJob 40 = .ok (.iload_n 2, 1) := by decide +kernel
theorem dX6_firstJob_41 : decode cX6_firstJob 41 = .ok (.ireturn, 1) := by decide +kernel
set_option maxRecDepth 20000 in
theorem ggX6_charge_X6_firstJob : GoodIn wsX6_charge wsX6_firstJob := goodIn_r _ [18, 19, 20, 21, 22, 17, 23, 4, 24, 25, 26, 50, 51, 52, 53, 54, 55, 56, 57, 58, 59, 60, 61, 62, 63, 64, 65, 66, 67, 68, 69, 70, 71, 72, 73, 74, 75, 76, 77, 78, 79, 80, 81, 82, 83, 84] (by decide +kernel) (by decide +kernel)
set_option maxRecDepth 20000 in
theorem gX6_charge_X6_firstJob : GoodIn wsX6_charge (wsV RX6 161 RX6 yX6_firstJob wsX6_firstJob) := goodIn_app (goodIn_of _ (by decide +kernel)) ggX6_charge_X6_firstJob
set_option maxRecDepth 20000 in
theorem ggX6_charge_X6_at : GoodIn wsX6_charge wsX6_at := goodIn_r _ [26] (by decide +kernel) (by decide +kernel)
set_option maxRecDepth 20000 in
theorem gX6_charge_X6_at : GoodIn wsX6_charge (va_wsS RX6 133 yX6_at wsX6_at) := goodIn_app (goodIn_of _ (by decide +kernel)) ggX6_charge_X6_at
set_option maxRecDepth 20000 in
theorem ggX6_charge_X6_leave : GoodIn wsX6_charge wsX6_leave := goodIn_r _ [30, 31, 32, 33, 34, 35, 36, 37, 17, 38, 19, 20, 21, 22, 23, 4, 24, 25, 26, 39, 40, 41, 42, 43, 44, 50, 51, 52, 53, 54, 55, 56, 57, 58, 59, 60, 61, 62, 63, 64, 65, 66, 67, 68, 69, 70, 71, 72, 73, 74, 75, 76, 77, 78, 79, 80, 81, 82, 83, 84] (by decide +kernel) (by decide +kernel)
set_option maxRecDepth 20000 in
theorem gX6_charge_X6_leave : GoodIn wsX6_charge (wsV RX6 146 RX6 yX6_leave wsX6_leave) := goodIn_app (goodIn_of _ (by decide +kernel)) ggX6_charge_X6_leave
set_option maxRecDepth 20000 in
theorem ggX6_charge_X6_giveUp : GoodIn wsX6_charge wsX6_giveUp := goodIn_r _ [48, 19, 31, 10, 4, 49, 20, 21, 22, 17, 23, 24, 25, 26, 27, 28, 29, 30, 32, 33, 34, 35, 36, 37, 38, 39, 40, 41, 42, 43, 44, 50, 51, 52, 53, 54, 55, 56, 57, 58, 59, 60, 61, 62, 63, 64, 65, 66, 67, 68, 69, 70, 71, 72, 73, 74, 75, 76, 77, 78, 79, 80, 81, 82, 83, 84] (by decide +kernel) (by decide +kernel)
set_option maxRecDepth 20000 in
theorem gX6_charge_X6_giveUp : GoodIn wsX6_charge (wsV RX6 167 RX6 yX6_giveUp wsX6_giveUp) := goodIn_app (goodIn_of _ (by decide +kernel)) ggX6_charge_X6_giveUp
theorem dX6_charge_0 : decode cX6_charge 0 = .ok (.iload_n 1, 1) := by decide +kernel
theorem dX6_charge_1 : decode cX6_charge 1 = .ok (.aload_n 0, 1) := by decide +kernel
theorem dX6_charge_2 : decode cX6_charge 2 = .ok (.iload_n 1, 1) := by decide +kernel
theorem dX6_charge_3 : decode cX6_charge 3 = .ok (.invokevirtual 161, 3) := by decide +kernel
theorem dX6_charge_6 : decode cX6_charge 6 = .ok (.invokestatic 133, 3) := by decide +kernel
theorem dX6_charge_9 : decode cX6_charge 9 = .ok (.istore_n 2, 1) := by decide +kernel
theorem dX6_charge_10 : decode cX6_charge 10 = .ok (.aload_n 0, 1) := by decide +kernel
theorem dX6_charge_11 : decode cX6_charge 11 = .ok (.getfield 59, 3) := by decide +kernel
theorem dX6_charge_14 : decode cX6_charge 14 = .ok (.iload_n 2, 1) := by decide +kernel
theorem dX6_charge_15 : decode cX6_charge 15 = .ok (.dup2, 1) := by decide +kernel
theorem dX6_charge_16 : decode cX6_charge 16 = .ok (.iaload, 1) := by decide +kernel
theorem dX6_charge_17 : decode cX6_charge 17 = .ok (.iconst 1, 1) := by decide +kernel
theorem dX6_charge_18 : decode cX6_charge 18 = .ok (.iadd, 1) := by decide +kernel
theorem dX6_charge_19 : decode cX6_charge 19 = .ok (.iastore, 1) := by decide +kernel
theorem dX6_charge_20 : decode cX6_charge 20 = .ok (.aload_n 0, 1) := by decide +kernel
theorem dX6_charge_21 : decode cX6_charge 21 = .ok (.getfield 44, 3) := by decide +kernel
theorem dX6_charge_24 : decode cX6_charge 24 = .ok (.iload_n 1, 1) := by decide +kernel
theorem dX6_charge_25 : decode cX6_charge 25 = .ok (.dup2, 1) := by decide +kernel
theorem dX6_charge_26 : decode cX6_charge 26 = .ok (.iaload, 1) := by decide +kernel
theorem dX6_charge_27 : decode cX6_charge 27 = .ok (.iconst 1, 1) := by decide +kernel
theorem dX6_charge_28 : decode cX6_charge 28 = .ok (.iadd, 1) := by decide +kernel
theorem dX6_charge_29 : decode cX6_charge 29 = .ok (.iastore, 1) := by decide +kernel
theorem dX6_charge_30 : decode cX6_charge 30 = .ok (.aload_n 0, 1) := by decide +kernel
theorem dX6_charge_31 : decode cX6_charge 31 = .ok (.getfield 59, 3) := by decide +kernel
theorem dX6_charge_34 : decode cX6_charge 34 = .ok (.iload_n 2, 1) := by decide +kernel
theorem dX6_charge_35 : decode cX6_charge 35 = .ok (.iaload, 1) := by decide +kernel
theorem dX6_charge_36 : decode cX6_charge 36 = .ok (.aload_n 0, 1) := by decide +kernel
theorem dX6_charge_37 : decode cX6_charge 37 = .ok (.getfield 56, 3) := by decide +kernel
theorem dX6_charge_40 : decode cX6_charge 40 = .ok (.iload_n 2, 1) := by decide +kernel
theorem dX6_charge_41 : decode cX6_charge 41 = .ok (.iaload, 1) := by decide +kernel
theorem dX6_charge_42 : decode cX6_charge 42 = .ok (.if_icmp .ne 64, 3) := by decide +kernel
theorem dX6_charge_45 : decode cX6_charge 45 = .ok (.aload_n 0, 1) := by decide +kernel
theorem dX6_charge_46 : decode cX6_charge 46 = .ok (.getfield 62, 3) := by decide +kernel
theorem dX6_charge_49 : decode cX6_charge 49 = .ok (.iload_n 2, 1) := by decide +kernel
theorem dX6_charge_50 : decode cX6_charge 50 = .ok (.aload_n 0, 1) := by decide +kernel
theorem dX6_charge_51 : decode cX6_charge 51 = .ok (.getfield 152, 3) := by decide +kernel
theorem dX6_charge_54 : decode cX6_charge 54 = .ok (.iastore, 1) := by decide +kernel
theorem dX6_charge_55 : decode cX6_charge 55 = .ok (.aload_n 0, 1) := by decide +kernel
theorem dX6_charge_56 : decode cX6_charge 56 = .ok (.getfield 47, 3) := by decide +kernel
theorem dX6_charge_59 : decode cX6_charge 59 = .ok (.iload_n 1, 1) := by decide +kernel
theorem dX6_charge_60 : decode cX6_charge 60 = .ok (.aload_n 0, 1) := by decide +kernel
theorem dX6_charge_61 : decode cX6_charge 61 = .ok (.getfield 152, 3) := by decide +kernel
theorem dX6_charge_64 : decode cX6_charge 64 = .ok (.aload_n 0, 1) := by decide +kernel
theorem dX6_charge_65 : decode cX6_charge 65 = .ok (.getfield 53, 3) := by decide +kernel
theorem dX6_charge_68 : decode cX6_charge 68 = .ok (.iload_n 2, 1) := by decide +kernel
theorem dX6_charge_69 : decode cX6_charge 69 = .ok (.iaload, 1) := by decide +kernel
theorem dX6_charge_70 : decode cX6_charge 70 = .ok (.aload_n 0, 1) := by decide +kernel
theorem dX6_charge_71 : decode cX6_charge 71 = .ok (.getfield 20, 3) := by decide +kernel
theorem dX6_charge_74 : decode cX6_charge 74 = .ok (.iload_n 1, 1) := by decide +kernel
theorem dX6_charge_75 : decode cX6_charge 75 = .ok (.iaload, 1) := by decide +kernel
theorem dX6_charge_76 : decode cX6_charge 76 = .ok (.iadd, 1) := by decide +kernel
theorem dX6_charge_77 : decode cX6_charge 77 = .ok (.if_icmp .le 14, 3) := by decide +kernel
theorem dX6_charge_80 : decode cX6_charge 80 = .ok (.aload_n 0, 1) := by decide +kernel
theorem dX6_charge_81 : decode cX6_charge 81 = .ok (.getfield 47, 3) := by decide +kernel
theorem dX6_charge_84 : decode cX6_charge 84 = .ok (.iload_n 1, 1) := by decide +kernel
theorem dX6_charge_85 : decode cX6_charge 85 = .ok (.iaload, 1) := by decide +kernel
theorem dX6_charge_86 : decode cX6_charge 86 = .ok (.iconst 1, 1) := by decide +kernel
theorem dX6_charge_87 : decode cX6_charge 87 = .ok (.iadd, 1) := by decide +kernel
theorem dX6_charge_88 : decode cX6_charge 88 = .ok (.goto 9, 3) := by decide +kernel
theorem dX6_charge_91 : decode cX6_charge 91 = .ok (.aload_n 0, 1) := by decide +kernel
theorem dX6_charge_92 : decode cX6_charge 92 = .ok (.getfield 47, 3) := by decide +kernel
theorem dX6_charge_95 : decode cX6_charge 95 = .ok (.iload_n 1, 1) := by decide +kernel
theorem dX6_charge_96 : decode cX6_charge 96 = .ok (.iaload, 1) := by decide +kernel
theorem dX6_charge_97 : decode cX6_charge 97 = .ok (.iastore, 1) := by decide +kernel
theorem dX6_charge_98 : decode cX6_charge 98 = .ok (.aload_n 0, 1) := by decide +kernel
theorem dX6_charge_99 : decode cX6_charge 99 = .ok (.iload_n 1, 1) := by decide +kernel
theorem dX6_charge_100 : decode cX6_charge 100 = .ok (.invokevirtual 146, 3) := by decide +kernel
theorem dX6_charge_103 : decode cX6_charge 103 = .ok (.goto 69, 3) := by decide +kernel
theorem dX6_charge_106 : decode cX6_charge 106 = .ok (.aload_n 0, 1) := by decide +kernel
theorem dX6_charge_107 : decode cX6_charge 107 = .ok (.getfield 155, 3) := by decide +kernel
theorem dX6_charge_110 : decode cX6_charge 110 = .ok (.ifCond .ne 62, 3) := by decide +kernel
theorem dX6_charge_113 : decode cX6_charge 113 = .ok (.aload_n 0, 1) := by decide +kernel
theorem dX6_charge_114 : decode cX6_charge 114 = .ok (.getfield 26, 3) := by decide +kernel
theorem dX6_charge_117 : decode cX6_charge 117 = .ok (.iload_n 1, 1) := by decide +kernel
theorem dX6_charge_118 : decode cX6_charge 118 = .ok (.iaload, 1) := by decide +kernel
theorem dX6_charge_119 : decode cX6_charge 119 = .ok (.ifCond .le 53, 3) := by decide +kernel
theorem dX6_charge_122 : decode cX6_charge 122 = .ok (.aload_n 0, 1) := by decide +kernel
theorem dX6_charge_123 : decode cX6_charge 123 = .ok (.getfield 59, 3) := by decide +kernel
theorem dX6_charge_126 : decode cX6_charge 126 = .ok (.iload_n 2, 1) := by decide +kernel
theorem dX6_charge_127 : decode cX6_charge 127 = .ok (.iaload, 1) := by decide +kernel
theorem dX6_charge_128 : decode cX6_charge 128 = .ok (.aload_n 0, 1) := by decide +kernel
theorem dX6_charge_129 : decode cX6_charge 129 = .ok (.getfield 23, 3) := by decide +kernel
