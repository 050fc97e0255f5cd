theorem dX5_assign_50 : decode cX5_assign 50 = .ok (.iload_n 1, 1) := by decide +kernel
theorem dX5_assign_51 : decode cX5_assign 51 = .ok (.invokevirtual 147, 3) := by decide +kernel
theorem dX5_assign_54 : decode cX5_assign 54 = .ok (.iinc 1 (-1), 3) := by decide +kernel
theorem dX5_assign_57 : decode cX5_assign 57 = .ok (.goto (-36), 3) := by decide +kernel
theorem dX5_assign_60 : decode cX5_assign 60 = .ok (.aload_n 0, 1) := by decide +kernel
theorem dX5_assign_61 : decode cX5_assign 61 = .ok (.getfield 26, 3) := by decide +kernel
theorem dX5_assign_64 : decode cX5_assign 64 = .ok (.aload_n 0, 1) := by decide +kernel
theorem dX5_assign_65 : decode cX5_assign 65 = .ok (.getfield 33, 3) := by decide +kernel
theorem dX5_assign_68 : decode cX5_assign 68 = .ok (.invokevirtual 81, 3) := by decide +kernel
theorem dX5_assign_71 : decode cX5_assign 71 = .ok (.iconst 1, 1) := by decide +kernel
theorem dX5_assign_72 : decode cX5_assign 72 = .ok (.ireturn, 1) := by decide +kernel
set_option maxRecDepth 20000 in
theorem ggX5_response_X1_placeOf : GoodIn wsX5_response wsX1_placeOf := goodIn_r _ [11, 12, 13, 59, 60] (by decide +kernel) (by decide +kernel)
set_option maxRecDepth 20000 in
theorem gX5_response_X1_placeOf : GoodIn wsX5_response (wsV RX5 150 RX1 yX1_placeOf wsX1_placeOf) := goodIn_app (goodIn_of _ (by decide +kernel)) ggX5_response_X1_placeOf
set_option maxRecDepth 20000 in
theorem ggX5_response_X4_lowResponse : GoodIn wsX5_response wsX4_lowResponse := goodIn_r _ [18, 19, 20, 21, 22, 17, 23, 24, 25, 26, 27, 28, 29, 30, 31, 32, 33, 34, 35, 36, 37, 61, 59, 60, 62, 63, 64, 65, 66, 67, 68, 69, 70, 71, 72, 73, 74, 75] (by decide +kernel) (by decide +kernel)
set_option maxRecDepth 20000 in
theorem gX5_response_X4_lowResponse : GoodIn wsX5_response (wsV RX5 153 RX4 yX4_lowResponse wsX4_lowResponse) := goodIn_app (goodIn_of _ (by decide +kernel)) ggX5_response_X4_lowResponse
set_option maxRecDepth 20000 in
theorem ggX5_response_X4_bound : GoodIn wsX5_response wsX4_bound := goodIn_r _ [41, 19, 42, 43, 44, 34, 45, 36, 20, 21, 22, 17, 23, 24, 25, 26, 27, 28, 29, 30, 31, 32, 33, 35, 37, 61, 59, 60, 62, 63, 64, 65, 66, 67, 68, 69, 70, 71, 72, 73, 74, 75] (by decide +kernel) (by decide +kernel)
set_option maxRecDepth 20000 in
theorem gX5_response_X4_bound : GoodIn wsX5_response (wsV RX5 157 RX4 yX4_bound wsX4_bound) := goodIn_app (goodIn_of _ (by decide +kernel)) ggX5_response_X4_bound
theorem dX5_response_0 : decode cX5_response 0 = .ok (.aload_n 0, 1) := by decide +kernel
theorem dX5_response_1 : decode cX5_response 1 = .ok (.getfield 26, 3) := by decide +kernel
theorem dX5_response_4 : decode cX5_response 4 = .ok (.iload_n 1, 1) := by decide +kernel
theorem dX5_response_5 : decode cX5_response 5 = .ok (.invokevirtual 150, 3) := by decide +kernel
theorem dX5_response_8 : decode cX5_response 8 = .ok (.istore_n 3, 1) := by decide +kernel
theorem dX5_response_9 : decode cX5_response 9 = .ok (.iload_n 3, 1) := by decide +kernel
theorem dX5_response_10 : decode cX5_response 10 = .ok (.iconst (-1), 1) := by decide +kernel
theorem dX5_response_11 : decode cX5_response 11 = .ok (.if_icmp .ne 11, 3) := by decide +kernel
theorem dX5_response_14 : decode cX5_response 14 = .ok (.new 97, 3) := by decide +kernel
theorem dX5_response_17 : decode cX5_response 17 = .ok (.dup, 1) := by decide +kernel
theorem dX5_response_18 : decode cX5_response 18 = .ok (.invokespecial 99, 3) := by decide +kernel
theorem dX5_response_21 : decode cX5_response 21 = .ok (.athrow, 1) := by decide +kernel
theorem dX5_response_22 : decode cX5_response 22 = .ok (.iload_n 2, 1) := by decide +kernel
theorem dX5_response_23 : decode cX5_response 23 = .ok (.ifCond .ne 17, 3) := by decide +kernel
theorem dX5_response_26 : decode cX5_response 26 = .ok (.aload_n 0, 1) := by decide +kernel
theorem dX5_response_27 : decode cX5_response 27 = .ok (.getfield 12, 3) := by decide +kernel
theorem dX5_response_30 : decode cX5_response 30 = .ok (.aload_n 0, 1) := by decide +kernel
theorem dX5_response_31 : decode cX5_response 31 = .ok (.getfield 26, 3) := by decide +kernel
theorem dX5_response_34 : decode cX5_response 34 = .ok (.iload_n 3, 1) := by decide +kernel
theorem dX5_response_35 : decode cX5_response 35 = .ok (.iload_n 3, 1) := by decide +kernel
theorem dX5_response_36 : decode cX5_response 36 = .ok (.invokevirtual 153, 3) := by decide +kernel
theorem dX5_response_39 : decode cX5_response 39 = .ok (.ireturn, 1) := by decide +kernel
theorem dX5_response_40 : decode cX5_response 40 = .ok (.iload_n 2, 1) := by decide +kernel
theorem dX5_response_41 : decode cX5_response 41 = .ok (.iconst 1, 1) := by decide +kernel
theorem dX5_response_42 : decode cX5_response 42 = .ok (.if_icmp .ne 17, 3) := by decide +kernel
theorem dX5_response_45 : decode cX5_response 45 = .ok (.aload_n 0, 1) := by decide +kernel
theorem dX5_response_46 : decode cX5_response 46 = .ok (.getfield 12, 3) := by decide +kernel
theorem dX5_response_49 : decode cX5_response 49 = .ok (.aload_n 0, 1) := by decide +kernel
theorem dX5_response_50 : decode cX5_response 50 = .ok (.getfield 26, 3) := by decide +kernel
theorem dX5_response_53 : decode cX5_response 53 = .ok (.iload_n 3, 1) := by decide +kernel
theorem dX5_response_54 : decode cX5_response 54 = .ok (.iload_n 3, 1) := by decide +kernel
theorem dX5_response_55 : decode cX5_response 55 = .ok (.invokevirtual 157, 3) := by decide +kernel
theorem dX5_response_58 : decode cX5_response 58 = .ok (.ireturn, 1) := by decide +kernel
theorem dX5_response_59 : decode cX5_response 59 = .ok (.new 66, 3) := by decide +kernel
theorem dX5_response_62 : decode cX5_response 62 = .ok (.dup, 1) := by decide +kernel
theorem dX5_response_63 : decode cX5_response 63 = .ok (.invokespecial 68, 3) := by decide +kernel
theorem dX5_response_66 : decode cX5_response 66 = .ok (.athrow, 1) := by decide +kernel
set_option maxRecDepth 20000 in
theorem ggX5_ended_X5_isKnown : GoodIn wsX5_ended wsX5_isKnown := goodIn_r _ [8, 9, 10, 11, 12, 13, 14, 15, 16, 30, 31, 32, 33, 34, 35, 36, 37, 38, 39, 40, 41, 42, 57, 58] (by decide +kernel) (by decide +kernel)
set_option maxRecDepth 20000 in
theorem gX5_ended_X5_isKnown : GoodIn wsX5_ended (wsV RX5 69 RX5 yX5_isKnown wsX5_isKnown) := goodIn_app (goodIn_of _ (by decide +kernel)) ggX5_ended_X5_isKnown
set_option maxRecDepth 20000 in
theorem ggX5_ended_X3_keeps : GoodIn wsX5_ended wsX3_keeps := goodIn_r _ [21, 22, 43, 44, 45, 46, 47, 48, 49, 50, 51, 52, 53, 54, 55, 56] (by decide +kernel) (by decide +kernel)
set_option maxRecDepth 20000 in
theorem gX5_ended_X3_keeps : GoodIn wsX5_ended (wsV RX5 160 RX3 yX3_keeps wsX3_keeps) := goodIn_app (goodIn_of _ (by decide +kernel)) ggX5_ended_X3_keeps
set_option maxRecDepth 20000 in
theorem ggX5_ended_X5_slotOf : GoodIn wsX5_ended wsX5_slotOf := goodIn_r _ [25, 26, 27, 28, 29] (by decide +kernel) (by decide +kernel)
set_option maxRecDepth 20000 in
theorem gX5_ended_X5_slotOf : GoodIn wsX5_ended (va_wsS RX5 167 yX5_slotOf wsX5_slotOf) := goodIn_app (goodIn_of _ (by decide +kernel)) ggX5_ended_X5_slotOf
theorem dX5_ended_0 : decode cX5_ended 0 = .ok (.aload_n 0, 1) := by decide +kernel
theorem dX5_ended_1 : decode cX5_ended 1 = .ok (.iload_n 1, 1) := by decide +kernel
theorem dX5_ended_2 : decode cX5_ended 2 = .ok (.invokevirtual 69, 3) := by decide +kernel
theorem dX5_ended_5 : decode cX5_ended 5 = .ok (.ifCond .eq 16, 3) := by decide +kernel
theorem dX5_ended_8 : decode cX5_ended 8 = .ok (.aload_n 0, 1) := by decide +kernel
theorem dX5_ended_9 : decode cX5_ended 9 = .ok (.getfield 20, 3) := by decide +kernel
theorem dX5_ended_12 : decode cX5_ended 12 = .ok (.iload_n 1, 1) := by decide +kernel
theorem dX5_ended_13 : decode cX5_ended 13 = .ok (.aaload, 1) := by decide +kernel
theorem dX5_ended_14 : decode cX5_ended 14 = .ok (.iload_n 2, 1) := by decide +kernel
theorem dX5_ended_15 : decode cX5_ended 15 = .ok (.invokevirtual 160, 3) := by decide +kernel
theorem dX5_ended_18 : decode cX5_ended 18 = .ok (.ifCond .ne 11, 3) := by decide +kernel
theorem dX5_ended_21 : decode cX5_ended 21 = .ok (.new 97, 3) := by decide +kernel
theorem dX5_ended_24 : decode cX5_ended 24 = .ok (.dup, 1) := by decide +kernel
theorem dX5_ended_25 : decode cX5_ended 25 = .ok (.invokespecial 99, 3) := by decide +kernel
theorem dX5_ended_28 : decode cX5_ended 28 = .ok (.athrow, 1) := by decide +kernel
theorem dX5_ended_29 : decode cX5_ended 29 = .ok (.aload_n 0, 1) := by decide +kernel
theorem dX5_ended_30 : decode cX5_ended 30 = .ok (.getfield 20, 3) := by decide +kernel
theorem dX5_ended_33 : decode cX5_ended 33 = .ok (.iload_n 1, 1) := by decide +kernel
theorem dX5_ended_34 : decode cX5_ended 34 = .ok (.aaload, 1) := by decide +kernel
theorem dX5_ended_35 : decode cX5_ended 35 = .ok (.getfield 163, 3) := by decide +kernel
theorem dX5_ended_38 : decode cX5_ended 38 = .ok (.iload_n 2, 1) := by decide +kernel
theorem dX5_ended_39 : decode cX5_ended 39 = .ok (.invokestatic 167, 3) := by decide +kernel
theorem dX5_ended_42 : decode cX5_ended 42 = .ok (.iaload, 1) := by decide +kernel
theorem dX5_ended_43 : decode cX5_ended 43 = .ok (.ireturn, 1) := by decide +kernel
set_option maxRecDepth 20000 in
theorem ggX5_about_X5_isKnown : GoodIn wsX5_about wsX5_isKnown := goodIn_r _ [13, 7, 14, 15, 16, 17, 18, 19, 20, 46, 47, 48, 49, 50, 51, 52, 53, 54, 55, 56, 57, 58, 73, 74] (by decide +kernel) (by decide +kernel)
set_option maxRecDepth 20000 in
theorem gX5_about_X5_isKnown : GoodIn wsX5_about (wsV RX5 69 RX5 yX5_isKnown wsX5_isKnown) := goodIn_app (goodIn_of _ (by decide +kernel)) ggX5_about_X5_isKnown
set_option maxRecDepth 20000 in
theorem ggX5_about_X1_placeOf : GoodIn wsX5_about wsX1_placeOf := goodIn_r _ [18, 19, 20, 73, 74] (by decide +kernel) (by decide +kernel)
set_option maxRecDepth 20000 in
theorem gX5_about_X1_placeOf : GoodIn wsX5_about (wsV RX5 150 RX1 yX1_placeOf wsX1_placeOf) := goodIn_app (goodIn_of _ (by decide +kernel)) ggX5_about_X1_placeOf
set_option maxRecDepth 20000 in
theorem ggX5_about_X3_nextRelease : GoodIn wsX5_about wsX3_nextRelease := goodIn_r _ [25, 26, 27, 28, 29, 12, 30, 31, 32, 33, 34, 59, 60, 61, 62, 63, 64, 65, 66, 67, 68, 69, 70, 71, 72] (by decide +kernel) (by decide +kernel)
set_option maxRecDepth 20000 in
theorem gX5_about_X3_nextRelease : GoodIn wsX5_about (wsV RX5 117 RX3 yX3_nextRelease wsX3_nextRelease) := goodIn_app (goodIn_of _ (by decide +kernel)) ggX5_about_X3_nextRelease
set_option maxRecDepth 20000 in
theorem ggX5_about_X3_lateJobs : GoodIn wsX5_about wsX3_lateJobs := goodIn_r _ [38, 39, 40, 26, 29, 12, 30, 31, 32, 33, 34, 41, 42, 43, 24, 44, 27, 45, 59, 60, 61, 62, 63, 64, 65, 66, 67, 68, 69, 70, 71, 72] (by decide +kernel) (by decide +kernel)
set_option maxRecDepth 20000 in
theorem gX5_about_X3_lateJobs : GoodIn wsX5_about (wsV RX5 176 RX3 yX3_lateJobs wsX3_lateJobs) := goodIn_app (goodIn_of _ (by decide +kernel)) ggX5_about_X3_lateJobs
theorem dX5_about_0 : decode cX5_about 0 = .ok (.aload_n 0, 1) := by decide +kernel
theorem dX5_about_1 : decode cX5_about 1 = .ok (.iload_n 1, 1) := by decide +kernel
theorem dX5_about_2 : decode cX5_about 2 = .ok (.invokevirtual 69, 3) := by decide +kernel
theorem dX5_about_5 : decode cX5_about 5 = .ok (.ifCond .ne 11, 3) := by decide +kernel
theorem dX5_about_8 : decode cX5_about 8 = .ok (.new 97, 3) := by decide +kernel
theorem dX5_about_11 : decode cX5_about 11 = .ok (.dup, 1) := by decide +kernel
theorem dX5_about_12 : decode cX5_about 12 = .ok (.invokespecial 99, 3) := by decide +kernel
theorem dX5_about_15 : decode cX5_about 15 = .ok (.athrow, 1) := by decide +kernel
theorem dX5_about_16 : decode cX5_about 16 = .ok (.aload_n 0, 1) := by decide +kernel
theorem dX5_about_17 : decode cX5_about 17 = .ok (.getfield 20, 3) := by decide +kernel
theorem dX5_about_20 : decode cX5_about 20 = .ok (.iload_n 1, 1) := by decide +kernel
theorem dX5_about_21 : decode cX5_about 21 = .ok (.aaload, 1) := by decide +kernel
theorem dX5_about_22 : decode cX5_about 22 = .ok (.astore_n 3, 1) := by decide +kernel
theorem dX5_about_23 : decode cX5_about 23 = .ok (.iload_n 2, 1) := by decide +kernel
theorem dX5_about_24 : decode cX5_about 24 = .ok (.tableswitch 117 0 8 #[52, 61, 70, 75, 80, 85, 90, 95, 108], 52) := by decide +kernel
theorem dX5_about_76 : decode cX5_about 76 = .ok (.aload_n 0, 1) := by decide +kernel
theorem dX5_about_77 : decode cX5_about 77 = .ok (.getfield 30, 3) := by decide +kernel
theorem dX5_about_80 : decode cX5_about 80 = .ok (.iload_n 1, 1) := by decide +kernel
theorem dX5_about_81 : decode cX5_about 81 = .ok (.invokevirtual 150, 3) := by decide +kernel
theorem dX5_about_84 : decode cX5_about 84 = .ok (.ireturn, 1) := by decide +kernel
theorem dX5_about_85 : decode cX5_about 85 = .ok (.aload_n 0, 1) := by decide +kernel
theorem dX5_about_86 : decode cX5_about 86 = .ok (.getfield 26, 3) := by decide +kernel
theorem dX5_about_89 : decode cX5_about 89 = .ok (.iload_n 1, 1) := by decide +kernel
theorem dX5_about_90 : decode cX5_about 90 = .ok (.invokevirtual 150, 3) := by decide +kernel
theorem dX5_about_93 : decode cX5_about 93 = .ok (.ireturn, 1) := by decide +kernel
theorem dX5_about_94 : decode cX5_about 94 = .ok (.aload_n 3, 1) := by decide +kernel
theorem dX5_about_95 : decode cX5_about 95 = .ok (.getfield 120, 3) := by decide +kernel
theorem dX5_about_98 : decode cX5_about 98 = .ok (.ireturn, 1) := by decide +kernel
theorem dX5_about_99 : decode cX5_about 99 = .ok (.aload_n 3, 1) := by decide +kernel
theorem dX5_about_100 : decode cX5_about 100 = .ok (.getfield 170, 3) := by decide +kernel
theorem dX5_about_103 : decode cX5_about 103 = .ok (.ireturn, 1) := by decide +kernel
theorem dX5_about_104 : decode cX5_about 104 = .ok (.aload_n 3, 1) := by decide +kernel
theorem dX5_about_105 : decode cX5_about 105 = .ok (.getfield 130, 3) := by decide +kernel
theorem dX5_about_108 : decode cX5_about 108 = .ok (.ireturn, 1) := by decide +kernel
theorem dX5_about_109 : decode cX5_about 109 = .ok (.aload_n 3, 1) := by decide +kernel
theorem dX5_about_110 : decode cX5_about 110 = .ok (.getfield 173, 3) := by decide +kernel
theorem dX5_about_113 : decode cX5_about 113 = .ok (.ireturn, 1) := by decide +kernel
theorem dX5_about_114 : decode cX5_about 114 = .ok (.aload_n 3, 1) := by decide +kernel
theorem dX5_about_115 : decode cX5_about 115 = .ok (.invokevirtual 117, 3) := by decide +kernel
theorem dX5_about_118 : decode cX5_about 118 = .ok (.ireturn, 1) := by decide +kernel
theorem dX5_about_119 : decode cX5_about 119 = .ok (.aload_n 3, 1) := by decide +kernel
theorem dX5_about_120 : decode cX5_about 120 = .ok (.getfield 100, 3) := by decide +kernel
theorem dX5_about_123 : decode cX5_about 123 = .ok (.ifCond .eq 7, 3) := by decide +kernel
theorem dX5_about_126 : decode cX5_about 126 = .ok (.iconst 1, 1) := by decide +kernel
theorem dX5_about_127 : decode cX5_about 127 = .ok (.goto 4, 3) := by decide +kernel
theorem dX5_about_130 : decode cX5_about 130 = .ok (.iconst 0, 1) := by decide +kernel
theorem dX5_about_131 : decode cX5_about 131 = .ok (.ireturn, 1) := by decide +kernel
theorem dX5_about_132 : decode cX5_about 132 = .ok (.aload_n 3, 1) := by decide +kernel
theorem dX5_about_133 : decode cX5_about 133 = .ok (.aload_n 0, 1) := by decide +kernel
theorem dX5_about_134 : decode cX5_about 134 = .ok (.getfield 113, 3) := by decide +kernel
theorem dX5_about_137 : decode cX5_about 137 = .ok (.invokevirtual 176, 3) := by decide +kernel
theorem dX5_about_140 : decode cX5_about 140 = .ok (.ireturn, 1) := by decide +kernel
theorem dX5_about_141 : decode cX5_about 141 = .ok (.new 66, 3) := by decide +kernel
theorem dX5_about_144 : decode cX5_about 144 = .ok (.dup, 1) := by decide +kernel
theorem dX5_about_145 : decode cX5_about 145 = .ok (.invokespecial 68, 3) := by decide +kernel
theorem dX5_about_148 : decode cX5_about 148 = .ok (.athrow, 1) := by decide +kernel
set_option maxRecDepth 20000 in
theorem ggX5_witness_X2_releases : GoodIn wsX5_witness wsX2_releases := goodIn_r _ [10, 11, 12, 13, 14, 9, 15, 16, 17, 18, 19, 20, 47, 48, 49, 50] (by decide +kernel) (by decide +kernel)
set_option maxRecDepth 20000 in
theorem gX5_witness_X2_releases : GoodIn wsX5_witness (wsV RX5 179 RX2 yX2_releases wsX2_releases) := goodIn_app (goodIn_of _ (by decide +kernel)) ggX5_witness_X2_releases
set_option maxRecDepth 20000 in
theorem ggX5_witness_X2_timeOf : GoodIn wsX5_witness wsX2_timeOf := goodIn_r _ [24, 11, 12, 13, 14, 9, 15, 16, 17, 18, 19, 20, 47, 48, 49, 50] (by decide +kernel) (by decide +kernel)
set_option maxRecDepth 20000 in
theorem gX5_witness_X2_timeOf : GoodIn wsX5_witness (wsV RX5 182 RX2 yX2_timeOf wsX2_timeOf) := goodIn_app (goodIn_of _ (by decide +kernel)) ggX5_witness_X2_timeOf
set_option maxRecDepth 20000 in
theorem ggX5_witness_X2_taskOf : GoodIn wsX5_witness wsX2_taskOf := goodIn_r _ [28, 16, 17, 29, 30, 22, 23, 9, 24, 11, 12, 13, 14, 15, 18, 19, 20, 31, 32, 33, 47, 48, 49, 50] (by decide +kernel) (by decide +kernel)
set_option maxRecDepth 20000 in
theorem gX5_witness_X2_taskOf : GoodIn wsX5_witness (wsV RX5 185 RX2 yX2_taskOf wsX2_taskOf) := goodIn_app (goodIn_of _ (by decide +kernel)) ggX5_witness_X2_taskOf
theorem dX5_witness_0 : decode cX5_witness 0 = .ok (.iload_n 1, 1) := by decide +kernel
theorem dX5_witness_1 : decode cX5_witness 1 = .ok (.ifCond .lt 14, 3) := by decide +kernel
theorem dX5_witness_4 : decode cX5_witness 4 = .ok (.iload_n 1, 1) := by decide +kernel
theorem dX5_witness_5 : decode cX5_witness 5 = .ok (.aload_n 0, 1) := by decide +kernel
theorem dX5_witness_6 : decode cX5_witness 6 = .ok (.getfield 39, 3) := by decide +kernel
theorem dX5_witness_9 : decode cX5_witness 9 = .ok (.invokevirtual 179, 3) := by decide +kernel
theorem dX5_witness_12 : decode cX5_witness 12 = .ok (.if_icmp .lt 11, 3) := by decide +kernel
theorem dX5_witness_15 : decode cX5_witness 15 = .ok (.new 97, 3) := by decide +kernel
theorem dX5_witness_18 : decode cX5_witness 18 = .ok (.dup, 1) := by decide +kernel
theorem dX5_witness_19 : decode cX5_witness 19 = .ok (.invokespecial 99, 3) := by decide +kernel
theorem dX5_witness_22 : decode cX5_witness 22 = .ok (.athrow, 1) := by decide +kernel
theorem dX5_witness_23 : decode cX5_witness 23 = .ok (.iload_n 2, 1) := by decide +kernel
theorem dX5_witness_24 : decode cX5_witness 24 = .ok (.ifCond .ne 12, 3) := by decide +kernel
theorem dX5_witness_27 : decode cX5_witness 27 = .ok (.aload_n 0, 1) := by decide +kernel
theorem dX5_witness_28 : decode cX5_witness 28 = .ok (.getfield 39, 3) := by decide +kernel
theorem dX5_witness_31 : decode cX5_witness 31 = .ok (.iload_n 1, 1) := by decide +kernel
theorem dX5_witness_32 : decode cX5_witness 32 = .ok (.invokevirtual 182, 3) := by decide +kernel
theorem dX5_witness_35 : decode cX5_witness 35 = .ok (.ireturn, 1) := by decide +kernel
theorem dX5_witness_36 : decode cX5_witness 36 = .ok (.iload_n 2, 1) := by decide +kernel
theorem dX5_witness_37 : decode cX5_witness 37 = .ok (.iconst 1, 1) := by decide +kernel
theorem dX5_witness_38 : decode cX5_witness 38 = .ok (.if_icmp .ne 12, 3) := by decide +kernel
theorem dX5_witness_41 : decode cX5_witness 41 = .ok (.aload_n 0, 1) := by decide +kernel
theorem dX5_witness_42 : decode cX5_witness 42 = .ok (.getfield 39, 3) := by decide +kernel
theorem dX5_witness_45 : decode cX5_witness 45 = .ok (.iload_n 1, 1) := by decide +kernel
theorem dX5_witness_46 : decode cX5_witness 46 = .ok (.invokevirtual 185, 3) := by decide +kernel
theorem dX5_witness_49 : decode cX5_witness 49 = .ok (.ireturn, 1) := by decide +kernel
theorem dX5_witness_50 : decode cX5_witness 50 = .ok (.new 66, 3) := by decide +kernel
theorem dX5_witness_53 : decode cX5_witness 53 = .ok (.dup, 1) := by decide +kernel
theorem dX5_witness_54 : decode cX5_witness 54 = .ok (.invokespecial 68, 3) := by decide +kernel
theorem dX5_witness_57 : decode cX5_witness 57 = .ok (.athrow, 1) := by decide +kernel
set_option maxRecDepth 20000 in
theorem ggX5_trace_X0_keeps : GoodIn wsX5_trace wsX0_keeps := goodIn_r _ [8, 9, 10, 32, 33] (by decide +kernel) (by decide +kernel)
set_option maxRecDepth 20000 in
theorem gX5_trace_X0_keeps : GoodIn wsX5_trace (wsV RX5 188 RX0 yX0_keeps wsX0_keeps) := goodIn_app (goodIn_of _ (by decide +kernel)) ggX5_trace_X0_keeps
set_option maxRecDepth 20000 in
theorem ggX5_trace_X0_back : GoodIn wsX5_trace wsX0_back := goodIn_r _ [14, 9, 10, 15, 16, 17, 18, 32, 33] (by decide +kernel) (by decide +kernel)
set_option maxRecDepth 20000 in
theorem gX5_trace_X0_back : GoodIn wsX5_trace (wsV RX5 189 RX0 yX0_back wsX0_back) := goodIn_app (goodIn_of _ (by decide +kernel)) ggX5_trace_X0_back
theorem dX5_trace_0 : decode cX5_trace 0 = .ok (.aload_n 0, 1) := by decide +kernel
theorem dX5_trace_1 : decode cX5_trace 1 = .ok (.getfield 48, 3) := by decide +kernel
theorem dX5_trace_4 : decode cX5_trace 4 = .ok (.iload_n 1, 1) := by decide +kernel
theorem dX5_trace_5 : decode cX5_trace 5 = .ok (.invokevirtual 188, 3) := by decide +kernel
theorem dX5_trace_8 : decode cX5_trace 8 = .ok (.ifCond .ne 11, 3) := by decide +kernel
theorem dX5_trace_11 : decode cX5_trace 11 = .ok (.new 97, 3) := by decide +kernel
theorem dX5_trace_14 : decode cX5_trace 14 = .ok (.dup, 1) := by decide +kernel
theorem dX5_trace_15 : decode cX5_trace 15 = .ok (.invokespecial 99, 3) := by decide +kernel
theorem dX5_trace_18 : decode cX5_trace 18 = .ok (.athrow, 1) := by decide +kernel
theorem dX5_trace_19 : decode cX5_trace 19 = .ok (.aload_n 0, 1) := by decide +kernel
theorem dX5_trace_20 : decode cX5_trace 20 = .ok (.getfield 48, 3) := by decide +kernel
theorem dX5_trace_23 : decode cX5_trace 23 = .ok (.iload_n 1, 1) := by decide +kernel
theorem dX5_trace_24 : decode cX5_trace 24 = .ok (.invokevirtual 189, 3) := by decide +kernel
theorem dX5_trace_27 : decode cX5_trace 27 = .ok (.ireturn, 1) := by decide +kernel
set_option maxRecDepth 20000 in
theorem ggX5_changed_X0_keeps : GoodIn wsX5_changed wsX0_keeps := goodIn_r _ [8, 9, 10, 32, 33] (by decide +kernel) (by decide +kernel)
set_option maxRecDepth 20000 in
theorem gX5_changed_X0_keeps : GoodIn wsX5_changed (wsV RX5 188 RX0 yX0_keeps wsX0_keeps) := goodIn_app (goodIn_of _ (by decide +kernel)) ggX5_changed_X0_keeps
set_option maxRecDepth 20000 in
theorem ggX5_changed_X0_back : GoodIn wsX5_changed wsX0_back := goodIn_r _ [14, 9, 10, 15, 16, 17, 18, 32, 33] (by decide +kernel) (by decide +kernel)
set_option maxRecDepth 20000 in
theorem gX5_changed_X0_back : GoodIn wsX5_changed (wsV RX5 189 RX0 yX0_back wsX0_back) := goodIn_app (goodIn_of _ (by decide +kernel)) ggX5_changed_X0_back
theorem dX5_changed_0 : decode cX5_changed 0 = .ok (.aload_n 0, 1) := by decide +kernel
theorem dX5_changed_1 : decode cX5_changed 1 = .ok (.getfield 52, 3) := by decide +kernel
theorem dX5_changed_4 : decode cX5_changed 4 = .ok (.iload_n 1, 1) := by decide +kernel
theorem dX5_changed_5 : decode cX5_changed 5 = .ok (.invokevirtual 188, 3) := by decide +kernel
theorem dX5_changed_8 : decode cX5_changed 8 = .ok (.ifCond .ne 11, 3) := by decide +kernel
theorem dX5_changed_11 : decode cX5_changed 11 = .ok (.new 97, 3) := by decide +kernel
theorem dX5_changed_14 : decode cX5_changed 14 = .ok (.dup, 1) := by decide +kernel
theorem dX5_changed_15 : decode cX5_changed 15 = .ok (.invokespecial 99, 3) := by decide +kernel
theorem dX5_changed_18 : decode cX5_changed 18 = .ok (.athrow, 1) := by decide +kernel
theorem dX5_changed_19 : decode cX5_changed 19 = .ok (.aload_n 0, 1) := by decide +kernel
theorem dX5_changed_20 : decode cX5_changed 20 = .ok (.getfield 52, 3) := by decide +kernel
theorem dX5_changed_23 : decode cX5_changed 23 = .ok (.iload_n 1, 1) := by decide +kernel
theorem dX5_changed_24 : decode cX5_changed 24 = .ok (.invokevirtual 189, 3) := by decide +kernel
theorem dX5_changed_27 : decode cX5_changed 27 = .ok (.ireturn, 1) := by decide +kernel
set_option maxRecDepth 20000 in
theorem ggX5_count_X5_pendingJobs : GoodIn wsX5_count wsX5_pendingJobs := goodIn_r _ [15, 16, 17, 18, 19, 20, 21, 22, 23, 24, 25, 26, 27, 28, 29, 34, 35, 36, 37, 38, 39, 40, 41, 42, 43, 44, 45, 46, 47] (by decide +kernel) (by decide +kernel)
set_option maxRecDepth 20000 in
theorem gX5_count_X5_pendingJobs : GoodIn wsX5_count (wsV RX5 198 RX5 yX5_pendingJobs wsX5_pendingJobs) := goodIn_app (goodIn_of _ (by decide +kernel)) ggX5_count_X5_pendingJobs
theorem dX5_count_0 : decode cX5_count 0 = .ok (.iload_n 1, 1) := by decide +kernel
theorem dX5_count_1 : decode cX5_count 1 = .ok (.tableswitch 118 0 8 #[51, 56, 61, 74, 82, 90, 98, 103, 108], 51) := by decide +kernel
theorem dX5_count_52 : decode cX5_count 52 = .ok (.aload_n 0, 1) := by decide +kernel
theorem dX5_count_53 : decode cX5_count 53 = .ok (.getfield 113, 3) := by decide +kernel
theorem dX5_count_56 : decode cX5_count 56 = .ok (.ireturn, 1) := by decide +kernel
theorem dX5_count_57 : decode cX5_count 57 = .ok (.aload_n 0, 1) := by decide +kernel
theorem dX5_count_58 : decode cX5_count 58 = .ok (.getfield 192, 3) := by decide +kernel
theorem dX5_count_61 : decode cX5_count 61 = .ok (.ireturn, 1) := by decide +kernel
theorem dX5_count_62 : decode cX5_count 62 = .ok (.aload_n 0, 1) := by decide +kernel
theorem dX5_count_63 : decode cX5_count 63 = .ok (.getfield 123, 3) := by decide +kernel
theorem dX5_count_66 : decode cX5_count 66 = .ok (.ifCond .eq 7, 3) := by decide +kernel
theorem dX5_count_69 : decode cX5_count 69 = .ok (.iconst 1, 1) := by decide +kernel
theorem dX5_count_70 : decode cX5_count 70 = .ok (.goto 4, 3) := by decide +kernel
theorem dX5_count_73 : decode cX5_count 73 = .ok (.iconst 0, 1) := by decide +kernel
theorem dX5_count_74 : decode cX5_count 74 = .ok (.ireturn, 1) := by decide +kernel
theorem dX5_count_75 : decode cX5_count 75 = .ok (.aload_n 0, 1) := by decide +kernel
theorem dX5_count_76 : decode cX5_count 76 = .ok (.getfield 52, 3) := by decide +kernel
theorem dX5_count_79 : decode cX5_count 79 = .ok (.getfield 195, 3) := by decide +kernel
theorem dX5_count_82 : decode cX5_count 82 = .ok (.ireturn, 1) := by decide +kernel
theorem dX5_count_83 : decode cX5_count 83 = .ok (.aload_n 0, 1) := by decide +kernel
theorem dX5_count_84 : decode cX5_count 84 = .ok (.getfield 26, 3) := by decide +kernel
theorem dX5_count_87 : decode cX5_count 87 = .ok (.getfield 140, 3) := by decide +kernel
theorem dX5_count_90 : decode cX5_count 90 = .ok (.ireturn, 1) := by decide +kernel
theorem dX5_count_91 : decode cX5_count 91 = .ok (.aload_n 0, 1) := by decide +kernel
theorem dX5_count_92 : decode cX5_count 92 = .ok (.getfield 30, 3) := by decide +kernel
theorem dX5_count_95 : decode cX5_count 95 = .ok (.getfield 140, 3) := by decide +kernel
theorem dX5_count_98 : decode cX5_count 98 = .ok (.ireturn, 1) := by decide +kernel
theorem dX5_count_99 : decode cX5_count 99 = .ok (.aload_n 0, 1) := by decide +kernel
theorem dX5_count_100 : decode cX5_count 100 = .ok (.invokevirtual 198, 3) := by decide +kernel
theorem dX5_count_103 : decode cX5_count 103 = .ok (.ireturn, 1) := by decide +kernel
theorem dX5_count_104 : decode cX5_count 104 = .ok (.aload_n 0, 1) := by decide +kernel
theorem dX5_count_105 : decode cX5_count 105 = .ok (.getfield 201, 3) := by decide +kernel
theorem dX5_count_108 : decode cX5_count 108 = .ok (.ireturn, 1) := by decide +kernel
theorem dX5_count_109 : decode cX5_count 109 = .ok (.aload_n 0, 1) := by decide +kernel
theorem dX5_count_110 : decode cX5_count 110 = .ok (.getfield 113, 3) := by decide +kernel
theorem dX5_count_113 : decode cX5_count 113 = .ok (.aload_n 0, 1) := by decide +kernel
theorem dX5_count_114 : decode cX5_count 114 = .ok (.getfield 204, 3) := by decide +kernel
theorem dX5_count_117 : decode cX5_count 117 = .ok (.isub, 1) := by decide +kernel
theorem dX5_count_118 : decode cX5_count 118 = .ok (.ireturn, 1) := by decide +kernel
theorem dX5_count_119 : decode cX5_count 119 = .ok (.new 66, 3) := by decide +kernel
theorem dX5_count_122 : decode cX5_count 122 = .ok (.dup, 1) := by decide +kernel
theorem dX5_count_123 : decode cX5_count 123 = .ok (.invokespecial 68, 3) := by decide +kernel
theorem dX5_count_126 : decode cX5_count 126 = .ok (.athrow, 1) := by decide +kernel
theorem dX5_isTask_0 : decode cX5_isTask 0 = .ok (.iload_n 0, 1) := by decide +kernel
theorem dX5_isTask_1 : decode cX5_isTask 1 = .ok (.iconst 1, 1) := by decide +kernel
theorem dX5_isTask_2 : decode cX5_isTask 2 = .ok (.if_icmp .lt 13, 3) := by decide +kernel
theorem dX5_isTask_5 : decode cX5_isTask 5 = .ok (.iload_n 0, 1) := by decide +kernel
theorem dX5_isTask_6 : decode cX5_isTask 6 = .ok (.bipush 12, 2) := by decide +kernel
theorem dX5_isTask_8 : decode cX5_isTask 8 = .ok (.if_icmp .gt 7, 3) := by decide +kernel
theorem dX5_isTask_11 : decode cX5_isTask 11 = .ok (.iconst 1, 1) := by decide +kernel
theorem dX5_isTask_12 : decode cX5_isTask 12 = .ok (.goto 4, 3) := by decide +kernel
theorem dX5_isTask_15 : decode cX5_isTask 15 = .ok (.iconst 0, 1) := by decide +kernel
theorem dX5_isTask_16 : decode cX5_isTask 16 = .ok (.ireturn, 1) := by decide +kernel
theorem dX5_areTimes_0 : decode cX5_areTimes 0 = .ok (.iload_n 0, 1) := by decide +kernel
theorem dX5_areTimes_1 : decode cX5_areTimes 1 = .ok (.iconst 1, 1) := by decide +kernel
theorem dX5_areTimes_2 : decode cX5_areTimes 2 = .ok (.if_icmp .lt 24, 3) := by decide +kernel
theorem dX5_areTimes_5 : decode cX5_areTimes 5 = .ok (.iload_n 0, 1) := by decide +kernel
theorem dX5_areTimes_6 : decode cX5_areTimes 6 = .ok (.sipush 1000, 3) := by decide +kernel
theorem dX5_areTimes_9 : decode cX5_areTimes 9 = .ok (.if_icmp .gt 17, 3) := by decide +kernel
theorem dX5_areTimes_12 : decode cX5_areTimes 12 = .ok (.iload_n 1, 1) := by decide +kernel
theorem dX5_areTimes_13 : decode cX5_areTimes 13 = .ok (.iconst 1, 1) := by decide +kernel
theorem dX5_areTimes_14 : decode cX5_areTimes 14 = .ok (.if_icmp .lt 12, 3) := by decide +kernel
theorem dX5_areTimes_17 : decode cX5_areTimes 17 = .ok (.iload_n 1, 1) := by decide +kernel
theorem dX5_areTimes_18 : decode cX5_areTimes 18 = .ok (.iload_n 0, 1) := by decide +kernel
theorem dX5_areTimes_19 : decode cX5_areTimes 19 = .ok (.if_icmp .gt 7, 3) := by decide +kernel
theorem dX5_areTimes_22 : decode cX5_areTimes 22 = .ok (.iconst 1, 1) := by decide +kernel
theorem dX5_areTimes_23 : decode cX5_areTimes 23 = .ok (.goto 4, 3) := by decide +kernel
theorem dX5_areTimes_26 : decode cX5_areTimes 26 = .ok (.iconst 0, 1) := by decide +kernel
theorem dX5_areTimes_27 : decode cX5_areTimes 27 = .ok (.ireturn, 1) := by decide +kernel
theorem dX5_areBudgets_0 : decode cX5_areBudgets 0 = .ok (.iload_n 0, 1) := by decide +kernel
theorem dX5_areBudgets_1 : decode cX5_areBudgets 1 = .ok (.iconst 1, 1) := by decide +kernel
theorem dX5_areBudgets_2 : decode cX5_areBudgets 2 = .ok (.if_icmp .lt 29, 3) := by decide +kernel
theorem dX5_areBudgets_5 : decode cX5_areBudgets 5 = .ok (.iload_n 0, 1) := by decide +kernel
theorem dX5_areBudgets_6 : decode cX5_areBudgets 6 = .ok (.bipush 100, 2) := by decide +kernel
theorem dX5_areBudgets_8 : decode cX5_areBudgets 8 = .ok (.if_icmp .gt 23, 3) := by decide +kernel
theorem dX5_areBudgets_11 : decode cX5_areBudgets 11 = .ok (.iload_n 1, 1) := by decide +kernel
theorem dX5_areBudgets_12 : decode cX5_areBudgets 12 = .ok (.ifCond .eq 15, 3) := by decide +kernel
theorem dX5_areBudgets_15 : decode cX5_areBudgets 15 = .ok (.iload_n 1, 1) := by decide +kernel
theorem dX5_areBudgets_16 : decode cX5_areBudgets 16 = .ok (.iload_n 0, 1) := by decide +kernel
theorem dX5_areBudgets_17 : decode cX5_areBudgets 17 = .ok (.if_icmp .lt 14, 3) := by decide +kernel
theorem dX5_areBudgets_20 : decode cX5_areBudgets 20 = .ok (.iload_n 1, 1) := by decide +kernel
theorem dX5_areBudgets_21 : decode cX5_areBudgets 21 = .ok (.sipush 200, 3) := by decide +kernel
theorem dX5_areBudgets_24 : decode cX5_areBudgets 24 = .ok (.if_icmp .gt 7, 3) := by decide +kernel
theorem dX5_areBudgets_27 : decode cX5_areBudgets 27 = .ok (.iconst 1, 1) := by decide +kernel
theorem dX5_areBudgets_28 : decode cX5_areBudgets 28 = .ok (.goto 4, 3) := by decide +kernel
theorem dX5_areBudgets_31 : decode cX5_areBudgets 31 = .ok (.iconst 0, 1) := by decide +kernel
theorem dX5_areBudgets_32 : decode cX5_areBudgets 32 = .ok (.ireturn, 1) := by decide +kernel
set_option maxRecDepth 20000 in
theorem ggX5_slotOf_J9_floorMod_7cf53 : GoodIn wsX5_slotOf wsJ9_floorMod_7cf53 := goodIn_r _ [4] (by decide +kernel) (by decide +kernel)
set_option maxRecDepth 20000 in
theorem gX5_slotOf_J9_floorMod_7cf53 : GoodIn wsX5_slotOf (va_wsS RX5 207 yJ9_floorMod_7cf53 wsJ9_floorMod_7cf53) := goodIn_app (goodIn_of _ (by decide +kernel)) ggX5_slotOf_J9_floorMod_7cf53
theorem dX5_slotOf_0 : decode cX5_slotOf 0 = .ok (.iload_n 0, 1) := by decide +kernel
theorem dX5_slotOf_1 : decode cX5_slotOf 1 = .ok (.bipush 8, 2) := by decide +kernel
theorem dX5_slotOf_3 : decode cX5_slotOf 3 = .ok (.invokestatic 207, 3) := by decide +kernel
theorem dX5_slotOf_6 : decode cX5_slotOf 6 = .ok (.ireturn, 1) := by decide +kernel
theorem dX5_releasesWithin_0 : decode cX5_releasesWithin 0 = .ok (.iload_n 1, 1) := by decide +kernel
theorem dX5_releasesWithin_1 : decode cX5_releasesWithin 1 = .ok (.iconst 1, 1) := by decide +kernel
theorem dX5_releasesWithin_2 : decode cX5_releasesWithin 2 = .ok (.if_icmp .ge 7, 3) := by decide +kernel
theorem dX5_releasesWithin_5 : decode cX5_releasesWithin 5 = .ok (.iconst 0, 1) := by decide +kernel
theorem dX5_releasesWithin_6 : decode cX5_releasesWithin 6 = .ok (.goto 10, 3) := by decide +kernel
theorem dX5_releasesWithin_9 : decode cX5_releasesWithin 9 = .ok (.iload_n 0, 1) := by decide +kernel
theorem dX5_releasesWithin_10 : decode cX5_releasesWithin 10 = .ok (.iload_n 1, 1) := by decide +kernel
theorem dX5_releasesWithin_11 : decode cX5_releasesWithin 11 = .ok (.iadd, 1) := by decide +kernel
theorem dX5_releasesWithin_12 : decode cX5_releasesWithin 12 = .ok (.iconst 1, 1) := by decide +kernel
theorem dX5_releasesWithin_13 : decode cX5_releasesWithin 13 = .ok (.isub, 1) := by decide +kernel
theorem dX5_releasesWithin_14 : decode cX5_releasesWithin 14 = .ok (.iload_n 1, 1) := by decide +kernel
theorem dX5_releasesWithin_15 : decode cX5_releasesWithin 15 = .ok (.idiv, 1) := by decide +kernel
theorem dX5_releasesWithin_16 : decode cX5_releasesWithin 16 = .ok (.ireturn, 1) := by decide +kernel
set_option maxRecDepth 20000 in
theorem ggX5_isKnown_X1_placeOf : GoodIn wsX5_isKnown wsX1_placeOf := goodIn_r _ [6, 7, 8, 22, 23] (by decide +kernel) (by decide +kernel)
set_option maxRecDepth 20000 in
theorem gX5_isKnown_X1_placeOf : GoodIn wsX5_isKnown (wsV RX5 150 RX1 yX1_placeOf wsX1_placeOf) := goodIn_app (goodIn_of _ (by decide +kernel)) ggX5_isKnown_X1_placeOf
theorem dX5_isKnown_0 : decode cX5_isKnown 0 = .ok (.aload_n 0, 1) := by decide +kernel
theorem dX5_isKnown_1 : decode cX5_isKnown 1 = .ok (.getfield 26, 3) := by decide +kernel
theorem dX5_isKnown_4 : decode cX5_isKnown 4 = .ok (.iload_n 1, 1) := by decide +kernel
theorem dX5_isKnown_5 : decode cX5_isKnown 5 = .ok (.invokevirtual 150, 3) := by decide +kernel
theorem dX5_isKnown_8 : decode cX5_isKnown 8 = .ok (.iconst (-1), 1) := by decide +kernel
theorem dX5_isKnown_9 : decode cX5_isKnown 9 = .ok (.if_icmp .eq 7, 3) := by decide +kernel
theorem dX5_isKnown_12 : decode cX5_isKnown 12 = .ok (.iconst 1, 1) := by decide +kernel
theorem dX5_isKnown_13 : decode cX5_isKnown 13 = .ok (.goto 4, 3) := by decide +kernel
theorem dX5_isKnown_16 : decode cX5_isKnown 16 = .ok (.iconst 0, 1) := by decide +kernel
theorem dX5_isKnown_17 : decode cX5_isKnown 17 = .ok (.ireturn, 1) := by decide +kernel
set_option maxRecDepth 20000 in
theorem ggX5_isInForce_X1_placeOf : GoodIn wsX5_isInForce wsX1_placeOf := goodIn_r _ [6, 7, 8, 22, 23] (by decide +kernel) (by decide +kernel)
set_option maxRecDepth 20000 in
theorem gX5_isInForce_X1_placeOf : GoodIn wsX5_isInForce (wsV RX5 150 RX1 yX1_placeOf wsX1_placeOf) := goodIn_app (goodIn_of _ (by decide +kernel)) ggX5_isInForce_X1_placeOf
theorem dX5_isInForce_0 : decode cX5_isInForce 0 = .ok (.aload_n 0, 1) := by decide +kernel
theorem dX5_isInForce_1 : decode cX5_isInForce 1 = .ok (.getfield 30, 3) := by decide +kernel
theorem dX5_isInForce_4 : decode cX5_isInForce 4 = .ok (.iload_n 1, 1) := by decide +kernel
theorem dX5_isInForce_5 : decode cX5_isInForce 5 = .ok (.invokevirtual 150, 3) := by decide +kernel
theorem dX5_isInForce_8 : decode cX5_isInForce 8 = .ok (.iconst (-1), 1) := by decide +kernel
theorem dX5_isInForce_9 : decode cX5_isInForce 9 = .ok (.if_icmp .eq 7, 3) := by decide +kernel
theorem dX5_isInForce_12 : decode cX5_isInForce 12 = .ok (.iconst 1, 1) := by decide +kernel
theorem dX5_isInForce_13 : decode cX5_isInForce 13 = .ok (.goto 4, 3) := by decide +kernel
theorem dX5_isInForce_16 : decode cX5_isInForce 16 = .ok (.iconst 0, 1) := by decide +kernel
theorem dX5_isInForce_17 : decode cX5_isInForce 17 = .ok (.ireturn, 1) := by decide +kernel
theorem dX5_placeFor_0 : decode cX5_placeFor 0 = .ok (.aload_n 0, 1) := by decide +kernel
theorem dX5_placeFor_1 : decode cX5_placeFor 1 = .ok (.getfield 26, 3) := by decide +kernel
theorem dX5_placeFor_4 : decode cX5_placeFor 4 = .ok (.getfield 140, 3) := by decide +kernel
theorem dX5_placeFor_7 : decode cX5_placeFor 7 = .ok (.iconst 1, 1) := by decide +kernel
theorem dX5_placeFor_8 : decode cX5_placeFor 8 = .ok (.isub, 1) := by decide +kernel
theorem dX5_placeFor_9 : decode cX5_placeFor 9 = .ok (.istore_n 2, 1) := by decide +kernel
theorem dX5_placeFor_10 : decode cX5_placeFor 10 = .ok (.iload_n 2, 1) := by decide +kernel
theorem dX5_placeFor_11 : decode cX5_placeFor 11 = .ok (.ifCond .lt 34, 3) := by decide +kernel
theorem dX5_placeFor_14 : decode cX5_placeFor 14 = .ok (.aload_n 0, 1) := by decide +kernel
theorem dX5_placeFor_15 : decode cX5_placeFor 15 = .ok (.getfield 20, 3) := by decide +kernel
theorem dX5_placeFor_18 : decode cX5_placeFor 18 = .ok (.aload_n 0, 1) := by decide +kernel
theorem dX5_placeFor_19 : decode cX5_placeFor 19 = .ok (.getfield 26, 3) := by decide +kernel
theorem dX5_placeFor_22 : decode cX5_placeFor 22 = .ok (.getfield 212, 3) := by decide +kernel
theorem dX5_placeFor_25 : decode cX5_placeFor 25 = .ok (.iload_n 2, 1) := by decide +kernel
theorem dX5_placeFor_26 : decode cX5_placeFor 26 = .ok (.iaload, 1) := by decide +kernel
theorem dX5_placeFor_27 : decode cX5_placeFor 27 = .ok (.aaload, 1) := by decide +kernel
theorem dX5_placeFor_28 : decode cX5_placeFor 28 = .ok (.getfield 215, 3) := by decide +kernel
theorem dX5_placeFor_31 : decode cX5_placeFor 31 = .ok (.iload_n 1, 1) := by decide +kernel
theorem dX5_placeFor_32 : decode cX5_placeFor 32 = .ok (.if_icmp .gt 7, 3) := by decide +kernel
theorem dX5_placeFor_35 : decode cX5_placeFor 35 = .ok (.iload_n 2, 1) := by decide +kernel
theorem dX5_placeFor_36 : decode cX5_placeFor 36 = .ok (.iconst 1, 1) := by decide +kernel
theorem dX5_placeFor_37 : decode cX5_placeFor 37 = .ok (.iadd, 1) := by decide +kernel
theorem dX5_placeFor_38 : decode cX5_placeFor 38 = .ok (.ireturn, 1) := by decide +kernel
theorem dX5_placeFor_39 : decode cX5_placeFor 39 = .ok (.iinc 2 (-1), 3) := by decide +kernel
theorem dX5_placeFor_42 : decode cX5_placeFor 42 = .ok (.goto (-32), 3) := by decide +kernel
theorem dX5_placeFor_45 : decode cX5_placeFor 45 = .ok (.iconst 0, 1) := by decide +kernel
theorem dX5_placeFor_46 : decode cX5_placeFor 46 = .ok (.ireturn, 1) := by decide +kernel
set_option maxRecDepth 20000 in
theorem ggX5_admitTrial_X4_firstLowResponseThatFails : GoodIn wsX5_admitTrial wsX4_firstLowResponseThatFails := goodIn_r _ [10, 11, 12, 13, 14, 9, 15, 16, 17, 18, 19, 20, 21, 22, 23, 24, 25, 26, 27, 28, 29, 30, 31, 32, 33, 79, 80, 81, 82, 83, 84, 85, 86, 87, 88, 89, 90, 91, 92, 93, 94, 95] (by decide +kernel) (by decide +kernel)
set_option maxRecDepth 20000 in
theorem gX5_admitTrial_X4_firstLowResponseThatFails : GoodIn wsX5_admitTrial (wsV RX5 218 RX4 yX4_firstLowResponseThatFails wsX4_firstLowResponseThatFails) := goodIn_app (goodIn_of _ (by decide +kernel)) ggX5_admitTrial_X4_firstLowResponseThatFails
set_option maxRecDepth 20000 in
theorem ggX5_admitTrial_X2_keep : GoodIn wsX5_admitTrial wsX2_keep := goodIn_r _ [38, 39, 40, 41, 42, 96, 97, 98, 99, 79, 80, 82, 83, 84, 85, 86, 87, 88, 89, 90, 91, 92, 93, 94, 95] (by decide +kernel) (by decide +kernel)
set_option maxRecDepth 20000 in
theorem gX5_admitTrial_X2_keep : GoodIn wsX5_admitTrial (wsV RX5 222 RX2 yX2_keep wsX2_keep) := goodIn_app (goodIn_of _ (by decide +kernel)) ggX5_admitTrial_X2_keep
set_option maxRecDepth 20000 in
theorem ggX5_admitTrial_X4_firstBoundThatFails : GoodIn wsX5_admitTrial wsX4_firstBoundThatFails := goodIn_r _ [46, 11, 47, 48, 49, 9, 50, 51, 52, 53, 30, 54, 32, 16, 17, 18, 19, 20, 21, 22, 23, 24, 25, 26, 27, 28, 29, 31, 33, 79, 80, 81, 82, 83, 84, 85, 86, 87, 88, 89, 90, 91, 92, 93, 94, 95] (by decide +kernel) (by decide +kernel)
set_option maxRecDepth 20000 in
theorem gX5_admitTrial_X4_firstBoundThatFails : GoodIn wsX5_admitTrial (wsV RX5 226 RX4 yX4_firstBoundThatFails wsX4_firstBoundThatFails) := goodIn_app (goodIn_of _ (by decide +kernel)) ggX5_admitTrial_X4_firstBoundThatFails
set_option maxRecDepth 20000 in
theorem ggX5_admitTrial_X1_become : GoodIn wsX5_admitTrial wsX1_become := goodIn_r _ [59, 60, 61, 62, 63, 64, 65, 79, 80] (by decide +kernel) (by decide +kernel)
set_option maxRecDepth 20000 in
theorem gX5_admitTrial_X1_become : GoodIn wsX5_admitTrial (wsV RX5 81 RX1 yX1_become wsX1_become) := goodIn_app (goodIn_of _ (by decide +kernel)) ggX5_admitTrial_X1_become
theorem dX5_admitTrial_0 : decode cX5_admitTrial 0 = .ok (.aload_n 0, 1) := by decide +kernel
theorem dX5_admitTrial_1 : decode cX5_admitTrial 1 = .ok (.getfield 12, 3) := by decide +kernel
theorem dX5_admitTrial_4 : decode cX5_admitTrial 4 = .ok (.aload_n 0, 1) := by decide +kernel
theorem dX5_admitTrial_5 : decode cX5_admitTrial 5 = .ok (.getfield 33, 3) := by decide +kernel
theorem dX5_admitTrial_8 : decode cX5_admitTrial 8 = .ok (.invokevirtual 218, 3) := by decide +kernel
theorem dX5_admitTrial_11 : decode cX5_admitTrial 11 = .ok (.istore_n 1, 1) := by decide +kernel
theorem dX5_admitTrial_12 : decode cX5_admitTrial 12 = .ok (.iload_n 1, 1) := by decide +kernel
theorem dX5_admitTrial_13 : decode cX5_admitTrial 13 = .ok (.iconst (-1), 1) := by decide +kernel
theorem dX5_admitTrial_14 : decode cX5_admitTrial 14 = .ok (.if_icmp .eq 29, 3) := by decide +kernel
theorem dX5_admitTrial_17 : decode cX5_admitTrial 17 = .ok (.aload_n 0, 1) := by decide +kernel
theorem dX5_admitTrial_18 : decode cX5_admitTrial 18 = .ok (.getfield 39, 3) := by decide +kernel
theorem dX5_admitTrial_21 : decode cX5_admitTrial 21 = .ok (.aload_n 0, 1) := by decide +kernel
theorem dX5_admitTrial_22 : decode cX5_admitTrial 22 = .ok (.getfield 33, 3) := by decide +kernel
theorem dX5_admitTrial_25 : decode cX5_admitTrial 25 = .ok (.iload_n 1, 1) := by decide +kernel
theorem dX5_admitTrial_26 : decode cX5_admitTrial 26 = .ok (.aload_n 0, 1) := by decide +kernel
theorem dX5_admitTrial_27 : decode cX5_admitTrial 27 = .ok (.getfield 20, 3) := by decide +kernel
theorem dX5_admitTrial_30 : decode cX5_admitTrial 30 = .ok (.invokevirtual 222, 3) := by decide +kernel
theorem dX5_admitTrial_33 : decode cX5_admitTrial 33 = .ok (.aload_n 0, 1) := by decide +kernel
theorem dX5_admitTrial_34 : decode cX5_admitTrial 34 = .ok (.getfield 33, 3) := by decide +kernel
theorem dX5_admitTrial_37 : decode cX5_admitTrial 37 = .ok (.getfield 212, 3) := by decide +kernel
theorem dX5_admitTrial_40 : decode cX5_admitTrial 40 = .ok (.iload_n 1, 1) := by decide +kernel
theorem dX5_admitTrial_41 : decode cX5_admitTrial 41 = .ok (.iaload, 1) := by decide +kernel
theorem dX5_admitTrial_42 : decode cX5_admitTrial 42 = .ok (.ireturn, 1) := by decide +kernel
theorem dX5_admitTrial_43 : decode cX5_admitTrial 43 = .ok (.aload_n 0, 1) := by decide +kernel
theorem dX5_admitTrial_44 : decode cX5_admitTrial 44 = .ok (.getfield 12, 3) := by decide +kernel
theorem dX5_admitTrial_47 : decode cX5_admitTrial 47 = .ok (.aload_n 0, 1) := by decide +kernel
theorem dX5_admitTrial_48 : decode cX5_admitTrial 48 = .ok (.getfield 33, 3) := by decide +kernel
theorem dX5_admitTrial_51 : decode cX5_admitTrial 51 = .ok (.invokevirtual 226, 3) := by decide +kernel
theorem dX5_admitTrial_54 : decode cX5_admitTrial 54 = .ok (.istore_n 2, 1) := by decide +kernel
theorem dX5_admitTrial_55 : decode cX5_admitTrial 55 = .ok (.iload_n 2, 1) := by decide +kernel
theorem dX5_admitTrial_56 : decode cX5_admitTrial 56 = .ok (.iconst (-1), 1) := by decide +kernel
theorem dX5_admitTrial_57 : decode cX5_admitTrial 57 = .ok (.if_icmp .eq 14, 3) := by decide +kernel
theorem dX5_admitTrial_60 : decode cX5_admitTrial 60 = .ok (.aload_n 0, 1) := by decide +kernel
theorem dX5_admitTrial_61 : decode cX5_admitTrial 61 = .ok (.getfield 33, 3) := by decide +kernel
theorem dX5_admitTrial_64 : decode cX5_admitTrial 64 = .ok (.getfield 212, 3) := by decide +kernel
theorem dX5_admitTrial_67 : decode cX5_admitTrial 67 = .ok (.iload_n 2, 1) := by decide +kernel
theorem dX5_admitTrial_68 : decode cX5_admitTrial 68 = .ok (.iaload, 1) := by decide +kernel
theorem dX5_admitTrial_69 : decode cX5_admitTrial 69 = .ok (.ineg, 1) := by decide +kernel
theorem dX5_admitTrial_70 : decode cX5_admitTrial 70 = .ok (.ireturn, 1) := by decide +kernel
theorem dX5_admitTrial_71 : decode cX5_admitTrial 71 = .ok (.aload_n 0, 1) := by decide +kernel
theorem dX5_admitTrial_72 : decode cX5_admitTrial 72 = .ok (.getfield 26, 3) := by decide +kernel
theorem dX5_admitTrial_75 : decode cX5_admitTrial 75 = .ok (.aload_n 0, 1) := by decide +kernel
theorem dX5_admitTrial_76 : decode cX5_admitTrial 76 = .ok (.getfield 33, 3) := by decide +kernel
theorem dX5_admitTrial_79 : decode cX5_admitTrial 79 = .ok (.invokevirtual 81, 3) := by decide +kernel
theorem dX5_admitTrial_82 : decode cX5_admitTrial 82 = .ok (.iconst 0, 1) := by decide +kernel
theorem dX5_admitTrial_83 : decode cX5_admitTrial 83 = .ok (.ireturn, 1) := by decide +kernel
theorem dX5_pendingJobs_0 : decode cX5_pendingJobs 0 = .ok (.iconst 0, 1) := by decide +kernel
theorem dX5_pendingJobs_1 : decode cX5_pendingJobs 1 = .ok (.istore_n 1, 1) := by decide +kernel
theorem dX5_pendingJobs_2 : decode cX5_pendingJobs 2 = .ok (.iconst 1, 1) := by decide +kernel
theorem dX5_pendingJobs_3 : decode cX5_pendingJobs 3 = .ok (.istore_n 2, 1) := by decide +kernel
theorem dX5_pendingJobs_4 : decode cX5_pendingJobs 4 = .ok (.iload_n 2, 1) := by decide +kernel
theorem dX5_pendingJobs_5 : decode cX5_pendingJobs 5 = .ok (.bipush 12, 2) := by decide +kernel
theorem dX5_pendingJobs_7 : decode cX5_pendingJobs 7 = .ok (.if_icmp .gt 21, 3) := by decide +kernel
theorem dX5_pendingJobs_10 : decode cX5_pendingJobs 10 = .ok (.iload_n 1, 1) := by decide +kernel
theorem dX5_pendingJobs_11 : decode cX5_pendingJobs 11 = .ok (.aload_n 0, 1) := by decide +kernel
theorem dX5_pendingJobs_12 : decode cX5_pendingJobs 12 = .ok (.getfield 20, 3) := by decide +kernel
theorem dX5_pendingJobs_15 : decode cX5_pendingJobs 15 = .ok (.iload_n 2, 1) := by decide +kernel
theorem dX5_pendingJobs_16 : decode cX5_pendingJobs 16 = .ok (.aaload, 1) := by decide +kernel
theorem dX5_pendingJobs_17 : decode cX5_pendingJobs 17 = .ok (.getfield 120, 3) := by decide +kernel
theorem dX5_pendingJobs_20 : decode cX5_pendingJobs 20 = .ok (.iadd, 1) := by decide +kernel
theorem dX5_pendingJobs_21 : decode cX5_pendingJobs 21 = .ok (.istore_n 1, 1) := by decide +kernel
theorem dX5_pendingJobs_22 : decode cX5_pendingJobs 22 = .ok (.iinc 2 1, 3) := by decide +kernel
theorem dX5_pendingJobs_25 : decode cX5_pendingJobs 25 = .ok (.goto (-21), 3) := by decide +kernel
theorem dX5_pendingJobs_28 : decode cX5_pendingJobs 28 = .ok (.iload_n 1, 1) := by decide +kernel
theorem dX5_pendingJobs_29 : decode cX5_pendingJobs 29 = .ok (.ireturn, 1) := by decide +kernel
set_option maxRecDepth 20000 in
theorem ggX5_advance_X5_firstToRun : GoodIn wsX5_advance wsX5_firstToRun := goodIn_r _ [7, 8, 9, 96, 97, 98, 99, 100, 101, 102, 103, 104, 105, 106, 107, 108, 109, 110, 111, 112, 113, 114, 115, 116, 117, 118, 119, 120, 121, 122, 123, 124] (by decide +kernel) (by decide +kernel)
set_option maxRecDepth 20000 in
theorem gX5_advance_X5_firstToRun : GoodIn wsX5_advance (wsV RX5 229 RX5 yX5_firstToRun wsX5_firstToRun) := goodIn_app (goodIn_of _ (by decide +kernel)) ggX5_advance_X5_firstToRun
set_option maxRecDepth 20000 in
theorem ggX5_advance_X0_put : GoodIn wsX5_advance wsX0_put := goodIn_r _ [14, 15, 16, 17, 18, 19, 20, 125, 126] (by decide +kernel) (by decide +kernel)
set_option maxRecDepth 20000 in
theorem gX5_advance_X0_put : GoodIn wsX5_advance (wsV RX5 232 RX0 yX0_put wsX0_put) := goodIn_app (goodIn_of _ (by decide +kernel)) ggX5_advance_X0_put
set_option maxRecDepth 20000 in
theorem ggX5_advance_X5_settle : GoodIn wsX5_advance wsX5_settle := goodIn_r _ [24, 25, 1, 26, 27, 8, 28, 29, 30, 31, 32, 33, 34, 35, 36, 37, 38, 39, 96, 97, 98, 99, 100, 101, 102, 103, 104, 105, 106, 107, 108, 109, 110] (by decide +kernel) (by decide +kernel)
set_option maxRecDepth 20000 in
theorem gX5_advance_X5_settle : GoodIn wsX5_advance (wsV RX5 235 RX5 yX5_settle wsX5_settle) := goodIn_app (goodIn_of _ (by decide +kernel)) ggX5_advance_X5_settle
set_option maxRecDepth 20000 in
theorem ggX5_advance_X5_charge : GoodIn wsX5_advance wsX5_charge := goodIn_r _ [43, 9, 1, 27, 44, 45, 46, 47, 48, 49, 50, 51, 52, 53, 54, 55, 56, 6, 57, 58, 18, 19, 20, 59, 60, 61, 62, 63, 64, 65, 66, 67, 68, 69, 70, 71, 72, 73, 74, 75, 10, 11, 12, 13, 14, 15, 16, 17, 76, 77, 78, 79, 80, 81, 82, 83, 28, 8, 84, 85, 86, 32, 87, 39, 88, 89, 90, 91, 34, 92, 93, 94, 95, 96, 97, 98, 99, 100, 101, 102, 103, 104, 105, 106, 107, 108, 111, 112, 113, 114, 115, 116, 117, 118, 119, 120, 121, 122, 123, 124, 125, 126, 109, 110] (by decide +kernel) (by decide +kernel)
set_option maxRecDepth 20000 in
theorem gX5_advance_X5_charge : GoodIn wsX5_advance (wsV RX5 238 RX5 yX5_charge wsX5_charge) := goodIn_app (goodIn_of _ (by decide +kernel)) ggX5_advance_X5_charge
theorem dX5_advance_0 : decode cX5_advance 0 = .ok (.aload_n 0, 1) := by decide +kernel
theorem dX5_advance_1 : decode cX5_advance 1 = .ok (.invokevirtual 229, 3) := by decide +kernel
theorem dX5_advance_4 : decode cX5_advance 4 = .ok (.istore_n 1, 1) := by decide +kernel
theorem dX5_advance_5 : decode cX5_advance 5 = .ok (.aload_n 0, 1) := by decide +kernel
theorem dX5_advance_6 : decode cX5_advance 6 = .ok (.dup, 1) := by decide +kernel
theorem dX5_advance_7 : decode cX5_advance 7 = .ok (.getfield 113, 3) := by decide +kernel
theorem dX5_advance_10 : decode cX5_advance 10 = .ok (.iconst 1, 1) := by decide +kernel
theorem dX5_advance_11 : decode cX5_advance 11 = .ok (.iadd, 1) := by decide +kernel
theorem dX5_advance_12 : decode cX5_advance 12 = .ok (.putfield 113, 3) := by decide +kernel
theorem dX5_advance_15 : decode cX5_advance 15 = .ok (.aload_n 0, 1) := by decide +kernel
theorem dX5_advance_16 : decode cX5_advance 16 = .ok (.getfield 48, 3) := by decide +kernel
theorem dX5_advance_19 : decode cX5_advance 19 = .ok (.iload_n 1, 1) := by decide +kernel
theorem dX5_advance_20 : decode cX5_advance 20 = .ok (.invokevirtual 232, 3) := by decide +kernel
theorem dX5_advance_23 : decode cX5_advance 23 = .ok (.iload_n 1, 1) := by decide +kernel
theorem dX5_advance_24 : decode cX5_advance 24 = .ok (.ifCond .ne 10, 3) := by decide +kernel
theorem dX5_advance_27 : decode cX5_advance 27 = .ok (.aload_n 0, 1) := by decide +kernel
theorem dX5_advance_28 : decode cX5_advance 28 = .ok (.invokevirtual 235, 3) := by decide +kernel
theorem dX5_advance_31 : decode cX5_advance 31 = .ok (.goto 8, 3) := by decide +kernel
theorem dX5_advance_34 : decode cX5_advance 34 = .ok (.aload_n 0, 1) := by decide +kernel
theorem dX5_advance_35 : decode cX5_advance 35 = .ok (.iload_n 1, 1) := by decide +kernel
theorem dX5_advance_36 : decode cX5_advance 36 = .ok (.invokevirtual 238, 3) := by decide +kernel
theorem dX5_advance_39 : decode cX5_advance 39 = .ok (.iload_n 1, 1) := by decide +kernel
theorem dX5_advance_40 : decode cX5_advance 40 = .ok (.ireturn, 1) := by decide +kernel
theorem dX5_firstToRun_0 : decode cX5_firstToRun 0 = .ok (.iconst 0, 1) := by decide +kernel
theorem dX5_firstToRun_1 : decode cX5_firstToRun 1 = .ok (.istore_n 1, 1) := by decide +kernel
theorem dX5_firstToRun_2 : decode cX5_firstToRun 2 = .ok (.iload_n 1, 1) := by decide +kernel
theorem dX5_firstToRun_3 : decode cX5_firstToRun 3 = .ok (.aload_n 0, 1) := by decide +kernel
theorem dX5_firstToRun_4 : decode cX5_firstToRun 4 = .ok (.getfield 30, 3) := by decide +kernel
theorem dX5_firstToRun_7 : decode cX5_firstToRun 7 = .ok (.getfield 140, 3) := by decide +kernel
theorem dX5_firstToRun_10 : decode cX5_firstToRun 10 = .ok (.if_icmp .ge 39, 3) := by decide +kernel
theorem dX5_firstToRun_13 : decode cX5_firstToRun 13 = .ok (.aload_n 0, 1) := by decide +kernel
theorem dX5_firstToRun_14 : decode cX5_firstToRun 14 = .ok (.getfield 20, 3) := by decide +kernel
theorem dX5_firstToRun_17 : decode cX5_firstToRun 17 = .ok (.aload_n 0, 1) := by decide +kernel
theorem dX5_firstToRun_18 : decode cX5_firstToRun 18 = .ok (.getfield 30, 3) := by decide +kernel
theorem dX5_firstToRun_21 : decode cX5_firstToRun 21 = .ok (.getfield 212, 3) := by decide +kernel
theorem dX5_firstToRun_24 : decode cX5_firstToRun 24 = .ok (.iload_n 1, 1) := by decide +kernel
theorem dX5_firstToRun_25 : decode cX5_firstToRun 25 = .ok (.iaload, 1) := by decide +kernel
theorem dX5_firstToRun_26 : decode cX5_firstToRun 26 = .ok (.aaload, 1) := by decide +kernel
theorem dX5_firstToRun_27 : decode cX5_firstToRun 27 = .ok (.getfield 120, 3) := by decide +kernel
theorem dX5_firstToRun_30 : decode cX5_firstToRun 30 = .ok (.ifCond .le 13, 3) := by decide +kernel
theorem dX5_firstToRun_33 : decode cX5_firstToRun 33 = .ok (.aload_n 0, 1) := by decide +kernel
theorem dX5_firstToRun_34 : decode cX5_firstToRun 34 = .ok (.getfield 30, 3) := by decide +kernel
theorem dX5_firstToRun_37 : decode cX5_firstToRun 37 = .ok (.getfield 212, 3) := by decide +kernel
theorem dX5_firstToRun_40 : decode cX5_firstToRun 40 = .ok (.iload_n 1, 1) := by decide +kernel
theorem dX5_firstToRun_41 : decode cX5_firstToRun 41 = .ok (.iaload, 1) := by decide +kernel
theorem dX5_firstToRun_42 : decode cX5_firstToRun 42 = .ok (.ireturn, 1) := by decide +kernel
theorem dX5_firstToRun_43 : decode cX5_firstToRun 43 = .ok (.iinc 1 1, 3) := by decide +kernel
theorem dX5_firstToRun_46 : decode cX5_firstToRun 46 = .ok (.goto (-44), 3) := by decide +kernel
theorem dX5_firstToRun_49 : decode cX5_firstToRun 49 = .ok (.iconst 0, 1) := by decide +kernel
theorem dX5_firstToRun_50 : decode cX5_firstToRun 50 = .ok (.ireturn, 1) := by decide +kernel
set_option maxRecDepth 20000 in
theorem ggX5_settle_X1_become : GoodIn wsX5_settle wsX1_become := goodIn_r _ [11, 12, 13, 14, 15, 16, 17, 31, 32] (by decide +kernel) (by decide +kernel)
set_option maxRecDepth 20000 in
theorem gX5_settle_X1_become : GoodIn wsX5_settle (wsV RX5 81 RX1 yX1_become wsX1_become) := goodIn_app (goodIn_of _ (by decide +kernel)) ggX5_settle_X1_become
theorem dX5_settle_0 : decode cX5_settle 0 = .ok (.aload_n 0, 1) := by decide +kernel
theorem dX5_settle_1 : decode cX5_settle 1 = .ok (.dup, 1) := by decide +kernel
theorem dX5_settle_2 : decode cX5_settle 2 = .ok (.getfield 192, 3) := by decide +kernel
theorem dX5_settle_5 : decode cX5_settle 5 = .ok (.iconst 1, 1) := by decide +kernel
theorem dX5_settle_6 : decode cX5_settle 6 = .ok (.iadd, 1) := by decide +kernel
theorem dX5_settle_7 : decode cX5_settle 7 = .ok (.putfield 192, 3) := by decide +kernel
theorem dX5_settle_10 : decode cX5_settle 10 = .ok (.aload_n 0, 1) := by decide +kernel
theorem dX5_settle_11 : decode cX5_settle 11 = .ok (.aload_n 0, 1) := by decide +kernel
theorem dX5_settle_12 : decode cX5_settle 12 = .ok (.getfield 113, 3) := by decide +kernel
theorem dX5_settle_15 : decode cX5_settle 15 = .ok (.putfield 204, 3) := by decide +kernel
theorem dX5_settle_18 : decode cX5_settle 18 = .ok (.aload_n 0, 1) := by decide +kernel
theorem dX5_settle_19 : decode cX5_settle 19 = .ok (.iconst 0, 1) := by decide +kernel
theorem dX5_settle_20 : decode cX5_settle 20 = .ok (.putfield 123, 3) := by decide +kernel
theorem dX5_settle_23 : decode cX5_settle 23 = .ok (.aload_n 0, 1) := by decide +kernel
theorem dX5_settle_24 : decode cX5_settle 24 = .ok (.getfield 30, 3) := by decide +kernel
theorem dX5_settle_27 : decode cX5_settle 27 = .ok (.aload_n 0, 1) := by decide +kernel
theorem dX5_settle_28 : decode cX5_settle 28 = .ok (.getfield 26, 3) := by decide +kernel
theorem dX5_settle_31 : decode cX5_settle 31 = .ok (.invokevirtual 81, 3) := by decide +kernel
theorem dX5_settle_34 : decode cX5_settle 34 = .ok (.return_, 1) := by decide +kernel
set_option maxRecDepth 20000 in
theorem ggX5_charge_X3_chargeFirst : GoodIn wsX5_charge wsX3_chargeFirst := goodIn_r _ [8, 9, 10, 11, 12, 13, 14, 15, 16, 17, 18, 19, 20, 21, 22, 23, 24, 25, 7, 26, 27, 28, 86, 87, 88, 89, 90, 91, 92, 93, 94, 95, 96, 97, 98, 99] (by decide +kernel) (by decide +kernel)
set_option maxRecDepth 20000 in
theorem gX5_charge_X3_chargeFirst : GoodIn wsX5_charge (wsV RX5 241 RX3 yX3_chargeFirst wsX3_chargeFirst) := goodIn_app (goodIn_of _ (by decide +kernel)) ggX5_charge_X3_chargeFirst
set_option maxRecDepth 20000 in
theorem ggX5_charge_X3_isHigh : GoodIn wsX5_charge wsX3_isHigh := goodIn_r _ [32, 33, 86, 87, 88, 89, 90, 91, 92, 93, 94, 95, 96, 97, 98, 99] (by decide +kernel) (by decide +kernel)
set_option maxRecDepth 20000 in
theorem gX5_charge_X3_isHigh : GoodIn wsX5_charge (wsV RX5 126 RX3 yX3_isHigh wsX3_isHigh) := goodIn_app (goodIn_of _ (by decide +kernel)) ggX5_charge_X3_isHigh
set_option maxRecDepth 20000 in
theorem ggX5_charge_X5_becomeHigh : GoodIn wsX5_charge wsX5_becomeHigh := goodIn_r _ [37, 3, 38, 2, 1, 39, 40, 41, 42, 43, 44, 45, 46, 47, 20, 21, 22, 29, 30, 31, 7, 32, 33, 48, 49, 50, 51, 10, 14, 9, 12, 16, 17, 18, 19, 52, 53, 54, 55, 56, 57, 58, 59, 60, 61, 62, 63, 64, 65, 66, 67, 68, 69, 70, 71, 72, 73, 74, 75, 76, 77, 78, 79, 80, 81, 82, 83, 84, 85, 100, 101, 86, 87, 88, 89, 90, 91, 92, 93, 94, 95, 96, 97, 98, 99, 102, 103] (by decide +kernel) (by decide +kernel)
set_option maxRecDepth 20000 in
theorem gX5_charge_X5_becomeHigh : GoodIn wsX5_charge (wsV RX5 250 RX5 yX5_becomeHigh wsX5_becomeHigh) := goodIn_app (goodIn_of _ (by decide +kernel)) ggX5_charge_X5_becomeHigh
set_option maxRecDepth 20000 in
theorem ggX5_charge_X5_forgetIfLeft : GoodIn wsX5_charge wsX5_forgetIfLeft := goodIn_r _ [55, 1, 56, 57, 58, 59, 60, 61, 62, 63, 64, 65, 66, 67, 68, 69, 70, 71, 72, 73, 74, 75, 76, 77, 78, 79, 80, 81, 82, 83, 84, 85, 86, 87, 88, 89, 90, 91, 92, 93, 94, 95, 96, 97, 98, 99, 102, 103] (by decide +kernel) (by decide +kernel)
set_option maxRecDepth 20000 in
theorem gX5_charge_X5_forgetIfLeft : GoodIn wsX5_charge (wsV RX5 104 RX5 yX5_forgetIfLeft wsX5_forgetIfLeft) := goodIn_app (goodIn_of _ (by decide +kernel)) ggX5_charge_X5_forgetIfLeft
theorem dX5_charge_0 : decode cX5_charge 0 = .ok (.aload_n 0, 1) := by decide +kernel
theorem dX5_charge_1 : decode cX5_charge 1 = .ok (.getfield 20, 3) := by decide +kernel
theorem dX5_charge_4 : decode cX5_charge 4 = .ok (.iload_n 1, 1) := by decide +kernel
theorem dX5_charge_5 : decode cX5_charge 5 = .ok (.aaload, 1) := by decide +kernel
theorem dX5_charge_6 : decode cX5_charge 6 = .ok (.astore_n 2, 1) := by decide +kernel
theorem dX5_charge_7 : decode cX5_charge 7 = .ok (.aload_n 2, 1) := by decide +kernel
theorem dX5_charge_8 : decode cX5_charge 8 = .ok (.aload_n 0, 1) := by decide +kernel
theorem dX5_charge_9 : decode cX5_charge 9 = .ok (.getfield 113, 3) := by decide +kernel
theorem dX5_charge_12 : decode cX5_charge 12 = .ok (.invokevirtual 241, 3) := by decide +kernel
theorem dX5_charge_15 : decode cX5_charge 15 = .ok (.istore_n 3, 1) := by decide +kernel
theorem dX5_charge_16 : decode cX5_charge 16 = .ok (.iload_n 3, 1) := by decide +kernel
theorem dX5_charge_17 : decode cX5_charge 17 = .ok (.ifCond .ne 32, 3) := by decide +kernel
theorem dX5_charge_20 : decode cX5_charge 20 = .ok (.aload_n 0, 1) := by decide +kernel
theorem dX5_charge_21 : decode cX5_charge 21 = .ok (.getfield 123, 3) := by decide +kernel
theorem dX5_charge_24 : decode cX5_charge 24 = .ok (.ifCond .ne 25, 3) := by decide +kernel
theorem dX5_charge_27 : decode cX5_charge 27 = .ok (.aload_n 2, 1) := by decide +kernel
theorem dX5_charge_28 : decode cX5_charge 28 = .ok (.invokevirtual 126, 3) := by decide +kernel
theorem dX5_charge_31 : decode cX5_charge 31 = .ok (.ifCond .eq 18, 3) := by decide +kernel
theorem dX5_charge_34 : decode cX5_charge 34 = .ok (.aload_n 2, 1) := by decide +kernel
theorem dX5_charge_35 : decode cX5_charge 35 = .ok (.getfield 244, 3) := by decide +kernel
theorem dX5_charge_38 : decode cX5_charge 38 = .ok (.aload_n 2, 1) := by decide +kernel
theorem dX5_charge_39 : decode cX5_charge 39 = .ok (.getfield 247, 3) := by decide +kernel
theorem dX5_charge_42 : decode cX5_charge 42 = .ok (.if_icmp .ne 7, 3) := by decide +kernel
theorem dX5_charge_45 : decode cX5_charge 45 = .ok (.aload_n 0, 1) := by decide +kernel
theorem dX5_charge_46 : decode cX5_charge 46 = .ok (.invokevirtual 250, 3) := by decide +kernel
theorem dX5_charge_49 : decode cX5_charge 49 = .ok (.aload_n 0, 1) := by decide +kernel
theorem dX5_charge_50 : decode cX5_charge 50 = .ok (.iload_n 1, 1) := by decide +kernel
theorem dX5_charge_51 : decode cX5_charge 51 = .ok (.invokevirtual 104, 3) := by decide +kernel
theorem dX5_charge_54 : decode cX5_charge 54 = .ok (.return_, 1) := by decide +kernel
set_option maxRecDepth 20000 in
theorem ggX5_becomeHigh_X0_put : GoodIn wsX5_becomeHigh wsX0_put := goodIn_r _ [10, 11, 12, 13, 14, 15, 16, 69, 70] (by decide +kernel) (by decide +kernel)
set_option maxRecDepth 20000 in
theorem gX5_becomeHigh_X0_put : GoodIn wsX5_becomeHigh (wsV RX5 232 RX0 yX0_put wsX0_put) := goodIn_app (goodIn_of _ (by decide +kernel)) ggX5_becomeHigh_X0_put
set_option maxRecDepth 20000 in
theorem ggX5_becomeHigh_X3_isHigh : GoodIn wsX5_becomeHigh wsX3_isHigh := goodIn_r _ [21, 22, 71, 72, 73, 74, 75, 76, 77, 78, 79, 80, 81, 82, 83, 84] (by decide +kernel) (by decide +kernel)
set_option maxRecDepth 20000 in
theorem gX5_becomeHigh_X3_isHigh : GoodIn wsX5_becomeHigh (wsV RX5 126 RX3 yX3_isHigh wsX3_isHigh) := goodIn_app (goodIn_of _ (by decide +kernel)) ggX5_becomeHigh_X3_isHigh
set_option maxRecDepth 20000 in
theorem ggX5_becomeHigh_X3_giveUpPending : GoodIn wsX5_becomeHigh wsX3_giveUpPending := goodIn_r _ [26, 27, 28, 29, 30, 31, 32, 33, 34, 14, 15, 16, 71, 72, 73, 74, 75, 76, 77, 78, 79, 80, 81, 82, 83, 84] (by decide +kernel) (by decide +kernel)
set_option maxRecDepth 20000 in
theorem gX5_becomeHigh_X3_giveUpPending : GoodIn wsX5_becomeHigh (wsV RX5 253 RX3 yX3_giveUpPending wsX3_giveUpPending) := goodIn_app (goodIn_of _ (by decide +kernel)) ggX5_becomeHigh_X3_giveUpPending
set_option maxRecDepth 20000 in
theorem ggX5_becomeHigh_X5_forgetIfLeft : GoodIn wsX5_becomeHigh wsX5_forgetIfLeft := goodIn_r _ [38, 4, 39, 40, 41, 42, 43, 44, 45, 46, 47, 48, 49, 50, 51, 52, 53, 54, 55, 56, 57, 58, 59, 60, 61, 62, 63, 64, 65, 66, 67, 68, 71, 72, 73, 74, 75, 76, 77, 78, 79, 80, 81, 82, 83, 84, 85, 86] (by decide +kernel) (by decide +kernel)
set_option maxRecDepth 20000 in
theorem gX5_becomeHigh_X5_forgetIfLeft : GoodIn wsX5_becomeHigh (wsV RX5 104 RX5 yX5_forgetIfLeft wsX5_forgetIfLeft) := goodIn_app (goodIn_of _ (by decide +kernel)) ggX5_becomeHigh_X5_forgetIfLeft
theorem dX5_becomeHigh_0 : decode cX5_becomeHigh 0 = .ok (.aload_n 0, 1) := by decide +kernel
theorem dX5_becomeHigh_1 : decode cX5_becomeHigh 1 = .ok (.iconst 1, 1) := by decide +kernel
theorem dX5_becomeHigh_2 : decode cX5_becomeHigh 2 = .ok (.putfield 123, 3) := by decide +kernel
theorem dX5_becomeHigh_5 : decode cX5_becomeHigh 5 = .ok (.aload_n 0, 1) := by decide +kernel
theorem dX5_becomeHigh_6 : decode cX5_becomeHigh 6 = .ok (.getfield 52, 3) := by decide +kernel
theorem dX5_becomeHigh_9 : decode cX5_becomeHigh 9 = .ok (.aload_n 0, 1) := by decide +kernel
theorem dX5_becomeHigh_10 : decode cX5_becomeHigh 10 = .ok (.getfield 113, 3) := by decide +kernel
theorem dX5_becomeHigh_13 : decode cX5_becomeHigh 13 = .ok (.invokevirtual 232, 3) := by decide +kernel
theorem dX5_becomeHigh_16 : decode cX5_becomeHigh 16 = .ok (.iconst 1, 1) := by decide +kernel
theorem dX5_becomeHigh_17 : decode cX5_becomeHigh 17 = .ok (.istore_n 1, 1) := by decide +kernel
theorem dX5_becomeHigh_18 : decode cX5_becomeHigh 18 = .ok (.iload_n 1, 1) := by decide +kernel
theorem dX5_becomeHigh_19 : decode cX5_becomeHigh 19 = .ok (.bipush 12, 2) := by decide +kernel
theorem dX5_becomeHigh_21 : decode cX5_becomeHigh 21 = .ok (.if_icmp .gt 44, 3) := by decide +kernel
theorem dX5_becomeHigh_24 : decode cX5_becomeHigh 24 = .ok (.aload_n 0, 1) := by decide +kernel
theorem dX5_becomeHigh_25 : decode cX5_becomeHigh 25 = .ok (.getfield 20, 3) := by decide +kernel
theorem dX5_becomeHigh_28 : decode cX5_becomeHigh 28 = .ok (.iload_n 1, 1) := by decide +kernel
theorem dX5_becomeHigh_29 : decode cX5_becomeHigh 29 = .ok (.aaload, 1) := by decide +kernel
theorem dX5_becomeHigh_30 : decode cX5_becomeHigh 30 = .ok (.invokevirtual 126, 3) := by decide +kernel
theorem dX5_becomeHigh_33 : decode cX5_becomeHigh 33 = .ok (.ifCond .ne 26, 3) := by decide +kernel
theorem dX5_becomeHigh_36 : decode cX5_becomeHigh 36 = .ok (.aload_n 0, 1) := by decide +kernel
theorem dX5_becomeHigh_37 : decode cX5_becomeHigh 37 = .ok (.dup, 1) := by decide +kernel
theorem dX5_becomeHigh_38 : decode cX5_becomeHigh 38 = .ok (.getfield 201, 3) := by decide +kernel
theorem dX5_becomeHigh_41 : decode cX5_becomeHigh 41 = .ok (.aload_n 0, 1) := by decide +kernel
theorem dX5_becomeHigh_42 : decode cX5_becomeHigh 42 = .ok (.getfield 20, 3) := by decide +kernel
theorem dX5_becomeHigh_45 : decode cX5_becomeHigh 45 = .ok (.iload_n 1, 1) := by decide +kernel
theorem dX5_becomeHigh_46 : decode cX5_becomeHigh 46 = .ok (.aaload, 1) := by decide +kernel
theorem dX5_becomeHigh_47 : decode cX5_becomeHigh 47 = .ok (.invokevirtual 253, 3) := by decide +kernel
theorem dX5_becomeHigh_50 : decode cX5_becomeHigh 50 = .ok (.iadd, 1) := by decide +kernel
theorem dX5_becomeHigh_51 : decode cX5_becomeHigh 51 = .ok (.putfield 201, 3) := by decide +kernel
theorem dX5_becomeHigh_54 : decode cX5_becomeHigh 54 = .ok (.aload_n 0, 1) := by decide +kernel
theorem dX5_becomeHigh_55 : decode cX5_becomeHigh 55 = .ok (.iload_n 1, 1) := by decide +kernel
theorem dX5_becomeHigh_56 : decode cX5_becomeHigh 56 = .ok (.invokevirtual 104, 3) := by decide +kernel
theorem dX5_becomeHigh_59 : decode cX5_becomeHigh 59 = .ok (.iinc 1 1, 3) := by decide +kernel
theorem dX5_becomeHigh_62 : decode cX5_becomeHigh 62 = .ok (.goto (-44), 3) := by decide +kernel
theorem dX5_becomeHigh_65 : decode cX5_becomeHigh 65 = .ok (.return_, 1) := by decide +kernel
set_option maxRecDepth 20000 in
theorem ggX5_forgetIfLeft_X1_drop : GoodIn wsX5_forgetIfLeft wsX1_drop := goodIn_r _ [8, 9, 10, 11, 12, 7, 13, 14, 15, 16, 17, 18, 46, 47] (by decide +kernel) (by decide +kernel)
set_option maxRecDepth 20000 in
theorem gX5_forgetIfLeft_X1_drop : GoodIn wsX5_forgetIfLeft (wsV RX5 256 RX1 yX1_drop wsX1_drop) := goodIn_app (goodIn_of _ (by decide +kernel)) ggX5_forgetIfLeft_X1_drop
theorem dX5_forgetIfLeft_0 : decode cX5_forgetIfLeft 0 = .ok (.aload_n 0, 1) := by decide +kernel
theorem dX5_forgetIfLeft_1 : decode cX5_forgetIfLeft 1 = .ok (.getfield 20, 3) := by decide +kernel
theorem dX5_forgetIfLeft_4 : decode cX5_forgetIfLeft 4 = .ok (.iload_n 1, 1) := by decide +kernel
theorem dX5_forgetIfLeft_5 : decode cX5_forgetIfLeft 5 = .ok (.aaload, 1) := by decide +kernel
theorem dX5_forgetIfLeft_6 : decode cX5_forgetIfLeft 6 = .ok (.getfield 100, 3) := by decide +kernel
theorem dX5_forgetIfLeft_9 : decode cX5_forgetIfLeft 9 = .ok (.ifCond .eq 31, 3) := by decide +kernel
theorem dX5_forgetIfLeft_12 : decode cX5_forgetIfLeft 12 = .ok (.aload_n 0, 1) := by decide +kernel
theorem dX5_forgetIfLeft_13 : decode cX5_forgetIfLeft 13 = .ok (.getfield 20, 3) := by decide +kernel
theorem dX5_forgetIfLeft_16 : decode cX5_forgetIfLeft 16 = .ok (.iload_n 1, 1) := by decide +kernel
theorem dX5_forgetIfLeft_17 : decode cX5_forgetIfLeft 17 = .ok (.aaload, 1) := by decide +kernel
theorem dX5_forgetIfLeft_18 : decode cX5_forgetIfLeft 18 = .ok (.getfield 120, 3) := by decide +kernel
theorem dX5_forgetIfLeft_21 : decode cX5_forgetIfLeft 21 = .ok (.ifCond .ne 19, 3) := by decide +kernel
theorem dX5_forgetIfLeft_24 : decode cX5_forgetIfLeft 24 = .ok (.aload_n 0, 1) := by decide +kernel
theorem dX5_forgetIfLeft_25 : decode cX5_forgetIfLeft 25 = .ok (.getfield 26, 3) := by decide +kernel
theorem dX5_forgetIfLeft_28 : decode cX5_forgetIfLeft 28 = .ok (.iload_n 1, 1) := by decide +kernel
theorem dX5_forgetIfLeft_29 : decode cX5_forgetIfLeft 29 = .ok (.invokevirtual 256, 3) := by decide +kernel
theorem dX5_forgetIfLeft_32 : decode cX5_forgetIfLeft 32 = .ok (.aload_n 0, 1) := by decide +kernel
theorem dX5_forgetIfLeft_33 : decode cX5_forgetIfLeft 33 = .ok (.getfield 30, 3) := by decide +kernel
theorem dX5_forgetIfLeft_36 : decode cX5_forgetIfLeft 36 = .ok (.iload_n 1, 1) := by decide +kernel
theorem dX5_forgetIfLeft_37 : decode cX5_forgetIfLeft 37 = .ok (.invokevirtual 256, 3) := by decide +kernel
theorem dX5_forgetIfLeft_40 : decode cX5_forgetIfLeft 40 = .ok (.return_, 1) := by decide +kernel
theorem dX6_init_0 : decode cX6_init 0 = .ok (.aload_n 0, 1) := by decide +kernel
theorem dX6_init_1 : decode cX6_init 1 = .ok (.invokespecial 1, 3) := by decide +kernel
theorem dX6_init_4 : decode cX6_init 4 = .ok (.aload_n 0, 1) := by decide +kernel
theorem dX6_init_5 : decode cX6_init 5 = .ok (.bipush 13, 2) := by decide +kernel
theorem dX6_init_7 : decode cX6_init 7 = .ok (.newarray .boolean, 2) := by decide +kernel
theorem dX6_init_9 : decode cX6_init 9 = .ok (.putfield 7, 3) := by decide +kernel
theorem dX6_init_12 : decode cX6_init 12 = .ok (.aload_n 0, 1) := by decide +kernel
theorem dX6_init_13 : decode cX6_init 13 = .ok (.bipush 13, 2) := by decide +kernel
theorem dX6_init_15 : decode cX6_init 15 = .ok (.newarray .boolean, 2) := by decide +kernel
theorem dX6_init_17 : decode cX6_init 17 = .ok (.putfield 13, 3) := by decide +kernel
theorem dX6_init_20 : decode cX6_init 20 = .ok (.aload_n 0, 1) := by decide +kernel
theorem dX6_init_21 : decode cX6_init 21 = .ok (.bipush 13, 2) := by decide +kernel
theorem dX6_init_23 : decode cX6_init 23 = .ok (.newarray .int, 2) := by decide +kernel
theorem dX6_init_25 : decode cX6_init 25 = .ok (.putfield 16, 3) := by decide +kernel
theorem dX6_init_28 : decode cX6_init 28 = .ok (.aload_n 0, 1) := by decide +kernel
theorem dX6_init_29 : decode cX6_init 29 = .ok (.bipush 13, 2) := by decide +kernel
theorem dX6_init_31 : decode cX6_init 31 = .ok (.newarray .int, 2) := by decide +kernel
theorem dX6_init_33 : decode cX6_init 33 = .ok (.putfield 20, 3) := by decide +kernel
theorem dX6_init_36 : decode cX6_init 36 = .ok (.aload_n 0, 1) := by decide +kernel
theorem dX6_init_37 : decode cX6_init 37 = .ok (.bipush 13, 2) := by decide +kernel
theorem dX6_init_39 : decode cX6_init 39 = .ok (.newarray .int, 2) := by decide +kernel
theorem dX6_init_41 : decode cX6_init 41 = .ok (.putfield 23, 3) := by decide +kernel
theorem dX6_init_44 : decode cX6_init 44 = .ok (.aload_n 0, 1) := by decide +kernel
theorem dX6_init_45 : decode cX6_init 45 = .ok (.bipush 13, 2) := by decide +kernel
theorem dX6_init_47 : decode cX6_init 47 = .ok (.newarray .int, 2) := by decide +kernel
theorem dX6_init_49 : decode cX6_init 49 = .ok (.putfield 26, 3) := by decide +kernel
theorem dX6_init_52 : decode cX6_init 52 = .ok (.aload_n 0, 1) := by decide +kernel
theorem dX6_init_53 : decode cX6_init 53 = .ok (.bipush 13, 2) := by decide +kernel
theorem dX6_init_55 : decode cX6_init 55 = .ok (.newarray .int, 2) := by decide +kernel
theorem dX6_init_57 : decode cX6_init 57 = .ok (.putfield 29, 3) := by decide +kernel
theorem dX6_init_60 : decode cX6_init 60 = .ok (.aload_n 0, 1) := by decide +kernel
theorem dX6_init_61 : decode cX6_init 61 = .ok (.bipush 13, 2) := by decide +kernel
theorem dX6_init_63 : decode cX6_init 63 = .ok (.newarray .int, 2) := by decide +kernel
theorem dX6_init_65 : decode cX6_init 65 = .ok (.putfield 32, 3) := by decide +kernel
theorem dX6_init_68 : decode cX6_init 68 = .ok (.aload_n 0, 1) := by decide +kernel
theorem dX6_init_69 : decode cX6_init 69 = .ok (.bipush 13, 2) := by decide +kernel
theorem dX6_init_71 : decode cX6_init 71 = .ok (.newarray .int, 2) := by decide +kernel
theorem dX6_init_73 : decode cX6_init 73 = .ok (.putfield 35, 3) := by decide +kernel
theorem dX6_init_76 : decode cX6_init 76 = .ok (.aload_n 0, 1) := by decide +kernel
theorem dX6_init_77 : decode cX6_init 77 = .ok (.bipush 13, 2) := by decide +kernel
theorem dX6_init_79 : decode cX6_init 79 = .ok (.newarray .int, 2) := by decide +kernel
theorem dX6_init_81 : decode cX6_init 81 = .ok (.putfield 38, 3) := by decide +kernel
theorem dX6_init_84 : decode cX6_init 84 = .ok (.aload_n 0, 1) := by decide +kernel
theorem dX6_init_85 : decode cX6_init 85 = .ok (.bipush 13, 2) := by decide +kernel
theorem dX6_init_87 : decode cX6_init 87 = .ok (.newarray .int, 2) := by decide +kernel
theorem dX6_init_89 : decode cX6_init 89 = .ok (.putfield 41, 3) := by decide +kernel
theorem dX6_init_92 : decode cX6_init 92 = .ok (.aload_n 0, 1) := by decide +kernel
theorem dX6_init_93 : decode cX6_init 93 = .ok (.bipush 13, 2) := by decide +kernel
theorem dX6_init_95 : decode cX6_init 95 = .ok (.newarray .int, 2) := by decide +kernel
theorem dX6_init_97 : decode cX6_init 97 = .ok (.putfield 44, 3) := by decide +kernel
theorem dX6_init_100 : decode cX6_init 100 = .ok (.aload_n 0, 1) := by decide +kernel
theorem dX6_init_101 : decode cX6_init 101 = .ok (.bipush 13, 2) := by decide +kernel
theorem dX6_init_103 : decode cX6_init 103 = .ok (.newarray .int, 2) := by decide +kernel
theorem dX6_init_105 : decode cX6_init 105 = .ok (.putfield 47, 3) := by decide +kernel
theorem dX6_init_108 : decode cX6_init 108 = .ok (.aload_n 0, 1) := by decide +kernel
theorem dX6_init_109 : decode cX6_init 109 = .ok (.bipush 13, 2) := by decide +kernel
theorem dX6_init_111 : decode cX6_init 111 = .ok (.newarray .int, 2) := by decide +kernel
theorem dX6_init_113 : decode cX6_init 113 = .ok (.putfield 50, 3) := by decide +kernel
theorem dX6_init_116 : decode cX6_init 116 = .ok (.aload_n 0, 1) := by decide +kernel
theorem dX6_init_117 : decode cX6_init 117 = .ok (.bipush 104, 2) := by decide +kernel
theorem dX6_init_119 : decode cX6_init 119 = .ok (.newarray .int, 2) := by decide +kernel
theorem dX6_init_121 : decode cX6_init 121 = .ok (.putfield 53, 3) := by decide +kernel
theorem dX6_init_124 : decode cX6_init 124 = .ok (.aload_n 0, 1) := by decide +kernel
theorem dX6_init_125 : decode cX6_init 125 = .ok (.bipush 104, 2) := by decide +kernel
theorem dX6_init_127 : decode cX6_init 127 = .ok (.newarray .int, 2) := by decide +kernel
theorem dX6_init_129 : decode cX6_init 129 = .ok (.putfield 56, 3) := by decide +kernel
theorem dX6_init_132 : decode cX6_init 132 = .ok (.aload_n 0, 1) := by decide +kernel
theorem dX6_init_133 : decode cX6_init 133 = .ok (.bipush 104, 2) := by decide +kernel
theorem dX6_init_135 : decode cX6_init 135 = .ok (.newarray .int, 2) := by decide +kernel
theorem dX6_init_137 : decode cX6_init 137 = .ok (.putfield 59, 3) := by decide +kernel
theorem dX6_init_140 : decode cX6_init 140 = .ok (.aload_n 0, 1) := by decide +kernel
theorem dX6_init_141 : decode cX6_init 141 = .ok (.bipush 104, 2) := by decide +kernel
theorem dX6_init_143 : decode cX6_init 143 = .ok (.newarray .int, 2) := by decide +kernel
theorem dX6_init_145 : decode cX6_init 145 = .ok (.putfield 62, 3) := by decide +kernel
theorem dX6_init_148 : decode cX6_init 148 = .ok (.aload_n 0, 1) := by decide +kernel
theorem dX6_init_149 : decode cX6_init 149 = .ok (.bipush 8, 2) := by decide +kernel
theorem dX6_init_151 : decode cX6_init 151 = .ok (.newarray .int, 2) := by decide +kernel
theorem dX6_init_153 : decode cX6_init 153 = .ok (.putfield 65, 3) := by decide +kernel
theorem dX6_init_156 : decode cX6_init 156 = .ok (.aload_n 0, 1) := by decide +kernel
theorem dX6_init_157 : decode cX6_init 157 = .ok (.sipush 256, 3) := by decide +kernel
theorem dX6_init_160 : decode cX6_init 160 = .ok (.newarray .int, 2) := by decide +kernel
theorem dX6_init_162 : decode cX6_init 162 = .ok (.putfield 68, 3) := by decide +kernel
theorem dX6_init_165 : decode cX6_init 165 = .ok (.aload_n 0, 1) := by decide +kernel
theorem dX6_init_166 : decode cX6_init 166 = .ok (.bipush 13, 2) := by decide +kernel
theorem dX6_init_168 : decode cX6_init 168 = .ok (.newarray .int, 2) := by decide +kernel
theorem dX6_init_170 : decode cX6_init 170 = .ok (.putfield 71, 3) := by decide +kernel
theorem dX6_init_173 : decode cX6_init 173 = .ok (.aload_n 0, 1) := by decide +kernel
theorem dX6_init_174 : decode cX6_init 174 = .ok (.bipush 13, 2) := by decide +kernel
theorem dX6_init_176 : decode cX6_init 176 = .ok (.newarray .int, 2) := by decide +kernel
theorem dX6_init_178 : decode cX6_init 178 = .ok (.putfield 74, 3) := by decide +kernel
theorem dX6_init_181 : decode cX6_init 181 = .ok (.aload_n 0, 1) := by decide +kernel
theorem dX6_init_182 : decode cX6_init 182 = .ok (.bipush 13, 2) := by decide +kernel
theorem dX6_init_184 : decode cX6_init 184 = .ok (.newarray .int, 2) := by decide +kernel
theorem dX6_init_186 : decode cX6_init 186 = .ok (.putfield 77, 3) := by decide +kernel
theorem dX6_init_189 : decode cX6_init 189 = .ok (.aload_n 0, 1) := by decide +kernel
theorem dX6_init_190 : decode cX6_init 190 = .ok (.bipush 13, 2) := by decide +kernel
theorem dX6_init_192 : decode cX6_init 192 = .ok (.newarray .boolean, 2) := by decide +kernel
theorem dX6_init_194 : decode cX6_init 194 = .ok (.putfield 80, 3) := by decide +kernel
theorem dX6_init_197 : decode cX6_init 197 = .ok (.return_, 1) := by decide +kernel
theorem dX6_thrown_0 : decode cX6_thrown 0 = .ok (.aload_n 0, 1) := by decide +kernel
theorem dX6_thrown_1 : decode cX6_thrown 1 = .ok (.getfield 83, 3) := by decide +kernel
theorem dX6_thrown_4 : decode cX6_thrown 4 = .ok (.ireturn, 1) := by decide +kernel
theorem dX6_goes_0 : decode cX6_goes 0 = .ok (.aload_n 0, 1) := by decide +kernel
theorem dX6_goes_1 : decode cX6_goes 1 = .ok (.iload_n 1, 1) := by decide +kernel
theorem dX6_goes_2 : decode cX6_goes 2 = .ok (.ifCond .ne 7, 3) := by decide +kernel
theorem dX6_goes_5 : decode cX6_goes 5 = .ok (.iconst 1, 1) := by decide +kernel
theorem dX6_goes_6 : decode cX6_goes 6 = .ok (.goto 20, 3) := by decide +kernel
theorem dX6_goes_9 : decode cX6_goes 9 = .ok (.iload_n 2, 1) := by decide +kernel
theorem dX6_goes_10 : decode cX6_goes 10 = .ok (.ifCond .ne 7, 3) := by decide +kernel
theorem dX6_goes_13 : decode cX6_goes 13 = .ok (.iconst 2, 1) := by decide +kernel
theorem dX6_goes_14 : decode cX6_goes 14 = .ok (.goto 12, 3) := by decide +kernel
theorem dX6_goes_17 : decode cX6_goes 17 = .ok (.iload_n 3, 1) := by decide +kernel
theorem dX6_goes_18 : decode cX6_goes 18 = .ok (.ifCond .ne 7, 3) := by decide +kernel
theorem dX6_goes_21 : decode cX6_goes 21 = .ok (.iconst 3, 1) := by decide +kernel
theorem dX6_goes_22 : decode cX6_goes 22 = .ok (.goto 4, 3) := by decide +kernel
theorem dX6_goes_25 : decode cX6_goes 25 = .ok (.iconst 0, 1) := by decide +kernel
theorem dX6_goes_26 : decode cX6_goes 26 = .ok (.putfield 83, 3) := by decide +kernel
theorem dX6_goes_29 : decode cX6_goes 29 = .ok (.aload_n 0, 1) := by decide +kernel
theorem dX6_goes_30 : decode cX6_goes 30 = .ok (.getfield 83, 3) := by decide +kernel
theorem dX6_goes_33 : decode cX6_goes 33 = .ok (.ifCond .ne 7, 3) := by decide +kernel
theorem dX6_goes_36 : decode cX6_goes 36 = .ok (.iconst 1, 1) := by decide +kernel
theorem dX6_goes_37 : decode cX6_goes 37 = .ok (.goto 4, 3) := by decide +kernel
theorem dX6_goes_40 : decode cX6_goes 40 = .ok (.iconst 0, 1) := by decide +kernel
theorem dX6_goes_41 : decode cX6_goes 41 = .ok (.ireturn, 1) := by decide +kernel
theorem dX6_within_0 : decode cX6_within 0 = .ok (.iload_n 0, 1) := by decide +kernel
theorem dX6_within_1 : decode cX6_within 1 = .ok (.iload_n 1, 1) := by decide +kernel
theorem dX6_within_2 : decode cX6_within 2 = .ok (.if_icmp .lt 12, 3) := by decide +kernel
theorem dX6_within_5 : decode cX6_within 5 = .ok (.iload_n 0, 1) := by decide +kernel
theorem dX6_within_6 : decode cX6_within 6 = .ok (.iload_n 2, 1) := by decide +kernel
theorem dX6_within_7 : decode cX6_within 7 = .ok (.if_icmp .gt 7, 3) := by decide +kernel
theorem dX6_within_10 : decode cX6_within 10 = .ok (.iconst 1, 1) := by decide +kernel
theorem dX6_within_11 : decode cX6_within 11 = .ok (.goto 4, 3) := by decide +kernel
theorem dX6_within_14 : decode cX6_within 14 = .ok (.iconst 0, 1) := by decide +kernel
theorem dX6_within_15 : decode cX6_within 15 = .ok (.ireturn, 1) := by decide +kernel
theorem dX6_isKnown_0 : decode cX6_isKnown 0 = .ok (.iload_n 1, 1) := by decide +kernel
theorem dX6_isKnown_1 : decode cX6_isKnown 1 = .ok (.iconst 1, 1) := by decide +kernel
theorem dX6_isKnown_2 : decode cX6_isKnown 2 = .ok (.if_icmp .lt 22, 3) := by decide +kernel
theorem dX6_isKnown_5 : decode cX6_isKnown 5 = .ok (.iload_n 1, 1) := by decide +kernel
theorem dX6_isKnown_6 : decode cX6_isKnown 6 = .ok (.bipush 12, 2) := by decide +kernel
theorem dX6_isKnown_8 : decode cX6_isKnown 8 = .ok (.if_icmp .gt 16, 3) := by decide +kernel
theorem dX6_isKnown_11 : decode cX6_isKnown 11 = .ok (.aload_n 0, 1) := by decide +kernel
theorem dX6_isKnown_12 : decode cX6_isKnown 12 = .ok (.getfield 7, 3) := by decide +kernel
theorem dX6_isKnown_15 : decode cX6_isKnown 15 = .ok (.iload_n 1, 1) := by decide +kernel
theorem dX6_isKnown_16 : decode cX6_isKnown 16 = .ok (.baload, 1) := by decide +kernel
theorem dX6_isKnown_17 : decode cX6_isKnown 17 = .ok (.ifCond .eq 7, 3) := by decide +kernel
theorem dX6_isKnown_20 : decode cX6_isKnown 20 = .ok (.iconst 1, 1) := by decide +kernel
theorem dX6_isKnown_21 : decode cX6_isKnown 21 = .ok (.goto 4, 3) := by decide +kernel
theorem dX6_isKnown_24 : decode cX6_isKnown 24 = .ok (.iconst 0, 1) := by decide +kernel
theorem dX6_isKnown_25 : decode cX6_isKnown 25 = .ok (.ireturn, 1) := by decide +kernel
theorem dX6_times_0 : decode cX6_times 0 = .ok (.iload_n 0, 1) := by decide +kernel
theorem dX6_times_1 : decode cX6_times 1 = .ok (.iload_n 1, 1) := by decide +kernel
theorem dX6_times_2 : decode cX6_times 2 = .ok (.iadd, 1) := by decide +kernel
theorem dX6_times_3 : decode cX6_times 3 = .ok (.iconst 1, 1) := by decide +kernel
theorem dX6_times_4 : decode cX6_times 4 = .ok (.isub, 1) := by decide +kernel
theorem dX6_times_5 : decode cX6_times 5 = .ok (.iload_n 1, 1) := by decide +kernel
theorem dX6_times_6 : decode cX6_times 6 = .ok (.idiv, 1) := by decide +kernel
theorem dX6_times_7 : decode cX6_times 7 = .ok (.ireturn, 1) := by decide +kernel
set_option maxRecDepth 20000 in
theorem ggX6_lowResponse_X6_times : GoodIn wsX6_lowResponse wsX6_times := goodIn_r _ [8] (by decide +kernel) (by decide +kernel)
set_option maxRecDepth 20000 in
theorem gX6_lowResponse_X6_times : GoodIn wsX6_lowResponse (va_wsS RX6 87 yX6_times wsX6_times) := goodIn_app (goodIn_of _ (by decide +kernel)) ggX6_lowResponse_X6_times
theorem dX6_lowResponse_0 : decode cX6_lowResponse 0 = .ok (.iconst 1, 1) := by decide +kernel
theorem dX6_lowResponse_1 : decode cX6_lowResponse 1 = .ok (.istore_n 2, 1) := by decide +kernel
theorem dX6_lowResponse_2 : decode cX6_lowResponse 2 = .ok (.iload_n 2, 1) := by decide +kernel
theorem dX6_lowResponse_3 : decode cX6_lowResponse 3 = .ok (.aload_n 0, 1) := by decide +kernel
theorem dX6_lowResponse_4 : decode cX6_lowResponse 4 = .ok (.getfield 20, 3) := by decide +kernel
theorem dX6_lowResponse_7 : decode cX6_lowResponse 7 = .ok (.iload_n 1, 1) := by decide +kernel
theorem dX6_lowResponse_8 : decode cX6_lowResponse 8 = .ok (.iaload, 1) := by decide +kernel
theorem dX6_lowResponse_9 : decode cX6_lowResponse 9 = .ok (.if_icmp .gt 81, 3) := by decide +kernel
theorem dX6_lowResponse_12 : decode cX6_lowResponse 12 = .ok (.aload_n 0, 1) := by decide +kernel
theorem dX6_lowResponse_13 : decode cX6_lowResponse 13 = .ok (.getfield 23, 3) := by decide +kernel
theorem dX6_lowResponse_16 : decode cX6_lowResponse 16 = .ok (.iload_n 1, 1) := by decide +kernel
theorem dX6_lowResponse_17 : decode cX6_lowResponse 17 = .ok (.iaload, 1) := by decide +kernel
theorem dX6_lowResponse_18 : decode cX6_lowResponse 18 = .ok (.istore_n 3, 1) := by decide +kernel
theorem dX6_lowResponse_19 : decode cX6_lowResponse 19 = .ok (.iconst 1, 1) := by decide +kernel
theorem dX6_lowResponse_20 : decode cX6_lowResponse 20 = .ok (.istore 4, 2) := by decide +kernel
theorem dX6_lowResponse_22 : decode cX6_lowResponse 22 = .ok (.iload 4, 2) := by decide +kernel
theorem dX6_lowResponse_24 : decode cX6_lowResponse 24 = .ok (.bipush 13, 2) := by decide +kernel
theorem dX6_lowResponse_26 : decode cX6_lowResponse 26 = .ok (.if_icmp .ge 51, 3) := by decide +kernel
theorem dX6_lowResponse_29 : decode cX6_lowResponse 29 = .ok (.aload_n 0, 1) := by decide +kernel
theorem dX6_lowResponse_30 : decode cX6_lowResponse 30 = .ok (.getfield 80, 3) := by decide +kernel
theorem dX6_lowResponse_33 : decode cX6_lowResponse 33 = .ok (.iload 4, 2) := by decide +kernel
theorem dX6_lowResponse_35 : decode cX6_lowResponse 35 = .ok (.baload, 1) := by decide +kernel
theorem dX6_lowResponse_36 : decode cX6_lowResponse 36 = .ok (.ifCond .eq 33, 3) := by decide +kernel
theorem dX6_lowResponse_39 : decode cX6_lowResponse 39 = .ok (.iload 4, 2) := by decide +kernel
theorem dX6_lowResponse_41 : decode cX6_lowResponse 41 = .ok (.iload_n 1, 1) := by decide +kernel
theorem dX6_lowResponse_42 : decode cX6_lowResponse 42 = .ok (.if_icmp .eq 27, 3) := by decide +kernel
theorem dX6_lowResponse_45 : decode cX6_lowResponse 45 = .ok (.iload_n 3, 1) := by decide +kernel
theorem dX6_lowResponse_46 : decode cX6_lowResponse 46 = .ok (.iload_n 2, 1) := by decide +kernel
theorem dX6_lowResponse_47 : decode cX6_lowResponse 47 = .ok (.aload_n 0, 1) := by decide +kernel
theorem dX6_lowResponse_48 : decode cX6_lowResponse 48 = .ok (.getfield 16, 3) := by decide +kernel
theorem dX6_lowResponse_51 : decode cX6_lowResponse 51 = .ok (.iload 4, 2) := by decide +kernel
theorem dX6_lowResponse_53 : decode cX6_lowResponse 53 = .ok (.iaload, 1) := by decide +kernel
theorem dX6_lowResponse_54 : decode cX6_lowResponse 54 = .ok (.invokestatic 87, 3) := by decide +kernel
theorem dX6_lowResponse_57 : decode cX6_lowResponse 57 = .ok (.aload_n 0, 1) := by decide +kernel
theorem dX6_lowResponse_58 : decode cX6_lowResponse 58 = .ok (.getfield 23, 3) := by decide +kernel
theorem dX6_lowResponse_61 : decode cX6_lowResponse 61 = .ok (.iload 4, 2) := by decide +kernel
theorem dX6_lowResponse_63 : decode cX6_lowResponse 63 = .ok (.iaload, 1) := by decide +kernel
theorem dX6_lowResponse_64 : decode cX6_lowResponse 64 = .ok (.imul, 1) := by decide +kernel
theorem dX6_lowResponse_65 : decode cX6_lowResponse 65 = .ok (.iadd, 1) := by decide +kernel
theorem dX6_lowResponse_66 : decode cX6_lowResponse 66 = .ok (.goto 4, 3) := by decide +kernel
theorem dX6_lowResponse_69 : decode cX6_lowResponse 69 = .ok (.iload_n 3, 1) := by decide +kernel
theorem dX6_lowResponse_70 : decode cX6_lowResponse 70 = .ok (.istore_n 3, 1) := by decide +kernel
theorem dX6_lowResponse_71 : decode cX6_lowResponse 71 = .ok (.iinc 4 1, 3) := by decide +kernel
theorem dX6_lowResponse_74 : decode cX6_lowResponse 74 = .ok (.goto (-52), 3) := by decide +kernel
theorem dX6_lowResponse_77 : decode cX6_lowResponse 77 = .ok (.iload_n 3, 1) := by decide +kernel
theorem dX6_lowResponse_78 : decode cX6_lowResponse 78 = .ok (.iload_n 2, 1) := by decide +kernel
theorem dX6_lowResponse_79 : decode cX6_lowResponse 79 = .ok (.if_icmp .gt 5, 3) := by decide +kernel
theorem dX6_lowResponse_82 : decode cX6_lowResponse 82 = .ok (.iload_n 2, 1) := by decide +kernel
theorem dX6_lowResponse_83 : decode cX6_lowResponse 83 = .ok (.ireturn, 1) := by decide +kernel
theorem dX6_lowResponse_84 : decode cX6_lowResponse 84 = .ok (.iinc 2 1, 3) := by decide +kernel
theorem dX6_lowResponse_87 : decode cX6_lowResponse 87 = .ok (.goto (-85), 3) := by decide +kernel
theorem dX6_lowResponse_90 : decode cX6_lowResponse 90 = .ok (.iconst 0, 1) := by decide +kernel
theorem dX6_lowResponse_91 : decode cX6_lowResponse 91 = .ok (.ireturn, 1) := by decide +kernel
set_option maxRecDepth 20000 in
theorem ggX6_bound_X6_times : GoodIn wsX6_bound wsX6_times := goodIn_r _ [9] (by decide +kernel) (by decide +kernel)
set_option maxRecDepth 20000 in
theorem gX6_bound_X6_times : GoodIn wsX6_bound (va_wsS RX6 87 yX6_times wsX6_times) := goodIn_app (goodIn_of _ (by decide +kernel)) ggX6_bound_X6_times
theorem dX6_bound_0 : decode cX6_bound 0 = .ok (.aload_n 0, 1) := by decide +kernel
theorem dX6_bound_1 : decode cX6_bound 1 = .ok (.getfield 26, 3) := by decide +kernel
theorem dX6_bound_4 : decode cX6_bound 4 = .ok (.iload_n 1, 1) := by decide +kernel
theorem dX6_bound_5 : decode cX6_bound 5 = .ok (.iaload, 1) := by decide +kernel
theorem dX6_bound_6 : decode cX6_bound 6 = .ok (.istore_n 3, 1) := by decide +kernel
theorem dX6_bound_7 : decode cX6_bound 7 = .ok (.iconst 1, 1) := by decide +kernel
theorem dX6_bound_8 : decode cX6_bound 8 = .ok (.istore 4, 2) := by decide +kernel
theorem dX6_bound_10 : decode cX6_bound 10 = .ok (.iload 4, 2) := by decide +kernel
theorem dX6_bound_12 : decode cX6_bound 12 = .ok (.bipush 13, 2) := by decide +kernel
theorem dX6_bound_14 : decode cX6_bound 14 = .ok (.if_icmp .ge 61, 3) := by decide +kernel
theorem dX6_bound_17 : decode cX6_bound 17 = .ok (.aload_n 0, 1) := by decide +kernel
theorem dX6_bound_18 : decode cX6_bound 18 = .ok (.getfield 80, 3) := by decide +kernel
theorem dX6_bound_21 : decode cX6_bound 21 = .ok (.iload 4, 2) := by decide +kernel
theorem dX6_bound_23 : decode cX6_bound 23 = .ok (.baload, 1) := by decide +kernel
theorem dX6_bound_24 : decode cX6_bound 24 = .ok (.ifCond .eq 43, 3) := by decide +kernel
theorem dX6_bound_27 : decode cX6_bound 27 = .ok (.iload 4, 2) := by decide +kernel
theorem dX6_bound_29 : decode cX6_bound 29 = .ok (.iload_n 1, 1) := by decide +kernel
theorem dX6_bound_30 : decode cX6_bound 30 = .ok (.if_icmp .eq 37, 3) := by decide +kernel
theorem dX6_bound_33 : decode cX6_bound 33 = .ok (.aload_n 0, 1) := by decide +kernel
theorem dX6_bound_34 : decode cX6_bound 34 = .ok (.getfield 26, 3) := by decide +kernel
theorem dX6_bound_37 : decode cX6_bound 37 = .ok (.iload 4, 2) := by decide +kernel
theorem dX6_bound_39 : decode cX6_bound 39 = .ok (.iaload, 1) := by decide +kernel
theorem dX6_bound_40 : decode cX6_bound 40 = .ok (.ifCond .ne 27, 3) := by decide +kernel
theorem dX6_bound_43 : decode cX6_bound 43 = .ok (.iload_n 3, 1) := by decide +kernel
theorem dX6_bound_44 : decode cX6_bound 44 = .ok (.iload_n 2, 1) := by decide +kernel
theorem dX6_bound_45 : decode cX6_bound 45 = .ok (.aload_n 0, 1) := by decide +kernel
theorem dX6_bound_46 : decode cX6_bound 46 = .ok (.getfield 16, 3) := by decide +kernel
theorem dX6_bound_49 : decode cX6_bound 49 = .ok (.iload 4, 2) := by decide +kernel
theorem dX6_bound_51 : decode cX6_bound 51 = .ok (.iaload, 1) := by decide +kernel
theorem dX6_bound_52 : decode cX6_bound 52 = .ok (.invokestatic 87, 3) := by decide +kernel
theorem dX6_bound_55 : decode cX6_bound 55 = .ok (.aload_n 0, 1) := by decide +kernel
theorem dX6_bound_56 : decode cX6_bound 56 = .ok (.getfield 23, 3) := by decide +kernel
theorem dX6_bound_59 : decode cX6_bound 59 = .ok (.iload 4, 2) := by decide +kernel
theorem dX6_bound_61 : decode cX6_bound 61 = .ok (.iaload, 1) := by decide +kernel
theorem dX6_bound_62 : decode cX6_bound 62 = .ok (.imul, 1) := by decide +kernel
theorem dX6_bound_63 : decode cX6_bound 63 = .ok (.iadd, 1) := by decide +kernel
theorem dX6_bound_64 : decode cX6_bound 64 = .ok (.goto 4, 3) := by decide +kernel
theorem dX6_bound_67 : decode cX6_bound 67 = .ok (.iload_n 3, 1) := by decide +kernel
theorem dX6_bound_68 : decode cX6_bound 68 = .ok (.istore_n 3, 1) := by decide +kernel
theorem dX6_bound_69 : decode cX6_bound 69 = .ok (.iinc 4 1, 3) := by decide +kernel
theorem dX6_bound_72 : decode cX6_bound 72 = .ok (.goto (-62), 3) := by decide +kernel
theorem dX6_bound_75 : decode cX6_bound 75 = .ok (.iconst 1, 1) := by decide +kernel
theorem dX6_bound_76 : decode cX6_bound 76 = .ok (.istore 4, 2) := by decide +kernel
theorem dX6_bound_78 : decode cX6_bound 78 = .ok (.iload 4, 2) := by decide +kernel
theorem dX6_bound_80 : decode cX6_bound 80 = .ok (.aload_n 0, 1) := by decide +kernel
theorem dX6_bound_81 : decode cX6_bound 81 = .ok (.getfield 20, 3) := by decide +kernel
theorem dX6_bound_84 : decode cX6_bound 84 = .ok (.iload_n 1, 1) := by decide +kernel
theorem dX6_bound_85 : decode cX6_bound 85 = .ok (.iaload, 1) := by decide +kernel
theorem dX6_bound_86 : decode cX6_bound 86 = .ok (.if_icmp .gt 94, 3) := by decide +kernel
theorem dX6_bound_89 : decode cX6_bound 89 = .ok (.iload_n 3, 1) := by decide +kernel
theorem dX6_bound_90 : decode cX6_bound 90 = .ok (.istore 5, 2) := by decide +kernel
theorem dX6_bound_92 : decode cX6_bound 92 = .ok (.iconst 1, 1) := by decide +kernel
theorem dX6_bound_93 : decode cX6_bound 93 = .ok (.istore 6, 2) := by decide +kernel
theorem dX6_bound_95 : decode cX6_bound 95 = .ok (.iload 6, 2) := by decide +kernel
theorem dX6_bound_97 : decode cX6_bound 97 = .ok (.bipush 13, 2) := by decide +kernel
theorem dX6_bound_99 : decode cX6_bound 99 = .ok (.if_icmp .ge 65, 3) := by decide +kernel
theorem dX6_bound_102 : decode cX6_bound 102 = .ok (.aload_n 0, 1) := by decide +kernel
theorem dX6_bound_103 : decode cX6_bound 103 = .ok (.getfield 80, 3) := by decide +kernel
theorem dX6_bound_106 : decode cX6_bound 106 = .ok (.iload 6, 2) := by decide +kernel
theorem dX6_bound_108 : decode cX6_bound 108 = .ok (.baload, 1) := by decide +kernel
theorem dX6_bound_109 : decode cX6_bound 109 = .ok (.ifCond .eq 45, 3) := by decide +kernel
theorem dX6_bound_112 : decode cX6_bound 112 = .ok (.iload 6, 2) := by decide +kernel
theorem dX6_bound_114 : decode cX6_bound 114 = .ok (.iload_n 1, 1) := by decide +kernel
theorem dX6_bound_115 : decode cX6_bound 115 = .ok (.if_icmp .eq 39, 3) := by decide +kernel
theorem dX6_bound_118 : decode cX6_bound 118 = .ok (.aload_n 0, 1) := by decide +kernel
theorem dX6_bound_119 : decode cX6_bound 119 = .ok (.getfield 26, 3) := by decide +kernel
theorem dX6_bound_122 : decode cX6_bound 122 = .ok (.iload 6, 2) := by decide +kernel
theorem dX6_bound_124 : decode cX6_bound 124 = .ok (.iaload, 1) := by decide +kernel
theorem dX6_bound_125 : decode cX6_bound 125 = .ok (.ifCond .le 29, 3) := by decide +kernel
theorem dX6_bound_128 : decode cX6_bound 128 = .ok (.iload 5, 2) := by decide +kernel
