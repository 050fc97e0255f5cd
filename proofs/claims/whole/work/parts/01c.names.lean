theorem dX2_taskOf_7 : decode cX2_taskOf 7 = .ok (.aload_n 0, 1) := by decide +kernel
theorem dX2_taskOf_8 : decode cX2_taskOf 8 = .ok (.iload_n 2, 1) := by decide +kernel
theorem dX2_taskOf_9 : decode cX2_taskOf 9 = .ok (.invokevirtual 34, 3) := by decide +kernel
theorem dX2_taskOf_12 : decode cX2_taskOf 12 = .ok (.isub, 1) := by decide +kernel
theorem dX2_taskOf_13 : decode cX2_taskOf 13 = .ok (.istore_n 3, 1) := by decide +kernel
theorem dX2_taskOf_14 : decode cX2_taskOf 14 = .ok (.iconst 0, 1) := by decide +kernel
theorem dX2_taskOf_15 : decode cX2_taskOf 15 = .ok (.istore 4, 2) := by decide +kernel
theorem dX2_taskOf_17 : decode cX2_taskOf 17 = .ok (.iload 4, 2) := by decide +kernel
theorem dX2_taskOf_19 : decode cX2_taskOf 19 = .ok (.aload_n 0, 1) := by decide +kernel
theorem dX2_taskOf_20 : decode cX2_taskOf 20 = .ok (.getfield 18, 3) := by decide +kernel
theorem dX2_taskOf_23 : decode cX2_taskOf 23 = .ok (.if_icmp .ge 38, 3) := by decide +kernel
theorem dX2_taskOf_26 : decode cX2_taskOf 26 = .ok (.iload_n 2, 1) := by decide +kernel
theorem dX2_taskOf_27 : decode cX2_taskOf 27 = .ok (.aload_n 0, 1) := by decide +kernel
theorem dX2_taskOf_28 : decode cX2_taskOf 28 = .ok (.getfield 15, 3) := by decide +kernel
theorem dX2_taskOf_31 : decode cX2_taskOf 31 = .ok (.iload 4, 2) := by decide +kernel
theorem dX2_taskOf_33 : decode cX2_taskOf 33 = .ok (.iaload, 1) := by decide +kernel
theorem dX2_taskOf_34 : decode cX2_taskOf 34 = .ok (.invokestatic 41, 3) := by decide +kernel
theorem dX2_taskOf_37 : decode cX2_taskOf 37 = .ok (.ifCond .eq 18, 3) := by decide +kernel
theorem dX2_taskOf_40 : decode cX2_taskOf 40 = .ok (.iload_n 3, 1) := by decide +kernel
theorem dX2_taskOf_41 : decode cX2_taskOf 41 = .ok (.ifCond .ne 11, 3) := by decide +kernel
theorem dX2_taskOf_44 : decode cX2_taskOf 44 = .ok (.aload_n 0, 1) := by decide +kernel
theorem dX2_taskOf_45 : decode cX2_taskOf 45 = .ok (.getfield 9, 3) := by decide +kernel
theorem dX2_taskOf_48 : decode cX2_taskOf 48 = .ok (.iload 4, 2) := by decide +kernel
theorem dX2_taskOf_50 : decode cX2_taskOf 50 = .ok (.iaload, 1) := by decide +kernel
theorem dX2_taskOf_51 : decode cX2_taskOf 51 = .ok (.ireturn, 1) := by decide +kernel
theorem dX2_taskOf_52 : decode cX2_taskOf 52 = .ok (.iinc 3 (-1), 3) := by decide +kernel
theorem dX2_taskOf_55 : decode cX2_taskOf 55 = .ok (.iinc 4 1, 3) := by decide +kernel
theorem dX2_taskOf_58 : decode cX2_taskOf 58 = .ok (.goto (-41), 3) := by decide +kernel
theorem dX2_taskOf_61 : decode cX2_taskOf 61 = .ok (.iconst (-1), 1) := by decide +kernel
theorem dX2_taskOf_62 : decode cX2_taskOf 62 = .ok (.ireturn, 1) := by decide +kernel
set_option maxRecDepth 20000 in
theorem ggX2_releasesBefore_X5_releasesWithin : GoodIn wsX2_releasesBefore wsX5_releasesWithin := goodIn_r _ [5] (by decide +kernel) (by decide +kernel)
set_option maxRecDepth 20000 in
theorem gX2_releasesBefore_X5_releasesWithin_n45 : GoodIn wsX2_releasesBefore (wsX5_releasesWithin) := ggX2_releasesBefore_X5_releasesWithin
theorem dX2_releasesBefore_0 : decode cX2_releasesBefore 0 = .ok (.iconst 0, 1) := by decide +kernel
theorem dX2_releasesBefore_1 : decode cX2_releasesBefore 1 = .ok (.istore_n 2, 1) := by decide +kernel
theorem dX2_releasesBefore_2 : decode cX2_releasesBefore 2 = .ok (.iconst 0, 1) := by decide +kernel
theorem dX2_releasesBefore_3 : decode cX2_releasesBefore 3 = .ok (.istore_n 3, 1) := by decide +kernel
theorem dX2_releasesBefore_4 : decode cX2_releasesBefore 4 = .ok (.iload_n 3, 1) := by decide +kernel
theorem dX2_releasesBefore_5 : decode cX2_releasesBefore 5 = .ok (.aload_n 0, 1) := by decide +kernel
theorem dX2_releasesBefore_6 : decode cX2_releasesBefore 6 = .ok (.getfield 18, 3) := by decide +kernel
theorem dX2_releasesBefore_9 : decode cX2_releasesBefore 9 = .ok (.if_icmp .ge 22, 3) := by decide +kernel
theorem dX2_releasesBefore_12 : decode cX2_releasesBefore 12 = .ok (.iload_n 2, 1) := by decide +kernel
theorem dX2_releasesBefore_13 : decode cX2_releasesBefore 13 = .ok (.iload_n 1, 1) := by decide +kernel
theorem dX2_releasesBefore_14 : decode cX2_releasesBefore 14 = .ok (.aload_n 0, 1) := by decide +kernel
theorem dX2_releasesBefore_15 : decode cX2_releasesBefore 15 = .ok (.getfield 15, 3) := by decide +kernel
theorem dX2_releasesBefore_18 : decode cX2_releasesBefore 18 = .ok (.iload_n 3, 1) := by decide +kernel
theorem dX2_releasesBefore_19 : decode cX2_releasesBefore 19 = .ok (.iaload, 1) := by decide +kernel
theorem dX2_releasesBefore_20 : decode cX2_releasesBefore 20 = .ok (.invokestatic 45, 3) := by decide +kernel
theorem dX2_releasesBefore_23 : decode cX2_releasesBefore 23 = .ok (.iadd, 1) := by decide +kernel
theorem dX2_releasesBefore_24 : decode cX2_releasesBefore 24 = .ok (.istore_n 2, 1) := by decide +kernel
theorem dX2_releasesBefore_25 : decode cX2_releasesBefore 25 = .ok (.iinc 3 1, 3) := by decide +kernel
theorem dX2_releasesBefore_28 : decode cX2_releasesBefore 28 = .ok (.goto (-24), 3) := by decide +kernel
theorem dX2_releasesBefore_31 : decode cX2_releasesBefore 31 = .ok (.iload_n 2, 1) := by decide +kernel
theorem dX2_releasesBefore_32 : decode cX2_releasesBefore 32 = .ok (.ireturn, 1) := by decide +kernel
theorem dX2_isReleaseTime_0 : decode cX2_isReleaseTime 0 = .ok (.iload_n 1, 1) := by decide +kernel
theorem dX2_isReleaseTime_1 : decode cX2_isReleaseTime 1 = .ok (.iconst 1, 1) := by decide +kernel
theorem dX2_isReleaseTime_2 : decode cX2_isReleaseTime 2 = .ok (.if_icmp .lt 13, 3) := by decide +kernel
theorem dX2_isReleaseTime_5 : decode cX2_isReleaseTime 5 = .ok (.iload_n 0, 1) := by decide +kernel
theorem dX2_isReleaseTime_6 : decode cX2_isReleaseTime 6 = .ok (.iload_n 1, 1) := by decide +kernel
theorem dX2_isReleaseTime_7 : decode cX2_isReleaseTime 7 = .ok (.irem, 1) := by decide +kernel
theorem dX2_isReleaseTime_8 : decode cX2_isReleaseTime 8 = .ok (.ifCond .ne 7, 3) := by decide +kernel
theorem dX2_isReleaseTime_11 : decode cX2_isReleaseTime 11 = .ok (.iconst 1, 1) := by decide +kernel
theorem dX2_isReleaseTime_12 : decode cX2_isReleaseTime 12 = .ok (.goto 4, 3) := by decide +kernel
theorem dX2_isReleaseTime_15 : decode cX2_isReleaseTime 15 = .ok (.iconst 0, 1) := by decide +kernel
theorem dX2_isReleaseTime_16 : decode cX2_isReleaseTime 16 = .ok (.ireturn, 1) := by decide +kernel
theorem dX3_init_0 : decode cX3_init 0 = .ok (.aload_n 0, 1) := by decide +kernel
theorem dX3_init_1 : decode cX3_init 1 = .ok (.invokespecial 3, 3) := by decide +kernel
theorem dX3_init_4 : decode cX3_init 4 = .ok (.aload_n 0, 1) := by decide +kernel
theorem dX3_init_5 : decode cX3_init 5 = .ok (.iconst 1, 1) := by decide +kernel
theorem dX3_init_6 : decode cX3_init 6 = .ok (.putfield 9, 3) := by decide +kernel
theorem dX3_init_9 : decode cX3_init 9 = .ok (.aload_n 0, 1) := by decide +kernel
theorem dX3_init_10 : decode cX3_init 10 = .ok (.iconst 1, 1) := by decide +kernel
theorem dX3_init_11 : decode cX3_init 11 = .ok (.putfield 15, 3) := by decide +kernel
theorem dX3_init_14 : decode cX3_init 14 = .ok (.aload_n 0, 1) := by decide +kernel
theorem dX3_init_15 : decode cX3_init 15 = .ok (.iconst 1, 1) := by decide +kernel
theorem dX3_init_16 : decode cX3_init 16 = .ok (.putfield 18, 3) := by decide +kernel
theorem dX3_init_19 : decode cX3_init 19 = .ok (.aload_n 0, 1) := by decide +kernel
theorem dX3_init_20 : decode cX3_init 20 = .ok (.bipush 8, 2) := by decide +kernel
theorem dX3_init_22 : decode cX3_init 22 = .ok (.newarray .int, 2) := by decide +kernel
theorem dX3_init_24 : decode cX3_init 24 = .ok (.putfield 21, 3) := by decide +kernel
theorem dX3_init_27 : decode cX3_init 27 = .ok (.aload_n 0, 1) := by decide +kernel
theorem dX3_init_28 : decode cX3_init 28 = .ok (.bipush 8, 2) := by decide +kernel
theorem dX3_init_30 : decode cX3_init 30 = .ok (.newarray .int, 2) := by decide +kernel
theorem dX3_init_32 : decode cX3_init 32 = .ok (.putfield 25, 3) := by decide +kernel
theorem dX3_init_35 : decode cX3_init 35 = .ok (.aload_n 0, 1) := by decide +kernel
theorem dX3_init_36 : decode cX3_init 36 = .ok (.bipush 8, 2) := by decide +kernel
theorem dX3_init_38 : decode cX3_init 38 = .ok (.newarray .int, 2) := by decide +kernel
theorem dX3_init_40 : decode cX3_init 40 = .ok (.putfield 28, 3) := by decide +kernel
theorem dX3_init_43 : decode cX3_init 43 = .ok (.return_, 1) := by decide +kernel
theorem dX3_begin_0 : decode cX3_begin 0 = .ok (.aload_n 0, 1) := by decide +kernel
theorem dX3_begin_1 : decode cX3_begin 1 = .ok (.iload_n 1, 1) := by decide +kernel
theorem dX3_begin_2 : decode cX3_begin 2 = .ok (.putfield 9, 3) := by decide +kernel
theorem dX3_begin_5 : decode cX3_begin 5 = .ok (.aload_n 0, 1) := by decide +kernel
theorem dX3_begin_6 : decode cX3_begin 6 = .ok (.iload_n 2, 1) := by decide +kernel
theorem dX3_begin_7 : decode cX3_begin 7 = .ok (.putfield 15, 3) := by decide +kernel
theorem dX3_begin_10 : decode cX3_begin 10 = .ok (.aload_n 0, 1) := by decide +kernel
theorem dX3_begin_11 : decode cX3_begin 11 = .ok (.iload_n 3, 1) := by decide +kernel
theorem dX3_begin_12 : decode cX3_begin 12 = .ok (.putfield 18, 3) := by decide +kernel
theorem dX3_begin_15 : decode cX3_begin 15 = .ok (.aload_n 0, 1) := by decide +kernel
theorem dX3_begin_16 : decode cX3_begin 16 = .ok (.iload 4, 2) := by decide +kernel
theorem dX3_begin_18 : decode cX3_begin 18 = .ok (.putfield 31, 3) := by decide +kernel
theorem dX3_begin_21 : decode cX3_begin 21 = .ok (.aload_n 0, 1) := by decide +kernel
theorem dX3_begin_22 : decode cX3_begin 22 = .ok (.iconst 0, 1) := by decide +kernel
theorem dX3_begin_23 : decode cX3_begin 23 = .ok (.putfield 34, 3) := by decide +kernel
theorem dX3_begin_26 : decode cX3_begin 26 = .ok (.aload_n 0, 1) := by decide +kernel
theorem dX3_begin_27 : decode cX3_begin 27 = .ok (.iconst 0, 1) := by decide +kernel
theorem dX3_begin_28 : decode cX3_begin 28 = .ok (.putfield 38, 3) := by decide +kernel
theorem dX3_begin_31 : decode cX3_begin 31 = .ok (.aload_n 0, 1) := by decide +kernel
theorem dX3_begin_32 : decode cX3_begin 32 = .ok (.iconst 0, 1) := by decide +kernel
theorem dX3_begin_33 : decode cX3_begin 33 = .ok (.putfield 41, 3) := by decide +kernel
theorem dX3_begin_36 : decode cX3_begin 36 = .ok (.aload_n 0, 1) := by decide +kernel
theorem dX3_begin_37 : decode cX3_begin 37 = .ok (.iconst 0, 1) := by decide +kernel
theorem dX3_begin_38 : decode cX3_begin 38 = .ok (.putfield 44, 3) := by decide +kernel
theorem dX3_begin_41 : decode cX3_begin 41 = .ok (.aload_n 0, 1) := by decide +kernel
theorem dX3_begin_42 : decode cX3_begin 42 = .ok (.iconst 0, 1) := by decide +kernel
theorem dX3_begin_43 : decode cX3_begin 43 = .ok (.putfield 47, 3) := by decide +kernel
theorem dX3_begin_46 : decode cX3_begin 46 = .ok (.aload_n 0, 1) := by decide +kernel
theorem dX3_begin_47 : decode cX3_begin 47 = .ok (.iconst 0, 1) := by decide +kernel
theorem dX3_begin_48 : decode cX3_begin 48 = .ok (.putfield 50, 3) := by decide +kernel
theorem dX3_begin_51 : decode cX3_begin 51 = .ok (.aload_n 0, 1) := by decide +kernel
theorem dX3_begin_52 : decode cX3_begin 52 = .ok (.iconst 0, 1) := by decide +kernel
theorem dX3_begin_53 : decode cX3_begin 53 = .ok (.putfield 53, 3) := by decide +kernel
theorem dX3_begin_56 : decode cX3_begin 56 = .ok (.return_, 1) := by decide +kernel
theorem dX3_isHigh_0 : decode cX3_isHigh 0 = .ok (.aload_n 0, 1) := by decide +kernel
theorem dX3_isHigh_1 : decode cX3_isHigh 1 = .ok (.getfield 31, 3) := by decide +kernel
theorem dX3_isHigh_4 : decode cX3_isHigh 4 = .ok (.ifCond .le 7, 3) := by decide +kernel
theorem dX3_isHigh_7 : decode cX3_isHigh 7 = .ok (.iconst 1, 1) := by decide +kernel
theorem dX3_isHigh_8 : decode cX3_isHigh 8 = .ok (.goto 4, 3) := by decide +kernel
theorem dX3_isHigh_11 : decode cX3_isHigh 11 = .ok (.iconst 0, 1) := by decide +kernel
theorem dX3_isHigh_12 : decode cX3_isHigh 12 = .ok (.ireturn, 1) := by decide +kernel
set_option maxRecDepth 20000 in
theorem ggX3_greatestBudget_X3_isHigh : GoodIn wsX3_greatestBudget wsX3_isHigh := goodIn_r _ [7, 1, 8, 9, 10, 11, 12, 13, 14, 15, 16, 17, 18, 19, 20, 21] (by decide +kernel) (by decide +kernel)
set_option maxRecDepth 20000 in
theorem gX3_greatestBudget_X3_isHigh : GoodIn wsX3_greatestBudget (wsV RX3 56 RX3 yX3_isHigh wsX3_isHigh) := goodIn_app (goodIn_of _ (by decide +kernel)) ggX3_greatestBudget_X3_isHigh
theorem dX3_greatestBudget_0 : decode cX3_greatestBudget 0 = .ok (.aload_n 0, 1) := by decide +kernel
theorem dX3_greatestBudget_1 : decode cX3_greatestBudget 1 = .ok (.invokevirtual 56, 3) := by decide +kernel
theorem dX3_greatestBudget_4 : decode cX3_greatestBudget 4 = .ok (.ifCond .eq 10, 3) := by decide +kernel
theorem dX3_greatestBudget_7 : decode cX3_greatestBudget 7 = .ok (.aload_n 0, 1) := by decide +kernel
theorem dX3_greatestBudget_8 : decode cX3_greatestBudget 8 = .ok (.getfield 31, 3) := by decide +kernel
theorem dX3_greatestBudget_11 : decode cX3_greatestBudget 11 = .ok (.goto 7, 3) := by decide +kernel
theorem dX3_greatestBudget_14 : decode cX3_greatestBudget 14 = .ok (.aload_n 0, 1) := by decide +kernel
theorem dX3_greatestBudget_15 : decode cX3_greatestBudget 15 = .ok (.getfield 18, 3) := by decide +kernel
theorem dX3_greatestBudget_18 : decode cX3_greatestBudget 18 = .ok (.ireturn, 1) := by decide +kernel
theorem dX3_budgetAmong_0 : decode cX3_budgetAmong 0 = .ok (.iload_n 1, 1) := by decide +kernel
theorem dX3_budgetAmong_1 : decode cX3_budgetAmong 1 = .ok (.iconst 2, 1) := by decide +kernel
theorem dX3_budgetAmong_2 : decode cX3_budgetAmong 2 = .ok (.if_icmp .ne 8, 3) := by decide +kernel
theorem dX3_budgetAmong_5 : decode cX3_budgetAmong 5 = .ok (.aload_n 0, 1) := by decide +kernel
theorem dX3_budgetAmong_6 : decode cX3_budgetAmong 6 = .ok (.getfield 31, 3) := by decide +kernel
theorem dX3_budgetAmong_9 : decode cX3_budgetAmong 9 = .ok (.ireturn, 1) := by decide +kernel
theorem dX3_budgetAmong_10 : decode cX3_budgetAmong 10 = .ok (.iload_n 1, 1) := by decide +kernel
theorem dX3_budgetAmong_11 : decode cX3_budgetAmong 11 = .ok (.iconst 1, 1) := by decide +kernel
theorem dX3_budgetAmong_12 : decode cX3_budgetAmong 12 = .ok (.if_icmp .ne 14, 3) := by decide +kernel
theorem dX3_budgetAmong_15 : decode cX3_budgetAmong 15 = .ok (.aload_n 0, 1) := by decide +kernel
theorem dX3_budgetAmong_16 : decode cX3_budgetAmong 16 = .ok (.getfield 31, 3) := by decide +kernel
theorem dX3_budgetAmong_19 : decode cX3_budgetAmong 19 = .ok (.ifCond .le 7, 3) := by decide +kernel
theorem dX3_budgetAmong_22 : decode cX3_budgetAmong 22 = .ok (.iconst 0, 1) := by decide +kernel
theorem dX3_budgetAmong_23 : decode cX3_budgetAmong 23 = .ok (.goto 7, 3) := by decide +kernel
theorem dX3_budgetAmong_26 : decode cX3_budgetAmong 26 = .ok (.aload_n 0, 1) := by decide +kernel
theorem dX3_budgetAmong_27 : decode cX3_budgetAmong 27 = .ok (.getfield 18, 3) := by decide +kernel
theorem dX3_budgetAmong_30 : decode cX3_budgetAmong 30 = .ok (.ireturn, 1) := by decide +kernel
set_option maxRecDepth 20000 in
theorem ggX3_nextRelease_X5_slotOf : GoodIn wsX3_nextRelease wsX5_slotOf := goodIn_r _ [6, 7, 8, 9, 10] (by decide +kernel) (by decide +kernel)
set_option maxRecDepth 20000 in
theorem gX3_nextRelease_X5_slotOf_n60 : GoodIn wsX3_nextRelease (wsX5_slotOf) := ggX3_nextRelease_X5_slotOf
theorem dX3_nextRelease_0 : decode cX3_nextRelease 0 = .ok (.aload_n 0, 1) := by decide +kernel
theorem dX3_nextRelease_1 : decode cX3_nextRelease 1 = .ok (.getfield 38, 3) := by decide +kernel
theorem dX3_nextRelease_4 : decode cX3_nextRelease 4 = .ok (.ifCond .ne 7, 3) := by decide +kernel
theorem dX3_nextRelease_7 : decode cX3_nextRelease 7 = .ok (.iconst 0, 1) := by decide +kernel
theorem dX3_nextRelease_8 : decode cX3_nextRelease 8 = .ok (.goto 20, 3) := by decide +kernel
theorem dX3_nextRelease_11 : decode cX3_nextRelease 11 = .ok (.aload_n 0, 1) := by decide +kernel
theorem dX3_nextRelease_12 : decode cX3_nextRelease 12 = .ok (.getfield 25, 3) := by decide +kernel
theorem dX3_nextRelease_15 : decode cX3_nextRelease 15 = .ok (.aload_n 0, 1) := by decide +kernel
theorem dX3_nextRelease_16 : decode cX3_nextRelease 16 = .ok (.getfield 38, 3) := by decide +kernel
theorem dX3_nextRelease_19 : decode cX3_nextRelease 19 = .ok (.invokestatic 60, 3) := by decide +kernel
theorem dX3_nextRelease_22 : decode cX3_nextRelease 22 = .ok (.iaload, 1) := by decide +kernel
theorem dX3_nextRelease_23 : decode cX3_nextRelease 23 = .ok (.aload_n 0, 1) := by decide +kernel
theorem dX3_nextRelease_24 : decode cX3_nextRelease 24 = .ok (.getfield 9, 3) := by decide +kernel
theorem dX3_nextRelease_27 : decode cX3_nextRelease 27 = .ok (.iadd, 1) := by decide +kernel
theorem dX3_nextRelease_28 : decode cX3_nextRelease 28 = .ok (.ireturn, 1) := by decide +kernel
theorem dX3_keeps_0 : decode cX3_keeps 0 = .ok (.iload_n 1, 1) := by decide +kernel
theorem dX3_keeps_1 : decode cX3_keeps 1 = .ok (.iconst 1, 1) := by decide +kernel
theorem dX3_keeps_2 : decode cX3_keeps 2 = .ok (.if_icmp .lt 26, 3) := by decide +kernel
theorem dX3_keeps_5 : decode cX3_keeps 5 = .ok (.iload_n 1, 1) := by decide +kernel
theorem dX3_keeps_6 : decode cX3_keeps 6 = .ok (.aload_n 0, 1) := by decide +kernel
theorem dX3_keeps_7 : decode cX3_keeps 7 = .ok (.getfield 38, 3) := by decide +kernel
theorem dX3_keeps_10 : decode cX3_keeps 10 = .ok (.if_icmp .gt 18, 3) := by decide +kernel
theorem dX3_keeps_13 : decode cX3_keeps 13 = .ok (.iload_n 1, 1) := by decide +kernel
theorem dX3_keeps_14 : decode cX3_keeps 14 = .ok (.aload_n 0, 1) := by decide +kernel
theorem dX3_keeps_15 : decode cX3_keeps 15 = .ok (.getfield 38, 3) := by decide +kernel
theorem dX3_keeps_18 : decode cX3_keeps 18 = .ok (.bipush 8, 2) := by decide +kernel
theorem dX3_keeps_20 : decode cX3_keeps 20 = .ok (.isub, 1) := by decide +kernel
theorem dX3_keeps_21 : decode cX3_keeps 21 = .ok (.if_icmp .le 7, 3) := by decide +kernel
theorem dX3_keeps_24 : decode cX3_keeps 24 = .ok (.iconst 1, 1) := by decide +kernel
theorem dX3_keeps_25 : decode cX3_keeps 25 = .ok (.goto 4, 3) := by decide +kernel
theorem dX3_keeps_28 : decode cX3_keeps 28 = .ok (.iconst 0, 1) := by decide +kernel
theorem dX3_keeps_29 : decode cX3_keeps 29 = .ok (.ireturn, 1) := by decide +kernel
set_option maxRecDepth 20000 in
theorem ggX3_newJob_X5_slotOf : GoodIn wsX3_newJob wsX5_slotOf := goodIn_r _ [8, 9, 10, 11, 12] (by decide +kernel) (by decide +kernel)
set_option maxRecDepth 20000 in
theorem gX3_newJob_X5_slotOf_n60 : GoodIn wsX3_newJob (wsX5_slotOf) := ggX3_newJob_X5_slotOf
theorem dX3_newJob_0 : decode cX3_newJob 0 = .ok (.aload_n 0, 1) := by decide +kernel
theorem dX3_newJob_1 : decode cX3_newJob 1 = .ok (.dup, 1) := by decide +kernel
theorem dX3_newJob_2 : decode cX3_newJob 2 = .ok (.getfield 38, 3) := by decide +kernel
theorem dX3_newJob_5 : decode cX3_newJob 5 = .ok (.iconst 1, 1) := by decide +kernel
theorem dX3_newJob_6 : decode cX3_newJob 6 = .ok (.iadd, 1) := by decide +kernel
theorem dX3_newJob_7 : decode cX3_newJob 7 = .ok (.putfield 38, 3) := by decide +kernel
theorem dX3_newJob_10 : decode cX3_newJob 10 = .ok (.aload_n 0, 1) := by decide +kernel
theorem dX3_newJob_11 : decode cX3_newJob 11 = .ok (.dup, 1) := by decide +kernel
theorem dX3_newJob_12 : decode cX3_newJob 12 = .ok (.getfield 50, 3) := by decide +kernel
theorem dX3_newJob_15 : decode cX3_newJob 15 = .ok (.iconst 1, 1) := by decide +kernel
theorem dX3_newJob_16 : decode cX3_newJob 16 = .ok (.iadd, 1) := by decide +kernel
theorem dX3_newJob_17 : decode cX3_newJob 17 = .ok (.putfield 50, 3) := by decide +kernel
theorem dX3_newJob_20 : decode cX3_newJob 20 = .ok (.aload_n 0, 1) := by decide +kernel
theorem dX3_newJob_21 : decode cX3_newJob 21 = .ok (.getfield 38, 3) := by decide +kernel
theorem dX3_newJob_24 : decode cX3_newJob 24 = .ok (.invokestatic 60, 3) := by decide +kernel
theorem dX3_newJob_27 : decode cX3_newJob 27 = .ok (.istore_n 3, 1) := by decide +kernel
theorem dX3_newJob_28 : decode cX3_newJob 28 = .ok (.aload_n 0, 1) := by decide +kernel
theorem dX3_newJob_29 : decode cX3_newJob 29 = .ok (.getfield 21, 3) := by decide +kernel
theorem dX3_newJob_32 : decode cX3_newJob 32 = .ok (.iload_n 3, 1) := by decide +kernel
theorem dX3_newJob_33 : decode cX3_newJob 33 = .ok (.iload_n 1, 1) := by decide +kernel
theorem dX3_newJob_34 : decode cX3_newJob 34 = .ok (.iastore, 1) := by decide +kernel
theorem dX3_newJob_35 : decode cX3_newJob 35 = .ok (.aload_n 0, 1) := by decide +kernel
theorem dX3_newJob_36 : decode cX3_newJob 36 = .ok (.getfield 25, 3) := by decide +kernel
theorem dX3_newJob_39 : decode cX3_newJob 39 = .ok (.iload_n 3, 1) := by decide +kernel
theorem dX3_newJob_40 : decode cX3_newJob 40 = .ok (.iload_n 2, 1) := by decide +kernel
theorem dX3_newJob_41 : decode cX3_newJob 41 = .ok (.iastore, 1) := by decide +kernel
theorem dX3_newJob_42 : decode cX3_newJob 42 = .ok (.aload_n 0, 1) := by decide +kernel
theorem dX3_newJob_43 : decode cX3_newJob 43 = .ok (.getfield 28, 3) := by decide +kernel
theorem dX3_newJob_46 : decode cX3_newJob 46 = .ok (.iload_n 3, 1) := by decide +kernel
theorem dX3_newJob_47 : decode cX3_newJob 47 = .ok (.iconst (-1), 1) := by decide +kernel
theorem dX3_newJob_48 : decode cX3_newJob 48 = .ok (.iastore, 1) := by decide +kernel
theorem dX3_newJob_49 : decode cX3_newJob 49 = .ok (.aload_n 0, 1) := by decide +kernel
theorem dX3_newJob_50 : decode cX3_newJob 50 = .ok (.getfield 38, 3) := by decide +kernel
theorem dX3_newJob_53 : decode cX3_newJob 53 = .ok (.ireturn, 1) := by decide +kernel
set_option maxRecDepth 20000 in
theorem ggX3_chargeFirst_X5_slotOf : GoodIn wsX3_chargeFirst wsX5_slotOf := goodIn_r _ [10, 11, 12, 13, 14] (by decide +kernel) (by decide +kernel)
set_option maxRecDepth 20000 in
theorem gX3_chargeFirst_X5_slotOf_n60 : GoodIn wsX3_chargeFirst (wsX5_slotOf) := ggX3_chargeFirst_X5_slotOf
set_option maxRecDepth 20000 in
theorem ggX3_chargeFirst_X3_isLate : GoodIn wsX3_chargeFirst wsX3_isLate := goodIn_r _ [19, 20, 21, 22, 23, 24, 25, 26, 27, 28, 29, 30, 31, 32, 33, 34, 35] (by decide +kernel) (by decide +kernel)
set_option maxRecDepth 20000 in
theorem gX3_chargeFirst_X3_isLate : GoodIn wsX3_chargeFirst (wsV RX3 64 RX3 yX3_isLate wsX3_isLate) := goodIn_app (goodIn_of _ (by decide +kernel)) ggX3_chargeFirst_X3_isLate
theorem dX3_chargeFirst_0 : decode cX3_chargeFirst 0 = .ok (.aload_n 0, 1) := by decide +kernel
theorem dX3_chargeFirst_1 : decode cX3_chargeFirst 1 = .ok (.getfield 38, 3) := by decide +kernel
theorem dX3_chargeFirst_4 : decode cX3_chargeFirst 4 = .ok (.aload_n 0, 1) := by decide +kernel
theorem dX3_chargeFirst_5 : decode cX3_chargeFirst 5 = .ok (.getfield 50, 3) := by decide +kernel
theorem dX3_chargeFirst_8 : decode cX3_chargeFirst 8 = .ok (.isub, 1) := by decide +kernel
theorem dX3_chargeFirst_9 : decode cX3_chargeFirst 9 = .ok (.iconst 1, 1) := by decide +kernel
theorem dX3_chargeFirst_10 : decode cX3_chargeFirst 10 = .ok (.iadd, 1) := by decide +kernel
theorem dX3_chargeFirst_11 : decode cX3_chargeFirst 11 = .ok (.invokestatic 60, 3) := by decide +kernel
theorem dX3_chargeFirst_14 : decode cX3_chargeFirst 14 = .ok (.istore_n 2, 1) := by decide +kernel
theorem dX3_chargeFirst_15 : decode cX3_chargeFirst 15 = .ok (.aload_n 0, 1) := by decide +kernel
theorem dX3_chargeFirst_16 : decode cX3_chargeFirst 16 = .ok (.dup, 1) := by decide +kernel
theorem dX3_chargeFirst_17 : decode cX3_chargeFirst 17 = .ok (.getfield 44, 3) := by decide +kernel
theorem dX3_chargeFirst_20 : decode cX3_chargeFirst 20 = .ok (.iconst 1, 1) := by decide +kernel
theorem dX3_chargeFirst_21 : decode cX3_chargeFirst 21 = .ok (.iadd, 1) := by decide +kernel
theorem dX3_chargeFirst_22 : decode cX3_chargeFirst 22 = .ok (.putfield 44, 3) := by decide +kernel
theorem dX3_chargeFirst_25 : decode cX3_chargeFirst 25 = .ok (.aload_n 0, 1) := by decide +kernel
theorem dX3_chargeFirst_26 : decode cX3_chargeFirst 26 = .ok (.dup, 1) := by decide +kernel
theorem dX3_chargeFirst_27 : decode cX3_chargeFirst 27 = .ok (.getfield 53, 3) := by decide +kernel
theorem dX3_chargeFirst_30 : decode cX3_chargeFirst 30 = .ok (.iconst 1, 1) := by decide +kernel
theorem dX3_chargeFirst_31 : decode cX3_chargeFirst 31 = .ok (.iadd, 1) := by decide +kernel
theorem dX3_chargeFirst_32 : decode cX3_chargeFirst 32 = .ok (.putfield 53, 3) := by decide +kernel
theorem dX3_chargeFirst_35 : decode cX3_chargeFirst 35 = .ok (.aload_n 0, 1) := by decide +kernel
theorem dX3_chargeFirst_36 : decode cX3_chargeFirst 36 = .ok (.getfield 53, 3) := by decide +kernel
theorem dX3_chargeFirst_39 : decode cX3_chargeFirst 39 = .ok (.aload_n 0, 1) := by decide +kernel
theorem dX3_chargeFirst_40 : decode cX3_chargeFirst 40 = .ok (.getfield 21, 3) := by decide +kernel
theorem dX3_chargeFirst_43 : decode cX3_chargeFirst 43 = .ok (.iload_n 2, 1) := by decide +kernel
theorem dX3_chargeFirst_44 : decode cX3_chargeFirst 44 = .ok (.iaload, 1) := by decide +kernel
theorem dX3_chargeFirst_45 : decode cX3_chargeFirst 45 = .ok (.if_icmp .ge 5, 3) := by decide +kernel
theorem dX3_chargeFirst_48 : decode cX3_chargeFirst 48 = .ok (.iconst 0, 1) := by decide +kernel
theorem dX3_chargeFirst_49 : decode cX3_chargeFirst 49 = .ok (.ireturn, 1) := by decide +kernel
theorem dX3_chargeFirst_50 : decode cX3_chargeFirst 50 = .ok (.aload_n 0, 1) := by decide +kernel
theorem dX3_chargeFirst_51 : decode cX3_chargeFirst 51 = .ok (.getfield 28, 3) := by decide +kernel
theorem dX3_chargeFirst_54 : decode cX3_chargeFirst 54 = .ok (.iload_n 2, 1) := by decide +kernel
theorem dX3_chargeFirst_55 : decode cX3_chargeFirst 55 = .ok (.iload_n 1, 1) := by decide +kernel
theorem dX3_chargeFirst_56 : decode cX3_chargeFirst 56 = .ok (.iastore, 1) := by decide +kernel
theorem dX3_chargeFirst_57 : decode cX3_chargeFirst 57 = .ok (.aload_n 0, 1) := by decide +kernel
theorem dX3_chargeFirst_58 : decode cX3_chargeFirst 58 = .ok (.iload_n 2, 1) := by decide +kernel
theorem dX3_chargeFirst_59 : decode cX3_chargeFirst 59 = .ok (.iload_n 1, 1) := by decide +kernel
theorem dX3_chargeFirst_60 : decode cX3_chargeFirst 60 = .ok (.invokevirtual 64, 3) := by decide +kernel
theorem dX3_chargeFirst_63 : decode cX3_chargeFirst 63 = .ok (.ifCond .eq 13, 3) := by decide +kernel
theorem dX3_chargeFirst_66 : decode cX3_chargeFirst 66 = .ok (.aload_n 0, 1) := by decide +kernel
theorem dX3_chargeFirst_67 : decode cX3_chargeFirst 67 = .ok (.dup, 1) := by decide +kernel
theorem dX3_chargeFirst_68 : decode cX3_chargeFirst 68 = .ok (.getfield 47, 3) := by decide +kernel
theorem dX3_chargeFirst_71 : decode cX3_chargeFirst 71 = .ok (.iconst 1, 1) := by decide +kernel
theorem dX3_chargeFirst_72 : decode cX3_chargeFirst 72 = .ok (.iadd, 1) := by decide +kernel
theorem dX3_chargeFirst_73 : decode cX3_chargeFirst 73 = .ok (.putfield 47, 3) := by decide +kernel
theorem dX3_chargeFirst_76 : decode cX3_chargeFirst 76 = .ok (.aload_n 0, 1) := by decide +kernel
theorem dX3_chargeFirst_77 : decode cX3_chargeFirst 77 = .ok (.dup, 1) := by decide +kernel
theorem dX3_chargeFirst_78 : decode cX3_chargeFirst 78 = .ok (.getfield 50, 3) := by decide +kernel
theorem dX3_chargeFirst_81 : decode cX3_chargeFirst 81 = .ok (.iconst 1, 1) := by decide +kernel
theorem dX3_chargeFirst_82 : decode cX3_chargeFirst 82 = .ok (.isub, 1) := by decide +kernel
theorem dX3_chargeFirst_83 : decode cX3_chargeFirst 83 = .ok (.putfield 50, 3) := by decide +kernel
theorem dX3_chargeFirst_86 : decode cX3_chargeFirst 86 = .ok (.aload_n 0, 1) := by decide +kernel
theorem dX3_chargeFirst_87 : decode cX3_chargeFirst 87 = .ok (.iconst 0, 1) := by decide +kernel
theorem dX3_chargeFirst_88 : decode cX3_chargeFirst 88 = .ok (.putfield 53, 3) := by decide +kernel
theorem dX3_chargeFirst_91 : decode cX3_chargeFirst 91 = .ok (.iconst 1, 1) := by decide +kernel
theorem dX3_chargeFirst_92 : decode cX3_chargeFirst 92 = .ok (.ireturn, 1) := by decide +kernel
set_option maxRecDepth 20000 in
theorem ggX3_giveUpPending_X5_slotOf : GoodIn wsX3_giveUpPending wsX5_slotOf := goodIn_r _ [7, 8, 9, 10, 11] (by decide +kernel) (by decide +kernel)
set_option maxRecDepth 20000 in
theorem gX3_giveUpPending_X5_slotOf_n60 : GoodIn wsX3_giveUpPending (wsX5_slotOf) := ggX3_giveUpPending_X5_slotOf
theorem dX3_giveUpPending_0 : decode cX3_giveUpPending 0 = .ok (.aload_n 0, 1) := by decide +kernel
theorem dX3_giveUpPending_1 : decode cX3_giveUpPending 1 = .ok (.getfield 50, 3) := by decide +kernel
theorem dX3_giveUpPending_4 : decode cX3_giveUpPending 4 = .ok (.istore_n 1, 1) := by decide +kernel
theorem dX3_giveUpPending_5 : decode cX3_giveUpPending 5 = .ok (.iconst 0, 1) := by decide +kernel
theorem dX3_giveUpPending_6 : decode cX3_giveUpPending 6 = .ok (.istore_n 2, 1) := by decide +kernel
theorem dX3_giveUpPending_7 : decode cX3_giveUpPending 7 = .ok (.iload_n 2, 1) := by decide +kernel
theorem dX3_giveUpPending_8 : decode cX3_giveUpPending 8 = .ok (.iload_n 1, 1) := by decide +kernel
theorem dX3_giveUpPending_9 : decode cX3_giveUpPending 9 = .ok (.if_icmp .ge 25, 3) := by decide +kernel
theorem dX3_giveUpPending_12 : decode cX3_giveUpPending 12 = .ok (.aload_n 0, 1) := by decide +kernel
theorem dX3_giveUpPending_13 : decode cX3_giveUpPending 13 = .ok (.getfield 28, 3) := by decide +kernel
theorem dX3_giveUpPending_16 : decode cX3_giveUpPending 16 = .ok (.aload_n 0, 1) := by decide +kernel
theorem dX3_giveUpPending_17 : decode cX3_giveUpPending 17 = .ok (.getfield 38, 3) := by decide +kernel
theorem dX3_giveUpPending_20 : decode cX3_giveUpPending 20 = .ok (.iload_n 2, 1) := by decide +kernel
theorem dX3_giveUpPending_21 : decode cX3_giveUpPending 21 = .ok (.isub, 1) := by decide +kernel
theorem dX3_giveUpPending_22 : decode cX3_giveUpPending 22 = .ok (.invokestatic 60, 3) := by decide +kernel
theorem dX3_giveUpPending_25 : decode cX3_giveUpPending 25 = .ok (.bipush (-2), 2) := by decide +kernel
theorem dX3_giveUpPending_27 : decode cX3_giveUpPending 27 = .ok (.iastore, 1) := by decide +kernel
theorem dX3_giveUpPending_28 : decode cX3_giveUpPending 28 = .ok (.iinc 2 1, 3) := by decide +kernel
theorem dX3_giveUpPending_31 : decode cX3_giveUpPending 31 = .ok (.goto (-24), 3) := by decide +kernel
theorem dX3_giveUpPending_34 : decode cX3_giveUpPending 34 = .ok (.aload_n 0, 1) := by decide +kernel
theorem dX3_giveUpPending_35 : decode cX3_giveUpPending 35 = .ok (.iconst 0, 1) := by decide +kernel
theorem dX3_giveUpPending_36 : decode cX3_giveUpPending 36 = .ok (.putfield 50, 3) := by decide +kernel
theorem dX3_giveUpPending_39 : decode cX3_giveUpPending 39 = .ok (.aload_n 0, 1) := by decide +kernel
theorem dX3_giveUpPending_40 : decode cX3_giveUpPending 40 = .ok (.iconst 0, 1) := by decide +kernel
theorem dX3_giveUpPending_41 : decode cX3_giveUpPending 41 = .ok (.putfield 53, 3) := by decide +kernel
theorem dX3_giveUpPending_44 : decode cX3_giveUpPending 44 = .ok (.iload_n 1, 1) := by decide +kernel
theorem dX3_giveUpPending_45 : decode cX3_giveUpPending 45 = .ok (.ireturn, 1) := by decide +kernel
set_option maxRecDepth 20000 in
theorem ggX3_lateJobs_X5_slotOf : GoodIn wsX3_lateJobs wsX5_slotOf := goodIn_r _ [6, 7, 8, 9, 10] (by decide +kernel) (by decide +kernel)
set_option maxRecDepth 20000 in
theorem gX3_lateJobs_X5_slotOf_n60 : GoodIn wsX3_lateJobs (wsX5_slotOf) := ggX3_lateJobs_X5_slotOf
set_option maxRecDepth 20000 in
theorem ggX3_lateJobs_X3_isLate : GoodIn wsX3_lateJobs wsX3_isLate := goodIn_r _ [15, 16, 17, 18, 19, 20, 21, 22, 23, 24, 25, 26, 27, 28, 29, 30, 31] (by decide +kernel) (by decide +kernel)
set_option maxRecDepth 20000 in
theorem gX3_lateJobs_X3_isLate : GoodIn wsX3_lateJobs (wsV RX3 64 RX3 yX3_isLate wsX3_isLate) := goodIn_app (goodIn_of _ (by decide +kernel)) ggX3_lateJobs_X3_isLate
theorem dX3_lateJobs_0 : decode cX3_lateJobs 0 = .ok (.aload_n 0, 1) := by decide +kernel
theorem dX3_lateJobs_1 : decode cX3_lateJobs 1 = .ok (.getfield 47, 3) := by decide +kernel
theorem dX3_lateJobs_4 : decode cX3_lateJobs 4 = .ok (.istore_n 2, 1) := by decide +kernel
theorem dX3_lateJobs_5 : decode cX3_lateJobs 5 = .ok (.iconst 0, 1) := by decide +kernel
theorem dX3_lateJobs_6 : decode cX3_lateJobs 6 = .ok (.istore_n 3, 1) := by decide +kernel
theorem dX3_lateJobs_7 : decode cX3_lateJobs 7 = .ok (.iload_n 3, 1) := by decide +kernel
theorem dX3_lateJobs_8 : decode cX3_lateJobs 8 = .ok (.aload_n 0, 1) := by decide +kernel
theorem dX3_lateJobs_9 : decode cX3_lateJobs 9 = .ok (.getfield 50, 3) := by decide +kernel
theorem dX3_lateJobs_12 : decode cX3_lateJobs 12 = .ok (.if_icmp .ge 29, 3) := by decide +kernel
theorem dX3_lateJobs_15 : decode cX3_lateJobs 15 = .ok (.aload_n 0, 1) := by decide +kernel
theorem dX3_lateJobs_16 : decode cX3_lateJobs 16 = .ok (.aload_n 0, 1) := by decide +kernel
theorem dX3_lateJobs_17 : decode cX3_lateJobs 17 = .ok (.getfield 38, 3) := by decide +kernel
theorem dX3_lateJobs_20 : decode cX3_lateJobs 20 = .ok (.iload_n 3, 1) := by decide +kernel
theorem dX3_lateJobs_21 : decode cX3_lateJobs 21 = .ok (.isub, 1) := by decide +kernel
theorem dX3_lateJobs_22 : decode cX3_lateJobs 22 = .ok (.invokestatic 60, 3) := by decide +kernel
theorem dX3_lateJobs_25 : decode cX3_lateJobs 25 = .ok (.iload_n 1, 1) := by decide +kernel
theorem dX3_lateJobs_26 : decode cX3_lateJobs 26 = .ok (.invokevirtual 64, 3) := by decide +kernel
theorem dX3_lateJobs_29 : decode cX3_lateJobs 29 = .ok (.ifCond .eq 6, 3) := by decide +kernel
theorem dX3_lateJobs_32 : decode cX3_lateJobs 32 = .ok (.iinc 2 1, 3) := by decide +kernel
theorem dX3_lateJobs_35 : decode cX3_lateJobs 35 = .ok (.iinc 3 1, 3) := by decide +kernel
theorem dX3_lateJobs_38 : decode cX3_lateJobs 38 = .ok (.goto (-31), 3) := by decide +kernel
theorem dX3_lateJobs_41 : decode cX3_lateJobs 41 = .ok (.iload_n 2, 1) := by decide +kernel
theorem dX3_lateJobs_42 : decode cX3_lateJobs 42 = .ok (.ireturn, 1) := by decide +kernel
theorem dX3_isLate_0 : decode cX3_isLate 0 = .ok (.iload_n 2, 1) := by decide +kernel
theorem dX3_isLate_1 : decode cX3_isLate 1 = .ok (.aload_n 0, 1) := by decide +kernel
theorem dX3_isLate_2 : decode cX3_isLate 2 = .ok (.getfield 25, 3) := by decide +kernel
theorem dX3_isLate_5 : decode cX3_isLate 5 = .ok (.iload_n 1, 1) := by decide +kernel
theorem dX3_isLate_6 : decode cX3_isLate 6 = .ok (.iaload, 1) := by decide +kernel
theorem dX3_isLate_7 : decode cX3_isLate 7 = .ok (.aload_n 0, 1) := by decide +kernel
theorem dX3_isLate_8 : decode cX3_isLate 8 = .ok (.getfield 15, 3) := by decide +kernel
theorem dX3_isLate_11 : decode cX3_isLate 11 = .ok (.iadd, 1) := by decide +kernel
theorem dX3_isLate_12 : decode cX3_isLate 12 = .ok (.if_icmp .le 7, 3) := by decide +kernel
theorem dX3_isLate_15 : decode cX3_isLate 15 = .ok (.iconst 1, 1) := by decide +kernel
theorem dX3_isLate_16 : decode cX3_isLate 16 = .ok (.goto 4, 3) := by decide +kernel
theorem dX3_isLate_19 : decode cX3_isLate 19 = .ok (.iconst 0, 1) := by decide +kernel
theorem dX3_isLate_20 : decode cX3_isLate 20 = .ok (.ireturn, 1) := by decide +kernel
set_option maxRecDepth 20000 in
theorem ggX4_init_X3_init : GoodIn wsX4_init wsX3_init := goodIn_r _ [9, 10, 2, 3, 11, 12, 13, 14, 15, 16, 17, 19, 20, 21, 22, 23, 24, 25, 26, 27, 28, 29, 30, 31, 32] (by decide +kernel) (by decide +kernel)
set_option maxRecDepth 20000 in
theorem gX4_init_X3_init_n17 : GoodIn wsX4_init (wsX3_init) := ggX4_init_X3_init
theorem dX4_init_0 : decode cX4_init 0 = .ok (.aload_n 0, 1) := by decide +kernel
theorem dX4_init_1 : decode cX4_init 1 = .ok (.invokespecial 3, 3) := by decide +kernel
theorem dX4_init_4 : decode cX4_init 4 = .ok (.aload_n 0, 1) := by decide +kernel
theorem dX4_init_5 : decode cX4_init 5 = .ok (.bipush 13, 2) := by decide +kernel
theorem dX4_init_7 : decode cX4_init 7 = .ok (.anewarray 9, 3) := by decide +kernel
theorem dX4_init_10 : decode cX4_init 10 = .ok (.putfield 11, 3) := by decide +kernel
theorem dX4_init_13 : decode cX4_init 13 = .ok (.iconst 0, 1) := by decide +kernel
theorem dX4_init_14 : decode cX4_init 14 = .ok (.istore_n 1, 1) := by decide +kernel
theorem dX4_init_15 : decode cX4_init 15 = .ok (.iload_n 1, 1) := by decide +kernel
theorem dX4_init_16 : decode cX4_init 16 = .ok (.bipush 12, 2) := by decide +kernel
theorem dX4_init_18 : decode cX4_init 18 = .ok (.if_icmp .gt 22, 3) := by decide +kernel
theorem dX4_init_21 : decode cX4_init 21 = .ok (.aload_n 0, 1) := by decide +kernel
theorem dX4_init_22 : decode cX4_init 22 = .ok (.getfield 11, 3) := by decide +kernel
theorem dX4_init_25 : decode cX4_init 25 = .ok (.iload_n 1, 1) := by decide +kernel
theorem dX4_init_26 : decode cX4_init 26 = .ok (.new 9, 3) := by decide +kernel
theorem dX4_init_29 : decode cX4_init 29 = .ok (.dup, 1) := by decide +kernel
theorem dX4_init_30 : decode cX4_init 30 = .ok (.invokespecial 17, 3) := by decide +kernel
theorem dX4_init_33 : decode cX4_init 33 = .ok (.aastore, 1) := by decide +kernel
theorem dX4_init_34 : decode cX4_init 34 = .ok (.iinc 1 1, 3) := by decide +kernel
theorem dX4_init_37 : decode cX4_init 37 = .ok (.goto (-22), 3) := by decide +kernel
theorem dX4_init_40 : decode cX4_init 40 = .ok (.return_, 1) := by decide +kernel
set_option maxRecDepth 20000 in
theorem ggX4_lowResponse_X4_leastSpan : GoodIn wsX4_lowResponse wsX4_leastSpan := goodIn_r _ [6, 1, 7, 8, 9, 5, 10, 11, 12, 13, 14, 15, 16, 17, 18, 19, 20, 21, 22, 23, 24, 25, 26, 27, 28, 29, 30, 31, 32, 33, 34, 35, 36, 37] (by decide +kernel) (by decide +kernel)
set_option maxRecDepth 20000 in
theorem gX4_lowResponse_X4_leastSpan : GoodIn wsX4_lowResponse (wsV RX4 28 RX4 yX4_leastSpan wsX4_leastSpan) := goodIn_app (goodIn_of _ (by decide +kernel)) ggX4_lowResponse_X4_leastSpan
theorem dX4_lowResponse_0 : decode cX4_lowResponse 0 = .ok (.aload_n 0, 1) := by decide +kernel
theorem dX4_lowResponse_1 : decode cX4_lowResponse 1 = .ok (.aload_n 1, 1) := by decide +kernel
theorem dX4_lowResponse_2 : decode cX4_lowResponse 2 = .ok (.iload_n 2, 1) := by decide +kernel
theorem dX4_lowResponse_3 : decode cX4_lowResponse 3 = .ok (.iload_n 3, 1) := by decide +kernel
theorem dX4_lowResponse_4 : decode cX4_lowResponse 4 = .ok (.aload_n 0, 1) := by decide +kernel
theorem dX4_lowResponse_5 : decode cX4_lowResponse 5 = .ok (.getfield 11, 3) := by decide +kernel
theorem dX4_lowResponse_8 : decode cX4_lowResponse 8 = .ok (.aload_n 1, 1) := by decide +kernel
theorem dX4_lowResponse_9 : decode cX4_lowResponse 9 = .ok (.getfield 18, 3) := by decide +kernel
theorem dX4_lowResponse_12 : decode cX4_lowResponse 12 = .ok (.iload_n 2, 1) := by decide +kernel
theorem dX4_lowResponse_13 : decode cX4_lowResponse 13 = .ok (.iaload, 1) := by decide +kernel
theorem dX4_lowResponse_14 : decode cX4_lowResponse 14 = .ok (.aaload, 1) := by decide +kernel
theorem dX4_lowResponse_15 : decode cX4_lowResponse 15 = .ok (.getfield 24, 3) := by decide +kernel
theorem dX4_lowResponse_18 : decode cX4_lowResponse 18 = .ok (.iconst 0, 1) := by decide +kernel
theorem dX4_lowResponse_19 : decode cX4_lowResponse 19 = .ok (.invokevirtual 28, 3) := by decide +kernel
theorem dX4_lowResponse_22 : decode cX4_lowResponse 22 = .ok (.ireturn, 1) := by decide +kernel
set_option maxRecDepth 20000 in
theorem ggX4_bound_X3_isHigh : GoodIn wsX4_bound wsX3_isHigh := goodIn_r _ [6, 7, 28, 29, 30, 31, 32, 33, 34, 35, 36, 37, 38, 39, 40, 41] (by decide +kernel) (by decide +kernel)
set_option maxRecDepth 20000 in
theorem gX4_bound_X3_isHigh : GoodIn wsX4_bound (wsV RX4 32 RX3 yX3_isHigh wsX3_isHigh) := goodIn_app (goodIn_of _ (by decide +kernel)) ggX4_bound_X3_isHigh
set_option maxRecDepth 20000 in
theorem ggX4_bound_X4_leastSpan : GoodIn wsX4_bound wsX4_leastSpan := goodIn_r _ [12, 1, 13, 14, 15, 11, 16, 17, 18, 19, 20, 21, 22, 5, 23, 7, 24, 25, 26, 27, 28, 29, 30, 31, 32, 33, 34, 35, 36, 37, 38, 39, 40, 41] (by decide +kernel) (by decide +kernel)
set_option maxRecDepth 20000 in
theorem gX4_bound_X4_leastSpan : GoodIn wsX4_bound (wsV RX4 28 RX4 yX4_leastSpan wsX4_leastSpan) := goodIn_app (goodIn_of _ (by decide +kernel)) ggX4_bound_X4_leastSpan
set_option maxRecDepth 20000 in
theorem ggX4_bound_X4_workAhead : GoodIn wsX4_bound wsX4_workAhead := goodIn_r _ [16, 1, 17, 18, 19, 20, 21, 22, 5, 23, 7, 24, 25, 26, 27, 28, 29, 30, 31, 32, 33, 34, 35, 36, 37, 38, 39, 40, 41] (by decide +kernel) (by decide +kernel)
set_option maxRecDepth 20000 in
theorem gX4_bound_X4_workAhead : GoodIn wsX4_bound (wsV RX4 39 RX4 yX4_workAhead wsX4_workAhead) := goodIn_app (goodIn_of _ (by decide +kernel)) ggX4_bound_X4_workAhead
theorem dX4_bound_0 : decode cX4_bound 0 = .ok (.aload_n 0, 1) := by decide +kernel
theorem dX4_bound_1 : decode cX4_bound 1 = .ok (.getfield 11, 3) := by decide +kernel
theorem dX4_bound_4 : decode cX4_bound 4 = .ok (.aload_n 1, 1) := by decide +kernel
theorem dX4_bound_5 : decode cX4_bound 5 = .ok (.getfield 18, 3) := by decide +kernel
theorem dX4_bound_8 : decode cX4_bound 8 = .ok (.iload_n 2, 1) := by decide +kernel
theorem dX4_bound_9 : decode cX4_bound 9 = .ok (.iaload, 1) := by decide +kernel
theorem dX4_bound_10 : decode cX4_bound 10 = .ok (.aaload, 1) := by decide +kernel
theorem dX4_bound_11 : decode cX4_bound 11 = .ok (.astore 4, 2) := by decide +kernel
theorem dX4_bound_13 : decode cX4_bound 13 = .ok (.aload 4, 2) := by decide +kernel
theorem dX4_bound_15 : decode cX4_bound 15 = .ok (.invokevirtual 32, 3) := by decide +kernel
theorem dX4_bound_18 : decode cX4_bound 18 = .ok (.ifCond .ne 5, 3) := by decide +kernel
theorem dX4_bound_21 : decode cX4_bound 21 = .ok (.iconst (-1), 1) := by decide +kernel
theorem dX4_bound_22 : decode cX4_bound 22 = .ok (.ireturn, 1) := by decide +kernel
theorem dX4_bound_23 : decode cX4_bound 23 = .ok (.aload_n 0, 1) := by decide +kernel
theorem dX4_bound_24 : decode cX4_bound 24 = .ok (.aload_n 1, 1) := by decide +kernel
theorem dX4_bound_25 : decode cX4_bound 25 = .ok (.iload_n 2, 1) := by decide +kernel
theorem dX4_bound_26 : decode cX4_bound 26 = .ok (.iload_n 3, 1) := by decide +kernel
theorem dX4_bound_27 : decode cX4_bound 27 = .ok (.aload 4, 2) := by decide +kernel
theorem dX4_bound_29 : decode cX4_bound 29 = .ok (.getfield 24, 3) := by decide +kernel
theorem dX4_bound_32 : decode cX4_bound 32 = .ok (.iconst 0, 1) := by decide +kernel
theorem dX4_bound_33 : decode cX4_bound 33 = .ok (.invokevirtual 28, 3) := by decide +kernel
theorem dX4_bound_36 : decode cX4_bound 36 = .ok (.istore 5, 2) := by decide +kernel
theorem dX4_bound_38 : decode cX4_bound 38 = .ok (.aload 4, 2) := by decide +kernel
theorem dX4_bound_40 : decode cX4_bound 40 = .ok (.getfield 36, 3) := by decide +kernel
theorem dX4_bound_43 : decode cX4_bound 43 = .ok (.aload_n 0, 1) := by decide +kernel
theorem dX4_bound_44 : decode cX4_bound 44 = .ok (.aload_n 1, 1) := by decide +kernel
theorem dX4_bound_45 : decode cX4_bound 45 = .ok (.iload_n 2, 1) := by decide +kernel
theorem dX4_bound_46 : decode cX4_bound 46 = .ok (.iload_n 3, 1) := by decide +kernel
theorem dX4_bound_47 : decode cX4_bound 47 = .ok (.iload 5, 2) := by decide +kernel
theorem dX4_bound_49 : decode cX4_bound 49 = .ok (.iconst 1, 1) := by decide +kernel
theorem dX4_bound_50 : decode cX4_bound 50 = .ok (.invokevirtual 39, 3) := by decide +kernel
theorem dX4_bound_53 : decode cX4_bound 53 = .ok (.iadd, 1) := by decide +kernel
theorem dX4_bound_54 : decode cX4_bound 54 = .ok (.istore 6, 2) := by decide +kernel
theorem dX4_bound_56 : decode cX4_bound 56 = .ok (.aload_n 0, 1) := by decide +kernel
theorem dX4_bound_57 : decode cX4_bound 57 = .ok (.aload_n 1, 1) := by decide +kernel
theorem dX4_bound_58 : decode cX4_bound 58 = .ok (.iload_n 2, 1) := by decide +kernel
theorem dX4_bound_59 : decode cX4_bound 59 = .ok (.iload_n 3, 1) := by decide +kernel
theorem dX4_bound_60 : decode cX4_bound 60 = .ok (.iload 6, 2) := by decide +kernel
theorem dX4_bound_62 : decode cX4_bound 62 = .ok (.iconst 2, 1) := by decide +kernel
theorem dX4_bound_63 : decode cX4_bound 63 = .ok (.invokevirtual 28, 3) := by decide +kernel
theorem dX4_bound_66 : decode cX4_bound 66 = .ok (.ireturn, 1) := by decide +kernel
set_option maxRecDepth 20000 in
theorem ggX4_firstLowResponseThatFails_X4_lowResponse : GoodIn wsX4_firstLowResponseThatFails wsX4_lowResponse := goodIn_r _ [6, 1, 7, 8, 9, 5, 10, 11, 12, 13, 14, 15, 16, 17, 18, 19, 20, 21, 22, 23, 24, 27, 25, 26, 28, 29, 30, 31, 32, 33, 34, 35, 36, 37, 38, 39, 40, 41] (by decide +kernel) (by decide +kernel)
set_option maxRecDepth 20000 in
theorem gX4_firstLowResponseThatFails_X4_lowResponse : GoodIn wsX4_firstLowResponseThatFails (wsV RX4 45 RX4 yX4_lowResponse wsX4_lowResponse) := goodIn_app (goodIn_of _ (by decide +kernel)) ggX4_firstLowResponseThatFails_X4_lowResponse
theorem dX4_firstLowResponseThatFails_0 : decode cX4_firstLowResponseThatFails 0 = .ok (.iconst 0, 1) := by decide +kernel
theorem dX4_firstLowResponseThatFails_1 : decode cX4_firstLowResponseThatFails 1 = .ok (.istore_n 2, 1) := by decide +kernel
theorem dX4_firstLowResponseThatFails_2 : decode cX4_firstLowResponseThatFails 2 = .ok (.iload_n 2, 1) := by decide +kernel
theorem dX4_firstLowResponseThatFails_3 : decode cX4_firstLowResponseThatFails 3 = .ok (.aload_n 1, 1) := by decide +kernel
theorem dX4_firstLowResponseThatFails_4 : decode cX4_firstLowResponseThatFails 4 = .ok (.getfield 42, 3) := by decide +kernel
theorem dX4_firstLowResponseThatFails_7 : decode cX4_firstLowResponseThatFails 7 = .ok (.if_icmp .ge 35, 3) := by decide +kernel
theorem dX4_firstLowResponseThatFails_10 : decode cX4_firstLowResponseThatFails 10 = .ok (.aload_n 0, 1) := by decide +kernel
theorem dX4_firstLowResponseThatFails_11 : decode cX4_firstLowResponseThatFails 11 = .ok (.aload_n 1, 1) := by decide +kernel
theorem dX4_firstLowResponseThatFails_12 : decode cX4_firstLowResponseThatFails 12 = .ok (.iload_n 2, 1) := by decide +kernel
theorem dX4_firstLowResponseThatFails_13 : decode cX4_firstLowResponseThatFails 13 = .ok (.iload_n 2, 1) := by decide +kernel
theorem dX4_firstLowResponseThatFails_14 : decode cX4_firstLowResponseThatFails 14 = .ok (.invokevirtual 45, 3) := by decide +kernel
theorem dX4_firstLowResponseThatFails_17 : decode cX4_firstLowResponseThatFails 17 = .ok (.aload_n 0, 1) := by decide +kernel
theorem dX4_firstLowResponseThatFails_18 : decode cX4_firstLowResponseThatFails 18 = .ok (.getfield 11, 3) := by decide +kernel
theorem dX4_firstLowResponseThatFails_21 : decode cX4_firstLowResponseThatFails 21 = .ok (.aload_n 1, 1) := by decide +kernel
theorem dX4_firstLowResponseThatFails_22 : decode cX4_firstLowResponseThatFails 22 = .ok (.getfield 18, 3) := by decide +kernel
theorem dX4_firstLowResponseThatFails_25 : decode cX4_firstLowResponseThatFails 25 = .ok (.iload_n 2, 1) := by decide +kernel
theorem dX4_firstLowResponseThatFails_26 : decode cX4_firstLowResponseThatFails 26 = .ok (.iaload, 1) := by decide +kernel
theorem dX4_firstLowResponseThatFails_27 : decode cX4_firstLowResponseThatFails 27 = .ok (.aaload, 1) := by decide +kernel
theorem dX4_firstLowResponseThatFails_28 : decode cX4_firstLowResponseThatFails 28 = .ok (.getfield 49, 3) := by decide +kernel
theorem dX4_firstLowResponseThatFails_31 : decode cX4_firstLowResponseThatFails 31 = .ok (.if_icmp .le 5, 3) := by decide +kernel
theorem dX4_firstLowResponseThatFails_34 : decode cX4_firstLowResponseThatFails 34 = .ok (.iload_n 2, 1) := by decide +kernel
theorem dX4_firstLowResponseThatFails_35 : decode cX4_firstLowResponseThatFails 35 = .ok (.ireturn, 1) := by decide +kernel
theorem dX4_firstLowResponseThatFails_36 : decode cX4_firstLowResponseThatFails 36 = .ok (.iinc 2 1, 3) := by decide +kernel
theorem dX4_firstLowResponseThatFails_39 : decode cX4_firstLowResponseThatFails 39 = .ok (.goto (-37), 3) := by decide +kernel
theorem dX4_firstLowResponseThatFails_42 : decode cX4_firstLowResponseThatFails 42 = .ok (.iconst (-1), 1) := by decide +kernel
theorem dX4_firstLowResponseThatFails_43 : decode cX4_firstLowResponseThatFails 43 = .ok (.ireturn, 1) := by decide +kernel
set_option maxRecDepth 20000 in
theorem ggX4_firstBoundThatFails_X4_bound : GoodIn wsX4_firstBoundThatFails wsX4_bound := goodIn_r _ [6, 1, 7, 8, 9, 10, 11, 12, 13, 14, 15, 5, 16, 17, 18, 19, 20, 21, 22, 23, 24, 25, 26, 27, 28, 31, 29, 30, 32, 33, 34, 35, 36, 37, 38, 39, 40, 41, 42, 43, 44, 45] (by decide +kernel) (by decide +kernel)
set_option maxRecDepth 20000 in
theorem gX4_firstBoundThatFails_X4_bound : GoodIn wsX4_firstBoundThatFails (wsV RX4 52 RX4 yX4_bound wsX4_bound) := goodIn_app (goodIn_of _ (by decide +kernel)) ggX4_firstBoundThatFails_X4_bound
theorem dX4_firstBoundThatFails_0 : decode cX4_firstBoundThatFails 0 = .ok (.iconst 0, 1) := by decide +kernel
theorem dX4_firstBoundThatFails_1 : decode cX4_firstBoundThatFails 1 = .ok (.istore_n 2, 1) := by decide +kernel
theorem dX4_firstBoundThatFails_2 : decode cX4_firstBoundThatFails 2 = .ok (.iload_n 2, 1) := by decide +kernel
theorem dX4_firstBoundThatFails_3 : decode cX4_firstBoundThatFails 3 = .ok (.aload_n 1, 1) := by decide +kernel
theorem dX4_firstBoundThatFails_4 : decode cX4_firstBoundThatFails 4 = .ok (.getfield 42, 3) := by decide +kernel
theorem dX4_firstBoundThatFails_7 : decode cX4_firstBoundThatFails 7 = .ok (.if_icmp .ge 35, 3) := by decide +kernel
theorem dX4_firstBoundThatFails_10 : decode cX4_firstBoundThatFails 10 = .ok (.aload_n 0, 1) := by decide +kernel
theorem dX4_firstBoundThatFails_11 : decode cX4_firstBoundThatFails 11 = .ok (.aload_n 1, 1) := by decide +kernel
theorem dX4_firstBoundThatFails_12 : decode cX4_firstBoundThatFails 12 = .ok (.iload_n 2, 1) := by decide +kernel
theorem dX4_firstBoundThatFails_13 : decode cX4_firstBoundThatFails 13 = .ok (.iload_n 2, 1) := by decide +kernel
theorem dX4_firstBoundThatFails_14 : decode cX4_firstBoundThatFails 14 = .ok (.invokevirtual 52, 3) := by decide +kernel
theorem dX4_firstBoundThatFails_17 : decode cX4_firstBoundThatFails 17 = .ok (.aload_n 0, 1) := by decide +kernel
theorem dX4_firstBoundThatFails_18 : decode cX4_firstBoundThatFails 18 = .ok (.getfield 11, 3) := by decide +kernel
theorem dX4_firstBoundThatFails_21 : decode cX4_firstBoundThatFails 21 = .ok (.aload_n 1, 1) := by decide +kernel
theorem dX4_firstBoundThatFails_22 : decode cX4_firstBoundThatFails 22 = .ok (.getfield 18, 3) := by decide +kernel
theorem dX4_firstBoundThatFails_25 : decode cX4_firstBoundThatFails 25 = .ok (.iload_n 2, 1) := by decide +kernel
theorem dX4_firstBoundThatFails_26 : decode cX4_firstBoundThatFails 26 = .ok (.iaload, 1) := by decide +kernel
theorem dX4_firstBoundThatFails_27 : decode cX4_firstBoundThatFails 27 = .ok (.aaload, 1) := by decide +kernel
theorem dX4_firstBoundThatFails_28 : decode cX4_firstBoundThatFails 28 = .ok (.getfield 49, 3) := by decide +kernel
theorem dX4_firstBoundThatFails_31 : decode cX4_firstBoundThatFails 31 = .ok (.if_icmp .le 5, 3) := by decide +kernel
theorem dX4_firstBoundThatFails_34 : decode cX4_firstBoundThatFails 34 = .ok (.iload_n 2, 1) := by decide +kernel
theorem dX4_firstBoundThatFails_35 : decode cX4_firstBoundThatFails 35 = .ok (.ireturn, 1) := by decide +kernel
theorem dX4_firstBoundThatFails_36 : decode cX4_firstBoundThatFails 36 = .ok (.iinc 2 1, 3) := by decide +kernel
theorem dX4_firstBoundThatFails_39 : decode cX4_firstBoundThatFails 39 = .ok (.goto (-37), 3) := by decide +kernel
theorem dX4_firstBoundThatFails_42 : decode cX4_firstBoundThatFails 42 = .ok (.iconst (-1), 1) := by decide +kernel
theorem dX4_firstBoundThatFails_43 : decode cX4_firstBoundThatFails 43 = .ok (.ireturn, 1) := by decide +kernel
set_option maxRecDepth 20000 in
theorem ggX4_lastThatPasses_X4_lowResponse : GoodIn wsX4_lastThatPasses wsX4_lowResponse := goodIn_r _ [6, 1, 7, 8, 9, 5, 10, 11, 12, 13, 14, 15, 16, 17, 18, 19, 20, 21, 22, 23, 24, 33, 34, 35, 36, 37, 38, 39, 40, 41, 42, 43, 44, 45, 46, 47, 48, 49] (by decide +kernel) (by decide +kernel)
set_option maxRecDepth 20000 in
theorem gX4_lastThatPasses_X4_lowResponse : GoodIn wsX4_lastThatPasses (wsV RX4 45 RX4 yX4_lowResponse wsX4_lowResponse) := goodIn_app (goodIn_of _ (by decide +kernel)) ggX4_lastThatPasses_X4_lowResponse
set_option maxRecDepth 20000 in
theorem ggX4_lastThatPasses_X4_bound : GoodIn wsX4_lastThatPasses wsX4_bound := goodIn_r _ [28, 1, 29, 30, 31, 21, 32, 23, 7, 8, 9, 5, 10, 11, 12, 13, 14, 15, 16, 17, 18, 19, 20, 22, 24, 33, 34, 35, 36, 37, 38, 39, 40, 41, 42, 43, 44, 45, 46, 47, 48, 49] (by decide +kernel) (by decide +kernel)
set_option maxRecDepth 20000 in
theorem gX4_lastThatPasses_X4_bound : GoodIn wsX4_lastThatPasses (wsV RX4 52 RX4 yX4_bound wsX4_bound) := goodIn_app (goodIn_of _ (by decide +kernel)) ggX4_lastThatPasses_X4_bound
theorem dX4_lastThatPasses_0 : decode cX4_lastThatPasses 0 = .ok (.iload_n 2, 1) := by decide +kernel
theorem dX4_lastThatPasses_1 : decode cX4_lastThatPasses 1 = .ok (.istore_n 3, 1) := by decide +kernel
theorem dX4_lastThatPasses_2 : decode cX4_lastThatPasses 2 = .ok (.iload_n 3, 1) := by decide +kernel
theorem dX4_lastThatPasses_3 : decode cX4_lastThatPasses 3 = .ok (.ifCond .lt 51, 3) := by decide +kernel
theorem dX4_lastThatPasses_6 : decode cX4_lastThatPasses 6 = .ok (.aload_n 0, 1) := by decide +kernel
theorem dX4_lastThatPasses_7 : decode cX4_lastThatPasses 7 = .ok (.getfield 11, 3) := by decide +kernel
theorem dX4_lastThatPasses_10 : decode cX4_lastThatPasses 10 = .ok (.aload_n 1, 1) := by decide +kernel
theorem dX4_lastThatPasses_11 : decode cX4_lastThatPasses 11 = .ok (.getfield 18, 3) := by decide +kernel
theorem dX4_lastThatPasses_14 : decode cX4_lastThatPasses 14 = .ok (.iload_n 3, 1) := by decide +kernel
theorem dX4_lastThatPasses_15 : decode cX4_lastThatPasses 15 = .ok (.iaload, 1) := by decide +kernel
theorem dX4_lastThatPasses_16 : decode cX4_lastThatPasses 16 = .ok (.aaload, 1) := by decide +kernel
theorem dX4_lastThatPasses_17 : decode cX4_lastThatPasses 17 = .ok (.getfield 49, 3) := by decide +kernel
theorem dX4_lastThatPasses_20 : decode cX4_lastThatPasses 20 = .ok (.istore 4, 2) := by decide +kernel
theorem dX4_lastThatPasses_22 : decode cX4_lastThatPasses 22 = .ok (.aload_n 0, 1) := by decide +kernel
theorem dX4_lastThatPasses_23 : decode cX4_lastThatPasses 23 = .ok (.aload_n 1, 1) := by decide +kernel
theorem dX4_lastThatPasses_24 : decode cX4_lastThatPasses 24 = .ok (.iload_n 3, 1) := by decide +kernel
theorem dX4_lastThatPasses_25 : decode cX4_lastThatPasses 25 = .ok (.iload_n 2, 1) := by decide +kernel
theorem dX4_lastThatPasses_26 : decode cX4_lastThatPasses 26 = .ok (.invokevirtual 45, 3) := by decide +kernel
theorem dX4_lastThatPasses_29 : decode cX4_lastThatPasses 29 = .ok (.iload 4, 2) := by decide +kernel
theorem dX4_lastThatPasses_31 : decode cX4_lastThatPasses 31 = .ok (.if_icmp .gt 17, 3) := by decide +kernel
theorem dX4_lastThatPasses_34 : decode cX4_lastThatPasses 34 = .ok (.aload_n 0, 1) := by decide +kernel
theorem dX4_lastThatPasses_35 : decode cX4_lastThatPasses 35 = .ok (.aload_n 1, 1) := by decide +kernel
theorem dX4_lastThatPasses_36 : decode cX4_lastThatPasses 36 = .ok (.iload_n 3, 1) := by decide +kernel
theorem dX4_lastThatPasses_37 : decode cX4_lastThatPasses 37 = .ok (.iload_n 2, 1) := by decide +kernel
theorem dX4_lastThatPasses_38 : decode cX4_lastThatPasses 38 = .ok (.invokevirtual 52, 3) := by decide +kernel
theorem dX4_lastThatPasses_41 : decode cX4_lastThatPasses 41 = .ok (.iload 4, 2) := by decide +kernel
theorem dX4_lastThatPasses_43 : decode cX4_lastThatPasses 43 = .ok (.if_icmp .gt 5, 3) := by decide +kernel
theorem dX4_lastThatPasses_46 : decode cX4_lastThatPasses 46 = .ok (.iload_n 3, 1) := by decide +kernel
theorem dX4_lastThatPasses_47 : decode cX4_lastThatPasses 47 = .ok (.ireturn, 1) := by decide +kernel
theorem dX4_lastThatPasses_48 : decode cX4_lastThatPasses 48 = .ok (.iinc 3 (-1), 3) := by decide +kernel
theorem dX4_lastThatPasses_51 : decode cX4_lastThatPasses 51 = .ok (.goto (-49), 3) := by decide +kernel
theorem dX4_lastThatPasses_54 : decode cX4_lastThatPasses 54 = .ok (.iconst (-1), 1) := by decide +kernel
theorem dX4_lastThatPasses_55 : decode cX4_lastThatPasses 55 = .ok (.ireturn, 1) := by decide +kernel
set_option maxRecDepth 20000 in
theorem ggX4_leastSpan_X4_workAhead : GoodIn wsX4_leastSpan wsX4_workAhead := goodIn_r _ [6, 1, 7, 8, 9, 10, 11, 12, 13, 14, 15, 16, 17, 18, 19, 20, 21, 22, 23, 24, 25, 26, 27, 28, 29, 30, 31, 32, 33] (by decide +kernel) (by decide +kernel)
set_option maxRecDepth 20000 in
theorem gX4_leastSpan_X4_workAhead : GoodIn wsX4_leastSpan (wsV RX4 39 RX4 yX4_workAhead wsX4_workAhead) := goodIn_app (goodIn_of _ (by decide +kernel)) ggX4_leastSpan_X4_workAhead
theorem dX4_leastSpan_0 : decode cX4_leastSpan 0 = .ok (.aload_n 0, 1) := by decide +kernel
theorem dX4_leastSpan_1 : decode cX4_leastSpan 1 = .ok (.getfield 11, 3) := by decide +kernel
theorem dX4_leastSpan_4 : decode cX4_leastSpan 4 = .ok (.aload_n 1, 1) := by decide +kernel
theorem dX4_leastSpan_5 : decode cX4_leastSpan 5 = .ok (.getfield 18, 3) := by decide +kernel
theorem dX4_leastSpan_8 : decode cX4_leastSpan 8 = .ok (.iload_n 2, 1) := by decide +kernel
theorem dX4_leastSpan_9 : decode cX4_leastSpan 9 = .ok (.iaload, 1) := by decide +kernel
theorem dX4_leastSpan_10 : decode cX4_leastSpan 10 = .ok (.aaload, 1) := by decide +kernel
theorem dX4_leastSpan_11 : decode cX4_leastSpan 11 = .ok (.getfield 49, 3) := by decide +kernel
theorem dX4_leastSpan_14 : decode cX4_leastSpan 14 = .ok (.istore 6, 2) := by decide +kernel
theorem dX4_leastSpan_16 : decode cX4_leastSpan 16 = .ok (.iload 4, 2) := by decide +kernel
theorem dX4_leastSpan_18 : decode cX4_leastSpan 18 = .ok (.istore 7, 2) := by decide +kernel
theorem dX4_leastSpan_20 : decode cX4_leastSpan 20 = .ok (.iconst 0, 1) := by decide +kernel
theorem dX4_leastSpan_21 : decode cX4_leastSpan 21 = .ok (.istore 8, 2) := by decide +kernel
theorem dX4_leastSpan_23 : decode cX4_leastSpan 23 = .ok (.iload 8, 2) := by decide +kernel
theorem dX4_leastSpan_25 : decode cX4_leastSpan 25 = .ok (.iload 6, 2) := by decide +kernel
theorem dX4_leastSpan_27 : decode cX4_leastSpan 27 = .ok (.if_icmp .gt 46, 3) := by decide +kernel
theorem dX4_leastSpan_30 : decode cX4_leastSpan 30 = .ok (.iload 7, 2) := by decide +kernel
theorem dX4_leastSpan_32 : decode cX4_leastSpan 32 = .ok (.iload 6, 2) := by decide +kernel
theorem dX4_leastSpan_34 : decode cX4_leastSpan 34 = .ok (.if_icmp .gt 39, 3) := by decide +kernel
theorem dX4_leastSpan_37 : decode cX4_leastSpan 37 = .ok (.iload 4, 2) := by decide +kernel
theorem dX4_leastSpan_39 : decode cX4_leastSpan 39 = .ok (.aload_n 0, 1) := by decide +kernel
theorem dX4_leastSpan_40 : decode cX4_leastSpan 40 = .ok (.aload_n 1, 1) := by decide +kernel
theorem dX4_leastSpan_41 : decode cX4_leastSpan 41 = .ok (.iload_n 2, 1) := by decide +kernel
theorem dX4_leastSpan_42 : decode cX4_leastSpan 42 = .ok (.iload_n 3, 1) := by decide +kernel
theorem dX4_leastSpan_43 : decode cX4_leastSpan 43 = .ok (.iload 7, 2) := by decide +kernel
theorem dX4_leastSpan_45 : decode cX4_leastSpan 45 = .ok (.iload 5, 2) := by decide +kernel
theorem dX4_leastSpan_47 : decode cX4_leastSpan 47 = .ok (.invokevirtual 39, 3) := by decide +kernel
theorem dX4_leastSpan_50 : decode cX4_leastSpan 50 = .ok (.iadd, 1) := by decide +kernel
theorem dX4_leastSpan_51 : decode cX4_leastSpan 51 = .ok (.istore 9, 2) := by decide +kernel
theorem dX4_leastSpan_53 : decode cX4_leastSpan 53 = .ok (.iload 9, 2) := by decide +kernel
theorem dX4_leastSpan_55 : decode cX4_leastSpan 55 = .ok (.iload 7, 2) := by decide +kernel
theorem dX4_leastSpan_57 : decode cX4_leastSpan 57 = .ok (.if_icmp .ne 6, 3) := by decide +kernel
theorem dX4_leastSpan_60 : decode cX4_leastSpan 60 = .ok (.iload 7, 2) := by decide +kernel
theorem dX4_leastSpan_62 : decode cX4_leastSpan 62 = .ok (.ireturn, 1) := by decide +kernel
theorem dX4_leastSpan_63 : decode cX4_leastSpan 63 = .ok (.iload 9, 2) := by decide +kernel
theorem dX4_leastSpan_65 : decode cX4_leastSpan 65 = .ok (.istore 7, 2) := by decide +kernel
theorem dX4_leastSpan_67 : decode cX4_leastSpan 67 = .ok (.iinc 8 1, 3) := by decide +kernel
theorem dX4_leastSpan_70 : decode cX4_leastSpan 70 = .ok (.goto (-47), 3) := by decide +kernel
theorem dX4_leastSpan_73 : decode cX4_leastSpan 73 = .ok (.sipush 1001, 3) := by decide +kernel
theorem dX4_leastSpan_76 : decode cX4_leastSpan 76 = .ok (.ireturn, 1) := by decide +kernel
set_option maxRecDepth 20000 in
theorem ggX4_workAhead_X5_releasesWithin : GoodIn wsX4_workAhead wsX5_releasesWithin := goodIn_r _ [4] (by decide +kernel) (by decide +kernel)
set_option maxRecDepth 20000 in
theorem gX4_workAhead_X5_releasesWithin_n58 : GoodIn wsX4_workAhead (wsX5_releasesWithin) := ggX4_workAhead_X5_releasesWithin
set_option maxRecDepth 20000 in
theorem ggX4_workAhead_X3_budgetAmong : GoodIn wsX4_workAhead wsX3_budgetAmong := goodIn_r _ [9, 10, 11, 15, 16, 17, 18, 19, 20, 21, 22, 23, 24, 25, 26, 27, 28] (by decide +kernel) (by decide +kernel)
set_option maxRecDepth 20000 in
theorem gX4_workAhead_X3_budgetAmong : GoodIn wsX4_workAhead (wsV RX4 62 RX3 yX3_budgetAmong wsX3_budgetAmong) := goodIn_app (goodIn_of _ (by decide +kernel)) ggX4_workAhead_X3_budgetAmong
theorem dX4_workAhead_0 : decode cX4_workAhead 0 = .ok (.iconst 0, 1) := by decide +kernel
theorem dX4_workAhead_1 : decode cX4_workAhead 1 = .ok (.istore 6, 2) := by decide +kernel
theorem dX4_workAhead_3 : decode cX4_workAhead 3 = .ok (.iconst 0, 1) := by decide +kernel
theorem dX4_workAhead_4 : decode cX4_workAhead 4 = .ok (.istore 7, 2) := by decide +kernel
theorem dX4_workAhead_6 : decode cX4_workAhead 6 = .ok (.iload 7, 2) := by decide +kernel
theorem dX4_workAhead_8 : decode cX4_workAhead 8 = .ok (.iload_n 3, 1) := by decide +kernel
theorem dX4_workAhead_9 : decode cX4_workAhead 9 = .ok (.if_icmp .gt 52, 3) := by decide +kernel
theorem dX4_workAhead_12 : decode cX4_workAhead 12 = .ok (.iload 7, 2) := by decide +kernel
theorem dX4_workAhead_14 : decode cX4_workAhead 14 = .ok (.iload_n 2, 1) := by decide +kernel
theorem dX4_workAhead_15 : decode cX4_workAhead 15 = .ok (.if_icmp .eq 40, 3) := by decide +kernel
theorem dX4_workAhead_18 : decode cX4_workAhead 18 = .ok (.aload_n 0, 1) := by decide +kernel
theorem dX4_workAhead_19 : decode cX4_workAhead 19 = .ok (.getfield 11, 3) := by decide +kernel
theorem dX4_workAhead_22 : decode cX4_workAhead 22 = .ok (.aload_n 1, 1) := by decide +kernel
theorem dX4_workAhead_23 : decode cX4_workAhead 23 = .ok (.getfield 18, 3) := by decide +kernel
theorem dX4_workAhead_26 : decode cX4_workAhead 26 = .ok (.iload 7, 2) := by decide +kernel
theorem dX4_workAhead_28 : decode cX4_workAhead 28 = .ok (.iaload, 1) := by decide +kernel
theorem dX4_workAhead_29 : decode cX4_workAhead 29 = .ok (.aaload, 1) := by decide +kernel
theorem dX4_workAhead_30 : decode cX4_workAhead 30 = .ok (.astore 8, 2) := by decide +kernel
theorem dX4_workAhead_32 : decode cX4_workAhead 32 = .ok (.iload 6, 2) := by decide +kernel
theorem dX4_workAhead_34 : decode cX4_workAhead 34 = .ok (.iload 4, 2) := by decide +kernel
theorem dX4_workAhead_36 : decode cX4_workAhead 36 = .ok (.aload 8, 2) := by decide +kernel
theorem dX4_workAhead_38 : decode cX4_workAhead 38 = .ok (.getfield 55, 3) := by decide +kernel
theorem dX4_workAhead_41 : decode cX4_workAhead 41 = .ok (.invokestatic 58, 3) := by decide +kernel
theorem dX4_workAhead_44 : decode cX4_workAhead 44 = .ok (.aload 8, 2) := by decide +kernel
theorem dX4_workAhead_46 : decode cX4_workAhead 46 = .ok (.iload 5, 2) := by decide +kernel
theorem dX4_workAhead_48 : decode cX4_workAhead 48 = .ok (.invokevirtual 62, 3) := by decide +kernel
theorem dX4_workAhead_51 : decode cX4_workAhead 51 = .ok (.imul, 1) := by decide +kernel
theorem dX4_workAhead_52 : decode cX4_workAhead 52 = .ok (.iadd, 1) := by decide +kernel
theorem dX4_workAhead_53 : decode cX4_workAhead 53 = .ok (.istore 6, 2) := by decide +kernel
theorem dX4_workAhead_55 : decode cX4_workAhead 55 = .ok (.iinc 7 1, 3) := by decide +kernel
theorem dX4_workAhead_58 : decode cX4_workAhead 58 = .ok (.goto (-52), 3) := by decide +kernel
theorem dX4_workAhead_61 : decode cX4_workAhead 61 = .ok (.iload 6, 2) := by decide +kernel
theorem dX4_workAhead_63 : decode cX4_workAhead 63 = .ok (.ireturn, 1) := by decide +kernel
set_option maxRecDepth 20000 in
theorem ggX5_init_X4_init : GoodIn wsX5_init wsX4_init := goodIn_r _ [26, 27, 2, 3, 28, 29, 30, 31, 32, 33, 34, 35, 36, 37, 38, 39, 40, 41, 56, 78, 79, 80, 81, 82, 83, 84, 85, 86, 87, 88, 89, 90, 91] (by decide +kernel) (by decide +kernel)
set_option maxRecDepth 20000 in
theorem gX5_init_X4_init : GoodIn wsX5_init (wsX4_init) := ggX5_init_X4_init
set_option maxRecDepth 20000 in
theorem ggX5_init_X1_init : GoodIn wsX5_init wsX1_init := goodIn_r _ [43, 44, 2, 3, 38, 45, 70, 71] (by decide +kernel) (by decide +kernel)
set_option maxRecDepth 20000 in
theorem gX5_init_X1_init_n25 : GoodIn wsX5_init (wsX1_init) := ggX5_init_X1_init
set_option maxRecDepth 20000 in
theorem ggX5_init_X2_init : GoodIn wsX5_init wsX2_init := goodIn_r _ [47, 48, 2, 3, 38, 49, 50, 72, 73, 74, 75] (by decide +kernel) (by decide +kernel)
set_option maxRecDepth 20000 in
theorem gX5_init_X2_init_n38 : GoodIn wsX5_init (wsX2_init) := ggX5_init_X2_init
set_option maxRecDepth 20000 in
theorem ggX5_init_X0_init : GoodIn wsX5_init wsX0_init := goodIn_r _ [53, 54, 2, 3, 38, 55, 76, 77] (by decide +kernel) (by decide +kernel)
set_option maxRecDepth 20000 in
theorem gX5_init_X0_init : GoodIn wsX5_init (wsX0_init) := ggX5_init_X0_init
theorem dX5_init_0 : decode cX5_init 0 = .ok (.aload_n 0, 1) := by decide +kernel
theorem dX5_init_1 : decode cX5_init 1 = .ok (.invokespecial 3, 3) := by decide +kernel
theorem dX5_init_4 : decode cX5_init 4 = .ok (.aload_n 0, 1) := by decide +kernel
theorem dX5_init_5 : decode cX5_init 5 = .ok (.new 9, 3) := by decide +kernel
theorem dX5_init_8 : decode cX5_init 8 = .ok (.dup, 1) := by decide +kernel
theorem dX5_init_9 : decode cX5_init 9 = .ok (.invokespecial 11, 3) := by decide +kernel
theorem dX5_init_12 : decode cX5_init 12 = .ok (.putfield 12, 3) := by decide +kernel
theorem dX5_init_15 : decode cX5_init 15 = .ok (.aload_n 0, 1) := by decide +kernel
theorem dX5_init_16 : decode cX5_init 16 = .ok (.aload_n 0, 1) := by decide +kernel
theorem dX5_init_17 : decode cX5_init 17 = .ok (.getfield 12, 3) := by decide +kernel
theorem dX5_init_20 : decode cX5_init 20 = .ok (.getfield 16, 3) := by decide +kernel
theorem dX5_init_23 : decode cX5_init 23 = .ok (.putfield 20, 3) := by decide +kernel
theorem dX5_init_26 : decode cX5_init 26 = .ok (.aload_n 0, 1) := by decide +kernel
theorem dX5_init_27 : decode cX5_init 27 = .ok (.new 23, 3) := by decide +kernel
theorem dX5_init_30 : decode cX5_init 30 = .ok (.dup, 1) := by decide +kernel
theorem dX5_init_31 : decode cX5_init 31 = .ok (.invokespecial 25, 3) := by decide +kernel
theorem dX5_init_34 : decode cX5_init 34 = .ok (.putfield 26, 3) := by decide +kernel
theorem dX5_init_37 : decode cX5_init 37 = .ok (.aload_n 0, 1) := by decide +kernel
theorem dX5_init_38 : decode cX5_init 38 = .ok (.new 23, 3) := by decide +kernel
theorem dX5_init_41 : decode cX5_init 41 = .ok (.dup, 1) := by decide +kernel
theorem dX5_init_42 : decode cX5_init 42 = .ok (.invokespecial 25, 3) := by decide +kernel
theorem dX5_init_45 : decode cX5_init 45 = .ok (.putfield 30, 3) := by decide +kernel
theorem dX5_init_48 : decode cX5_init 48 = .ok (.aload_n 0, 1) := by decide +kernel
theorem dX5_init_49 : decode cX5_init 49 = .ok (.new 23, 3) := by decide +kernel
theorem dX5_init_52 : decode cX5_init 52 = .ok (.dup, 1) := by decide +kernel
theorem dX5_init_53 : decode cX5_init 53 = .ok (.invokespecial 25, 3) := by decide +kernel
theorem dX5_init_56 : decode cX5_init 56 = .ok (.putfield 33, 3) := by decide +kernel
theorem dX5_init_59 : decode cX5_init 59 = .ok (.aload_n 0, 1) := by decide +kernel
theorem dX5_init_60 : decode cX5_init 60 = .ok (.new 36, 3) := by decide +kernel
theorem dX5_init_63 : decode cX5_init 63 = .ok (.dup, 1) := by decide +kernel
theorem dX5_init_64 : decode cX5_init 64 = .ok (.invokespecial 38, 3) := by decide +kernel
theorem dX5_init_67 : decode cX5_init 67 = .ok (.putfield 39, 3) := by decide +kernel
theorem dX5_init_70 : decode cX5_init 70 = .ok (.aload_n 0, 1) := by decide +kernel
theorem dX5_init_71 : decode cX5_init 71 = .ok (.new 43, 3) := by decide +kernel
theorem dX5_init_74 : decode cX5_init 74 = .ok (.dup, 1) := by decide +kernel
theorem dX5_init_75 : decode cX5_init 75 = .ok (.sipush 256, 3) := by decide +kernel
theorem dX5_init_78 : decode cX5_init 78 = .ok (.invokespecial 45, 3) := by decide +kernel
theorem dX5_init_81 : decode cX5_init 81 = .ok (.putfield 48, 3) := by decide +kernel
theorem dX5_init_84 : decode cX5_init 84 = .ok (.aload_n 0, 1) := by decide +kernel
theorem dX5_init_85 : decode cX5_init 85 = .ok (.new 43, 3) := by decide +kernel
theorem dX5_init_88 : decode cX5_init 88 = .ok (.dup, 1) := by decide +kernel
theorem dX5_init_89 : decode cX5_init 89 = .ok (.bipush 8, 2) := by decide +kernel
theorem dX5_init_91 : decode cX5_init 91 = .ok (.invokespecial 45, 3) := by decide +kernel
theorem dX5_init_94 : decode cX5_init 94 = .ok (.putfield 52, 3) := by decide +kernel
theorem dX5_init_97 : decode cX5_init 97 = .ok (.return_, 1) := by decide +kernel
set_option maxRecDepth 20000 in
theorem ggX5_add_X5_isTask : GoodIn wsX5_add wsX5_isTask := goodIn_r _ [11] (by decide +kernel) (by decide +kernel)
set_option maxRecDepth 20000 in
theorem gX5_add_X5_isTask : GoodIn wsX5_add (va_wsS RX5 55 yX5_isTask wsX5_isTask) := goodIn_app (goodIn_of _ (by decide +kernel)) ggX5_add_X5_isTask
set_option maxRecDepth 20000 in
theorem ggX5_add_X5_areTimes : GoodIn wsX5_add wsX5_areTimes := goodIn_r _ [14] (by decide +kernel) (by decide +kernel)
set_option maxRecDepth 20000 in
theorem gX5_add_X5_areTimes : GoodIn wsX5_add (va_wsS RX5 59 yX5_areTimes wsX5_areTimes) := goodIn_app (goodIn_of _ (by decide +kernel)) ggX5_add_X5_areTimes
set_option maxRecDepth 20000 in
theorem ggX5_add_X5_areBudgets : GoodIn wsX5_add wsX5_areBudgets := goodIn_r _ [17] (by decide +kernel) (by decide +kernel)
set_option maxRecDepth 20000 in
theorem gX5_add_X5_areBudgets : GoodIn wsX5_add (va_wsS RX5 63 yX5_areBudgets wsX5_areBudgets) := goodIn_app (goodIn_of _ (by decide +kernel)) ggX5_add_X5_areBudgets
set_option maxRecDepth 20000 in
theorem ggX5_add_X5_isKnown : GoodIn wsX5_add wsX5_isKnown := goodIn_r _ [21, 7, 22, 23, 24, 25, 26, 27, 28, 112, 113, 114, 115, 116, 117, 118, 119, 120, 121, 122, 123, 124, 125, 126] (by decide +kernel) (by decide +kernel)
set_option maxRecDepth 20000 in
theorem gX5_add_X5_isKnown : GoodIn wsX5_add (wsV RX5 69 RX5 yX5_isKnown wsX5_isKnown) := goodIn_app (goodIn_of _ (by decide +kernel)) ggX5_add_X5_isKnown
set_option maxRecDepth 20000 in
theorem ggX5_add_X3_begin : GoodIn wsX5_add wsX3_begin := goodIn_r _ [33, 34, 35, 36, 37, 38, 39, 40, 41, 42, 43, 44, 127, 128, 129, 130, 131, 132, 133, 134, 135, 136, 137, 138, 139, 140] (by decide +kernel) (by decide +kernel)
set_option maxRecDepth 20000 in
theorem gX5_add_X3_begin : GoodIn wsX5_add (wsV RX5 75 RX3 yX3_begin wsX3_begin) := goodIn_app (goodIn_of _ (by decide +kernel)) ggX5_add_X3_begin
set_option maxRecDepth 20000 in
theorem ggX5_add_X1_become : GoodIn wsX5_add wsX1_become := goodIn_r _ [48, 28, 49, 50, 51, 52, 27, 125, 126] (by decide +kernel) (by decide +kernel)
set_option maxRecDepth 20000 in
theorem gX5_add_X1_become : GoodIn wsX5_add (wsV RX5 81 RX1 yX1_become wsX1_become) := goodIn_app (goodIn_of _ (by decide +kernel)) ggX5_add_X1_become
set_option maxRecDepth 20000 in
theorem ggX5_add_X5_placeFor : GoodIn wsX5_add wsX5_placeFor := goodIn_r _ [56, 7, 5, 112, 113, 114, 115, 116, 117, 118, 119, 120, 121, 122, 123, 124, 125, 126, 127, 128, 129, 130, 131, 132, 133, 134, 135, 136, 137, 138, 139, 140] (by decide +kernel) (by decide +kernel)
set_option maxRecDepth 20000 in
theorem gX5_add_X5_placeFor : GoodIn wsX5_add (wsV RX5 85 RX5 yX5_placeFor wsX5_placeFor) := goodIn_app (goodIn_of _ (by decide +kernel)) ggX5_add_X5_placeFor
set_option maxRecDepth 20000 in
theorem ggX5_add_X1_insert : GoodIn wsX5_add wsX1_insert := goodIn_r _ [60, 27, 28, 125, 126] (by decide +kernel) (by decide +kernel)
set_option maxRecDepth 20000 in
theorem gX5_add_X1_insert : GoodIn wsX5_add (wsV RX5 89 RX1 yX1_insert wsX1_insert) := goodIn_app (goodIn_of _ (by decide +kernel)) ggX5_add_X1_insert
set_option maxRecDepth 20000 in
theorem ggX5_add_X5_admitTrial : GoodIn wsX5_add wsX5_admitTrial := goodIn_r _ [64, 65, 6, 66, 5, 7, 67, 68, 69, 70, 71, 72, 73, 74, 75, 76, 77, 78, 79, 80, 81, 82, 83, 84, 85, 10, 86, 87, 88, 89, 32, 90, 37, 36, 91, 92, 93, 94, 95, 96, 97, 98, 99, 100, 101, 102, 103, 104, 105, 106, 107, 108, 109, 110, 111, 45, 46, 47, 25, 48, 28, 49, 50, 51, 52, 27, 112, 113, 114, 115, 116, 117, 118, 119, 120, 121, 122, 123, 124, 125, 126, 141, 127, 128, 129, 130, 131, 132, 133, 134, 135, 136, 137, 138, 139, 140, 142, 143, 144, 145] (by decide +kernel) (by decide +kernel)
set_option maxRecDepth 20000 in
theorem gX5_add_X5_admitTrial : GoodIn wsX5_add (wsV RX5 93 RX5 yX5_admitTrial wsX5_admitTrial) := goodIn_app (goodIn_of _ (by decide +kernel)) ggX5_add_X5_admitTrial
theorem dX5_add_0 : decode cX5_add 0 = .ok (.iload_n 1, 1) := by decide +kernel
theorem dX5_add_1 : decode cX5_add 1 = .ok (.invokestatic 55, 3) := by decide +kernel
theorem dX5_add_4 : decode cX5_add 4 = .ok (.ifCond .eq 21, 3) := by decide +kernel
theorem dX5_add_7 : decode cX5_add 7 = .ok (.iload_n 2, 1) := by decide +kernel
theorem dX5_add_8 : decode cX5_add 8 = .ok (.iload_n 3, 1) := by decide +kernel
theorem dX5_add_9 : decode cX5_add 9 = .ok (.invokestatic 59, 3) := by decide +kernel
theorem dX5_add_12 : decode cX5_add 12 = .ok (.ifCond .eq 13, 3) := by decide +kernel
theorem dX5_add_15 : decode cX5_add 15 = .ok (.iload 4, 2) := by decide +kernel
theorem dX5_add_17 : decode cX5_add 17 = .ok (.iload 5, 2) := by decide +kernel
theorem dX5_add_19 : decode cX5_add 19 = .ok (.invokestatic 63, 3) := by decide +kernel
theorem dX5_add_22 : decode cX5_add 22 = .ok (.ifCond .ne 11, 3) := by decide +kernel
theorem dX5_add_25 : decode cX5_add 25 = .ok (.new 66, 3) := by decide +kernel
theorem dX5_add_28 : decode cX5_add 28 = .ok (.dup, 1) := by decide +kernel
theorem dX5_add_29 : decode cX5_add 29 = .ok (.invokespecial 68, 3) := by decide +kernel
theorem dX5_add_32 : decode cX5_add 32 = .ok (.athrow, 1) := by decide +kernel
theorem dX5_add_33 : decode cX5_add 33 = .ok (.aload_n 0, 1) := by decide +kernel
theorem dX5_add_34 : decode cX5_add 34 = .ok (.iload_n 1, 1) := by decide +kernel
theorem dX5_add_35 : decode cX5_add 35 = .ok (.invokevirtual 69, 3) := by decide +kernel
theorem dX5_add_38 : decode cX5_add 38 = .ok (.ifCond .eq 11, 3) := by decide +kernel
theorem dX5_add_41 : decode cX5_add 41 = .ok (.new 72, 3) := by decide +kernel
theorem dX5_add_44 : decode cX5_add 44 = .ok (.dup, 1) := by decide +kernel
theorem dX5_add_45 : decode cX5_add 45 = .ok (.invokespecial 74, 3) := by decide +kernel
theorem dX5_add_48 : decode cX5_add 48 = .ok (.athrow, 1) := by decide +kernel
theorem dX5_add_49 : decode cX5_add 49 = .ok (.aload_n 0, 1) := by decide +kernel
theorem dX5_add_50 : decode cX5_add 50 = .ok (.getfield 20, 3) := by decide +kernel
theorem dX5_add_53 : decode cX5_add 53 = .ok (.iload_n 1, 1) := by decide +kernel
theorem dX5_add_54 : decode cX5_add 54 = .ok (.aaload, 1) := by decide +kernel
theorem dX5_add_55 : decode cX5_add 55 = .ok (.iload_n 2, 1) := by decide +kernel
theorem dX5_add_56 : decode cX5_add 56 = .ok (.iload_n 3, 1) := by decide +kernel
theorem dX5_add_57 : decode cX5_add 57 = .ok (.iload 4, 2) := by decide +kernel
theorem dX5_add_59 : decode cX5_add 59 = .ok (.iload 5, 2) := by decide +kernel
theorem dX5_add_61 : decode cX5_add 61 = .ok (.invokevirtual 75, 3) := by decide +kernel
theorem dX5_add_64 : decode cX5_add 64 = .ok (.aload_n 0, 1) := by decide +kernel
theorem dX5_add_65 : decode cX5_add 65 = .ok (.getfield 33, 3) := by decide +kernel
theorem dX5_add_68 : decode cX5_add 68 = .ok (.aload_n 0, 1) := by decide +kernel
theorem dX5_add_69 : decode cX5_add 69 = .ok (.getfield 26, 3) := by decide +kernel
theorem dX5_add_72 : decode cX5_add 72 = .ok (.invokevirtual 81, 3) := by decide +kernel
theorem dX5_add_75 : decode cX5_add 75 = .ok (.aload_n 0, 1) := by decide +kernel
theorem dX5_add_76 : decode cX5_add 76 = .ok (.getfield 33, 3) := by decide +kernel
theorem dX5_add_79 : decode cX5_add 79 = .ok (.aload_n 0, 1) := by decide +kernel
theorem dX5_add_80 : decode cX5_add 80 = .ok (.iload_n 3, 1) := by decide +kernel
theorem dX5_add_81 : decode cX5_add 81 = .ok (.invokevirtual 85, 3) := by decide +kernel
theorem dX5_add_84 : decode cX5_add 84 = .ok (.iload_n 1, 1) := by decide +kernel
theorem dX5_add_85 : decode cX5_add 85 = .ok (.invokevirtual 89, 3) := by decide +kernel
theorem dX5_add_88 : decode cX5_add 88 = .ok (.aload_n 0, 1) := by decide +kernel
theorem dX5_add_89 : decode cX5_add 89 = .ok (.invokevirtual 93, 3) := by decide +kernel
theorem dX5_add_92 : decode cX5_add 92 = .ok (.ireturn, 1) := by decide +kernel
set_option maxRecDepth 20000 in
theorem ggX5_remove_X5_isKnown : GoodIn wsX5_remove wsX5_isKnown := goodIn_r _ [10, 11, 12, 13, 14, 15, 16, 17, 18, 33, 34, 35, 36, 37, 38, 39, 40, 41, 42, 43, 44, 45, 60, 61] (by decide +kernel) (by decide +kernel)
set_option maxRecDepth 20000 in
theorem gX5_remove_X5_isKnown : GoodIn wsX5_remove (wsV RX5 69 RX5 yX5_isKnown wsX5_isKnown) := goodIn_app (goodIn_of _ (by decide +kernel)) ggX5_remove_X5_isKnown
set_option maxRecDepth 20000 in
theorem ggX5_remove_X5_forgetIfLeft : GoodIn wsX5_remove wsX5_forgetIfLeft := goodIn_r _ [22, 5, 11, 23, 24, 25, 26, 15, 27, 17, 28, 13, 14, 16, 18, 29, 30, 31, 32, 33, 34, 35, 36, 37, 38, 39, 40, 41, 42, 43, 44, 45, 46, 47, 48, 49, 50, 51, 52, 53, 54, 55, 56, 57, 58, 59, 60, 61] (by decide +kernel) (by decide +kernel)
set_option maxRecDepth 20000 in
theorem gX5_remove_X5_forgetIfLeft : GoodIn wsX5_remove (wsV RX5 104 RX5 yX5_forgetIfLeft wsX5_forgetIfLeft) := goodIn_app (goodIn_of _ (by decide +kernel)) ggX5_remove_X5_forgetIfLeft
theorem dX5_remove_0 : decode cX5_remove 0 = .ok (.aload_n 0, 1) := by decide +kernel
theorem dX5_remove_1 : decode cX5_remove 1 = .ok (.iload_n 1, 1) := by decide +kernel
theorem dX5_remove_2 : decode cX5_remove 2 = .ok (.invokevirtual 69, 3) := by decide +kernel
theorem dX5_remove_5 : decode cX5_remove 5 = .ok (.ifCond .ne 11, 3) := by decide +kernel
theorem dX5_remove_8 : decode cX5_remove 8 = .ok (.new 97, 3) := by decide +kernel
theorem dX5_remove_11 : decode cX5_remove 11 = .ok (.dup, 1) := by decide +kernel
theorem dX5_remove_12 : decode cX5_remove 12 = .ok (.invokespecial 99, 3) := by decide +kernel
theorem dX5_remove_15 : decode cX5_remove 15 = .ok (.athrow, 1) := by decide +kernel
theorem dX5_remove_16 : decode cX5_remove 16 = .ok (.aload_n 0, 1) := by decide +kernel
theorem dX5_remove_17 : decode cX5_remove 17 = .ok (.getfield 20, 3) := by decide +kernel
theorem dX5_remove_20 : decode cX5_remove 20 = .ok (.iload_n 1, 1) := by decide +kernel
theorem dX5_remove_21 : decode cX5_remove 21 = .ok (.aaload, 1) := by decide +kernel
theorem dX5_remove_22 : decode cX5_remove 22 = .ok (.getfield 100, 3) := by decide +kernel
theorem dX5_remove_25 : decode cX5_remove 25 = .ok (.ifCond .eq 11, 3) := by decide +kernel
theorem dX5_remove_28 : decode cX5_remove 28 = .ok (.new 72, 3) := by decide +kernel
theorem dX5_remove_31 : decode cX5_remove 31 = .ok (.dup, 1) := by decide +kernel
theorem dX5_remove_32 : decode cX5_remove 32 = .ok (.invokespecial 74, 3) := by decide +kernel
theorem dX5_remove_35 : decode cX5_remove 35 = .ok (.athrow, 1) := by decide +kernel
theorem dX5_remove_36 : decode cX5_remove 36 = .ok (.aload_n 0, 1) := by decide +kernel
theorem dX5_remove_37 : decode cX5_remove 37 = .ok (.getfield 20, 3) := by decide +kernel
theorem dX5_remove_40 : decode cX5_remove 40 = .ok (.iload_n 1, 1) := by decide +kernel
theorem dX5_remove_41 : decode cX5_remove 41 = .ok (.aaload, 1) := by decide +kernel
theorem dX5_remove_42 : decode cX5_remove 42 = .ok (.iconst 1, 1) := by decide +kernel
theorem dX5_remove_43 : decode cX5_remove 43 = .ok (.putfield 100, 3) := by decide +kernel
theorem dX5_remove_46 : decode cX5_remove 46 = .ok (.aload_n 0, 1) := by decide +kernel
theorem dX5_remove_47 : decode cX5_remove 47 = .ok (.iload_n 1, 1) := by decide +kernel
theorem dX5_remove_48 : decode cX5_remove 48 = .ok (.invokevirtual 104, 3) := by decide +kernel
theorem dX5_remove_51 : decode cX5_remove 51 = .ok (.aload_n 0, 1) := by decide +kernel
theorem dX5_remove_52 : decode cX5_remove 52 = .ok (.iload_n 1, 1) := by decide +kernel
theorem dX5_remove_53 : decode cX5_remove 53 = .ok (.invokevirtual 69, 3) := by decide +kernel
theorem dX5_remove_56 : decode cX5_remove 56 = .ok (.ifCond .ne 7, 3) := by decide +kernel
theorem dX5_remove_59 : decode cX5_remove 59 = .ok (.iconst 1, 1) := by decide +kernel
theorem dX5_remove_60 : decode cX5_remove 60 = .ok (.goto 4, 3) := by decide +kernel
theorem dX5_remove_63 : decode cX5_remove 63 = .ok (.iconst 0, 1) := by decide +kernel
theorem dX5_remove_64 : decode cX5_remove 64 = .ok (.ireturn, 1) := by decide +kernel
set_option maxRecDepth 20000 in
theorem ggX5_release_X5_isInForce : GoodIn wsX5_release wsX5_isInForce := goodIn_r _ [14, 15, 16, 17, 18, 19, 20, 21, 22, 55, 56, 57, 58, 59, 60, 61, 62, 63, 64, 65, 66, 67, 82, 83] (by decide +kernel) (by decide +kernel)
set_option maxRecDepth 20000 in
theorem gX5_release_X5_isInForce : GoodIn wsX5_release (wsV RX5 107 RX5 yX5_isInForce wsX5_isInForce) := goodIn_app (goodIn_of _ (by decide +kernel)) ggX5_release_X5_isInForce
set_option maxRecDepth 20000 in
theorem ggX5_release_X3_greatestBudget : GoodIn wsX5_release wsX3_greatestBudget := goodIn_r _ [27, 28, 29, 30, 31, 32, 26, 33, 68, 69, 70, 71, 72, 73, 74, 75, 76, 77, 78, 79, 80, 81] (by decide +kernel) (by decide +kernel)
set_option maxRecDepth 20000 in
theorem gX5_release_X3_greatestBudget : GoodIn wsX5_release (wsV RX5 110 RX3 yX3_greatestBudget wsX3_greatestBudget) := goodIn_app (goodIn_of _ (by decide +kernel)) ggX5_release_X3_greatestBudget
set_option maxRecDepth 20000 in
theorem ggX5_release_X3_nextRelease : GoodIn wsX5_release wsX3_nextRelease := goodIn_r _ [37, 38, 39, 40, 41, 13, 42, 43, 44, 45, 46, 68, 69, 70, 71, 72, 73, 74, 75, 76, 77, 78, 79, 80, 81] (by decide +kernel) (by decide +kernel)
set_option maxRecDepth 20000 in
theorem gX5_release_X3_nextRelease : GoodIn wsX5_release (wsV RX5 117 RX3 yX3_nextRelease wsX3_nextRelease) := goodIn_app (goodIn_of _ (by decide +kernel)) ggX5_release_X3_nextRelease
set_option maxRecDepth 20000 in
theorem ggX5_release_X3_isHigh : GoodIn wsX5_release wsX3_isHigh := goodIn_r _ [33, 28, 68, 69, 70, 71, 72, 73, 74, 75, 76, 77, 78, 79, 80, 81] (by decide +kernel) (by decide +kernel)
set_option maxRecDepth 20000 in
theorem gX5_release_X3_isHigh : GoodIn wsX5_release (wsV RX5 126 RX3 yX3_isHigh wsX3_isHigh) := goodIn_app (goodIn_of _ (by decide +kernel)) ggX5_release_X3_isHigh
set_option maxRecDepth 20000 in
theorem ggX5_release_X3_newJob : GoodIn wsX5_release wsX3_newJob := goodIn_r _ [51, 38, 52, 53, 39, 54, 41, 13, 42, 43, 44, 45, 46, 68, 69, 70, 71, 72, 73, 74, 75, 76, 77, 78, 79, 80, 81] (by decide +kernel) (by decide +kernel)
set_option maxRecDepth 20000 in
theorem gX5_release_X3_newJob : GoodIn wsX5_release (wsV RX5 133 RX3 yX3_newJob wsX3_newJob) := goodIn_app (goodIn_of _ (by decide +kernel)) ggX5_release_X3_newJob
theorem dX5_release_0 : decode cX5_release 0 = .ok (.aload_n 0, 1) := by decide +kernel
theorem dX5_release_1 : decode cX5_release 1 = .ok (.iload_n 1, 1) := by decide +kernel
theorem dX5_release_2 : decode cX5_release 2 = .ok (.invokevirtual 107, 3) := by decide +kernel
theorem dX5_release_5 : decode cX5_release 5 = .ok (.ifCond .ne 11, 3) := by decide +kernel
theorem dX5_release_8 : decode cX5_release 8 = .ok (.new 97, 3) := by decide +kernel
theorem dX5_release_11 : decode cX5_release 11 = .ok (.dup, 1) := by decide +kernel
theorem dX5_release_12 : decode cX5_release 12 = .ok (.invokespecial 99, 3) := by decide +kernel
theorem dX5_release_15 : decode cX5_release 15 = .ok (.athrow, 1) := by decide +kernel
theorem dX5_release_16 : decode cX5_release 16 = .ok (.aload_n 0, 1) := by decide +kernel
theorem dX5_release_17 : decode cX5_release 17 = .ok (.getfield 20, 3) := by decide +kernel
theorem dX5_release_20 : decode cX5_release 20 = .ok (.iload_n 1, 1) := by decide +kernel
theorem dX5_release_21 : decode cX5_release 21 = .ok (.aaload, 1) := by decide +kernel
theorem dX5_release_22 : decode cX5_release 22 = .ok (.astore_n 3, 1) := by decide +kernel
theorem dX5_release_23 : decode cX5_release 23 = .ok (.iload_n 2, 1) := by decide +kernel
theorem dX5_release_24 : decode cX5_release 24 = .ok (.iconst 1, 1) := by decide +kernel
theorem dX5_release_25 : decode cX5_release 25 = .ok (.if_icmp .lt 11, 3) := by decide +kernel
theorem dX5_release_28 : decode cX5_release 28 = .ok (.iload_n 2, 1) := by decide +kernel
theorem dX5_release_29 : decode cX5_release 29 = .ok (.aload_n 3, 1) := by decide +kernel
theorem dX5_release_30 : decode cX5_release 30 = .ok (.invokevirtual 110, 3) := by decide +kernel
theorem dX5_release_33 : decode cX5_release 33 = .ok (.if_icmp .le 11, 3) := by decide +kernel
theorem dX5_release_36 : decode cX5_release 36 = .ok (.new 66, 3) := by decide +kernel
theorem dX5_release_39 : decode cX5_release 39 = .ok (.dup, 1) := by decide +kernel
theorem dX5_release_40 : decode cX5_release 40 = .ok (.invokespecial 68, 3) := by decide +kernel
theorem dX5_release_43 : decode cX5_release 43 = .ok (.athrow, 1) := by decide +kernel
theorem dX5_release_44 : decode cX5_release 44 = .ok (.aload_n 3, 1) := by decide +kernel
theorem dX5_release_45 : decode cX5_release 45 = .ok (.getfield 100, 3) := by decide +kernel
theorem dX5_release_48 : decode cX5_release 48 = .ok (.ifCond .ne 22, 3) := by decide +kernel
theorem dX5_release_51 : decode cX5_release 51 = .ok (.aload_n 0, 1) := by decide +kernel
theorem dX5_release_52 : decode cX5_release 52 = .ok (.getfield 113, 3) := by decide +kernel
theorem dX5_release_55 : decode cX5_release 55 = .ok (.aload_n 3, 1) := by decide +kernel
theorem dX5_release_56 : decode cX5_release 56 = .ok (.invokevirtual 117, 3) := by decide +kernel
theorem dX5_release_59 : decode cX5_release 59 = .ok (.if_icmp .lt 11, 3) := by decide +kernel
theorem dX5_release_62 : decode cX5_release 62 = .ok (.aload_n 3, 1) := by decide +kernel
theorem dX5_release_63 : decode cX5_release 63 = .ok (.getfield 120, 3) := by decide +kernel
theorem dX5_release_66 : decode cX5_release 66 = .ok (.iconst 4, 1) := by decide +kernel
theorem dX5_release_67 : decode cX5_release 67 = .ok (.if_icmp .lt 11, 3) := by decide +kernel
theorem dX5_release_70 : decode cX5_release 70 = .ok (.new 72, 3) := by decide +kernel
theorem dX5_release_73 : decode cX5_release 73 = .ok (.dup, 1) := by decide +kernel
theorem dX5_release_74 : decode cX5_release 74 = .ok (.invokespecial 74, 3) := by decide +kernel
theorem dX5_release_77 : decode cX5_release 77 = .ok (.athrow, 1) := by decide +kernel
theorem dX5_release_78 : decode cX5_release 78 = .ok (.aload_n 0, 1) := by decide +kernel
theorem dX5_release_79 : decode cX5_release 79 = .ok (.getfield 123, 3) := by decide +kernel
theorem dX5_release_82 : decode cX5_release 82 = .ok (.ifCond .eq 22, 3) := by decide +kernel
theorem dX5_release_85 : decode cX5_release 85 = .ok (.aload_n 3, 1) := by decide +kernel
theorem dX5_release_86 : decode cX5_release 86 = .ok (.invokevirtual 126, 3) := by decide +kernel
theorem dX5_release_89 : decode cX5_release 89 = .ok (.ifCond .ne 15, 3) := by decide +kernel
theorem dX5_release_92 : decode cX5_release 92 = .ok (.aload_n 3, 1) := by decide +kernel
theorem dX5_release_93 : decode cX5_release 93 = .ok (.dup, 1) := by decide +kernel
theorem dX5_release_94 : decode cX5_release 94 = .ok (.getfield 130, 3) := by decide +kernel
theorem dX5_release_97 : decode cX5_release 97 = .ok (.iconst 1, 1) := by decide +kernel
theorem dX5_release_98 : decode cX5_release 98 = .ok (.iadd, 1) := by decide +kernel
theorem dX5_release_99 : decode cX5_release 99 = .ok (.putfield 130, 3) := by decide +kernel
theorem dX5_release_102 : decode cX5_release 102 = .ok (.iconst 0, 1) := by decide +kernel
theorem dX5_release_103 : decode cX5_release 103 = .ok (.ireturn, 1) := by decide +kernel
theorem dX5_release_104 : decode cX5_release 104 = .ok (.aload_n 3, 1) := by decide +kernel
theorem dX5_release_105 : decode cX5_release 105 = .ok (.iload_n 2, 1) := by decide +kernel
theorem dX5_release_106 : decode cX5_release 106 = .ok (.aload_n 0, 1) := by decide +kernel
theorem dX5_release_107 : decode cX5_release 107 = .ok (.getfield 113, 3) := by decide +kernel
theorem dX5_release_110 : decode cX5_release 110 = .ok (.invokevirtual 133, 3) := by decide +kernel
theorem dX5_release_113 : decode cX5_release 113 = .ok (.ireturn, 1) := by decide +kernel
set_option maxRecDepth 20000 in
theorem ggX5_tick_X5_advance : GoodIn wsX5_tick wsX5_advance := goodIn_r _ [5, 6, 7, 8, 9, 10, 4, 11, 12, 13, 14, 15, 16, 17, 18, 19, 20, 21, 22, 23, 24, 25, 26, 27, 28, 29, 30, 31, 32, 33, 34, 35, 36, 37, 38, 39, 40, 41, 42, 43, 44, 45, 46, 47, 48, 49, 50, 51, 52, 53, 54, 55, 56, 57, 58, 59, 60, 61, 62, 63, 64, 65, 66, 67, 68, 69, 70, 71, 72, 73, 74, 75, 76, 77, 78, 79, 80, 81, 82, 83, 84, 85, 86, 87, 88, 89, 90, 91, 92, 93, 94, 95, 96, 97, 98, 99, 100, 101, 102, 103, 104, 105, 106, 107, 108, 109, 110, 111, 112, 113, 114, 115, 116, 117, 118, 119, 120, 121, 122, 123, 124, 125, 126, 127, 128, 129, 130] (by decide +kernel) (by decide +kernel)
set_option maxRecDepth 20000 in
theorem gX5_tick_X5_advance : GoodIn wsX5_tick (wsV RX5 137 RX5 yX5_advance wsX5_advance) := goodIn_app (goodIn_of _ (by decide +kernel)) ggX5_tick_X5_advance
theorem dX5_tick_0 : decode cX5_tick 0 = .ok (.aload_n 0, 1) := by decide +kernel
theorem dX5_tick_1 : decode cX5_tick 1 = .ok (.invokevirtual 137, 3) := by decide +kernel
theorem dX5_tick_4 : decode cX5_tick 4 = .ok (.ireturn, 1) := by decide +kernel
set_option maxRecDepth 20000 in
theorem ggX5_run_X5_advance : GoodIn wsX5_run wsX5_advance := goodIn_r _ [7, 8, 9, 10, 11, 12, 6, 13, 14, 15, 16, 17, 18, 19, 20, 21, 22, 23, 24, 25, 26, 27, 28, 29, 30, 31, 32, 33, 34, 35, 36, 37, 38, 39, 40, 41, 42, 43, 44, 45, 46, 47, 48, 49, 50, 51, 52, 53, 54, 55, 56, 57, 58, 59, 60, 61, 62, 63, 64, 65, 66, 67, 68, 69, 70, 71, 72, 73, 74, 75, 76, 77, 78, 79, 80, 81, 82, 83, 84, 85, 86, 87, 88, 89, 90, 91, 92, 93, 94, 95, 96, 97, 98, 99, 100, 101, 102, 103, 104, 105, 106, 107, 108, 109, 110, 111, 112, 113, 114, 115, 116, 117, 118, 119, 120, 121, 122, 123, 124, 125, 126, 127, 128, 129, 130, 131, 132] (by decide +kernel) (by decide +kernel)
set_option maxRecDepth 20000 in
theorem gX5_run_X5_advance : GoodIn wsX5_run (wsV RX5 137 RX5 yX5_advance wsX5_advance) := goodIn_app (goodIn_of _ (by decide +kernel)) ggX5_run_X5_advance
theorem dX5_run_0 : decode cX5_run 0 = .ok (.iload_n 1, 1) := by decide +kernel
theorem dX5_run_1 : decode cX5_run 1 = .ok (.ifCond .lt 10, 3) := by decide +kernel
theorem dX5_run_4 : decode cX5_run 4 = .ok (.iload_n 1, 1) := by decide +kernel
theorem dX5_run_5 : decode cX5_run 5 = .ok (.sipush 1000, 3) := by decide +kernel
theorem dX5_run_8 : decode cX5_run 8 = .ok (.if_icmp .le 11, 3) := by decide +kernel
theorem dX5_run_11 : decode cX5_run 11 = .ok (.new 66, 3) := by decide +kernel
theorem dX5_run_14 : decode cX5_run 14 = .ok (.dup, 1) := by decide +kernel
theorem dX5_run_15 : decode cX5_run 15 = .ok (.invokespecial 68, 3) := by decide +kernel
theorem dX5_run_18 : decode cX5_run 18 = .ok (.athrow, 1) := by decide +kernel
theorem dX5_run_19 : decode cX5_run 19 = .ok (.iconst 0, 1) := by decide +kernel
theorem dX5_run_20 : decode cX5_run 20 = .ok (.istore_n 2, 1) := by decide +kernel
theorem dX5_run_21 : decode cX5_run 21 = .ok (.iconst 0, 1) := by decide +kernel
theorem dX5_run_22 : decode cX5_run 22 = .ok (.istore_n 3, 1) := by decide +kernel
theorem dX5_run_23 : decode cX5_run 23 = .ok (.iload_n 3, 1) := by decide +kernel
theorem dX5_run_24 : decode cX5_run 24 = .ok (.iload_n 1, 1) := by decide +kernel
theorem dX5_run_25 : decode cX5_run 25 = .ok (.if_icmp .ge 19, 3) := by decide +kernel
theorem dX5_run_28 : decode cX5_run 28 = .ok (.aload_n 0, 1) := by decide +kernel
theorem dX5_run_29 : decode cX5_run 29 = .ok (.invokevirtual 137, 3) := by decide +kernel
theorem dX5_run_32 : decode cX5_run 32 = .ok (.ifCond .ne 6, 3) := by decide +kernel
theorem dX5_run_35 : decode cX5_run 35 = .ok (.iinc 2 1, 3) := by decide +kernel
theorem dX5_run_38 : decode cX5_run 38 = .ok (.iinc 3 1, 3) := by decide +kernel
theorem dX5_run_41 : decode cX5_run 41 = .ok (.goto (-18), 3) := by decide +kernel
theorem dX5_run_44 : decode cX5_run 44 = .ok (.iload_n 2, 1) := by decide +kernel
theorem dX5_run_45 : decode cX5_run 45 = .ok (.ireturn, 1) := by decide +kernel
set_option maxRecDepth 20000 in
theorem ggX5_assign_X1_become : GoodIn wsX5_assign wsX1_become := goodIn_r _ [8, 9, 10, 11, 12, 13, 14, 68, 69] (by decide +kernel) (by decide +kernel)
set_option maxRecDepth 20000 in
theorem gX5_assign_X1_become : GoodIn wsX5_assign (wsV RX5 81 RX1 yX1_become wsX1_become) := goodIn_app (goodIn_of _ (by decide +kernel)) ggX5_assign_X1_become
set_option maxRecDepth 20000 in
theorem ggX5_assign_X4_lastThatPasses : GoodIn wsX5_assign wsX4_lastThatPasses := goodIn_r _ [19, 20, 21, 22, 23, 18, 24, 25, 26, 27, 28, 29, 30, 31, 32, 33, 34, 35, 36, 37, 38, 39, 40, 41, 42, 43, 44, 45, 46, 47, 48, 49, 50, 70, 68, 69, 71, 72, 73, 74, 75, 76, 77, 78, 79, 80, 81, 82, 83, 84] (by decide +kernel) (by decide +kernel)
set_option maxRecDepth 20000 in
theorem gX5_assign_X4_lastThatPasses : GoodIn wsX5_assign (wsV RX5 143 RX4 yX4_lastThatPasses wsX4_lastThatPasses) := goodIn_app (goodIn_of _ (by decide +kernel)) ggX5_assign_X4_lastThatPasses
set_option maxRecDepth 20000 in
theorem ggX5_assign_X1_moveBack : GoodIn wsX5_assign wsX1_moveBack := goodIn_r _ [54, 9, 68, 69] (by decide +kernel) (by decide +kernel)
set_option maxRecDepth 20000 in
theorem gX5_assign_X1_moveBack : GoodIn wsX5_assign (wsV RX5 147 RX1 yX1_moveBack wsX1_moveBack) := goodIn_app (goodIn_of _ (by decide +kernel)) ggX5_assign_X1_moveBack
theorem dX5_assign_0 : decode cX5_assign 0 = .ok (.aload_n 0, 1) := by decide +kernel
theorem dX5_assign_1 : decode cX5_assign 1 = .ok (.getfield 33, 3) := by decide +kernel
theorem dX5_assign_4 : decode cX5_assign 4 = .ok (.aload_n 0, 1) := by decide +kernel
theorem dX5_assign_5 : decode cX5_assign 5 = .ok (.getfield 26, 3) := by decide +kernel
theorem dX5_assign_8 : decode cX5_assign 8 = .ok (.invokevirtual 81, 3) := by decide +kernel
theorem dX5_assign_11 : decode cX5_assign 11 = .ok (.aload_n 0, 1) := by decide +kernel
theorem dX5_assign_12 : decode cX5_assign 12 = .ok (.getfield 33, 3) := by decide +kernel
theorem dX5_assign_15 : decode cX5_assign 15 = .ok (.getfield 140, 3) := by decide +kernel
theorem dX5_assign_18 : decode cX5_assign 18 = .ok (.iconst 1, 1) := by decide +kernel
theorem dX5_assign_19 : decode cX5_assign 19 = .ok (.isub, 1) := by decide +kernel
theorem dX5_assign_20 : decode cX5_assign 20 = .ok (.istore_n 1, 1) := by decide +kernel
theorem dX5_assign_21 : decode cX5_assign 21 = .ok (.iload_n 1, 1) := by decide +kernel
theorem dX5_assign_22 : decode cX5_assign 22 = .ok (.ifCond .lt 38, 3) := by decide +kernel
theorem dX5_assign_25 : decode cX5_assign 25 = .ok (.aload_n 0, 1) := by decide +kernel
theorem dX5_assign_26 : decode cX5_assign 26 = .ok (.getfield 12, 3) := by decide +kernel
theorem dX5_assign_29 : decode cX5_assign 29 = .ok (.aload_n 0, 1) := by decide +kernel
theorem dX5_assign_30 : decode cX5_assign 30 = .ok (.getfield 33, 3) := by decide +kernel
theorem dX5_assign_33 : decode cX5_assign 33 = .ok (.iload_n 1, 1) := by decide +kernel
theorem dX5_assign_34 : decode cX5_assign 34 = .ok (.invokevirtual 143, 3) := by decide +kernel
theorem dX5_assign_37 : decode cX5_assign 37 = .ok (.istore_n 2, 1) := by decide +kernel
theorem dX5_assign_38 : decode cX5_assign 38 = .ok (.iload_n 2, 1) := by decide +kernel
theorem dX5_assign_39 : decode cX5_assign 39 = .ok (.iconst (-1), 1) := by decide +kernel
theorem dX5_assign_40 : decode cX5_assign 40 = .ok (.if_icmp .ne 5, 3) := by decide +kernel
theorem dX5_assign_43 : decode cX5_assign 43 = .ok (.iconst 0, 1) := by decide +kernel
theorem dX5_assign_44 : decode cX5_assign 44 = .ok (.ireturn, 1) := by decide +kernel
theorem dX5_assign_45 : decode cX5_assign 45 = .ok (.aload_n 0, 1) := by decide +kernel
theorem dX5_assign_46 : decode cX5_assign 46 = .ok (.getfield 33, 3) := by decide +kernel
theorem dX5_assign_49 : decode cX5_assign 49 = .ok (.iload_n 2, 1) := by decide +kernel
