theorem dX6_back_27 : decode cX6_back 27 = .ok (.aload_n 0, 1) := by decide +kernel
theorem dX6_back_28 : decode cX6_back 28 = .ok (.getfield 30, 3) := by decide +kernel
theorem dX6_back_31 : decode cX6_back 31 = .ok (.iload_n 1, 1) := by decide +kernel
theorem dX6_back_32 : decode cX6_back 32 = .ok (.aaload, 1) := by decide +kernel
theorem dX6_back_33 : decode cX6_back 33 = .ok (.invokevirtual 155, 3) := by decide +kernel
theorem dX6_back_36 : decode cX6_back 36 = .ok (.aload_n 0, 1) := by decide +kernel
theorem dX6_back_37 : decode cX6_back 37 = .ok (.getfield 26, 3) := by decide +kernel
theorem dX6_back_40 : decode cX6_back 40 = .ok (.getfield 118, 3) := by decide +kernel
theorem dX6_back_43 : decode cX6_back 43 = .ok (.ireturn, 1) := by decide +kernel
theorem dX6_count_0 : decode cX6_count 0 = .ok (.iload_n 1, 1) := by decide +kernel
theorem dX6_count_1 : decode cX6_count 1 = .ok (.tableswitch 63 0 3 #[31, 39, 47, 55], 31) := by decide +kernel
theorem dX6_count_32 : decode cX6_count 32 = .ok (.aload_n 0, 1) := by decide +kernel
theorem dX6_count_33 : decode cX6_count 33 = .ok (.getfield 41, 3) := by decide +kernel
theorem dX6_count_36 : decode cX6_count 36 = .ok (.getfield 235, 3) := by decide +kernel
theorem dX6_count_39 : decode cX6_count 39 = .ok (.ireturn, 1) := by decide +kernel
theorem dX6_count_40 : decode cX6_count 40 = .ok (.aload_n 0, 1) := by decide +kernel
theorem dX6_count_41 : decode cX6_count 41 = .ok (.getfield 55, 3) := by decide +kernel
theorem dX6_count_44 : decode cX6_count 44 = .ok (.getfield 238, 3) := by decide +kernel
theorem dX6_count_47 : decode cX6_count 47 = .ok (.ireturn, 1) := by decide +kernel
theorem dX6_count_48 : decode cX6_count 48 = .ok (.aload_n 0, 1) := by decide +kernel
theorem dX6_count_49 : decode cX6_count 49 = .ok (.getfield 62, 3) := by decide +kernel
theorem dX6_count_52 : decode cX6_count 52 = .ok (.getfield 239, 3) := by decide +kernel
theorem dX6_count_55 : decode cX6_count 55 = .ok (.ireturn, 1) := by decide +kernel
theorem dX6_count_56 : decode cX6_count 56 = .ok (.aload_n 0, 1) := by decide +kernel
theorem dX6_count_57 : decode cX6_count 57 = .ok (.getfield 10, 3) := by decide +kernel
theorem dX6_count_60 : decode cX6_count 60 = .ok (.getfield 240, 3) := by decide +kernel
theorem dX6_count_63 : decode cX6_count 63 = .ok (.ireturn, 1) := by decide +kernel
theorem dX6_count_64 : decode cX6_count 64 = .ok (.iconst (-1), 1) := by decide +kernel
theorem dX6_count_65 : decode cX6_count 65 = .ok (.ireturn, 1) := by decide +kernel
theorem dX6_trace_0 : decode cX6_trace 0 = .ok (.aload_n 0, 1) := by decide +kernel
theorem dX6_trace_1 : decode cX6_trace 1 = .ok (.getfield 241, 3) := by decide +kernel
theorem dX6_trace_4 : decode cX6_trace 4 = .ok (.lreturn, 1) := by decide +kernel
theorem dX6_outside_0 : decode cX6_outside 0 = .ok (.iload_n 0, 1) := by decide +kernel
theorem dX6_outside_1 : decode cX6_outside 1 = .ok (.iload_n 1, 1) := by decide +kernel
theorem dX6_outside_2 : decode cX6_outside 2 = .ok (.if_icmp .lt 8, 3) := by decide +kernel
theorem dX6_outside_5 : decode cX6_outside 5 = .ok (.iload_n 0, 1) := by decide +kernel
theorem dX6_outside_6 : decode cX6_outside 6 = .ok (.iload_n 2, 1) := by decide +kernel
theorem dX6_outside_7 : decode cX6_outside 7 = .ok (.if_icmp .le 7, 3) := by decide +kernel
theorem dX6_outside_10 : decode cX6_outside 10 = .ok (.iconst 1, 1) := by decide +kernel
theorem dX6_outside_11 : decode cX6_outside 11 = .ok (.goto 4, 3) := by decide +kernel
theorem dX6_outside_14 : decode cX6_outside 14 = .ok (.iconst 0, 1) := by decide +kernel
theorem dX6_outside_15 : decode cX6_outside 15 = .ok (.ireturn, 1) := by decide +kernel
theorem dX6_noneIfZero_0 : decode cX6_noneIfZero 0 = .ok (.iload_n 0, 1) := by decide +kernel
theorem dX6_noneIfZero_1 : decode cX6_noneIfZero 1 = .ok (.ifCond .ne 8, 3) := by decide +kernel
theorem dX6_noneIfZero_4 : decode cX6_noneIfZero 4 = .ok (.bipush (-9), 2) := by decide +kernel
theorem dX6_noneIfZero_6 : decode cX6_noneIfZero 6 = .ok (.goto 4, 3) := by decide +kernel
theorem dX6_noneIfZero_9 : decode cX6_noneIfZero 9 = .ok (.iload_n 0, 1) := by decide +kernel
theorem dX6_noneIfZero_10 : decode cX6_noneIfZero 10 = .ok (.ireturn, 1) := by decide +kernel
set_option maxRecDepth 20000 in
theorem ggX6_leastTerms_X6_greatestDivisor : GoodIn wsX6_leastTerms wsX6_greatestDivisor := goodIn_r _ [8] (by decide +kernel) (by decide +kernel)
set_option maxRecDepth 20000 in
theorem gX6_leastTerms_X6_greatestDivisor : GoodIn wsX6_leastTerms (va_wsS RX6 251 yX6_greatestDivisor wsX6_greatestDivisor) := goodIn_app (goodIn_of _ (by decide +kernel)) ggX6_leastTerms_X6_greatestDivisor
theorem dX6_leastTerms_0 : decode cX6_leastTerms 0 = .ok (.lload_n 0, 1) := by decide +kernel
theorem dX6_leastTerms_1 : decode cX6_leastTerms 1 = .ok (.invokestatic 245, 3) := by decide +kernel
theorem dX6_leastTerms_4 : decode cX6_leastTerms 4 = .ok (.lload_n 2, 1) := by decide +kernel
theorem dX6_leastTerms_5 : decode cX6_leastTerms 5 = .ok (.invokestatic 251, 3) := by decide +kernel
theorem dX6_leastTerms_8 : decode cX6_leastTerms 8 = .ok (.lstore 5, 2) := by decide +kernel
theorem dX6_leastTerms_10 : decode cX6_leastTerms 10 = .ok (.lload 5, 2) := by decide +kernel
theorem dX6_leastTerms_12 : decode cX6_leastTerms 12 = .ok (.lconst 0, 1) := by decide +kernel
theorem dX6_leastTerms_13 : decode cX6_leastTerms 13 = .ok (.lcmp, 1) := by decide +kernel
theorem dX6_leastTerms_14 : decode cX6_leastTerms 14 = .ok (.ifCond .gt 5, 3) := by decide +kernel
theorem dX6_leastTerms_17 : decode cX6_leastTerms 17 = .ok (.lconst 0, 1) := by decide +kernel
theorem dX6_leastTerms_18 : decode cX6_leastTerms 18 = .ok (.lreturn, 1) := by decide +kernel
theorem dX6_leastTerms_19 : decode cX6_leastTerms 19 = .ok (.iload 4, 2) := by decide +kernel
theorem dX6_leastTerms_21 : decode cX6_leastTerms 21 = .ok (.ifCond .eq 7, 3) := by decide +kernel
theorem dX6_leastTerms_24 : decode cX6_leastTerms 24 = .ok (.lload_n 0, 1) := by decide +kernel
theorem dX6_leastTerms_25 : decode cX6_leastTerms 25 = .ok (.goto 4, 3) := by decide +kernel
theorem dX6_leastTerms_28 : decode cX6_leastTerms 28 = .ok (.lload_n 2, 1) := by decide +kernel
theorem dX6_leastTerms_29 : decode cX6_leastTerms 29 = .ok (.lload 5, 2) := by decide +kernel
theorem dX6_leastTerms_31 : decode cX6_leastTerms 31 = .ok (.ldiv, 1) := by decide +kernel
theorem dX6_leastTerms_32 : decode cX6_leastTerms 32 = .ok (.lreturn, 1) := by decide +kernel
theorem dX6_greatestDivisor_0 : decode cX6_greatestDivisor 0 = .ok (.lload_n 0, 1) := by decide +kernel
theorem dX6_greatestDivisor_1 : decode cX6_greatestDivisor 1 = .ok (.lstore 4, 2) := by decide +kernel
theorem dX6_greatestDivisor_3 : decode cX6_greatestDivisor 3 = .ok (.lload_n 2, 1) := by decide +kernel
theorem dX6_greatestDivisor_4 : decode cX6_greatestDivisor 4 = .ok (.lstore 6, 2) := by decide +kernel
theorem dX6_greatestDivisor_6 : decode cX6_greatestDivisor 6 = .ok (.iconst 0, 1) := by decide +kernel
theorem dX6_greatestDivisor_7 : decode cX6_greatestDivisor 7 = .ok (.istore 8, 2) := by decide +kernel
theorem dX6_greatestDivisor_9 : decode cX6_greatestDivisor 9 = .ok (.iload 8, 2) := by decide +kernel
theorem dX6_greatestDivisor_11 : decode cX6_greatestDivisor 11 = .ok (.bipush 100, 2) := by decide +kernel
theorem dX6_greatestDivisor_13 : decode cX6_greatestDivisor 13 = .ok (.if_icmp .ge 31, 3) := by decide +kernel
theorem dX6_greatestDivisor_16 : decode cX6_greatestDivisor 16 = .ok (.lload 6, 2) := by decide +kernel
theorem dX6_greatestDivisor_18 : decode cX6_greatestDivisor 18 = .ok (.lconst 0, 1) := by decide +kernel
theorem dX6_greatestDivisor_19 : decode cX6_greatestDivisor 19 = .ok (.lcmp, 1) := by decide +kernel
theorem dX6_greatestDivisor_20 : decode cX6_greatestDivisor 20 = .ok (.ifCond .le 24, 3) := by decide +kernel
theorem dX6_greatestDivisor_23 : decode cX6_greatestDivisor 23 = .ok (.lload 4, 2) := by decide +kernel
theorem dX6_greatestDivisor_25 : decode cX6_greatestDivisor 25 = .ok (.lload 6, 2) := by decide +kernel
theorem dX6_greatestDivisor_27 : decode cX6_greatestDivisor 27 = .ok (.lrem, 1) := by decide +kernel
theorem dX6_greatestDivisor_28 : decode cX6_greatestDivisor 28 = .ok (.lstore 9, 2) := by decide +kernel
theorem dX6_greatestDivisor_30 : decode cX6_greatestDivisor 30 = .ok (.lload 6, 2) := by decide +kernel
theorem dX6_greatestDivisor_32 : decode cX6_greatestDivisor 32 = .ok (.lstore 4, 2) := by decide +kernel
theorem dX6_greatestDivisor_34 : decode cX6_greatestDivisor 34 = .ok (.lload 9, 2) := by decide +kernel
theorem dX6_greatestDivisor_36 : decode cX6_greatestDivisor 36 = .ok (.lstore 6, 2) := by decide +kernel
theorem dX6_greatestDivisor_38 : decode cX6_greatestDivisor 38 = .ok (.iinc 8 1, 3) := by decide +kernel
theorem dX6_greatestDivisor_41 : decode cX6_greatestDivisor 41 = .ok (.goto (-32), 3) := by decide +kernel
theorem dX6_greatestDivisor_44 : decode cX6_greatestDivisor 44 = .ok (.lload 4, 2) := by decide +kernel
theorem dX6_greatestDivisor_46 : decode cX6_greatestDivisor 46 = .ok (.lreturn, 1) := by decide +kernel
set_option maxRecDepth 20000 in
theorem ggX6_signMayBe_X6_outside : GoodIn wsX6_signMayBe wsX6_outside := goodIn_r _ [4] (by decide +kernel) (by decide +kernel)
set_option maxRecDepth 20000 in
theorem gX6_signMayBe_X6_outside : GoodIn wsX6_signMayBe (va_wsS RX6 85 yX6_outside wsX6_outside) := goodIn_app (goodIn_of _ (by decide +kernel)) ggX6_signMayBe_X6_outside
theorem dX6_signMayBe_0 : decode cX6_signMayBe 0 = .ok (.iload_n 0, 1) := by decide +kernel
theorem dX6_signMayBe_1 : decode cX6_signMayBe 1 = .ok (.tableswitch 94 0 2 #[27, 48, 75], 27) := by decide +kernel
theorem dX6_signMayBe_28 : decode cX6_signMayBe 28 = .ok (.iload_n 1, 1) := by decide +kernel
theorem dX6_signMayBe_29 : decode cX6_signMayBe 29 = .ok (.ifCond .ne 18, 3) := by decide +kernel
theorem dX6_signMayBe_32 : decode cX6_signMayBe 32 = .ok (.iload_n 2, 1) := by decide +kernel
theorem dX6_signMayBe_33 : decode cX6_signMayBe 33 = .ok (.iconst 0, 1) := by decide +kernel
theorem dX6_signMayBe_34 : decode cX6_signMayBe 34 = .ok (.sipush 200, 3) := by decide +kernel
theorem dX6_signMayBe_37 : decode cX6_signMayBe 37 = .ok (.invokestatic 85, 3) := by decide +kernel
theorem dX6_signMayBe_40 : decode cX6_signMayBe 40 = .ok (.ifCond .ne 7, 3) := by decide +kernel
theorem dX6_signMayBe_43 : decode cX6_signMayBe 43 = .ok (.iconst 1, 1) := by decide +kernel
theorem dX6_signMayBe_44 : decode cX6_signMayBe 44 = .ok (.goto 4, 3) := by decide +kernel
theorem dX6_signMayBe_47 : decode cX6_signMayBe 47 = .ok (.iconst 0, 1) := by decide +kernel
theorem dX6_signMayBe_48 : decode cX6_signMayBe 48 = .ok (.ireturn, 1) := by decide +kernel
theorem dX6_signMayBe_49 : decode cX6_signMayBe 49 = .ok (.iload_n 1, 1) := by decide +kernel
theorem dX6_signMayBe_50 : decode cX6_signMayBe 50 = .ok (.iconst 1, 1) := by decide +kernel
theorem dX6_signMayBe_51 : decode cX6_signMayBe 51 = .ok (.bipush 24, 2) := by decide +kernel
theorem dX6_signMayBe_53 : decode cX6_signMayBe 53 = .ok (.invokestatic 85, 3) := by decide +kernel
theorem dX6_signMayBe_56 : decode cX6_signMayBe 56 = .ok (.ifCond .ne 18, 3) := by decide +kernel
theorem dX6_signMayBe_59 : decode cX6_signMayBe 59 = .ok (.iload_n 2, 1) := by decide +kernel
theorem dX6_signMayBe_60 : decode cX6_signMayBe 60 = .ok (.iconst 0, 1) := by decide +kernel
theorem dX6_signMayBe_61 : decode cX6_signMayBe 61 = .ok (.sipush 999, 3) := by decide +kernel
theorem dX6_signMayBe_64 : decode cX6_signMayBe 64 = .ok (.invokestatic 85, 3) := by decide +kernel
theorem dX6_signMayBe_67 : decode cX6_signMayBe 67 = .ok (.ifCond .ne 7, 3) := by decide +kernel
theorem dX6_signMayBe_70 : decode cX6_signMayBe 70 = .ok (.iconst 1, 1) := by decide +kernel
theorem dX6_signMayBe_71 : decode cX6_signMayBe 71 = .ok (.goto 4, 3) := by decide +kernel
theorem dX6_signMayBe_74 : decode cX6_signMayBe 74 = .ok (.iconst 0, 1) := by decide +kernel
theorem dX6_signMayBe_75 : decode cX6_signMayBe 75 = .ok (.ireturn, 1) := by decide +kernel
theorem dX6_signMayBe_76 : decode cX6_signMayBe 76 = .ok (.iload_n 1, 1) := by decide +kernel
theorem dX6_signMayBe_77 : decode cX6_signMayBe 77 = .ok (.ifCond .ne 16, 3) := by decide +kernel
theorem dX6_signMayBe_80 : decode cX6_signMayBe 80 = .ok (.iload_n 2, 1) := by decide +kernel
theorem dX6_signMayBe_81 : decode cX6_signMayBe 81 = .ok (.iconst 0, 1) := by decide +kernel
theorem dX6_signMayBe_82 : decode cX6_signMayBe 82 = .ok (.iconst 1, 1) := by decide +kernel
theorem dX6_signMayBe_83 : decode cX6_signMayBe 83 = .ok (.invokestatic 85, 3) := by decide +kernel
theorem dX6_signMayBe_86 : decode cX6_signMayBe 86 = .ok (.ifCond .ne 7, 3) := by decide +kernel
theorem dX6_signMayBe_89 : decode cX6_signMayBe 89 = .ok (.iconst 1, 1) := by decide +kernel
theorem dX6_signMayBe_90 : decode cX6_signMayBe 90 = .ok (.goto 4, 3) := by decide +kernel
theorem dX6_signMayBe_93 : decode cX6_signMayBe 93 = .ok (.iconst 0, 1) := by decide +kernel
theorem dX6_signMayBe_94 : decode cX6_signMayBe 94 = .ok (.ireturn, 1) := by decide +kernel
theorem dX6_signMayBe_95 : decode cX6_signMayBe 95 = .ok (.iconst 0, 1) := by decide +kernel
theorem dX6_signMayBe_96 : decode cX6_signMayBe 96 = .ok (.ireturn, 1) := by decide +kernel
set_option maxRecDepth 20000 in
theorem ggX6_trouble_X4_beLike : GoodIn wsX6_trouble wsX4_beLike := goodIn_r _ [7, 8, 9, 10, 6, 11, 12, 13, 14, 15, 16, 17, 18, 19, 20, 21, 22, 23, 24, 25, 26, 54, 55, 56, 57, 58, 59, 60, 61, 62, 63, 64] (by decide +kernel) (by decide +kernel)
set_option maxRecDepth 20000 in
theorem gX6_trouble_X4_beLike : GoodIn wsX6_trouble (wsV RX6 101 RX4 yX4_beLike wsX4_beLike) := goodIn_app (goodIn_of _ (by decide +kernel)) ggX6_trouble_X4_beLike
set_option maxRecDepth 20000 in
theorem ggX6_trouble_X4_worsen : GoodIn wsX6_trouble wsX4_worsen := goodIn_r _ [30, 20, 31, 32, 33, 34, 17, 35, 36, 37, 19, 18, 14, 12, 54, 55, 56, 57, 58, 59, 60, 61, 62, 63, 64] (by decide +kernel) (by decide +kernel)
set_option maxRecDepth 20000 in
theorem gX6_trouble_X4_worsen : GoodIn wsX6_trouble (wsV RX6 255 RX4 yX4_worsen wsX4_worsen) := goodIn_app (goodIn_of _ (by decide +kernel)) ggX6_trouble_X4_worsen
theorem dX6_trouble_0 : decode cX6_trouble 0 = .ok (.aload_n 0, 1) := by decide +kernel
theorem dX6_trouble_1 : decode cX6_trouble 1 = .ok (.getfield 66, 3) := by decide +kernel
theorem dX6_trouble_4 : decode cX6_trouble 4 = .ok (.aload_n 0, 1) := by decide +kernel
theorem dX6_trouble_5 : decode cX6_trouble 5 = .ok (.getfield 19, 3) := by decide +kernel
theorem dX6_trouble_8 : decode cX6_trouble 8 = .ok (.invokevirtual 101, 3) := by decide +kernel
theorem dX6_trouble_11 : decode cX6_trouble 11 = .ok (.aload_n 0, 1) := by decide +kernel
theorem dX6_trouble_12 : decode cX6_trouble 12 = .ok (.getfield 66, 3) := by decide +kernel
theorem dX6_trouble_15 : decode cX6_trouble 15 = .ok (.iload_n 1, 1) := by decide +kernel
theorem dX6_trouble_16 : decode cX6_trouble 16 = .ok (.iload_n 2, 1) := by decide +kernel
theorem dX6_trouble_17 : decode cX6_trouble 17 = .ok (.invokevirtual 255, 3) := by decide +kernel
theorem dX6_trouble_20 : decode cX6_trouble 20 = .ok (.return_, 1) := by decide +kernel
set_option maxRecDepth 20000 in
theorem ggX6_answer_X0_startEmpty : GoodIn wsX6_answer wsX0_startEmpty := goodIn_r _ [7, 8, 9, 10, 11, 12, 13, 6, 14, 15, 16, 17, 18, 19, 20, 21, 22, 23, 24, 25, 26, 87, 88, 89, 90, 91, 92, 93, 94, 95, 96, 97, 98, 99, 100, 101, 102, 103, 104] (by decide +kernel) (by decide +kernel)
set_option maxRecDepth 20000 in
theorem gX6_answer_X0_startEmpty : GoodIn wsX6_answer (wsV RX6 81 RX0 yX0_startEmpty wsX0_startEmpty) := goodIn_app (goodIn_of _ (by decide +kernel)) ggX6_answer_X0_startEmpty
set_option maxRecDepth 20000 in
theorem ggX6_answer_X0_pullsToWater : GoodIn wsX6_answer wsX0_pullsToWater := goodIn_r _ [30, 15, 10, 8, 20, 21, 22, 23, 24, 25, 26, 31, 32, 33, 34, 35, 36, 37, 38, 39, 40, 41, 42, 43, 44, 45, 46, 47, 48, 49, 50, 51, 52, 87, 88, 89, 90, 91, 92, 93, 94, 95, 96, 97, 98, 99, 100, 101, 102, 103, 104] (by decide +kernel) (by decide +kernel)
set_option maxRecDepth 20000 in
theorem gX6_answer_X0_pullsToWater : GoodIn wsX6_answer (wsV RX6 149 RX0 yX0_pullsToWater wsX0_pullsToWater) := goodIn_app (goodIn_of _ (by decide +kernel)) ggX6_answer_X0_pullsToWater
set_option maxRecDepth 20000 in
theorem ggX6_answer_X0_startFull : GoodIn wsX6_answer wsX0_startFull := goodIn_r _ [14, 8, 10, 15, 16, 17, 18, 19, 87, 88, 89, 90, 91, 92, 93] (by decide +kernel) (by decide +kernel)
set_option maxRecDepth 20000 in
theorem gX6_answer_X0_startFull : GoodIn wsX6_answer (wsV RX6 259 RX0 yX0_startFull wsX0_startFull) := goodIn_app (goodIn_of _ (by decide +kernel)) ggX6_answer_X0_startFull
set_option maxRecDepth 20000 in
theorem ggX6_answer_X0_stand : GoodIn wsX6_answer wsX0_stand := goodIn_r _ [57, 18, 8, 58, 59, 60, 6, 61, 15, 62, 63, 64, 39, 65, 10, 66, 38, 40, 67, 20, 21, 22, 23, 24, 25, 26, 68, 42, 43, 44, 45, 46, 87, 88, 89, 90, 91, 92, 93, 94, 95, 96, 97, 98, 99, 100, 101, 102, 103, 104] (by decide +kernel) (by decide +kernel)
set_option maxRecDepth 20000 in
theorem gX6_answer_X0_stand : GoodIn wsX6_answer (wsV RX6 115 RX0 yX0_stand wsX0_stand) := goodIn_app (goodIn_of _ (by decide +kernel)) ggX6_answer_X0_stand
set_option maxRecDepth 20000 in
theorem ggX6_answer_X4_depth : GoodIn wsX6_answer wsX4_depth := goodIn_r _ [24, 25, 26, 94, 95, 96, 97, 98, 99, 100, 101, 102, 103, 104] (by decide +kernel) (by decide +kernel)
set_option maxRecDepth 20000 in
theorem gX6_answer_X4_depth : GoodIn wsX6_answer (wsV RX6 139 RX4 yX4_depth wsX4_depth) := goodIn_app (goodIn_of _ (by decide +kernel)) ggX6_answer_X4_depth
set_option maxRecDepth 20000 in
theorem ggX6_answer_X4_airAbove : GoodIn wsX6_answer wsX4_airAbove := goodIn_r _ [44, 45, 46, 94, 95, 96, 97, 98, 99, 100, 101, 102, 103, 104] (by decide +kernel) (by decide +kernel)
set_option maxRecDepth 20000 in
theorem gX6_answer_X4_airAbove : GoodIn wsX6_answer (wsV RX6 262 RX4 yX4_airAbove wsX4_airAbove) := goodIn_app (goodIn_of _ (by decide +kernel)) ggX6_answer_X4_airAbove
theorem dX6_answer_0 : decode cX6_answer 0 = .ok (.iload_n 1, 1) := by decide +kernel
theorem dX6_answer_1 : decode cX6_answer 1 = .ok (.lookupswitch 70 #[(0, 27), (1, 50)], 27) := by decide +kernel
theorem dX6_answer_28 : decode cX6_answer 28 = .ok (.aload_n 0, 1) := by decide +kernel
theorem dX6_answer_29 : decode cX6_answer 29 = .ok (.getfield 69, 3) := by decide +kernel
theorem dX6_answer_32 : decode cX6_answer 32 = .ok (.aload_n 0, 1) := by decide +kernel
theorem dX6_answer_33 : decode cX6_answer 33 = .ok (.getfield 66, 3) := by decide +kernel
theorem dX6_answer_36 : decode cX6_answer 36 = .ok (.invokevirtual 81, 3) := by decide +kernel
theorem dX6_answer_39 : decode cX6_answer 39 = .ok (.aload_n 0, 1) := by decide +kernel
theorem dX6_answer_40 : decode cX6_answer 40 = .ok (.getfield 69, 3) := by decide +kernel
theorem dX6_answer_43 : decode cX6_answer 43 = .ok (.aload_n 0, 1) := by decide +kernel
theorem dX6_answer_44 : decode cX6_answer 44 = .ok (.getfield 66, 3) := by decide +kernel
theorem dX6_answer_47 : decode cX6_answer 47 = .ok (.invokevirtual 149, 3) := by decide +kernel
theorem dX6_answer_50 : decode cX6_answer 50 = .ok (.ireturn, 1) := by decide +kernel
theorem dX6_answer_51 : decode cX6_answer 51 = .ok (.aload_n 0, 1) := by decide +kernel
theorem dX6_answer_52 : decode cX6_answer 52 = .ok (.getfield 69, 3) := by decide +kernel
theorem dX6_answer_55 : decode cX6_answer 55 = .ok (.invokevirtual 259, 3) := by decide +kernel
theorem dX6_answer_58 : decode cX6_answer 58 = .ok (.aload_n 0, 1) := by decide +kernel
theorem dX6_answer_59 : decode cX6_answer 59 = .ok (.getfield 69, 3) := by decide +kernel
theorem dX6_answer_62 : decode cX6_answer 62 = .ok (.aload_n 0, 1) := by decide +kernel
theorem dX6_answer_63 : decode cX6_answer 63 = .ok (.getfield 66, 3) := by decide +kernel
theorem dX6_answer_66 : decode cX6_answer 66 = .ok (.iload_n 2, 1) := by decide +kernel
theorem dX6_answer_67 : decode cX6_answer 67 = .ok (.invokevirtual 115, 3) := by decide +kernel
theorem dX6_answer_70 : decode cX6_answer 70 = .ok (.ireturn, 1) := by decide +kernel
theorem dX6_answer_71 : decode cX6_answer 71 = .ok (.aload_n 0, 1) := by decide +kernel
theorem dX6_answer_72 : decode cX6_answer 72 = .ok (.getfield 66, 3) := by decide +kernel
theorem dX6_answer_75 : decode cX6_answer 75 = .ok (.aload_n 0, 1) := by decide +kernel
theorem dX6_answer_76 : decode cX6_answer 76 = .ok (.getfield 66, 3) := by decide +kernel
theorem dX6_answer_79 : decode cX6_answer 79 = .ok (.iconst 0, 1) := by decide +kernel
theorem dX6_answer_80 : decode cX6_answer 80 = .ok (.invokevirtual 139, 3) := by decide +kernel
theorem dX6_answer_83 : decode cX6_answer 83 = .ok (.invokevirtual 262, 3) := by decide +kernel
theorem dX6_answer_86 : decode cX6_answer 86 = .ok (.ifCond .le 7, 3) := by decide +kernel
theorem dX6_answer_89 : decode cX6_answer 89 = .ok (.iconst 1, 1) := by decide +kernel
theorem dX6_answer_90 : decode cX6_answer 90 = .ok (.goto 4, 3) := by decide +kernel
theorem dX6_answer_93 : decode cX6_answer 93 = .ok (.iconst 0, 1) := by decide +kernel
theorem dX6_answer_94 : decode cX6_answer 94 = .ok (.ireturn, 1) := by decide +kernel
set_option maxRecDepth 20000 in
theorem ggX6_fits_X6_trouble : GoodIn wsX6_fits wsX6_trouble := goodIn_r _ [5, 6, 7, 8, 9, 10, 11, 12, 13, 14, 15, 16, 17, 18, 19, 20, 21, 22, 23, 24, 25, 26, 27, 28, 29, 30, 31, 32, 33, 34, 35, 36, 37, 38, 39, 40, 41, 42, 110, 111, 112, 113, 114, 115, 116, 117, 118, 119, 120, 121, 122, 123, 124, 125, 126, 127, 128, 129, 130, 131, 132, 133, 134, 135, 136] (by decide +kernel) (by decide +kernel)
set_option maxRecDepth 20000 in
theorem gX6_fits_X6_trouble : GoodIn wsX6_fits (wsV RX6 265 RX6 yX6_trouble wsX6_trouble) := goodIn_app (goodIn_of _ (by decide +kernel)) ggX6_fits_X6_trouble
set_option maxRecDepth 20000 in
theorem ggX6_fits_X6_allSignsFit : GoodIn wsX6_fits wsX6_allSignsFit := goodIn_r _ [46, 47, 48, 49, 50, 51, 52, 53, 54, 4, 55, 56, 6, 57, 58, 59, 60, 61, 62, 63, 64, 65, 66, 67, 68, 69, 70, 71, 72, 73, 74, 75, 76, 11, 77, 21, 19, 78, 79, 80, 81, 82, 83, 84, 85, 17, 18, 36, 37, 38, 39, 86, 87, 88, 89, 23, 24, 90, 91, 92, 93, 26, 27, 94, 95, 96, 97, 98, 99, 100, 101, 102, 103, 104, 41, 42, 105, 106, 107, 108, 109, 110, 111, 112, 113, 114, 115, 116, 117, 118, 119, 120, 121, 122, 123, 124, 125, 137, 138, 139, 140, 141, 142, 143, 144, 145, 146, 147, 126, 127, 128, 129, 130, 131, 132, 133, 134, 135, 136] (by decide +kernel) (by decide +kernel)
set_option maxRecDepth 20000 in
theorem gX6_fits_X6_allSignsFit : GoodIn wsX6_fits (wsV RX6 268 RX6 yX6_allSignsFit wsX6_allSignsFit) := goodIn_app (goodIn_of _ (by decide +kernel)) ggX6_fits_X6_allSignsFit
theorem dX6_fits_0 : decode cX6_fits 0 = .ok (.iconst 0, 1) := by decide +kernel
theorem dX6_fits_1 : decode cX6_fits 1 = .ok (.istore_n 2, 1) := by decide +kernel
theorem dX6_fits_2 : decode cX6_fits 2 = .ok (.iconst 1, 1) := by decide +kernel
theorem dX6_fits_3 : decode cX6_fits 3 = .ok (.istore_n 3, 1) := by decide +kernel
theorem dX6_fits_4 : decode cX6_fits 4 = .ok (.iload_n 3, 1) := by decide +kernel
theorem dX6_fits_5 : decode cX6_fits 5 = .ok (.bipush 9, 2) := by decide +kernel
theorem dX6_fits_7 : decode cX6_fits 7 = .ok (.if_icmp .gt 25, 3) := by decide +kernel
theorem dX6_fits_10 : decode cX6_fits 10 = .ok (.aload_n 0, 1) := by decide +kernel
theorem dX6_fits_11 : decode cX6_fits 11 = .ok (.iload_n 1, 1) := by decide +kernel
theorem dX6_fits_12 : decode cX6_fits 12 = .ok (.iload_n 3, 1) := by decide +kernel
theorem dX6_fits_13 : decode cX6_fits 13 = .ok (.invokevirtual 265, 3) := by decide +kernel
theorem dX6_fits_16 : decode cX6_fits 16 = .ok (.aload_n 0, 1) := by decide +kernel
theorem dX6_fits_17 : decode cX6_fits 17 = .ok (.invokevirtual 268, 3) := by decide +kernel
theorem dX6_fits_20 : decode cX6_fits 20 = .ok (.ifCond .eq 6, 3) := by decide +kernel
theorem dX6_fits_23 : decode cX6_fits 23 = .ok (.iinc 2 1, 3) := by decide +kernel
theorem dX6_fits_26 : decode cX6_fits 26 = .ok (.iinc 3 1, 3) := by decide +kernel
theorem dX6_fits_29 : decode cX6_fits 29 = .ok (.goto (-25), 3) := by decide +kernel
theorem dX6_fits_32 : decode cX6_fits 32 = .ok (.iload_n 2, 1) := by decide +kernel
theorem dX6_fits_33 : decode cX6_fits 33 = .ok (.ireturn, 1) := by decide +kernel
set_option maxRecDepth 20000 in
theorem ggX6_allSignsFit_X6_answer : GoodIn wsX6_allSignsFit wsX6_answer := goodIn_r _ [10, 11, 12, 13, 14, 15, 16, 17, 18, 19, 20, 21, 22, 23, 24, 25, 26, 27, 28, 29, 30, 31, 32, 33, 34, 35, 36, 37, 38, 39, 40, 41, 42, 43, 44, 45, 46, 47, 48, 49, 50, 51, 52, 53, 54, 55, 56, 57, 58, 59, 60, 61, 62, 63, 64, 65, 66, 67, 68, 69, 70, 71, 72, 73, 74, 75, 76, 77, 78, 79, 80, 81, 82, 83, 84, 85, 86, 87, 88, 89, 90, 91, 92, 93, 94, 95, 96, 101, 102, 103, 104, 105, 106, 107, 108, 109, 110, 111, 112, 113, 114, 115, 116, 117, 118] (by decide +kernel) (by decide +kernel)
set_option maxRecDepth 20000 in
theorem gX6_allSignsFit_X6_answer : GoodIn wsX6_allSignsFit (wsV RX6 178 RX6 yX6_answer wsX6_answer) := goodIn_app (goodIn_of _ (by decide +kernel)) ggX6_allSignsFit_X6_answer
theorem dX6_allSignsFit_0 : decode cX6_allSignsFit 0 = .ok (.iconst 0, 1) := by decide +kernel
theorem dX6_allSignsFit_1 : decode cX6_allSignsFit 1 = .ok (.istore_n 1, 1) := by decide +kernel
theorem dX6_allSignsFit_2 : decode cX6_allSignsFit 2 = .ok (.iload_n 1, 1) := by decide +kernel
theorem dX6_allSignsFit_3 : decode cX6_allSignsFit 3 = .ok (.aload_n 0, 1) := by decide +kernel
theorem dX6_allSignsFit_4 : decode cX6_allSignsFit 4 = .ok (.getfield 41, 3) := by decide +kernel
theorem dX6_allSignsFit_7 : decode cX6_allSignsFit 7 = .ok (.getfield 235, 3) := by decide +kernel
theorem dX6_allSignsFit_10 : decode cX6_allSignsFit 10 = .ok (.if_icmp .ge 45, 3) := by decide +kernel
theorem dX6_allSignsFit_13 : decode cX6_allSignsFit 13 = .ok (.aload_n 0, 1) := by decide +kernel
theorem dX6_allSignsFit_14 : decode cX6_allSignsFit 14 = .ok (.aload_n 0, 1) := by decide +kernel
theorem dX6_allSignsFit_15 : decode cX6_allSignsFit 15 = .ok (.getfield 41, 3) := by decide +kernel
theorem dX6_allSignsFit_18 : decode cX6_allSignsFit 18 = .ok (.getfield 272, 3) := by decide +kernel
theorem dX6_allSignsFit_21 : decode cX6_allSignsFit 21 = .ok (.iload_n 1, 1) := by decide +kernel
theorem dX6_allSignsFit_22 : decode cX6_allSignsFit 22 = .ok (.iaload, 1) := by decide +kernel
theorem dX6_allSignsFit_23 : decode cX6_allSignsFit 23 = .ok (.aload_n 0, 1) := by decide +kernel
theorem dX6_allSignsFit_24 : decode cX6_allSignsFit 24 = .ok (.getfield 41, 3) := by decide +kernel
theorem dX6_allSignsFit_27 : decode cX6_allSignsFit 27 = .ok (.getfield 275, 3) := by decide +kernel
theorem dX6_allSignsFit_30 : decode cX6_allSignsFit 30 = .ok (.iload_n 1, 1) := by decide +kernel
theorem dX6_allSignsFit_31 : decode cX6_allSignsFit 31 = .ok (.iaload, 1) := by decide +kernel
theorem dX6_allSignsFit_32 : decode cX6_allSignsFit 32 = .ok (.invokevirtual 178, 3) := by decide +kernel
theorem dX6_allSignsFit_35 : decode cX6_allSignsFit 35 = .ok (.aload_n 0, 1) := by decide +kernel
theorem dX6_allSignsFit_36 : decode cX6_allSignsFit 36 = .ok (.getfield 41, 3) := by decide +kernel
theorem dX6_allSignsFit_39 : decode cX6_allSignsFit 39 = .ok (.getfield 278, 3) := by decide +kernel
theorem dX6_allSignsFit_42 : decode cX6_allSignsFit 42 = .ok (.iload_n 1, 1) := by decide +kernel
theorem dX6_allSignsFit_43 : decode cX6_allSignsFit 43 = .ok (.iaload, 1) := by decide +kernel
theorem dX6_allSignsFit_44 : decode cX6_allSignsFit 44 = .ok (.if_icmp .eq 5, 3) := by decide +kernel
theorem dX6_allSignsFit_47 : decode cX6_allSignsFit 47 = .ok (.iconst 0, 1) := by decide +kernel
theorem dX6_allSignsFit_48 : decode cX6_allSignsFit 48 = .ok (.ireturn, 1) := by decide +kernel
theorem dX6_allSignsFit_49 : decode cX6_allSignsFit 49 = .ok (.iinc 1 1, 3) := by decide +kernel
theorem dX6_allSignsFit_52 : decode cX6_allSignsFit 52 = .ok (.goto (-50), 3) := by decide +kernel
theorem dX6_allSignsFit_55 : decode cX6_allSignsFit 55 = .ok (.iconst 1, 1) := by decide +kernel
theorem dX6_allSignsFit_56 : decode cX6_allSignsFit 56 = .ok (.ireturn, 1) := by decide +kernel
set_option maxRecDepth 20000 in
theorem ggX6_worthOf_X6_trouble : GoodIn wsX6_worthOf wsX6_trouble := goodIn_r _ [6, 7, 8, 9, 10, 11, 12, 13, 14, 15, 16, 17, 18, 19, 20, 21, 22, 23, 24, 25, 26, 27, 28, 29, 30, 31, 32, 33, 34, 35, 36, 37, 38, 39, 40, 41, 42, 43, 112, 113, 114, 115, 116, 117, 118, 119, 120, 121, 122, 123, 124, 125, 126, 127, 128, 129, 130, 131, 132, 133, 134, 135, 136, 137, 138] (by decide +kernel) (by decide +kernel)
set_option maxRecDepth 20000 in
theorem gX6_worthOf_X6_trouble : GoodIn wsX6_worthOf (wsV RX6 265 RX6 yX6_trouble wsX6_trouble) := goodIn_app (goodIn_of _ (by decide +kernel)) ggX6_worthOf_X6_trouble
set_option maxRecDepth 20000 in
theorem ggX6_worthOf_X6_answer : GoodIn wsX6_worthOf wsX6_answer := goodIn_r _ [47, 48, 7, 49, 50, 51, 52, 53, 54, 55, 56, 57, 58, 59, 60, 61, 62, 63, 64, 65, 66, 67, 68, 12, 69, 22, 20, 70, 71, 72, 73, 74, 75, 76, 77, 18, 19, 37, 38, 39, 40, 78, 79, 80, 81, 24, 25, 82, 83, 84, 85, 27, 28, 86, 87, 88, 89, 90, 91, 92, 93, 94, 95, 96, 42, 43, 97, 98, 99, 100, 101, 112, 113, 114, 115, 116, 117, 118, 119, 120, 121, 122, 123, 124, 125, 126, 127, 139, 140, 141, 142, 143, 144, 145, 128, 129, 130, 131, 132, 133, 134, 135, 136, 137, 138] (by decide +kernel) (by decide +kernel)
set_option maxRecDepth 20000 in
theorem gX6_worthOf_X6_answer : GoodIn wsX6_worthOf (wsV RX6 178 RX6 yX6_answer wsX6_answer) := goodIn_app (goodIn_of _ (by decide +kernel)) ggX6_worthOf_X6_answer
set_option maxRecDepth 20000 in
theorem ggX6_worthOf_X6_isFirstOfItsKind : GoodIn wsX6_worthOf wsX6_isFirstOfItsKind := goodIn_r _ [105, 1, 112, 113, 114, 115, 116, 117, 118, 119, 120, 121, 122, 123, 124, 125, 126, 127] (by decide +kernel) (by decide +kernel)
set_option maxRecDepth 20000 in
theorem gX6_worthOf_X6_isFirstOfItsKind : GoodIn wsX6_worthOf (wsV RX6 281 RX6 yX6_isFirstOfItsKind wsX6_isFirstOfItsKind) := goodIn_app (goodIn_of _ (by decide +kernel)) ggX6_worthOf_X6_isFirstOfItsKind
set_option maxRecDepth 20000 in
theorem ggX6_worthOf_X6_greatestWeight : GoodIn wsX6_worthOf wsX6_greatestWeight := goodIn_r _ [109, 1, 110, 111, 38, 39, 40, 112, 113, 114, 115, 116, 117, 118, 119, 120, 121, 122, 123, 124, 125, 126, 127] (by decide +kernel) (by decide +kernel)
set_option maxRecDepth 20000 in
theorem gX6_worthOf_X6_greatestWeight : GoodIn wsX6_worthOf (wsV RX6 284 RX6 yX6_greatestWeight wsX6_greatestWeight) := goodIn_app (goodIn_of _ (by decide +kernel)) ggX6_worthOf_X6_greatestWeight
theorem dX6_worthOf_0 : decode cX6_worthOf 0 = .ok (.iconst 0, 1) := by decide +kernel
theorem dX6_worthOf_1 : decode cX6_worthOf 1 = .ok (.istore_n 2, 1) := by decide +kernel
theorem dX6_worthOf_2 : decode cX6_worthOf 2 = .ok (.iload_n 2, 1) := by decide +kernel
theorem dX6_worthOf_3 : decode cX6_worthOf 3 = .ok (.aload_n 0, 1) := by decide +kernel
theorem dX6_worthOf_4 : decode cX6_worthOf 4 = .ok (.getfield 72, 3) := by decide +kernel
theorem dX6_worthOf_7 : decode cX6_worthOf 7 = .ok (.arraylength, 1) := by decide +kernel
theorem dX6_worthOf_8 : decode cX6_worthOf 8 = .ok (.if_icmp .ge 36, 3) := by decide +kernel
theorem dX6_worthOf_11 : decode cX6_worthOf 11 = .ok (.aload_n 0, 1) := by decide +kernel
theorem dX6_worthOf_12 : decode cX6_worthOf 12 = .ok (.iload_n 2, 1) := by decide +kernel
theorem dX6_worthOf_13 : decode cX6_worthOf 13 = .ok (.bipush 9, 2) := by decide +kernel
theorem dX6_worthOf_15 : decode cX6_worthOf 15 = .ok (.idiv, 1) := by decide +kernel
theorem dX6_worthOf_16 : decode cX6_worthOf 16 = .ok (.iload_n 2, 1) := by decide +kernel
theorem dX6_worthOf_17 : decode cX6_worthOf 17 = .ok (.bipush 9, 2) := by decide +kernel
theorem dX6_worthOf_19 : decode cX6_worthOf 19 = .ok (.irem, 1) := by decide +kernel
theorem dX6_worthOf_20 : decode cX6_worthOf 20 = .ok (.iconst 1, 1) := by decide +kernel
theorem dX6_worthOf_21 : decode cX6_worthOf 21 = .ok (.iadd, 1) := by decide +kernel
theorem dX6_worthOf_22 : decode cX6_worthOf 22 = .ok (.invokevirtual 265, 3) := by decide +kernel
theorem dX6_worthOf_25 : decode cX6_worthOf 25 = .ok (.aload_n 0, 1) := by decide +kernel
theorem dX6_worthOf_26 : decode cX6_worthOf 26 = .ok (.getfield 72, 3) := by decide +kernel
theorem dX6_worthOf_29 : decode cX6_worthOf 29 = .ok (.iload_n 2, 1) := by decide +kernel
theorem dX6_worthOf_30 : decode cX6_worthOf 30 = .ok (.aload_n 0, 1) := by decide +kernel
theorem dX6_worthOf_31 : decode cX6_worthOf 31 = .ok (.iload_n 1, 1) := by decide +kernel
theorem dX6_worthOf_32 : decode cX6_worthOf 32 = .ok (.bipush 12, 2) := by decide +kernel
theorem dX6_worthOf_34 : decode cX6_worthOf 34 = .ok (.invokevirtual 178, 3) := by decide +kernel
theorem dX6_worthOf_37 : decode cX6_worthOf 37 = .ok (.iastore, 1) := by decide +kernel
theorem dX6_worthOf_38 : decode cX6_worthOf 38 = .ok (.iinc 2 1, 3) := by decide +kernel
theorem dX6_worthOf_41 : decode cX6_worthOf 41 = .ok (.goto (-39), 3) := by decide +kernel
theorem dX6_worthOf_44 : decode cX6_worthOf 44 = .ok (.iconst 0, 1) := by decide +kernel
theorem dX6_worthOf_45 : decode cX6_worthOf 45 = .ok (.istore_n 2, 1) := by decide +kernel
theorem dX6_worthOf_46 : decode cX6_worthOf 46 = .ok (.iconst 0, 1) := by decide +kernel
theorem dX6_worthOf_47 : decode cX6_worthOf 47 = .ok (.istore_n 3, 1) := by decide +kernel
theorem dX6_worthOf_48 : decode cX6_worthOf 48 = .ok (.iload_n 3, 1) := by decide +kernel
theorem dX6_worthOf_49 : decode cX6_worthOf 49 = .ok (.aload_n 0, 1) := by decide +kernel
theorem dX6_worthOf_50 : decode cX6_worthOf 50 = .ok (.getfield 72, 3) := by decide +kernel
theorem dX6_worthOf_53 : decode cX6_worthOf 53 = .ok (.arraylength, 1) := by decide +kernel
theorem dX6_worthOf_54 : decode cX6_worthOf 54 = .ok (.if_icmp .ge 30, 3) := by decide +kernel
theorem dX6_worthOf_57 : decode cX6_worthOf 57 = .ok (.aload_n 0, 1) := by decide +kernel
theorem dX6_worthOf_58 : decode cX6_worthOf 58 = .ok (.iload_n 3, 1) := by decide +kernel
theorem dX6_worthOf_59 : decode cX6_worthOf 59 = .ok (.invokevirtual 281, 3) := by decide +kernel
theorem dX6_worthOf_62 : decode cX6_worthOf 62 = .ok (.ifCond .eq 16, 3) := by decide +kernel
theorem dX6_worthOf_65 : decode cX6_worthOf 65 = .ok (.iload_n 2, 1) := by decide +kernel
theorem dX6_worthOf_66 : decode cX6_worthOf 66 = .ok (.aload_n 0, 1) := by decide +kernel
theorem dX6_worthOf_67 : decode cX6_worthOf 67 = .ok (.aload_n 0, 1) := by decide +kernel
theorem dX6_worthOf_68 : decode cX6_worthOf 68 = .ok (.getfield 72, 3) := by decide +kernel
theorem dX6_worthOf_71 : decode cX6_worthOf 71 = .ok (.iload_n 3, 1) := by decide +kernel
theorem dX6_worthOf_72 : decode cX6_worthOf 72 = .ok (.iaload, 1) := by decide +kernel
theorem dX6_worthOf_73 : decode cX6_worthOf 73 = .ok (.invokevirtual 284, 3) := by decide +kernel
theorem dX6_worthOf_76 : decode cX6_worthOf 76 = .ok (.iadd, 1) := by decide +kernel
theorem dX6_worthOf_77 : decode cX6_worthOf 77 = .ok (.istore_n 2, 1) := by decide +kernel
theorem dX6_worthOf_78 : decode cX6_worthOf 78 = .ok (.iinc 3 1, 3) := by decide +kernel
theorem dX6_worthOf_81 : decode cX6_worthOf 81 = .ok (.goto (-33), 3) := by decide +kernel
theorem dX6_worthOf_84 : decode cX6_worthOf 84 = .ok (.iload_n 2, 1) := by decide +kernel
theorem dX6_worthOf_85 : decode cX6_worthOf 85 = .ok (.ireturn, 1) := by decide +kernel
theorem dX6_isFirstOfItsKind_0 : decode cX6_isFirstOfItsKind 0 = .ok (.iconst 0, 1) := by decide +kernel
theorem dX6_isFirstOfItsKind_1 : decode cX6_isFirstOfItsKind 1 = .ok (.istore_n 2, 1) := by decide +kernel
theorem dX6_isFirstOfItsKind_2 : decode cX6_isFirstOfItsKind 2 = .ok (.iload_n 2, 1) := by decide +kernel
theorem dX6_isFirstOfItsKind_3 : decode cX6_isFirstOfItsKind 3 = .ok (.iload_n 1, 1) := by decide +kernel
theorem dX6_isFirstOfItsKind_4 : decode cX6_isFirstOfItsKind 4 = .ok (.if_icmp .ge 26, 3) := by decide +kernel
theorem dX6_isFirstOfItsKind_7 : decode cX6_isFirstOfItsKind 7 = .ok (.aload_n 0, 1) := by decide +kernel
theorem dX6_isFirstOfItsKind_8 : decode cX6_isFirstOfItsKind 8 = .ok (.getfield 72, 3) := by decide +kernel
theorem dX6_isFirstOfItsKind_11 : decode cX6_isFirstOfItsKind 11 = .ok (.iload_n 2, 1) := by decide +kernel
theorem dX6_isFirstOfItsKind_12 : decode cX6_isFirstOfItsKind 12 = .ok (.iaload, 1) := by decide +kernel
theorem dX6_isFirstOfItsKind_13 : decode cX6_isFirstOfItsKind 13 = .ok (.aload_n 0, 1) := by decide +kernel
theorem dX6_isFirstOfItsKind_14 : decode cX6_isFirstOfItsKind 14 = .ok (.getfield 72, 3) := by decide +kernel
theorem dX6_isFirstOfItsKind_17 : decode cX6_isFirstOfItsKind 17 = .ok (.iload_n 1, 1) := by decide +kernel
theorem dX6_isFirstOfItsKind_18 : decode cX6_isFirstOfItsKind 18 = .ok (.iaload, 1) := by decide +kernel
theorem dX6_isFirstOfItsKind_19 : decode cX6_isFirstOfItsKind 19 = .ok (.if_icmp .ne 5, 3) := by decide +kernel
theorem dX6_isFirstOfItsKind_22 : decode cX6_isFirstOfItsKind 22 = .ok (.iconst 0, 1) := by decide +kernel
theorem dX6_isFirstOfItsKind_23 : decode cX6_isFirstOfItsKind 23 = .ok (.ireturn, 1) := by decide +kernel
theorem dX6_isFirstOfItsKind_24 : decode cX6_isFirstOfItsKind 24 = .ok (.iinc 2 1, 3) := by decide +kernel
theorem dX6_isFirstOfItsKind_27 : decode cX6_isFirstOfItsKind 27 = .ok (.goto (-25), 3) := by decide +kernel
theorem dX6_isFirstOfItsKind_30 : decode cX6_isFirstOfItsKind 30 = .ok (.iconst 1, 1) := by decide +kernel
theorem dX6_isFirstOfItsKind_31 : decode cX6_isFirstOfItsKind 31 = .ok (.ireturn, 1) := by decide +kernel
theorem dX6_greatestWeight_0 : decode cX6_greatestWeight 0 = .ok (.iconst 0, 1) := by decide +kernel
theorem dX6_greatestWeight_1 : decode cX6_greatestWeight 1 = .ok (.istore_n 2, 1) := by decide +kernel
theorem dX6_greatestWeight_2 : decode cX6_greatestWeight 2 = .ok (.iconst 0, 1) := by decide +kernel
theorem dX6_greatestWeight_3 : decode cX6_greatestWeight 3 = .ok (.istore_n 3, 1) := by decide +kernel
theorem dX6_greatestWeight_4 : decode cX6_greatestWeight 4 = .ok (.iload_n 3, 1) := by decide +kernel
theorem dX6_greatestWeight_5 : decode cX6_greatestWeight 5 = .ok (.bipush 6, 2) := by decide +kernel
theorem dX6_greatestWeight_7 : decode cX6_greatestWeight 7 = .ok (.if_icmp .ge 61, 3) := by decide +kernel
theorem dX6_greatestWeight_10 : decode cX6_greatestWeight 10 = .ok (.iconst 0, 1) := by decide +kernel
theorem dX6_greatestWeight_11 : decode cX6_greatestWeight 11 = .ok (.istore 4, 2) := by decide +kernel
theorem dX6_greatestWeight_13 : decode cX6_greatestWeight 13 = .ok (.iconst 0, 1) := by decide +kernel
theorem dX6_greatestWeight_14 : decode cX6_greatestWeight 14 = .ok (.istore 5, 2) := by decide +kernel
theorem dX6_greatestWeight_16 : decode cX6_greatestWeight 16 = .ok (.iload 5, 2) := by decide +kernel
theorem dX6_greatestWeight_18 : decode cX6_greatestWeight 18 = .ok (.bipush 9, 2) := by decide +kernel
theorem dX6_greatestWeight_20 : decode cX6_greatestWeight 20 = .ok (.if_icmp .ge 28, 3) := by decide +kernel
theorem dX6_greatestWeight_23 : decode cX6_greatestWeight 23 = .ok (.aload_n 0, 1) := by decide +kernel
theorem dX6_greatestWeight_24 : decode cX6_greatestWeight 24 = .ok (.getfield 72, 3) := by decide +kernel
theorem dX6_greatestWeight_27 : decode cX6_greatestWeight 27 = .ok (.iload_n 3, 1) := by decide +kernel
theorem dX6_greatestWeight_28 : decode cX6_greatestWeight 28 = .ok (.bipush 9, 2) := by decide +kernel
theorem dX6_greatestWeight_30 : decode cX6_greatestWeight 30 = .ok (.imul, 1) := by decide +kernel
theorem dX6_greatestWeight_31 : decode cX6_greatestWeight 31 = .ok (.iload 5, 2) := by decide +kernel
theorem dX6_greatestWeight_33 : decode cX6_greatestWeight 33 = .ok (.iadd, 1) := by decide +kernel
theorem dX6_greatestWeight_34 : decode cX6_greatestWeight 34 = .ok (.iaload, 1) := by decide +kernel
theorem dX6_greatestWeight_35 : decode cX6_greatestWeight 35 = .ok (.iload_n 1, 1) := by decide +kernel
theorem dX6_greatestWeight_36 : decode cX6_greatestWeight 36 = .ok (.if_icmp .ne 6, 3) := by decide +kernel
theorem dX6_greatestWeight_39 : decode cX6_greatestWeight 39 = .ok (.iinc 4 1, 3) := by decide +kernel
theorem dX6_greatestWeight_42 : decode cX6_greatestWeight 42 = .ok (.iinc 5 1, 3) := by decide +kernel
theorem dX6_greatestWeight_45 : decode cX6_greatestWeight 45 = .ok (.goto (-29), 3) := by decide +kernel
theorem dX6_greatestWeight_48 : decode cX6_greatestWeight 48 = .ok (.iload_n 2, 1) := by decide +kernel
theorem dX6_greatestWeight_49 : decode cX6_greatestWeight 49 = .ok (.aload_n 0, 1) := by decide +kernel
theorem dX6_greatestWeight_50 : decode cX6_greatestWeight 50 = .ok (.getfield 45, 3) := by decide +kernel
theorem dX6_greatestWeight_53 : decode cX6_greatestWeight 53 = .ok (.iload_n 3, 1) := by decide +kernel
theorem dX6_greatestWeight_54 : decode cX6_greatestWeight 54 = .ok (.iaload, 1) := by decide +kernel
theorem dX6_greatestWeight_55 : decode cX6_greatestWeight 55 = .ok (.iload 4, 2) := by decide +kernel
theorem dX6_greatestWeight_57 : decode cX6_greatestWeight 57 = .ok (.imul, 1) := by decide +kernel
theorem dX6_greatestWeight_58 : decode cX6_greatestWeight 58 = .ok (.invokestatic 287, 3) := by decide +kernel
theorem dX6_greatestWeight_61 : decode cX6_greatestWeight 61 = .ok (.istore_n 2, 1) := by decide +kernel
theorem dX6_greatestWeight_62 : decode cX6_greatestWeight 62 = .ok (.iinc 3 1, 3) := by decide +kernel
theorem dX6_greatestWeight_65 : decode cX6_greatestWeight 65 = .ok (.goto (-61), 3) := by decide +kernel
theorem dX6_greatestWeight_68 : decode cX6_greatestWeight 68 = .ok (.iload_n 2, 1) := by decide +kernel
theorem dX6_greatestWeight_69 : decode cX6_greatestWeight 69 = .ok (.ireturn, 1) := by decide +kernel
set_option maxRecDepth 20000 in
theorem ggX6_dayCups_X0_startFull : GoodIn wsX6_dayCups wsX0_startFull := goodIn_r _ [8, 9, 10, 11, 12, 13, 14, 15, 84, 85, 86, 87, 88, 89, 90] (by decide +kernel) (by decide +kernel)
set_option maxRecDepth 20000 in
theorem gX6_dayCups_X0_startFull : GoodIn wsX6_dayCups (wsV RX6 259 RX0 yX0_startFull wsX0_startFull) := goodIn_app (goodIn_of _ (by decide +kernel)) ggX6_dayCups_X0_startFull
set_option maxRecDepth 20000 in
theorem ggX6_dayCups_X0_pull : GoodIn wsX6_dayCups wsX0_pull := goodIn_r _ [19, 9, 13, 20, 21, 22, 7, 23, 11, 10, 15, 24, 25, 26, 27, 28, 29, 30, 12, 31, 32, 33, 34, 35, 36, 37, 38, 39, 40, 41, 42, 43, 44, 45, 46, 47, 48, 49, 50, 51, 52, 53, 54, 55, 56, 84, 85, 86, 87, 88, 89, 90, 91, 92, 93, 94, 95, 96, 97, 98, 99, 100, 101] (by decide +kernel) (by decide +kernel)
set_option maxRecDepth 20000 in
theorem gX6_dayCups_X0_pull : GoodIn wsX6_dayCups (wsV RX6 108 RX0 yX0_pull wsX0_pull) := goodIn_app (goodIn_of _ (by decide +kernel)) ggX6_dayCups_X0_pull
set_option maxRecDepth 20000 in
theorem ggX6_dayCups_X0_stand : GoodIn wsX6_dayCups wsX0_stand := goodIn_r _ [60, 14, 9, 61, 62, 63, 7, 64, 11, 65, 28, 29, 26, 30, 10, 24, 25, 27, 66, 31, 32, 33, 34, 35, 36, 37, 67, 46, 47, 48, 49, 50, 84, 85, 86, 87, 88, 89, 90, 91, 92, 93, 94, 95, 96, 97, 98, 99, 100, 101] (by decide +kernel) (by decide +kernel)
set_option maxRecDepth 20000 in
theorem gX6_dayCups_X0_stand : GoodIn wsX6_dayCups (wsV RX6 115 RX0 yX0_stand wsX0_stand) := goodIn_app (goodIn_of _ (by decide +kernel)) ggX6_dayCups_X0_stand
theorem dX6_dayCups_0 : decode cX6_dayCups 0 = .ok (.aload_n 0, 1) := by decide +kernel
theorem dX6_dayCups_1 : decode cX6_dayCups 1 = .ok (.getfield 69, 3) := by decide +kernel
theorem dX6_dayCups_4 : decode cX6_dayCups 4 = .ok (.invokevirtual 259, 3) := by decide +kernel
theorem dX6_dayCups_7 : decode cX6_dayCups 7 = .ok (.iconst 0, 1) := by decide +kernel
theorem dX6_dayCups_8 : decode cX6_dayCups 8 = .ok (.istore_n 3, 1) := by decide +kernel
theorem dX6_dayCups_9 : decode cX6_dayCups 9 = .ok (.iload_n 3, 1) := by decide +kernel
theorem dX6_dayCups_10 : decode cX6_dayCups 10 = .ok (.iload_n 2, 1) := by decide +kernel
theorem dX6_dayCups_11 : decode cX6_dayCups 11 = .ok (.if_icmp .ge 35, 3) := by decide +kernel
theorem dX6_dayCups_14 : decode cX6_dayCups 14 = .ok (.aload_n 0, 1) := by decide +kernel
theorem dX6_dayCups_15 : decode cX6_dayCups 15 = .ok (.getfield 69, 3) := by decide +kernel
theorem dX6_dayCups_18 : decode cX6_dayCups 18 = .ok (.aload_n 0, 1) := by decide +kernel
theorem dX6_dayCups_19 : decode cX6_dayCups 19 = .ok (.getfield 19, 3) := by decide +kernel
theorem dX6_dayCups_22 : decode cX6_dayCups 22 = .ok (.iload_n 1, 1) := by decide +kernel
theorem dX6_dayCups_23 : decode cX6_dayCups 23 = .ok (.invokevirtual 108, 3) := by decide +kernel
theorem dX6_dayCups_26 : decode cX6_dayCups 26 = .ok (.pop, 1) := by decide +kernel
theorem dX6_dayCups_27 : decode cX6_dayCups 27 = .ok (.aload_n 0, 1) := by decide +kernel
theorem dX6_dayCups_28 : decode cX6_dayCups 28 = .ok (.getfield 69, 3) := by decide +kernel
theorem dX6_dayCups_31 : decode cX6_dayCups 31 = .ok (.aload_n 0, 1) := by decide +kernel
theorem dX6_dayCups_32 : decode cX6_dayCups 32 = .ok (.getfield 19, 3) := by decide +kernel
theorem dX6_dayCups_35 : decode cX6_dayCups 35 = .ok (.iconst 1, 1) := by decide +kernel
theorem dX6_dayCups_36 : decode cX6_dayCups 36 = .ok (.invokevirtual 115, 3) := by decide +kernel
theorem dX6_dayCups_39 : decode cX6_dayCups 39 = .ok (.pop, 1) := by decide +kernel
theorem dX6_dayCups_40 : decode cX6_dayCups 40 = .ok (.iinc 3 1, 3) := by decide +kernel
theorem dX6_dayCups_43 : decode cX6_dayCups 43 = .ok (.goto (-34), 3) := by decide +kernel
theorem dX6_dayCups_46 : decode cX6_dayCups 46 = .ok (.aload_n 0, 1) := by decide +kernel
theorem dX6_dayCups_47 : decode cX6_dayCups 47 = .ok (.getfield 69, 3) := by decide +kernel
theorem dX6_dayCups_50 : decode cX6_dayCups 50 = .ok (.getfield 127, 3) := by decide +kernel
theorem dX6_dayCups_53 : decode cX6_dayCups 53 = .ok (.ireturn, 1) := by decide +kernel
set_option maxRecDepth 20000 in
theorem ggX6_firstOfTwo_X0_startFull : GoodIn wsX6_firstOfTwo wsX0_startFull := goodIn_r _ [7, 8, 9, 10, 11, 12, 13, 14, 83, 84, 85, 86, 87, 88, 89] (by decide +kernel) (by decide +kernel)
set_option maxRecDepth 20000 in
theorem gX6_firstOfTwo_X0_startFull : GoodIn wsX6_firstOfTwo (wsV RX6 259 RX0 yX0_startFull wsX0_startFull) := goodIn_app (goodIn_of _ (by decide +kernel)) ggX6_firstOfTwo_X0_startFull
set_option maxRecDepth 20000 in
theorem ggX6_firstOfTwo_X0_pull : GoodIn wsX6_firstOfTwo wsX0_pull := goodIn_r _ [18, 8, 12, 19, 20, 21, 6, 22, 10, 9, 14, 23, 24, 25, 26, 27, 28, 29, 11, 30, 31, 32, 33, 34, 35, 36, 37, 38, 39, 40, 41, 42, 43, 44, 45, 46, 47, 48, 49, 50, 51, 52, 53, 54, 55, 83, 84, 85, 86, 87, 88, 89, 90, 91, 92, 93, 94, 95, 96, 97, 98, 99, 100] (by decide +kernel) (by decide +kernel)
set_option maxRecDepth 20000 in
theorem gX6_firstOfTwo_X0_pull : GoodIn wsX6_firstOfTwo (wsV RX6 108 RX0 yX0_pull wsX0_pull) := goodIn_app (goodIn_of _ (by decide +kernel)) ggX6_firstOfTwo_X0_pull
set_option maxRecDepth 20000 in
theorem ggX6_firstOfTwo_X0_stand : GoodIn wsX6_firstOfTwo wsX0_stand := goodIn_r _ [59, 13, 8, 60, 61, 62, 6, 63, 10, 64, 27, 28, 25, 29, 9, 23, 24, 26, 65, 30, 31, 32, 33, 34, 35, 36, 66, 45, 46, 47, 48, 49, 83, 84, 85, 86, 87, 88, 89, 90, 91, 92, 93, 94, 95, 96, 97, 98, 99, 100] (by decide +kernel) (by decide +kernel)
set_option maxRecDepth 20000 in
theorem gX6_firstOfTwo_X0_stand : GoodIn wsX6_firstOfTwo (wsV RX6 115 RX0 yX0_stand wsX0_stand) := goodIn_app (goodIn_of _ (by decide +kernel)) ggX6_firstOfTwo_X0_stand
theorem dX6_firstOfTwo_0 : decode cX6_firstOfTwo 0 = .ok (.iconst 0, 1) := by decide +kernel
theorem dX6_firstOfTwo_1 : decode cX6_firstOfTwo 1 = .ok (.istore 4, 2) := by decide +kernel
theorem dX6_firstOfTwo_3 : decode cX6_firstOfTwo 3 = .ok (.aload_n 0, 1) := by decide +kernel
theorem dX6_firstOfTwo_4 : decode cX6_firstOfTwo 4 = .ok (.getfield 69, 3) := by decide +kernel
theorem dX6_firstOfTwo_7 : decode cX6_firstOfTwo 7 = .ok (.invokevirtual 259, 3) := by decide +kernel
theorem dX6_firstOfTwo_10 : decode cX6_firstOfTwo 10 = .ok (.iconst 0, 1) := by decide +kernel
theorem dX6_firstOfTwo_11 : decode cX6_firstOfTwo 11 = .ok (.istore 5, 2) := by decide +kernel
theorem dX6_firstOfTwo_13 : decode cX6_firstOfTwo 13 = .ok (.iload 5, 2) := by decide +kernel
theorem dX6_firstOfTwo_15 : decode cX6_firstOfTwo 15 = .ok (.iload_n 3, 1) := by decide +kernel
theorem dX6_firstOfTwo_16 : decode cX6_firstOfTwo 16 = .ok (.if_icmp .ge 58, 3) := by decide +kernel
theorem dX6_firstOfTwo_19 : decode cX6_firstOfTwo 19 = .ok (.iload 4, 2) := by decide +kernel
theorem dX6_firstOfTwo_21 : decode cX6_firstOfTwo 21 = .ok (.aload_n 0, 1) := by decide +kernel
theorem dX6_firstOfTwo_22 : decode cX6_firstOfTwo 22 = .ok (.getfield 69, 3) := by decide +kernel
theorem dX6_firstOfTwo_25 : decode cX6_firstOfTwo 25 = .ok (.aload_n 0, 1) := by decide +kernel
theorem dX6_firstOfTwo_26 : decode cX6_firstOfTwo 26 = .ok (.getfield 19, 3) := by decide +kernel
theorem dX6_firstOfTwo_29 : decode cX6_firstOfTwo 29 = .ok (.bipush 10, 2) := by decide +kernel
theorem dX6_firstOfTwo_31 : decode cX6_firstOfTwo 31 = .ok (.iload_n 1, 1) := by decide +kernel
theorem dX6_firstOfTwo_32 : decode cX6_firstOfTwo 32 = .ok (.imul, 1) := by decide +kernel
theorem dX6_firstOfTwo_33 : decode cX6_firstOfTwo 33 = .ok (.invokevirtual 108, 3) := by decide +kernel
theorem dX6_firstOfTwo_36 : decode cX6_firstOfTwo 36 = .ok (.iadd, 1) := by decide +kernel
theorem dX6_firstOfTwo_37 : decode cX6_firstOfTwo 37 = .ok (.istore 4, 2) := by decide +kernel
theorem dX6_firstOfTwo_39 : decode cX6_firstOfTwo 39 = .ok (.aload_n 0, 1) := by decide +kernel
theorem dX6_firstOfTwo_40 : decode cX6_firstOfTwo 40 = .ok (.getfield 69, 3) := by decide +kernel
theorem dX6_firstOfTwo_43 : decode cX6_firstOfTwo 43 = .ok (.aload_n 0, 1) := by decide +kernel
theorem dX6_firstOfTwo_44 : decode cX6_firstOfTwo 44 = .ok (.getfield 19, 3) := by decide +kernel
theorem dX6_firstOfTwo_47 : decode cX6_firstOfTwo 47 = .ok (.bipush 10, 2) := by decide +kernel
theorem dX6_firstOfTwo_49 : decode cX6_firstOfTwo 49 = .ok (.iload_n 2, 1) := by decide +kernel
theorem dX6_firstOfTwo_50 : decode cX6_firstOfTwo 50 = .ok (.imul, 1) := by decide +kernel
theorem dX6_firstOfTwo_51 : decode cX6_firstOfTwo 51 = .ok (.invokevirtual 108, 3) := by decide +kernel
theorem dX6_firstOfTwo_54 : decode cX6_firstOfTwo 54 = .ok (.pop, 1) := by decide +kernel
theorem dX6_firstOfTwo_55 : decode cX6_firstOfTwo 55 = .ok (.aload_n 0, 1) := by decide +kernel
theorem dX6_firstOfTwo_56 : decode cX6_firstOfTwo 56 = .ok (.getfield 69, 3) := by decide +kernel
theorem dX6_firstOfTwo_59 : decode cX6_firstOfTwo 59 = .ok (.aload_n 0, 1) := by decide +kernel
theorem dX6_firstOfTwo_60 : decode cX6_firstOfTwo 60 = .ok (.getfield 19, 3) := by decide +kernel
theorem dX6_firstOfTwo_63 : decode cX6_firstOfTwo 63 = .ok (.iconst 1, 1) := by decide +kernel
theorem dX6_firstOfTwo_64 : decode cX6_firstOfTwo 64 = .ok (.invokevirtual 115, 3) := by decide +kernel
theorem dX6_firstOfTwo_67 : decode cX6_firstOfTwo 67 = .ok (.pop, 1) := by decide +kernel
theorem dX6_firstOfTwo_68 : decode cX6_firstOfTwo 68 = .ok (.iinc 5 1, 3) := by decide +kernel
theorem dX6_firstOfTwo_71 : decode cX6_firstOfTwo 71 = .ok (.goto (-58), 3) := by decide +kernel
theorem dX6_firstOfTwo_74 : decode cX6_firstOfTwo 74 = .ok (.iload 4, 2) := by decide +kernel
theorem dX6_firstOfTwo_76 : decode cX6_firstOfTwo 76 = .ok (.ireturn, 1) := by decide +kernel
set_option maxRecDepth 20000 in
theorem ggX6_pumpAllPairs_X6_firstOfTwo : GoodIn wsX6_pumpAllPairs wsX6_firstOfTwo := goodIn_r _ [9, 3, 10, 11, 12, 13, 14, 15, 16, 17, 18, 19, 20, 21, 22, 23, 24, 25, 26, 27, 28, 29, 30, 31, 32, 33, 34, 35, 36, 37, 38, 39, 40, 41, 42, 43, 44, 45, 46, 47, 48, 49, 50, 51, 52, 53, 54, 55, 56, 57, 58, 59, 60, 61, 62, 63, 64, 65, 66, 67, 68, 69, 70, 71, 72, 73, 74, 75, 76, 77, 78, 79, 80, 81, 82, 83, 84, 85, 86, 87, 88, 89, 90, 91, 92, 93, 94, 95, 96, 97, 98, 99, 100, 101, 102, 103, 104, 105, 106, 107, 108] (by decide +kernel) (by decide +kernel)
set_option maxRecDepth 20000 in
theorem gX6_pumpAllPairs_X6_firstOfTwo : GoodIn wsX6_pumpAllPairs (wsV RX6 184 RX6 yX6_firstOfTwo wsX6_firstOfTwo) := goodIn_app (goodIn_of _ (by decide +kernel)) ggX6_pumpAllPairs_X6_firstOfTwo
theorem dX6_pumpAllPairs_0 : decode cX6_pumpAllPairs 0 = .ok (.iconst 0, 1) := by decide +kernel
theorem dX6_pumpAllPairs_1 : decode cX6_pumpAllPairs 1 = .ok (.istore_n 2, 1) := by decide +kernel
theorem dX6_pumpAllPairs_2 : decode cX6_pumpAllPairs 2 = .ok (.iload_n 2, 1) := by decide +kernel
theorem dX6_pumpAllPairs_3 : decode cX6_pumpAllPairs 3 = .ok (.aload_n 0, 1) := by decide +kernel
theorem dX6_pumpAllPairs_4 : decode cX6_pumpAllPairs 4 = .ok (.getfield 75, 3) := by decide +kernel
theorem dX6_pumpAllPairs_7 : decode cX6_pumpAllPairs 7 = .ok (.arraylength, 1) := by decide +kernel
theorem dX6_pumpAllPairs_8 : decode cX6_pumpAllPairs 8 = .ok (.if_icmp .ge 45, 3) := by decide +kernel
theorem dX6_pumpAllPairs_11 : decode cX6_pumpAllPairs 11 = .ok (.aload_n 0, 1) := by decide +kernel
theorem dX6_pumpAllPairs_12 : decode cX6_pumpAllPairs 12 = .ok (.iload_n 2, 1) := by decide +kernel
theorem dX6_pumpAllPairs_13 : decode cX6_pumpAllPairs 13 = .ok (.bipush 10, 2) := by decide +kernel
theorem dX6_pumpAllPairs_15 : decode cX6_pumpAllPairs 15 = .ok (.idiv, 1) := by decide +kernel
theorem dX6_pumpAllPairs_16 : decode cX6_pumpAllPairs 16 = .ok (.iload_n 2, 1) := by decide +kernel
theorem dX6_pumpAllPairs_17 : decode cX6_pumpAllPairs 17 = .ok (.bipush 10, 2) := by decide +kernel
theorem dX6_pumpAllPairs_19 : decode cX6_pumpAllPairs 19 = .ok (.irem, 1) := by decide +kernel
theorem dX6_pumpAllPairs_20 : decode cX6_pumpAllPairs 20 = .ok (.iload_n 1, 1) := by decide +kernel
theorem dX6_pumpAllPairs_21 : decode cX6_pumpAllPairs 21 = .ok (.invokevirtual 184, 3) := by decide +kernel
theorem dX6_pumpAllPairs_24 : decode cX6_pumpAllPairs 24 = .ok (.istore_n 3, 1) := by decide +kernel
theorem dX6_pumpAllPairs_25 : decode cX6_pumpAllPairs 25 = .ok (.aload_n 0, 1) := by decide +kernel
theorem dX6_pumpAllPairs_26 : decode cX6_pumpAllPairs 26 = .ok (.getfield 75, 3) := by decide +kernel
theorem dX6_pumpAllPairs_29 : decode cX6_pumpAllPairs 29 = .ok (.iload_n 2, 1) := by decide +kernel
theorem dX6_pumpAllPairs_30 : decode cX6_pumpAllPairs 30 = .ok (.iload_n 3, 1) := by decide +kernel
theorem dX6_pumpAllPairs_31 : decode cX6_pumpAllPairs 31 = .ok (.iastore, 1) := by decide +kernel
theorem dX6_pumpAllPairs_32 : decode cX6_pumpAllPairs 32 = .ok (.aload_n 0, 1) := by decide +kernel
theorem dX6_pumpAllPairs_33 : decode cX6_pumpAllPairs 33 = .ok (.getfield 78, 3) := by decide +kernel
theorem dX6_pumpAllPairs_36 : decode cX6_pumpAllPairs 36 = .ok (.iload_n 2, 1) := by decide +kernel
theorem dX6_pumpAllPairs_37 : decode cX6_pumpAllPairs 37 = .ok (.aload_n 0, 1) := by decide +kernel
theorem dX6_pumpAllPairs_38 : decode cX6_pumpAllPairs 38 = .ok (.getfield 69, 3) := by decide +kernel
theorem dX6_pumpAllPairs_41 : decode cX6_pumpAllPairs 41 = .ok (.getfield 127, 3) := by decide +kernel
theorem dX6_pumpAllPairs_44 : decode cX6_pumpAllPairs 44 = .ok (.iload_n 3, 1) := by decide +kernel
theorem dX6_pumpAllPairs_45 : decode cX6_pumpAllPairs 45 = .ok (.isub, 1) := by decide +kernel
theorem dX6_pumpAllPairs_46 : decode cX6_pumpAllPairs 46 = .ok (.iastore, 1) := by decide +kernel
theorem dX6_pumpAllPairs_47 : decode cX6_pumpAllPairs 47 = .ok (.iinc 2 1, 3) := by decide +kernel
theorem dX6_pumpAllPairs_50 : decode cX6_pumpAllPairs 50 = .ok (.goto (-48), 3) := by decide +kernel
theorem dX6_pumpAllPairs_53 : decode cX6_pumpAllPairs 53 = .ok (.return_, 1) := by decide +kernel
theorem dX6_isRest_0 : decode cX6_isRest 0 = .ok (.iload_n 1, 1) := by decide +kernel
theorem dX6_isRest_1 : decode cX6_isRest 1 = .ok (.bipush 10, 2) := by decide +kernel
theorem dX6_isRest_3 : decode cX6_isRest 3 = .ok (.idiv, 1) := by decide +kernel
theorem dX6_isRest_4 : decode cX6_isRest 4 = .ok (.istore_n 2, 1) := by decide +kernel
theorem dX6_isRest_5 : decode cX6_isRest 5 = .ok (.iload_n 1, 1) := by decide +kernel
theorem dX6_isRest_6 : decode cX6_isRest 6 = .ok (.bipush 10, 2) := by decide +kernel
theorem dX6_isRest_8 : decode cX6_isRest 8 = .ok (.irem, 1) := by decide +kernel
theorem dX6_isRest_9 : decode cX6_isRest 9 = .ok (.istore_n 3, 1) := by decide +kernel
theorem dX6_isRest_10 : decode cX6_isRest 10 = .ok (.iconst 0, 1) := by decide +kernel
theorem dX6_isRest_11 : decode cX6_isRest 11 = .ok (.istore 4, 2) := by decide +kernel
theorem dX6_isRest_13 : decode cX6_isRest 13 = .ok (.iload 4, 2) := by decide +kernel
theorem dX6_isRest_15 : decode cX6_isRest 15 = .ok (.bipush 10, 2) := by decide +kernel
theorem dX6_isRest_17 : decode cX6_isRest 17 = .ok (.if_icmp .ge 55, 3) := by decide +kernel
theorem dX6_isRest_20 : decode cX6_isRest 20 = .ok (.aload_n 0, 1) := by decide +kernel
theorem dX6_isRest_21 : decode cX6_isRest 21 = .ok (.getfield 75, 3) := by decide +kernel
theorem dX6_isRest_24 : decode cX6_isRest 24 = .ok (.iload 4, 2) := by decide +kernel
theorem dX6_isRest_26 : decode cX6_isRest 26 = .ok (.bipush 10, 2) := by decide +kernel
theorem dX6_isRest_28 : decode cX6_isRest 28 = .ok (.imul, 1) := by decide +kernel
theorem dX6_isRest_29 : decode cX6_isRest 29 = .ok (.iload_n 3, 1) := by decide +kernel
theorem dX6_isRest_30 : decode cX6_isRest 30 = .ok (.iadd, 1) := by decide +kernel
theorem dX6_isRest_31 : decode cX6_isRest 31 = .ok (.iaload, 1) := by decide +kernel
theorem dX6_isRest_32 : decode cX6_isRest 32 = .ok (.aload_n 0, 1) := by decide +kernel
theorem dX6_isRest_33 : decode cX6_isRest 33 = .ok (.getfield 75, 3) := by decide +kernel
theorem dX6_isRest_36 : decode cX6_isRest 36 = .ok (.iload_n 1, 1) := by decide +kernel
theorem dX6_isRest_37 : decode cX6_isRest 37 = .ok (.iaload, 1) := by decide +kernel
theorem dX6_isRest_38 : decode cX6_isRest 38 = .ok (.if_icmp .le 5, 3) := by decide +kernel
theorem dX6_isRest_41 : decode cX6_isRest 41 = .ok (.iconst 0, 1) := by decide +kernel
theorem dX6_isRest_42 : decode cX6_isRest 42 = .ok (.ireturn, 1) := by decide +kernel
theorem dX6_isRest_43 : decode cX6_isRest 43 = .ok (.aload_n 0, 1) := by decide +kernel
theorem dX6_isRest_44 : decode cX6_isRest 44 = .ok (.getfield 78, 3) := by decide +kernel
theorem dX6_isRest_47 : decode cX6_isRest 47 = .ok (.iload_n 2, 1) := by decide +kernel
theorem dX6_isRest_48 : decode cX6_isRest 48 = .ok (.bipush 10, 2) := by decide +kernel
theorem dX6_isRest_50 : decode cX6_isRest 50 = .ok (.imul, 1) := by decide +kernel
theorem dX6_isRest_51 : decode cX6_isRest 51 = .ok (.iload 4, 2) := by decide +kernel
theorem dX6_isRest_53 : decode cX6_isRest 53 = .ok (.iadd, 1) := by decide +kernel
theorem dX6_isRest_54 : decode cX6_isRest 54 = .ok (.iaload, 1) := by decide +kernel
theorem dX6_isRest_55 : decode cX6_isRest 55 = .ok (.aload_n 0, 1) := by decide +kernel
theorem dX6_isRest_56 : decode cX6_isRest 56 = .ok (.getfield 78, 3) := by decide +kernel
theorem dX6_isRest_59 : decode cX6_isRest 59 = .ok (.iload_n 1, 1) := by decide +kernel
theorem dX6_isRest_60 : decode cX6_isRest 60 = .ok (.iaload, 1) := by decide +kernel
theorem dX6_isRest_61 : decode cX6_isRest 61 = .ok (.if_icmp .le 5, 3) := by decide +kernel
theorem dX6_isRest_64 : decode cX6_isRest 64 = .ok (.iconst 0, 1) := by decide +kernel
theorem dX6_isRest_65 : decode cX6_isRest 65 = .ok (.ireturn, 1) := by decide +kernel
theorem dX6_isRest_66 : decode cX6_isRest 66 = .ok (.iinc 4 1, 3) := by decide +kernel
theorem dX6_isRest_69 : decode cX6_isRest 69 = .ok (.goto (-56), 3) := by decide +kernel
theorem dX6_isRest_72 : decode cX6_isRest 72 = .ok (.iconst 1, 1) := by decide +kernel
theorem dX6_isRest_73 : decode cX6_isRest 73 = .ok (.ireturn, 1) := by decide +kernel
theorem dX6_costOf_0 : decode cX6_costOf 0 = .ok (.iconst 0, 1) := by decide +kernel
theorem dX6_costOf_1 : decode cX6_costOf 1 = .ok (.istore_n 2, 1) := by decide +kernel
theorem dX6_costOf_2 : decode cX6_costOf 2 = .ok (.iconst 0, 1) := by decide +kernel
theorem dX6_costOf_3 : decode cX6_costOf 3 = .ok (.istore_n 3, 1) := by decide +kernel
theorem dX6_costOf_4 : decode cX6_costOf 4 = .ok (.iload_n 3, 1) := by decide +kernel
theorem dX6_costOf_5 : decode cX6_costOf 5 = .ok (.iconst 5, 1) := by decide +kernel
theorem dX6_costOf_6 : decode cX6_costOf 6 = .ok (.if_icmp .ge 27, 3) := by decide +kernel
theorem dX6_costOf_9 : decode cX6_costOf 9 = .ok (.iload_n 1, 1) := by decide +kernel
theorem dX6_costOf_10 : decode cX6_costOf 10 = .ok (.iload_n 3, 1) := by decide +kernel
theorem dX6_costOf_11 : decode cX6_costOf 11 = .ok (.ishr, 1) := by decide +kernel
theorem dX6_costOf_12 : decode cX6_costOf 12 = .ok (.iconst 1, 1) := by decide +kernel
theorem dX6_costOf_13 : decode cX6_costOf 13 = .ok (.iand, 1) := by decide +kernel
theorem dX6_costOf_14 : decode cX6_costOf 14 = .ok (.iconst 1, 1) := by decide +kernel
theorem dX6_costOf_15 : decode cX6_costOf 15 = .ok (.if_icmp .ne 12, 3) := by decide +kernel
theorem dX6_costOf_18 : decode cX6_costOf 18 = .ok (.iload_n 2, 1) := by decide +kernel
theorem dX6_costOf_19 : decode cX6_costOf 19 = .ok (.aload_n 0, 1) := by decide +kernel
theorem dX6_costOf_20 : decode cX6_costOf 20 = .ok (.getfield 49, 3) := by decide +kernel
theorem dX6_costOf_23 : decode cX6_costOf 23 = .ok (.iload_n 3, 1) := by decide +kernel
theorem dX6_costOf_24 : decode cX6_costOf 24 = .ok (.iaload, 1) := by decide +kernel
theorem dX6_costOf_25 : decode cX6_costOf 25 = .ok (.iadd, 1) := by decide +kernel
theorem dX6_costOf_26 : decode cX6_costOf 26 = .ok (.istore_n 2, 1) := by decide +kernel
theorem dX6_costOf_27 : decode cX6_costOf 27 = .ok (.iinc 3 1, 3) := by decide +kernel
theorem dX6_costOf_30 : decode cX6_costOf 30 = .ok (.goto (-26), 3) := by decide +kernel
theorem dX6_costOf_33 : decode cX6_costOf 33 = .ok (.iload_n 2, 1) := by decide +kernel
theorem dX6_costOf_34 : decode cX6_costOf 34 = .ok (.ireturn, 1) := by decide +kernel
set_option maxRecDepth 20000 in
theorem ggX6_cupsBehind_X4_beLike : GoodIn wsX6_cupsBehind wsX4_beLike := goodIn_r _ [8, 9, 10, 11, 7, 12, 13, 14, 15, 16, 17, 18, 19, 20, 21, 22, 23, 24, 25, 26, 27, 102, 103, 104, 105, 106, 107, 108, 109, 110, 111, 112] (by decide +kernel) (by decide +kernel)
set_option maxRecDepth 20000 in
theorem gX6_cupsBehind_X4_beLike : GoodIn wsX6_cupsBehind (wsV RX6 101 RX4 yX4_beLike wsX4_beLike) := goodIn_app (goodIn_of _ (by decide +kernel)) ggX6_cupsBehind_X4_beLike
set_option maxRecDepth 20000 in
theorem ggX6_cupsBehind_X4_mend : GoodIn wsX6_cupsBehind wsX4_mend := goodIn_r _ [31, 21, 18, 20, 13, 32, 33, 34, 35, 16, 102, 103, 104, 105, 106, 107, 108, 109, 110, 111, 112] (by decide +kernel) (by decide +kernel)
set_option maxRecDepth 20000 in
theorem gX6_cupsBehind_X4_mend : GoodIn wsX6_cupsBehind (wsV RX6 290 RX4 yX4_mend wsX4_mend) := goodIn_app (goodIn_of _ (by decide +kernel)) ggX6_cupsBehind_X4_mend
set_option maxRecDepth 20000 in
theorem ggX6_cupsBehind_X0_startEmpty : GoodIn wsX6_cupsBehind wsX0_startEmpty := goodIn_r _ [40, 41, 42, 43, 44, 45, 46, 39, 47, 48, 49, 50, 51, 52, 53, 54, 55, 7, 56, 17, 15, 113, 114, 115, 116, 117, 118, 119, 102, 103, 104, 105, 106, 107, 108, 109, 110, 111, 112] (by decide +kernel) (by decide +kernel)
set_option maxRecDepth 20000 in
theorem gX6_cupsBehind_X0_startEmpty : GoodIn wsX6_cupsBehind (wsV RX6 81 RX0 yX0_startEmpty wsX0_startEmpty) := goodIn_app (goodIn_of _ (by decide +kernel)) ggX6_cupsBehind_X0_startEmpty
set_option maxRecDepth 20000 in
theorem ggX6_cupsBehind_X0_pour : GoodIn wsX6_cupsBehind wsX0_pour := goodIn_r _ [60, 41, 61, 62, 34, 63, 43, 64, 33, 35, 113, 114, 115, 116, 117, 118, 119] (by decide +kernel) (by decide +kernel)
set_option maxRecDepth 20000 in
theorem gX6_cupsBehind_X0_pour : GoodIn wsX6_cupsBehind (wsV RX6 112 RX0 yX0_pour wsX0_pour) := goodIn_app (goodIn_of _ (by decide +kernel)) ggX6_cupsBehind_X0_pour
set_option maxRecDepth 20000 in
theorem ggX6_cupsBehind_X0_pull : GoodIn wsX6_cupsBehind wsX0_pull := goodIn_r _ [68, 41, 50, 69, 70, 71, 39, 72, 48, 43, 52, 61, 62, 34, 63, 64, 33, 35, 49, 53, 54, 55, 7, 56, 17, 15, 73, 74, 75, 76, 13, 14, 77, 78, 79, 80, 81, 19, 20, 82, 83, 84, 85, 22, 23, 113, 114, 115, 116, 117, 118, 119, 102, 103, 104, 105, 106, 107, 108, 109, 110, 111, 112] (by decide +kernel) (by decide +kernel)
set_option maxRecDepth 20000 in
theorem gX6_cupsBehind_X0_pull : GoodIn wsX6_cupsBehind (wsV RX6 108 RX0 yX0_pull wsX0_pull) := goodIn_app (goodIn_of _ (by decide +kernel)) ggX6_cupsBehind_X0_pull
theorem dX6_cupsBehind_0 : decode cX6_cupsBehind 0 = .ok (.aload_n 0, 1) := by decide +kernel
theorem dX6_cupsBehind_1 : decode cX6_cupsBehind 1 = .ok (.getfield 66, 3) := by decide +kernel
theorem dX6_cupsBehind_4 : decode cX6_cupsBehind 4 = .ok (.aload_n 0, 1) := by decide +kernel
theorem dX6_cupsBehind_5 : decode cX6_cupsBehind 5 = .ok (.getfield 19, 3) := by decide +kernel
theorem dX6_cupsBehind_8 : decode cX6_cupsBehind 8 = .ok (.invokevirtual 101, 3) := by decide +kernel
theorem dX6_cupsBehind_11 : decode cX6_cupsBehind 11 = .ok (.iconst 0, 1) := by decide +kernel
theorem dX6_cupsBehind_12 : decode cX6_cupsBehind 12 = .ok (.istore_n 2, 1) := by decide +kernel
theorem dX6_cupsBehind_13 : decode cX6_cupsBehind 13 = .ok (.iload_n 2, 1) := by decide +kernel
theorem dX6_cupsBehind_14 : decode cX6_cupsBehind 14 = .ok (.iconst 5, 1) := by decide +kernel
theorem dX6_cupsBehind_15 : decode cX6_cupsBehind 15 = .ok (.if_icmp .ge 26, 3) := by decide +kernel
theorem dX6_cupsBehind_18 : decode cX6_cupsBehind 18 = .ok (.iload_n 1, 1) := by decide +kernel
theorem dX6_cupsBehind_19 : decode cX6_cupsBehind 19 = .ok (.iload_n 2, 1) := by decide +kernel
theorem dX6_cupsBehind_20 : decode cX6_cupsBehind 20 = .ok (.ishr, 1) := by decide +kernel
theorem dX6_cupsBehind_21 : decode cX6_cupsBehind 21 = .ok (.iconst 1, 1) := by decide +kernel
theorem dX6_cupsBehind_22 : decode cX6_cupsBehind 22 = .ok (.iand, 1) := by decide +kernel
theorem dX6_cupsBehind_23 : decode cX6_cupsBehind 23 = .ok (.iconst 1, 1) := by decide +kernel
theorem dX6_cupsBehind_24 : decode cX6_cupsBehind 24 = .ok (.if_icmp .ne 11, 3) := by decide +kernel
theorem dX6_cupsBehind_27 : decode cX6_cupsBehind 27 = .ok (.aload_n 0, 1) := by decide +kernel
theorem dX6_cupsBehind_28 : decode cX6_cupsBehind 28 = .ok (.getfield 66, 3) := by decide +kernel
theorem dX6_cupsBehind_31 : decode cX6_cupsBehind 31 = .ok (.iload_n 2, 1) := by decide +kernel
theorem dX6_cupsBehind_32 : decode cX6_cupsBehind 32 = .ok (.invokevirtual 290, 3) := by decide +kernel
theorem dX6_cupsBehind_35 : decode cX6_cupsBehind 35 = .ok (.iinc 2 1, 3) := by decide +kernel
theorem dX6_cupsBehind_38 : decode cX6_cupsBehind 38 = .ok (.goto (-25), 3) := by decide +kernel
theorem dX6_cupsBehind_41 : decode cX6_cupsBehind 41 = .ok (.aload_n 0, 1) := by decide +kernel
theorem dX6_cupsBehind_42 : decode cX6_cupsBehind 42 = .ok (.getfield 69, 3) := by decide +kernel
theorem dX6_cupsBehind_45 : decode cX6_cupsBehind 45 = .ok (.aload_n 0, 1) := by decide +kernel
theorem dX6_cupsBehind_46 : decode cX6_cupsBehind 46 = .ok (.getfield 66, 3) := by decide +kernel
theorem dX6_cupsBehind_49 : decode cX6_cupsBehind 49 = .ok (.invokevirtual 81, 3) := by decide +kernel
theorem dX6_cupsBehind_52 : decode cX6_cupsBehind 52 = .ok (.aload_n 0, 1) := by decide +kernel
theorem dX6_cupsBehind_53 : decode cX6_cupsBehind 53 = .ok (.getfield 69, 3) := by decide +kernel
theorem dX6_cupsBehind_56 : decode cX6_cupsBehind 56 = .ok (.bipush 20, 2) := by decide +kernel
theorem dX6_cupsBehind_58 : decode cX6_cupsBehind 58 = .ok (.invokevirtual 112, 3) := by decide +kernel
theorem dX6_cupsBehind_61 : decode cX6_cupsBehind 61 = .ok (.pop, 1) := by decide +kernel
theorem dX6_cupsBehind_62 : decode cX6_cupsBehind 62 = .ok (.aload_n 0, 1) := by decide +kernel
theorem dX6_cupsBehind_63 : decode cX6_cupsBehind 63 = .ok (.getfield 69, 3) := by decide +kernel
theorem dX6_cupsBehind_66 : decode cX6_cupsBehind 66 = .ok (.aload_n 0, 1) := by decide +kernel
theorem dX6_cupsBehind_67 : decode cX6_cupsBehind 67 = .ok (.getfield 66, 3) := by decide +kernel
theorem dX6_cupsBehind_70 : decode cX6_cupsBehind 70 = .ok (.bipush 60, 2) := by decide +kernel
theorem dX6_cupsBehind_72 : decode cX6_cupsBehind 72 = .ok (.invokevirtual 108, 3) := by decide +kernel
theorem dX6_cupsBehind_75 : decode cX6_cupsBehind 75 = .ok (.ireturn, 1) := by decide +kernel
theorem dX6_markTrouble_0 : decode cX6_markTrouble 0 = .ok (.aload_n 0, 1) := by decide +kernel
theorem dX6_markTrouble_1 : decode cX6_markTrouble 1 = .ok (.dup, 1) := by decide +kernel
theorem dX6_markTrouble_2 : decode cX6_markTrouble 2 = .ok (.getfield 241, 3) := by decide +kernel
theorem dX6_markTrouble_5 : decode cX6_markTrouble 5 = .ok (.lconst 1, 1) := by decide +kernel
theorem dX6_markTrouble_6 : decode cX6_markTrouble 6 = .ok (.ladd, 1) := by decide +kernel
theorem dX6_markTrouble_7 : decode cX6_markTrouble 7 = .ok (.putfield 241, 3) := by decide +kernel
theorem dX6_markTrouble_10 : decode cX6_markTrouble 10 = .ok (.aload_n 0, 1) := by decide +kernel
theorem dX6_markTrouble_11 : decode cX6_markTrouble 11 = .ok (.getfield 45, 3) := by decide +kernel
theorem dX6_markTrouble_14 : decode cX6_markTrouble 14 = .ok (.iload_n 1, 1) := by decide +kernel
theorem dX6_markTrouble_15 : decode cX6_markTrouble 15 = .ok (.iaload, 1) := by decide +kernel
theorem dX6_markTrouble_16 : decode cX6_markTrouble 16 = .ok (.ireturn, 1) := by decide +kernel
set_option maxRecDepth 20000 in
theorem ggX6_markDry_X6_markTrouble : GoodIn wsX6_markDry wsX6_markTrouble := goodIn_r _ [9, 1, 10, 11, 12, 13, 14, 15, 16, 17, 18, 19, 20, 21, 22, 23, 24, 25, 26] (by decide +kernel) (by decide +kernel)
set_option maxRecDepth 20000 in
theorem gX6_markDry_X6_markTrouble : GoodIn wsX6_markDry (wsV RX6 217 RX6 yX6_markTrouble wsX6_markTrouble) := goodIn_app (goodIn_of _ (by decide +kernel)) ggX6_markDry_X6_markTrouble
theorem dX6_markDry_0 : decode cX6_markDry 0 = .ok (.aload_n 0, 1) := by decide +kernel
theorem dX6_markDry_1 : decode cX6_markDry 1 = .ok (.dup, 1) := by decide +kernel
theorem dX6_markDry_2 : decode cX6_markDry 2 = .ok (.getfield 241, 3) := by decide +kernel
theorem dX6_markDry_5 : decode cX6_markDry 5 = .ok (.ldc2_w 293, 3) := by decide +kernel
theorem dX6_markDry_8 : decode cX6_markDry 8 = .ok (.ladd, 1) := by decide +kernel
theorem dX6_markDry_9 : decode cX6_markDry 9 = .ok (.putfield 241, 3) := by decide +kernel
theorem dX6_markDry_12 : decode cX6_markDry 12 = .ok (.aload_n 0, 1) := by decide +kernel
theorem dX6_markDry_13 : decode cX6_markDry 13 = .ok (.iload_n 1, 1) := by decide +kernel
theorem dX6_markDry_14 : decode cX6_markDry 14 = .ok (.invokevirtual 217, 3) := by decide +kernel
theorem dX6_markDry_17 : decode cX6_markDry 17 = .ok (.aload_n 0, 1) := by decide +kernel
theorem dX6_markDry_18 : decode cX6_markDry 18 = .ok (.getfield 26, 3) := by decide +kernel
theorem dX6_markDry_21 : decode cX6_markDry 21 = .ok (.getfield 121, 3) := by decide +kernel
theorem dX6_markDry_24 : decode cX6_markDry 24 = .ok (.iadd, 1) := by decide +kernel
theorem dX6_markDry_25 : decode cX6_markDry 25 = .ok (.ireturn, 1) := by decide +kernel
set_option maxRecDepth 20000 in
theorem ggX6_markFooted_X6_markTrouble : GoodIn wsX6_markFooted wsX6_markTrouble := goodIn_r _ [9, 1, 10, 11, 12, 13, 14, 15, 16, 17, 18, 19, 20, 21, 22, 23, 24, 25, 26] (by decide +kernel) (by decide +kernel)
set_option maxRecDepth 20000 in
theorem gX6_markFooted_X6_markTrouble : GoodIn wsX6_markFooted (wsV RX6 217 RX6 yX6_markTrouble wsX6_markTrouble) := goodIn_app (goodIn_of _ (by decide +kernel)) ggX6_markFooted_X6_markTrouble
theorem dX6_markFooted_0 : decode cX6_markFooted 0 = .ok (.aload_n 0, 1) := by decide +kernel
theorem dX6_markFooted_1 : decode cX6_markFooted 1 = .ok (.dup, 1) := by decide +kernel
theorem dX6_markFooted_2 : decode cX6_markFooted 2 = .ok (.getfield 241, 3) := by decide +kernel
theorem dX6_markFooted_5 : decode cX6_markFooted 5 = .ok (.ldc2_w 295, 3) := by decide +kernel
theorem dX6_markFooted_8 : decode cX6_markFooted 8 = .ok (.ladd, 1) := by decide +kernel
theorem dX6_markFooted_9 : decode cX6_markFooted 9 = .ok (.putfield 241, 3) := by decide +kernel
theorem dX6_markFooted_12 : decode cX6_markFooted 12 = .ok (.aload_n 0, 1) := by decide +kernel
theorem dX6_markFooted_13 : decode cX6_markFooted 13 = .ok (.iload_n 1, 1) := by decide +kernel
theorem dX6_markFooted_14 : decode cX6_markFooted 14 = .ok (.invokevirtual 217, 3) := by decide +kernel
theorem dX6_markFooted_17 : decode cX6_markFooted 17 = .ok (.aload_n 0, 1) := by decide +kernel
theorem dX6_markFooted_18 : decode cX6_markFooted 18 = .ok (.getfield 26, 3) := by decide +kernel
theorem dX6_markFooted_21 : decode cX6_markFooted 21 = .ok (.getfield 118, 3) := by decide +kernel
theorem dX6_markFooted_24 : decode cX6_markFooted 24 = .ok (.isub, 1) := by decide +kernel
theorem dX6_markFooted_25 : decode cX6_markFooted 25 = .ok (.ireturn, 1) := by decide +kernel
set_option maxRecDepth 20000 in
theorem ggX6_markAired_X6_markFooted : GoodIn wsX6_markAired wsX6_markFooted := goodIn_r _ [7, 1, 8, 9, 10, 11, 12, 13, 6, 14, 15, 16, 17, 18, 19, 20, 21, 22, 23, 24, 25, 26, 27, 28, 29, 30, 31, 32, 33, 34, 35, 36, 37, 38] (by decide +kernel) (by decide +kernel)
set_option maxRecDepth 20000 in
theorem gX6_markAired_X6_markFooted : GoodIn wsX6_markAired (wsV RX6 223 RX6 yX6_markFooted wsX6_markFooted) := goodIn_app (goodIn_of _ (by decide +kernel)) ggX6_markAired_X6_markFooted
theorem dX6_markAired_0 : decode cX6_markAired 0 = .ok (.aload_n 0, 1) := by decide +kernel
theorem dX6_markAired_1 : decode cX6_markAired 1 = .ok (.dup, 1) := by decide +kernel
theorem dX6_markAired_2 : decode cX6_markAired 2 = .ok (.getfield 241, 3) := by decide +kernel
theorem dX6_markAired_5 : decode cX6_markAired 5 = .ok (.ldc2_w 297, 3) := by decide +kernel
theorem dX6_markAired_8 : decode cX6_markAired 8 = .ok (.ladd, 1) := by decide +kernel
theorem dX6_markAired_9 : decode cX6_markAired 9 = .ok (.putfield 241, 3) := by decide +kernel
theorem dX6_markAired_12 : decode cX6_markAired 12 = .ok (.aload_n 0, 1) := by decide +kernel
theorem dX6_markAired_13 : decode cX6_markAired 13 = .ok (.iload_n 1, 1) := by decide +kernel
theorem dX6_markAired_14 : decode cX6_markAired 14 = .ok (.invokevirtual 223, 3) := by decide +kernel
theorem dX6_markAired_17 : decode cX6_markAired 17 = .ok (.iconst 2, 1) := by decide +kernel
theorem dX6_markAired_18 : decode cX6_markAired 18 = .ok (.imul, 1) := by decide +kernel
theorem dX6_markAired_19 : decode cX6_markAired 19 = .ok (.ireturn, 1) := by decide +kernel
set_option maxRecDepth 20000 in
theorem ggX6_markChoked_X6_markDry : GoodIn wsX6_markChoked wsX6_markDry := goodIn_r _ [7, 1, 8, 9, 10, 11, 12, 13, 6, 14, 15, 16, 17, 18, 19, 20, 21, 22, 23, 24, 25, 26, 27, 28, 29, 30, 31, 32, 33, 34, 35, 36, 37, 38] (by decide +kernel) (by decide +kernel)
set_option maxRecDepth 20000 in
theorem gX6_markChoked_X6_markDry : GoodIn wsX6_markChoked (wsV RX6 220 RX6 yX6_markDry wsX6_markDry) := goodIn_app (goodIn_of _ (by decide +kernel)) ggX6_markChoked_X6_markDry
theorem dX6_markChoked_0 : decode cX6_markChoked 0 = .ok (.aload_n 0, 1) := by decide +kernel
theorem dX6_markChoked_1 : decode cX6_markChoked 1 = .ok (.dup, 1) := by decide +kernel
theorem dX6_markChoked_2 : decode cX6_markChoked 2 = .ok (.getfield 241, 3) := by decide +kernel
theorem dX6_markChoked_5 : decode cX6_markChoked 5 = .ok (.ldc2_w 299, 3) := by decide +kernel
theorem dX6_markChoked_8 : decode cX6_markChoked 8 = .ok (.ladd, 1) := by decide +kernel
theorem dX6_markChoked_9 : decode cX6_markChoked 9 = .ok (.putfield 241, 3) := by decide +kernel
theorem dX6_markChoked_12 : decode cX6_markChoked 12 = .ok (.aload_n 0, 1) := by decide +kernel
theorem dX6_markChoked_13 : decode cX6_markChoked 13 = .ok (.iload_n 1, 1) := by decide +kernel
theorem dX6_markChoked_14 : decode cX6_markChoked 14 = .ok (.invokevirtual 220, 3) := by decide +kernel
theorem dX6_markChoked_17 : decode cX6_markChoked 17 = .ok (.iload_n 1, 1) := by decide +kernel
theorem dX6_markChoked_18 : decode cX6_markChoked 18 = .ok (.iadd, 1) := by decide +kernel
theorem dX6_markChoked_19 : decode cX6_markChoked 19 = .ok (.ireturn, 1) := by decide +kernel
set_option maxRecDepth 20000 in
theorem ggX6_markDeep_X6_markTrouble : GoodIn wsX6_markDeep wsX6_markTrouble := goodIn_r _ [10, 1, 11, 19, 20, 21, 22, 23, 24, 25, 26, 27, 28, 29, 30, 31, 32, 33, 34] (by decide +kernel) (by decide +kernel)
set_option maxRecDepth 20000 in
theorem gX6_markDeep_X6_markTrouble : GoodIn wsX6_markDeep (wsV RX6 217 RX6 yX6_markTrouble wsX6_markTrouble) := goodIn_app (goodIn_of _ (by decide +kernel)) ggX6_markDeep_X6_markTrouble
set_option maxRecDepth 20000 in
theorem ggX6_markDeep_X4_depth : GoodIn wsX6_markDeep wsX4_depth := goodIn_r _ [16, 17, 18, 42, 43, 44, 45, 46, 47, 48, 49, 50, 51, 52] (by decide +kernel) (by decide +kernel)
set_option maxRecDepth 20000 in
theorem gX6_markDeep_X4_depth : GoodIn wsX6_markDeep (wsV RX6 139 RX4 yX4_depth wsX4_depth) := goodIn_app (goodIn_of _ (by decide +kernel)) ggX6_markDeep_X4_depth
theorem dX6_markDeep_0 : decode cX6_markDeep 0 = .ok (.aload_n 0, 1) := by decide +kernel
theorem dX6_markDeep_1 : decode cX6_markDeep 1 = .ok (.dup, 1) := by decide +kernel
theorem dX6_markDeep_2 : decode cX6_markDeep 2 = .ok (.getfield 241, 3) := by decide +kernel
theorem dX6_markDeep_5 : decode cX6_markDeep 5 = .ok (.ldc2_w 301, 3) := by decide +kernel
theorem dX6_markDeep_8 : decode cX6_markDeep 8 = .ok (.ladd, 1) := by decide +kernel
theorem dX6_markDeep_9 : decode cX6_markDeep 9 = .ok (.putfield 241, 3) := by decide +kernel
theorem dX6_markDeep_12 : decode cX6_markDeep 12 = .ok (.aload_n 0, 1) := by decide +kernel
theorem dX6_markDeep_13 : decode cX6_markDeep 13 = .ok (.iload_n 1, 1) := by decide +kernel
theorem dX6_markDeep_14 : decode cX6_markDeep 14 = .ok (.invokevirtual 217, 3) := by decide +kernel
theorem dX6_markDeep_17 : decode cX6_markDeep 17 = .ok (.aload_n 0, 1) := by decide +kernel
theorem dX6_markDeep_18 : decode cX6_markDeep 18 = .ok (.getfield 19, 3) := by decide +kernel
theorem dX6_markDeep_21 : decode cX6_markDeep 21 = .ok (.aload_n 0, 1) := by decide +kernel
theorem dX6_markDeep_22 : decode cX6_markDeep 22 = .ok (.getfield 26, 3) := by decide +kernel
theorem dX6_markDeep_25 : decode cX6_markDeep 25 = .ok (.getfield 124, 3) := by decide +kernel
theorem dX6_markDeep_28 : decode cX6_markDeep 28 = .ok (.invokevirtual 139, 3) := by decide +kernel
theorem dX6_markDeep_31 : decode cX6_markDeep 31 = .ok (.iadd, 1) := by decide +kernel
theorem dX6_markDeep_32 : decode cX6_markDeep 32 = .ok (.ireturn, 1) := by decide +kernel
set_option maxRecDepth 20000 in
theorem ggX7_init_X7_tellPlain : GoodIn wsX7_init wsX7_tellPlain := goodIn_r _ [29, 7, 46, 47, 48, 49, 50, 51, 52, 53, 54, 55, 56, 57, 58, 59, 60, 61, 62, 63, 64, 65, 66, 67, 68, 69, 70, 71, 72, 73, 74, 75] (by decide +kernel) (by decide +kernel)
set_option maxRecDepth 20000 in
theorem gX7_init_X7_tellPlain : GoodIn wsX7_init (wsV RX7 66 RX7 yX7_tellPlain wsX7_tellPlain) := goodIn_app (goodIn_of _ (by decide +kernel)) ggX7_init_X7_tellPlain
set_option maxRecDepth 20000 in
theorem ggX7_init_X7_anew : GoodIn wsX7_init wsX7_anew := goodIn_r _ [33, 10, 8, 34, 35, 36, 28, 37, 7, 38, 39, 40, 41, 9, 42, 43, 44, 45, 46, 47, 48, 49, 50, 51, 52, 53, 54, 55, 56, 57, 58, 59, 60, 61, 62, 63, 64, 65, 66, 67, 68, 69, 70, 71, 72, 73, 74, 75] (by decide +kernel) (by decide +kernel)
set_option maxRecDepth 20000 in
theorem gX7_init_X7_anew : GoodIn wsX7_init (wsV RX7 70 RX7 yX7_anew wsX7_anew) := goodIn_app (goodIn_of _ (by decide +kernel)) ggX7_init_X7_anew
theorem dX7_init_0 : decode cX7_init 0 = .ok (.aload_n 0, 1) := by decide +kernel
theorem dX7_init_1 : decode cX7_init 1 = .ok (.invokespecial 1, 3) := by decide +kernel
theorem dX7_init_4 : decode cX7_init 4 = .ok (.aload_n 0, 1) := by decide +kernel
theorem dX7_init_5 : decode cX7_init 5 = .ok (.sipush 300, 3) := by decide +kernel
theorem dX7_init_8 : decode cX7_init 8 = .ok (.newarray .byte, 2) := by decide +kernel
theorem dX7_init_10 : decode cX7_init 10 = .ok (.putfield 7, 3) := by decide +kernel
theorem dX7_init_13 : decode cX7_init 13 = .ok (.aload_n 0, 1) := by decide +kernel
theorem dX7_init_14 : decode cX7_init 14 = .ok (.bipush 22, 2) := by decide +kernel
theorem dX7_init_16 : decode cX7_init 16 = .ok (.newarray .int, 2) := by decide +kernel
theorem dX7_init_18 : decode cX7_init 18 = .ok (.putfield 13, 3) := by decide +kernel
theorem dX7_init_21 : decode cX7_init 21 = .ok (.aload_n 0, 1) := by decide +kernel
theorem dX7_init_22 : decode cX7_init 22 = .ok (.bipush 11, 2) := by decide +kernel
theorem dX7_init_24 : decode cX7_init 24 = .ok (.newarray .int, 2) := by decide +kernel
theorem dX7_init_26 : decode cX7_init 26 = .ok (.putfield 17, 3) := by decide +kernel
theorem dX7_init_29 : decode cX7_init 29 = .ok (.aload_n 0, 1) := by decide +kernel
theorem dX7_init_30 : decode cX7_init 30 = .ok (.bipush 7, 2) := by decide +kernel
theorem dX7_init_32 : decode cX7_init 32 = .ok (.newarray .int, 2) := by decide +kernel
theorem dX7_init_34 : decode cX7_init 34 = .ok (.putfield 20, 3) := by decide +kernel
theorem dX7_init_37 : decode cX7_init 37 = .ok (.aload_n 0, 1) := by decide +kernel
theorem dX7_init_38 : decode cX7_init 38 = .ok (.bipush 21, 2) := by decide +kernel
theorem dX7_init_40 : decode cX7_init 40 = .ok (.newarray .int, 2) := by decide +kernel
theorem dX7_init_42 : decode cX7_init 42 = .ok (.putfield 23, 3) := by decide +kernel
theorem dX7_init_45 : decode cX7_init 45 = .ok (.aload_n 0, 1) := by decide +kernel
theorem dX7_init_46 : decode cX7_init 46 = .ok (.iconst 2, 1) := by decide +kernel
theorem dX7_init_47 : decode cX7_init 47 = .ok (.newarray .boolean, 2) := by decide +kernel
theorem dX7_init_49 : decode cX7_init 49 = .ok (.putfield 26, 3) := by decide +kernel
theorem dX7_init_52 : decode cX7_init 52 = .ok (.aload_n 0, 1) := by decide +kernel
theorem dX7_init_53 : decode cX7_init 53 = .ok (.bipush 6, 2) := by decide +kernel
theorem dX7_init_55 : decode cX7_init 55 = .ok (.newarray .int, 2) := by decide +kernel
theorem dX7_init_57 : decode cX7_init 57 = .ok (.putfield 30, 3) := by decide +kernel
theorem dX7_init_60 : decode cX7_init 60 = .ok (.aload_n 0, 1) := by decide +kernel
theorem dX7_init_61 : decode cX7_init 61 = .ok (.bipush 6, 2) := by decide +kernel
theorem dX7_init_63 : decode cX7_init 63 = .ok (.newarray .int, 2) := by decide +kernel
theorem dX7_init_65 : decode cX7_init 65 = .ok (.putfield 33, 3) := by decide +kernel
theorem dX7_init_68 : decode cX7_init 68 = .ok (.aload_n 0, 1) := by decide +kernel
theorem dX7_init_69 : decode cX7_init 69 = .ok (.bipush 6, 2) := by decide +kernel
theorem dX7_init_71 : decode cX7_init 71 = .ok (.newarray .int, 2) := by decide +kernel
theorem dX7_init_73 : decode cX7_init 73 = .ok (.putfield 36, 3) := by decide +kernel
theorem dX7_init_76 : decode cX7_init 76 = .ok (.aload_n 0, 1) := by decide +kernel
theorem dX7_init_77 : decode cX7_init 77 = .ok (.bipush 6, 2) := by decide +kernel
theorem dX7_init_79 : decode cX7_init 79 = .ok (.newarray .int, 2) := by decide +kernel
theorem dX7_init_81 : decode cX7_init 81 = .ok (.putfield 39, 3) := by decide +kernel
theorem dX7_init_84 : decode cX7_init 84 = .ok (.aload_n 0, 1) := by decide +kernel
theorem dX7_init_85 : decode cX7_init 85 = .ok (.bipush 54, 2) := by decide +kernel
theorem dX7_init_87 : decode cX7_init 87 = .ok (.newarray .int, 2) := by decide +kernel
theorem dX7_init_89 : decode cX7_init 89 = .ok (.putfield 42, 3) := by decide +kernel
theorem dX7_init_92 : decode cX7_init 92 = .ok (.aload_n 0, 1) := by decide +kernel
theorem dX7_init_93 : decode cX7_init 93 = .ok (.bipush 100, 2) := by decide +kernel
theorem dX7_init_95 : decode cX7_init 95 = .ok (.newarray .int, 2) := by decide +kernel
theorem dX7_init_97 : decode cX7_init 97 = .ok (.putfield 45, 3) := by decide +kernel
theorem dX7_init_100 : decode cX7_init 100 = .ok (.aload_n 0, 1) := by decide +kernel
theorem dX7_init_101 : decode cX7_init 101 = .ok (.bipush 100, 2) := by decide +kernel
theorem dX7_init_103 : decode cX7_init 103 = .ok (.newarray .int, 2) := by decide +kernel
theorem dX7_init_105 : decode cX7_init 105 = .ok (.putfield 48, 3) := by decide +kernel
theorem dX7_init_108 : decode cX7_init 108 = .ok (.aload_n 0, 1) := by decide +kernel
theorem dX7_init_109 : decode cX7_init 109 = .ok (.iconst 5, 1) := by decide +kernel
theorem dX7_init_110 : decode cX7_init 110 = .ok (.newarray .int, 2) := by decide +kernel
theorem dX7_init_112 : decode cX7_init 112 = .ok (.putfield 51, 3) := by decide +kernel
theorem dX7_init_115 : decode cX7_init 115 = .ok (.aload_n 0, 1) := by decide +kernel
theorem dX7_init_116 : decode cX7_init 116 = .ok (.bipush 30, 2) := by decide +kernel
theorem dX7_init_118 : decode cX7_init 118 = .ok (.newarray .int, 2) := by decide +kernel
theorem dX7_init_120 : decode cX7_init 120 = .ok (.putfield 54, 3) := by decide +kernel
theorem dX7_init_123 : decode cX7_init 123 = .ok (.aload_n 0, 1) := by decide +kernel
theorem dX7_init_124 : decode cX7_init 124 = .ok (.bipush 30, 2) := by decide +kernel
theorem dX7_init_126 : decode cX7_init 126 = .ok (.newarray .int, 2) := by decide +kernel
theorem dX7_init_128 : decode cX7_init 128 = .ok (.putfield 57, 3) := by decide +kernel
theorem dX7_init_131 : decode cX7_init 131 = .ok (.aload_n 0, 1) := by decide +kernel
theorem dX7_init_132 : decode cX7_init 132 = .ok (.bipush 20, 2) := by decide +kernel
theorem dX7_init_134 : decode cX7_init 134 = .ok (.newarray .int, 2) := by decide +kernel
theorem dX7_init_136 : decode cX7_init 136 = .ok (.putfield 60, 3) := by decide +kernel
theorem dX7_init_139 : decode cX7_init 139 = .ok (.aload_n 0, 1) := by decide +kernel
theorem dX7_init_140 : decode cX7_init 140 = .ok (.bipush 20, 2) := by decide +kernel
theorem dX7_init_142 : decode cX7_init 142 = .ok (.newarray .int, 2) := by decide +kernel
theorem dX7_init_144 : decode cX7_init 144 = .ok (.putfield 63, 3) := by decide +kernel
theorem dX7_init_147 : decode cX7_init 147 = .ok (.aload_n 0, 1) := by decide +kernel
theorem dX7_init_148 : decode cX7_init 148 = .ok (.iconst 0, 1) := by decide +kernel
theorem dX7_init_149 : decode cX7_init 149 = .ok (.invokevirtual 66, 3) := by decide +kernel
theorem dX7_init_152 : decode cX7_init 152 = .ok (.iconst 0, 1) := by decide +kernel
theorem dX7_init_153 : decode cX7_init 153 = .ok (.istore_n 1, 1) := by decide +kernel
theorem dX7_init_154 : decode cX7_init 154 = .ok (.iload_n 1, 1) := by decide +kernel
theorem dX7_init_155 : decode cX7_init 155 = .ok (.bipush 6, 2) := by decide +kernel
theorem dX7_init_157 : decode cX7_init 157 = .ok (.if_icmp .ge 16, 3) := by decide +kernel
theorem dX7_init_160 : decode cX7_init 160 = .ok (.aload_n 0, 1) := by decide +kernel
theorem dX7_init_161 : decode cX7_init 161 = .ok (.getfield 39, 3) := by decide +kernel
theorem dX7_init_164 : decode cX7_init 164 = .ok (.iload_n 1, 1) := by decide +kernel
theorem dX7_init_165 : decode cX7_init 165 = .ok (.iconst 1, 1) := by decide +kernel
theorem dX7_init_166 : decode cX7_init 166 = .ok (.iastore, 1) := by decide +kernel
theorem dX7_init_167 : decode cX7_init 167 = .ok (.iinc 1 1, 3) := by decide +kernel
theorem dX7_init_170 : decode cX7_init 170 = .ok (.goto (-16), 3) := by decide +kernel
theorem dX7_init_173 : decode cX7_init 173 = .ok (.iconst 0, 1) := by decide +kernel
theorem dX7_init_174 : decode cX7_init 174 = .ok (.istore_n 1, 1) := by decide +kernel
theorem dX7_init_175 : decode cX7_init 175 = .ok (.iload_n 1, 1) := by decide +kernel
theorem dX7_init_176 : decode cX7_init 176 = .ok (.iconst 5, 1) := by decide +kernel
theorem dX7_init_177 : decode cX7_init 177 = .ok (.if_icmp .ge 17, 3) := by decide +kernel
theorem dX7_init_180 : decode cX7_init 180 = .ok (.aload_n 0, 1) := by decide +kernel
theorem dX7_init_181 : decode cX7_init 181 = .ok (.getfield 51, 3) := by decide +kernel
theorem dX7_init_184 : decode cX7_init 184 = .ok (.iload_n 1, 1) := by decide +kernel
theorem dX7_init_185 : decode cX7_init 185 = .ok (.bipush 10, 2) := by decide +kernel
theorem dX7_init_187 : decode cX7_init 187 = .ok (.iastore, 1) := by decide +kernel
theorem dX7_init_188 : decode cX7_init 188 = .ok (.iinc 1 1, 3) := by decide +kernel
theorem dX7_init_191 : decode cX7_init 191 = .ok (.goto (-16), 3) := by decide +kernel
theorem dX7_init_194 : decode cX7_init 194 = .ok (.aload_n 0, 1) := by decide +kernel
theorem dX7_init_195 : decode cX7_init 195 = .ok (.invokevirtual 70, 3) := by decide +kernel
theorem dX7_init_198 : decode cX7_init 198 = .ok (.pop, 1) := by decide +kernel
theorem dX7_init_199 : decode cX7_init 199 = .ok (.return_, 1) := by decide +kernel
theorem dX7_in_0 : decode cX7_in 0 = .ok (.iload_n 0, 1) := by decide +kernel
theorem dX7_in_1 : decode cX7_in 1 = .ok (.iload_n 1, 1) := by decide +kernel
theorem dX7_in_2 : decode cX7_in 2 = .ok (.if_icmp .lt 12, 3) := by decide +kernel
theorem dX7_in_5 : decode cX7_in 5 = .ok (.iload_n 0, 1) := by decide +kernel
theorem dX7_in_6 : decode cX7_in 6 = .ok (.iload_n 2, 1) := by decide +kernel
theorem dX7_in_7 : decode cX7_in 7 = .ok (.if_icmp .gt 7, 3) := by decide +kernel
theorem dX7_in_10 : decode cX7_in 10 = .ok (.iconst 1, 1) := by decide +kernel
theorem dX7_in_11 : decode cX7_in 11 = .ok (.goto 4, 3) := by decide +kernel
theorem dX7_in_14 : decode cX7_in 14 = .ok (.iconst 0, 1) := by decide +kernel
theorem dX7_in_15 : decode cX7_in 15 = .ok (.ireturn, 1) := by decide +kernel
theorem dX7_tellPlain_0 : decode cX7_tellPlain 0 = .ok (.aload_n 0, 1) := by decide +kernel
theorem dX7_tellPlain_1 : decode cX7_tellPlain 1 = .ok (.getfield 13, 3) := by decide +kernel
theorem dX7_tellPlain_4 : decode cX7_tellPlain 4 = .ok (.iload_n 1, 1) := by decide +kernel
theorem dX7_tellPlain_5 : decode cX7_tellPlain 5 = .ok (.iconst 0, 1) := by decide +kernel
theorem dX7_tellPlain_6 : decode cX7_tellPlain 6 = .ok (.iadd, 1) := by decide +kernel
theorem dX7_tellPlain_7 : decode cX7_tellPlain 7 = .ok (.bipush 40, 2) := by decide +kernel
theorem dX7_tellPlain_9 : decode cX7_tellPlain 9 = .ok (.iastore, 1) := by decide +kernel
theorem dX7_tellPlain_10 : decode cX7_tellPlain 10 = .ok (.aload_n 0, 1) := by decide +kernel
theorem dX7_tellPlain_11 : decode cX7_tellPlain 11 = .ok (.getfield 13, 3) := by decide +kernel
theorem dX7_tellPlain_14 : decode cX7_tellPlain 14 = .ok (.iload_n 1, 1) := by decide +kernel
theorem dX7_tellPlain_15 : decode cX7_tellPlain 15 = .ok (.iconst 1, 1) := by decide +kernel
theorem dX7_tellPlain_16 : decode cX7_tellPlain 16 = .ok (.iadd, 1) := by decide +kernel
theorem dX7_tellPlain_17 : decode cX7_tellPlain 17 = .ok (.bipush 10, 2) := by decide +kernel
theorem dX7_tellPlain_19 : decode cX7_tellPlain 19 = .ok (.iastore, 1) := by decide +kernel
theorem dX7_tellPlain_20 : decode cX7_tellPlain 20 = .ok (.aload_n 0, 1) := by decide +kernel
theorem dX7_tellPlain_21 : decode cX7_tellPlain 21 = .ok (.getfield 13, 3) := by decide +kernel
theorem dX7_tellPlain_24 : decode cX7_tellPlain 24 = .ok (.iload_n 1, 1) := by decide +kernel
theorem dX7_tellPlain_25 : decode cX7_tellPlain 25 = .ok (.iconst 2, 1) := by decide +kernel
theorem dX7_tellPlain_26 : decode cX7_tellPlain 26 = .ok (.iadd, 1) := by decide +kernel
theorem dX7_tellPlain_27 : decode cX7_tellPlain 27 = .ok (.bipush 26, 2) := by decide +kernel
theorem dX7_tellPlain_29 : decode cX7_tellPlain 29 = .ok (.iastore, 1) := by decide +kernel
theorem dX7_tellPlain_30 : decode cX7_tellPlain 30 = .ok (.aload_n 0, 1) := by decide +kernel
theorem dX7_tellPlain_31 : decode cX7_tellPlain 31 = .ok (.getfield 13, 3) := by decide +kernel
theorem dX7_tellPlain_34 : decode cX7_tellPlain 34 = .ok (.iload_n 1, 1) := by decide +kernel
theorem dX7_tellPlain_35 : decode cX7_tellPlain 35 = .ok (.iconst 3, 1) := by decide +kernel
theorem dX7_tellPlain_36 : decode cX7_tellPlain 36 = .ok (.iadd, 1) := by decide +kernel
theorem dX7_tellPlain_37 : decode cX7_tellPlain 37 = .ok (.bipush 20, 2) := by decide +kernel
theorem dX7_tellPlain_39 : decode cX7_tellPlain 39 = .ok (.iastore, 1) := by decide +kernel
theorem dX7_tellPlain_40 : decode cX7_tellPlain 40 = .ok (.aload_n 0, 1) := by decide +kernel
theorem dX7_tellPlain_41 : decode cX7_tellPlain 41 = .ok (.getfield 13, 3) := by decide +kernel
theorem dX7_tellPlain_44 : decode cX7_tellPlain 44 = .ok (.iload_n 1, 1) := by decide +kernel
theorem dX7_tellPlain_45 : decode cX7_tellPlain 45 = .ok (.iconst 4, 1) := by decide +kernel
theorem dX7_tellPlain_46 : decode cX7_tellPlain 46 = .ok (.iadd, 1) := by decide +kernel
theorem dX7_tellPlain_47 : decode cX7_tellPlain 47 = .ok (.bipush 10, 2) := by decide +kernel
theorem dX7_tellPlain_49 : decode cX7_tellPlain 49 = .ok (.iastore, 1) := by decide +kernel
theorem dX7_tellPlain_50 : decode cX7_tellPlain 50 = .ok (.aload_n 0, 1) := by decide +kernel
theorem dX7_tellPlain_51 : decode cX7_tellPlain 51 = .ok (.getfield 13, 3) := by decide +kernel
theorem dX7_tellPlain_54 : decode cX7_tellPlain 54 = .ok (.iload_n 1, 1) := by decide +kernel
theorem dX7_tellPlain_55 : decode cX7_tellPlain 55 = .ok (.iconst 5, 1) := by decide +kernel
theorem dX7_tellPlain_56 : decode cX7_tellPlain 56 = .ok (.iadd, 1) := by decide +kernel
theorem dX7_tellPlain_57 : decode cX7_tellPlain 57 = .ok (.iconst 0, 1) := by decide +kernel
theorem dX7_tellPlain_58 : decode cX7_tellPlain 58 = .ok (.iastore, 1) := by decide +kernel
theorem dX7_tellPlain_59 : decode cX7_tellPlain 59 = .ok (.aload_n 0, 1) := by decide +kernel
theorem dX7_tellPlain_60 : decode cX7_tellPlain 60 = .ok (.getfield 13, 3) := by decide +kernel
theorem dX7_tellPlain_63 : decode cX7_tellPlain 63 = .ok (.iload_n 1, 1) := by decide +kernel
theorem dX7_tellPlain_64 : decode cX7_tellPlain 64 = .ok (.bipush 6, 2) := by decide +kernel
theorem dX7_tellPlain_66 : decode cX7_tellPlain 66 = .ok (.iadd, 1) := by decide +kernel
theorem dX7_tellPlain_67 : decode cX7_tellPlain 67 = .ok (.bipush 99, 2) := by decide +kernel
theorem dX7_tellPlain_69 : decode cX7_tellPlain 69 = .ok (.iastore, 1) := by decide +kernel
theorem dX7_tellPlain_70 : decode cX7_tellPlain 70 = .ok (.aload_n 0, 1) := by decide +kernel
theorem dX7_tellPlain_71 : decode cX7_tellPlain 71 = .ok (.getfield 13, 3) := by decide +kernel
theorem dX7_tellPlain_74 : decode cX7_tellPlain 74 = .ok (.iload_n 1, 1) := by decide +kernel
theorem dX7_tellPlain_75 : decode cX7_tellPlain 75 = .ok (.bipush 7, 2) := by decide +kernel
theorem dX7_tellPlain_77 : decode cX7_tellPlain 77 = .ok (.iadd, 1) := by decide +kernel
theorem dX7_tellPlain_78 : decode cX7_tellPlain 78 = .ok (.iconst 0, 1) := by decide +kernel
theorem dX7_tellPlain_79 : decode cX7_tellPlain 79 = .ok (.iastore, 1) := by decide +kernel
theorem dX7_tellPlain_80 : decode cX7_tellPlain 80 = .ok (.aload_n 0, 1) := by decide +kernel
theorem dX7_tellPlain_81 : decode cX7_tellPlain 81 = .ok (.getfield 13, 3) := by decide +kernel
theorem dX7_tellPlain_84 : decode cX7_tellPlain 84 = .ok (.iload_n 1, 1) := by decide +kernel
theorem dX7_tellPlain_85 : decode cX7_tellPlain 85 = .ok (.bipush 8, 2) := by decide +kernel
theorem dX7_tellPlain_87 : decode cX7_tellPlain 87 = .ok (.iadd, 1) := by decide +kernel
theorem dX7_tellPlain_88 : decode cX7_tellPlain 88 = .ok (.bipush 100, 2) := by decide +kernel
theorem dX7_tellPlain_90 : decode cX7_tellPlain 90 = .ok (.iastore, 1) := by decide +kernel
theorem dX7_tellPlain_91 : decode cX7_tellPlain 91 = .ok (.aload_n 0, 1) := by decide +kernel
theorem dX7_tellPlain_92 : decode cX7_tellPlain 92 = .ok (.getfield 13, 3) := by decide +kernel
theorem dX7_tellPlain_95 : decode cX7_tellPlain 95 = .ok (.iload_n 1, 1) := by decide +kernel
theorem dX7_tellPlain_96 : decode cX7_tellPlain 96 = .ok (.bipush 9, 2) := by decide +kernel
theorem dX7_tellPlain_98 : decode cX7_tellPlain 98 = .ok (.iadd, 1) := by decide +kernel
theorem dX7_tellPlain_99 : decode cX7_tellPlain 99 = .ok (.iconst 0, 1) := by decide +kernel
theorem dX7_tellPlain_100 : decode cX7_tellPlain 100 = .ok (.iastore, 1) := by decide +kernel
theorem dX7_tellPlain_101 : decode cX7_tellPlain 101 = .ok (.aload_n 0, 1) := by decide +kernel
theorem dX7_tellPlain_102 : decode cX7_tellPlain 102 = .ok (.getfield 13, 3) := by decide +kernel
theorem dX7_tellPlain_105 : decode cX7_tellPlain 105 = .ok (.iload_n 1, 1) := by decide +kernel
theorem dX7_tellPlain_106 : decode cX7_tellPlain 106 = .ok (.bipush 10, 2) := by decide +kernel
theorem dX7_tellPlain_108 : decode cX7_tellPlain 108 = .ok (.iadd, 1) := by decide +kernel
theorem dX7_tellPlain_109 : decode cX7_tellPlain 109 = .ok (.iconst 0, 1) := by decide +kernel
theorem dX7_tellPlain_110 : decode cX7_tellPlain 110 = .ok (.iastore, 1) := by decide +kernel
theorem dX7_tellPlain_111 : decode cX7_tellPlain 111 = .ok (.return_, 1) := by decide +kernel
set_option maxRecDepth 20000 in
theorem ggX7_type_X7_in : GoodIn wsX7_type wsX7_in := goodIn_r _ [7] (by decide +kernel) (by decide +kernel)
set_option maxRecDepth 20000 in
theorem gX7_type_X7_in : GoodIn wsX7_type (va_wsS RX7 74 yX7_in wsX7_in) := goodIn_app (goodIn_of _ (by decide +kernel)) ggX7_type_X7_in
theorem dX7_type_0 : decode cX7_type 0 = .ok (.iload_n 3, 1) := by decide +kernel
theorem dX7_type_1 : decode cX7_type 1 = .ok (.iconst 1, 1) := by decide +kernel
theorem dX7_type_2 : decode cX7_type 2 = .ok (.bipush 8, 2) := by decide +kernel
theorem dX7_type_4 : decode cX7_type 4 = .ok (.invokestatic 74, 3) := by decide +kernel
theorem dX7_type_7 : decode cX7_type 7 = .ok (.ifCond .ne 5, 3) := by decide +kernel
theorem dX7_type_10 : decode cX7_type 10 = .ok (.iconst (-1), 1) := by decide +kernel
theorem dX7_type_11 : decode cX7_type 11 = .ok (.ireturn, 1) := by decide +kernel
theorem dX7_type_12 : decode cX7_type 12 = .ok (.aload_n 0, 1) := by decide +kernel
theorem dX7_type_13 : decode cX7_type 13 = .ok (.getfield 78, 3) := by decide +kernel
theorem dX7_type_16 : decode cX7_type 16 = .ok (.iload_n 3, 1) := by decide +kernel
theorem dX7_type_17 : decode cX7_type 17 = .ok (.iadd, 1) := by decide +kernel
theorem dX7_type_18 : decode cX7_type 18 = .ok (.sipush 300, 3) := by decide +kernel
theorem dX7_type_21 : decode cX7_type 21 = .ok (.if_icmp .le 6, 3) := by decide +kernel
theorem dX7_type_24 : decode cX7_type 24 = .ok (.bipush (-3), 2) := by decide +kernel
theorem dX7_type_26 : decode cX7_type 26 = .ok (.ireturn, 1) := by decide +kernel
theorem dX7_type_27 : decode cX7_type 27 = .ok (.iload_n 3, 1) := by decide +kernel
theorem dX7_type_28 : decode cX7_type 28 = .ok (.iconst 1, 1) := by decide +kernel
theorem dX7_type_29 : decode cX7_type 29 = .ok (.isub, 1) := by decide +kernel
theorem dX7_type_30 : decode cX7_type 30 = .ok (.istore 4, 2) := by decide +kernel
theorem dX7_type_32 : decode cX7_type 32 = .ok (.iload 4, 2) := by decide +kernel
theorem dX7_type_34 : decode cX7_type 34 = .ok (.ifCond .lt 41, 3) := by decide +kernel
theorem dX7_type_37 : decode cX7_type 37 = .ok (.aload_n 0, 1) := by decide +kernel
theorem dX7_type_38 : decode cX7_type 38 = .ok (.getfield 7, 3) := by decide +kernel
theorem dX7_type_41 : decode cX7_type 41 = .ok (.aload_n 0, 1) := by decide +kernel
theorem dX7_type_42 : decode cX7_type 42 = .ok (.getfield 78, 3) := by decide +kernel
theorem dX7_type_45 : decode cX7_type 45 = .ok (.lload_n 1, 1) := by decide +kernel
theorem dX7_type_46 : decode cX7_type 46 = .ok (.bipush 8, 2) := by decide +kernel
theorem dX7_type_48 : decode cX7_type 48 = .ok (.iload 4, 2) := by decide +kernel
theorem dX7_type_50 : decode cX7_type 50 = .ok (.imul, 1) := by decide +kernel
theorem dX7_type_51 : decode cX7_type 51 = .ok (.lshr, 1) := by decide +kernel
theorem dX7_type_52 : decode cX7_type 52 = .ok (.ldc2_w 82, 3) := by decide +kernel
theorem dX7_type_55 : decode cX7_type 55 = .ok (.land, 1) := by decide +kernel
theorem dX7_type_56 : decode cX7_type 56 = .ok (.l2i, 1) := by decide +kernel
theorem dX7_type_57 : decode cX7_type 57 = .ok (.i2b, 1) := by decide +kernel
theorem dX7_type_58 : decode cX7_type 58 = .ok (.bastore, 1) := by decide +kernel
theorem dX7_type_59 : decode cX7_type 59 = .ok (.aload_n 0, 1) := by decide +kernel
theorem dX7_type_60 : decode cX7_type 60 = .ok (.dup, 1) := by decide +kernel
theorem dX7_type_61 : decode cX7_type 61 = .ok (.getfield 78, 3) := by decide +kernel
theorem dX7_type_64 : decode cX7_type 64 = .ok (.iconst 1, 1) := by decide +kernel
theorem dX7_type_65 : decode cX7_type 65 = .ok (.iadd, 1) := by decide +kernel
theorem dX7_type_66 : decode cX7_type 66 = .ok (.putfield 78, 3) := by decide +kernel
theorem dX7_type_69 : decode cX7_type 69 = .ok (.iinc 4 (-1), 3) := by decide +kernel
theorem dX7_type_72 : decode cX7_type 72 = .ok (.goto (-40), 3) := by decide +kernel
theorem dX7_type_75 : decode cX7_type 75 = .ok (.aload_n 0, 1) := by decide +kernel
theorem dX7_type_76 : decode cX7_type 76 = .ok (.getfield 78, 3) := by decide +kernel
theorem dX7_type_79 : decode cX7_type 79 = .ok (.ireturn, 1) := by decide +kernel
theorem dX7_clear_0 : decode cX7_clear 0 = .ok (.aload_n 0, 1) := by decide +kernel
theorem dX7_clear_1 : decode cX7_clear 1 = .ok (.getfield 78, 3) := by decide +kernel
theorem dX7_clear_4 : decode cX7_clear 4 = .ok (.istore_n 1, 1) := by decide +kernel
theorem dX7_clear_5 : decode cX7_clear 5 = .ok (.aload_n 0, 1) := by decide +kernel
theorem dX7_clear_6 : decode cX7_clear 6 = .ok (.iconst 0, 1) := by decide +kernel
theorem dX7_clear_7 : decode cX7_clear 7 = .ok (.putfield 78, 3) := by decide +kernel
theorem dX7_clear_10 : decode cX7_clear 10 = .ok (.iload_n 1, 1) := by decide +kernel
theorem dX7_clear_11 : decode cX7_clear 11 = .ok (.ireturn, 1) := by decide +kernel
theorem dX7_here_0 : decode cX7_here 0 = .ok (.aload_n 0, 1) := by decide +kernel
theorem dX7_here_1 : decode cX7_here 1 = .ok (.getfield 84, 3) := by decide +kernel
theorem dX7_here_4 : decode cX7_here 4 = .ok (.aload_n 0, 1) := by decide +kernel
theorem dX7_here_5 : decode cX7_here 5 = .ok (.getfield 78, 3) := by decide +kernel
theorem dX7_here_8 : decode cX7_here 8 = .ok (.if_icmp .ge 19, 3) := by decide +kernel
theorem dX7_here_11 : decode cX7_here 11 = .ok (.aload_n 0, 1) := by decide +kernel
theorem dX7_here_12 : decode cX7_here 12 = .ok (.getfield 7, 3) := by decide +kernel
theorem dX7_here_15 : decode cX7_here 15 = .ok (.aload_n 0, 1) := by decide +kernel
theorem dX7_here_16 : decode cX7_here 16 = .ok (.getfield 84, 3) := by decide +kernel
theorem dX7_here_19 : decode cX7_here 19 = .ok (.baload, 1) := by decide +kernel
theorem dX7_here_20 : decode cX7_here 20 = .ok (.sipush 255, 3) := by decide +kernel
theorem dX7_here_23 : decode cX7_here 23 = .ok (.iand, 1) := by decide +kernel
theorem dX7_here_24 : decode cX7_here 24 = .ok (.goto 4, 3) := by decide +kernel
theorem dX7_here_27 : decode cX7_here 27 = .ok (.iconst (-1), 1) := by decide +kernel
theorem dX7_here_28 : decode cX7_here 28 = .ok (.ireturn, 1) := by decide +kernel
theorem dX7_meaning_0 : decode cX7_meaning 0 = .ok (.iload_n 1, 1) := by decide +kernel
theorem dX7_meaning_1 : decode cX7_meaning 1 = .ok (.ifCond .le 23, 3) := by decide +kernel
theorem dX7_meaning_4 : decode cX7_meaning 4 = .ok (.iload_n 0, 1) := by decide +kernel
theorem dX7_meaning_5 : decode cX7_meaning 5 = .ok (.ldc 87, 2) := by decide +kernel
theorem dX7_meaning_7 : decode cX7_meaning 7 = .ok (.if_icmp .ne 14, 3) := by decide +kernel
theorem dX7_meaning_10 : decode cX7_meaning 10 = .ok (.iload_n 1, 1) := by decide +kernel
theorem dX7_meaning_11 : decode cX7_meaning 11 = .ok (.bipush 18, 2) := by decide +kernel
theorem dX7_meaning_13 : decode cX7_meaning 13 = .ok (.if_icmp .ne 8, 3) := by decide +kernel
theorem dX7_meaning_16 : decode cX7_meaning 16 = .ok (.bipush 8, 2) := by decide +kernel
theorem dX7_meaning_18 : decode cX7_meaning 18 = .ok (.goto 5, 3) := by decide +kernel
theorem dX7_meaning_21 : decode cX7_meaning 21 = .ok (.bipush 23, 2) := by decide +kernel
theorem dX7_meaning_23 : decode cX7_meaning 23 = .ok (.ireturn, 1) := by decide +kernel
theorem dX7_meaning_24 : decode cX7_meaning 24 = .ok (.iload_n 0, 1) := by decide +kernel
theorem dX7_meaning_25 : decode cX7_meaning 25 = .ok (.lookupswitch 63 #[(126889, 55), (330604, 51), (456690, 53), (5616614, 57), (8740067, 60)], 51) := by decide +kernel
theorem dX7_meaning_76 : decode cX7_meaning 76 = .ok (.iconst 0, 1) := by decide +kernel
theorem dX7_meaning_77 : decode cX7_meaning 77 = .ok (.ireturn, 1) := by decide +kernel
theorem dX7_meaning_78 : decode cX7_meaning 78 = .ok (.iconst 2, 1) := by decide +kernel
theorem dX7_meaning_79 : decode cX7_meaning 79 = .ok (.ireturn, 1) := by decide +kernel
theorem dX7_meaning_80 : decode cX7_meaning 80 = .ok (.iconst 5, 1) := by decide +kernel
theorem dX7_meaning_81 : decode cX7_meaning 81 = .ok (.ireturn, 1) := by decide +kernel
theorem dX7_meaning_82 : decode cX7_meaning 82 = .ok (.bipush 6, 2) := by decide +kernel
theorem dX7_meaning_84 : decode cX7_meaning 84 = .ok (.ireturn, 1) := by decide +kernel
theorem dX7_meaning_85 : decode cX7_meaning 85 = .ok (.bipush 9, 2) := by decide +kernel
theorem dX7_meaning_87 : decode cX7_meaning 87 = .ok (.ireturn, 1) := by decide +kernel
theorem dX7_meaning_88 : decode cX7_meaning 88 = .ok (.bipush 23, 2) := by decide +kernel
theorem dX7_meaning_90 : decode cX7_meaning 90 = .ok (.ireturn, 1) := by decide +kernel
set_option maxRecDepth 20000 in
theorem ggX7_next_X7_here : GoodIn wsX7_next wsX7_here := goodIn_r _ [9, 1, 10, 11, 19, 20, 21, 22, 23, 24, 25, 26, 27, 28, 29, 30, 31, 32, 33, 34, 35, 36, 37, 38, 39, 40, 41, 42, 43, 44, 45, 46, 47, 48] (by decide +kernel) (by decide +kernel)
set_option maxRecDepth 20000 in
theorem gX7_next_X7_here : GoodIn wsX7_next (wsV RX7 88 RX7 yX7_here wsX7_here) := goodIn_app (goodIn_of _ (by decide +kernel)) ggX7_next_X7_here
set_option maxRecDepth 20000 in
theorem ggX7_next_X7_in : GoodIn wsX7_next wsX7_in := goodIn_r _ [14] (by decide +kernel) (by decide +kernel)
set_option maxRecDepth 20000 in
theorem gX7_next_X7_in : GoodIn wsX7_next (va_wsS RX7 74 yX7_in wsX7_in) := goodIn_app (goodIn_of _ (by decide +kernel)) ggX7_next_X7_in
set_option maxRecDepth 20000 in
theorem ggX7_next_X7_meaning : GoodIn wsX7_next wsX7_meaning := goodIn_r _ [17, 18] (by decide +kernel) (by decide +kernel)
set_option maxRecDepth 20000 in
theorem gX7_next_X7_meaning : GoodIn wsX7_next (va_wsS RX7 100 yX7_meaning wsX7_meaning) := goodIn_app (goodIn_of _ (by decide +kernel)) ggX7_next_X7_meaning
theorem dX7_next_0 : decode cX7_next 0 = .ok (.aload_n 0, 1) := by decide +kernel
theorem dX7_next_1 : decode cX7_next 1 = .ok (.invokevirtual 88, 3) := by decide +kernel
theorem dX7_next_4 : decode cX7_next 4 = .ok (.bipush 32, 2) := by decide +kernel
theorem dX7_next_6 : decode cX7_next 6 = .ok (.if_icmp .ne 16, 3) := by decide +kernel
theorem dX7_next_9 : decode cX7_next 9 = .ok (.aload_n 0, 1) := by decide +kernel
theorem dX7_next_10 : decode cX7_next 10 = .ok (.dup, 1) := by decide +kernel
theorem dX7_next_11 : decode cX7_next 11 = .ok (.getfield 84, 3) := by decide +kernel
theorem dX7_next_14 : decode cX7_next 14 = .ok (.iconst 1, 1) := by decide +kernel
theorem dX7_next_15 : decode cX7_next 15 = .ok (.iadd, 1) := by decide +kernel
theorem dX7_next_16 : decode cX7_next 16 = .ok (.putfield 84, 3) := by decide +kernel
theorem dX7_next_19 : decode cX7_next 19 = .ok (.goto (-19), 3) := by decide +kernel
theorem dX7_next_22 : decode cX7_next 22 = .ok (.aload_n 0, 1) := by decide +kernel
theorem dX7_next_23 : decode cX7_next 23 = .ok (.aload_n 0, 1) := by decide +kernel
theorem dX7_next_24 : decode cX7_next 24 = .ok (.getfield 84, 3) := by decide +kernel
theorem dX7_next_27 : decode cX7_next 27 = .ok (.putfield 91, 3) := by decide +kernel
theorem dX7_next_30 : decode cX7_next 30 = .ok (.aload_n 0, 1) := by decide +kernel
theorem dX7_next_31 : decode cX7_next 31 = .ok (.iconst 0, 1) := by decide +kernel
theorem dX7_next_32 : decode cX7_next 32 = .ok (.putfield 94, 3) := by decide +kernel
theorem dX7_next_35 : decode cX7_next 35 = .ok (.aload_n 0, 1) := by decide +kernel
theorem dX7_next_36 : decode cX7_next 36 = .ok (.invokevirtual 88, 3) := by decide +kernel
theorem dX7_next_39 : decode cX7_next 39 = .ok (.istore_n 1, 1) := by decide +kernel
theorem dX7_next_40 : decode cX7_next 40 = .ok (.iload_n 1, 1) := by decide +kernel
theorem dX7_next_41 : decode cX7_next 41 = .ok (.ifCond .ge 12, 3) := by decide +kernel
theorem dX7_next_44 : decode cX7_next 44 = .ok (.aload_n 0, 1) := by decide +kernel
theorem dX7_next_45 : decode cX7_next 45 = .ok (.bipush 20, 2) := by decide +kernel
theorem dX7_next_47 : decode cX7_next 47 = .ok (.putfield 97, 3) := by decide +kernel
theorem dX7_next_50 : decode cX7_next 50 = .ok (.goto 265, 3) := by decide +kernel
theorem dX7_next_53 : decode cX7_next 53 = .ok (.iload_n 1, 1) := by decide +kernel
theorem dX7_next_54 : decode cX7_next 54 = .ok (.bipush 97, 2) := by decide +kernel
theorem dX7_next_56 : decode cX7_next 56 = .ok (.bipush 122, 2) := by decide +kernel
theorem dX7_next_58 : decode cX7_next 58 = .ok (.invokestatic 74, 3) := by decide +kernel
theorem dX7_next_61 : decode cX7_next 61 = .ok (.ifCond .eq 112, 3) := by decide +kernel
theorem dX7_next_64 : decode cX7_next 64 = .ok (.iconst 0, 1) := by decide +kernel
theorem dX7_next_65 : decode cX7_next 65 = .ok (.istore_n 2, 1) := by decide +kernel
theorem dX7_next_66 : decode cX7_next 66 = .ok (.iconst 0, 1) := by decide +kernel
theorem dX7_next_67 : decode cX7_next 67 = .ok (.istore_n 3, 1) := by decide +kernel
theorem dX7_next_68 : decode cX7_next 68 = .ok (.aload_n 0, 1) := by decide +kernel
theorem dX7_next_69 : decode cX7_next 69 = .ok (.invokevirtual 88, 3) := by decide +kernel
theorem dX7_next_72 : decode cX7_next 72 = .ok (.bipush 97, 2) := by decide +kernel
theorem dX7_next_74 : decode cX7_next 74 = .ok (.bipush 122, 2) := by decide +kernel
theorem dX7_next_76 : decode cX7_next 76 = .ok (.invokestatic 74, 3) := by decide +kernel
theorem dX7_next_79 : decode cX7_next 79 = .ok (.ifCond .eq 82, 3) := by decide +kernel
theorem dX7_next_82 : decode cX7_next 82 = .ok (.aload_n 0, 1) := by decide +kernel
theorem dX7_next_83 : decode cX7_next 83 = .ok (.getfield 84, 3) := by decide +kernel
theorem dX7_next_86 : decode cX7_next 86 = .ok (.aload_n 0, 1) := by decide +kernel
theorem dX7_next_87 : decode cX7_next 87 = .ok (.getfield 91, 3) := by decide +kernel
theorem dX7_next_90 : decode cX7_next 90 = .ok (.isub, 1) := by decide +kernel
theorem dX7_next_91 : decode cX7_next 91 = .ok (.istore 4, 2) := by decide +kernel
theorem dX7_next_93 : decode cX7_next 93 = .ok (.iload 4, 2) := by decide +kernel
theorem dX7_next_95 : decode cX7_next 95 = .ok (.bipush 6, 2) := by decide +kernel
theorem dX7_next_97 : decode cX7_next 97 = .ok (.if_icmp .ge 18, 3) := by decide +kernel
theorem dX7_next_100 : decode cX7_next 100 = .ok (.bipush 27, 2) := by decide +kernel
theorem dX7_next_102 : decode cX7_next 102 = .ok (.iload_n 2, 1) := by decide +kernel
theorem dX7_next_103 : decode cX7_next 103 = .ok (.imul, 1) := by decide +kernel
theorem dX7_next_104 : decode cX7_next 104 = .ok (.aload_n 0, 1) := by decide +kernel
theorem dX7_next_105 : decode cX7_next 105 = .ok (.invokevirtual 88, 3) := by decide +kernel
theorem dX7_next_108 : decode cX7_next 108 = .ok (.iadd, 1) := by decide +kernel
theorem dX7_next_109 : decode cX7_next 109 = .ok (.bipush 96, 2) := by decide +kernel
theorem dX7_next_111 : decode cX7_next 111 = .ok (.isub, 1) := by decide +kernel
theorem dX7_next_112 : decode cX7_next 112 = .ok (.goto 4, 3) := by decide +kernel
theorem dX7_next_115 : decode cX7_next 115 = .ok (.iload_n 2, 1) := by decide +kernel
theorem dX7_next_116 : decode cX7_next 116 = .ok (.istore_n 2, 1) := by decide +kernel
theorem dX7_next_117 : decode cX7_next 117 = .ok (.iload 4, 2) := by decide +kernel
theorem dX7_next_119 : decode cX7_next 119 = .ok (.bipush 6, 2) := by decide +kernel
theorem dX7_next_121 : decode cX7_next 121 = .ok (.if_icmp .ne 13, 3) := by decide +kernel
theorem dX7_next_124 : decode cX7_next 124 = .ok (.aload_n 0, 1) := by decide +kernel
theorem dX7_next_125 : decode cX7_next 125 = .ok (.invokevirtual 88, 3) := by decide +kernel
theorem dX7_next_128 : decode cX7_next 128 = .ok (.bipush 96, 2) := by decide +kernel
theorem dX7_next_130 : decode cX7_next 130 = .ok (.isub, 1) := by decide +kernel
theorem dX7_next_131 : decode cX7_next 131 = .ok (.goto 16, 3) := by decide +kernel
theorem dX7_next_134 : decode cX7_next 134 = .ok (.iload 4, 2) := by decide +kernel
theorem dX7_next_136 : decode cX7_next 136 = .ok (.bipush 6, 2) := by decide +kernel
theorem dX7_next_138 : decode cX7_next 138 = .ok (.if_icmp .le 8, 3) := by decide +kernel
theorem dX7_next_141 : decode cX7_next 141 = .ok (.bipush 99, 2) := by decide +kernel
theorem dX7_next_143 : decode cX7_next 143 = .ok (.goto 4, 3) := by decide +kernel
theorem dX7_next_146 : decode cX7_next 146 = .ok (.iload_n 3, 1) := by decide +kernel
theorem dX7_next_147 : decode cX7_next 147 = .ok (.istore_n 3, 1) := by decide +kernel
theorem dX7_next_148 : decode cX7_next 148 = .ok (.aload_n 0, 1) := by decide +kernel
theorem dX7_next_149 : decode cX7_next 149 = .ok (.dup, 1) := by decide +kernel
theorem dX7_next_150 : decode cX7_next 150 = .ok (.getfield 84, 3) := by decide +kernel
theorem dX7_next_153 : decode cX7_next 153 = .ok (.iconst 1, 1) := by decide +kernel
theorem dX7_next_154 : decode cX7_next 154 = .ok (.iadd, 1) := by decide +kernel
theorem dX7_next_155 : decode cX7_next 155 = .ok (.putfield 84, 3) := by decide +kernel
theorem dX7_next_158 : decode cX7_next 158 = .ok (.goto (-90), 3) := by decide +kernel
theorem dX7_next_161 : decode cX7_next 161 = .ok (.aload_n 0, 1) := by decide +kernel
theorem dX7_next_162 : decode cX7_next 162 = .ok (.iload_n 2, 1) := by decide +kernel
theorem dX7_next_163 : decode cX7_next 163 = .ok (.iload_n 3, 1) := by decide +kernel
theorem dX7_next_164 : decode cX7_next 164 = .ok (.invokestatic 100, 3) := by decide +kernel
theorem dX7_next_167 : decode cX7_next 167 = .ok (.putfield 97, 3) := by decide +kernel
theorem dX7_next_170 : decode cX7_next 170 = .ok (.goto 145, 3) := by decide +kernel
theorem dX7_next_173 : decode cX7_next 173 = .ok (.iload_n 1, 1) := by decide +kernel
theorem dX7_next_174 : decode cX7_next 174 = .ok (.bipush 48, 2) := by decide +kernel
theorem dX7_next_176 : decode cX7_next 176 = .ok (.bipush 57, 2) := by decide +kernel
theorem dX7_next_178 : decode cX7_next 178 = .ok (.invokestatic 74, 3) := by decide +kernel
theorem dX7_next_181 : decode cX7_next 181 = .ok (.ifCond .eq 107, 3) := by decide +kernel
theorem dX7_next_184 : decode cX7_next 184 = .ok (.aload_n 0, 1) := by decide +kernel
theorem dX7_next_185 : decode cX7_next 185 = .ok (.invokevirtual 88, 3) := by decide +kernel
theorem dX7_next_188 : decode cX7_next 188 = .ok (.bipush 48, 2) := by decide +kernel
theorem dX7_next_190 : decode cX7_next 190 = .ok (.bipush 57, 2) := by decide +kernel
theorem dX7_next_192 : decode cX7_next 192 = .ok (.invokestatic 74, 3) := by decide +kernel
theorem dX7_next_195 : decode cX7_next 195 = .ok (.ifCond .eq 51, 3) := by decide +kernel
theorem dX7_next_198 : decode cX7_next 198 = .ok (.aload_n 0, 1) := by decide +kernel
theorem dX7_next_199 : decode cX7_next 199 = .ok (.aload_n 0, 1) := by decide +kernel
theorem dX7_next_200 : decode cX7_next 200 = .ok (.getfield 94, 3) := by decide +kernel
theorem dX7_next_203 : decode cX7_next 203 = .ok (.bipush 100, 2) := by decide +kernel
theorem dX7_next_205 : decode cX7_next 205 = .ok (.if_icmp .le 10, 3) := by decide +kernel
theorem dX7_next_208 : decode cX7_next 208 = .ok (.aload_n 0, 1) := by decide +kernel
theorem dX7_next_209 : decode cX7_next 209 = .ok (.getfield 94, 3) := by decide +kernel
theorem dX7_next_212 : decode cX7_next 212 = .ok (.goto 18, 3) := by decide +kernel
theorem dX7_next_215 : decode cX7_next 215 = .ok (.bipush 10, 2) := by decide +kernel
theorem dX7_next_217 : decode cX7_next 217 = .ok (.aload_n 0, 1) := by decide +kernel
theorem dX7_next_218 : decode cX7_next 218 = .ok (.getfield 94, 3) := by decide +kernel
theorem dX7_next_221 : decode cX7_next 221 = .ok (.imul, 1) := by decide +kernel
theorem dX7_next_222 : decode cX7_next 222 = .ok (.aload_n 0, 1) := by decide +kernel
theorem dX7_next_223 : decode cX7_next 223 = .ok (.invokevirtual 88, 3) := by decide +kernel
theorem dX7_next_226 : decode cX7_next 226 = .ok (.iadd, 1) := by decide +kernel
theorem dX7_next_227 : decode cX7_next 227 = .ok (.bipush 48, 2) := by decide +kernel
theorem dX7_next_229 : decode cX7_next 229 = .ok (.isub, 1) := by decide +kernel
theorem dX7_next_230 : decode cX7_next 230 = .ok (.putfield 94, 3) := by decide +kernel
theorem dX7_next_233 : decode cX7_next 233 = .ok (.aload_n 0, 1) := by decide +kernel
theorem dX7_next_234 : decode cX7_next 234 = .ok (.dup, 1) := by decide +kernel
theorem dX7_next_235 : decode cX7_next 235 = .ok (.getfield 84, 3) := by decide +kernel
theorem dX7_next_238 : decode cX7_next 238 = .ok (.iconst 1, 1) := by decide +kernel
theorem dX7_next_239 : decode cX7_next 239 = .ok (.iadd, 1) := by decide +kernel
theorem dX7_next_240 : decode cX7_next 240 = .ok (.putfield 84, 3) := by decide +kernel
theorem dX7_next_243 : decode cX7_next 243 = .ok (.goto (-59), 3) := by decide +kernel
theorem dX7_next_246 : decode cX7_next 246 = .ok (.aload_n 0, 1) := by decide +kernel
theorem dX7_next_247 : decode cX7_next 247 = .ok (.aload_n 0, 1) := by decide +kernel
theorem dX7_next_248 : decode cX7_next 248 = .ok (.getfield 94, 3) := by decide +kernel
theorem dX7_next_251 : decode cX7_next 251 = .ok (.bipush 100, 2) := by decide +kernel
theorem dX7_next_253 : decode cX7_next 253 = .ok (.if_icmp .gt 22, 3) := by decide +kernel
theorem dX7_next_256 : decode cX7_next 256 = .ok (.iload_n 1, 1) := by decide +kernel
theorem dX7_next_257 : decode cX7_next 257 = .ok (.bipush 48, 2) := by decide +kernel
theorem dX7_next_259 : decode cX7_next 259 = .ok (.if_icmp .ne 21, 3) := by decide +kernel
theorem dX7_next_262 : decode cX7_next 262 = .ok (.aload_n 0, 1) := by decide +kernel
theorem dX7_next_263 : decode cX7_next 263 = .ok (.getfield 84, 3) := by decide +kernel
theorem dX7_next_266 : decode cX7_next 266 = .ok (.aload_n 0, 1) := by decide +kernel
theorem dX7_next_267 : decode cX7_next 267 = .ok (.getfield 91, 3) := by decide +kernel
theorem dX7_next_270 : decode cX7_next 270 = .ok (.isub, 1) := by decide +kernel
theorem dX7_next_271 : decode cX7_next 271 = .ok (.iconst 1, 1) := by decide +kernel
theorem dX7_next_272 : decode cX7_next 272 = .ok (.if_icmp .le 8, 3) := by decide +kernel
theorem dX7_next_275 : decode cX7_next 275 = .ok (.bipush 23, 2) := by decide +kernel
theorem dX7_next_277 : decode cX7_next 277 = .ok (.goto 5, 3) := by decide +kernel
theorem dX7_next_280 : decode cX7_next 280 = .ok (.bipush 21, 2) := by decide +kernel
theorem dX7_next_282 : decode cX7_next 282 = .ok (.putfield 97, 3) := by decide +kernel
theorem dX7_next_285 : decode cX7_next 285 = .ok (.goto 30, 3) := by decide +kernel
theorem dX7_next_288 : decode cX7_next 288 = .ok (.aload_n 0, 1) := by decide +kernel
theorem dX7_next_289 : decode cX7_next 289 = .ok (.dup, 1) := by decide +kernel
theorem dX7_next_290 : decode cX7_next 290 = .ok (.getfield 84, 3) := by decide +kernel
theorem dX7_next_293 : decode cX7_next 293 = .ok (.iconst 1, 1) := by decide +kernel
theorem dX7_next_294 : decode cX7_next 294 = .ok (.iadd, 1) := by decide +kernel
theorem dX7_next_295 : decode cX7_next 295 = .ok (.putfield 84, 3) := by decide +kernel
theorem dX7_next_298 : decode cX7_next 298 = .ok (.aload_n 0, 1) := by decide +kernel
theorem dX7_next_299 : decode cX7_next 299 = .ok (.iload_n 1, 1) := by decide +kernel
theorem dX7_next_300 : decode cX7_next 300 = .ok (.bipush 59, 2) := by decide +kernel
theorem dX7_next_302 : decode cX7_next 302 = .ok (.if_icmp .ne 8, 3) := by decide +kernel
theorem dX7_next_305 : decode cX7_next 305 = .ok (.bipush 22, 2) := by decide +kernel
theorem dX7_next_307 : decode cX7_next 307 = .ok (.goto 5, 3) := by decide +kernel
theorem dX7_next_310 : decode cX7_next 310 = .ok (.bipush 23, 2) := by decide +kernel
theorem dX7_next_312 : decode cX7_next 312 = .ok (.putfield 97, 3) := by decide +kernel
theorem dX7_next_315 : decode cX7_next 315 = .ok (.return_, 1) := by decide +kernel
set_option maxRecDepth 20000 in
theorem ggX7_due_X7_next : GoodIn wsX7_due wsX7_next := goodIn_r _ [8, 9, 3, 1, 10, 11, 12, 13, 7, 14, 15, 16, 17, 18, 19, 20, 21, 22, 23, 24, 25, 26, 27, 28, 29, 30, 31, 32, 33, 34, 35, 36, 37, 38, 39, 40, 41, 42, 43, 44, 45, 46, 47, 48, 49, 50, 51, 52, 53] (by decide +kernel) (by decide +kernel)
set_option maxRecDepth 20000 in
theorem gX7_due_X7_next : GoodIn wsX7_due (wsV RX7 107 RX7 yX7_next wsX7_next) := goodIn_app (goodIn_of _ (by decide +kernel)) ggX7_due_X7_next
theorem dX7_due_0 : decode cX7_due 0 = .ok (.aload_n 0, 1) := by decide +kernel
theorem dX7_due_1 : decode cX7_due 1 = .ok (.getfield 94, 3) := by decide +kernel
theorem dX7_due_4 : decode cX7_due 4 = .ok (.istore_n 2, 1) := by decide +kernel
theorem dX7_due_5 : decode cX7_due 5 = .ok (.aload_n 0, 1) := by decide +kernel
theorem dX7_due_6 : decode cX7_due 6 = .ok (.getfield 104, 3) := by decide +kernel
theorem dX7_due_9 : decode cX7_due 9 = .ok (.bipush (-9), 2) := by decide +kernel
theorem dX7_due_11 : decode cX7_due 11 = .ok (.if_icmp .ne 22, 3) := by decide +kernel
theorem dX7_due_14 : decode cX7_due 14 = .ok (.iload_n 1, 1) := by decide +kernel
theorem dX7_due_15 : decode cX7_due 15 = .ok (.ifCond .eq 10, 3) := by decide +kernel
theorem dX7_due_18 : decode cX7_due 18 = .ok (.aload_n 0, 1) := by decide +kernel
theorem dX7_due_19 : decode cX7_due 19 = .ok (.invokevirtual 107, 3) := by decide +kernel
theorem dX7_due_22 : decode cX7_due 22 = .ok (.goto 11, 3) := by decide +kernel
theorem dX7_due_25 : decode cX7_due 25 = .ok (.aload_n 0, 1) := by decide +kernel
theorem dX7_due_26 : decode cX7_due 26 = .ok (.aload_n 0, 1) := by decide +kernel
theorem dX7_due_27 : decode cX7_due 27 = .ok (.getfield 91, 3) := by decide +kernel
theorem dX7_due_30 : decode cX7_due 30 = .ok (.putfield 104, 3) := by decide +kernel
theorem dX7_due_33 : decode cX7_due 33 = .ok (.iload_n 2, 1) := by decide +kernel
theorem dX7_due_34 : decode cX7_due 34 = .ok (.ireturn, 1) := by decide +kernel
theorem dX7_lowOf_0 : decode cX7_lowOf 0 = .ok (.iload_n 0, 1) := by decide +kernel
theorem dX7_lowOf_1 : decode cX7_lowOf 1 = .ok (.ifCond .eq 24, 3) := by decide +kernel
theorem dX7_lowOf_4 : decode cX7_lowOf 4 = .ok (.iload_n 0, 1) := by decide +kernel
theorem dX7_lowOf_5 : decode cX7_lowOf 5 = .ok (.iconst 1, 1) := by decide +kernel
theorem dX7_lowOf_6 : decode cX7_lowOf 6 = .ok (.if_icmp .eq 19, 3) := by decide +kernel
theorem dX7_lowOf_9 : decode cX7_lowOf 9 = .ok (.iload_n 0, 1) := by decide +kernel
theorem dX7_lowOf_10 : decode cX7_lowOf 10 = .ok (.iconst 2, 1) := by decide +kernel
theorem dX7_lowOf_11 : decode cX7_lowOf 11 = .ok (.if_icmp .eq 14, 3) := by decide +kernel
theorem dX7_lowOf_14 : decode cX7_lowOf 14 = .ok (.iload_n 0, 1) := by decide +kernel
theorem dX7_lowOf_15 : decode cX7_lowOf 15 = .ok (.iconst 4, 1) := by decide +kernel
theorem dX7_lowOf_16 : decode cX7_lowOf 16 = .ok (.if_icmp .eq 9, 3) := by decide +kernel
theorem dX7_lowOf_19 : decode cX7_lowOf 19 = .ok (.iload_n 0, 1) := by decide +kernel
theorem dX7_lowOf_20 : decode cX7_lowOf 20 = .ok (.bipush 6, 2) := by decide +kernel
theorem dX7_lowOf_22 : decode cX7_lowOf 22 = .ok (.if_icmp .ne 7, 3) := by decide +kernel
theorem dX7_lowOf_25 : decode cX7_lowOf 25 = .ok (.iconst 1, 1) := by decide +kernel
theorem dX7_lowOf_26 : decode cX7_lowOf 26 = .ok (.goto 4, 3) := by decide +kernel
theorem dX7_lowOf_29 : decode cX7_lowOf 29 = .ok (.iconst 0, 1) := by decide +kernel
theorem dX7_lowOf_30 : decode cX7_lowOf 30 = .ok (.ireturn, 1) := by decide +kernel
theorem dX7_highOf_0 : decode cX7_highOf 0 = .ok (.iload_n 0, 1) := by decide +kernel
theorem dX7_highOf_1 : decode cX7_highOf 1 = .ok (.iconst 1, 1) := by decide +kernel
theorem dX7_highOf_2 : decode cX7_highOf 2 = .ok (.if_icmp .eq 9, 3) := by decide +kernel
theorem dX7_highOf_5 : decode cX7_highOf 5 = .ok (.iload_n 0, 1) := by decide +kernel
theorem dX7_highOf_6 : decode cX7_highOf 6 = .ok (.bipush 7, 2) := by decide +kernel
theorem dX7_highOf_8 : decode cX7_highOf 8 = .ok (.if_icmp .ne 8, 3) := by decide +kernel
theorem dX7_highOf_11 : decode cX7_highOf 11 = .ok (.bipush 30, 2) := by decide +kernel
theorem dX7_highOf_13 : decode cX7_highOf 13 = .ok (.goto 27, 3) := by decide +kernel
theorem dX7_highOf_16 : decode cX7_highOf 16 = .ok (.iload_n 0, 1) := by decide +kernel
theorem dX7_highOf_17 : decode cX7_highOf 17 = .ok (.bipush 8, 2) := by decide +kernel
theorem dX7_highOf_19 : decode cX7_highOf 19 = .ok (.if_icmp .ne 8, 3) := by decide +kernel
theorem dX7_highOf_22 : decode cX7_highOf 22 = .ok (.bipush 100, 2) := by decide +kernel
theorem dX7_highOf_24 : decode cX7_highOf 24 = .ok (.goto 16, 3) := by decide +kernel
theorem dX7_highOf_27 : decode cX7_highOf 27 = .ok (.iload_n 0, 1) := by decide +kernel
theorem dX7_highOf_28 : decode cX7_highOf 28 = .ok (.bipush 10, 2) := by decide +kernel
theorem dX7_highOf_30 : decode cX7_highOf 30 = .ok (.if_icmp .ne 8, 3) := by decide +kernel
theorem dX7_highOf_33 : decode cX7_highOf 33 = .ok (.bipush 40, 2) := by decide +kernel
theorem dX7_highOf_35 : decode cX7_highOf 35 = .ok (.goto 5, 3) := by decide +kernel
theorem dX7_highOf_38 : decode cX7_highOf 38 = .ok (.bipush 99, 2) := by decide +kernel
theorem dX7_highOf_40 : decode cX7_highOf 40 = .ok (.ireturn, 1) := by decide +kernel
theorem dX7_manyOf_0 : decode cX7_manyOf 0 = .ok (.iload_n 0, 1) := by decide +kernel
theorem dX7_manyOf_1 : decode cX7_manyOf 1 = .ok (.iconst 2, 1) := by decide +kernel
theorem dX7_manyOf_2 : decode cX7_manyOf 2 = .ok (.if_icmp .ne 7, 3) := by decide +kernel
theorem dX7_manyOf_5 : decode cX7_manyOf 5 = .ok (.iconst 3, 1) := by decide +kernel
theorem dX7_manyOf_6 : decode cX7_manyOf 6 = .ok (.goto 19, 3) := by decide +kernel
theorem dX7_manyOf_9 : decode cX7_manyOf 9 = .ok (.iload_n 0, 1) := by decide +kernel
theorem dX7_manyOf_10 : decode cX7_manyOf 10 = .ok (.iconst 5, 1) := by decide +kernel
theorem dX7_manyOf_11 : decode cX7_manyOf 11 = .ok (.if_icmp .eq 9, 3) := by decide +kernel
theorem dX7_manyOf_14 : decode cX7_manyOf 14 = .ok (.iload_n 0, 1) := by decide +kernel
theorem dX7_manyOf_15 : decode cX7_manyOf 15 = .ok (.bipush 8, 2) := by decide +kernel
theorem dX7_manyOf_17 : decode cX7_manyOf 17 = .ok (.if_icmp .ne 7, 3) := by decide +kernel
theorem dX7_manyOf_20 : decode cX7_manyOf 20 = .ok (.iconst 1, 1) := by decide +kernel
theorem dX7_manyOf_21 : decode cX7_manyOf 21 = .ok (.goto 4, 3) := by decide +kernel
theorem dX7_manyOf_24 : decode cX7_manyOf 24 = .ok (.iconst 2, 1) := by decide +kernel
theorem dX7_manyOf_25 : decode cX7_manyOf 25 = .ok (.ireturn, 1) := by decide +kernel
set_option maxRecDepth 20000 in
theorem ggX7_pump_X7_tellPlain : GoodIn wsX7_pump wsX7_tellPlain := goodIn_r _ [12, 5, 62, 63, 64, 65, 66, 67, 68, 69, 70, 71, 72, 73, 74, 75, 76, 77, 78, 79, 80, 81, 82, 83, 84, 85, 86, 87, 88, 89, 90, 91] (by decide +kernel) (by decide +kernel)
set_option maxRecDepth 20000 in
theorem gX7_pump_X7_tellPlain : GoodIn wsX7_pump (wsV RX7 66 RX7 yX7_tellPlain wsX7_tellPlain) := goodIn_app (goodIn_of _ (by decide +kernel)) ggX7_pump_X7_tellPlain
set_option maxRecDepth 20000 in
theorem ggX7_pump_X7_next : GoodIn wsX7_pump wsX7_next := goodIn_r _ [16, 1, 17, 4, 3, 18, 19, 20, 11, 21, 7, 22, 23, 24, 25, 26, 27, 28, 29, 62, 63, 64, 65, 66, 67, 68, 69, 70, 71, 72, 73, 74, 75, 76, 77, 78, 79, 80, 81, 82, 83, 84, 85, 86, 87, 88, 89, 90, 91] (by decide +kernel) (by decide +kernel)
set_option maxRecDepth 20000 in
theorem gX7_pump_X7_next : GoodIn wsX7_pump (wsV RX7 107 RX7 yX7_next wsX7_next) := goodIn_app (goodIn_of _ (by decide +kernel)) ggX7_pump_X7_next
set_option maxRecDepth 20000 in
theorem ggX7_pump_X7_due : GoodIn wsX7_pump wsX7_due := goodIn_r _ [33, 4, 2, 17, 13, 14, 15, 11, 16, 1, 3, 18, 19, 20, 21, 7, 22, 23, 24, 25, 26, 27, 28, 29, 62, 63, 64, 65, 66, 67, 68, 69, 70, 71, 72, 73, 74, 75, 76, 77, 78, 79, 80, 81, 82, 83, 84, 85, 86, 87, 88, 89, 90, 91] (by decide +kernel) (by decide +kernel)
set_option maxRecDepth 20000 in
theorem gX7_pump_X7_due : GoodIn wsX7_pump (wsV RX7 110 RX7 yX7_due wsX7_due) := goodIn_app (goodIn_of _ (by decide +kernel)) ggX7_pump_X7_due
set_option maxRecDepth 20000 in
theorem ggX7_pump_X7_manyOf : GoodIn wsX7_pump wsX7_manyOf := goodIn_r _ [36] (by decide +kernel) (by decide +kernel)
set_option maxRecDepth 20000 in
theorem gX7_pump_X7_manyOf : GoodIn wsX7_pump (va_wsS RX7 114 yX7_manyOf wsX7_manyOf) := goodIn_app (goodIn_of _ (by decide +kernel)) ggX7_pump_X7_manyOf
set_option maxRecDepth 20000 in
theorem ggX7_pump_X7_lowOf : GoodIn wsX7_pump wsX7_lowOf := goodIn_r _ [39] (by decide +kernel) (by decide +kernel)
set_option maxRecDepth 20000 in
theorem gX7_pump_X7_lowOf : GoodIn wsX7_pump (va_wsS RX7 118 yX7_lowOf wsX7_lowOf) := goodIn_app (goodIn_of _ (by decide +kernel)) ggX7_pump_X7_lowOf
set_option maxRecDepth 20000 in
theorem ggX7_pump_X7_highOf : GoodIn wsX7_pump wsX7_highOf := goodIn_r _ [42] (by decide +kernel) (by decide +kernel)
set_option maxRecDepth 20000 in
theorem gX7_pump_X7_highOf : GoodIn wsX7_pump (va_wsS RX7 121 yX7_highOf wsX7_highOf) := goodIn_app (goodIn_of _ (by decide +kernel)) ggX7_pump_X7_highOf
set_option maxRecDepth 20000 in
theorem ggX7_pump_X7_in : GoodIn wsX7_pump wsX7_in := goodIn_r _ [25] (by decide +kernel) (by decide +kernel)
set_option maxRecDepth 20000 in
theorem gX7_pump_X7_in : GoodIn wsX7_pump (va_wsS RX7 74 yX7_in wsX7_in) := goodIn_app (goodIn_of _ (by decide +kernel)) ggX7_pump_X7_in
set_option maxRecDepth 20000 in
theorem ggX7_pump_X7_anew : GoodIn wsX7_pump wsX7_anew := goodIn_r _ [46, 47, 48, 49, 50, 51, 11, 52, 5, 53, 54, 55, 56, 57, 58, 59, 60, 61, 62, 63, 64, 65, 66, 67, 68, 69, 70, 71, 72, 73, 74, 75, 76, 77, 78, 79, 80, 81, 82, 83, 84, 85, 86, 87, 88, 89, 90, 91] (by decide +kernel) (by decide +kernel)
set_option maxRecDepth 20000 in
theorem gX7_pump_X7_anew : GoodIn wsX7_pump (wsV RX7 70 RX7 yX7_anew wsX7_anew) := goodIn_app (goodIn_of _ (by decide +kernel)) ggX7_pump_X7_anew
theorem dX7_pump_0 : decode cX7_pump 0 = .ok (.aload_n 0, 1) := by decide +kernel
theorem dX7_pump_1 : decode cX7_pump 1 = .ok (.iconst 0, 1) := by decide +kernel
theorem dX7_pump_2 : decode cX7_pump 2 = .ok (.putfield 84, 3) := by decide +kernel
theorem dX7_pump_5 : decode cX7_pump 5 = .ok (.aload_n 0, 1) := by decide +kernel
theorem dX7_pump_6 : decode cX7_pump 6 = .ok (.bipush (-9), 2) := by decide +kernel
theorem dX7_pump_8 : decode cX7_pump 8 = .ok (.putfield 104, 3) := by decide +kernel
theorem dX7_pump_11 : decode cX7_pump 11 = .ok (.aload_n 0, 1) := by decide +kernel
theorem dX7_pump_12 : decode cX7_pump 12 = .ok (.bipush 11, 2) := by decide +kernel
theorem dX7_pump_14 : decode cX7_pump 14 = .ok (.invokevirtual 66, 3) := by decide +kernel
theorem dX7_pump_17 : decode cX7_pump 17 = .ok (.iconst 0, 1) := by decide +kernel
theorem dX7_pump_18 : decode cX7_pump 18 = .ok (.istore_n 1, 1) := by decide +kernel
theorem dX7_pump_19 : decode cX7_pump 19 = .ok (.iconst 0, 1) := by decide +kernel
theorem dX7_pump_20 : decode cX7_pump 20 = .ok (.istore_n 2, 1) := by decide +kernel
theorem dX7_pump_21 : decode cX7_pump 21 = .ok (.aload_n 0, 1) := by decide +kernel
theorem dX7_pump_22 : decode cX7_pump 22 = .ok (.invokevirtual 107, 3) := by decide +kernel
theorem dX7_pump_25 : decode cX7_pump 25 = .ok (.aload_n 0, 1) := by decide +kernel
theorem dX7_pump_26 : decode cX7_pump 26 = .ok (.getfield 104, 3) := by decide +kernel
theorem dX7_pump_29 : decode cX7_pump 29 = .ok (.bipush (-9), 2) := by decide +kernel
theorem dX7_pump_31 : decode cX7_pump 31 = .ok (.if_icmp .ne 180, 3) := by decide +kernel
theorem dX7_pump_34 : decode cX7_pump 34 = .ok (.aload_n 0, 1) := by decide +kernel
theorem dX7_pump_35 : decode cX7_pump 35 = .ok (.getfield 97, 3) := by decide +kernel
theorem dX7_pump_38 : decode cX7_pump 38 = .ok (.bipush 20, 2) := by decide +kernel
theorem dX7_pump_40 : decode cX7_pump 40 = .ok (.if_icmp .eq 171, 3) := by decide +kernel
theorem dX7_pump_43 : decode cX7_pump 43 = .ok (.aload_n 0, 1) := by decide +kernel
theorem dX7_pump_44 : decode cX7_pump 44 = .ok (.getfield 97, 3) := by decide +kernel
theorem dX7_pump_47 : decode cX7_pump 47 = .ok (.istore_n 3, 1) := by decide +kernel
theorem dX7_pump_48 : decode cX7_pump 48 = .ok (.aload_n 0, 1) := by decide +kernel
theorem dX7_pump_49 : decode cX7_pump 49 = .ok (.iload_n 3, 1) := by decide +kernel
theorem dX7_pump_50 : decode cX7_pump 50 = .ok (.bipush 20, 2) := by decide +kernel
theorem dX7_pump_52 : decode cX7_pump 52 = .ok (.if_icmp .ge 15, 3) := by decide +kernel
theorem dX7_pump_55 : decode cX7_pump 55 = .ok (.iload_n 2, 1) := by decide +kernel
theorem dX7_pump_56 : decode cX7_pump 56 = .ok (.iload_n 3, 1) := by decide +kernel
theorem dX7_pump_57 : decode cX7_pump 57 = .ok (.ishr, 1) := by decide +kernel
theorem dX7_pump_58 : decode cX7_pump 58 = .ok (.iconst 1, 1) := by decide +kernel
theorem dX7_pump_59 : decode cX7_pump 59 = .ok (.iand, 1) := by decide +kernel
theorem dX7_pump_60 : decode cX7_pump 60 = .ok (.ifCond .ne 7, 3) := by decide +kernel
theorem dX7_pump_63 : decode cX7_pump 63 = .ok (.iconst 1, 1) := by decide +kernel
theorem dX7_pump_64 : decode cX7_pump 64 = .ok (.goto 4, 3) := by decide +kernel
theorem dX7_pump_67 : decode cX7_pump 67 = .ok (.iconst 0, 1) := by decide +kernel
theorem dX7_pump_68 : decode cX7_pump 68 = .ok (.invokevirtual 110, 3) := by decide +kernel
theorem dX7_pump_71 : decode cX7_pump 71 = .ok (.pop, 1) := by decide +kernel
theorem dX7_pump_72 : decode cX7_pump 72 = .ok (.aload_n 0, 1) := by decide +kernel
theorem dX7_pump_73 : decode cX7_pump 73 = .ok (.getfield 104, 3) := by decide +kernel
theorem dX7_pump_76 : decode cX7_pump 76 = .ok (.bipush (-9), 2) := by decide +kernel
theorem dX7_pump_78 : decode cX7_pump 78 = .ok (.if_icmp .ne 10, 3) := by decide +kernel
theorem dX7_pump_81 : decode cX7_pump 81 = .ok (.iload_n 3, 1) := by decide +kernel
theorem dX7_pump_82 : decode cX7_pump 82 = .ok (.invokestatic 114, 3) := by decide +kernel
theorem dX7_pump_85 : decode cX7_pump 85 = .ok (.goto 4, 3) := by decide +kernel
theorem dX7_pump_88 : decode cX7_pump 88 = .ok (.iconst 0, 1) := by decide +kernel
theorem dX7_pump_89 : decode cX7_pump 89 = .ok (.istore 4, 2) := by decide +kernel
theorem dX7_pump_91 : decode cX7_pump 91 = .ok (.iload_n 3, 1) := by decide +kernel
theorem dX7_pump_92 : decode cX7_pump 92 = .ok (.istore 5, 2) := by decide +kernel
theorem dX7_pump_94 : decode cX7_pump 94 = .ok (.iload 5, 2) := by decide +kernel
theorem dX7_pump_96 : decode cX7_pump 96 = .ok (.iload_n 3, 1) := by decide +kernel
theorem dX7_pump_97 : decode cX7_pump 97 = .ok (.iload 4, 2) := by decide +kernel
theorem dX7_pump_99 : decode cX7_pump 99 = .ok (.iadd, 1) := by decide +kernel
theorem dX7_pump_100 : decode cX7_pump 100 = .ok (.if_icmp .ge 70, 3) := by decide +kernel
theorem dX7_pump_103 : decode cX7_pump 103 = .ok (.aload_n 0, 1) := by decide +kernel
theorem dX7_pump_104 : decode cX7_pump 104 = .ok (.aload_n 0, 1) := by decide +kernel
theorem dX7_pump_105 : decode cX7_pump 105 = .ok (.getfield 97, 3) := by decide +kernel
theorem dX7_pump_108 : decode cX7_pump 108 = .ok (.bipush 21, 2) := by decide +kernel
theorem dX7_pump_110 : decode cX7_pump 110 = .ok (.if_icmp .ne 27, 3) := by decide +kernel
theorem dX7_pump_113 : decode cX7_pump 113 = .ok (.aload_n 0, 1) := by decide +kernel
theorem dX7_pump_114 : decode cX7_pump 114 = .ok (.getfield 94, 3) := by decide +kernel
theorem dX7_pump_117 : decode cX7_pump 117 = .ok (.iload 5, 2) := by decide +kernel
theorem dX7_pump_119 : decode cX7_pump 119 = .ok (.invokestatic 118, 3) := by decide +kernel
theorem dX7_pump_122 : decode cX7_pump 122 = .ok (.iload 5, 2) := by decide +kernel
theorem dX7_pump_124 : decode cX7_pump 124 = .ok (.invokestatic 121, 3) := by decide +kernel
theorem dX7_pump_127 : decode cX7_pump 127 = .ok (.invokestatic 74, 3) := by decide +kernel
theorem dX7_pump_130 : decode cX7_pump 130 = .ok (.ifCond .eq 7, 3) := by decide +kernel
theorem dX7_pump_133 : decode cX7_pump 133 = .ok (.iconst 1, 1) := by decide +kernel
theorem dX7_pump_134 : decode cX7_pump 134 = .ok (.goto 4, 3) := by decide +kernel
theorem dX7_pump_137 : decode cX7_pump 137 = .ok (.iconst 0, 1) := by decide +kernel
theorem dX7_pump_138 : decode cX7_pump 138 = .ok (.invokevirtual 110, 3) := by decide +kernel
theorem dX7_pump_141 : decode cX7_pump 141 = .ok (.istore 6, 2) := by decide +kernel
theorem dX7_pump_143 : decode cX7_pump 143 = .ok (.aload_n 0, 1) := by decide +kernel
theorem dX7_pump_144 : decode cX7_pump 144 = .ok (.getfield 104, 3) := by decide +kernel
theorem dX7_pump_147 : decode cX7_pump 147 = .ok (.bipush (-9), 2) := by decide +kernel
theorem dX7_pump_149 : decode cX7_pump 149 = .ok (.if_icmp .ne 15, 3) := by decide +kernel
theorem dX7_pump_152 : decode cX7_pump 152 = .ok (.aload_n 0, 1) := by decide +kernel
theorem dX7_pump_153 : decode cX7_pump 153 = .ok (.getfield 13, 3) := by decide +kernel
theorem dX7_pump_156 : decode cX7_pump 156 = .ok (.bipush 11, 2) := by decide +kernel
theorem dX7_pump_158 : decode cX7_pump 158 = .ok (.iload 5, 2) := by decide +kernel
theorem dX7_pump_160 : decode cX7_pump 160 = .ok (.iadd, 1) := by decide +kernel
theorem dX7_pump_161 : decode cX7_pump 161 = .ok (.iload 6, 2) := by decide +kernel
theorem dX7_pump_163 : decode cX7_pump 163 = .ok (.iastore, 1) := by decide +kernel
theorem dX7_pump_164 : decode cX7_pump 164 = .ok (.iinc 5 1, 3) := by decide +kernel
theorem dX7_pump_167 : decode cX7_pump 167 = .ok (.goto (-73), 3) := by decide +kernel
theorem dX7_pump_170 : decode cX7_pump 170 = .ok (.aload_n 0, 1) := by decide +kernel
theorem dX7_pump_171 : decode cX7_pump 171 = .ok (.aload_n 0, 1) := by decide +kernel
theorem dX7_pump_172 : decode cX7_pump 172 = .ok (.getfield 97, 3) := by decide +kernel
theorem dX7_pump_175 : decode cX7_pump 175 = .ok (.bipush 22, 2) := by decide +kernel
theorem dX7_pump_177 : decode cX7_pump 177 = .ok (.if_icmp .ne 7, 3) := by decide +kernel
theorem dX7_pump_180 : decode cX7_pump 180 = .ok (.iconst 1, 1) := by decide +kernel
theorem dX7_pump_181 : decode cX7_pump 181 = .ok (.goto 4, 3) := by decide +kernel
theorem dX7_pump_184 : decode cX7_pump 184 = .ok (.iconst 0, 1) := by decide +kernel
theorem dX7_pump_185 : decode cX7_pump 185 = .ok (.invokevirtual 110, 3) := by decide +kernel
theorem dX7_pump_188 : decode cX7_pump 188 = .ok (.pop, 1) := by decide +kernel
theorem dX7_pump_189 : decode cX7_pump 189 = .ok (.iload_n 2, 1) := by decide +kernel
theorem dX7_pump_190 : decode cX7_pump 190 = .ok (.iload_n 3, 1) := by decide +kernel
theorem dX7_pump_191 : decode cX7_pump 191 = .ok (.bipush 20, 2) := by decide +kernel
theorem dX7_pump_193 : decode cX7_pump 193 = .ok (.if_icmp .ge 9, 3) := by decide +kernel
theorem dX7_pump_196 : decode cX7_pump 196 = .ok (.iconst 1, 1) := by decide +kernel
theorem dX7_pump_197 : decode cX7_pump 197 = .ok (.iload_n 3, 1) := by decide +kernel
theorem dX7_pump_198 : decode cX7_pump 198 = .ok (.ishl, 1) := by decide +kernel
theorem dX7_pump_199 : decode cX7_pump 199 = .ok (.goto 4, 3) := by decide +kernel
theorem dX7_pump_202 : decode cX7_pump 202 = .ok (.iconst 0, 1) := by decide +kernel
theorem dX7_pump_203 : decode cX7_pump 203 = .ok (.ior, 1) := by decide +kernel
theorem dX7_pump_204 : decode cX7_pump 204 = .ok (.istore_n 2, 1) := by decide +kernel
theorem dX7_pump_205 : decode cX7_pump 205 = .ok (.iinc 1 1, 3) := by decide +kernel
theorem dX7_pump_208 : decode cX7_pump 208 = .ok (.goto (-183), 3) := by decide +kernel
theorem dX7_pump_211 : decode cX7_pump 211 = .ok (.aload_n 0, 1) := by decide +kernel
theorem dX7_pump_212 : decode cX7_pump 212 = .ok (.getfield 104, 3) := by decide +kernel
theorem dX7_pump_215 : decode cX7_pump 215 = .ok (.bipush (-9), 2) := by decide +kernel
theorem dX7_pump_217 : decode cX7_pump 217 = .ok (.if_icmp .eq 11, 3) := by decide +kernel
theorem dX7_pump_220 : decode cX7_pump 220 = .ok (.bipush (-10), 2) := by decide +kernel
theorem dX7_pump_222 : decode cX7_pump 222 = .ok (.aload_n 0, 1) := by decide +kernel
theorem dX7_pump_223 : decode cX7_pump 223 = .ok (.getfield 104, 3) := by decide +kernel
theorem dX7_pump_226 : decode cX7_pump 226 = .ok (.isub, 1) := by decide +kernel
theorem dX7_pump_227 : decode cX7_pump 227 = .ok (.ireturn, 1) := by decide +kernel
theorem dX7_pump_228 : decode cX7_pump 228 = .ok (.iconst 0, 1) := by decide +kernel
theorem dX7_pump_229 : decode cX7_pump 229 = .ok (.istore_n 3, 1) := by decide +kernel
theorem dX7_pump_230 : decode cX7_pump 230 = .ok (.iload_n 3, 1) := by decide +kernel
theorem dX7_pump_231 : decode cX7_pump 231 = .ok (.bipush 11, 2) := by decide +kernel
theorem dX7_pump_233 : decode cX7_pump 233 = .ok (.if_icmp .ge 24, 3) := by decide +kernel
theorem dX7_pump_236 : decode cX7_pump 236 = .ok (.aload_n 0, 1) := by decide +kernel
theorem dX7_pump_237 : decode cX7_pump 237 = .ok (.getfield 13, 3) := by decide +kernel
theorem dX7_pump_240 : decode cX7_pump 240 = .ok (.iload_n 3, 1) := by decide +kernel
theorem dX7_pump_241 : decode cX7_pump 241 = .ok (.aload_n 0, 1) := by decide +kernel
theorem dX7_pump_242 : decode cX7_pump 242 = .ok (.getfield 13, 3) := by decide +kernel
theorem dX7_pump_245 : decode cX7_pump 245 = .ok (.bipush 11, 2) := by decide +kernel
theorem dX7_pump_247 : decode cX7_pump 247 = .ok (.iload_n 3, 1) := by decide +kernel
theorem dX7_pump_248 : decode cX7_pump 248 = .ok (.iadd, 1) := by decide +kernel
theorem dX7_pump_249 : decode cX7_pump 249 = .ok (.iaload, 1) := by decide +kernel
theorem dX7_pump_250 : decode cX7_pump 250 = .ok (.iastore, 1) := by decide +kernel
theorem dX7_pump_251 : decode cX7_pump 251 = .ok (.iinc 3 1, 3) := by decide +kernel
theorem dX7_pump_254 : decode cX7_pump 254 = .ok (.goto (-24), 3) := by decide +kernel
theorem dX7_pump_257 : decode cX7_pump 257 = .ok (.aload_n 0, 1) := by decide +kernel
theorem dX7_pump_258 : decode cX7_pump 258 = .ok (.invokevirtual 70, 3) := by decide +kernel
theorem dX7_pump_261 : decode cX7_pump 261 = .ok (.pop, 1) := by decide +kernel
theorem dX7_pump_262 : decode cX7_pump 262 = .ok (.aload_n 0, 1) := by decide +kernel
theorem dX7_pump_263 : decode cX7_pump 263 = .ok (.getfield 26, 3) := by decide +kernel
theorem dX7_pump_266 : decode cX7_pump 266 = .ok (.iconst 0, 1) := by decide +kernel
theorem dX7_pump_267 : decode cX7_pump 267 = .ok (.iconst 0, 1) := by decide +kernel
theorem dX7_pump_268 : decode cX7_pump 268 = .ok (.bastore, 1) := by decide +kernel
theorem dX7_pump_269 : decode cX7_pump 269 = .ok (.aload_n 0, 1) := by decide +kernel
theorem dX7_pump_270 : decode cX7_pump 270 = .ok (.getfield 26, 3) := by decide +kernel
theorem dX7_pump_273 : decode cX7_pump 273 = .ok (.iconst 1, 1) := by decide +kernel
theorem dX7_pump_274 : decode cX7_pump 274 = .ok (.iconst 0, 1) := by decide +kernel
theorem dX7_pump_275 : decode cX7_pump 275 = .ok (.bastore, 1) := by decide +kernel
theorem dX7_pump_276 : decode cX7_pump 276 = .ok (.aload_n 0, 1) := by decide +kernel
theorem dX7_pump_277 : decode cX7_pump 277 = .ok (.iconst 0, 1) := by decide +kernel
theorem dX7_pump_278 : decode cX7_pump 278 = .ok (.putfield 78, 3) := by decide +kernel
theorem dX7_pump_281 : decode cX7_pump 281 = .ok (.iload_n 1, 1) := by decide +kernel
theorem dX7_pump_282 : decode cX7_pump 282 = .ok (.ireturn, 1) := by decide +kernel
set_option maxRecDepth 20000 in
theorem ggX7_told_X7_in : GoodIn wsX7_told wsX7_in := goodIn_r _ [5] (by decide +kernel) (by decide +kernel)
set_option maxRecDepth 20000 in
theorem gX7_told_X7_in : GoodIn wsX7_told (va_wsS RX7 74 yX7_in wsX7_in) := goodIn_app (goodIn_of _ (by decide +kernel)) ggX7_told_X7_in
theorem dX7_told_0 : decode cX7_told 0 = .ok (.iload_n 1, 1) := by decide +kernel
theorem dX7_told_1 : decode cX7_told 1 = .ok (.iconst 0, 1) := by decide +kernel
theorem dX7_told_2 : decode cX7_told 2 = .ok (.bipush 10, 2) := by decide +kernel
theorem dX7_told_4 : decode cX7_told 4 = .ok (.invokestatic 74, 3) := by decide +kernel
theorem dX7_told_7 : decode cX7_told 7 = .ok (.ifCond .eq 12, 3) := by decide +kernel
theorem dX7_told_10 : decode cX7_told 10 = .ok (.aload_n 0, 1) := by decide +kernel
theorem dX7_told_11 : decode cX7_told 11 = .ok (.getfield 13, 3) := by decide +kernel
theorem dX7_told_14 : decode cX7_told 14 = .ok (.iload_n 1, 1) := by decide +kernel
theorem dX7_told_15 : decode cX7_told 15 = .ok (.iaload, 1) := by decide +kernel
theorem dX7_told_16 : decode cX7_told 16 = .ok (.goto 4, 3) := by decide +kernel
theorem dX7_told_19 : decode cX7_told 19 = .ok (.iconst (-1), 1) := by decide +kernel
theorem dX7_told_20 : decode cX7_told 20 = .ok (.ireturn, 1) := by decide +kernel
theorem dX7_takeTold_0 : decode cX7_takeTold 0 = .ok (.iconst 0, 1) := by decide +kernel
theorem dX7_takeTold_1 : decode cX7_takeTold 1 = .ok (.istore_n 1, 1) := by decide +kernel
theorem dX7_takeTold_2 : decode cX7_takeTold 2 = .ok (.iload_n 1, 1) := by decide +kernel
theorem dX7_takeTold_3 : decode cX7_takeTold 3 = .ok (.bipush 11, 2) := by decide +kernel
theorem dX7_takeTold_5 : decode cX7_takeTold 5 = .ok (.if_icmp .ge 21, 3) := by decide +kernel
theorem dX7_takeTold_8 : decode cX7_takeTold 8 = .ok (.aload_n 0, 1) := by decide +kernel
theorem dX7_takeTold_9 : decode cX7_takeTold 9 = .ok (.getfield 17, 3) := by decide +kernel
theorem dX7_takeTold_12 : decode cX7_takeTold 12 = .ok (.iload_n 1, 1) := by decide +kernel
theorem dX7_takeTold_13 : decode cX7_takeTold 13 = .ok (.aload_n 0, 1) := by decide +kernel
theorem dX7_takeTold_14 : decode cX7_takeTold 14 = .ok (.getfield 13, 3) := by decide +kernel
theorem dX7_takeTold_17 : decode cX7_takeTold 17 = .ok (.iload_n 1, 1) := by decide +kernel
theorem dX7_takeTold_18 : decode cX7_takeTold 18 = .ok (.iaload, 1) := by decide +kernel
theorem dX7_takeTold_19 : decode cX7_takeTold 19 = .ok (.iastore, 1) := by decide +kernel
theorem dX7_takeTold_20 : decode cX7_takeTold 20 = .ok (.iinc 1 1, 3) := by decide +kernel
theorem dX7_takeTold_23 : decode cX7_takeTold 23 = .ok (.goto (-21), 3) := by decide +kernel
theorem dX7_takeTold_26 : decode cX7_takeTold 26 = .ok (.return_, 1) := by decide +kernel
set_option maxRecDepth 20000 in
theorem ggX7_takeNow_X7_takeTold : GoodIn wsX7_takeNow wsX7_takeTold := goodIn_r _ [7, 8, 9, 10, 11, 12, 13, 14, 15, 16, 17, 18, 19, 20, 21, 22, 23, 24, 25, 26, 27, 28, 29, 30, 31, 32, 33, 34, 35, 36, 37, 38, 39] (by decide +kernel) (by decide +kernel)
set_option maxRecDepth 20000 in
theorem gX7_takeNow_X7_takeTold : GoodIn wsX7_takeNow (wsV RX7 124 RX7 yX7_takeTold wsX7_takeTold) := goodIn_app (goodIn_of _ (by decide +kernel)) ggX7_takeNow_X7_takeTold
theorem dX7_takeNow_0 : decode cX7_takeNow 0 = .ok (.aload_n 0, 1) := by decide +kernel
theorem dX7_takeNow_1 : decode cX7_takeNow 1 = .ok (.invokevirtual 124, 3) := by decide +kernel
theorem dX7_takeNow_4 : decode cX7_takeNow 4 = .ok (.iconst 0, 1) := by decide +kernel
theorem dX7_takeNow_5 : decode cX7_takeNow 5 = .ok (.istore_n 1, 1) := by decide +kernel
theorem dX7_takeNow_6 : decode cX7_takeNow 6 = .ok (.iload_n 1, 1) := by decide +kernel
theorem dX7_takeNow_7 : decode cX7_takeNow 7 = .ok (.bipush 7, 2) := by decide +kernel
theorem dX7_takeNow_9 : decode cX7_takeNow 9 = .ok (.if_icmp .ge 21, 3) := by decide +kernel
theorem dX7_takeNow_12 : decode cX7_takeNow 12 = .ok (.aload_n 0, 1) := by decide +kernel
theorem dX7_takeNow_13 : decode cX7_takeNow 13 = .ok (.getfield 20, 3) := by decide +kernel
theorem dX7_takeNow_16 : decode cX7_takeNow 16 = .ok (.iload_n 1, 1) := by decide +kernel
theorem dX7_takeNow_17 : decode cX7_takeNow 17 = .ok (.aload_n 0, 1) := by decide +kernel
theorem dX7_takeNow_18 : decode cX7_takeNow 18 = .ok (.getfield 23, 3) := by decide +kernel
theorem dX7_takeNow_21 : decode cX7_takeNow 21 = .ok (.iload_n 1, 1) := by decide +kernel
theorem dX7_takeNow_22 : decode cX7_takeNow 22 = .ok (.iaload, 1) := by decide +kernel
theorem dX7_takeNow_23 : decode cX7_takeNow 23 = .ok (.iastore, 1) := by decide +kernel
theorem dX7_takeNow_24 : decode cX7_takeNow 24 = .ok (.iinc 1 1, 3) := by decide +kernel
theorem dX7_takeNow_27 : decode cX7_takeNow 27 = .ok (.goto (-21), 3) := by decide +kernel
theorem dX7_takeNow_30 : decode cX7_takeNow 30 = .ok (.return_, 1) := by decide +kernel
theorem dX7_giveNow_0 : decode cX7_giveNow 0 = .ok (.iconst 0, 1) := by decide +kernel
theorem dX7_giveNow_1 : decode cX7_giveNow 1 = .ok (.istore_n 1, 1) := by decide +kernel
theorem dX7_giveNow_2 : decode cX7_giveNow 2 = .ok (.iload_n 1, 1) := by decide +kernel
theorem dX7_giveNow_3 : decode cX7_giveNow 3 = .ok (.bipush 7, 2) := by decide +kernel
theorem dX7_giveNow_5 : decode cX7_giveNow 5 = .ok (.if_icmp .ge 21, 3) := by decide +kernel
theorem dX7_giveNow_8 : decode cX7_giveNow 8 = .ok (.aload_n 0, 1) := by decide +kernel
theorem dX7_giveNow_9 : decode cX7_giveNow 9 = .ok (.getfield 23, 3) := by decide +kernel
theorem dX7_giveNow_12 : decode cX7_giveNow 12 = .ok (.iload_n 1, 1) := by decide +kernel
theorem dX7_giveNow_13 : decode cX7_giveNow 13 = .ok (.aload_n 0, 1) := by decide +kernel
theorem dX7_giveNow_14 : decode cX7_giveNow 14 = .ok (.getfield 20, 3) := by decide +kernel
theorem dX7_giveNow_17 : decode cX7_giveNow 17 = .ok (.iload_n 1, 1) := by decide +kernel
theorem dX7_giveNow_18 : decode cX7_giveNow 18 = .ok (.iaload, 1) := by decide +kernel
theorem dX7_giveNow_19 : decode cX7_giveNow 19 = .ok (.iastore, 1) := by decide +kernel
theorem dX7_giveNow_20 : decode cX7_giveNow 20 = .ok (.iinc 1 1, 3) := by decide +kernel
theorem dX7_giveNow_23 : decode cX7_giveNow 23 = .ok (.goto (-21), 3) := by decide +kernel
theorem dX7_giveNow_26 : decode cX7_giveNow 26 = .ok (.return_, 1) := by decide +kernel
theorem dX7_begin_0 : decode cX7_begin 0 = .ok (.iconst 0, 1) := by decide +kernel
theorem dX7_begin_1 : decode cX7_begin 1 = .ok (.istore_n 3, 1) := by decide +kernel
theorem dX7_begin_2 : decode cX7_begin 2 = .ok (.iload_n 3, 1) := by decide +kernel
theorem dX7_begin_3 : decode cX7_begin 3 = .ok (.bipush 7, 2) := by decide +kernel
theorem dX7_begin_5 : decode cX7_begin 5 = .ok (.if_icmp .ge 16, 3) := by decide +kernel
theorem dX7_begin_8 : decode cX7_begin 8 = .ok (.aload_n 0, 1) := by decide +kernel
theorem dX7_begin_9 : decode cX7_begin 9 = .ok (.getfield 20, 3) := by decide +kernel
theorem dX7_begin_12 : decode cX7_begin 12 = .ok (.iload_n 3, 1) := by decide +kernel
theorem dX7_begin_13 : decode cX7_begin 13 = .ok (.iconst 0, 1) := by decide +kernel
theorem dX7_begin_14 : decode cX7_begin 14 = .ok (.iastore, 1) := by decide +kernel
theorem dX7_begin_15 : decode cX7_begin 15 = .ok (.iinc 3 1, 3) := by decide +kernel
theorem dX7_begin_18 : decode cX7_begin 18 = .ok (.goto (-16), 3) := by decide +kernel
theorem dX7_begin_21 : decode cX7_begin 21 = .ok (.aload_n 0, 1) := by decide +kernel
theorem dX7_begin_22 : decode cX7_begin 22 = .ok (.getfield 20, 3) := by decide +kernel
theorem dX7_begin_25 : decode cX7_begin 25 = .ok (.iconst 0, 1) := by decide +kernel
theorem dX7_begin_26 : decode cX7_begin 26 = .ok (.iload_n 1, 1) := by decide +kernel
theorem dX7_begin_27 : decode cX7_begin 27 = .ok (.iastore, 1) := by decide +kernel
theorem dX7_begin_28 : decode cX7_begin 28 = .ok (.aload_n 0, 1) := by decide +kernel
theorem dX7_begin_29 : decode cX7_begin 29 = .ok (.getfield 20, 3) := by decide +kernel
theorem dX7_begin_32 : decode cX7_begin 32 = .ok (.iconst 1, 1) := by decide +kernel
theorem dX7_begin_33 : decode cX7_begin 33 = .ok (.iload_n 2, 1) := by decide +kernel
theorem dX7_begin_34 : decode cX7_begin 34 = .ok (.iastore, 1) := by decide +kernel
theorem dX7_begin_35 : decode cX7_begin 35 = .ok (.return_, 1) := by decide +kernel
theorem dX7_depth_0 : decode cX7_depth 0 = .ok (.bipush 10, 2) := by decide +kernel
theorem dX7_depth_2 : decode cX7_depth 2 = .ok (.aload_n 0, 1) := by decide +kernel
theorem dX7_depth_3 : decode cX7_depth 3 = .ok (.getfield 17, 3) := by decide +kernel
theorem dX7_depth_6 : decode cX7_depth 6 = .ok (.iconst 2, 1) := by decide +kernel
theorem dX7_depth_7 : decode cX7_depth 7 = .ok (.iaload, 1) := by decide +kernel
theorem dX7_depth_8 : decode cX7_depth 8 = .ok (.imul, 1) := by decide +kernel
theorem dX7_depth_9 : decode cX7_depth 9 = .ok (.aload_n 0, 1) := by decide +kernel
theorem dX7_depth_10 : decode cX7_depth 10 = .ok (.getfield 20, 3) := by decide +kernel
theorem dX7_depth_13 : decode cX7_depth 13 = .ok (.iconst 2, 1) := by decide +kernel
theorem dX7_depth_14 : decode cX7_depth 14 = .ok (.iaload, 1) := by decide +kernel
theorem dX7_depth_15 : decode cX7_depth 15 = .ok (.aload_n 0, 1) := by decide +kernel
theorem dX7_depth_16 : decode cX7_depth 16 = .ok (.getfield 17, 3) := by decide +kernel
theorem dX7_depth_19 : decode cX7_depth 19 = .ok (.iconst 4, 1) := by decide +kernel
theorem dX7_depth_20 : decode cX7_depth 20 = .ok (.iaload, 1) := by decide +kernel
theorem dX7_depth_21 : decode cX7_depth 21 = .ok (.idiv, 1) := by decide +kernel
theorem dX7_depth_22 : decode cX7_depth 22 = .ok (.iadd, 1) := by decide +kernel
theorem dX7_depth_23 : decode cX7_depth 23 = .ok (.ireturn, 1) := by decide +kernel
theorem dX7_lift_0 : decode cX7_lift 0 = .ok (.sipush 340, 3) := by decide +kernel
theorem dX7_lift_3 : decode cX7_lift 3 = .ok (.aload_n 0, 1) := by decide +kernel
theorem dX7_lift_4 : decode cX7_lift 4 = .ok (.getfield 17, 3) := by decide +kernel
theorem dX7_lift_7 : decode cX7_lift 7 = .ok (.bipush 9, 2) := by decide +kernel
theorem dX7_lift_9 : decode cX7_lift 9 = .ok (.iaload, 1) := by decide +kernel
theorem dX7_lift_10 : decode cX7_lift 10 = .ok (.isub, 1) := by decide +kernel
theorem dX7_lift_11 : decode cX7_lift 11 = .ok (.aload_n 0, 1) := by decide +kernel
theorem dX7_lift_12 : decode cX7_lift 12 = .ok (.getfield 17, 3) := by decide +kernel
theorem dX7_lift_15 : decode cX7_lift 15 = .ok (.bipush 10, 2) := by decide +kernel
theorem dX7_lift_17 : decode cX7_lift 17 = .ok (.iaload, 1) := by decide +kernel
theorem dX7_lift_18 : decode cX7_lift 18 = .ok (.isub, 1) := by decide +kernel
theorem dX7_lift_19 : decode cX7_lift 19 = .ok (.ireturn, 1) := by decide +kernel
set_option maxRecDepth 20000 in
theorem ggX7_air_X7_depth : GoodIn wsX7_air wsX7_depth := goodIn_r _ [6, 1, 7, 8, 9, 10, 11, 12, 13, 14, 15, 16, 17, 18, 19, 20, 21, 22, 23, 24, 25, 26, 27, 28, 29, 30, 31, 32, 33, 34, 35, 36, 37] (by decide +kernel) (by decide +kernel)
set_option maxRecDepth 20000 in
theorem gX7_air_X7_depth : GoodIn wsX7_air (wsV RX7 127 RX7 yX7_depth wsX7_depth) := goodIn_app (goodIn_of _ (by decide +kernel)) ggX7_air_X7_depth
theorem dX7_air_0 : decode cX7_air 0 = .ok (.bipush 10, 2) := by decide +kernel
theorem dX7_air_2 : decode cX7_air 2 = .ok (.aload_n 0, 1) := by decide +kernel
theorem dX7_air_3 : decode cX7_air 3 = .ok (.getfield 17, 3) := by decide +kernel
theorem dX7_air_6 : decode cX7_air 6 = .ok (.bipush 6, 2) := by decide +kernel
theorem dX7_air_8 : decode cX7_air 8 = .ok (.iaload, 1) := by decide +kernel
theorem dX7_air_9 : decode cX7_air 9 = .ok (.imul, 1) := by decide +kernel
theorem dX7_air_10 : decode cX7_air 10 = .ok (.aload_n 0, 1) := by decide +kernel
theorem dX7_air_11 : decode cX7_air 11 = .ok (.invokevirtual 127, 3) := by decide +kernel
theorem dX7_air_14 : decode cX7_air 14 = .ok (.if_icmp .ge 13, 3) := by decide +kernel
theorem dX7_air_17 : decode cX7_air 17 = .ok (.aload_n 0, 1) := by decide +kernel
theorem dX7_air_18 : decode cX7_air 18 = .ok (.getfield 17, 3) := by decide +kernel
theorem dX7_air_21 : decode cX7_air 21 = .ok (.bipush 7, 2) := by decide +kernel
theorem dX7_air_23 : decode cX7_air 23 = .ok (.iaload, 1) := by decide +kernel
theorem dX7_air_24 : decode cX7_air 24 = .ok (.goto 4, 3) := by decide +kernel
theorem dX7_air_27 : decode cX7_air 27 = .ok (.iconst 0, 1) := by decide +kernel
theorem dX7_air_28 : decode cX7_air 28 = .ok (.ireturn, 1) := by decide +kernel
set_option maxRecDepth 20000 in
theorem ggX7_gain_X7_air : GoodIn wsX7_gain wsX7_air := goodIn_r _ [7, 1, 8, 9, 10, 6, 11, 2, 12, 13, 14, 15, 16, 17, 18, 19, 20, 21, 22, 23, 24, 25, 26, 27, 28, 29, 30, 31, 32, 33, 34, 35, 36, 37, 38, 39, 40, 41] (by decide +kernel) (by decide +kernel)
set_option maxRecDepth 20000 in
theorem gX7_gain_X7_air : GoodIn wsX7_gain (wsV RX7 130 RX7 yX7_air wsX7_air) := goodIn_app (goodIn_of _ (by decide +kernel)) ggX7_gain_X7_air
set_option maxRecDepth 20000 in
theorem ggX7_gain_X7_depth : GoodIn wsX7_gain wsX7_depth := goodIn_r _ [11, 1, 2, 12, 13, 14, 15, 16, 17, 18, 19, 20, 21, 22, 23, 24, 25, 26, 27, 28, 29, 30, 31, 32, 33, 34, 35, 36, 37, 38, 39, 40, 41] (by decide +kernel) (by decide +kernel)
set_option maxRecDepth 20000 in
theorem gX7_gain_X7_depth : GoodIn wsX7_gain (wsV RX7 127 RX7 yX7_depth wsX7_depth) := goodIn_app (goodIn_of _ (by decide +kernel)) ggX7_gain_X7_depth
theorem dX7_gain_0 : decode cX7_gain 0 = .ok (.aload_n 0, 1) := by decide +kernel
theorem dX7_gain_1 : decode cX7_gain 1 = .ok (.getfield 17, 3) := by decide +kernel
theorem dX7_gain_4 : decode cX7_gain 4 = .ok (.iconst 1, 1) := by decide +kernel
theorem dX7_gain_5 : decode cX7_gain 5 = .ok (.iaload, 1) := by decide +kernel
theorem dX7_gain_6 : decode cX7_gain 6 = .ok (.aload_n 0, 1) := by decide +kernel
theorem dX7_gain_7 : decode cX7_gain 7 = .ok (.getfield 20, 3) := by decide +kernel
theorem dX7_gain_10 : decode cX7_gain 10 = .ok (.iconst 1, 1) := by decide +kernel
theorem dX7_gain_11 : decode cX7_gain 11 = .ok (.iaload, 1) := by decide +kernel
theorem dX7_gain_12 : decode cX7_gain 12 = .ok (.imul, 1) := by decide +kernel
theorem dX7_gain_13 : decode cX7_gain 13 = .ok (.bipush 100, 2) := by decide +kernel
theorem dX7_gain_15 : decode cX7_gain 15 = .ok (.idiv, 1) := by decide +kernel
theorem dX7_gain_16 : decode cX7_gain 16 = .ok (.aload_n 0, 1) := by decide +kernel
theorem dX7_gain_17 : decode cX7_gain 17 = .ok (.invokevirtual 130, 3) := by decide +kernel
theorem dX7_gain_20 : decode cX7_gain 20 = .ok (.isub, 1) := by decide +kernel
theorem dX7_gain_21 : decode cX7_gain 21 = .ok (.istore_n 1, 1) := by decide +kernel
theorem dX7_gain_22 : decode cX7_gain 22 = .ok (.iload_n 1, 1) := by decide +kernel
theorem dX7_gain_23 : decode cX7_gain 23 = .ok (.ifCond .lt 19, 3) := by decide +kernel
theorem dX7_gain_26 : decode cX7_gain 26 = .ok (.aload_n 0, 1) := by decide +kernel
theorem dX7_gain_27 : decode cX7_gain 27 = .ok (.invokevirtual 127, 3) := by decide +kernel
theorem dX7_gain_30 : decode cX7_gain 30 = .ok (.bipush 10, 2) := by decide +kernel
theorem dX7_gain_32 : decode cX7_gain 32 = .ok (.aload_n 0, 1) := by decide +kernel
theorem dX7_gain_33 : decode cX7_gain 33 = .ok (.getfield 17, 3) := by decide +kernel
theorem dX7_gain_36 : decode cX7_gain 36 = .ok (.iconst 0, 1) := by decide +kernel
theorem dX7_gain_37 : decode cX7_gain 37 = .ok (.iaload, 1) := by decide +kernel
theorem dX7_gain_38 : decode cX7_gain 38 = .ok (.imul, 1) := by decide +kernel
theorem dX7_gain_39 : decode cX7_gain 39 = .ok (.if_icmp .le 7, 3) := by decide +kernel
theorem dX7_gain_42 : decode cX7_gain 42 = .ok (.iconst 0, 1) := by decide +kernel
theorem dX7_gain_43 : decode cX7_gain 43 = .ok (.goto 4, 3) := by decide +kernel
theorem dX7_gain_46 : decode cX7_gain 46 = .ok (.iload_n 1, 1) := by decide +kernel
theorem dX7_gain_47 : decode cX7_gain 47 = .ok (.ireturn, 1) := by decide +kernel
set_option maxRecDepth 20000 in
theorem ggX7_stroke_X7_gain : GoodIn wsX7_stroke wsX7_gain := goodIn_r _ [6, 7, 1, 8, 9, 10, 5, 11, 12, 13, 14, 15, 20, 21, 22, 23, 24, 25, 26, 27, 28, 29, 30, 31, 32, 33, 34, 35, 36, 37, 38, 39, 40, 41, 42, 43, 44, 45, 46, 47, 48, 49] (by decide +kernel) (by decide +kernel)
set_option maxRecDepth 20000 in
theorem gX7_stroke_X7_gain : GoodIn wsX7_stroke (wsV RX7 133 RX7 yX7_gain wsX7_gain) := goodIn_app (goodIn_of _ (by decide +kernel)) ggX7_stroke_X7_gain
set_option maxRecDepth 20000 in
theorem ggX7_stroke_X7_depth : GoodIn wsX7_stroke wsX7_depth := goodIn_r _ [15, 7, 1, 20, 21, 22, 23, 24, 25, 26, 27, 28, 29, 30, 31, 32, 33, 34, 35, 36, 37, 38, 39, 40, 41, 42, 43, 44, 45, 46, 47, 48, 49] (by decide +kernel) (by decide +kernel)
set_option maxRecDepth 20000 in
theorem gX7_stroke_X7_depth : GoodIn wsX7_stroke (wsV RX7 127 RX7 yX7_depth wsX7_depth) := goodIn_app (goodIn_of _ (by decide +kernel)) ggX7_stroke_X7_depth
set_option maxRecDepth 20000 in
theorem ggX7_stroke_X7_lift : GoodIn wsX7_stroke wsX7_lift := goodIn_r _ [19, 7, 20, 21, 22, 23, 24, 25, 26, 27, 28, 29, 30, 31, 32, 33, 34, 35, 36, 37, 38, 39, 40, 41, 42, 43, 44, 45, 46, 47, 48, 49] (by decide +kernel) (by decide +kernel)
set_option maxRecDepth 20000 in
theorem gX7_stroke_X7_lift : GoodIn wsX7_stroke (wsV RX7 136 RX7 yX7_lift wsX7_lift) := goodIn_app (goodIn_of _ (by decide +kernel)) ggX7_stroke_X7_lift
theorem dX7_stroke_0 : decode cX7_stroke 0 = .ok (.aload_n 0, 1) := by decide +kernel
theorem dX7_stroke_1 : decode cX7_stroke 1 = .ok (.invokevirtual 133, 3) := by decide +kernel
theorem dX7_stroke_4 : decode cX7_stroke 4 = .ok (.istore_n 1, 1) := by decide +kernel
theorem dX7_stroke_5 : decode cX7_stroke 5 = .ok (.aload_n 0, 1) := by decide +kernel
theorem dX7_stroke_6 : decode cX7_stroke 6 = .ok (.invokevirtual 127, 3) := by decide +kernel
theorem dX7_stroke_9 : decode cX7_stroke 9 = .ok (.istore_n 2, 1) := by decide +kernel
theorem dX7_stroke_10 : decode cX7_stroke 10 = .ok (.aload_n 0, 1) := by decide +kernel
theorem dX7_stroke_11 : decode cX7_stroke 11 = .ok (.getfield 20, 3) := by decide +kernel
theorem dX7_stroke_14 : decode cX7_stroke 14 = .ok (.iconst 0, 1) := by decide +kernel
theorem dX7_stroke_15 : decode cX7_stroke 15 = .ok (.iaload, 1) := by decide +kernel
theorem dX7_stroke_16 : decode cX7_stroke 16 = .ok (.istore_n 3, 1) := by decide +kernel
theorem dX7_stroke_17 : decode cX7_stroke 17 = .ok (.iload_n 3, 1) := by decide +kernel
theorem dX7_stroke_18 : decode cX7_stroke 18 = .ok (.iload_n 1, 1) := by decide +kernel
theorem dX7_stroke_19 : decode cX7_stroke 19 = .ok (.isub, 1) := by decide +kernel
theorem dX7_stroke_20 : decode cX7_stroke 20 = .ok (.istore 4, 2) := by decide +kernel
theorem dX7_stroke_22 : decode cX7_stroke 22 = .ok (.iload_n 2, 1) := by decide +kernel
theorem dX7_stroke_23 : decode cX7_stroke 23 = .ok (.aload_n 0, 1) := by decide +kernel
theorem dX7_stroke_24 : decode cX7_stroke 24 = .ok (.invokevirtual 136, 3) := by decide +kernel
theorem dX7_stroke_27 : decode cX7_stroke 27 = .ok (.isub, 1) := by decide +kernel
theorem dX7_stroke_28 : decode cX7_stroke 28 = .ok (.istore 5, 2) := by decide +kernel
theorem dX7_stroke_30 : decode cX7_stroke 30 = .ok (.iload 5, 2) := by decide +kernel
theorem dX7_stroke_32 : decode cX7_stroke 32 = .ok (.ifCond .le 29, 3) := by decide +kernel
theorem dX7_stroke_35 : decode cX7_stroke 35 = .ok (.iload_n 3, 1) := by decide +kernel
theorem dX7_stroke_36 : decode cX7_stroke 36 = .ok (.iload 5, 2) := by decide +kernel
theorem dX7_stroke_38 : decode cX7_stroke 38 = .ok (.if_icmp .ge 7, 3) := by decide +kernel
theorem dX7_stroke_41 : decode cX7_stroke 41 = .ok (.iload_n 3, 1) := by decide +kernel
theorem dX7_stroke_42 : decode cX7_stroke 42 = .ok (.goto 17, 3) := by decide +kernel
theorem dX7_stroke_45 : decode cX7_stroke 45 = .ok (.iload 4, 2) := by decide +kernel
theorem dX7_stroke_47 : decode cX7_stroke 47 = .ok (.iload 5, 2) := by decide +kernel
theorem dX7_stroke_49 : decode cX7_stroke 49 = .ok (.if_icmp .ge 8, 3) := by decide +kernel
theorem dX7_stroke_52 : decode cX7_stroke 52 = .ok (.iload 5, 2) := by decide +kernel
theorem dX7_stroke_54 : decode cX7_stroke 54 = .ok (.goto 5, 3) := by decide +kernel
theorem dX7_stroke_57 : decode cX7_stroke 57 = .ok (.iload 4, 2) := by decide +kernel
theorem dX7_stroke_59 : decode cX7_stroke 59 = .ok (.istore 4, 2) := by decide +kernel
theorem dX7_stroke_61 : decode cX7_stroke 61 = .ok (.iload 4, 2) := by decide +kernel
theorem dX7_stroke_63 : decode cX7_stroke 63 = .ok (.ifCond .ge 9, 3) := by decide +kernel
theorem dX7_stroke_66 : decode cX7_stroke 66 = .ok (.iload 4, 2) := by decide +kernel
theorem dX7_stroke_68 : decode cX7_stroke 68 = .ok (.ineg, 1) := by decide +kernel
theorem dX7_stroke_69 : decode cX7_stroke 69 = .ok (.goto 4, 3) := by decide +kernel
theorem dX7_stroke_72 : decode cX7_stroke 72 = .ok (.iconst 0, 1) := by decide +kernel
theorem dX7_stroke_73 : decode cX7_stroke 73 = .ok (.istore 6, 2) := by decide +kernel
theorem dX7_stroke_75 : decode cX7_stroke 75 = .ok (.aload_n 0, 1) := by decide +kernel
theorem dX7_stroke_76 : decode cX7_stroke 76 = .ok (.getfield 20, 3) := by decide +kernel
theorem dX7_stroke_79 : decode cX7_stroke 79 = .ok (.bipush 6, 2) := by decide +kernel
theorem dX7_stroke_81 : decode cX7_stroke 81 = .ok (.iload_n 1, 1) := by decide +kernel
theorem dX7_stroke_82 : decode cX7_stroke 82 = .ok (.ifCond .le 12, 3) := by decide +kernel
theorem dX7_stroke_85 : decode cX7_stroke 85 = .ok (.iload_n 2, 1) := by decide +kernel
theorem dX7_stroke_86 : decode cX7_stroke 86 = .ok (.iload_n 3, 1) := by decide +kernel
theorem dX7_stroke_87 : decode cX7_stroke 87 = .ok (.isub, 1) := by decide +kernel
theorem dX7_stroke_88 : decode cX7_stroke 88 = .ok (.bipush 10, 2) := by decide +kernel
theorem dX7_stroke_90 : decode cX7_stroke 90 = .ok (.idiv, 1) := by decide +kernel
theorem dX7_stroke_91 : decode cX7_stroke 91 = .ok (.goto 4, 3) := by decide +kernel
theorem dX7_stroke_94 : decode cX7_stroke 94 = .ok (.iconst 0, 1) := by decide +kernel
theorem dX7_stroke_95 : decode cX7_stroke 95 = .ok (.iastore, 1) := by decide +kernel
theorem dX7_stroke_96 : decode cX7_stroke 96 = .ok (.aload_n 0, 1) := by decide +kernel
theorem dX7_stroke_97 : decode cX7_stroke 97 = .ok (.getfield 20, 3) := by decide +kernel
theorem dX7_stroke_100 : decode cX7_stroke 100 = .ok (.iconst 0, 1) := by decide +kernel
theorem dX7_stroke_101 : decode cX7_stroke 101 = .ok (.iload 4, 2) := by decide +kernel
theorem dX7_stroke_103 : decode cX7_stroke 103 = .ok (.ifCond .ge 7, 3) := by decide +kernel
theorem dX7_stroke_106 : decode cX7_stroke 106 = .ok (.iconst 0, 1) := by decide +kernel
theorem dX7_stroke_107 : decode cX7_stroke 107 = .ok (.goto 5, 3) := by decide +kernel
theorem dX7_stroke_110 : decode cX7_stroke 110 = .ok (.iload 4, 2) := by decide +kernel
theorem dX7_stroke_112 : decode cX7_stroke 112 = .ok (.iastore, 1) := by decide +kernel
theorem dX7_stroke_113 : decode cX7_stroke 113 = .ok (.aload_n 0, 1) := by decide +kernel
theorem dX7_stroke_114 : decode cX7_stroke 114 = .ok (.getfield 20, 3) := by decide +kernel
theorem dX7_stroke_117 : decode cX7_stroke 117 = .ok (.iconst 2, 1) := by decide +kernel
theorem dX7_stroke_118 : decode cX7_stroke 118 = .ok (.dup2, 1) := by decide +kernel
theorem dX7_stroke_119 : decode cX7_stroke 119 = .ok (.iaload, 1) := by decide +kernel
theorem dX7_stroke_120 : decode cX7_stroke 120 = .ok (.iload 6, 2) := by decide +kernel
theorem dX7_stroke_122 : decode cX7_stroke 122 = .ok (.iadd, 1) := by decide +kernel
theorem dX7_stroke_123 : decode cX7_stroke 123 = .ok (.iastore, 1) := by decide +kernel
theorem dX7_stroke_124 : decode cX7_stroke 124 = .ok (.aload_n 0, 1) := by decide +kernel
theorem dX7_stroke_125 : decode cX7_stroke 125 = .ok (.getfield 20, 3) := by decide +kernel
theorem dX7_stroke_128 : decode cX7_stroke 128 = .ok (.iconst 3, 1) := by decide +kernel
theorem dX7_stroke_129 : decode cX7_stroke 129 = .ok (.dup2, 1) := by decide +kernel
theorem dX7_stroke_130 : decode cX7_stroke 130 = .ok (.iaload, 1) := by decide +kernel
theorem dX7_stroke_131 : decode cX7_stroke 131 = .ok (.iload 6, 2) := by decide +kernel
theorem dX7_stroke_133 : decode cX7_stroke 133 = .ok (.iadd, 1) := by decide +kernel
theorem dX7_stroke_134 : decode cX7_stroke 134 = .ok (.iastore, 1) := by decide +kernel
theorem dX7_stroke_135 : decode cX7_stroke 135 = .ok (.aload_n 0, 1) := by decide +kernel
theorem dX7_stroke_136 : decode cX7_stroke 136 = .ok (.getfield 20, 3) := by decide +kernel
theorem dX7_stroke_139 : decode cX7_stroke 139 = .ok (.iconst 1, 1) := by decide +kernel
theorem dX7_stroke_140 : decode cX7_stroke 140 = .ok (.iload 6, 2) := by decide +kernel
theorem dX7_stroke_142 : decode cX7_stroke 142 = .ok (.ifCond .le 8, 3) := by decide +kernel
theorem dX7_stroke_145 : decode cX7_stroke 145 = .ok (.bipush 100, 2) := by decide +kernel
theorem dX7_stroke_147 : decode cX7_stroke 147 = .ok (.goto 9, 3) := by decide +kernel
theorem dX7_stroke_150 : decode cX7_stroke 150 = .ok (.aload_n 0, 1) := by decide +kernel
theorem dX7_stroke_151 : decode cX7_stroke 151 = .ok (.getfield 20, 3) := by decide +kernel
theorem dX7_stroke_154 : decode cX7_stroke 154 = .ok (.iconst 1, 1) := by decide +kernel
theorem dX7_stroke_155 : decode cX7_stroke 155 = .ok (.iaload, 1) := by decide +kernel
theorem dX7_stroke_156 : decode cX7_stroke 156 = .ok (.iastore, 1) := by decide +kernel
theorem dX7_stroke_157 : decode cX7_stroke 157 = .ok (.aload_n 0, 1) := by decide +kernel
theorem dX7_stroke_158 : decode cX7_stroke 158 = .ok (.getfield 20, 3) := by decide +kernel
theorem dX7_stroke_161 : decode cX7_stroke 161 = .ok (.iconst 4, 1) := by decide +kernel
theorem dX7_stroke_162 : decode cX7_stroke 162 = .ok (.dup2, 1) := by decide +kernel
theorem dX7_stroke_163 : decode cX7_stroke 163 = .ok (.iaload, 1) := by decide +kernel
theorem dX7_stroke_164 : decode cX7_stroke 164 = .ok (.iconst 1, 1) := by decide +kernel
theorem dX7_stroke_165 : decode cX7_stroke 165 = .ok (.iadd, 1) := by decide +kernel
theorem dX7_stroke_166 : decode cX7_stroke 166 = .ok (.iastore, 1) := by decide +kernel
theorem dX7_stroke_167 : decode cX7_stroke 167 = .ok (.iload 6, 2) := by decide +kernel
theorem dX7_stroke_169 : decode cX7_stroke 169 = .ok (.ireturn, 1) := by decide +kernel
theorem dX7_pour_0 : decode cX7_pour 0 = .ok (.iload_n 1, 1) := by decide +kernel
theorem dX7_pour_1 : decode cX7_pour 1 = .ok (.aload_n 0, 1) := by decide +kernel
theorem dX7_pour_2 : decode cX7_pour 2 = .ok (.getfield 20, 3) := by decide +kernel
theorem dX7_pour_5 : decode cX7_pour 5 = .ok (.iconst 0, 1) := by decide +kernel
theorem dX7_pour_6 : decode cX7_pour 6 = .ok (.iaload, 1) := by decide +kernel
theorem dX7_pour_7 : decode cX7_pour 7 = .ok (.if_icmp .le 14, 3) := by decide +kernel
theorem dX7_pour_10 : decode cX7_pour 10 = .ok (.iload_n 1, 1) := by decide +kernel
theorem dX7_pour_11 : decode cX7_pour 11 = .ok (.aload_n 0, 1) := by decide +kernel
theorem dX7_pour_12 : decode cX7_pour 12 = .ok (.getfield 20, 3) := by decide +kernel
theorem dX7_pour_15 : decode cX7_pour 15 = .ok (.iconst 0, 1) := by decide +kernel
theorem dX7_pour_16 : decode cX7_pour 16 = .ok (.iaload, 1) := by decide +kernel
theorem dX7_pour_17 : decode cX7_pour 17 = .ok (.isub, 1) := by decide +kernel
theorem dX7_pour_18 : decode cX7_pour 18 = .ok (.goto 4, 3) := by decide +kernel
theorem dX7_pour_21 : decode cX7_pour 21 = .ok (.iconst 0, 1) := by decide +kernel
theorem dX7_pour_22 : decode cX7_pour 22 = .ok (.istore_n 2, 1) := by decide +kernel
theorem dX7_pour_23 : decode cX7_pour 23 = .ok (.aload_n 0, 1) := by decide +kernel
theorem dX7_pour_24 : decode cX7_pour 24 = .ok (.getfield 20, 3) := by decide +kernel
theorem dX7_pour_27 : decode cX7_pour 27 = .ok (.iconst 0, 1) := by decide +kernel
theorem dX7_pour_28 : decode cX7_pour 28 = .ok (.dup2, 1) := by decide +kernel
theorem dX7_pour_29 : decode cX7_pour 29 = .ok (.iaload, 1) := by decide +kernel
theorem dX7_pour_30 : decode cX7_pour 30 = .ok (.iload_n 1, 1) := by decide +kernel
theorem dX7_pour_31 : decode cX7_pour 31 = .ok (.iload_n 2, 1) := by decide +kernel
theorem dX7_pour_32 : decode cX7_pour 32 = .ok (.isub, 1) := by decide +kernel
theorem dX7_pour_33 : decode cX7_pour 33 = .ok (.isub, 1) := by decide +kernel
theorem dX7_pour_34 : decode cX7_pour 34 = .ok (.iastore, 1) := by decide +kernel
theorem dX7_pour_35 : decode cX7_pour 35 = .ok (.aload_n 0, 1) := by decide +kernel
theorem dX7_pour_36 : decode cX7_pour 36 = .ok (.getfield 20, 3) := by decide +kernel
theorem dX7_pour_39 : decode cX7_pour 39 = .ok (.iconst 1, 1) := by decide +kernel
theorem dX7_pour_40 : decode cX7_pour 40 = .ok (.iaload, 1) := by decide +kernel
theorem dX7_pour_41 : decode cX7_pour 41 = .ok (.iconst 5, 1) := by decide +kernel
theorem dX7_pour_42 : decode cX7_pour 42 = .ok (.iload_n 1, 1) := by decide +kernel
theorem dX7_pour_43 : decode cX7_pour 43 = .ok (.imul, 1) := by decide +kernel
theorem dX7_pour_44 : decode cX7_pour 44 = .ok (.iadd, 1) := by decide +kernel
theorem dX7_pour_45 : decode cX7_pour 45 = .ok (.istore_n 3, 1) := by decide +kernel
theorem dX7_pour_46 : decode cX7_pour 46 = .ok (.aload_n 0, 1) := by decide +kernel
theorem dX7_pour_47 : decode cX7_pour 47 = .ok (.getfield 20, 3) := by decide +kernel
theorem dX7_pour_50 : decode cX7_pour 50 = .ok (.iconst 1, 1) := by decide +kernel
theorem dX7_pour_51 : decode cX7_pour 51 = .ok (.iload_n 3, 1) := by decide +kernel
theorem dX7_pour_52 : decode cX7_pour 52 = .ok (.bipush 100, 2) := by decide +kernel
theorem dX7_pour_54 : decode cX7_pour 54 = .ok (.if_icmp .le 8, 3) := by decide +kernel
theorem dX7_pour_57 : decode cX7_pour 57 = .ok (.bipush 100, 2) := by decide +kernel
theorem dX7_pour_59 : decode cX7_pour 59 = .ok (.goto 4, 3) := by decide +kernel
theorem dX7_pour_62 : decode cX7_pour 62 = .ok (.iload_n 3, 1) := by decide +kernel
theorem dX7_pour_63 : decode cX7_pour 63 = .ok (.iastore, 1) := by decide +kernel
theorem dX7_pour_64 : decode cX7_pour 64 = .ok (.iload_n 2, 1) := by decide +kernel
theorem dX7_pour_65 : decode cX7_pour 65 = .ok (.ireturn, 1) := by decide +kernel
set_option maxRecDepth 20000 in
theorem ggX7_goHour_X7_depth : GoodIn wsX7_goHour wsX7_depth := goodIn_r _ [7, 2, 1, 12, 13, 14, 15, 16, 17, 18, 19, 20, 21, 22, 23, 24, 25, 26, 27, 28, 29, 30, 31, 32, 33, 34, 35, 36, 37, 38, 39, 40, 41] (by decide +kernel) (by decide +kernel)
set_option maxRecDepth 20000 in
theorem gX7_goHour_X7_depth : GoodIn wsX7_goHour (wsV RX7 127 RX7 yX7_depth wsX7_depth) := goodIn_app (goodIn_of _ (by decide +kernel)) ggX7_goHour_X7_depth
set_option maxRecDepth 20000 in
theorem ggX7_goHour_X7_air : GoodIn wsX7_goHour wsX7_air := goodIn_r _ [11, 2, 3, 4, 5, 6, 7, 1, 12, 13, 14, 15, 16, 17, 18, 19, 20, 21, 22, 23, 24, 25, 26, 27, 28, 29, 30, 31, 32, 33, 34, 35, 36, 37, 38, 39, 40, 41] (by decide +kernel) (by decide +kernel)
set_option maxRecDepth 20000 in
theorem gX7_goHour_X7_air : GoodIn wsX7_goHour (wsV RX7 130 RX7 yX7_air wsX7_air) := goodIn_app (goodIn_of _ (by decide +kernel)) ggX7_goHour_X7_air
theorem dX7_goHour_0 : decode cX7_goHour 0 = .ok (.aload_n 0, 1) := by decide +kernel
theorem dX7_goHour_1 : decode cX7_goHour 1 = .ok (.invokevirtual 127, 3) := by decide +kernel
theorem dX7_goHour_4 : decode cX7_goHour 4 = .ok (.istore_n 1, 1) := by decide +kernel
theorem dX7_goHour_5 : decode cX7_goHour 5 = .ok (.aload_n 0, 1) := by decide +kernel
theorem dX7_goHour_6 : decode cX7_goHour 6 = .ok (.getfield 20, 3) := by decide +kernel
theorem dX7_goHour_9 : decode cX7_goHour 9 = .ok (.iconst 0, 1) := by decide +kernel
theorem dX7_goHour_10 : decode cX7_goHour 10 = .ok (.iaload, 1) := by decide +kernel
theorem dX7_goHour_11 : decode cX7_goHour 11 = .ok (.aload_n 0, 1) := by decide +kernel
theorem dX7_goHour_12 : decode cX7_goHour 12 = .ok (.getfield 17, 3) := by decide +kernel
theorem dX7_goHour_15 : decode cX7_goHour 15 = .ok (.iconst 5, 1) := by decide +kernel
theorem dX7_goHour_16 : decode cX7_goHour 16 = .ok (.iaload, 1) := by decide +kernel
theorem dX7_goHour_17 : decode cX7_goHour 17 = .ok (.iadd, 1) := by decide +kernel
theorem dX7_goHour_18 : decode cX7_goHour 18 = .ok (.aload_n 0, 1) := by decide +kernel
theorem dX7_goHour_19 : decode cX7_goHour 19 = .ok (.invokevirtual 130, 3) := by decide +kernel
theorem dX7_goHour_22 : decode cX7_goHour 22 = .ok (.iadd, 1) := by decide +kernel
theorem dX7_goHour_23 : decode cX7_goHour 23 = .ok (.istore_n 2, 1) := by decide +kernel
theorem dX7_goHour_24 : decode cX7_goHour 24 = .ok (.iload_n 2, 1) := by decide +kernel
theorem dX7_goHour_25 : decode cX7_goHour 25 = .ok (.iload_n 1, 1) := by decide +kernel
theorem dX7_goHour_26 : decode cX7_goHour 26 = .ok (.if_icmp .le 7, 3) := by decide +kernel
theorem dX7_goHour_29 : decode cX7_goHour 29 = .ok (.iload_n 1, 1) := by decide +kernel
theorem dX7_goHour_30 : decode cX7_goHour 30 = .ok (.goto 4, 3) := by decide +kernel
theorem dX7_goHour_33 : decode cX7_goHour 33 = .ok (.iload_n 2, 1) := by decide +kernel
theorem dX7_goHour_34 : decode cX7_goHour 34 = .ok (.istore_n 2, 1) := by decide +kernel
theorem dX7_goHour_35 : decode cX7_goHour 35 = .ok (.iload_n 2, 1) := by decide +kernel
theorem dX7_goHour_36 : decode cX7_goHour 36 = .ok (.ifCond .le 15, 3) := by decide +kernel
theorem dX7_goHour_39 : decode cX7_goHour 39 = .ok (.aload_n 0, 1) := by decide +kernel
theorem dX7_goHour_40 : decode cX7_goHour 40 = .ok (.getfield 20, 3) := by decide +kernel
theorem dX7_goHour_43 : decode cX7_goHour 43 = .ok (.iconst 1, 1) := by decide +kernel
theorem dX7_goHour_44 : decode cX7_goHour 44 = .ok (.iaload, 1) := by decide +kernel
theorem dX7_goHour_45 : decode cX7_goHour 45 = .ok (.bipush 10, 2) := by decide +kernel
theorem dX7_goHour_47 : decode cX7_goHour 47 = .ok (.isub, 1) := by decide +kernel
theorem dX7_goHour_48 : decode cX7_goHour 48 = .ok (.goto 9, 3) := by decide +kernel
theorem dX7_goHour_51 : decode cX7_goHour 51 = .ok (.aload_n 0, 1) := by decide +kernel
theorem dX7_goHour_52 : decode cX7_goHour 52 = .ok (.getfield 20, 3) := by decide +kernel
theorem dX7_goHour_55 : decode cX7_goHour 55 = .ok (.iconst 1, 1) := by decide +kernel
theorem dX7_goHour_56 : decode cX7_goHour 56 = .ok (.iaload, 1) := by decide +kernel
theorem dX7_goHour_57 : decode cX7_goHour 57 = .ok (.istore_n 3, 1) := by decide +kernel
theorem dX7_goHour_58 : decode cX7_goHour 58 = .ok (.aload_n 0, 1) := by decide +kernel
theorem dX7_goHour_59 : decode cX7_goHour 59 = .ok (.getfield 20, 3) := by decide +kernel
theorem dX7_goHour_62 : decode cX7_goHour 62 = .ok (.iconst 1, 1) := by decide +kernel
theorem dX7_goHour_63 : decode cX7_goHour 63 = .ok (.iload_n 3, 1) := by decide +kernel
theorem dX7_goHour_64 : decode cX7_goHour 64 = .ok (.ifCond .ge 7, 3) := by decide +kernel
theorem dX7_goHour_67 : decode cX7_goHour 67 = .ok (.iconst 0, 1) := by decide +kernel
theorem dX7_goHour_68 : decode cX7_goHour 68 = .ok (.goto 4, 3) := by decide +kernel
theorem dX7_goHour_71 : decode cX7_goHour 71 = .ok (.iload_n 3, 1) := by decide +kernel
theorem dX7_goHour_72 : decode cX7_goHour 72 = .ok (.iastore, 1) := by decide +kernel
theorem dX7_goHour_73 : decode cX7_goHour 73 = .ok (.aload_n 0, 1) := by decide +kernel
theorem dX7_goHour_74 : decode cX7_goHour 74 = .ok (.getfield 20, 3) := by decide +kernel
theorem dX7_goHour_77 : decode cX7_goHour 77 = .ok (.iconst 2, 1) := by decide +kernel
theorem dX7_goHour_78 : decode cX7_goHour 78 = .ok (.iaload, 1) := by decide +kernel
theorem dX7_goHour_79 : decode cX7_goHour 79 = .ok (.aload_n 0, 1) := by decide +kernel
theorem dX7_goHour_80 : decode cX7_goHour 80 = .ok (.getfield 17, 3) := by decide +kernel
theorem dX7_goHour_83 : decode cX7_goHour 83 = .ok (.iconst 3, 1) := by decide +kernel
theorem dX7_goHour_84 : decode cX7_goHour 84 = .ok (.iaload, 1) := by decide +kernel
theorem dX7_goHour_85 : decode cX7_goHour 85 = .ok (.isub, 1) := by decide +kernel
theorem dX7_goHour_86 : decode cX7_goHour 86 = .ok (.istore 4, 2) := by decide +kernel
theorem dX7_goHour_88 : decode cX7_goHour 88 = .ok (.aload_n 0, 1) := by decide +kernel
theorem dX7_goHour_89 : decode cX7_goHour 89 = .ok (.getfield 20, 3) := by decide +kernel
theorem dX7_goHour_92 : decode cX7_goHour 92 = .ok (.iconst 2, 1) := by decide +kernel
theorem dX7_goHour_93 : decode cX7_goHour 93 = .ok (.iload 4, 2) := by decide +kernel
theorem dX7_goHour_95 : decode cX7_goHour 95 = .ok (.ifCond .ge 7, 3) := by decide +kernel
theorem dX7_goHour_98 : decode cX7_goHour 98 = .ok (.iconst 0, 1) := by decide +kernel
theorem dX7_goHour_99 : decode cX7_goHour 99 = .ok (.goto 5, 3) := by decide +kernel
theorem dX7_goHour_102 : decode cX7_goHour 102 = .ok (.iload 4, 2) := by decide +kernel
theorem dX7_goHour_104 : decode cX7_goHour 104 = .ok (.iastore, 1) := by decide +kernel
theorem dX7_goHour_105 : decode cX7_goHour 105 = .ok (.aload_n 0, 1) := by decide +kernel
theorem dX7_goHour_106 : decode cX7_goHour 106 = .ok (.getfield 20, 3) := by decide +kernel
theorem dX7_goHour_109 : decode cX7_goHour 109 = .ok (.iconst 0, 1) := by decide +kernel
theorem dX7_goHour_110 : decode cX7_goHour 110 = .ok (.iload_n 2, 1) := by decide +kernel
theorem dX7_goHour_111 : decode cX7_goHour 111 = .ok (.aload_n 0, 1) := by decide +kernel
theorem dX7_goHour_112 : decode cX7_goHour 112 = .ok (.invokevirtual 127, 3) := by decide +kernel
theorem dX7_goHour_115 : decode cX7_goHour 115 = .ok (.if_icmp .le 10, 3) := by decide +kernel
theorem dX7_goHour_118 : decode cX7_goHour 118 = .ok (.aload_n 0, 1) := by decide +kernel
theorem dX7_goHour_119 : decode cX7_goHour 119 = .ok (.invokevirtual 127, 3) := by decide +kernel
theorem dX7_goHour_122 : decode cX7_goHour 122 = .ok (.goto 4, 3) := by decide +kernel
theorem dX7_goHour_125 : decode cX7_goHour 125 = .ok (.iload_n 2, 1) := by decide +kernel
theorem dX7_goHour_126 : decode cX7_goHour 126 = .ok (.iastore, 1) := by decide +kernel
theorem dX7_goHour_127 : decode cX7_goHour 127 = .ok (.aload_n 0, 1) := by decide +kernel
theorem dX7_goHour_128 : decode cX7_goHour 128 = .ok (.getfield 20, 3) := by decide +kernel
theorem dX7_goHour_131 : decode cX7_goHour 131 = .ok (.iconst 5, 1) := by decide +kernel
theorem dX7_goHour_132 : decode cX7_goHour 132 = .ok (.dup2, 1) := by decide +kernel
theorem dX7_goHour_133 : decode cX7_goHour 133 = .ok (.iaload, 1) := by decide +kernel
theorem dX7_goHour_134 : decode cX7_goHour 134 = .ok (.iconst 1, 1) := by decide +kernel
theorem dX7_goHour_135 : decode cX7_goHour 135 = .ok (.iadd, 1) := by decide +kernel
theorem dX7_goHour_136 : decode cX7_goHour 136 = .ok (.iastore, 1) := by decide +kernel
theorem dX7_goHour_137 : decode cX7_goHour 137 = .ok (.return_, 1) := by decide +kernel
set_option maxRecDepth 20000 in
theorem ggX7_strokesUntil_X7_stroke : GoodIn wsX7_strokesUntil wsX7_stroke := goodIn_r _ [5, 6, 7, 8, 9, 4, 10, 11, 12, 13, 14, 15, 16, 17, 18, 19, 20, 21, 22, 23, 24, 25, 26, 27, 28, 29, 30, 31, 32, 33, 34, 35, 36, 37, 38, 39, 40, 41, 42, 43, 44, 45, 46, 47, 48, 49, 50, 51, 52, 53] (by decide +kernel) (by decide +kernel)
set_option maxRecDepth 20000 in
theorem gX7_strokesUntil_X7_stroke : GoodIn wsX7_strokesUntil (wsV RX7 139 RX7 yX7_stroke wsX7_stroke) := goodIn_app (goodIn_of _ (by decide +kernel)) ggX7_strokesUntil_X7_stroke
theorem dX7_strokesUntil_0 : decode cX7_strokesUntil 0 = .ok (.iconst 1, 1) := by decide +kernel
theorem dX7_strokesUntil_1 : decode cX7_strokesUntil 1 = .ok (.istore_n 1, 1) := by decide +kernel
theorem dX7_strokesUntil_2 : decode cX7_strokesUntil 2 = .ok (.iload_n 1, 1) := by decide +kernel
theorem dX7_strokesUntil_3 : decode cX7_strokesUntil 3 = .ok (.sipush 200, 3) := by decide +kernel
theorem dX7_strokesUntil_6 : decode cX7_strokesUntil 6 = .ok (.if_icmp .gt 18, 3) := by decide +kernel
theorem dX7_strokesUntil_9 : decode cX7_strokesUntil 9 = .ok (.aload_n 0, 1) := by decide +kernel
theorem dX7_strokesUntil_10 : decode cX7_strokesUntil 10 = .ok (.invokevirtual 139, 3) := by decide +kernel
theorem dX7_strokesUntil_13 : decode cX7_strokesUntil 13 = .ok (.ifCond .le 5, 3) := by decide +kernel
theorem dX7_strokesUntil_16 : decode cX7_strokesUntil 16 = .ok (.iload_n 1, 1) := by decide +kernel
theorem dX7_strokesUntil_17 : decode cX7_strokesUntil 17 = .ok (.ireturn, 1) := by decide +kernel
theorem dX7_strokesUntil_18 : decode cX7_strokesUntil 18 = .ok (.iinc 1 1, 3) := by decide +kernel
theorem dX7_strokesUntil_21 : decode cX7_strokesUntil 21 = .ok (.goto (-19), 3) := by decide +kernel
theorem dX7_strokesUntil_24 : decode cX7_strokesUntil 24 = .ok (.bipush (-9), 2) := by decide +kernel
theorem dX7_strokesUntil_26 : decode cX7_strokesUntil 26 = .ok (.ireturn, 1) := by decide +kernel
set_option maxRecDepth 20000 in
theorem ggX7_strokes_X7_in : GoodIn wsX7_strokes wsX7_in := goodIn_r _ [4] (by decide +kernel) (by decide +kernel)
set_option maxRecDepth 20000 in
theorem gX7_strokes_X7_in : GoodIn wsX7_strokes (va_wsS RX7 74 yX7_in wsX7_in) := goodIn_app (goodIn_of _ (by decide +kernel)) ggX7_strokes_X7_in
set_option maxRecDepth 20000 in
theorem ggX7_strokes_X7_takeNow : GoodIn wsX7_strokes wsX7_takeNow := goodIn_r _ [8, 9, 10, 11, 12, 13, 3, 14, 15, 16, 41, 42, 43, 44, 45, 46, 47, 48, 49, 50, 51, 52, 53, 54, 55, 56, 57, 58, 59, 60, 61, 62, 63, 64, 65, 66, 67, 68, 69, 70] (by decide +kernel) (by decide +kernel)
set_option maxRecDepth 20000 in
theorem gX7_strokes_X7_takeNow : GoodIn wsX7_strokes (wsV RX7 142 RX7 yX7_takeNow wsX7_takeNow) := goodIn_app (goodIn_of _ (by decide +kernel)) ggX7_strokes_X7_takeNow
set_option maxRecDepth 20000 in
theorem ggX7_strokes_X7_stroke : GoodIn wsX7_strokes wsX7_stroke := goodIn_r _ [20, 9, 21, 22, 23, 3, 24, 15, 25, 26, 27, 28, 29, 30, 31, 32, 33, 34, 35, 36, 41, 42, 43, 44, 45, 46, 47, 48, 49, 50, 51, 52, 53, 54, 55, 56, 57, 58, 59, 60, 61, 62, 63, 64, 65, 66, 67, 68, 69, 70] (by decide +kernel) (by decide +kernel)
set_option maxRecDepth 20000 in
theorem gX7_strokes_X7_stroke : GoodIn wsX7_strokes (wsV RX7 139 RX7 yX7_stroke wsX7_stroke) := goodIn_app (goodIn_of _ (by decide +kernel)) ggX7_strokes_X7_stroke
set_option maxRecDepth 20000 in
theorem ggX7_strokes_X7_giveNow : GoodIn wsX7_strokes wsX7_giveNow := goodIn_r _ [40, 10, 9, 41, 42, 43, 44, 45, 46, 47, 48, 49, 50, 51, 52, 53, 54, 55, 56, 57, 58, 59, 60, 61, 62, 63, 64, 65, 66, 67, 68, 69, 70] (by decide +kernel) (by decide +kernel)
set_option maxRecDepth 20000 in
theorem gX7_strokes_X7_giveNow : GoodIn wsX7_strokes (wsV RX7 145 RX7 yX7_giveNow wsX7_giveNow) := goodIn_app (goodIn_of _ (by decide +kernel)) ggX7_strokes_X7_giveNow
theorem dX7_strokes_0 : decode cX7_strokes 0 = .ok (.iload_n 1, 1) := by decide +kernel
theorem dX7_strokes_1 : decode cX7_strokes 1 = .ok (.iconst 1, 1) := by decide +kernel
theorem dX7_strokes_2 : decode cX7_strokes 2 = .ok (.sipush 200, 3) := by decide +kernel
theorem dX7_strokes_5 : decode cX7_strokes 5 = .ok (.invokestatic 74, 3) := by decide +kernel
theorem dX7_strokes_8 : decode cX7_strokes 8 = .ok (.ifCond .ne 5, 3) := by decide +kernel
theorem dX7_strokes_11 : decode cX7_strokes 11 = .ok (.iconst (-1), 1) := by decide +kernel
theorem dX7_strokes_12 : decode cX7_strokes 12 = .ok (.ireturn, 1) := by decide +kernel
theorem dX7_strokes_13 : decode cX7_strokes 13 = .ok (.aload_n 0, 1) := by decide +kernel
theorem dX7_strokes_14 : decode cX7_strokes 14 = .ok (.invokevirtual 142, 3) := by decide +kernel
theorem dX7_strokes_17 : decode cX7_strokes 17 = .ok (.iconst 0, 1) := by decide +kernel
theorem dX7_strokes_18 : decode cX7_strokes 18 = .ok (.istore_n 2, 1) := by decide +kernel
theorem dX7_strokes_19 : decode cX7_strokes 19 = .ok (.iconst 0, 1) := by decide +kernel
theorem dX7_strokes_20 : decode cX7_strokes 20 = .ok (.istore_n 3, 1) := by decide +kernel
theorem dX7_strokes_21 : decode cX7_strokes 21 = .ok (.iload_n 3, 1) := by decide +kernel
theorem dX7_strokes_22 : decode cX7_strokes 22 = .ok (.iload_n 1, 1) := by decide +kernel
theorem dX7_strokes_23 : decode cX7_strokes 23 = .ok (.if_icmp .ge 16, 3) := by decide +kernel
theorem dX7_strokes_26 : decode cX7_strokes 26 = .ok (.iload_n 2, 1) := by decide +kernel
theorem dX7_strokes_27 : decode cX7_strokes 27 = .ok (.aload_n 0, 1) := by decide +kernel
theorem dX7_strokes_28 : decode cX7_strokes 28 = .ok (.invokevirtual 139, 3) := by decide +kernel
theorem dX7_strokes_31 : decode cX7_strokes 31 = .ok (.iadd, 1) := by decide +kernel
theorem dX7_strokes_32 : decode cX7_strokes 32 = .ok (.istore_n 2, 1) := by decide +kernel
theorem dX7_strokes_33 : decode cX7_strokes 33 = .ok (.iinc 3 1, 3) := by decide +kernel
theorem dX7_strokes_36 : decode cX7_strokes 36 = .ok (.goto (-15), 3) := by decide +kernel
theorem dX7_strokes_39 : decode cX7_strokes 39 = .ok (.aload_n 0, 1) := by decide +kernel
theorem dX7_strokes_40 : decode cX7_strokes 40 = .ok (.invokevirtual 145, 3) := by decide +kernel
theorem dX7_strokes_43 : decode cX7_strokes 43 = .ok (.iload_n 2, 1) := by decide +kernel
theorem dX7_strokes_44 : decode cX7_strokes 44 = .ok (.ireturn, 1) := by decide +kernel
set_option maxRecDepth 20000 in
theorem ggX7_jug_X7_in : GoodIn wsX7_jug wsX7_in := goodIn_r _ [4] (by decide +kernel) (by decide +kernel)
set_option maxRecDepth 20000 in
theorem gX7_jug_X7_in : GoodIn wsX7_jug (va_wsS RX7 74 yX7_in wsX7_in) := goodIn_app (goodIn_of _ (by decide +kernel)) ggX7_jug_X7_in
set_option maxRecDepth 20000 in
theorem ggX7_jug_X7_takeNow : GoodIn wsX7_jug wsX7_takeNow := goodIn_r _ [8, 9, 10, 11, 12, 13, 3, 14, 15, 16, 25, 26, 27, 28, 29, 30, 31, 32, 33, 34, 35, 36, 37, 38, 39, 40, 41, 42, 43, 44, 45, 46, 47, 48, 49, 50, 51, 52, 53, 54] (by decide +kernel) (by decide +kernel)
set_option maxRecDepth 20000 in
theorem gX7_jug_X7_takeNow : GoodIn wsX7_jug (wsV RX7 142 RX7 yX7_takeNow wsX7_takeNow) := goodIn_app (goodIn_of _ (by decide +kernel)) ggX7_jug_X7_takeNow
set_option maxRecDepth 20000 in
theorem ggX7_jug_X7_pour : GoodIn wsX7_jug wsX7_pour := goodIn_r _ [20, 9, 25, 26, 27, 28, 29, 30, 31, 32, 33, 34, 35, 36, 37, 38, 39, 40, 41, 42, 43, 44, 45, 46, 47, 48, 49, 50, 51, 52, 53, 54] (by decide +kernel) (by decide +kernel)
set_option maxRecDepth 20000 in
theorem gX7_jug_X7_pour : GoodIn wsX7_jug (wsV RX7 148 RX7 yX7_pour wsX7_pour) := goodIn_app (goodIn_of _ (by decide +kernel)) ggX7_jug_X7_pour
set_option maxRecDepth 20000 in
theorem ggX7_jug_X7_giveNow : GoodIn wsX7_jug wsX7_giveNow := goodIn_r _ [24, 10, 9, 25, 26, 27, 28, 29, 30, 31, 32, 33, 34, 35, 36, 37, 38, 39, 40, 41, 42, 43, 44, 45, 46, 47, 48, 49, 50, 51, 52, 53, 54] (by decide +kernel) (by decide +kernel)
set_option maxRecDepth 20000 in
theorem gX7_jug_X7_giveNow : GoodIn wsX7_jug (wsV RX7 145 RX7 yX7_giveNow wsX7_giveNow) := goodIn_app (goodIn_of _ (by decide +kernel)) ggX7_jug_X7_giveNow
theorem dX7_jug_0 : decode cX7_jug 0 = .ok (.iload_n 1, 1) := by decide +kernel
theorem dX7_jug_1 : decode cX7_jug 1 = .ok (.iconst 1, 1) := by decide +kernel
theorem dX7_jug_2 : decode cX7_jug 2 = .ok (.bipush 99, 2) := by decide +kernel
theorem dX7_jug_4 : decode cX7_jug 4 = .ok (.invokestatic 74, 3) := by decide +kernel
theorem dX7_jug_7 : decode cX7_jug 7 = .ok (.ifCond .ne 5, 3) := by decide +kernel
theorem dX7_jug_10 : decode cX7_jug 10 = .ok (.iconst (-1), 1) := by decide +kernel
theorem dX7_jug_11 : decode cX7_jug 11 = .ok (.ireturn, 1) := by decide +kernel
theorem dX7_jug_12 : decode cX7_jug 12 = .ok (.aload_n 0, 1) := by decide +kernel
theorem dX7_jug_13 : decode cX7_jug 13 = .ok (.invokevirtual 142, 3) := by decide +kernel
theorem dX7_jug_16 : decode cX7_jug 16 = .ok (.aload_n 0, 1) := by decide +kernel
theorem dX7_jug_17 : decode cX7_jug 17 = .ok (.iload_n 1, 1) := by decide +kernel
theorem dX7_jug_18 : decode cX7_jug 18 = .ok (.invokevirtual 148, 3) := by decide +kernel
theorem dX7_jug_21 : decode cX7_jug 21 = .ok (.istore_n 2, 1) := by decide +kernel
theorem dX7_jug_22 : decode cX7_jug 22 = .ok (.aload_n 0, 1) := by decide +kernel
theorem dX7_jug_23 : decode cX7_jug 23 = .ok (.invokevirtual 145, 3) := by decide +kernel
theorem dX7_jug_26 : decode cX7_jug 26 = .ok (.iload_n 2, 1) := by decide +kernel
theorem dX7_jug_27 : decode cX7_jug 27 = .ok (.ireturn, 1) := by decide +kernel
set_option maxRecDepth 20000 in
theorem ggX7_hours_X7_in : GoodIn wsX7_hours wsX7_in := goodIn_r _ [5] (by decide +kernel) (by decide +kernel)
set_option maxRecDepth 20000 in
theorem gX7_hours_X7_in : GoodIn wsX7_hours (va_wsS RX7 74 yX7_in wsX7_in) := goodIn_app (goodIn_of _ (by decide +kernel)) ggX7_hours_X7_in
set_option maxRecDepth 20000 in
theorem ggX7_hours_X7_takeNow : GoodIn wsX7_hours wsX7_takeNow := goodIn_r _ [9, 10, 1, 11, 12, 13, 4, 14, 15, 16, 33, 34, 35, 36, 37, 38, 39, 40, 41, 42, 43, 44, 45, 46, 47, 48, 49, 50, 51, 52, 53, 54, 55, 56, 57, 58, 59, 60, 61, 62] (by decide +kernel) (by decide +kernel)
set_option maxRecDepth 20000 in
theorem gX7_hours_X7_takeNow : GoodIn wsX7_hours (wsV RX7 142 RX7 yX7_takeNow wsX7_takeNow) := goodIn_app (goodIn_of _ (by decide +kernel)) ggX7_hours_X7_takeNow
set_option maxRecDepth 20000 in
theorem ggX7_hours_X7_goHour : GoodIn wsX7_hours wsX7_goHour := goodIn_r _ [20, 10, 15, 21, 22, 23, 4, 24, 25, 26, 27, 28, 33, 34, 35, 36, 37, 38, 39, 40, 41, 42, 43, 44, 45, 46, 47, 48, 49, 50, 51, 52, 53, 54, 55, 56, 57, 58, 59, 60, 61, 62] (by decide +kernel) (by decide +kernel)
set_option maxRecDepth 20000 in
theorem gX7_hours_X7_goHour : GoodIn wsX7_hours (wsV RX7 151 RX7 yX7_goHour wsX7_goHour) := goodIn_app (goodIn_of _ (by decide +kernel)) ggX7_hours_X7_goHour
set_option maxRecDepth 20000 in
theorem ggX7_hours_X7_giveNow : GoodIn wsX7_hours wsX7_giveNow := goodIn_r _ [32, 1, 10, 33, 34, 35, 36, 37, 38, 39, 40, 41, 42, 43, 44, 45, 46, 47, 48, 49, 50, 51, 52, 53, 54, 55, 56, 57, 58, 59, 60, 61, 62] (by decide +kernel) (by decide +kernel)
set_option maxRecDepth 20000 in
theorem gX7_hours_X7_giveNow : GoodIn wsX7_hours (wsV RX7 145 RX7 yX7_giveNow wsX7_giveNow) := goodIn_app (goodIn_of _ (by decide +kernel)) ggX7_hours_X7_giveNow
theorem dX7_hours_0 : decode cX7_hours 0 = .ok (.iload_n 1, 1) := by decide +kernel
theorem dX7_hours_1 : decode cX7_hours 1 = .ok (.iconst 1, 1) := by decide +kernel
theorem dX7_hours_2 : decode cX7_hours 2 = .ok (.bipush 48, 2) := by decide +kernel
theorem dX7_hours_4 : decode cX7_hours 4 = .ok (.invokestatic 74, 3) := by decide +kernel
theorem dX7_hours_7 : decode cX7_hours 7 = .ok (.ifCond .ne 5, 3) := by decide +kernel
theorem dX7_hours_10 : decode cX7_hours 10 = .ok (.iconst (-1), 1) := by decide +kernel
theorem dX7_hours_11 : decode cX7_hours 11 = .ok (.ireturn, 1) := by decide +kernel
theorem dX7_hours_12 : decode cX7_hours 12 = .ok (.aload_n 0, 1) := by decide +kernel
theorem dX7_hours_13 : decode cX7_hours 13 = .ok (.invokevirtual 142, 3) := by decide +kernel
theorem dX7_hours_16 : decode cX7_hours 16 = .ok (.iconst 0, 1) := by decide +kernel
theorem dX7_hours_17 : decode cX7_hours 17 = .ok (.istore_n 2, 1) := by decide +kernel
theorem dX7_hours_18 : decode cX7_hours 18 = .ok (.iload_n 2, 1) := by decide +kernel
theorem dX7_hours_19 : decode cX7_hours 19 = .ok (.iload_n 1, 1) := by decide +kernel
theorem dX7_hours_20 : decode cX7_hours 20 = .ok (.if_icmp .ge 13, 3) := by decide +kernel
theorem dX7_hours_23 : decode cX7_hours 23 = .ok (.aload_n 0, 1) := by decide +kernel
theorem dX7_hours_24 : decode cX7_hours 24 = .ok (.invokevirtual 151, 3) := by decide +kernel
theorem dX7_hours_27 : decode cX7_hours 27 = .ok (.iinc 2 1, 3) := by decide +kernel
theorem dX7_hours_30 : decode cX7_hours 30 = .ok (.goto (-12), 3) := by decide +kernel
theorem dX7_hours_33 : decode cX7_hours 33 = .ok (.aload_n 0, 1) := by decide +kernel
theorem dX7_hours_34 : decode cX7_hours 34 = .ok (.invokevirtual 145, 3) := by decide +kernel
theorem dX7_hours_37 : decode cX7_hours 37 = .ok (.aload_n 0, 1) := by decide +kernel
theorem dX7_hours_38 : decode cX7_hours 38 = .ok (.getfield 23, 3) := by decide +kernel
theorem dX7_hours_41 : decode cX7_hours 41 = .ok (.iconst 0, 1) := by decide +kernel
theorem dX7_hours_42 : decode cX7_hours 42 = .ok (.iaload, 1) := by decide +kernel
theorem dX7_hours_43 : decode cX7_hours 43 = .ok (.ireturn, 1) := by decide +kernel
set_option maxRecDepth 20000 in
theorem ggX7_now_X7_in : GoodIn wsX7_now wsX7_in := goodIn_r _ [5] (by decide +kernel) (by decide +kernel)
set_option maxRecDepth 20000 in
theorem gX7_now_X7_in : GoodIn wsX7_now (va_wsS RX7 74 yX7_in wsX7_in) := goodIn_app (goodIn_of _ (by decide +kernel)) ggX7_now_X7_in
set_option maxRecDepth 20000 in
theorem ggX7_now_X7_takeNow : GoodIn wsX7_now wsX7_takeNow := goodIn_r _ [9, 10, 1, 11, 12, 13, 4, 14, 15, 16, 33, 34, 35, 36, 37, 38, 39, 40, 41, 42, 43, 44, 45, 46, 47, 48, 49, 50, 51, 52, 53, 54, 55, 56, 57, 58, 59, 60, 61, 62] (by decide +kernel) (by decide +kernel)
set_option maxRecDepth 20000 in
theorem gX7_now_X7_takeNow : GoodIn wsX7_now (wsV RX7 142 RX7 yX7_takeNow wsX7_takeNow) := goodIn_app (goodIn_of _ (by decide +kernel)) ggX7_now_X7_takeNow
set_option maxRecDepth 20000 in
theorem ggX7_now_X7_depth : GoodIn wsX7_now wsX7_depth := goodIn_r _ [20, 15, 10, 33, 34, 35, 36, 37, 38, 39, 40, 41, 42, 43, 44, 45, 46, 47, 48, 49, 50, 51, 52, 53, 54, 55, 56, 57, 58, 59, 60, 61, 62] (by decide +kernel) (by decide +kernel)
set_option maxRecDepth 20000 in
theorem gX7_now_X7_depth : GoodIn wsX7_now (wsV RX7 127 RX7 yX7_depth wsX7_depth) := goodIn_app (goodIn_of _ (by decide +kernel)) ggX7_now_X7_depth
set_option maxRecDepth 20000 in
theorem ggX7_now_X7_lift : GoodIn wsX7_now wsX7_lift := goodIn_r _ [24, 15, 33, 34, 35, 36, 37, 38, 39, 40, 41, 42, 43, 44, 45, 46, 47, 48, 49, 50, 51, 52, 53, 54, 55, 56, 57, 58, 59, 60, 61, 62] (by decide +kernel) (by decide +kernel)
set_option maxRecDepth 20000 in
theorem gX7_now_X7_lift : GoodIn wsX7_now (wsV RX7 136 RX7 yX7_lift wsX7_lift) := goodIn_app (goodIn_of _ (by decide +kernel)) ggX7_now_X7_lift
set_option maxRecDepth 20000 in
theorem ggX7_now_X7_gain : GoodIn wsX7_now wsX7_gain := goodIn_r _ [28, 15, 10, 29, 30, 31, 4, 32, 17, 18, 19, 20, 33, 34, 35, 36, 37, 38, 39, 40, 41, 42, 43, 44, 45, 46, 47, 48, 49, 50, 51, 52, 53, 54, 55, 56, 57, 58, 59, 60, 61, 62] (by decide +kernel) (by decide +kernel)
set_option maxRecDepth 20000 in
theorem gX7_now_X7_gain : GoodIn wsX7_now (wsV RX7 133 RX7 yX7_gain wsX7_gain) := goodIn_app (goodIn_of _ (by decide +kernel)) ggX7_now_X7_gain
theorem dX7_now_0 : decode cX7_now 0 = .ok (.iload_n 1, 1) := by decide +kernel
theorem dX7_now_1 : decode cX7_now 1 = .ok (.iconst 0, 1) := by decide +kernel
theorem dX7_now_2 : decode cX7_now 2 = .ok (.bipush 9, 2) := by decide +kernel
theorem dX7_now_4 : decode cX7_now 4 = .ok (.invokestatic 74, 3) := by decide +kernel
theorem dX7_now_7 : decode cX7_now 7 = .ok (.ifCond .ne 5, 3) := by decide +kernel
theorem dX7_now_10 : decode cX7_now 10 = .ok (.iconst (-1), 1) := by decide +kernel
theorem dX7_now_11 : decode cX7_now 11 = .ok (.ireturn, 1) := by decide +kernel
theorem dX7_now_12 : decode cX7_now 12 = .ok (.aload_n 0, 1) := by decide +kernel
theorem dX7_now_13 : decode cX7_now 13 = .ok (.invokevirtual 142, 3) := by decide +kernel
theorem dX7_now_16 : decode cX7_now 16 = .ok (.iload_n 1, 1) := by decide +kernel
theorem dX7_now_17 : decode cX7_now 17 = .ok (.bipush 7, 2) := by decide +kernel
theorem dX7_now_19 : decode cX7_now 19 = .ok (.if_icmp .ge 12, 3) := by decide +kernel
theorem dX7_now_22 : decode cX7_now 22 = .ok (.aload_n 0, 1) := by decide +kernel
theorem dX7_now_23 : decode cX7_now 23 = .ok (.getfield 23, 3) := by decide +kernel
theorem dX7_now_26 : decode cX7_now 26 = .ok (.iload_n 1, 1) := by decide +kernel
theorem dX7_now_27 : decode cX7_now 27 = .ok (.iaload, 1) := by decide +kernel
theorem dX7_now_28 : decode cX7_now 28 = .ok (.goto 33, 3) := by decide +kernel
theorem dX7_now_31 : decode cX7_now 31 = .ok (.iload_n 1, 1) := by decide +kernel
theorem dX7_now_32 : decode cX7_now 32 = .ok (.bipush 7, 2) := by decide +kernel
theorem dX7_now_34 : decode cX7_now 34 = .ok (.if_icmp .ne 10, 3) := by decide +kernel
theorem dX7_now_37 : decode cX7_now 37 = .ok (.aload_n 0, 1) := by decide +kernel
theorem dX7_now_38 : decode cX7_now 38 = .ok (.invokevirtual 127, 3) := by decide +kernel
theorem dX7_now_41 : decode cX7_now 41 = .ok (.goto 20, 3) := by decide +kernel
theorem dX7_now_44 : decode cX7_now 44 = .ok (.iload_n 1, 1) := by decide +kernel
theorem dX7_now_45 : decode cX7_now 45 = .ok (.bipush 8, 2) := by decide +kernel
theorem dX7_now_47 : decode cX7_now 47 = .ok (.if_icmp .ne 10, 3) := by decide +kernel
theorem dX7_now_50 : decode cX7_now 50 = .ok (.aload_n 0, 1) := by decide +kernel
theorem dX7_now_51 : decode cX7_now 51 = .ok (.invokevirtual 136, 3) := by decide +kernel
theorem dX7_now_54 : decode cX7_now 54 = .ok (.goto 7, 3) := by decide +kernel
theorem dX7_now_57 : decode cX7_now 57 = .ok (.aload_n 0, 1) := by decide +kernel
theorem dX7_now_58 : decode cX7_now 58 = .ok (.invokevirtual 133, 3) := by decide +kernel
theorem dX7_now_61 : decode cX7_now 61 = .ok (.ireturn, 1) := by decide +kernel
set_option maxRecDepth 20000 in
theorem ggX7_anew_X7_takeTold : GoodIn wsX7_anew wsX7_takeTold := goodIn_r _ [7, 2, 8, 18, 19, 20, 21, 22, 23, 24, 25, 26, 27, 28, 29, 30, 31, 32, 33, 34, 35, 36, 37, 38, 39, 40, 41, 42, 43, 44, 45, 46, 47] (by decide +kernel) (by decide +kernel)
set_option maxRecDepth 20000 in
theorem gX7_anew_X7_takeTold : GoodIn wsX7_anew (wsV RX7 124 RX7 yX7_takeTold wsX7_takeTold) := goodIn_app (goodIn_of _ (by decide +kernel)) ggX7_anew_X7_takeTold
set_option maxRecDepth 20000 in
theorem ggX7_anew_X7_begin : GoodIn wsX7_anew wsX7_begin := goodIn_r _ [12, 13, 18, 19, 20, 21, 22, 23, 24, 25, 26, 27, 28, 29, 30, 31, 32, 33, 34, 35, 36, 37, 38, 39, 40, 41, 42, 43, 44, 45, 46, 47] (by decide +kernel) (by decide +kernel)
set_option maxRecDepth 20000 in
theorem gX7_anew_X7_begin : GoodIn wsX7_anew (wsV RX7 154 RX7 yX7_begin wsX7_begin) := goodIn_app (goodIn_of _ (by decide +kernel)) ggX7_anew_X7_begin
set_option maxRecDepth 20000 in
theorem ggX7_anew_X7_giveNow : GoodIn wsX7_anew wsX7_giveNow := goodIn_r _ [17, 1, 13, 18, 19, 20, 21, 22, 23, 24, 25, 26, 27, 28, 29, 30, 31, 32, 33, 34, 35, 36, 37, 38, 39, 40, 41, 42, 43, 44, 45, 46, 47] (by decide +kernel) (by decide +kernel)
set_option maxRecDepth 20000 in
theorem gX7_anew_X7_giveNow : GoodIn wsX7_anew (wsV RX7 145 RX7 yX7_giveNow wsX7_giveNow) := goodIn_app (goodIn_of _ (by decide +kernel)) ggX7_anew_X7_giveNow
theorem dX7_anew_0 : decode cX7_anew 0 = .ok (.aload_n 0, 1) := by decide +kernel
theorem dX7_anew_1 : decode cX7_anew 1 = .ok (.getfield 23, 3) := by decide +kernel
theorem dX7_anew_4 : decode cX7_anew 4 = .ok (.iconst 3, 1) := by decide +kernel
theorem dX7_anew_5 : decode cX7_anew 5 = .ok (.iaload, 1) := by decide +kernel
theorem dX7_anew_6 : decode cX7_anew 6 = .ok (.istore_n 1, 1) := by decide +kernel
theorem dX7_anew_7 : decode cX7_anew 7 = .ok (.aload_n 0, 1) := by decide +kernel
theorem dX7_anew_8 : decode cX7_anew 8 = .ok (.invokevirtual 124, 3) := by decide +kernel
theorem dX7_anew_11 : decode cX7_anew 11 = .ok (.aload_n 0, 1) := by decide +kernel
theorem dX7_anew_12 : decode cX7_anew 12 = .ok (.bipush 10, 2) := by decide +kernel
theorem dX7_anew_14 : decode cX7_anew 14 = .ok (.aload_n 0, 1) := by decide +kernel
theorem dX7_anew_15 : decode cX7_anew 15 = .ok (.getfield 17, 3) := by decide +kernel
theorem dX7_anew_18 : decode cX7_anew 18 = .ok (.iconst 2, 1) := by decide +kernel
theorem dX7_anew_19 : decode cX7_anew 19 = .ok (.iaload, 1) := by decide +kernel
theorem dX7_anew_20 : decode cX7_anew 20 = .ok (.imul, 1) := by decide +kernel
theorem dX7_anew_21 : decode cX7_anew 21 = .ok (.aload_n 0, 1) := by decide +kernel
theorem dX7_anew_22 : decode cX7_anew 22 = .ok (.getfield 17, 3) := by decide +kernel
theorem dX7_anew_25 : decode cX7_anew 25 = .ok (.bipush 8, 2) := by decide +kernel
theorem dX7_anew_27 : decode cX7_anew 27 = .ok (.iaload, 1) := by decide +kernel
theorem dX7_anew_28 : decode cX7_anew 28 = .ok (.invokevirtual 154, 3) := by decide +kernel
theorem dX7_anew_31 : decode cX7_anew 31 = .ok (.aload_n 0, 1) := by decide +kernel
theorem dX7_anew_32 : decode cX7_anew 32 = .ok (.invokevirtual 145, 3) := by decide +kernel
theorem dX7_anew_35 : decode cX7_anew 35 = .ok (.iload_n 1, 1) := by decide +kernel
theorem dX7_anew_36 : decode cX7_anew 36 = .ok (.ireturn, 1) := by decide +kernel
set_option maxRecDepth 20000 in
theorem ggX7_until_X7_takeNow : GoodIn wsX7_until wsX7_takeNow := goodIn_r _ [5, 6, 7, 8, 9, 10, 4, 11, 12, 13, 38, 39, 40, 41, 42, 43, 44, 45, 46, 47, 48, 49, 50, 51, 52, 53, 54, 55, 56, 57, 58, 59, 60, 61, 62, 63, 64, 65, 66, 67] (by decide +kernel) (by decide +kernel)
set_option maxRecDepth 20000 in
theorem gX7_until_X7_takeNow : GoodIn wsX7_until (wsV RX7 142 RX7 yX7_takeNow wsX7_takeNow) := goodIn_app (goodIn_of _ (by decide +kernel)) ggX7_until_X7_takeNow
set_option maxRecDepth 20000 in
theorem ggX7_until_X7_strokesUntil : GoodIn wsX7_until wsX7_strokesUntil := goodIn_r _ [17, 18, 19, 20, 4, 21, 6, 22, 23, 24, 25, 12, 26, 27, 28, 29, 30, 31, 32, 33, 34, 35, 36, 37, 38, 39, 40, 41, 42, 43, 44, 45, 46, 47, 48, 49, 50, 51, 52, 53, 54, 55, 56, 57, 58, 59, 60, 61, 62, 63, 64, 65, 66, 67] (by decide +kernel) (by decide +kernel)
set_option maxRecDepth 20000 in
theorem gX7_until_X7_strokesUntil : GoodIn wsX7_until (wsV RX7 158 RX7 yX7_strokesUntil wsX7_strokesUntil) := goodIn_app (goodIn_of _ (by decide +kernel)) ggX7_until_X7_strokesUntil
theorem dX7_until_0 : decode cX7_until 0 = .ok (.aload_n 0, 1) := by decide +kernel
theorem dX7_until_1 : decode cX7_until 1 = .ok (.invokevirtual 142, 3) := by decide +kernel
theorem dX7_until_4 : decode cX7_until 4 = .ok (.aload_n 0, 1) := by decide +kernel
theorem dX7_until_5 : decode cX7_until 5 = .ok (.invokevirtual 158, 3) := by decide +kernel
theorem dX7_until_8 : decode cX7_until 8 = .ok (.ireturn, 1) := by decide +kernel
set_option maxRecDepth 20000 in
theorem ggX7_least_X7_in : GoodIn wsX7_least wsX7_in := goodIn_r _ [4] (by decide +kernel) (by decide +kernel)
set_option maxRecDepth 20000 in
theorem gX7_least_X7_in : GoodIn wsX7_least (va_wsS RX7 74 yX7_in wsX7_in) := goodIn_app (goodIn_of _ (by decide +kernel)) ggX7_least_X7_in
set_option maxRecDepth 20000 in
theorem ggX7_least_X7_takeNow : GoodIn wsX7_least wsX7_takeNow := goodIn_r _ [8, 9, 10, 11, 12, 13, 3, 14, 15, 16, 45, 46, 47, 48, 49, 50, 51, 52, 53, 54, 55, 56, 57, 58, 59, 60, 61, 62, 63, 64, 65, 66, 67, 68, 69, 70, 71, 72, 73, 74] (by decide +kernel) (by decide +kernel)
set_option maxRecDepth 20000 in
theorem gX7_least_X7_takeNow : GoodIn wsX7_least (wsV RX7 142 RX7 yX7_takeNow wsX7_takeNow) := goodIn_app (goodIn_of _ (by decide +kernel)) ggX7_least_X7_takeNow
set_option maxRecDepth 20000 in
theorem ggX7_least_X7_pour : GoodIn wsX7_least wsX7_pour := goodIn_r _ [20, 9, 45, 46, 47, 48, 49, 50, 51, 52, 53, 54, 55, 56, 57, 58, 59, 60, 61, 62, 63, 64, 65, 66, 67, 68, 69, 70, 71, 72, 73, 74] (by decide +kernel) (by decide +kernel)
set_option maxRecDepth 20000 in
theorem gX7_least_X7_pour : GoodIn wsX7_least (wsV RX7 148 RX7 yX7_pour wsX7_pour) := goodIn_app (goodIn_of _ (by decide +kernel)) ggX7_least_X7_pour
set_option maxRecDepth 20000 in
theorem ggX7_least_X7_strokesUntil : GoodIn wsX7_least wsX7_strokesUntil := goodIn_r _ [24, 25, 26, 27, 3, 28, 9, 29, 30, 31, 32, 15, 33, 34, 35, 36, 37, 38, 39, 40, 41, 42, 43, 44, 45, 46, 47, 48, 49, 50, 51, 52, 53, 54, 55, 56, 57, 58, 59, 60, 61, 62, 63, 64, 65, 66, 67, 68, 69, 70, 71, 72, 73, 74] (by decide +kernel) (by decide +kernel)
set_option maxRecDepth 20000 in
theorem gX7_least_X7_strokesUntil : GoodIn wsX7_least (wsV RX7 158 RX7 yX7_strokesUntil wsX7_strokesUntil) := goodIn_app (goodIn_of _ (by decide +kernel)) ggX7_least_X7_strokesUntil
theorem dX7_least_0 : decode cX7_least 0 = .ok (.iload_n 1, 1) := by decide +kernel
theorem dX7_least_1 : decode cX7_least 1 = .ok (.iconst 1, 1) := by decide +kernel
theorem dX7_least_2 : decode cX7_least 2 = .ok (.sipush 200, 3) := by decide +kernel
theorem dX7_least_5 : decode cX7_least 5 = .ok (.invokestatic 74, 3) := by decide +kernel
theorem dX7_least_8 : decode cX7_least 8 = .ok (.ifCond .ne 5, 3) := by decide +kernel
theorem dX7_least_11 : decode cX7_least 11 = .ok (.iconst (-1), 1) := by decide +kernel
theorem dX7_least_12 : decode cX7_least 12 = .ok (.ireturn, 1) := by decide +kernel
theorem dX7_least_13 : decode cX7_least 13 = .ok (.iconst 0, 1) := by decide +kernel
theorem dX7_least_14 : decode cX7_least 14 = .ok (.istore_n 2, 1) := by decide +kernel
theorem dX7_least_15 : decode cX7_least 15 = .ok (.iload_n 2, 1) := by decide +kernel
theorem dX7_least_16 : decode cX7_least 16 = .ok (.bipush 100, 2) := by decide +kernel
theorem dX7_least_18 : decode cX7_least 18 = .ok (.if_icmp .ge 37, 3) := by decide +kernel
theorem dX7_least_21 : decode cX7_least 21 = .ok (.aload_n 0, 1) := by decide +kernel
theorem dX7_least_22 : decode cX7_least 22 = .ok (.invokevirtual 142, 3) := by decide +kernel
theorem dX7_least_25 : decode cX7_least 25 = .ok (.aload_n 0, 1) := by decide +kernel
theorem dX7_least_26 : decode cX7_least 26 = .ok (.iload_n 2, 1) := by decide +kernel
theorem dX7_least_27 : decode cX7_least 27 = .ok (.invokevirtual 148, 3) := by decide +kernel
theorem dX7_least_30 : decode cX7_least 30 = .ok (.pop, 1) := by decide +kernel
theorem dX7_least_31 : decode cX7_least 31 = .ok (.aload_n 0, 1) := by decide +kernel
theorem dX7_least_32 : decode cX7_least 32 = .ok (.invokevirtual 158, 3) := by decide +kernel
theorem dX7_least_35 : decode cX7_least 35 = .ok (.istore_n 3, 1) := by decide +kernel
theorem dX7_least_36 : decode cX7_least 36 = .ok (.iload_n 3, 1) := by decide +kernel
theorem dX7_least_37 : decode cX7_least 37 = .ok (.bipush (-9), 2) := by decide +kernel
theorem dX7_least_39 : decode cX7_least 39 = .ok (.if_icmp .eq 10, 3) := by decide +kernel
theorem dX7_least_42 : decode cX7_least 42 = .ok (.iload_n 3, 1) := by decide +kernel
theorem dX7_least_43 : decode cX7_least 43 = .ok (.iload_n 1, 1) := by decide +kernel
theorem dX7_least_44 : decode cX7_least 44 = .ok (.if_icmp .gt 5, 3) := by decide +kernel
theorem dX7_least_47 : decode cX7_least 47 = .ok (.iload_n 2, 1) := by decide +kernel
theorem dX7_least_48 : decode cX7_least 48 = .ok (.ireturn, 1) := by decide +kernel
theorem dX7_least_49 : decode cX7_least 49 = .ok (.iinc 2 1, 3) := by decide +kernel
theorem dX7_least_52 : decode cX7_least 52 = .ok (.goto (-37), 3) := by decide +kernel
theorem dX7_least_55 : decode cX7_least 55 = .ok (.bipush (-9), 2) := by decide +kernel
theorem dX7_least_57 : decode cX7_least 57 = .ok (.ireturn, 1) := by decide +kernel
set_option maxRecDepth 20000 in
theorem ggX7_night_X7_in : GoodIn wsX7_night wsX7_in := goodIn_r _ [5] (by decide +kernel) (by decide +kernel)
set_option maxRecDepth 20000 in
theorem gX7_night_X7_in : GoodIn wsX7_night (va_wsS RX7 74 yX7_in wsX7_in) := goodIn_app (goodIn_of _ (by decide +kernel)) ggX7_night_X7_in
set_option maxRecDepth 20000 in
theorem ggX7_night_X7_takeNow : GoodIn wsX7_night wsX7_takeNow := goodIn_r _ [9, 1, 10, 11, 12, 13, 4, 14, 15, 16, 29, 30, 31, 32, 33, 34, 35, 36, 37, 38, 39, 40, 41, 42, 43, 44, 45, 46, 47, 48, 49, 50, 51, 52, 53, 54, 55, 56, 57, 58] (by decide +kernel) (by decide +kernel)
set_option maxRecDepth 20000 in
theorem gX7_night_X7_takeNow : GoodIn wsX7_night (wsV RX7 142 RX7 yX7_takeNow wsX7_takeNow) := goodIn_app (goodIn_of _ (by decide +kernel)) ggX7_night_X7_takeNow
set_option maxRecDepth 20000 in
theorem ggX7_night_X7_goHour : GoodIn wsX7_night wsX7_goHour := goodIn_r _ [20, 1, 15, 21, 22, 23, 4, 24, 25, 26, 27, 28, 29, 30, 31, 32, 33, 34, 35, 36, 37, 38, 39, 40, 41, 42, 43, 44, 45, 46, 47, 48, 49, 50, 51, 52, 53, 54, 55, 56, 57, 58] (by decide +kernel) (by decide +kernel)
set_option maxRecDepth 20000 in
theorem gX7_night_X7_goHour : GoodIn wsX7_night (wsV RX7 151 RX7 yX7_goHour wsX7_goHour) := goodIn_app (goodIn_of _ (by decide +kernel)) ggX7_night_X7_goHour
theorem dX7_night_0 : decode cX7_night 0 = .ok (.iload_n 1, 1) := by decide +kernel
theorem dX7_night_1 : decode cX7_night 1 = .ok (.iconst 1, 1) := by decide +kernel
theorem dX7_night_2 : decode cX7_night 2 = .ok (.bipush 48, 2) := by decide +kernel
theorem dX7_night_4 : decode cX7_night 4 = .ok (.invokestatic 74, 3) := by decide +kernel
theorem dX7_night_7 : decode cX7_night 7 = .ok (.ifCond .ne 5, 3) := by decide +kernel
theorem dX7_night_10 : decode cX7_night 10 = .ok (.iconst (-1), 1) := by decide +kernel
theorem dX7_night_11 : decode cX7_night 11 = .ok (.ireturn, 1) := by decide +kernel
theorem dX7_night_12 : decode cX7_night 12 = .ok (.aload_n 0, 1) := by decide +kernel
theorem dX7_night_13 : decode cX7_night 13 = .ok (.invokevirtual 142, 3) := by decide +kernel
theorem dX7_night_16 : decode cX7_night 16 = .ok (.iconst 0, 1) := by decide +kernel
theorem dX7_night_17 : decode cX7_night 17 = .ok (.istore_n 2, 1) := by decide +kernel
theorem dX7_night_18 : decode cX7_night 18 = .ok (.iload_n 2, 1) := by decide +kernel
theorem dX7_night_19 : decode cX7_night 19 = .ok (.iload_n 1, 1) := by decide +kernel
theorem dX7_night_20 : decode cX7_night 20 = .ok (.if_icmp .ge 13, 3) := by decide +kernel
theorem dX7_night_23 : decode cX7_night 23 = .ok (.aload_n 0, 1) := by decide +kernel
theorem dX7_night_24 : decode cX7_night 24 = .ok (.invokevirtual 151, 3) := by decide +kernel
theorem dX7_night_27 : decode cX7_night 27 = .ok (.iinc 2 1, 3) := by decide +kernel
theorem dX7_night_30 : decode cX7_night 30 = .ok (.goto (-12), 3) := by decide +kernel
theorem dX7_night_33 : decode cX7_night 33 = .ok (.aload_n 0, 1) := by decide +kernel
theorem dX7_night_34 : decode cX7_night 34 = .ok (.getfield 20, 3) := by decide +kernel
theorem dX7_night_37 : decode cX7_night 37 = .ok (.iconst 0, 1) := by decide +kernel
theorem dX7_night_38 : decode cX7_night 38 = .ok (.iaload, 1) := by decide +kernel
theorem dX7_night_39 : decode cX7_night 39 = .ok (.ireturn, 1) := by decide +kernel
set_option maxRecDepth 20000 in
theorem ggX7_sign_X7_in : GoodIn wsX7_sign wsX7_in := goodIn_r _ [8] (by decide +kernel) (by decide +kernel)
set_option maxRecDepth 20000 in
theorem gX7_sign_X7_in : GoodIn wsX7_sign (va_wsS RX7 74 yX7_in wsX7_in) := goodIn_app (goodIn_of _ (by decide +kernel)) ggX7_sign_X7_in
theorem dX7_sign_0 : decode cX7_sign 0 = .ok (.iload_n 1, 1) := by decide +kernel
theorem dX7_sign_1 : decode cX7_sign 1 = .ok (.iconst 1, 1) := by decide +kernel
theorem dX7_sign_2 : decode cX7_sign 2 = .ok (.if_icmp .ne 32, 3) := by decide +kernel
theorem dX7_sign_5 : decode cX7_sign 5 = .ok (.iload_n 2, 1) := by decide +kernel
theorem dX7_sign_6 : decode cX7_sign 6 = .ok (.iconst 1, 1) := by decide +kernel
theorem dX7_sign_7 : decode cX7_sign 7 = .ok (.bipush 24, 2) := by decide +kernel
theorem dX7_sign_9 : decode cX7_sign 9 = .ok (.invokestatic 74, 3) := by decide +kernel
theorem dX7_sign_12 : decode cX7_sign 12 = .ok (.ifCond .eq 18, 3) := by decide +kernel
theorem dX7_sign_15 : decode cX7_sign 15 = .ok (.iload_n 3, 1) := by decide +kernel
theorem dX7_sign_16 : decode cX7_sign 16 = .ok (.iconst 0, 1) := by decide +kernel
theorem dX7_sign_17 : decode cX7_sign 17 = .ok (.sipush 999, 3) := by decide +kernel
theorem dX7_sign_20 : decode cX7_sign 20 = .ok (.invokestatic 74, 3) := by decide +kernel
theorem dX7_sign_23 : decode cX7_sign 23 = .ok (.ifCond .eq 7, 3) := by decide +kernel
theorem dX7_sign_26 : decode cX7_sign 26 = .ok (.iconst 1, 1) := by decide +kernel
theorem dX7_sign_27 : decode cX7_sign 27 = .ok (.goto 44, 3) := by decide +kernel
theorem dX7_sign_30 : decode cX7_sign 30 = .ok (.iconst 0, 1) := by decide +kernel
theorem dX7_sign_31 : decode cX7_sign 31 = .ok (.goto 40, 3) := by decide +kernel
theorem dX7_sign_34 : decode cX7_sign 34 = .ok (.iload_n 1, 1) := by decide +kernel
theorem dX7_sign_35 : decode cX7_sign 35 = .ok (.iconst 0, 1) := by decide +kernel
theorem dX7_sign_36 : decode cX7_sign 36 = .ok (.iconst 2, 1) := by decide +kernel
theorem dX7_sign_37 : decode cX7_sign 37 = .ok (.invokestatic 74, 3) := by decide +kernel
theorem dX7_sign_40 : decode cX7_sign 40 = .ok (.ifCond .eq 30, 3) := by decide +kernel
theorem dX7_sign_43 : decode cX7_sign 43 = .ok (.iload_n 2, 1) := by decide +kernel
theorem dX7_sign_44 : decode cX7_sign 44 = .ok (.ifCond .ne 26, 3) := by decide +kernel
theorem dX7_sign_47 : decode cX7_sign 47 = .ok (.iload_n 3, 1) := by decide +kernel
theorem dX7_sign_48 : decode cX7_sign 48 = .ok (.iconst 0, 1) := by decide +kernel
theorem dX7_sign_49 : decode cX7_sign 49 = .ok (.iload_n 1, 1) := by decide +kernel
theorem dX7_sign_50 : decode cX7_sign 50 = .ok (.ifCond .ne 9, 3) := by decide +kernel
theorem dX7_sign_53 : decode cX7_sign 53 = .ok (.sipush 200, 3) := by decide +kernel
theorem dX7_sign_56 : decode cX7_sign 56 = .ok (.goto 4, 3) := by decide +kernel
theorem dX7_sign_59 : decode cX7_sign 59 = .ok (.iconst 1, 1) := by decide +kernel
theorem dX7_sign_60 : decode cX7_sign 60 = .ok (.invokestatic 74, 3) := by decide +kernel
theorem dX7_sign_63 : decode cX7_sign 63 = .ok (.ifCond .eq 7, 3) := by decide +kernel
theorem dX7_sign_66 : decode cX7_sign 66 = .ok (.iconst 1, 1) := by decide +kernel
theorem dX7_sign_67 : decode cX7_sign 67 = .ok (.goto 4, 3) := by decide +kernel
theorem dX7_sign_70 : decode cX7_sign 70 = .ok (.iconst 0, 1) := by decide +kernel
theorem dX7_sign_71 : decode cX7_sign 71 = .ok (.istore 4, 2) := by decide +kernel
theorem dX7_sign_73 : decode cX7_sign 73 = .ok (.iload 4, 2) := by decide +kernel
theorem dX7_sign_75 : decode cX7_sign 75 = .ok (.ifCond .ne 5, 3) := by decide +kernel
theorem dX7_sign_78 : decode cX7_sign 78 = .ok (.iconst (-1), 1) := by decide +kernel
theorem dX7_sign_79 : decode cX7_sign 79 = .ok (.ireturn, 1) := by decide +kernel
theorem dX7_sign_80 : decode cX7_sign 80 = .ok (.aload_n 0, 1) := by decide +kernel
theorem dX7_sign_81 : decode cX7_sign 81 = .ok (.getfield 161, 3) := by decide +kernel
theorem dX7_sign_84 : decode cX7_sign 84 = .ok (.bipush 6, 2) := by decide +kernel
theorem dX7_sign_86 : decode cX7_sign 86 = .ok (.if_icmp .ne 6, 3) := by decide +kernel
theorem dX7_sign_89 : decode cX7_sign 89 = .ok (.bipush (-3), 2) := by decide +kernel
theorem dX7_sign_91 : decode cX7_sign 91 = .ok (.ireturn, 1) := by decide +kernel
theorem dX7_sign_92 : decode cX7_sign 92 = .ok (.aload_n 0, 1) := by decide +kernel
theorem dX7_sign_93 : decode cX7_sign 93 = .ok (.getfield 30, 3) := by decide +kernel
theorem dX7_sign_96 : decode cX7_sign 96 = .ok (.aload_n 0, 1) := by decide +kernel
theorem dX7_sign_97 : decode cX7_sign 97 = .ok (.getfield 161, 3) := by decide +kernel
theorem dX7_sign_100 : decode cX7_sign 100 = .ok (.iload_n 1, 1) := by decide +kernel
theorem dX7_sign_101 : decode cX7_sign 101 = .ok (.iastore, 1) := by decide +kernel
theorem dX7_sign_102 : decode cX7_sign 102 = .ok (.aload_n 0, 1) := by decide +kernel
theorem dX7_sign_103 : decode cX7_sign 103 = .ok (.getfield 33, 3) := by decide +kernel
theorem dX7_sign_106 : decode cX7_sign 106 = .ok (.aload_n 0, 1) := by decide +kernel
theorem dX7_sign_107 : decode cX7_sign 107 = .ok (.getfield 161, 3) := by decide +kernel
theorem dX7_sign_110 : decode cX7_sign 110 = .ok (.iload_n 2, 1) := by decide +kernel
theorem dX7_sign_111 : decode cX7_sign 111 = .ok (.iastore, 1) := by decide +kernel
theorem dX7_sign_112 : decode cX7_sign 112 = .ok (.aload_n 0, 1) := by decide +kernel
theorem dX7_sign_113 : decode cX7_sign 113 = .ok (.getfield 36, 3) := by decide +kernel
theorem dX7_sign_116 : decode cX7_sign 116 = .ok (.aload_n 0, 1) := by decide +kernel
theorem dX7_sign_117 : decode cX7_sign 117 = .ok (.getfield 161, 3) := by decide +kernel
theorem dX7_sign_120 : decode cX7_sign 120 = .ok (.iload_n 3, 1) := by decide +kernel
theorem dX7_sign_121 : decode cX7_sign 121 = .ok (.iastore, 1) := by decide +kernel
theorem dX7_sign_122 : decode cX7_sign 122 = .ok (.aload_n 0, 1) := by decide +kernel
theorem dX7_sign_123 : decode cX7_sign 123 = .ok (.dup, 1) := by decide +kernel
theorem dX7_sign_124 : decode cX7_sign 124 = .ok (.getfield 161, 3) := by decide +kernel
theorem dX7_sign_127 : decode cX7_sign 127 = .ok (.iconst 1, 1) := by decide +kernel
theorem dX7_sign_128 : decode cX7_sign 128 = .ok (.iadd, 1) := by decide +kernel
theorem dX7_sign_129 : decode cX7_sign 129 = .ok (.putfield 161, 3) := by decide +kernel
theorem dX7_sign_132 : decode cX7_sign 132 = .ok (.aload_n 0, 1) := by decide +kernel
theorem dX7_sign_133 : decode cX7_sign 133 = .ok (.getfield 161, 3) := by decide +kernel
theorem dX7_sign_136 : decode cX7_sign 136 = .ok (.ireturn, 1) := by decide +kernel
theorem dX7_unsign_0 : decode cX7_unsign 0 = .ok (.aload_n 0, 1) := by decide +kernel
theorem dX7_unsign_1 : decode cX7_unsign 1 = .ok (.getfield 161, 3) := by decide +kernel
theorem dX7_unsign_4 : decode cX7_unsign 4 = .ok (.istore_n 1, 1) := by decide +kernel
theorem dX7_unsign_5 : decode cX7_unsign 5 = .ok (.aload_n 0, 1) := by decide +kernel
theorem dX7_unsign_6 : decode cX7_unsign 6 = .ok (.iconst 0, 1) := by decide +kernel
theorem dX7_unsign_7 : decode cX7_unsign 7 = .ok (.putfield 161, 3) := by decide +kernel
theorem dX7_unsign_10 : decode cX7_unsign 10 = .ok (.iload_n 1, 1) := by decide +kernel
theorem dX7_unsign_11 : decode cX7_unsign 11 = .ok (.ireturn, 1) := by decide +kernel
set_option maxRecDepth 20000 in
theorem ggX7_isTrouble_X7_in : GoodIn wsX7_isTrouble wsX7_in := goodIn_r _ [4] (by decide +kernel) (by decide +kernel)
set_option maxRecDepth 20000 in
theorem gX7_isTrouble_X7_in : GoodIn wsX7_isTrouble (va_wsS RX7 74 yX7_in wsX7_in) := goodIn_app (goodIn_of _ (by decide +kernel)) ggX7_isTrouble_X7_in
theorem dX7_isTrouble_0 : decode cX7_isTrouble 0 = .ok (.iload_n 0, 1) := by decide +kernel
theorem dX7_isTrouble_1 : decode cX7_isTrouble 1 = .ok (.iconst 0, 1) := by decide +kernel
theorem dX7_isTrouble_2 : decode cX7_isTrouble 2 = .ok (.iconst 5, 1) := by decide +kernel
theorem dX7_isTrouble_3 : decode cX7_isTrouble 3 = .ok (.invokestatic 74, 3) := by decide +kernel
theorem dX7_isTrouble_6 : decode cX7_isTrouble 6 = .ok (.ireturn, 1) := by decide +kernel
set_option maxRecDepth 20000 in
theorem ggX7_chance_X7_isTrouble : GoodIn wsX7_chance wsX7_isTrouble := goodIn_r _ [5, 6, 7, 4, 8] (by decide +kernel) (by decide +kernel)
set_option maxRecDepth 20000 in
theorem gX7_chance_X7_isTrouble : GoodIn wsX7_chance (va_wsS RX7 164 yX7_isTrouble wsX7_isTrouble) := goodIn_app (goodIn_of _ (by decide +kernel)) ggX7_chance_X7_isTrouble
set_option maxRecDepth 20000 in
theorem ggX7_chance_X7_in : GoodIn wsX7_chance wsX7_in := goodIn_r _ [8] (by decide +kernel) (by decide +kernel)
set_option maxRecDepth 20000 in
theorem gX7_chance_X7_in : GoodIn wsX7_chance (va_wsS RX7 74 yX7_in wsX7_in) := goodIn_app (goodIn_of _ (by decide +kernel)) ggX7_chance_X7_in
theorem dX7_chance_0 : decode cX7_chance 0 = .ok (.iload_n 1, 1) := by decide +kernel
theorem dX7_chance_1 : decode cX7_chance 1 = .ok (.invokestatic 164, 3) := by decide +kernel
theorem dX7_chance_4 : decode cX7_chance 4 = .ok (.ifCond .eq 13, 3) := by decide +kernel
theorem dX7_chance_7 : decode cX7_chance 7 = .ok (.iload_n 2, 1) := by decide +kernel
theorem dX7_chance_8 : decode cX7_chance 8 = .ok (.iconst 0, 1) := by decide +kernel
theorem dX7_chance_9 : decode cX7_chance 9 = .ok (.bipush 9, 2) := by decide +kernel
theorem dX7_chance_11 : decode cX7_chance 11 = .ok (.invokestatic 74, 3) := by decide +kernel
theorem dX7_chance_14 : decode cX7_chance 14 = .ok (.ifCond .ne 5, 3) := by decide +kernel
theorem dX7_chance_17 : decode cX7_chance 17 = .ok (.iconst (-1), 1) := by decide +kernel
theorem dX7_chance_18 : decode cX7_chance 18 = .ok (.ireturn, 1) := by decide +kernel
theorem dX7_chance_19 : decode cX7_chance 19 = .ok (.aload_n 0, 1) := by decide +kernel
theorem dX7_chance_20 : decode cX7_chance 20 = .ok (.getfield 39, 3) := by decide +kernel
theorem dX7_chance_23 : decode cX7_chance 23 = .ok (.iload_n 1, 1) := by decide +kernel
theorem dX7_chance_24 : decode cX7_chance 24 = .ok (.iaload, 1) := by decide +kernel
theorem dX7_chance_25 : decode cX7_chance 25 = .ok (.istore_n 3, 1) := by decide +kernel
theorem dX7_chance_26 : decode cX7_chance 26 = .ok (.aload_n 0, 1) := by decide +kernel
theorem dX7_chance_27 : decode cX7_chance 27 = .ok (.getfield 39, 3) := by decide +kernel
theorem dX7_chance_30 : decode cX7_chance 30 = .ok (.iload_n 1, 1) := by decide +kernel
theorem dX7_chance_31 : decode cX7_chance 31 = .ok (.iload_n 2, 1) := by decide +kernel
theorem dX7_chance_32 : decode cX7_chance 32 = .ok (.iastore, 1) := by decide +kernel
theorem dX7_chance_33 : decode cX7_chance 33 = .ok (.iload_n 3, 1) := by decide +kernel
theorem dX7_chance_34 : decode cX7_chance 34 = .ok (.ireturn, 1) := by decide +kernel
theorem dX7_within_0 : decode cX7_within 0 = .ok (.iload_n 0, 1) := by decide +kernel
theorem dX7_within_1 : decode cX7_within 1 = .ok (.iload_n 1, 1) := by decide +kernel
theorem dX7_within_2 : decode cX7_within 2 = .ok (.if_icmp .ge 7, 3) := by decide +kernel
theorem dX7_within_5 : decode cX7_within 5 = .ok (.iload_n 1, 1) := by decide +kernel
theorem dX7_within_6 : decode cX7_within 6 = .ok (.goto 13, 3) := by decide +kernel
theorem dX7_within_9 : decode cX7_within 9 = .ok (.iload_n 0, 1) := by decide +kernel
theorem dX7_within_10 : decode cX7_within 10 = .ok (.iload_n 2, 1) := by decide +kernel
theorem dX7_within_11 : decode cX7_within 11 = .ok (.if_icmp .le 7, 3) := by decide +kernel
theorem dX7_within_14 : decode cX7_within 14 = .ok (.iload_n 2, 1) := by decide +kernel
theorem dX7_within_15 : decode cX7_within 15 = .ok (.goto 4, 3) := by decide +kernel
theorem dX7_within_18 : decode cX7_within 18 = .ok (.iload_n 0, 1) := by decide +kernel
theorem dX7_within_19 : decode cX7_within 19 = .ok (.ireturn, 1) := by decide +kernel
set_option maxRecDepth 20000 in
theorem ggX7_takeTrouble_X7_takeTold : GoodIn wsX7_takeTrouble wsX7_takeTold := goodIn_r _ [6, 1, 7, 11, 12, 13, 14, 15, 16, 17, 18, 19, 20, 21, 22, 23, 24, 25, 26, 27, 28, 29, 30, 31, 32, 33, 34, 35, 36, 37, 38, 39, 40] (by decide +kernel) (by decide +kernel)
set_option maxRecDepth 20000 in
theorem gX7_takeTrouble_X7_takeTold : GoodIn wsX7_takeTrouble (wsV RX7 124 RX7 yX7_takeTold wsX7_takeTold) := goodIn_app (goodIn_of _ (by decide +kernel)) ggX7_takeTrouble_X7_takeTold
set_option maxRecDepth 20000 in
theorem ggX7_takeTrouble_X7_within : GoodIn wsX7_takeTrouble wsX7_within := goodIn_r _ [10] (by decide +kernel) (by decide +kernel)
set_option maxRecDepth 20000 in
theorem gX7_takeTrouble_X7_within : GoodIn wsX7_takeTrouble (va_wsS RX7 168 yX7_within wsX7_within) := goodIn_app (goodIn_of _ (by decide +kernel)) ggX7_takeTrouble_X7_within
theorem dX7_takeTrouble_0 : decode cX7_takeTrouble 0 = .ok (.aload_n 0, 1) := by decide +kernel
theorem dX7_takeTrouble_1 : decode cX7_takeTrouble 1 = .ok (.invokevirtual 124, 3) := by decide +kernel
theorem dX7_takeTrouble_4 : decode cX7_takeTrouble 4 = .ok (.iload_n 1, 1) := by decide +kernel
theorem dX7_takeTrouble_5 : decode cX7_takeTrouble 5 = .ok (.tableswitch 196 1 5 #[35, 63, 89, 146, 171], 35) := by decide +kernel
theorem dX7_takeTrouble_40 : decode cX7_takeTrouble 40 = .ok (.aload_n 0, 1) := by decide +kernel
theorem dX7_takeTrouble_41 : decode cX7_takeTrouble 41 = .ok (.getfield 17, 3) := by decide +kernel
theorem dX7_takeTrouble_44 : decode cX7_takeTrouble 44 = .ok (.bipush 8, 2) := by decide +kernel
theorem dX7_takeTrouble_46 : decode cX7_takeTrouble 46 = .ok (.aload_n 0, 1) := by decide +kernel
theorem dX7_takeTrouble_47 : decode cX7_takeTrouble 47 = .ok (.getfield 17, 3) := by decide +kernel
theorem dX7_takeTrouble_50 : decode cX7_takeTrouble 50 = .ok (.bipush 8, 2) := by decide +kernel
theorem dX7_takeTrouble_52 : decode cX7_takeTrouble 52 = .ok (.iaload, 1) := by decide +kernel
theorem dX7_takeTrouble_53 : decode cX7_takeTrouble 53 = .ok (.bipush 10, 2) := by decide +kernel
theorem dX7_takeTrouble_55 : decode cX7_takeTrouble 55 = .ok (.iload_n 2, 1) := by decide +kernel
theorem dX7_takeTrouble_56 : decode cX7_takeTrouble 56 = .ok (.imul, 1) := by decide +kernel
theorem dX7_takeTrouble_57 : decode cX7_takeTrouble 57 = .ok (.isub, 1) := by decide +kernel
theorem dX7_takeTrouble_58 : decode cX7_takeTrouble 58 = .ok (.iconst 0, 1) := by decide +kernel
theorem dX7_takeTrouble_59 : decode cX7_takeTrouble 59 = .ok (.bipush 100, 2) := by decide +kernel
theorem dX7_takeTrouble_61 : decode cX7_takeTrouble 61 = .ok (.invokestatic 168, 3) := by decide +kernel
theorem dX7_takeTrouble_64 : decode cX7_takeTrouble 64 = .ok (.iastore, 1) := by decide +kernel
theorem dX7_takeTrouble_65 : decode cX7_takeTrouble 65 = .ok (.goto 136, 3) := by decide +kernel
theorem dX7_takeTrouble_68 : decode cX7_takeTrouble 68 = .ok (.aload_n 0, 1) := by decide +kernel
theorem dX7_takeTrouble_69 : decode cX7_takeTrouble 69 = .ok (.getfield 17, 3) := by decide +kernel
theorem dX7_takeTrouble_72 : decode cX7_takeTrouble 72 = .ok (.iconst 5, 1) := by decide +kernel
theorem dX7_takeTrouble_73 : decode cX7_takeTrouble 73 = .ok (.aload_n 0, 1) := by decide +kernel
theorem dX7_takeTrouble_74 : decode cX7_takeTrouble 74 = .ok (.getfield 17, 3) := by decide +kernel
theorem dX7_takeTrouble_77 : decode cX7_takeTrouble 77 = .ok (.iconst 5, 1) := by decide +kernel
theorem dX7_takeTrouble_78 : decode cX7_takeTrouble 78 = .ok (.iaload, 1) := by decide +kernel
theorem dX7_takeTrouble_79 : decode cX7_takeTrouble 79 = .ok (.bipush 10, 2) := by decide +kernel
theorem dX7_takeTrouble_81 : decode cX7_takeTrouble 81 = .ok (.iload_n 2, 1) := by decide +kernel
theorem dX7_takeTrouble_82 : decode cX7_takeTrouble 82 = .ok (.imul, 1) := by decide +kernel
theorem dX7_takeTrouble_83 : decode cX7_takeTrouble 83 = .ok (.iadd, 1) := by decide +kernel
theorem dX7_takeTrouble_84 : decode cX7_takeTrouble 84 = .ok (.iconst 0, 1) := by decide +kernel
theorem dX7_takeTrouble_85 : decode cX7_takeTrouble 85 = .ok (.bipush 99, 2) := by decide +kernel
theorem dX7_takeTrouble_87 : decode cX7_takeTrouble 87 = .ok (.invokestatic 168, 3) := by decide +kernel
theorem dX7_takeTrouble_90 : decode cX7_takeTrouble 90 = .ok (.iastore, 1) := by decide +kernel
theorem dX7_takeTrouble_91 : decode cX7_takeTrouble 91 = .ok (.goto 110, 3) := by decide +kernel
theorem dX7_takeTrouble_94 : decode cX7_takeTrouble 94 = .ok (.aload_n 0, 1) := by decide +kernel
theorem dX7_takeTrouble_95 : decode cX7_takeTrouble 95 = .ok (.getfield 17, 3) := by decide +kernel
theorem dX7_takeTrouble_98 : decode cX7_takeTrouble 98 = .ok (.bipush 7, 2) := by decide +kernel
theorem dX7_takeTrouble_100 : decode cX7_takeTrouble 100 = .ok (.aload_n 0, 1) := by decide +kernel
theorem dX7_takeTrouble_101 : decode cX7_takeTrouble 101 = .ok (.getfield 17, 3) := by decide +kernel
theorem dX7_takeTrouble_104 : decode cX7_takeTrouble 104 = .ok (.bipush 7, 2) := by decide +kernel
theorem dX7_takeTrouble_106 : decode cX7_takeTrouble 106 = .ok (.iaload, 1) := by decide +kernel
theorem dX7_takeTrouble_107 : decode cX7_takeTrouble 107 = .ok (.iconst 3, 1) := by decide +kernel
theorem dX7_takeTrouble_108 : decode cX7_takeTrouble 108 = .ok (.iload_n 2, 1) := by decide +kernel
theorem dX7_takeTrouble_109 : decode cX7_takeTrouble 109 = .ok (.imul, 1) := by decide +kernel
theorem dX7_takeTrouble_110 : decode cX7_takeTrouble 110 = .ok (.iadd, 1) := by decide +kernel
theorem dX7_takeTrouble_111 : decode cX7_takeTrouble 111 = .ok (.iconst 0, 1) := by decide +kernel
theorem dX7_takeTrouble_112 : decode cX7_takeTrouble 112 = .ok (.bipush 30, 2) := by decide +kernel
theorem dX7_takeTrouble_114 : decode cX7_takeTrouble 114 = .ok (.invokestatic 168, 3) := by decide +kernel
theorem dX7_takeTrouble_117 : decode cX7_takeTrouble 117 = .ok (.iastore, 1) := by decide +kernel
theorem dX7_takeTrouble_118 : decode cX7_takeTrouble 118 = .ok (.aload_n 0, 1) := by decide +kernel
theorem dX7_takeTrouble_119 : decode cX7_takeTrouble 119 = .ok (.getfield 17, 3) := by decide +kernel
theorem dX7_takeTrouble_122 : decode cX7_takeTrouble 122 = .ok (.bipush 6, 2) := by decide +kernel
theorem dX7_takeTrouble_124 : decode cX7_takeTrouble 124 = .ok (.aload_n 0, 1) := by decide +kernel
theorem dX7_takeTrouble_125 : decode cX7_takeTrouble 125 = .ok (.getfield 17, 3) := by decide +kernel
theorem dX7_takeTrouble_128 : decode cX7_takeTrouble 128 = .ok (.bipush 6, 2) := by decide +kernel
theorem dX7_takeTrouble_130 : decode cX7_takeTrouble 130 = .ok (.iaload, 1) := by decide +kernel
theorem dX7_takeTrouble_131 : decode cX7_takeTrouble 131 = .ok (.bipush 99, 2) := by decide +kernel
theorem dX7_takeTrouble_133 : decode cX7_takeTrouble 133 = .ok (.if_icmp .ne 7, 3) := by decide +kernel
theorem dX7_takeTrouble_136 : decode cX7_takeTrouble 136 = .ok (.iconst 5, 1) := by decide +kernel
theorem dX7_takeTrouble_137 : decode cX7_takeTrouble 137 = .ok (.goto 10, 3) := by decide +kernel
theorem dX7_takeTrouble_140 : decode cX7_takeTrouble 140 = .ok (.aload_n 0, 1) := by decide +kernel
theorem dX7_takeTrouble_141 : decode cX7_takeTrouble 141 = .ok (.getfield 17, 3) := by decide +kernel
theorem dX7_takeTrouble_144 : decode cX7_takeTrouble 144 = .ok (.bipush 6, 2) := by decide +kernel
theorem dX7_takeTrouble_146 : decode cX7_takeTrouble 146 = .ok (.iaload, 1) := by decide +kernel
theorem dX7_takeTrouble_147 : decode cX7_takeTrouble 147 = .ok (.iastore, 1) := by decide +kernel
theorem dX7_takeTrouble_148 : decode cX7_takeTrouble 148 = .ok (.goto 53, 3) := by decide +kernel
theorem dX7_takeTrouble_151 : decode cX7_takeTrouble 151 = .ok (.aload_n 0, 1) := by decide +kernel
theorem dX7_takeTrouble_152 : decode cX7_takeTrouble 152 = .ok (.getfield 17, 3) := by decide +kernel
theorem dX7_takeTrouble_155 : decode cX7_takeTrouble 155 = .ok (.iconst 2, 1) := by decide +kernel
theorem dX7_takeTrouble_156 : decode cX7_takeTrouble 156 = .ok (.aload_n 0, 1) := by decide +kernel
theorem dX7_takeTrouble_157 : decode cX7_takeTrouble 157 = .ok (.getfield 17, 3) := by decide +kernel
theorem dX7_takeTrouble_160 : decode cX7_takeTrouble 160 = .ok (.iconst 2, 1) := by decide +kernel
theorem dX7_takeTrouble_161 : decode cX7_takeTrouble 161 = .ok (.iaload, 1) := by decide +kernel
theorem dX7_takeTrouble_162 : decode cX7_takeTrouble 162 = .ok (.iconst 2, 1) := by decide +kernel
theorem dX7_takeTrouble_163 : decode cX7_takeTrouble 163 = .ok (.iload_n 2, 1) := by decide +kernel
theorem dX7_takeTrouble_164 : decode cX7_takeTrouble 164 = .ok (.imul, 1) := by decide +kernel
theorem dX7_takeTrouble_165 : decode cX7_takeTrouble 165 = .ok (.iadd, 1) := by decide +kernel
theorem dX7_takeTrouble_166 : decode cX7_takeTrouble 166 = .ok (.iconst 1, 1) := by decide +kernel
theorem dX7_takeTrouble_167 : decode cX7_takeTrouble 167 = .ok (.bipush 99, 2) := by decide +kernel
theorem dX7_takeTrouble_169 : decode cX7_takeTrouble 169 = .ok (.invokestatic 168, 3) := by decide +kernel
theorem dX7_takeTrouble_172 : decode cX7_takeTrouble 172 = .ok (.iastore, 1) := by decide +kernel
theorem dX7_takeTrouble_173 : decode cX7_takeTrouble 173 = .ok (.goto 28, 3) := by decide +kernel
theorem dX7_takeTrouble_176 : decode cX7_takeTrouble 176 = .ok (.aload_n 0, 1) := by decide +kernel
theorem dX7_takeTrouble_177 : decode cX7_takeTrouble 177 = .ok (.getfield 17, 3) := by decide +kernel
theorem dX7_takeTrouble_180 : decode cX7_takeTrouble 180 = .ok (.iconst 0, 1) := by decide +kernel
theorem dX7_takeTrouble_181 : decode cX7_takeTrouble 181 = .ok (.aload_n 0, 1) := by decide +kernel
theorem dX7_takeTrouble_182 : decode cX7_takeTrouble 182 = .ok (.getfield 17, 3) := by decide +kernel
theorem dX7_takeTrouble_185 : decode cX7_takeTrouble 185 = .ok (.iconst 0, 1) := by decide +kernel
theorem dX7_takeTrouble_186 : decode cX7_takeTrouble 186 = .ok (.iaload, 1) := by decide +kernel
theorem dX7_takeTrouble_187 : decode cX7_takeTrouble 187 = .ok (.iconst 4, 1) := by decide +kernel
theorem dX7_takeTrouble_188 : decode cX7_takeTrouble 188 = .ok (.iload_n 2, 1) := by decide +kernel
theorem dX7_takeTrouble_189 : decode cX7_takeTrouble 189 = .ok (.imul, 1) := by decide +kernel
theorem dX7_takeTrouble_190 : decode cX7_takeTrouble 190 = .ok (.isub, 1) := by decide +kernel
theorem dX7_takeTrouble_191 : decode cX7_takeTrouble 191 = .ok (.iconst 1, 1) := by decide +kernel
theorem dX7_takeTrouble_192 : decode cX7_takeTrouble 192 = .ok (.bipush 99, 2) := by decide +kernel
theorem dX7_takeTrouble_194 : decode cX7_takeTrouble 194 = .ok (.invokestatic 168, 3) := by decide +kernel
theorem dX7_takeTrouble_197 : decode cX7_takeTrouble 197 = .ok (.iastore, 1) := by decide +kernel
theorem dX7_takeTrouble_198 : decode cX7_takeTrouble 198 = .ok (.goto 3, 3) := by decide +kernel
theorem dX7_takeTrouble_201 : decode cX7_takeTrouble 201 = .ok (.return_, 1) := by decide +kernel
set_option maxRecDepth 20000 in
theorem ggX7_signBy_X7_begin : GoodIn wsX7_signBy wsX7_begin := goodIn_r _ [7, 2, 36, 37, 38, 39, 40, 41, 42, 43, 44, 45, 46, 47, 48, 49, 50, 51, 52, 53, 54, 55, 56, 57, 58, 59, 60, 61, 62, 63, 64, 65] (by decide +kernel) (by decide +kernel)
set_option maxRecDepth 20000 in
theorem gX7_signBy_X7_begin : GoodIn wsX7_signBy (wsV RX7 154 RX7 yX7_begin wsX7_begin) := goodIn_app (goodIn_of _ (by decide +kernel)) ggX7_signBy_X7_begin
set_option maxRecDepth 20000 in
theorem ggX7_signBy_X7_strokesUntil : GoodIn wsX7_signBy wsX7_strokesUntil := goodIn_r _ [11, 12, 13, 14, 6, 15, 2, 16, 17, 18, 19, 1, 20, 21, 22, 23, 24, 25, 26, 27, 28, 29, 30, 31, 36, 37, 38, 39, 40, 41, 42, 43, 44, 45, 46, 47, 48, 49, 50, 51, 52, 53, 54, 55, 56, 57, 58, 59, 60, 61, 62, 63, 64, 65] (by decide +kernel) (by decide +kernel)
set_option maxRecDepth 20000 in
theorem gX7_signBy_X7_strokesUntil : GoodIn wsX7_signBy (wsV RX7 158 RX7 yX7_strokesUntil wsX7_strokesUntil) := goodIn_app (goodIn_of _ (by decide +kernel)) ggX7_signBy_X7_strokesUntil
set_option maxRecDepth 20000 in
theorem ggX7_signBy_X7_air : GoodIn wsX7_signBy wsX7_air := goodIn_r _ [23, 1, 24, 25, 26, 6, 27, 2, 36, 37, 38, 39, 40, 41, 42, 43, 44, 45, 46, 47, 48, 49, 50, 51, 52, 53, 54, 55, 56, 57, 58, 59, 60, 61, 62, 63, 64, 65] (by decide +kernel) (by decide +kernel)
set_option maxRecDepth 20000 in
theorem gX7_signBy_X7_air : GoodIn wsX7_signBy (wsV RX7 130 RX7 yX7_air wsX7_air) := goodIn_app (goodIn_of _ (by decide +kernel)) ggX7_signBy_X7_air
set_option maxRecDepth 20000 in
theorem ggX7_signBy_X7_goHour : GoodIn wsX7_signBy wsX7_goHour := goodIn_r _ [35, 2, 1, 24, 25, 26, 6, 27, 20, 21, 22, 23, 36, 37, 38, 39, 40, 41, 42, 43, 44, 45, 46, 47, 48, 49, 50, 51, 52, 53, 54, 55, 56, 57, 58, 59, 60, 61, 62, 63, 64, 65] (by decide +kernel) (by decide +kernel)
set_option maxRecDepth 20000 in
theorem gX7_signBy_X7_goHour : GoodIn wsX7_signBy (wsV RX7 151 RX7 yX7_goHour wsX7_goHour) := goodIn_app (goodIn_of _ (by decide +kernel)) ggX7_signBy_X7_goHour
theorem dX7_signBy_0 : decode cX7_signBy 0 = .ok (.iload_n 1, 1) := by decide +kernel
theorem dX7_signBy_1 : decode cX7_signBy 1 = .ok (.ifCond .ne 40, 3) := by decide +kernel
theorem dX7_signBy_4 : decode cX7_signBy 4 = .ok (.aload_n 0, 1) := by decide +kernel
theorem dX7_signBy_5 : decode cX7_signBy 5 = .ok (.bipush 10, 2) := by decide +kernel
theorem dX7_signBy_7 : decode cX7_signBy 7 = .ok (.aload_n 0, 1) := by decide +kernel
theorem dX7_signBy_8 : decode cX7_signBy 8 = .ok (.getfield 17, 3) := by decide +kernel
theorem dX7_signBy_11 : decode cX7_signBy 11 = .ok (.iconst 2, 1) := by decide +kernel
theorem dX7_signBy_12 : decode cX7_signBy 12 = .ok (.iaload, 1) := by decide +kernel
theorem dX7_signBy_13 : decode cX7_signBy 13 = .ok (.imul, 1) := by decide +kernel
theorem dX7_signBy_14 : decode cX7_signBy 14 = .ok (.aload_n 0, 1) := by decide +kernel
theorem dX7_signBy_15 : decode cX7_signBy 15 = .ok (.getfield 17, 3) := by decide +kernel
theorem dX7_signBy_18 : decode cX7_signBy 18 = .ok (.bipush 8, 2) := by decide +kernel
theorem dX7_signBy_20 : decode cX7_signBy 20 = .ok (.iaload, 1) := by decide +kernel
theorem dX7_signBy_21 : decode cX7_signBy 21 = .ok (.invokevirtual 154, 3) := by decide +kernel
theorem dX7_signBy_24 : decode cX7_signBy 24 = .ok (.aload_n 0, 1) := by decide +kernel
theorem dX7_signBy_25 : decode cX7_signBy 25 = .ok (.invokevirtual 158, 3) := by decide +kernel
theorem dX7_signBy_28 : decode cX7_signBy 28 = .ok (.istore_n 3, 1) := by decide +kernel
theorem dX7_signBy_29 : decode cX7_signBy 29 = .ok (.iload_n 3, 1) := by decide +kernel
theorem dX7_signBy_30 : decode cX7_signBy 30 = .ok (.bipush (-9), 2) := by decide +kernel
theorem dX7_signBy_32 : decode cX7_signBy 32 = .ok (.if_icmp .ne 7, 3) := by decide +kernel
theorem dX7_signBy_35 : decode cX7_signBy 35 = .ok (.iconst 0, 1) := by decide +kernel
theorem dX7_signBy_36 : decode cX7_signBy 36 = .ok (.goto 4, 3) := by decide +kernel
theorem dX7_signBy_39 : decode cX7_signBy 39 = .ok (.iload_n 3, 1) := by decide +kernel
theorem dX7_signBy_40 : decode cX7_signBy 40 = .ok (.ireturn, 1) := by decide +kernel
theorem dX7_signBy_41 : decode cX7_signBy 41 = .ok (.aload_n 0, 1) := by decide +kernel
theorem dX7_signBy_42 : decode cX7_signBy 42 = .ok (.iload_n 1, 1) := by decide +kernel
theorem dX7_signBy_43 : decode cX7_signBy 43 = .ok (.iconst 1, 1) := by decide +kernel
theorem dX7_signBy_44 : decode cX7_signBy 44 = .ok (.if_icmp .ne 7, 3) := by decide +kernel
theorem dX7_signBy_47 : decode cX7_signBy 47 = .ok (.iconst 0, 1) := by decide +kernel
theorem dX7_signBy_48 : decode cX7_signBy 48 = .ok (.goto 12, 3) := by decide +kernel
theorem dX7_signBy_51 : decode cX7_signBy 51 = .ok (.bipush 10, 2) := by decide +kernel
theorem dX7_signBy_53 : decode cX7_signBy 53 = .ok (.aload_n 0, 1) := by decide +kernel
theorem dX7_signBy_54 : decode cX7_signBy 54 = .ok (.getfield 17, 3) := by decide +kernel
theorem dX7_signBy_57 : decode cX7_signBy 57 = .ok (.iconst 2, 1) := by decide +kernel
theorem dX7_signBy_58 : decode cX7_signBy 58 = .ok (.iaload, 1) := by decide +kernel
theorem dX7_signBy_59 : decode cX7_signBy 59 = .ok (.imul, 1) := by decide +kernel
theorem dX7_signBy_60 : decode cX7_signBy 60 = .ok (.aload_n 0, 1) := by decide +kernel
theorem dX7_signBy_61 : decode cX7_signBy 61 = .ok (.getfield 17, 3) := by decide +kernel
theorem dX7_signBy_64 : decode cX7_signBy 64 = .ok (.bipush 8, 2) := by decide +kernel
theorem dX7_signBy_66 : decode cX7_signBy 66 = .ok (.iaload, 1) := by decide +kernel
theorem dX7_signBy_67 : decode cX7_signBy 67 = .ok (.invokevirtual 154, 3) := by decide +kernel
theorem dX7_signBy_70 : decode cX7_signBy 70 = .ok (.iload_n 1, 1) := by decide +kernel
theorem dX7_signBy_71 : decode cX7_signBy 71 = .ok (.iconst 2, 1) := by decide +kernel
theorem dX7_signBy_72 : decode cX7_signBy 72 = .ok (.if_icmp .ne 16, 3) := by decide +kernel
theorem dX7_signBy_75 : decode cX7_signBy 75 = .ok (.aload_n 0, 1) := by decide +kernel
theorem dX7_signBy_76 : decode cX7_signBy 76 = .ok (.invokevirtual 130, 3) := by decide +kernel
theorem dX7_signBy_79 : decode cX7_signBy 79 = .ok (.ifCond .le 7, 3) := by decide +kernel
theorem dX7_signBy_82 : decode cX7_signBy 82 = .ok (.iconst 1, 1) := by decide +kernel
theorem dX7_signBy_83 : decode cX7_signBy 83 = .ok (.goto 4, 3) := by decide +kernel
theorem dX7_signBy_86 : decode cX7_signBy 86 = .ok (.iconst 0, 1) := by decide +kernel
theorem dX7_signBy_87 : decode cX7_signBy 87 = .ok (.ireturn, 1) := by decide +kernel
theorem dX7_signBy_88 : decode cX7_signBy 88 = .ok (.iconst 0, 1) := by decide +kernel
theorem dX7_signBy_89 : decode cX7_signBy 89 = .ok (.istore_n 3, 1) := by decide +kernel
theorem dX7_signBy_90 : decode cX7_signBy 90 = .ok (.iload_n 3, 1) := by decide +kernel
theorem dX7_signBy_91 : decode cX7_signBy 91 = .ok (.iload_n 2, 1) := by decide +kernel
theorem dX7_signBy_92 : decode cX7_signBy 92 = .ok (.if_icmp .ge 13, 3) := by decide +kernel
theorem dX7_signBy_95 : decode cX7_signBy 95 = .ok (.aload_n 0, 1) := by decide +kernel
theorem dX7_signBy_96 : decode cX7_signBy 96 = .ok (.invokevirtual 151, 3) := by decide +kernel
theorem dX7_signBy_99 : decode cX7_signBy 99 = .ok (.iinc 3 1, 3) := by decide +kernel
theorem dX7_signBy_102 : decode cX7_signBy 102 = .ok (.goto (-12), 3) := by decide +kernel
theorem dX7_signBy_105 : decode cX7_signBy 105 = .ok (.aload_n 0, 1) := by decide +kernel
theorem dX7_signBy_106 : decode cX7_signBy 106 = .ok (.getfield 20, 3) := by decide +kernel
theorem dX7_signBy_109 : decode cX7_signBy 109 = .ok (.iconst 0, 1) := by decide +kernel
theorem dX7_signBy_110 : decode cX7_signBy 110 = .ok (.iaload, 1) := by decide +kernel
theorem dX7_signBy_111 : decode cX7_signBy 111 = .ok (.ireturn, 1) := by decide +kernel
set_option maxRecDepth 20000 in
theorem ggX7_fittingOf_X7_takeTrouble : GoodIn wsX7_fittingOf wsX7_takeTrouble := goodIn_r _ [9, 10, 11, 12, 13, 8, 14, 15, 16, 17, 18, 56, 57, 58, 59, 60, 61, 62, 63, 64, 65, 66, 67, 68, 69, 70, 71, 72, 73, 74, 75, 76, 77, 78, 79, 80, 81, 82, 83, 84, 85] (by decide +kernel) (by decide +kernel)
set_option maxRecDepth 20000 in
theorem gX7_fittingOf_X7_takeTrouble : GoodIn wsX7_fittingOf (wsV RX7 172 RX7 yX7_takeTrouble wsX7_takeTrouble) := goodIn_app (goodIn_of _ (by decide +kernel)) ggX7_fittingOf_X7_takeTrouble
set_option maxRecDepth 20000 in
theorem ggX7_fittingOf_X7_signBy : GoodIn wsX7_fittingOf wsX7_signBy := goodIn_r _ [22, 10, 23, 24, 25, 26, 8, 27, 28, 29, 30, 31, 32, 33, 34, 35, 36, 37, 38, 39, 40, 41, 42, 43, 44, 45, 46, 47, 48, 49, 50, 51, 52, 53, 54, 55, 56, 57, 58, 59, 60, 61, 62, 63, 64, 65, 66, 67, 68, 69, 70, 71, 72, 73, 74, 75, 76, 77, 78, 79, 80, 81, 82, 83, 84, 85] (by decide +kernel) (by decide +kernel)
set_option maxRecDepth 20000 in
theorem gX7_fittingOf_X7_signBy : GoodIn wsX7_fittingOf (wsV RX7 175 RX7 yX7_signBy wsX7_signBy) := goodIn_app (goodIn_of _ (by decide +kernel)) ggX7_fittingOf_X7_signBy
theorem dX7_fittingOf_0 : decode cX7_fittingOf 0 = .ok (.iconst 0, 1) := by decide +kernel
theorem dX7_fittingOf_1 : decode cX7_fittingOf 1 = .ok (.istore_n 2, 1) := by decide +kernel
theorem dX7_fittingOf_2 : decode cX7_fittingOf 2 = .ok (.iconst 1, 1) := by decide +kernel
theorem dX7_fittingOf_3 : decode cX7_fittingOf 3 = .ok (.istore_n 3, 1) := by decide +kernel
theorem dX7_fittingOf_4 : decode cX7_fittingOf 4 = .ok (.iload_n 3, 1) := by decide +kernel
theorem dX7_fittingOf_5 : decode cX7_fittingOf 5 = .ok (.bipush 9, 2) := by decide +kernel
theorem dX7_fittingOf_7 : decode cX7_fittingOf 7 = .ok (.if_icmp .gt 89, 3) := by decide +kernel
theorem dX7_fittingOf_10 : decode cX7_fittingOf 10 = .ok (.iconst 1, 1) := by decide +kernel
theorem dX7_fittingOf_11 : decode cX7_fittingOf 11 = .ok (.istore 4, 2) := by decide +kernel
theorem dX7_fittingOf_13 : decode cX7_fittingOf 13 = .ok (.iconst 0, 1) := by decide +kernel
theorem dX7_fittingOf_14 : decode cX7_fittingOf 14 = .ok (.istore 5, 2) := by decide +kernel
theorem dX7_fittingOf_16 : decode cX7_fittingOf 16 = .ok (.iload 5, 2) := by decide +kernel
theorem dX7_fittingOf_18 : decode cX7_fittingOf 18 = .ok (.aload_n 0, 1) := by decide +kernel
theorem dX7_fittingOf_19 : decode cX7_fittingOf 19 = .ok (.getfield 161, 3) := by decide +kernel
theorem dX7_fittingOf_22 : decode cX7_fittingOf 22 = .ok (.if_icmp .ge 55, 3) := by decide +kernel
theorem dX7_fittingOf_25 : decode cX7_fittingOf 25 = .ok (.iload 4, 2) := by decide +kernel
theorem dX7_fittingOf_27 : decode cX7_fittingOf 27 = .ok (.ifCond .eq 50, 3) := by decide +kernel
theorem dX7_fittingOf_30 : decode cX7_fittingOf 30 = .ok (.aload_n 0, 1) := by decide +kernel
theorem dX7_fittingOf_31 : decode cX7_fittingOf 31 = .ok (.iload_n 1, 1) := by decide +kernel
theorem dX7_fittingOf_32 : decode cX7_fittingOf 32 = .ok (.iload_n 3, 1) := by decide +kernel
theorem dX7_fittingOf_33 : decode cX7_fittingOf 33 = .ok (.invokevirtual 172, 3) := by decide +kernel
theorem dX7_fittingOf_36 : decode cX7_fittingOf 36 = .ok (.aload_n 0, 1) := by decide +kernel
theorem dX7_fittingOf_37 : decode cX7_fittingOf 37 = .ok (.aload_n 0, 1) := by decide +kernel
theorem dX7_fittingOf_38 : decode cX7_fittingOf 38 = .ok (.getfield 30, 3) := by decide +kernel
theorem dX7_fittingOf_41 : decode cX7_fittingOf 41 = .ok (.iload 5, 2) := by decide +kernel
theorem dX7_fittingOf_43 : decode cX7_fittingOf 43 = .ok (.iaload, 1) := by decide +kernel
theorem dX7_fittingOf_44 : decode cX7_fittingOf 44 = .ok (.aload_n 0, 1) := by decide +kernel
theorem dX7_fittingOf_45 : decode cX7_fittingOf 45 = .ok (.getfield 33, 3) := by decide +kernel
theorem dX7_fittingOf_48 : decode cX7_fittingOf 48 = .ok (.iload 5, 2) := by decide +kernel
theorem dX7_fittingOf_50 : decode cX7_fittingOf 50 = .ok (.iaload, 1) := by decide +kernel
theorem dX7_fittingOf_51 : decode cX7_fittingOf 51 = .ok (.invokevirtual 175, 3) := by decide +kernel
theorem dX7_fittingOf_54 : decode cX7_fittingOf 54 = .ok (.aload_n 0, 1) := by decide +kernel
theorem dX7_fittingOf_55 : decode cX7_fittingOf 55 = .ok (.getfield 36, 3) := by decide +kernel
theorem dX7_fittingOf_58 : decode cX7_fittingOf 58 = .ok (.iload 5, 2) := by decide +kernel
theorem dX7_fittingOf_60 : decode cX7_fittingOf 60 = .ok (.iaload, 1) := by decide +kernel
theorem dX7_fittingOf_61 : decode cX7_fittingOf 61 = .ok (.if_icmp .ne 7, 3) := by decide +kernel
theorem dX7_fittingOf_64 : decode cX7_fittingOf 64 = .ok (.iconst 1, 1) := by decide +kernel
theorem dX7_fittingOf_65 : decode cX7_fittingOf 65 = .ok (.goto 4, 3) := by decide +kernel
theorem dX7_fittingOf_68 : decode cX7_fittingOf 68 = .ok (.iconst 0, 1) := by decide +kernel
theorem dX7_fittingOf_69 : decode cX7_fittingOf 69 = .ok (.istore 4, 2) := by decide +kernel
theorem dX7_fittingOf_71 : decode cX7_fittingOf 71 = .ok (.iinc 5 1, 3) := by decide +kernel
theorem dX7_fittingOf_74 : decode cX7_fittingOf 74 = .ok (.goto (-58), 3) := by decide +kernel
theorem dX7_fittingOf_77 : decode cX7_fittingOf 77 = .ok (.iload_n 2, 1) := by decide +kernel
theorem dX7_fittingOf_78 : decode cX7_fittingOf 78 = .ok (.iload 4, 2) := by decide +kernel
theorem dX7_fittingOf_80 : decode cX7_fittingOf 80 = .ok (.ifCond .eq 7, 3) := by decide +kernel
theorem dX7_fittingOf_83 : decode cX7_fittingOf 83 = .ok (.iconst 1, 1) := by decide +kernel
theorem dX7_fittingOf_84 : decode cX7_fittingOf 84 = .ok (.goto 4, 3) := by decide +kernel
theorem dX7_fittingOf_87 : decode cX7_fittingOf 87 = .ok (.iconst 0, 1) := by decide +kernel
theorem dX7_fittingOf_88 : decode cX7_fittingOf 88 = .ok (.iadd, 1) := by decide +kernel
theorem dX7_fittingOf_89 : decode cX7_fittingOf 89 = .ok (.istore_n 2, 1) := by decide +kernel
theorem dX7_fittingOf_90 : decode cX7_fittingOf 90 = .ok (.iinc 3 1, 3) := by decide +kernel
theorem dX7_fittingOf_93 : decode cX7_fittingOf 93 = .ok (.goto (-89), 3) := by decide +kernel
theorem dX7_fittingOf_96 : decode cX7_fittingOf 96 = .ok (.iload_n 2, 1) := by decide +kernel
theorem dX7_fittingOf_97 : decode cX7_fittingOf 97 = .ok (.ireturn, 1) := by decide +kernel
set_option maxRecDepth 20000 in
theorem ggX7_fitting_X7_isTrouble : GoodIn wsX7_fitting wsX7_isTrouble := goodIn_r _ [4, 5, 6, 3, 7] (by decide +kernel) (by decide +kernel)
set_option maxRecDepth 20000 in
theorem gX7_fitting_X7_isTrouble : GoodIn wsX7_fitting (va_wsS RX7 164 yX7_isTrouble wsX7_isTrouble) := goodIn_app (goodIn_of _ (by decide +kernel)) ggX7_fitting_X7_isTrouble
set_option maxRecDepth 20000 in
theorem ggX7_fitting_X7_fittingOf : GoodIn wsX7_fitting wsX7_fittingOf := goodIn_r _ [11, 12, 13, 14, 15, 16, 17, 18, 3, 19, 20, 21, 22, 23, 24, 25, 26, 27, 28, 29, 30, 31, 32, 33, 34, 35, 36, 37, 38, 39, 40, 41, 42, 43, 44, 45, 46, 47, 48, 49, 50, 51, 52, 53, 54, 55, 56, 57, 58, 59, 60, 61, 62, 63, 64, 65, 66, 67, 68, 69, 70, 71, 72, 73, 74, 75, 76, 77, 78, 79, 80, 81, 82, 83, 84, 85, 86, 87, 88, 89, 90, 91, 92, 93, 94, 95] (by decide +kernel) (by decide +kernel)
set_option maxRecDepth 20000 in
theorem gX7_fitting_X7_fittingOf : GoodIn wsX7_fitting (wsV RX7 178 RX7 yX7_fittingOf wsX7_fittingOf) := goodIn_app (goodIn_of _ (by decide +kernel)) ggX7_fitting_X7_fittingOf
theorem dX7_fitting_0 : decode cX7_fitting 0 = .ok (.iload_n 1, 1) := by decide +kernel
theorem dX7_fitting_1 : decode cX7_fitting 1 = .ok (.invokestatic 164, 3) := by decide +kernel
theorem dX7_fitting_4 : decode cX7_fitting 4 = .ok (.ifCond .eq 11, 3) := by decide +kernel
theorem dX7_fitting_7 : decode cX7_fitting 7 = .ok (.aload_n 0, 1) := by decide +kernel
theorem dX7_fitting_8 : decode cX7_fitting 8 = .ok (.iload_n 1, 1) := by decide +kernel
theorem dX7_fitting_9 : decode cX7_fitting 9 = .ok (.invokevirtual 178, 3) := by decide +kernel
theorem dX7_fitting_12 : decode cX7_fitting 12 = .ok (.goto 4, 3) := by decide +kernel
theorem dX7_fitting_15 : decode cX7_fitting 15 = .ok (.iconst (-1), 1) := by decide +kernel
theorem dX7_fitting_16 : decode cX7_fitting 16 = .ok (.ireturn, 1) := by decide +kernel
theorem dX7_common_0 : decode cX7_common 0 = .ok (.lload_n 0, 1) := by decide +kernel
theorem dX7_common_1 : decode cX7_common 1 = .ok (.lconst 0, 1) := by decide +kernel
theorem dX7_common_2 : decode cX7_common 2 = .ok (.lcmp, 1) := by decide +kernel
theorem dX7_common_3 : decode cX7_common 3 = .ok (.ifCond .ge 8, 3) := by decide +kernel
theorem dX7_common_6 : decode cX7_common 6 = .ok (.lload_n 0, 1) := by decide +kernel
theorem dX7_common_7 : decode cX7_common 7 = .ok (.lneg, 1) := by decide +kernel
theorem dX7_common_8 : decode cX7_common 8 = .ok (.goto 4, 3) := by decide +kernel
theorem dX7_common_11 : decode cX7_common 11 = .ok (.lload_n 0, 1) := by decide +kernel
theorem dX7_common_12 : decode cX7_common 12 = .ok (.lstore 4, 2) := by decide +kernel
theorem dX7_common_14 : decode cX7_common 14 = .ok (.lload_n 2, 1) := by decide +kernel
theorem dX7_common_15 : decode cX7_common 15 = .ok (.lstore 6, 2) := by decide +kernel
theorem dX7_common_17 : decode cX7_common 17 = .ok (.lload 6, 2) := by decide +kernel
theorem dX7_common_19 : decode cX7_common 19 = .ok (.lconst 0, 1) := by decide +kernel
theorem dX7_common_20 : decode cX7_common 20 = .ok (.lcmp, 1) := by decide +kernel
theorem dX7_common_21 : decode cX7_common 21 = .ok (.ifCond .eq 21, 3) := by decide +kernel
theorem dX7_common_24 : decode cX7_common 24 = .ok (.lload 4, 2) := by decide +kernel
theorem dX7_common_26 : decode cX7_common 26 = .ok (.lload 6, 2) := by decide +kernel
theorem dX7_common_28 : decode cX7_common 28 = .ok (.lrem, 1) := by decide +kernel
theorem dX7_common_29 : decode cX7_common 29 = .ok (.lstore 8, 2) := by decide +kernel
theorem dX7_common_31 : decode cX7_common 31 = .ok (.lload 6, 2) := by decide +kernel
theorem dX7_common_33 : decode cX7_common 33 = .ok (.lstore 4, 2) := by decide +kernel
theorem dX7_common_35 : decode cX7_common 35 = .ok (.lload 8, 2) := by decide +kernel
theorem dX7_common_37 : decode cX7_common 37 = .ok (.lstore 6, 2) := by decide +kernel
theorem dX7_common_39 : decode cX7_common 39 = .ok (.goto (-22), 3) := by decide +kernel
theorem dX7_common_42 : decode cX7_common 42 = .ok (.lload 4, 2) := by decide +kernel
theorem dX7_common_44 : decode cX7_common 44 = .ok (.lreturn, 1) := by decide +kernel
set_option maxRecDepth 20000 in
theorem ggX7_inLeast_X7_common : GoodIn wsX7_inLeast wsX7_common := goodIn_r _ [4] (by decide +kernel) (by decide +kernel)
set_option maxRecDepth 20000 in
theorem gX7_inLeast_X7_common : GoodIn wsX7_inLeast (va_wsS RX7 181 yX7_common wsX7_common) := goodIn_app (goodIn_of _ (by decide +kernel)) ggX7_inLeast_X7_common
theorem dX7_inLeast_0 : decode cX7_inLeast 0 = .ok (.lload_n 0, 1) := by decide +kernel
