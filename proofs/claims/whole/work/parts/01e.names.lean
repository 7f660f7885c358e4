theorem dX7_inLeast_1 : decode cX7_inLeast 1 = .ok (.lload_n 2, 1) := by decide +kernel
theorem dX7_inLeast_2 : decode cX7_inLeast 2 = .ok (.invokestatic 181, 3) := by decide +kernel
theorem dX7_inLeast_5 : decode cX7_inLeast 5 = .ok (.lstore 5, 2) := by decide +kernel
theorem dX7_inLeast_7 : decode cX7_inLeast 7 = .ok (.iload 4, 2) := by decide +kernel
theorem dX7_inLeast_9 : decode cX7_inLeast 9 = .ok (.ifCond .ne 10, 3) := by decide +kernel
theorem dX7_inLeast_12 : decode cX7_inLeast 12 = .ok (.lload_n 0, 1) := by decide +kernel
theorem dX7_inLeast_13 : decode cX7_inLeast 13 = .ok (.lload 5, 2) := by decide +kernel
theorem dX7_inLeast_15 : decode cX7_inLeast 15 = .ok (.ldiv, 1) := by decide +kernel
theorem dX7_inLeast_16 : decode cX7_inLeast 16 = .ok (.goto 7, 3) := by decide +kernel
theorem dX7_inLeast_19 : decode cX7_inLeast 19 = .ok (.lload_n 2, 1) := by decide +kernel
theorem dX7_inLeast_20 : decode cX7_inLeast 20 = .ok (.lload 5, 2) := by decide +kernel
theorem dX7_inLeast_22 : decode cX7_inLeast 22 = .ok (.ldiv, 1) := by decide +kernel
theorem dX7_inLeast_23 : decode cX7_inLeast 23 = .ok (.lreturn, 1) := by decide +kernel
set_option maxRecDepth 20000 in
theorem ggX7_odds_X7_isTrouble : GoodIn wsX7_odds wsX7_isTrouble := goodIn_r _ [5, 6, 7, 4, 8] (by decide +kernel) (by decide +kernel)
set_option maxRecDepth 20000 in
theorem gX7_odds_X7_isTrouble : GoodIn wsX7_odds (va_wsS RX7 164 yX7_isTrouble wsX7_isTrouble) := goodIn_app (goodIn_of _ (by decide +kernel)) ggX7_odds_X7_isTrouble
set_option maxRecDepth 20000 in
theorem ggX7_odds_X7_in : GoodIn wsX7_odds wsX7_in := goodIn_r _ [8] (by decide +kernel) (by decide +kernel)
set_option maxRecDepth 20000 in
theorem gX7_odds_X7_in : GoodIn wsX7_odds (va_wsS RX7 74 yX7_in wsX7_in) := goodIn_app (goodIn_of _ (by decide +kernel)) ggX7_odds_X7_in
set_option maxRecDepth 20000 in
theorem ggX7_odds_X7_fittingOf : GoodIn wsX7_odds wsX7_fittingOf := goodIn_r _ [12, 13, 14, 15, 16, 17, 18, 19, 4, 20, 21, 22, 23, 24, 25, 26, 27, 28, 29, 30, 31, 32, 33, 34, 35, 36, 37, 38, 39, 40, 41, 42, 43, 44, 45, 46, 47, 48, 49, 50, 51, 52, 53, 54, 55, 56, 57, 58, 59, 60, 61, 62, 63, 64, 65, 66, 73, 74, 75, 76, 77, 78, 79, 80, 81, 82, 83, 84, 85, 86, 87, 88, 89, 90, 91, 92, 93, 94, 95, 96, 97, 98, 99, 100, 101, 102] (by decide +kernel) (by decide +kernel)
set_option maxRecDepth 20000 in
theorem gX7_odds_X7_fittingOf : GoodIn wsX7_odds (wsV RX7 178 RX7 yX7_fittingOf wsX7_fittingOf) := goodIn_app (goodIn_of _ (by decide +kernel)) ggX7_odds_X7_fittingOf
set_option maxRecDepth 20000 in
theorem ggX7_odds_X7_inLeast : GoodIn wsX7_odds wsX7_inLeast := goodIn_r _ [69, 70, 71, 4, 72] (by decide +kernel) (by decide +kernel)
set_option maxRecDepth 20000 in
theorem gX7_odds_X7_inLeast : GoodIn wsX7_odds (va_wsS RX7 185 yX7_inLeast wsX7_inLeast) := goodIn_app (goodIn_of _ (by decide +kernel)) ggX7_odds_X7_inLeast
theorem dX7_odds_0 : decode cX7_odds 0 = .ok (.iload_n 1, 1) := by decide +kernel
theorem dX7_odds_1 : decode cX7_odds 1 = .ok (.invokestatic 164, 3) := by decide +kernel
theorem dX7_odds_4 : decode cX7_odds 4 = .ok (.ifCond .eq 12, 3) := by decide +kernel
theorem dX7_odds_7 : decode cX7_odds 7 = .ok (.iload_n 2, 1) := by decide +kernel
theorem dX7_odds_8 : decode cX7_odds 8 = .ok (.iconst 0, 1) := by decide +kernel
theorem dX7_odds_9 : decode cX7_odds 9 = .ok (.iconst 1, 1) := by decide +kernel
theorem dX7_odds_10 : decode cX7_odds 10 = .ok (.invokestatic 74, 3) := by decide +kernel
theorem dX7_odds_13 : decode cX7_odds 13 = .ok (.ifCond .ne 5, 3) := by decide +kernel
theorem dX7_odds_16 : decode cX7_odds 16 = .ok (.iconst (-1), 1) := by decide +kernel
theorem dX7_odds_17 : decode cX7_odds 17 = .ok (.ireturn, 1) := by decide +kernel
theorem dX7_odds_18 : decode cX7_odds 18 = .ok (.iconst 0, 1) := by decide +kernel
theorem dX7_odds_19 : decode cX7_odds 19 = .ok (.istore_n 3, 1) := by decide +kernel
theorem dX7_odds_20 : decode cX7_odds 20 = .ok (.iconst 0, 1) := by decide +kernel
theorem dX7_odds_21 : decode cX7_odds 21 = .ok (.istore 4, 2) := by decide +kernel
theorem dX7_odds_23 : decode cX7_odds 23 = .ok (.iconst 0, 1) := by decide +kernel
theorem dX7_odds_24 : decode cX7_odds 24 = .ok (.istore 5, 2) := by decide +kernel
theorem dX7_odds_26 : decode cX7_odds 26 = .ok (.iload 5, 2) := by decide +kernel
theorem dX7_odds_28 : decode cX7_odds 28 = .ok (.bipush 6, 2) := by decide +kernel
theorem dX7_odds_30 : decode cX7_odds 30 = .ok (.if_icmp .ge 45, 3) := by decide +kernel
theorem dX7_odds_33 : decode cX7_odds 33 = .ok (.aload_n 0, 1) := by decide +kernel
theorem dX7_odds_34 : decode cX7_odds 34 = .ok (.getfield 39, 3) := by decide +kernel
theorem dX7_odds_37 : decode cX7_odds 37 = .ok (.iload 5, 2) := by decide +kernel
theorem dX7_odds_39 : decode cX7_odds 39 = .ok (.iaload, 1) := by decide +kernel
theorem dX7_odds_40 : decode cX7_odds 40 = .ok (.aload_n 0, 1) := by decide +kernel
theorem dX7_odds_41 : decode cX7_odds 41 = .ok (.iload 5, 2) := by decide +kernel
theorem dX7_odds_43 : decode cX7_odds 43 = .ok (.invokevirtual 178, 3) := by decide +kernel
theorem dX7_odds_46 : decode cX7_odds 46 = .ok (.imul, 1) := by decide +kernel
theorem dX7_odds_47 : decode cX7_odds 47 = .ok (.istore 6, 2) := by decide +kernel
theorem dX7_odds_49 : decode cX7_odds 49 = .ok (.iload_n 3, 1) := by decide +kernel
theorem dX7_odds_50 : decode cX7_odds 50 = .ok (.iload 6, 2) := by decide +kernel
theorem dX7_odds_52 : decode cX7_odds 52 = .ok (.iadd, 1) := by decide +kernel
theorem dX7_odds_53 : decode cX7_odds 53 = .ok (.istore_n 3, 1) := by decide +kernel
theorem dX7_odds_54 : decode cX7_odds 54 = .ok (.iload 5, 2) := by decide +kernel
theorem dX7_odds_56 : decode cX7_odds 56 = .ok (.iload_n 1, 1) := by decide +kernel
theorem dX7_odds_57 : decode cX7_odds 57 = .ok (.if_icmp .ne 8, 3) := by decide +kernel
theorem dX7_odds_60 : decode cX7_odds 60 = .ok (.iload 6, 2) := by decide +kernel
theorem dX7_odds_62 : decode cX7_odds 62 = .ok (.goto 5, 3) := by decide +kernel
theorem dX7_odds_65 : decode cX7_odds 65 = .ok (.iload 4, 2) := by decide +kernel
theorem dX7_odds_67 : decode cX7_odds 67 = .ok (.istore 4, 2) := by decide +kernel
theorem dX7_odds_69 : decode cX7_odds 69 = .ok (.iinc 5 1, 3) := by decide +kernel
theorem dX7_odds_72 : decode cX7_odds 72 = .ok (.goto (-46), 3) := by decide +kernel
theorem dX7_odds_75 : decode cX7_odds 75 = .ok (.iload_n 3, 1) := by decide +kernel
theorem dX7_odds_76 : decode cX7_odds 76 = .ok (.ifCond .ne 8, 3) := by decide +kernel
theorem dX7_odds_79 : decode cX7_odds 79 = .ok (.bipush (-2), 2) := by decide +kernel
theorem dX7_odds_81 : decode cX7_odds 81 = .ok (.goto 13, 3) := by decide +kernel
theorem dX7_odds_84 : decode cX7_odds 84 = .ok (.iload 4, 2) := by decide +kernel
theorem dX7_odds_86 : decode cX7_odds 86 = .ok (.i2l, 1) := by decide +kernel
theorem dX7_odds_87 : decode cX7_odds 87 = .ok (.iload_n 3, 1) := by decide +kernel
theorem dX7_odds_88 : decode cX7_odds 88 = .ok (.i2l, 1) := by decide +kernel
theorem dX7_odds_89 : decode cX7_odds 89 = .ok (.iload_n 2, 1) := by decide +kernel
theorem dX7_odds_90 : decode cX7_odds 90 = .ok (.invokestatic 185, 3) := by decide +kernel
theorem dX7_odds_93 : decode cX7_odds 93 = .ok (.l2i, 1) := by decide +kernel
theorem dX7_odds_94 : decode cX7_odds 94 = .ok (.ireturn, 1) := by decide +kernel
set_option maxRecDepth 20000 in
theorem ggX7_toldBy_X7_takeTrouble : GoodIn wsX7_toldBy wsX7_takeTrouble := goodIn_r _ [6, 7, 8, 9, 10, 5, 11, 12, 13, 14, 15, 58, 59, 60, 61, 62, 63, 64, 65, 66, 67, 68, 69, 70, 71, 72, 73, 74, 75, 76, 77, 78, 79, 80, 81, 82, 83, 84, 85, 86, 87] (by decide +kernel) (by decide +kernel)
set_option maxRecDepth 20000 in
theorem gX7_toldBy_X7_takeTrouble : GoodIn wsX7_toldBy (wsV RX7 172 RX7 yX7_takeTrouble wsX7_takeTrouble) := goodIn_app (goodIn_of _ (by decide +kernel)) ggX7_toldBy_X7_takeTrouble
set_option maxRecDepth 20000 in
theorem ggX7_toldBy_X7_signBy : GoodIn wsX7_toldBy wsX7_signBy := goodIn_r _ [19, 7, 20, 21, 22, 23, 5, 24, 25, 26, 27, 28, 29, 30, 31, 32, 33, 34, 35, 36, 37, 38, 39, 40, 41, 42, 43, 44, 45, 46, 47, 48, 49, 50, 51, 52, 58, 59, 60, 61, 62, 63, 64, 65, 66, 67, 68, 69, 70, 71, 72, 73, 74, 75, 76, 77, 78, 79, 80, 81, 82, 83, 84, 85, 86, 87] (by decide +kernel) (by decide +kernel)
set_option maxRecDepth 20000 in
theorem gX7_toldBy_X7_signBy : GoodIn wsX7_toldBy (wsV RX7 175 RX7 yX7_signBy wsX7_signBy) := goodIn_app (goodIn_of _ (by decide +kernel)) ggX7_toldBy_X7_signBy
set_option maxRecDepth 20000 in
theorem ggX7_toldBy_X7_greatestOf : GoodIn wsX7_toldBy wsX7_greatestOf := goodIn_r _ [56, 1, 57, 58, 59, 60, 61, 62, 63, 64, 65, 66, 67, 68, 69, 70, 71, 72, 73, 74, 75, 76, 77, 78, 79, 80, 81, 82, 83, 84, 85, 86, 87] (by decide +kernel) (by decide +kernel)
set_option maxRecDepth 20000 in
theorem gX7_toldBy_X7_greatestOf : GoodIn wsX7_toldBy (wsV RX7 189 RX7 yX7_greatestOf wsX7_greatestOf) := goodIn_app (goodIn_of _ (by decide +kernel)) ggX7_toldBy_X7_greatestOf
theorem dX7_toldBy_0 : decode cX7_toldBy 0 = .ok (.iconst 0, 1) := by decide +kernel
theorem dX7_toldBy_1 : decode cX7_toldBy 1 = .ok (.istore_n 2, 1) := by decide +kernel
theorem dX7_toldBy_2 : decode cX7_toldBy 2 = .ok (.iload_n 2, 1) := by decide +kernel
theorem dX7_toldBy_3 : decode cX7_toldBy 3 = .ok (.bipush 54, 2) := by decide +kernel
theorem dX7_toldBy_5 : decode cX7_toldBy 5 = .ok (.if_icmp .ge 36, 3) := by decide +kernel
theorem dX7_toldBy_8 : decode cX7_toldBy 8 = .ok (.aload_n 0, 1) := by decide +kernel
theorem dX7_toldBy_9 : decode cX7_toldBy 9 = .ok (.iload_n 2, 1) := by decide +kernel
theorem dX7_toldBy_10 : decode cX7_toldBy 10 = .ok (.bipush 9, 2) := by decide +kernel
theorem dX7_toldBy_12 : decode cX7_toldBy 12 = .ok (.idiv, 1) := by decide +kernel
theorem dX7_toldBy_13 : decode cX7_toldBy 13 = .ok (.iload_n 2, 1) := by decide +kernel
theorem dX7_toldBy_14 : decode cX7_toldBy 14 = .ok (.bipush 9, 2) := by decide +kernel
theorem dX7_toldBy_16 : decode cX7_toldBy 16 = .ok (.irem, 1) := by decide +kernel
theorem dX7_toldBy_17 : decode cX7_toldBy 17 = .ok (.iconst 1, 1) := by decide +kernel
theorem dX7_toldBy_18 : decode cX7_toldBy 18 = .ok (.iadd, 1) := by decide +kernel
theorem dX7_toldBy_19 : decode cX7_toldBy 19 = .ok (.invokevirtual 172, 3) := by decide +kernel
theorem dX7_toldBy_22 : decode cX7_toldBy 22 = .ok (.aload_n 0, 1) := by decide +kernel
theorem dX7_toldBy_23 : decode cX7_toldBy 23 = .ok (.getfield 42, 3) := by decide +kernel
theorem dX7_toldBy_26 : decode cX7_toldBy 26 = .ok (.iload_n 2, 1) := by decide +kernel
theorem dX7_toldBy_27 : decode cX7_toldBy 27 = .ok (.aload_n 0, 1) := by decide +kernel
theorem dX7_toldBy_28 : decode cX7_toldBy 28 = .ok (.iload_n 1, 1) := by decide +kernel
theorem dX7_toldBy_29 : decode cX7_toldBy 29 = .ok (.bipush 12, 2) := by decide +kernel
theorem dX7_toldBy_31 : decode cX7_toldBy 31 = .ok (.invokevirtual 175, 3) := by decide +kernel
theorem dX7_toldBy_34 : decode cX7_toldBy 34 = .ok (.iastore, 1) := by decide +kernel
theorem dX7_toldBy_35 : decode cX7_toldBy 35 = .ok (.iinc 2 1, 3) := by decide +kernel
theorem dX7_toldBy_38 : decode cX7_toldBy 38 = .ok (.goto (-36), 3) := by decide +kernel
theorem dX7_toldBy_41 : decode cX7_toldBy 41 = .ok (.iconst 0, 1) := by decide +kernel
theorem dX7_toldBy_42 : decode cX7_toldBy 42 = .ok (.istore_n 2, 1) := by decide +kernel
theorem dX7_toldBy_43 : decode cX7_toldBy 43 = .ok (.iconst 0, 1) := by decide +kernel
theorem dX7_toldBy_44 : decode cX7_toldBy 44 = .ok (.istore_n 3, 1) := by decide +kernel
theorem dX7_toldBy_45 : decode cX7_toldBy 45 = .ok (.iload_n 3, 1) := by decide +kernel
theorem dX7_toldBy_46 : decode cX7_toldBy 46 = .ok (.bipush 54, 2) := by decide +kernel
theorem dX7_toldBy_48 : decode cX7_toldBy 48 = .ok (.if_icmp .ge 77, 3) := by decide +kernel
theorem dX7_toldBy_51 : decode cX7_toldBy 51 = .ok (.iconst 1, 1) := by decide +kernel
theorem dX7_toldBy_52 : decode cX7_toldBy 52 = .ok (.istore 4, 2) := by decide +kernel
theorem dX7_toldBy_54 : decode cX7_toldBy 54 = .ok (.iconst 0, 1) := by decide +kernel
theorem dX7_toldBy_55 : decode cX7_toldBy 55 = .ok (.istore 5, 2) := by decide +kernel
theorem dX7_toldBy_57 : decode cX7_toldBy 57 = .ok (.iload 5, 2) := by decide +kernel
theorem dX7_toldBy_59 : decode cX7_toldBy 59 = .ok (.iload_n 3, 1) := by decide +kernel
theorem dX7_toldBy_60 : decode cX7_toldBy 60 = .ok (.if_icmp .ge 37, 3) := by decide +kernel
theorem dX7_toldBy_63 : decode cX7_toldBy 63 = .ok (.iload 4, 2) := by decide +kernel
theorem dX7_toldBy_65 : decode cX7_toldBy 65 = .ok (.ifCond .eq 23, 3) := by decide +kernel
theorem dX7_toldBy_68 : decode cX7_toldBy 68 = .ok (.aload_n 0, 1) := by decide +kernel
theorem dX7_toldBy_69 : decode cX7_toldBy 69 = .ok (.getfield 42, 3) := by decide +kernel
theorem dX7_toldBy_72 : decode cX7_toldBy 72 = .ok (.iload 5, 2) := by decide +kernel
theorem dX7_toldBy_74 : decode cX7_toldBy 74 = .ok (.iaload, 1) := by decide +kernel
theorem dX7_toldBy_75 : decode cX7_toldBy 75 = .ok (.aload_n 0, 1) := by decide +kernel
theorem dX7_toldBy_76 : decode cX7_toldBy 76 = .ok (.getfield 42, 3) := by decide +kernel
theorem dX7_toldBy_79 : decode cX7_toldBy 79 = .ok (.iload_n 3, 1) := by decide +kernel
theorem dX7_toldBy_80 : decode cX7_toldBy 80 = .ok (.iaload, 1) := by decide +kernel
theorem dX7_toldBy_81 : decode cX7_toldBy 81 = .ok (.if_icmp .eq 7, 3) := by decide +kernel
theorem dX7_toldBy_84 : decode cX7_toldBy 84 = .ok (.iconst 1, 1) := by decide +kernel
theorem dX7_toldBy_85 : decode cX7_toldBy 85 = .ok (.goto 4, 3) := by decide +kernel
theorem dX7_toldBy_88 : decode cX7_toldBy 88 = .ok (.iconst 0, 1) := by decide +kernel
theorem dX7_toldBy_89 : decode cX7_toldBy 89 = .ok (.istore 4, 2) := by decide +kernel
theorem dX7_toldBy_91 : decode cX7_toldBy 91 = .ok (.iinc 5 1, 3) := by decide +kernel
theorem dX7_toldBy_94 : decode cX7_toldBy 94 = .ok (.goto (-37), 3) := by decide +kernel
theorem dX7_toldBy_97 : decode cX7_toldBy 97 = .ok (.iload_n 2, 1) := by decide +kernel
theorem dX7_toldBy_98 : decode cX7_toldBy 98 = .ok (.iload 4, 2) := by decide +kernel
theorem dX7_toldBy_100 : decode cX7_toldBy 100 = .ok (.ifCond .eq 16, 3) := by decide +kernel
theorem dX7_toldBy_103 : decode cX7_toldBy 103 = .ok (.aload_n 0, 1) := by decide +kernel
theorem dX7_toldBy_104 : decode cX7_toldBy 104 = .ok (.aload_n 0, 1) := by decide +kernel
theorem dX7_toldBy_105 : decode cX7_toldBy 105 = .ok (.getfield 42, 3) := by decide +kernel
theorem dX7_toldBy_108 : decode cX7_toldBy 108 = .ok (.iload_n 3, 1) := by decide +kernel
theorem dX7_toldBy_109 : decode cX7_toldBy 109 = .ok (.iaload, 1) := by decide +kernel
theorem dX7_toldBy_110 : decode cX7_toldBy 110 = .ok (.invokevirtual 189, 3) := by decide +kernel
theorem dX7_toldBy_113 : decode cX7_toldBy 113 = .ok (.goto 4, 3) := by decide +kernel
theorem dX7_toldBy_116 : decode cX7_toldBy 116 = .ok (.iconst 0, 1) := by decide +kernel
theorem dX7_toldBy_117 : decode cX7_toldBy 117 = .ok (.iadd, 1) := by decide +kernel
theorem dX7_toldBy_118 : decode cX7_toldBy 118 = .ok (.istore_n 2, 1) := by decide +kernel
theorem dX7_toldBy_119 : decode cX7_toldBy 119 = .ok (.iinc 3 1, 3) := by decide +kernel
theorem dX7_toldBy_122 : decode cX7_toldBy 122 = .ok (.goto (-77), 3) := by decide +kernel
theorem dX7_toldBy_125 : decode cX7_toldBy 125 = .ok (.iload_n 2, 1) := by decide +kernel
theorem dX7_toldBy_126 : decode cX7_toldBy 126 = .ok (.ireturn, 1) := by decide +kernel
theorem dX7_greatestOf_0 : decode cX7_greatestOf 0 = .ok (.iconst 0, 1) := by decide +kernel
theorem dX7_greatestOf_1 : decode cX7_greatestOf 1 = .ok (.istore_n 2, 1) := by decide +kernel
theorem dX7_greatestOf_2 : decode cX7_greatestOf 2 = .ok (.iconst 0, 1) := by decide +kernel
theorem dX7_greatestOf_3 : decode cX7_greatestOf 3 = .ok (.istore_n 3, 1) := by decide +kernel
theorem dX7_greatestOf_4 : decode cX7_greatestOf 4 = .ok (.iload_n 3, 1) := by decide +kernel
theorem dX7_greatestOf_5 : decode cX7_greatestOf 5 = .ok (.bipush 6, 2) := by decide +kernel
theorem dX7_greatestOf_7 : decode cX7_greatestOf 7 = .ok (.if_icmp .ge 81, 3) := by decide +kernel
theorem dX7_greatestOf_10 : decode cX7_greatestOf 10 = .ok (.iconst 0, 1) := by decide +kernel
theorem dX7_greatestOf_11 : decode cX7_greatestOf 11 = .ok (.istore 4, 2) := by decide +kernel
theorem dX7_greatestOf_13 : decode cX7_greatestOf 13 = .ok (.iconst 0, 1) := by decide +kernel
theorem dX7_greatestOf_14 : decode cX7_greatestOf 14 = .ok (.istore 5, 2) := by decide +kernel
theorem dX7_greatestOf_16 : decode cX7_greatestOf 16 = .ok (.iload 5, 2) := by decide +kernel
theorem dX7_greatestOf_18 : decode cX7_greatestOf 18 = .ok (.bipush 9, 2) := by decide +kernel
theorem dX7_greatestOf_20 : decode cX7_greatestOf 20 = .ok (.if_icmp .ge 35, 3) := by decide +kernel
theorem dX7_greatestOf_23 : decode cX7_greatestOf 23 = .ok (.iload 4, 2) := by decide +kernel
theorem dX7_greatestOf_25 : decode cX7_greatestOf 25 = .ok (.aload_n 0, 1) := by decide +kernel
theorem dX7_greatestOf_26 : decode cX7_greatestOf 26 = .ok (.getfield 42, 3) := by decide +kernel
theorem dX7_greatestOf_29 : decode cX7_greatestOf 29 = .ok (.bipush 9, 2) := by decide +kernel
theorem dX7_greatestOf_31 : decode cX7_greatestOf 31 = .ok (.iload_n 3, 1) := by decide +kernel
theorem dX7_greatestOf_32 : decode cX7_greatestOf 32 = .ok (.imul, 1) := by decide +kernel
theorem dX7_greatestOf_33 : decode cX7_greatestOf 33 = .ok (.iload 5, 2) := by decide +kernel
theorem dX7_greatestOf_35 : decode cX7_greatestOf 35 = .ok (.iadd, 1) := by decide +kernel
theorem dX7_greatestOf_36 : decode cX7_greatestOf 36 = .ok (.iaload, 1) := by decide +kernel
theorem dX7_greatestOf_37 : decode cX7_greatestOf 37 = .ok (.iload_n 1, 1) := by decide +kernel
theorem dX7_greatestOf_38 : decode cX7_greatestOf 38 = .ok (.if_icmp .ne 7, 3) := by decide +kernel
theorem dX7_greatestOf_41 : decode cX7_greatestOf 41 = .ok (.iconst 1, 1) := by decide +kernel
theorem dX7_greatestOf_42 : decode cX7_greatestOf 42 = .ok (.goto 4, 3) := by decide +kernel
theorem dX7_greatestOf_45 : decode cX7_greatestOf 45 = .ok (.iconst 0, 1) := by decide +kernel
theorem dX7_greatestOf_46 : decode cX7_greatestOf 46 = .ok (.iadd, 1) := by decide +kernel
theorem dX7_greatestOf_47 : decode cX7_greatestOf 47 = .ok (.istore 4, 2) := by decide +kernel
theorem dX7_greatestOf_49 : decode cX7_greatestOf 49 = .ok (.iinc 5 1, 3) := by decide +kernel
theorem dX7_greatestOf_52 : decode cX7_greatestOf 52 = .ok (.goto (-36), 3) := by decide +kernel
theorem dX7_greatestOf_55 : decode cX7_greatestOf 55 = .ok (.iload 4, 2) := by decide +kernel
theorem dX7_greatestOf_57 : decode cX7_greatestOf 57 = .ok (.aload_n 0, 1) := by decide +kernel
theorem dX7_greatestOf_58 : decode cX7_greatestOf 58 = .ok (.getfield 39, 3) := by decide +kernel
theorem dX7_greatestOf_61 : decode cX7_greatestOf 61 = .ok (.iload_n 3, 1) := by decide +kernel
theorem dX7_greatestOf_62 : decode cX7_greatestOf 62 = .ok (.iaload, 1) := by decide +kernel
theorem dX7_greatestOf_63 : decode cX7_greatestOf 63 = .ok (.imul, 1) := by decide +kernel
theorem dX7_greatestOf_64 : decode cX7_greatestOf 64 = .ok (.iload_n 2, 1) := by decide +kernel
theorem dX7_greatestOf_65 : decode cX7_greatestOf 65 = .ok (.if_icmp .le 15, 3) := by decide +kernel
theorem dX7_greatestOf_68 : decode cX7_greatestOf 68 = .ok (.iload 4, 2) := by decide +kernel
theorem dX7_greatestOf_70 : decode cX7_greatestOf 70 = .ok (.aload_n 0, 1) := by decide +kernel
theorem dX7_greatestOf_71 : decode cX7_greatestOf 71 = .ok (.getfield 39, 3) := by decide +kernel
theorem dX7_greatestOf_74 : decode cX7_greatestOf 74 = .ok (.iload_n 3, 1) := by decide +kernel
theorem dX7_greatestOf_75 : decode cX7_greatestOf 75 = .ok (.iaload, 1) := by decide +kernel
theorem dX7_greatestOf_76 : decode cX7_greatestOf 76 = .ok (.imul, 1) := by decide +kernel
theorem dX7_greatestOf_77 : decode cX7_greatestOf 77 = .ok (.goto 4, 3) := by decide +kernel
theorem dX7_greatestOf_80 : decode cX7_greatestOf 80 = .ok (.iload_n 2, 1) := by decide +kernel
theorem dX7_greatestOf_81 : decode cX7_greatestOf 81 = .ok (.istore_n 2, 1) := by decide +kernel
theorem dX7_greatestOf_82 : decode cX7_greatestOf 82 = .ok (.iinc 3 1, 3) := by decide +kernel
theorem dX7_greatestOf_85 : decode cX7_greatestOf 85 = .ok (.goto (-81), 3) := by decide +kernel
theorem dX7_greatestOf_88 : decode cX7_greatestOf 88 = .ok (.iload_n 2, 1) := by decide +kernel
theorem dX7_greatestOf_89 : decode cX7_greatestOf 89 = .ok (.ireturn, 1) := by decide +kernel
set_option maxRecDepth 20000 in
theorem ggX7_tells_X7_toldBy : GoodIn wsX7_tells wsX7_toldBy := goodIn_r _ [5, 6, 7, 8, 9, 4, 10, 11, 12, 13, 14, 15, 16, 17, 18, 19, 20, 21, 22, 23, 24, 25, 26, 27, 28, 29, 30, 31, 32, 33, 34, 35, 36, 37, 38, 39, 40, 41, 42, 43, 44, 45, 46, 47, 48, 49, 50, 51, 52, 53, 54, 55, 56, 57, 58, 59, 60, 61, 62, 63, 64, 65, 66, 67, 68, 69, 70, 71, 72, 73, 74, 75, 76, 77, 78, 79, 80, 81, 82, 83, 84, 85, 86, 87, 88, 89, 90, 91] (by decide +kernel) (by decide +kernel)
set_option maxRecDepth 20000 in
theorem gX7_tells_X7_toldBy : GoodIn wsX7_tells (wsV RX7 192 RX7 yX7_toldBy wsX7_toldBy) := goodIn_app (goodIn_of _ (by decide +kernel)) ggX7_tells_X7_toldBy
theorem dX7_tells_0 : decode cX7_tells 0 = .ok (.iconst 0, 1) := by decide +kernel
theorem dX7_tells_1 : decode cX7_tells 1 = .ok (.istore_n 1, 1) := by decide +kernel
theorem dX7_tells_2 : decode cX7_tells 2 = .ok (.aload_n 0, 1) := by decide +kernel
theorem dX7_tells_3 : decode cX7_tells 3 = .ok (.iconst 0, 1) := by decide +kernel
theorem dX7_tells_4 : decode cX7_tells 4 = .ok (.invokevirtual 192, 3) := by decide +kernel
theorem dX7_tells_7 : decode cX7_tells 7 = .ok (.istore_n 2, 1) := by decide +kernel
theorem dX7_tells_8 : decode cX7_tells 8 = .ok (.iconst 1, 1) := by decide +kernel
theorem dX7_tells_9 : decode cX7_tells 9 = .ok (.istore_n 3, 1) := by decide +kernel
theorem dX7_tells_10 : decode cX7_tells 10 = .ok (.iload_n 3, 1) := by decide +kernel
theorem dX7_tells_11 : decode cX7_tells 11 = .ok (.iconst 3, 1) := by decide +kernel
theorem dX7_tells_12 : decode cX7_tells 12 = .ok (.if_icmp .ge 41, 3) := by decide +kernel
theorem dX7_tells_15 : decode cX7_tells 15 = .ok (.aload_n 0, 1) := by decide +kernel
theorem dX7_tells_16 : decode cX7_tells 16 = .ok (.iload_n 3, 1) := by decide +kernel
theorem dX7_tells_17 : decode cX7_tells 17 = .ok (.invokevirtual 192, 3) := by decide +kernel
theorem dX7_tells_20 : decode cX7_tells 20 = .ok (.istore 4, 2) := by decide +kernel
theorem dX7_tells_22 : decode cX7_tells 22 = .ok (.iload 4, 2) := by decide +kernel
theorem dX7_tells_24 : decode cX7_tells 24 = .ok (.iload_n 2, 1) := by decide +kernel
theorem dX7_tells_25 : decode cX7_tells 25 = .ok (.if_icmp .le 7, 3) := by decide +kernel
theorem dX7_tells_28 : decode cX7_tells 28 = .ok (.iload_n 3, 1) := by decide +kernel
theorem dX7_tells_29 : decode cX7_tells 29 = .ok (.goto 4, 3) := by decide +kernel
theorem dX7_tells_32 : decode cX7_tells 32 = .ok (.iload_n 1, 1) := by decide +kernel
theorem dX7_tells_33 : decode cX7_tells 33 = .ok (.istore_n 1, 1) := by decide +kernel
theorem dX7_tells_34 : decode cX7_tells 34 = .ok (.iload 4, 2) := by decide +kernel
theorem dX7_tells_36 : decode cX7_tells 36 = .ok (.iload_n 2, 1) := by decide +kernel
theorem dX7_tells_37 : decode cX7_tells 37 = .ok (.if_icmp .le 8, 3) := by decide +kernel
theorem dX7_tells_40 : decode cX7_tells 40 = .ok (.iload 4, 2) := by decide +kernel
theorem dX7_tells_42 : decode cX7_tells 42 = .ok (.goto 4, 3) := by decide +kernel
theorem dX7_tells_45 : decode cX7_tells 45 = .ok (.iload_n 2, 1) := by decide +kernel
theorem dX7_tells_46 : decode cX7_tells 46 = .ok (.istore_n 2, 1) := by decide +kernel
theorem dX7_tells_47 : decode cX7_tells 47 = .ok (.iinc 3 1, 3) := by decide +kernel
theorem dX7_tells_50 : decode cX7_tells 50 = .ok (.goto (-40), 3) := by decide +kernel
theorem dX7_tells_53 : decode cX7_tells 53 = .ok (.iload_n 1, 1) := by decide +kernel
theorem dX7_tells_54 : decode cX7_tells 54 = .ok (.ireturn, 1) := by decide +kernel
set_option maxRecDepth 20000 in
theorem ggX7_where_X7_in : GoodIn wsX7_where wsX7_in := goodIn_r _ [5] (by decide +kernel) (by decide +kernel)
set_option maxRecDepth 20000 in
theorem gX7_where_X7_in : GoodIn wsX7_where (va_wsS RX7 74 yX7_in wsX7_in) := goodIn_app (goodIn_of _ (by decide +kernel)) ggX7_where_X7_in
set_option maxRecDepth 20000 in
theorem ggX7_where_X7_takeTold : GoodIn wsX7_where wsX7_takeTold := goodIn_r _ [9, 1, 10, 48, 49, 50, 51, 52, 53, 54, 55, 56, 57, 58, 59, 60, 61, 62, 63, 64, 65, 66, 67, 68, 69, 70, 71, 72, 73, 74, 75, 76, 77] (by decide +kernel) (by decide +kernel)
set_option maxRecDepth 20000 in
theorem gX7_where_X7_takeTold : GoodIn wsX7_where (wsV RX7 124 RX7 yX7_takeTold wsX7_takeTold) := goodIn_app (goodIn_of _ (by decide +kernel)) ggX7_where_X7_takeTold
set_option maxRecDepth 20000 in
theorem ggX7_where_X7_signBy : GoodIn wsX7_where wsX7_signBy := goodIn_r _ [14, 1, 15, 16, 17, 18, 4, 19, 20, 21, 22, 23, 24, 25, 26, 27, 28, 29, 30, 31, 32, 33, 34, 35, 36, 37, 38, 39, 40, 41, 42, 43, 44, 45, 46, 47, 48, 49, 50, 51, 52, 53, 54, 55, 56, 57, 58, 59, 60, 61, 62, 63, 64, 65, 66, 67, 68, 69, 70, 71, 72, 73, 74, 75, 76, 77] (by decide +kernel) (by decide +kernel)
set_option maxRecDepth 20000 in
theorem gX7_where_X7_signBy : GoodIn wsX7_where (wsV RX7 175 RX7 yX7_signBy wsX7_signBy) := goodIn_app (goodIn_of _ (by decide +kernel)) ggX7_where_X7_signBy
theorem dX7_where_0 : decode cX7_where 0 = .ok (.iload_n 1, 1) := by decide +kernel
theorem dX7_where_1 : decode cX7_where 1 = .ok (.iconst 0, 1) := by decide +kernel
theorem dX7_where_2 : decode cX7_where 2 = .ok (.sipush 200, 3) := by decide +kernel
theorem dX7_where_5 : decode cX7_where 5 = .ok (.invokestatic 74, 3) := by decide +kernel
theorem dX7_where_8 : decode cX7_where 8 = .ok (.ifCond .eq 12, 3) := by decide +kernel
theorem dX7_where_11 : decode cX7_where 11 = .ok (.iload_n 2, 1) := by decide +kernel
theorem dX7_where_12 : decode cX7_where 12 = .ok (.iconst 0, 1) := by decide +kernel
theorem dX7_where_13 : decode cX7_where 13 = .ok (.iconst 1, 1) := by decide +kernel
theorem dX7_where_14 : decode cX7_where 14 = .ok (.invokestatic 74, 3) := by decide +kernel
theorem dX7_where_17 : decode cX7_where 17 = .ok (.ifCond .ne 5, 3) := by decide +kernel
theorem dX7_where_20 : decode cX7_where 20 = .ok (.iconst (-1), 1) := by decide +kernel
theorem dX7_where_21 : decode cX7_where 21 = .ok (.ireturn, 1) := by decide +kernel
theorem dX7_where_22 : decode cX7_where 22 = .ok (.bipush (-9), 2) := by decide +kernel
theorem dX7_where_24 : decode cX7_where 24 = .ok (.istore_n 3, 1) := by decide +kernel
theorem dX7_where_25 : decode cX7_where 25 = .ok (.iconst 1, 1) := by decide +kernel
theorem dX7_where_26 : decode cX7_where 26 = .ok (.istore 4, 2) := by decide +kernel
theorem dX7_where_28 : decode cX7_where 28 = .ok (.iload 4, 2) := by decide +kernel
theorem dX7_where_30 : decode cX7_where 30 = .ok (.bipush 99, 2) := by decide +kernel
theorem dX7_where_32 : decode cX7_where 32 = .ok (.if_icmp .gt 62, 3) := by decide +kernel
theorem dX7_where_35 : decode cX7_where 35 = .ok (.aload_n 0, 1) := by decide +kernel
theorem dX7_where_36 : decode cX7_where 36 = .ok (.invokevirtual 124, 3) := by decide +kernel
theorem dX7_where_39 : decode cX7_where 39 = .ok (.aload_n 0, 1) := by decide +kernel
theorem dX7_where_40 : decode cX7_where 40 = .ok (.getfield 17, 3) := by decide +kernel
theorem dX7_where_43 : decode cX7_where 43 = .ok (.bipush 6, 2) := by decide +kernel
theorem dX7_where_45 : decode cX7_where 45 = .ok (.iload 4, 2) := by decide +kernel
theorem dX7_where_47 : decode cX7_where 47 = .ok (.iastore, 1) := by decide +kernel
theorem dX7_where_48 : decode cX7_where 48 = .ok (.aload_n 0, 1) := by decide +kernel
theorem dX7_where_49 : decode cX7_where 49 = .ok (.iconst 0, 1) := by decide +kernel
theorem dX7_where_50 : decode cX7_where 50 = .ok (.iconst 0, 1) := by decide +kernel
theorem dX7_where_51 : decode cX7_where 51 = .ok (.invokevirtual 175, 3) := by decide +kernel
theorem dX7_where_54 : decode cX7_where 54 = .ok (.iload_n 1, 1) := by decide +kernel
theorem dX7_where_55 : decode cX7_where 55 = .ok (.if_icmp .ne 7, 3) := by decide +kernel
theorem dX7_where_58 : decode cX7_where 58 = .ok (.iconst 1, 1) := by decide +kernel
theorem dX7_where_59 : decode cX7_where 59 = .ok (.goto 4, 3) := by decide +kernel
theorem dX7_where_62 : decode cX7_where 62 = .ok (.iconst 0, 1) := by decide +kernel
theorem dX7_where_63 : decode cX7_where 63 = .ok (.istore 5, 2) := by decide +kernel
theorem dX7_where_65 : decode cX7_where 65 = .ok (.iload 5, 2) := by decide +kernel
theorem dX7_where_67 : decode cX7_where 67 = .ok (.ifCond .eq 19, 3) := by decide +kernel
theorem dX7_where_70 : decode cX7_where 70 = .ok (.iload_n 2, 1) := by decide +kernel
theorem dX7_where_71 : decode cX7_where 71 = .ok (.iconst 1, 1) := by decide +kernel
theorem dX7_where_72 : decode cX7_where 72 = .ok (.if_icmp .eq 9, 3) := by decide +kernel
theorem dX7_where_75 : decode cX7_where 75 = .ok (.iload_n 3, 1) := by decide +kernel
theorem dX7_where_76 : decode cX7_where 76 = .ok (.bipush (-9), 2) := by decide +kernel
theorem dX7_where_78 : decode cX7_where 78 = .ok (.if_icmp .ne 8, 3) := by decide +kernel
theorem dX7_where_81 : decode cX7_where 81 = .ok (.iload 4, 2) := by decide +kernel
theorem dX7_where_83 : decode cX7_where 83 = .ok (.goto 4, 3) := by decide +kernel
theorem dX7_where_86 : decode cX7_where 86 = .ok (.iload_n 3, 1) := by decide +kernel
theorem dX7_where_87 : decode cX7_where 87 = .ok (.istore_n 3, 1) := by decide +kernel
theorem dX7_where_88 : decode cX7_where 88 = .ok (.iinc 4 1, 3) := by decide +kernel
theorem dX7_where_91 : decode cX7_where 91 = .ok (.goto (-63), 3) := by decide +kernel
theorem dX7_where_94 : decode cX7_where 94 = .ok (.iload_n 3, 1) := by decide +kernel
theorem dX7_where_95 : decode cX7_where 95 = .ok (.ireturn, 1) := by decide +kernel
set_option maxRecDepth 20000 in
theorem ggX7_goDay_X7_takeTold : GoodIn wsX7_goDay wsX7_takeTold := goodIn_r _ [7, 8, 9, 39, 40, 41, 42, 43, 44, 45, 46, 47, 48, 49, 50, 51, 52, 53, 54, 55, 56, 57, 58, 59, 60, 61, 62, 63, 64, 65, 66, 67, 68] (by decide +kernel) (by decide +kernel)
set_option maxRecDepth 20000 in
theorem gX7_goDay_X7_takeTold : GoodIn wsX7_goDay (wsV RX7 124 RX7 yX7_takeTold wsX7_takeTold) := goodIn_app (goodIn_of _ (by decide +kernel)) ggX7_goDay_X7_takeTold
set_option maxRecDepth 20000 in
theorem ggX7_goDay_X7_begin : GoodIn wsX7_goDay wsX7_begin := goodIn_r _ [13, 14, 39, 40, 41, 42, 43, 44, 45, 46, 47, 48, 49, 50, 51, 52, 53, 54, 55, 56, 57, 58, 59, 60, 61, 62, 63, 64, 65, 66, 67, 68] (by decide +kernel) (by decide +kernel)
set_option maxRecDepth 20000 in
theorem gX7_goDay_X7_begin : GoodIn wsX7_goDay (wsV RX7 154 RX7 yX7_begin wsX7_begin) := goodIn_app (goodIn_of _ (by decide +kernel)) ggX7_goDay_X7_begin
set_option maxRecDepth 20000 in
theorem ggX7_goDay_X7_stroke : GoodIn wsX7_goDay wsX7_stroke := goodIn_r _ [18, 14, 19, 20, 21, 6, 22, 8, 23, 24, 25, 26, 27, 28, 29, 30, 31, 32, 33, 34, 39, 40, 41, 42, 43, 44, 45, 46, 47, 48, 49, 50, 51, 52, 53, 54, 55, 56, 57, 58, 59, 60, 61, 62, 63, 64, 65, 66, 67, 68] (by decide +kernel) (by decide +kernel)
set_option maxRecDepth 20000 in
theorem gX7_goDay_X7_stroke : GoodIn wsX7_goDay (wsV RX7 139 RX7 yX7_stroke wsX7_stroke) := goodIn_app (goodIn_of _ (by decide +kernel)) ggX7_goDay_X7_stroke
set_option maxRecDepth 20000 in
theorem ggX7_goDay_X7_goHour : GoodIn wsX7_goDay wsX7_goHour := goodIn_r _ [38, 14, 8, 27, 28, 29, 6, 30, 23, 24, 25, 26, 39, 40, 41, 42, 43, 44, 45, 46, 47, 48, 49, 50, 51, 52, 53, 54, 55, 56, 57, 58, 59, 60, 61, 62, 63, 64, 65, 66, 67, 68] (by decide +kernel) (by decide +kernel)
set_option maxRecDepth 20000 in
theorem gX7_goDay_X7_goHour : GoodIn wsX7_goDay (wsV RX7 151 RX7 yX7_goHour wsX7_goHour) := goodIn_app (goodIn_of _ (by decide +kernel)) ggX7_goDay_X7_goHour
theorem dX7_goDay_0 : decode cX7_goDay 0 = .ok (.aload_n 0, 1) := by decide +kernel
theorem dX7_goDay_1 : decode cX7_goDay 1 = .ok (.invokevirtual 124, 3) := by decide +kernel
theorem dX7_goDay_4 : decode cX7_goDay 4 = .ok (.aload_n 0, 1) := by decide +kernel
theorem dX7_goDay_5 : decode cX7_goDay 5 = .ok (.iconst 0, 1) := by decide +kernel
theorem dX7_goDay_6 : decode cX7_goDay 6 = .ok (.bipush 100, 2) := by decide +kernel
theorem dX7_goDay_8 : decode cX7_goDay 8 = .ok (.invokevirtual 154, 3) := by decide +kernel
theorem dX7_goDay_11 : decode cX7_goDay 11 = .ok (.aload_n 0, 1) := by decide +kernel
theorem dX7_goDay_12 : decode cX7_goDay 12 = .ok (.iconst 0, 1) := by decide +kernel
theorem dX7_goDay_13 : decode cX7_goDay 13 = .ok (.putfield 195, 3) := by decide +kernel
theorem dX7_goDay_16 : decode cX7_goDay 16 = .ok (.aload_n 0, 1) := by decide +kernel
theorem dX7_goDay_17 : decode cX7_goDay 17 = .ok (.iconst 0, 1) := by decide +kernel
theorem dX7_goDay_18 : decode cX7_goDay 18 = .ok (.putfield 198, 3) := by decide +kernel
theorem dX7_goDay_21 : decode cX7_goDay 21 = .ok (.iconst 0, 1) := by decide +kernel
theorem dX7_goDay_22 : decode cX7_goDay 22 = .ok (.istore 4, 2) := by decide +kernel
theorem dX7_goDay_24 : decode cX7_goDay 24 = .ok (.iload 4, 2) := by decide +kernel
theorem dX7_goDay_26 : decode cX7_goDay 26 = .ok (.iload_n 3, 1) := by decide +kernel
theorem dX7_goDay_27 : decode cX7_goDay 27 = .ok (.if_icmp .ge 69, 3) := by decide +kernel
theorem dX7_goDay_30 : decode cX7_goDay 30 = .ok (.iconst 0, 1) := by decide +kernel
theorem dX7_goDay_31 : decode cX7_goDay 31 = .ok (.istore 5, 2) := by decide +kernel
theorem dX7_goDay_33 : decode cX7_goDay 33 = .ok (.iload 5, 2) := by decide +kernel
theorem dX7_goDay_35 : decode cX7_goDay 35 = .ok (.iload_n 1, 1) := by decide +kernel
theorem dX7_goDay_36 : decode cX7_goDay 36 = .ok (.if_icmp .ge 22, 3) := by decide +kernel
theorem dX7_goDay_39 : decode cX7_goDay 39 = .ok (.aload_n 0, 1) := by decide +kernel
theorem dX7_goDay_40 : decode cX7_goDay 40 = .ok (.dup, 1) := by decide +kernel
theorem dX7_goDay_41 : decode cX7_goDay 41 = .ok (.getfield 195, 3) := by decide +kernel
theorem dX7_goDay_44 : decode cX7_goDay 44 = .ok (.aload_n 0, 1) := by decide +kernel
theorem dX7_goDay_45 : decode cX7_goDay 45 = .ok (.invokevirtual 139, 3) := by decide +kernel
theorem dX7_goDay_48 : decode cX7_goDay 48 = .ok (.iadd, 1) := by decide +kernel
theorem dX7_goDay_49 : decode cX7_goDay 49 = .ok (.putfield 195, 3) := by decide +kernel
theorem dX7_goDay_52 : decode cX7_goDay 52 = .ok (.iinc 5 1, 3) := by decide +kernel
theorem dX7_goDay_55 : decode cX7_goDay 55 = .ok (.goto (-22), 3) := by decide +kernel
theorem dX7_goDay_58 : decode cX7_goDay 58 = .ok (.iconst 0, 1) := by decide +kernel
theorem dX7_goDay_59 : decode cX7_goDay 59 = .ok (.istore 5, 2) := by decide +kernel
theorem dX7_goDay_61 : decode cX7_goDay 61 = .ok (.iload 5, 2) := by decide +kernel
theorem dX7_goDay_63 : decode cX7_goDay 63 = .ok (.iload_n 2, 1) := by decide +kernel
theorem dX7_goDay_64 : decode cX7_goDay 64 = .ok (.if_icmp .ge 22, 3) := by decide +kernel
theorem dX7_goDay_67 : decode cX7_goDay 67 = .ok (.aload_n 0, 1) := by decide +kernel
theorem dX7_goDay_68 : decode cX7_goDay 68 = .ok (.dup, 1) := by decide +kernel
theorem dX7_goDay_69 : decode cX7_goDay 69 = .ok (.getfield 198, 3) := by decide +kernel
theorem dX7_goDay_72 : decode cX7_goDay 72 = .ok (.aload_n 0, 1) := by decide +kernel
theorem dX7_goDay_73 : decode cX7_goDay 73 = .ok (.invokevirtual 139, 3) := by decide +kernel
theorem dX7_goDay_76 : decode cX7_goDay 76 = .ok (.iadd, 1) := by decide +kernel
theorem dX7_goDay_77 : decode cX7_goDay 77 = .ok (.putfield 198, 3) := by decide +kernel
theorem dX7_goDay_80 : decode cX7_goDay 80 = .ok (.iinc 5 1, 3) := by decide +kernel
theorem dX7_goDay_83 : decode cX7_goDay 83 = .ok (.goto (-22), 3) := by decide +kernel
theorem dX7_goDay_86 : decode cX7_goDay 86 = .ok (.aload_n 0, 1) := by decide +kernel
theorem dX7_goDay_87 : decode cX7_goDay 87 = .ok (.invokevirtual 151, 3) := by decide +kernel
theorem dX7_goDay_90 : decode cX7_goDay 90 = .ok (.iinc 4 1, 3) := by decide +kernel
theorem dX7_goDay_93 : decode cX7_goDay 93 = .ok (.goto (-69), 3) := by decide +kernel
theorem dX7_goDay_96 : decode cX7_goDay 96 = .ok (.return_, 1) := by decide +kernel
set_option maxRecDepth 20000 in
theorem ggX7_day_X7_in : GoodIn wsX7_day wsX7_in := goodIn_r _ [5] (by decide +kernel) (by decide +kernel)
set_option maxRecDepth 20000 in
theorem gX7_day_X7_in : GoodIn wsX7_day (va_wsS RX7 74 yX7_in wsX7_in) := goodIn_app (goodIn_of _ (by decide +kernel)) ggX7_day_X7_in
set_option maxRecDepth 20000 in
theorem ggX7_day_X7_goDay : GoodIn wsX7_day wsX7_goDay := goodIn_r _ [9, 1, 10, 11, 12, 13, 4, 14, 15, 16, 17, 18, 19, 20, 21, 22, 23, 24, 25, 26, 27, 28, 29, 30, 31, 32, 33, 34, 35, 36, 37, 38, 39, 40, 41, 42, 43, 44, 45, 46, 47, 48, 49, 50, 51, 52, 53, 54, 55, 56, 57, 58, 59, 60, 61, 62, 63, 64, 65, 66, 67, 68, 69, 70, 71, 72, 73, 74, 75] (by decide +kernel) (by decide +kernel)
set_option maxRecDepth 20000 in
theorem gX7_day_X7_goDay : GoodIn wsX7_day (wsV RX7 201 RX7 yX7_goDay wsX7_goDay) := goodIn_app (goodIn_of _ (by decide +kernel)) ggX7_day_X7_goDay
theorem dX7_day_0 : decode cX7_day 0 = .ok (.iload_n 1, 1) := by decide +kernel
theorem dX7_day_1 : decode cX7_day 1 = .ok (.iconst 1, 1) := by decide +kernel
theorem dX7_day_2 : decode cX7_day 2 = .ok (.sipush 200, 3) := by decide +kernel
theorem dX7_day_5 : decode cX7_day 5 = .ok (.invokestatic 74, 3) := by decide +kernel
theorem dX7_day_8 : decode cX7_day 8 = .ok (.ifCond .eq 13, 3) := by decide +kernel
theorem dX7_day_11 : decode cX7_day 11 = .ok (.iload_n 2, 1) := by decide +kernel
theorem dX7_day_12 : decode cX7_day 12 = .ok (.iconst 1, 1) := by decide +kernel
theorem dX7_day_13 : decode cX7_day 13 = .ok (.bipush 24, 2) := by decide +kernel
theorem dX7_day_15 : decode cX7_day 15 = .ok (.invokestatic 74, 3) := by decide +kernel
theorem dX7_day_18 : decode cX7_day 18 = .ok (.ifCond .ne 5, 3) := by decide +kernel
theorem dX7_day_21 : decode cX7_day 21 = .ok (.iconst (-1), 1) := by decide +kernel
theorem dX7_day_22 : decode cX7_day 22 = .ok (.ireturn, 1) := by decide +kernel
theorem dX7_day_23 : decode cX7_day 23 = .ok (.aload_n 0, 1) := by decide +kernel
theorem dX7_day_24 : decode cX7_day 24 = .ok (.iload_n 1, 1) := by decide +kernel
theorem dX7_day_25 : decode cX7_day 25 = .ok (.iconst 0, 1) := by decide +kernel
theorem dX7_day_26 : decode cX7_day 26 = .ok (.iload_n 2, 1) := by decide +kernel
theorem dX7_day_27 : decode cX7_day 27 = .ok (.invokevirtual 201, 3) := by decide +kernel
theorem dX7_day_30 : decode cX7_day 30 = .ok (.aload_n 0, 1) := by decide +kernel
theorem dX7_day_31 : decode cX7_day 31 = .ok (.getfield 195, 3) := by decide +kernel
theorem dX7_day_34 : decode cX7_day 34 = .ok (.ireturn, 1) := by decide +kernel
set_option maxRecDepth 20000 in
theorem ggX7_pace_X7_in : GoodIn wsX7_pace wsX7_in := goodIn_r _ [5] (by decide +kernel) (by decide +kernel)
set_option maxRecDepth 20000 in
theorem gX7_pace_X7_in : GoodIn wsX7_pace (va_wsS RX7 74 yX7_in wsX7_in) := goodIn_app (goodIn_of _ (by decide +kernel)) ggX7_pace_X7_in
set_option maxRecDepth 20000 in
theorem ggX7_pace_X7_goDay : GoodIn wsX7_pace wsX7_goDay := goodIn_r _ [9, 1, 10, 11, 12, 13, 4, 14, 15, 16, 17, 18, 19, 20, 21, 22, 23, 24, 25, 26, 27, 28, 29, 30, 31, 32, 33, 34, 35, 36, 37, 38, 39, 40, 41, 42, 43, 44, 45, 46, 47, 48, 49, 50, 51, 52, 53, 54, 55, 56, 57, 58, 59, 60, 61, 62, 63, 64, 65, 66, 67, 68, 69, 70, 71, 72, 73, 74, 75] (by decide +kernel) (by decide +kernel)
set_option maxRecDepth 20000 in
theorem gX7_pace_X7_goDay : GoodIn wsX7_pace (wsV RX7 201 RX7 yX7_goDay wsX7_goDay) := goodIn_app (goodIn_of _ (by decide +kernel)) ggX7_pace_X7_goDay
theorem dX7_pace_0 : decode cX7_pace 0 = .ok (.iload_n 1, 1) := by decide +kernel
theorem dX7_pace_1 : decode cX7_pace 1 = .ok (.iconst 1, 1) := by decide +kernel
theorem dX7_pace_2 : decode cX7_pace 2 = .ok (.bipush 24, 2) := by decide +kernel
theorem dX7_pace_4 : decode cX7_pace 4 = .ok (.invokestatic 74, 3) := by decide +kernel
theorem dX7_pace_7 : decode cX7_pace 7 = .ok (.ifCond .ne 5, 3) := by decide +kernel
theorem dX7_pace_10 : decode cX7_pace 10 = .ok (.iconst (-1), 1) := by decide +kernel
theorem dX7_pace_11 : decode cX7_pace 11 = .ok (.ireturn, 1) := by decide +kernel
theorem dX7_pace_12 : decode cX7_pace 12 = .ok (.iconst 1, 1) := by decide +kernel
theorem dX7_pace_13 : decode cX7_pace 13 = .ok (.istore_n 2, 1) := by decide +kernel
theorem dX7_pace_14 : decode cX7_pace 14 = .ok (.iconst (-1), 1) := by decide +kernel
theorem dX7_pace_15 : decode cX7_pace 15 = .ok (.istore_n 3, 1) := by decide +kernel
theorem dX7_pace_16 : decode cX7_pace 16 = .ok (.iconst 1, 1) := by decide +kernel
theorem dX7_pace_17 : decode cX7_pace 17 = .ok (.istore 4, 2) := by decide +kernel
theorem dX7_pace_19 : decode cX7_pace 19 = .ok (.iload 4, 2) := by decide +kernel
theorem dX7_pace_21 : decode cX7_pace 21 = .ok (.sipush 200, 3) := by decide +kernel
theorem dX7_pace_24 : decode cX7_pace 24 = .ok (.if_icmp .gt 49, 3) := by decide +kernel
theorem dX7_pace_27 : decode cX7_pace 27 = .ok (.aload_n 0, 1) := by decide +kernel
theorem dX7_pace_28 : decode cX7_pace 28 = .ok (.iload 4, 2) := by decide +kernel
theorem dX7_pace_30 : decode cX7_pace 30 = .ok (.iconst 0, 1) := by decide +kernel
theorem dX7_pace_31 : decode cX7_pace 31 = .ok (.iload_n 1, 1) := by decide +kernel
theorem dX7_pace_32 : decode cX7_pace 32 = .ok (.invokevirtual 201, 3) := by decide +kernel
theorem dX7_pace_35 : decode cX7_pace 35 = .ok (.aload_n 0, 1) := by decide +kernel
theorem dX7_pace_36 : decode cX7_pace 36 = .ok (.getfield 195, 3) := by decide +kernel
theorem dX7_pace_39 : decode cX7_pace 39 = .ok (.iload_n 3, 1) := by decide +kernel
theorem dX7_pace_40 : decode cX7_pace 40 = .ok (.if_icmp .le 8, 3) := by decide +kernel
theorem dX7_pace_43 : decode cX7_pace 43 = .ok (.iload 4, 2) := by decide +kernel
theorem dX7_pace_45 : decode cX7_pace 45 = .ok (.goto 4, 3) := by decide +kernel
theorem dX7_pace_48 : decode cX7_pace 48 = .ok (.iload_n 2, 1) := by decide +kernel
theorem dX7_pace_49 : decode cX7_pace 49 = .ok (.istore_n 2, 1) := by decide +kernel
theorem dX7_pace_50 : decode cX7_pace 50 = .ok (.aload_n 0, 1) := by decide +kernel
theorem dX7_pace_51 : decode cX7_pace 51 = .ok (.getfield 195, 3) := by decide +kernel
theorem dX7_pace_54 : decode cX7_pace 54 = .ok (.iload_n 3, 1) := by decide +kernel
theorem dX7_pace_55 : decode cX7_pace 55 = .ok (.if_icmp .le 10, 3) := by decide +kernel
theorem dX7_pace_58 : decode cX7_pace 58 = .ok (.aload_n 0, 1) := by decide +kernel
theorem dX7_pace_59 : decode cX7_pace 59 = .ok (.getfield 195, 3) := by decide +kernel
theorem dX7_pace_62 : decode cX7_pace 62 = .ok (.goto 4, 3) := by decide +kernel
theorem dX7_pace_65 : decode cX7_pace 65 = .ok (.iload_n 3, 1) := by decide +kernel
theorem dX7_pace_66 : decode cX7_pace 66 = .ok (.istore_n 3, 1) := by decide +kernel
theorem dX7_pace_67 : decode cX7_pace 67 = .ok (.iinc 4 1, 3) := by decide +kernel
theorem dX7_pace_70 : decode cX7_pace 70 = .ok (.goto (-51), 3) := by decide +kernel
theorem dX7_pace_73 : decode cX7_pace 73 = .ok (.iload_n 2, 1) := by decide +kernel
theorem dX7_pace_74 : decode cX7_pace 74 = .ok (.ireturn, 1) := by decide +kernel
set_option maxRecDepth 20000 in
theorem ggX7_two_X7_in : GoodIn wsX7_two wsX7_in := goodIn_r _ [6] (by decide +kernel) (by decide +kernel)
set_option maxRecDepth 20000 in
theorem gX7_two_X7_in : GoodIn wsX7_two (va_wsS RX7 74 yX7_in wsX7_in) := goodIn_app (goodIn_of _ (by decide +kernel)) ggX7_two_X7_in
set_option maxRecDepth 20000 in
theorem ggX7_two_X7_goDay : GoodIn wsX7_two wsX7_goDay := goodIn_r _ [10, 1, 2, 11, 12, 13, 5, 14, 15, 16, 17, 18, 19, 20, 21, 22, 23, 24, 25, 26, 27, 28, 29, 30, 31, 32, 33, 34, 35, 36, 37, 38, 39, 40, 41, 42, 43, 44, 45, 46, 47, 48, 49, 50, 51, 52, 53, 54, 55, 56, 57, 58, 59, 60, 61, 62, 63, 64, 65, 66, 67, 68, 69, 70, 71, 72, 73, 74, 75] (by decide +kernel) (by decide +kernel)
set_option maxRecDepth 20000 in
theorem gX7_two_X7_goDay : GoodIn wsX7_two (wsV RX7 201 RX7 yX7_goDay wsX7_goDay) := goodIn_app (goodIn_of _ (by decide +kernel)) ggX7_two_X7_goDay
theorem dX7_two_0 : decode cX7_two 0 = .ok (.iload_n 1, 1) := by decide +kernel
theorem dX7_two_1 : decode cX7_two 1 = .ok (.iconst 0, 1) := by decide +kernel
theorem dX7_two_2 : decode cX7_two 2 = .ok (.bipush 9, 2) := by decide +kernel
theorem dX7_two_4 : decode cX7_two 4 = .ok (.invokestatic 74, 3) := by decide +kernel
theorem dX7_two_7 : decode cX7_two 7 = .ok (.ifCond .eq 33, 3) := by decide +kernel
theorem dX7_two_10 : decode cX7_two 10 = .ok (.iload_n 2, 1) := by decide +kernel
theorem dX7_two_11 : decode cX7_two 11 = .ok (.iconst 0, 1) := by decide +kernel
theorem dX7_two_12 : decode cX7_two 12 = .ok (.bipush 9, 2) := by decide +kernel
theorem dX7_two_14 : decode cX7_two 14 = .ok (.invokestatic 74, 3) := by decide +kernel
theorem dX7_two_17 : decode cX7_two 17 = .ok (.ifCond .eq 23, 3) := by decide +kernel
theorem dX7_two_20 : decode cX7_two 20 = .ok (.iload_n 3, 1) := by decide +kernel
theorem dX7_two_21 : decode cX7_two 21 = .ok (.iconst 1, 1) := by decide +kernel
theorem dX7_two_22 : decode cX7_two 22 = .ok (.bipush 24, 2) := by decide +kernel
theorem dX7_two_24 : decode cX7_two 24 = .ok (.invokestatic 74, 3) := by decide +kernel
theorem dX7_two_27 : decode cX7_two 27 = .ok (.ifCond .eq 13, 3) := by decide +kernel
theorem dX7_two_30 : decode cX7_two 30 = .ok (.iload 4, 2) := by decide +kernel
theorem dX7_two_32 : decode cX7_two 32 = .ok (.iconst 0, 1) := by decide +kernel
theorem dX7_two_33 : decode cX7_two 33 = .ok (.iconst 1, 1) := by decide +kernel
theorem dX7_two_34 : decode cX7_two 34 = .ok (.invokestatic 74, 3) := by decide +kernel
theorem dX7_two_37 : decode cX7_two 37 = .ok (.ifCond .ne 5, 3) := by decide +kernel
theorem dX7_two_40 : decode cX7_two 40 = .ok (.iconst (-1), 1) := by decide +kernel
theorem dX7_two_41 : decode cX7_two 41 = .ok (.ireturn, 1) := by decide +kernel
theorem dX7_two_42 : decode cX7_two 42 = .ok (.aload_n 0, 1) := by decide +kernel
theorem dX7_two_43 : decode cX7_two 43 = .ok (.bipush 10, 2) := by decide +kernel
theorem dX7_two_45 : decode cX7_two 45 = .ok (.iload_n 1, 1) := by decide +kernel
theorem dX7_two_46 : decode cX7_two 46 = .ok (.imul, 1) := by decide +kernel
theorem dX7_two_47 : decode cX7_two 47 = .ok (.bipush 10, 2) := by decide +kernel
theorem dX7_two_49 : decode cX7_two 49 = .ok (.iload_n 2, 1) := by decide +kernel
theorem dX7_two_50 : decode cX7_two 50 = .ok (.imul, 1) := by decide +kernel
theorem dX7_two_51 : decode cX7_two 51 = .ok (.iload_n 3, 1) := by decide +kernel
theorem dX7_two_52 : decode cX7_two 52 = .ok (.invokevirtual 201, 3) := by decide +kernel
theorem dX7_two_55 : decode cX7_two 55 = .ok (.iload 4, 2) := by decide +kernel
theorem dX7_two_57 : decode cX7_two 57 = .ok (.ifCond .ne 10, 3) := by decide +kernel
theorem dX7_two_60 : decode cX7_two 60 = .ok (.aload_n 0, 1) := by decide +kernel
theorem dX7_two_61 : decode cX7_two 61 = .ok (.getfield 195, 3) := by decide +kernel
theorem dX7_two_64 : decode cX7_two 64 = .ok (.goto 7, 3) := by decide +kernel
theorem dX7_two_67 : decode cX7_two 67 = .ok (.aload_n 0, 1) := by decide +kernel
theorem dX7_two_68 : decode cX7_two 68 = .ok (.getfield 198, 3) := by decide +kernel
theorem dX7_two_71 : decode cX7_two 71 = .ok (.ireturn, 1) := by decide +kernel
theorem dX7_isRest_0 : decode cX7_isRest 0 = .ok (.iconst 1, 1) := by decide +kernel
theorem dX7_isRest_1 : decode cX7_isRest 1 = .ok (.istore_n 3, 1) := by decide +kernel
theorem dX7_isRest_2 : decode cX7_isRest 2 = .ok (.iconst 0, 1) := by decide +kernel
theorem dX7_isRest_3 : decode cX7_isRest 3 = .ok (.istore 4, 2) := by decide +kernel
theorem dX7_isRest_5 : decode cX7_isRest 5 = .ok (.iload 4, 2) := by decide +kernel
theorem dX7_isRest_7 : decode cX7_isRest 7 = .ok (.bipush 10, 2) := by decide +kernel
theorem dX7_isRest_9 : decode cX7_isRest 9 = .ok (.if_icmp .ge 71, 3) := by decide +kernel
theorem dX7_isRest_12 : decode cX7_isRest 12 = .ok (.iload_n 3, 1) := by decide +kernel
theorem dX7_isRest_13 : decode cX7_isRest 13 = .ok (.ifCond .eq 59, 3) := by decide +kernel
theorem dX7_isRest_16 : decode cX7_isRest 16 = .ok (.aload_n 0, 1) := by decide +kernel
theorem dX7_isRest_17 : decode cX7_isRest 17 = .ok (.getfield 45, 3) := by decide +kernel
theorem dX7_isRest_20 : decode cX7_isRest 20 = .ok (.bipush 10, 2) := by decide +kernel
theorem dX7_isRest_22 : decode cX7_isRest 22 = .ok (.iload 4, 2) := by decide +kernel
theorem dX7_isRest_24 : decode cX7_isRest 24 = .ok (.imul, 1) := by decide +kernel
theorem dX7_isRest_25 : decode cX7_isRest 25 = .ok (.iload_n 2, 1) := by decide +kernel
theorem dX7_isRest_26 : decode cX7_isRest 26 = .ok (.iadd, 1) := by decide +kernel
theorem dX7_isRest_27 : decode cX7_isRest 27 = .ok (.iaload, 1) := by decide +kernel
theorem dX7_isRest_28 : decode cX7_isRest 28 = .ok (.aload_n 0, 1) := by decide +kernel
theorem dX7_isRest_29 : decode cX7_isRest 29 = .ok (.getfield 45, 3) := by decide +kernel
theorem dX7_isRest_32 : decode cX7_isRest 32 = .ok (.bipush 10, 2) := by decide +kernel
theorem dX7_isRest_34 : decode cX7_isRest 34 = .ok (.iload_n 1, 1) := by decide +kernel
theorem dX7_isRest_35 : decode cX7_isRest 35 = .ok (.imul, 1) := by decide +kernel
theorem dX7_isRest_36 : decode cX7_isRest 36 = .ok (.iload_n 2, 1) := by decide +kernel
theorem dX7_isRest_37 : decode cX7_isRest 37 = .ok (.iadd, 1) := by decide +kernel
theorem dX7_isRest_38 : decode cX7_isRest 38 = .ok (.iaload, 1) := by decide +kernel
theorem dX7_isRest_39 : decode cX7_isRest 39 = .ok (.if_icmp .gt 33, 3) := by decide +kernel
theorem dX7_isRest_42 : decode cX7_isRest 42 = .ok (.aload_n 0, 1) := by decide +kernel
theorem dX7_isRest_43 : decode cX7_isRest 43 = .ok (.getfield 48, 3) := by decide +kernel
theorem dX7_isRest_46 : decode cX7_isRest 46 = .ok (.bipush 10, 2) := by decide +kernel
theorem dX7_isRest_48 : decode cX7_isRest 48 = .ok (.iload_n 1, 1) := by decide +kernel
theorem dX7_isRest_49 : decode cX7_isRest 49 = .ok (.imul, 1) := by decide +kernel
theorem dX7_isRest_50 : decode cX7_isRest 50 = .ok (.iload 4, 2) := by decide +kernel
theorem dX7_isRest_52 : decode cX7_isRest 52 = .ok (.iadd, 1) := by decide +kernel
theorem dX7_isRest_53 : decode cX7_isRest 53 = .ok (.iaload, 1) := by decide +kernel
theorem dX7_isRest_54 : decode cX7_isRest 54 = .ok (.aload_n 0, 1) := by decide +kernel
theorem dX7_isRest_55 : decode cX7_isRest 55 = .ok (.getfield 48, 3) := by decide +kernel
theorem dX7_isRest_58 : decode cX7_isRest 58 = .ok (.bipush 10, 2) := by decide +kernel
theorem dX7_isRest_60 : decode cX7_isRest 60 = .ok (.iload_n 1, 1) := by decide +kernel
theorem dX7_isRest_61 : decode cX7_isRest 61 = .ok (.imul, 1) := by decide +kernel
theorem dX7_isRest_62 : decode cX7_isRest 62 = .ok (.iload_n 2, 1) := by decide +kernel
theorem dX7_isRest_63 : decode cX7_isRest 63 = .ok (.iadd, 1) := by decide +kernel
theorem dX7_isRest_64 : decode cX7_isRest 64 = .ok (.iaload, 1) := by decide +kernel
theorem dX7_isRest_65 : decode cX7_isRest 65 = .ok (.if_icmp .gt 7, 3) := by decide +kernel
theorem dX7_isRest_68 : decode cX7_isRest 68 = .ok (.iconst 1, 1) := by decide +kernel
theorem dX7_isRest_69 : decode cX7_isRest 69 = .ok (.goto 4, 3) := by decide +kernel
theorem dX7_isRest_72 : decode cX7_isRest 72 = .ok (.iconst 0, 1) := by decide +kernel
theorem dX7_isRest_73 : decode cX7_isRest 73 = .ok (.istore_n 3, 1) := by decide +kernel
theorem dX7_isRest_74 : decode cX7_isRest 74 = .ok (.iinc 4 1, 3) := by decide +kernel
theorem dX7_isRest_77 : decode cX7_isRest 77 = .ok (.goto (-72), 3) := by decide +kernel
theorem dX7_isRest_80 : decode cX7_isRest 80 = .ok (.iload_n 3, 1) := by decide +kernel
theorem dX7_isRest_81 : decode cX7_isRest 81 = .ok (.ireturn, 1) := by decide +kernel
set_option maxRecDepth 20000 in
theorem ggX7_rests_X7_in : GoodIn wsX7_rests wsX7_in := goodIn_r _ [8] (by decide +kernel) (by decide +kernel)
set_option maxRecDepth 20000 in
theorem gX7_rests_X7_in : GoodIn wsX7_rests (va_wsS RX7 74 yX7_in wsX7_in) := goodIn_app (goodIn_of _ (by decide +kernel)) ggX7_rests_X7_in
set_option maxRecDepth 20000 in
theorem ggX7_rests_X7_goDay : GoodIn wsX7_rests wsX7_goDay := goodIn_r _ [12, 2, 4, 13, 14, 15, 7, 16, 17, 18, 19, 20, 21, 22, 23, 24, 25, 26, 27, 28, 29, 30, 31, 32, 33, 34, 35, 36, 37, 38, 39, 40, 41, 42, 43, 44, 45, 46, 47, 52, 53, 54, 55, 56, 57, 58, 59, 60, 61, 62, 63, 64, 65, 66, 67, 68, 69, 70, 71, 72, 73, 74, 75, 76, 77, 78, 79, 80, 81] (by decide +kernel) (by decide +kernel)
set_option maxRecDepth 20000 in
theorem gX7_rests_X7_goDay : GoodIn wsX7_rests (wsV RX7 201 RX7 yX7_goDay wsX7_goDay) := goodIn_app (goodIn_of _ (by decide +kernel)) ggX7_rests_X7_goDay
set_option maxRecDepth 20000 in
theorem ggX7_rests_X7_isRest : GoodIn wsX7_rests wsX7_isRest := goodIn_r _ [51, 1, 3, 52, 53, 54, 55, 56, 57, 58, 59, 60, 61, 62, 63, 64, 65, 66, 67, 68, 69, 70, 71, 72, 73, 74, 75, 76, 77, 78, 79, 80, 81] (by decide +kernel) (by decide +kernel)
set_option maxRecDepth 20000 in
theorem gX7_rests_X7_isRest : GoodIn wsX7_rests (wsV RX7 205 RX7 yX7_isRest wsX7_isRest) := goodIn_app (goodIn_of _ (by decide +kernel)) ggX7_rests_X7_isRest
theorem dX7_rests_0 : decode cX7_rests 0 = .ok (.iload_n 1, 1) := by decide +kernel
theorem dX7_rests_1 : decode cX7_rests 1 = .ok (.iconst 1, 1) := by decide +kernel
theorem dX7_rests_2 : decode cX7_rests 2 = .ok (.bipush 24, 2) := by decide +kernel
theorem dX7_rests_4 : decode cX7_rests 4 = .ok (.invokestatic 74, 3) := by decide +kernel
theorem dX7_rests_7 : decode cX7_rests 7 = .ok (.ifCond .eq 12, 3) := by decide +kernel
theorem dX7_rests_10 : decode cX7_rests 10 = .ok (.iload_n 2, 1) := by decide +kernel
theorem dX7_rests_11 : decode cX7_rests 11 = .ok (.iconst 0, 1) := by decide +kernel
theorem dX7_rests_12 : decode cX7_rests 12 = .ok (.iconst 1, 1) := by decide +kernel
theorem dX7_rests_13 : decode cX7_rests 13 = .ok (.invokestatic 74, 3) := by decide +kernel
theorem dX7_rests_16 : decode cX7_rests 16 = .ok (.ifCond .ne 5, 3) := by decide +kernel
theorem dX7_rests_19 : decode cX7_rests 19 = .ok (.iconst (-1), 1) := by decide +kernel
theorem dX7_rests_20 : decode cX7_rests 20 = .ok (.ireturn, 1) := by decide +kernel
theorem dX7_rests_21 : decode cX7_rests 21 = .ok (.iconst 0, 1) := by decide +kernel
theorem dX7_rests_22 : decode cX7_rests 22 = .ok (.istore_n 3, 1) := by decide +kernel
theorem dX7_rests_23 : decode cX7_rests 23 = .ok (.iload_n 3, 1) := by decide +kernel
theorem dX7_rests_24 : decode cX7_rests 24 = .ok (.bipush 100, 2) := by decide +kernel
theorem dX7_rests_26 : decode cX7_rests 26 = .ok (.if_icmp .ge 48, 3) := by decide +kernel
theorem dX7_rests_29 : decode cX7_rests 29 = .ok (.aload_n 0, 1) := by decide +kernel
theorem dX7_rests_30 : decode cX7_rests 30 = .ok (.bipush 10, 2) := by decide +kernel
theorem dX7_rests_32 : decode cX7_rests 32 = .ok (.iload_n 3, 1) := by decide +kernel
theorem dX7_rests_33 : decode cX7_rests 33 = .ok (.bipush 10, 2) := by decide +kernel
theorem dX7_rests_35 : decode cX7_rests 35 = .ok (.idiv, 1) := by decide +kernel
theorem dX7_rests_36 : decode cX7_rests 36 = .ok (.imul, 1) := by decide +kernel
theorem dX7_rests_37 : decode cX7_rests 37 = .ok (.bipush 10, 2) := by decide +kernel
theorem dX7_rests_39 : decode cX7_rests 39 = .ok (.iload_n 3, 1) := by decide +kernel
theorem dX7_rests_40 : decode cX7_rests 40 = .ok (.bipush 10, 2) := by decide +kernel
theorem dX7_rests_42 : decode cX7_rests 42 = .ok (.irem, 1) := by decide +kernel
theorem dX7_rests_43 : decode cX7_rests 43 = .ok (.imul, 1) := by decide +kernel
theorem dX7_rests_44 : decode cX7_rests 44 = .ok (.iload_n 1, 1) := by decide +kernel
theorem dX7_rests_45 : decode cX7_rests 45 = .ok (.invokevirtual 201, 3) := by decide +kernel
theorem dX7_rests_48 : decode cX7_rests 48 = .ok (.aload_n 0, 1) := by decide +kernel
theorem dX7_rests_49 : decode cX7_rests 49 = .ok (.getfield 45, 3) := by decide +kernel
theorem dX7_rests_52 : decode cX7_rests 52 = .ok (.iload_n 3, 1) := by decide +kernel
theorem dX7_rests_53 : decode cX7_rests 53 = .ok (.aload_n 0, 1) := by decide +kernel
theorem dX7_rests_54 : decode cX7_rests 54 = .ok (.getfield 195, 3) := by decide +kernel
theorem dX7_rests_57 : decode cX7_rests 57 = .ok (.iastore, 1) := by decide +kernel
theorem dX7_rests_58 : decode cX7_rests 58 = .ok (.aload_n 0, 1) := by decide +kernel
theorem dX7_rests_59 : decode cX7_rests 59 = .ok (.getfield 48, 3) := by decide +kernel
theorem dX7_rests_62 : decode cX7_rests 62 = .ok (.iload_n 3, 1) := by decide +kernel
theorem dX7_rests_63 : decode cX7_rests 63 = .ok (.aload_n 0, 1) := by decide +kernel
theorem dX7_rests_64 : decode cX7_rests 64 = .ok (.getfield 198, 3) := by decide +kernel
theorem dX7_rests_67 : decode cX7_rests 67 = .ok (.iastore, 1) := by decide +kernel
theorem dX7_rests_68 : decode cX7_rests 68 = .ok (.iinc 3 1, 3) := by decide +kernel
theorem dX7_rests_71 : decode cX7_rests 71 = .ok (.goto (-48), 3) := by decide +kernel
theorem dX7_rests_74 : decode cX7_rests 74 = .ok (.iconst 0, 1) := by decide +kernel
theorem dX7_rests_75 : decode cX7_rests 75 = .ok (.istore_n 3, 1) := by decide +kernel
theorem dX7_rests_76 : decode cX7_rests 76 = .ok (.bipush (-9), 2) := by decide +kernel
theorem dX7_rests_78 : decode cX7_rests 78 = .ok (.istore 4, 2) := by decide +kernel
theorem dX7_rests_80 : decode cX7_rests 80 = .ok (.iconst 0, 1) := by decide +kernel
theorem dX7_rests_81 : decode cX7_rests 81 = .ok (.istore 5, 2) := by decide +kernel
theorem dX7_rests_83 : decode cX7_rests 83 = .ok (.iload 5, 2) := by decide +kernel
theorem dX7_rests_85 : decode cX7_rests 85 = .ok (.bipush 100, 2) := by decide +kernel
theorem dX7_rests_87 : decode cX7_rests 87 = .ok (.if_icmp .ge 42, 3) := by decide +kernel
theorem dX7_rests_90 : decode cX7_rests 90 = .ok (.aload_n 0, 1) := by decide +kernel
theorem dX7_rests_91 : decode cX7_rests 91 = .ok (.iload 5, 2) := by decide +kernel
theorem dX7_rests_93 : decode cX7_rests 93 = .ok (.bipush 10, 2) := by decide +kernel
theorem dX7_rests_95 : decode cX7_rests 95 = .ok (.idiv, 1) := by decide +kernel
theorem dX7_rests_96 : decode cX7_rests 96 = .ok (.iload 5, 2) := by decide +kernel
theorem dX7_rests_98 : decode cX7_rests 98 = .ok (.bipush 10, 2) := by decide +kernel
theorem dX7_rests_100 : decode cX7_rests 100 = .ok (.irem, 1) := by decide +kernel
theorem dX7_rests_101 : decode cX7_rests 101 = .ok (.invokevirtual 205, 3) := by decide +kernel
theorem dX7_rests_104 : decode cX7_rests 104 = .ok (.ifCond .eq 19, 3) := by decide +kernel
theorem dX7_rests_107 : decode cX7_rests 107 = .ok (.iload_n 3, 1) := by decide +kernel
theorem dX7_rests_108 : decode cX7_rests 108 = .ok (.ifCond .ne 8, 3) := by decide +kernel
theorem dX7_rests_111 : decode cX7_rests 111 = .ok (.iload 5, 2) := by decide +kernel
theorem dX7_rests_113 : decode cX7_rests 113 = .ok (.goto 5, 3) := by decide +kernel
theorem dX7_rests_116 : decode cX7_rests 116 = .ok (.iload 4, 2) := by decide +kernel
theorem dX7_rests_118 : decode cX7_rests 118 = .ok (.istore 4, 2) := by decide +kernel
theorem dX7_rests_120 : decode cX7_rests 120 = .ok (.iinc 3 1, 3) := by decide +kernel
theorem dX7_rests_123 : decode cX7_rests 123 = .ok (.iinc 5 1, 3) := by decide +kernel
theorem dX7_rests_126 : decode cX7_rests 126 = .ok (.goto (-43), 3) := by decide +kernel
theorem dX7_rests_129 : decode cX7_rests 129 = .ok (.iload_n 2, 1) := by decide +kernel
theorem dX7_rests_130 : decode cX7_rests 130 = .ok (.ifCond .ne 7, 3) := by decide +kernel
theorem dX7_rests_133 : decode cX7_rests 133 = .ok (.iload_n 3, 1) := by decide +kernel
theorem dX7_rests_134 : decode cX7_rests 134 = .ok (.goto 5, 3) := by decide +kernel
theorem dX7_rests_137 : decode cX7_rests 137 = .ok (.iload 4, 2) := by decide +kernel
theorem dX7_rests_139 : decode cX7_rests 139 = .ok (.ireturn, 1) := by decide +kernel
set_option maxRecDepth 20000 in
theorem ggX7_cost_X7_in : GoodIn wsX7_cost wsX7_in := goodIn_r _ [5] (by decide +kernel) (by decide +kernel)
set_option maxRecDepth 20000 in
theorem gX7_cost_X7_in : GoodIn wsX7_cost (va_wsS RX7 74 yX7_in wsX7_in) := goodIn_app (goodIn_of _ (by decide +kernel)) ggX7_cost_X7_in
theorem dX7_cost_0 : decode cX7_cost 0 = .ok (.iload_n 1, 1) := by decide +kernel
theorem dX7_cost_1 : decode cX7_cost 1 = .ok (.iconst 0, 1) := by decide +kernel
theorem dX7_cost_2 : decode cX7_cost 2 = .ok (.iconst 4, 1) := by decide +kernel
theorem dX7_cost_3 : decode cX7_cost 3 = .ok (.invokestatic 74, 3) := by decide +kernel
theorem dX7_cost_6 : decode cX7_cost 6 = .ok (.ifCond .eq 13, 3) := by decide +kernel
theorem dX7_cost_9 : decode cX7_cost 9 = .ok (.iload_n 2, 1) := by decide +kernel
theorem dX7_cost_10 : decode cX7_cost 10 = .ok (.iconst 0, 1) := by decide +kernel
theorem dX7_cost_11 : decode cX7_cost 11 = .ok (.bipush 99, 2) := by decide +kernel
theorem dX7_cost_13 : decode cX7_cost 13 = .ok (.invokestatic 74, 3) := by decide +kernel
theorem dX7_cost_16 : decode cX7_cost 16 = .ok (.ifCond .ne 5, 3) := by decide +kernel
theorem dX7_cost_19 : decode cX7_cost 19 = .ok (.iconst (-1), 1) := by decide +kernel
theorem dX7_cost_20 : decode cX7_cost 20 = .ok (.ireturn, 1) := by decide +kernel
theorem dX7_cost_21 : decode cX7_cost 21 = .ok (.aload_n 0, 1) := by decide +kernel
theorem dX7_cost_22 : decode cX7_cost 22 = .ok (.getfield 51, 3) := by decide +kernel
theorem dX7_cost_25 : decode cX7_cost 25 = .ok (.iload_n 1, 1) := by decide +kernel
theorem dX7_cost_26 : decode cX7_cost 26 = .ok (.iaload, 1) := by decide +kernel
theorem dX7_cost_27 : decode cX7_cost 27 = .ok (.istore_n 3, 1) := by decide +kernel
theorem dX7_cost_28 : decode cX7_cost 28 = .ok (.aload_n 0, 1) := by decide +kernel
theorem dX7_cost_29 : decode cX7_cost 29 = .ok (.getfield 51, 3) := by decide +kernel
theorem dX7_cost_32 : decode cX7_cost 32 = .ok (.iload_n 1, 1) := by decide +kernel
theorem dX7_cost_33 : decode cX7_cost 33 = .ok (.iload_n 2, 1) := by decide +kernel
theorem dX7_cost_34 : decode cX7_cost 34 = .ok (.iastore, 1) := by decide +kernel
theorem dX7_cost_35 : decode cX7_cost 35 = .ok (.iload_n 3, 1) := by decide +kernel
theorem dX7_cost_36 : decode cX7_cost 36 = .ok (.ireturn, 1) := by decide +kernel
set_option maxRecDepth 20000 in
theorem ggX7_cupsBy_X7_takeTold : GoodIn wsX7_cupsBy wsX7_takeTold := goodIn_r _ [6, 1, 7, 40, 41, 42, 43, 44, 45, 46, 47, 48, 49, 50, 51, 52, 53, 54, 55, 56, 57, 58, 59, 60, 61, 62, 63, 64, 65, 66, 67, 68, 69] (by decide +kernel) (by decide +kernel)
set_option maxRecDepth 20000 in
theorem gX7_cupsBy_X7_takeTold : GoodIn wsX7_cupsBy (wsV RX7 124 RX7 yX7_takeTold wsX7_takeTold) := goodIn_app (goodIn_of _ (by decide +kernel)) ggX7_cupsBy_X7_takeTold
set_option maxRecDepth 20000 in
theorem ggX7_cupsBy_X7_within : GoodIn wsX7_cupsBy wsX7_within := goodIn_r _ [10] (by decide +kernel) (by decide +kernel)
set_option maxRecDepth 20000 in
theorem gX7_cupsBy_X7_within : GoodIn wsX7_cupsBy (va_wsS RX7 168 yX7_within wsX7_within) := goodIn_app (goodIn_of _ (by decide +kernel)) ggX7_cupsBy_X7_within
set_option maxRecDepth 20000 in
theorem ggX7_cupsBy_X7_begin : GoodIn wsX7_cupsBy wsX7_begin := goodIn_r _ [14, 15, 40, 41, 42, 43, 44, 45, 46, 47, 48, 49, 50, 51, 52, 53, 54, 55, 56, 57, 58, 59, 60, 61, 62, 63, 64, 65, 66, 67, 68, 69] (by decide +kernel) (by decide +kernel)
set_option maxRecDepth 20000 in
theorem gX7_cupsBy_X7_begin : GoodIn wsX7_cupsBy (wsV RX7 154 RX7 yX7_begin wsX7_begin) := goodIn_app (goodIn_of _ (by decide +kernel)) ggX7_cupsBy_X7_begin
set_option maxRecDepth 20000 in
theorem ggX7_cupsBy_X7_pour : GoodIn wsX7_cupsBy wsX7_pour := goodIn_r _ [19, 15, 40, 41, 42, 43, 44, 45, 46, 47, 48, 49, 50, 51, 52, 53, 54, 55, 56, 57, 58, 59, 60, 61, 62, 63, 64, 65, 66, 67, 68, 69] (by decide +kernel) (by decide +kernel)
set_option maxRecDepth 20000 in
theorem gX7_cupsBy_X7_pour : GoodIn wsX7_cupsBy (wsV RX7 148 RX7 yX7_pour wsX7_pour) := goodIn_app (goodIn_of _ (by decide +kernel)) ggX7_cupsBy_X7_pour
set_option maxRecDepth 20000 in
theorem ggX7_cupsBy_X7_stroke : GoodIn wsX7_cupsBy wsX7_stroke := goodIn_r _ [23, 15, 24, 25, 26, 5, 27, 1, 28, 29, 30, 31, 32, 33, 34, 35, 36, 37, 38, 39, 40, 41, 42, 43, 44, 45, 46, 47, 48, 49, 50, 51, 52, 53, 54, 55, 56, 57, 58, 59, 60, 61, 62, 63, 64, 65, 66, 67, 68, 69] (by decide +kernel) (by decide +kernel)
set_option maxRecDepth 20000 in
theorem gX7_cupsBy_X7_stroke : GoodIn wsX7_cupsBy (wsV RX7 139 RX7 yX7_stroke wsX7_stroke) := goodIn_app (goodIn_of _ (by decide +kernel)) ggX7_cupsBy_X7_stroke
theorem dX7_cupsBy_0 : decode cX7_cupsBy 0 = .ok (.aload_n 0, 1) := by decide +kernel
theorem dX7_cupsBy_1 : decode cX7_cupsBy 1 = .ok (.invokevirtual 124, 3) := by decide +kernel
theorem dX7_cupsBy_4 : decode cX7_cupsBy 4 = .ok (.aload_n 0, 1) := by decide +kernel
theorem dX7_cupsBy_5 : decode cX7_cupsBy 5 = .ok (.getfield 17, 3) := by decide +kernel
theorem dX7_cupsBy_8 : decode cX7_cupsBy 8 = .ok (.bipush 8, 2) := by decide +kernel
theorem dX7_cupsBy_10 : decode cX7_cupsBy 10 = .ok (.iload_n 1, 1) := by decide +kernel
theorem dX7_cupsBy_11 : decode cX7_cupsBy 11 = .ok (.iconst 1, 1) := by decide +kernel
theorem dX7_cupsBy_12 : decode cX7_cupsBy 12 = .ok (.iand, 1) := by decide +kernel
theorem dX7_cupsBy_13 : decode cX7_cupsBy 13 = .ok (.iconst 1, 1) := by decide +kernel
theorem dX7_cupsBy_14 : decode cX7_cupsBy 14 = .ok (.if_icmp .ne 8, 3) := by decide +kernel
theorem dX7_cupsBy_17 : decode cX7_cupsBy 17 = .ok (.bipush 100, 2) := by decide +kernel
theorem dX7_cupsBy_19 : decode cX7_cupsBy 19 = .ok (.goto 10, 3) := by decide +kernel
theorem dX7_cupsBy_22 : decode cX7_cupsBy 22 = .ok (.aload_n 0, 1) := by decide +kernel
theorem dX7_cupsBy_23 : decode cX7_cupsBy 23 = .ok (.getfield 17, 3) := by decide +kernel
theorem dX7_cupsBy_26 : decode cX7_cupsBy 26 = .ok (.bipush 8, 2) := by decide +kernel
theorem dX7_cupsBy_28 : decode cX7_cupsBy 28 = .ok (.iaload, 1) := by decide +kernel
theorem dX7_cupsBy_29 : decode cX7_cupsBy 29 = .ok (.iastore, 1) := by decide +kernel
theorem dX7_cupsBy_30 : decode cX7_cupsBy 30 = .ok (.aload_n 0, 1) := by decide +kernel
theorem dX7_cupsBy_31 : decode cX7_cupsBy 31 = .ok (.getfield 17, 3) := by decide +kernel
theorem dX7_cupsBy_34 : decode cX7_cupsBy 34 = .ok (.iconst 5, 1) := by decide +kernel
theorem dX7_cupsBy_35 : decode cX7_cupsBy 35 = .ok (.iload_n 1, 1) := by decide +kernel
theorem dX7_cupsBy_36 : decode cX7_cupsBy 36 = .ok (.iconst 2, 1) := by decide +kernel
theorem dX7_cupsBy_37 : decode cX7_cupsBy 37 = .ok (.iand, 1) := by decide +kernel
theorem dX7_cupsBy_38 : decode cX7_cupsBy 38 = .ok (.iconst 2, 1) := by decide +kernel
theorem dX7_cupsBy_39 : decode cX7_cupsBy 39 = .ok (.if_icmp .ne 7, 3) := by decide +kernel
theorem dX7_cupsBy_42 : decode cX7_cupsBy 42 = .ok (.iconst 0, 1) := by decide +kernel
theorem dX7_cupsBy_43 : decode cX7_cupsBy 43 = .ok (.goto 9, 3) := by decide +kernel
theorem dX7_cupsBy_46 : decode cX7_cupsBy 46 = .ok (.aload_n 0, 1) := by decide +kernel
theorem dX7_cupsBy_47 : decode cX7_cupsBy 47 = .ok (.getfield 17, 3) := by decide +kernel
theorem dX7_cupsBy_50 : decode cX7_cupsBy 50 = .ok (.iconst 5, 1) := by decide +kernel
theorem dX7_cupsBy_51 : decode cX7_cupsBy 51 = .ok (.iaload, 1) := by decide +kernel
theorem dX7_cupsBy_52 : decode cX7_cupsBy 52 = .ok (.iastore, 1) := by decide +kernel
theorem dX7_cupsBy_53 : decode cX7_cupsBy 53 = .ok (.aload_n 0, 1) := by decide +kernel
theorem dX7_cupsBy_54 : decode cX7_cupsBy 54 = .ok (.getfield 17, 3) := by decide +kernel
theorem dX7_cupsBy_57 : decode cX7_cupsBy 57 = .ok (.bipush 7, 2) := by decide +kernel
theorem dX7_cupsBy_59 : decode cX7_cupsBy 59 = .ok (.iload_n 1, 1) := by decide +kernel
theorem dX7_cupsBy_60 : decode cX7_cupsBy 60 = .ok (.iconst 4, 1) := by decide +kernel
theorem dX7_cupsBy_61 : decode cX7_cupsBy 61 = .ok (.iand, 1) := by decide +kernel
theorem dX7_cupsBy_62 : decode cX7_cupsBy 62 = .ok (.iconst 4, 1) := by decide +kernel
theorem dX7_cupsBy_63 : decode cX7_cupsBy 63 = .ok (.if_icmp .ne 7, 3) := by decide +kernel
theorem dX7_cupsBy_66 : decode cX7_cupsBy 66 = .ok (.iconst 0, 1) := by decide +kernel
theorem dX7_cupsBy_67 : decode cX7_cupsBy 67 = .ok (.goto 10, 3) := by decide +kernel
theorem dX7_cupsBy_70 : decode cX7_cupsBy 70 = .ok (.aload_n 0, 1) := by decide +kernel
theorem dX7_cupsBy_71 : decode cX7_cupsBy 71 = .ok (.getfield 17, 3) := by decide +kernel
theorem dX7_cupsBy_74 : decode cX7_cupsBy 74 = .ok (.bipush 7, 2) := by decide +kernel
theorem dX7_cupsBy_76 : decode cX7_cupsBy 76 = .ok (.iaload, 1) := by decide +kernel
theorem dX7_cupsBy_77 : decode cX7_cupsBy 77 = .ok (.iastore, 1) := by decide +kernel
theorem dX7_cupsBy_78 : decode cX7_cupsBy 78 = .ok (.aload_n 0, 1) := by decide +kernel
theorem dX7_cupsBy_79 : decode cX7_cupsBy 79 = .ok (.getfield 17, 3) := by decide +kernel
theorem dX7_cupsBy_82 : decode cX7_cupsBy 82 = .ok (.iconst 0, 1) := by decide +kernel
theorem dX7_cupsBy_83 : decode cX7_cupsBy 83 = .ok (.iload_n 1, 1) := by decide +kernel
theorem dX7_cupsBy_84 : decode cX7_cupsBy 84 = .ok (.bipush 8, 2) := by decide +kernel
theorem dX7_cupsBy_86 : decode cX7_cupsBy 86 = .ok (.iand, 1) := by decide +kernel
theorem dX7_cupsBy_87 : decode cX7_cupsBy 87 = .ok (.bipush 8, 2) := by decide +kernel
theorem dX7_cupsBy_89 : decode cX7_cupsBy 89 = .ok (.if_icmp .ne 21, 3) := by decide +kernel
theorem dX7_cupsBy_92 : decode cX7_cupsBy 92 = .ok (.aload_n 0, 1) := by decide +kernel
theorem dX7_cupsBy_93 : decode cX7_cupsBy 93 = .ok (.getfield 17, 3) := by decide +kernel
theorem dX7_cupsBy_96 : decode cX7_cupsBy 96 = .ok (.iconst 0, 1) := by decide +kernel
theorem dX7_cupsBy_97 : decode cX7_cupsBy 97 = .ok (.iaload, 1) := by decide +kernel
theorem dX7_cupsBy_98 : decode cX7_cupsBy 98 = .ok (.bipush 20, 2) := by decide +kernel
theorem dX7_cupsBy_100 : decode cX7_cupsBy 100 = .ok (.iadd, 1) := by decide +kernel
theorem dX7_cupsBy_101 : decode cX7_cupsBy 101 = .ok (.iconst 1, 1) := by decide +kernel
theorem dX7_cupsBy_102 : decode cX7_cupsBy 102 = .ok (.bipush 99, 2) := by decide +kernel
theorem dX7_cupsBy_104 : decode cX7_cupsBy 104 = .ok (.invokestatic 168, 3) := by decide +kernel
theorem dX7_cupsBy_107 : decode cX7_cupsBy 107 = .ok (.goto 9, 3) := by decide +kernel
theorem dX7_cupsBy_110 : decode cX7_cupsBy 110 = .ok (.aload_n 0, 1) := by decide +kernel
theorem dX7_cupsBy_111 : decode cX7_cupsBy 111 = .ok (.getfield 17, 3) := by decide +kernel
theorem dX7_cupsBy_114 : decode cX7_cupsBy 114 = .ok (.iconst 0, 1) := by decide +kernel
theorem dX7_cupsBy_115 : decode cX7_cupsBy 115 = .ok (.iaload, 1) := by decide +kernel
theorem dX7_cupsBy_116 : decode cX7_cupsBy 116 = .ok (.iastore, 1) := by decide +kernel
theorem dX7_cupsBy_117 : decode cX7_cupsBy 117 = .ok (.aload_n 0, 1) := by decide +kernel
theorem dX7_cupsBy_118 : decode cX7_cupsBy 118 = .ok (.getfield 17, 3) := by decide +kernel
theorem dX7_cupsBy_121 : decode cX7_cupsBy 121 = .ok (.iconst 3, 1) := by decide +kernel
theorem dX7_cupsBy_122 : decode cX7_cupsBy 122 = .ok (.iload_n 1, 1) := by decide +kernel
theorem dX7_cupsBy_123 : decode cX7_cupsBy 123 = .ok (.bipush 16, 2) := by decide +kernel
theorem dX7_cupsBy_125 : decode cX7_cupsBy 125 = .ok (.iand, 1) := by decide +kernel
theorem dX7_cupsBy_126 : decode cX7_cupsBy 126 = .ok (.bipush 16, 2) := by decide +kernel
theorem dX7_cupsBy_128 : decode cX7_cupsBy 128 = .ok (.if_icmp .ne 20, 3) := by decide +kernel
theorem dX7_cupsBy_131 : decode cX7_cupsBy 131 = .ok (.iconst 2, 1) := by decide +kernel
theorem dX7_cupsBy_132 : decode cX7_cupsBy 132 = .ok (.aload_n 0, 1) := by decide +kernel
theorem dX7_cupsBy_133 : decode cX7_cupsBy 133 = .ok (.getfield 17, 3) := by decide +kernel
theorem dX7_cupsBy_136 : decode cX7_cupsBy 136 = .ok (.iconst 3, 1) := by decide +kernel
theorem dX7_cupsBy_137 : decode cX7_cupsBy 137 = .ok (.iaload, 1) := by decide +kernel
theorem dX7_cupsBy_138 : decode cX7_cupsBy 138 = .ok (.imul, 1) := by decide +kernel
theorem dX7_cupsBy_139 : decode cX7_cupsBy 139 = .ok (.iconst 0, 1) := by decide +kernel
theorem dX7_cupsBy_140 : decode cX7_cupsBy 140 = .ok (.bipush 99, 2) := by decide +kernel
theorem dX7_cupsBy_142 : decode cX7_cupsBy 142 = .ok (.invokestatic 168, 3) := by decide +kernel
theorem dX7_cupsBy_145 : decode cX7_cupsBy 145 = .ok (.goto 9, 3) := by decide +kernel
theorem dX7_cupsBy_148 : decode cX7_cupsBy 148 = .ok (.aload_n 0, 1) := by decide +kernel
theorem dX7_cupsBy_149 : decode cX7_cupsBy 149 = .ok (.getfield 17, 3) := by decide +kernel
theorem dX7_cupsBy_152 : decode cX7_cupsBy 152 = .ok (.iconst 3, 1) := by decide +kernel
theorem dX7_cupsBy_153 : decode cX7_cupsBy 153 = .ok (.iaload, 1) := by decide +kernel
theorem dX7_cupsBy_154 : decode cX7_cupsBy 154 = .ok (.iastore, 1) := by decide +kernel
theorem dX7_cupsBy_155 : decode cX7_cupsBy 155 = .ok (.aload_n 0, 1) := by decide +kernel
theorem dX7_cupsBy_156 : decode cX7_cupsBy 156 = .ok (.bipush 10, 2) := by decide +kernel
theorem dX7_cupsBy_158 : decode cX7_cupsBy 158 = .ok (.aload_n 0, 1) := by decide +kernel
theorem dX7_cupsBy_159 : decode cX7_cupsBy 159 = .ok (.getfield 17, 3) := by decide +kernel
theorem dX7_cupsBy_162 : decode cX7_cupsBy 162 = .ok (.iconst 2, 1) := by decide +kernel
theorem dX7_cupsBy_163 : decode cX7_cupsBy 163 = .ok (.iaload, 1) := by decide +kernel
theorem dX7_cupsBy_164 : decode cX7_cupsBy 164 = .ok (.imul, 1) := by decide +kernel
theorem dX7_cupsBy_165 : decode cX7_cupsBy 165 = .ok (.aload_n 0, 1) := by decide +kernel
theorem dX7_cupsBy_166 : decode cX7_cupsBy 166 = .ok (.getfield 17, 3) := by decide +kernel
theorem dX7_cupsBy_169 : decode cX7_cupsBy 169 = .ok (.bipush 8, 2) := by decide +kernel
theorem dX7_cupsBy_171 : decode cX7_cupsBy 171 = .ok (.iaload, 1) := by decide +kernel
theorem dX7_cupsBy_172 : decode cX7_cupsBy 172 = .ok (.invokevirtual 154, 3) := by decide +kernel
theorem dX7_cupsBy_175 : decode cX7_cupsBy 175 = .ok (.aload_n 0, 1) := by decide +kernel
theorem dX7_cupsBy_176 : decode cX7_cupsBy 176 = .ok (.bipush 20, 2) := by decide +kernel
theorem dX7_cupsBy_178 : decode cX7_cupsBy 178 = .ok (.invokevirtual 148, 3) := by decide +kernel
theorem dX7_cupsBy_181 : decode cX7_cupsBy 181 = .ok (.pop, 1) := by decide +kernel
theorem dX7_cupsBy_182 : decode cX7_cupsBy 182 = .ok (.iconst 0, 1) := by decide +kernel
theorem dX7_cupsBy_183 : decode cX7_cupsBy 183 = .ok (.istore_n 2, 1) := by decide +kernel
theorem dX7_cupsBy_184 : decode cX7_cupsBy 184 = .ok (.iconst 0, 1) := by decide +kernel
theorem dX7_cupsBy_185 : decode cX7_cupsBy 185 = .ok (.istore_n 3, 1) := by decide +kernel
theorem dX7_cupsBy_186 : decode cX7_cupsBy 186 = .ok (.iload_n 3, 1) := by decide +kernel
theorem dX7_cupsBy_187 : decode cX7_cupsBy 187 = .ok (.bipush 60, 2) := by decide +kernel
theorem dX7_cupsBy_189 : decode cX7_cupsBy 189 = .ok (.if_icmp .ge 16, 3) := by decide +kernel
theorem dX7_cupsBy_192 : decode cX7_cupsBy 192 = .ok (.iload_n 2, 1) := by decide +kernel
theorem dX7_cupsBy_193 : decode cX7_cupsBy 193 = .ok (.aload_n 0, 1) := by decide +kernel
theorem dX7_cupsBy_194 : decode cX7_cupsBy 194 = .ok (.invokevirtual 139, 3) := by decide +kernel
theorem dX7_cupsBy_197 : decode cX7_cupsBy 197 = .ok (.iadd, 1) := by decide +kernel
theorem dX7_cupsBy_198 : decode cX7_cupsBy 198 = .ok (.istore_n 2, 1) := by decide +kernel
theorem dX7_cupsBy_199 : decode cX7_cupsBy 199 = .ok (.iinc 3 1, 3) := by decide +kernel
theorem dX7_cupsBy_202 : decode cX7_cupsBy 202 = .ok (.goto (-16), 3) := by decide +kernel
theorem dX7_cupsBy_205 : decode cX7_cupsBy 205 = .ok (.iload_n 2, 1) := by decide +kernel
theorem dX7_cupsBy_206 : decode cX7_cupsBy 206 = .ok (.ireturn, 1) := by decide +kernel
theorem dX7_costsOf_0 : decode cX7_costsOf 0 = .ok (.iconst 0, 1) := by decide +kernel
theorem dX7_costsOf_1 : decode cX7_costsOf 1 = .ok (.istore_n 2, 1) := by decide +kernel
theorem dX7_costsOf_2 : decode cX7_costsOf 2 = .ok (.iconst 0, 1) := by decide +kernel
theorem dX7_costsOf_3 : decode cX7_costsOf 3 = .ok (.istore_n 3, 1) := by decide +kernel
theorem dX7_costsOf_4 : decode cX7_costsOf 4 = .ok (.iload_n 3, 1) := by decide +kernel
theorem dX7_costsOf_5 : decode cX7_costsOf 5 = .ok (.iconst 5, 1) := by decide +kernel
theorem dX7_costsOf_6 : decode cX7_costsOf 6 = .ok (.if_icmp .ge 24, 3) := by decide +kernel
theorem dX7_costsOf_9 : decode cX7_costsOf 9 = .ok (.iload_n 2, 1) := by decide +kernel
theorem dX7_costsOf_10 : decode cX7_costsOf 10 = .ok (.iload_n 1, 1) := by decide +kernel
theorem dX7_costsOf_11 : decode cX7_costsOf 11 = .ok (.iload_n 3, 1) := by decide +kernel
theorem dX7_costsOf_12 : decode cX7_costsOf 12 = .ok (.ishr, 1) := by decide +kernel
theorem dX7_costsOf_13 : decode cX7_costsOf 13 = .ok (.iconst 1, 1) := by decide +kernel
theorem dX7_costsOf_14 : decode cX7_costsOf 14 = .ok (.iand, 1) := by decide +kernel
theorem dX7_costsOf_15 : decode cX7_costsOf 15 = .ok (.aload_n 0, 1) := by decide +kernel
theorem dX7_costsOf_16 : decode cX7_costsOf 16 = .ok (.getfield 51, 3) := by decide +kernel
theorem dX7_costsOf_19 : decode cX7_costsOf 19 = .ok (.iload_n 3, 1) := by decide +kernel
theorem dX7_costsOf_20 : decode cX7_costsOf 20 = .ok (.iaload, 1) := by decide +kernel
theorem dX7_costsOf_21 : decode cX7_costsOf 21 = .ok (.imul, 1) := by decide +kernel
theorem dX7_costsOf_22 : decode cX7_costsOf 22 = .ok (.iadd, 1) := by decide +kernel
theorem dX7_costsOf_23 : decode cX7_costsOf 23 = .ok (.istore_n 2, 1) := by decide +kernel
theorem dX7_costsOf_24 : decode cX7_costsOf 24 = .ok (.iinc 3 1, 3) := by decide +kernel
theorem dX7_costsOf_27 : decode cX7_costsOf 27 = .ok (.goto (-23), 3) := by decide +kernel
theorem dX7_costsOf_30 : decode cX7_costsOf 30 = .ok (.iload_n 2, 1) := by decide +kernel
theorem dX7_costsOf_31 : decode cX7_costsOf 31 = .ok (.ireturn, 1) := by decide +kernel
set_option maxRecDepth 20000 in
theorem ggX7_choice_X7_in : GoodIn wsX7_choice wsX7_in := goodIn_r _ [4] (by decide +kernel) (by decide +kernel)
set_option maxRecDepth 20000 in
theorem gX7_choice_X7_in : GoodIn wsX7_choice (va_wsS RX7 74 yX7_in wsX7_in) := goodIn_app (goodIn_of _ (by decide +kernel)) ggX7_choice_X7_in
set_option maxRecDepth 20000 in
theorem ggX7_choice_X7_costsOf : GoodIn wsX7_choice wsX7_costsOf := goodIn_r _ [8, 9, 52, 53, 54, 55, 56, 57, 58, 59, 60, 61, 62, 63, 64, 65, 66, 67, 68, 69, 70, 71, 72, 73, 74, 75, 76, 77, 78, 79, 80, 81] (by decide +kernel) (by decide +kernel)
set_option maxRecDepth 20000 in
theorem gX7_choice_X7_costsOf : GoodIn wsX7_choice (wsV RX7 209 RX7 yX7_costsOf wsX7_costsOf) := goodIn_app (goodIn_of _ (by decide +kernel)) ggX7_choice_X7_costsOf
set_option maxRecDepth 20000 in
theorem ggX7_choice_X7_cupsBy : GoodIn wsX7_choice wsX7_cupsBy := goodIn_r _ [13, 14, 15, 16, 17, 3, 18, 19, 20, 21, 22, 23, 24, 25, 26, 27, 28, 29, 30, 31, 32, 33, 34, 35, 36, 37, 38, 39, 40, 41, 42, 43, 44, 45, 46, 47, 48, 49, 50, 51, 52, 53, 54, 55, 56, 57, 58, 59, 60, 61, 62, 63, 64, 65, 66, 67, 68, 69, 70, 71, 72, 73, 74, 75, 76, 77, 78, 79, 80, 81] (by decide +kernel) (by decide +kernel)
set_option maxRecDepth 20000 in
theorem gX7_choice_X7_cupsBy : GoodIn wsX7_choice (wsV RX7 212 RX7 yX7_cupsBy wsX7_cupsBy) := goodIn_app (goodIn_of _ (by decide +kernel)) ggX7_choice_X7_cupsBy
theorem dX7_choice_0 : decode cX7_choice 0 = .ok (.iload_n 1, 1) := by decide +kernel
theorem dX7_choice_1 : decode cX7_choice 1 = .ok (.iconst 0, 1) := by decide +kernel
theorem dX7_choice_2 : decode cX7_choice 2 = .ok (.sipush 9999, 3) := by decide +kernel
theorem dX7_choice_5 : decode cX7_choice 5 = .ok (.invokestatic 74, 3) := by decide +kernel
theorem dX7_choice_8 : decode cX7_choice 8 = .ok (.ifCond .eq 12, 3) := by decide +kernel
theorem dX7_choice_11 : decode cX7_choice 11 = .ok (.iload_n 2, 1) := by decide +kernel
theorem dX7_choice_12 : decode cX7_choice 12 = .ok (.iconst 0, 1) := by decide +kernel
theorem dX7_choice_13 : decode cX7_choice 13 = .ok (.iconst 1, 1) := by decide +kernel
theorem dX7_choice_14 : decode cX7_choice 14 = .ok (.invokestatic 74, 3) := by decide +kernel
theorem dX7_choice_17 : decode cX7_choice 17 = .ok (.ifCond .ne 5, 3) := by decide +kernel
theorem dX7_choice_20 : decode cX7_choice 20 = .ok (.iconst (-1), 1) := by decide +kernel
theorem dX7_choice_21 : decode cX7_choice 21 = .ok (.ireturn, 1) := by decide +kernel
theorem dX7_choice_22 : decode cX7_choice 22 = .ok (.bipush (-9), 2) := by decide +kernel
theorem dX7_choice_24 : decode cX7_choice 24 = .ok (.istore_n 3, 1) := by decide +kernel
theorem dX7_choice_25 : decode cX7_choice 25 = .ok (.iconst 0, 1) := by decide +kernel
theorem dX7_choice_26 : decode cX7_choice 26 = .ok (.istore 4, 2) := by decide +kernel
theorem dX7_choice_28 : decode cX7_choice 28 = .ok (.iload 4, 2) := by decide +kernel
theorem dX7_choice_30 : decode cX7_choice 30 = .ok (.bipush 32, 2) := by decide +kernel
theorem dX7_choice_32 : decode cX7_choice 32 = .ok (.if_icmp .ge 42, 3) := by decide +kernel
theorem dX7_choice_35 : decode cX7_choice 35 = .ok (.iload_n 3, 1) := by decide +kernel
theorem dX7_choice_36 : decode cX7_choice 36 = .ok (.bipush (-9), 2) := by decide +kernel
theorem dX7_choice_38 : decode cX7_choice 38 = .ok (.if_icmp .eq 17, 3) := by decide +kernel
theorem dX7_choice_41 : decode cX7_choice 41 = .ok (.aload_n 0, 1) := by decide +kernel
theorem dX7_choice_42 : decode cX7_choice 42 = .ok (.iload 4, 2) := by decide +kernel
theorem dX7_choice_44 : decode cX7_choice 44 = .ok (.invokevirtual 209, 3) := by decide +kernel
theorem dX7_choice_47 : decode cX7_choice 47 = .ok (.aload_n 0, 1) := by decide +kernel
theorem dX7_choice_48 : decode cX7_choice 48 = .ok (.iload_n 3, 1) := by decide +kernel
theorem dX7_choice_49 : decode cX7_choice 49 = .ok (.invokevirtual 209, 3) := by decide +kernel
theorem dX7_choice_52 : decode cX7_choice 52 = .ok (.if_icmp .ge 16, 3) := by decide +kernel
theorem dX7_choice_55 : decode cX7_choice 55 = .ok (.aload_n 0, 1) := by decide +kernel
theorem dX7_choice_56 : decode cX7_choice 56 = .ok (.iload 4, 2) := by decide +kernel
theorem dX7_choice_58 : decode cX7_choice 58 = .ok (.invokevirtual 212, 3) := by decide +kernel
theorem dX7_choice_61 : decode cX7_choice 61 = .ok (.iload_n 1, 1) := by decide +kernel
theorem dX7_choice_62 : decode cX7_choice 62 = .ok (.if_icmp .lt 6, 3) := by decide +kernel
theorem dX7_choice_65 : decode cX7_choice 65 = .ok (.iload 4, 2) := by decide +kernel
theorem dX7_choice_67 : decode cX7_choice 67 = .ok (.istore_n 3, 1) := by decide +kernel
theorem dX7_choice_68 : decode cX7_choice 68 = .ok (.iinc 4 1, 3) := by decide +kernel
theorem dX7_choice_71 : decode cX7_choice 71 = .ok (.goto (-43), 3) := by decide +kernel
theorem dX7_choice_74 : decode cX7_choice 74 = .ok (.iload_n 3, 1) := by decide +kernel
theorem dX7_choice_75 : decode cX7_choice 75 = .ok (.bipush (-9), 2) := by decide +kernel
theorem dX7_choice_77 : decode cX7_choice 77 = .ok (.if_icmp .eq 7, 3) := by decide +kernel
theorem dX7_choice_80 : decode cX7_choice 80 = .ok (.iload_n 2, 1) := by decide +kernel
theorem dX7_choice_81 : decode cX7_choice 81 = .ok (.ifCond .ne 7, 3) := by decide +kernel
theorem dX7_choice_84 : decode cX7_choice 84 = .ok (.iload_n 3, 1) := by decide +kernel
theorem dX7_choice_85 : decode cX7_choice 85 = .ok (.goto 8, 3) := by decide +kernel
theorem dX7_choice_88 : decode cX7_choice 88 = .ok (.aload_n 0, 1) := by decide +kernel
theorem dX7_choice_89 : decode cX7_choice 89 = .ok (.iload_n 3, 1) := by decide +kernel
theorem dX7_choice_90 : decode cX7_choice 90 = .ok (.invokevirtual 209, 3) := by decide +kernel
theorem dX7_choice_93 : decode cX7_choice 93 = .ok (.ireturn, 1) := by decide +kernel
set_option maxRecDepth 20000 in
theorem ggX7_sand_X7_in : GoodIn wsX7_sand wsX7_in := goodIn_r _ [7] (by decide +kernel) (by decide +kernel)
set_option maxRecDepth 20000 in
theorem gX7_sand_X7_in : GoodIn wsX7_sand (va_wsS RX7 74 yX7_in wsX7_in) := goodIn_app (goodIn_of _ (by decide +kernel)) ggX7_sand_X7_in
theorem dX7_sand_0 : decode cX7_sand 0 = .ok (.iload_n 1, 1) := by decide +kernel
theorem dX7_sand_1 : decode cX7_sand 1 = .ok (.iconst 1, 1) := by decide +kernel
theorem dX7_sand_2 : decode cX7_sand 2 = .ok (.sipush 200, 3) := by decide +kernel
theorem dX7_sand_5 : decode cX7_sand 5 = .ok (.invokestatic 74, 3) := by decide +kernel
theorem dX7_sand_8 : decode cX7_sand 8 = .ok (.ifCond .eq 12, 3) := by decide +kernel
theorem dX7_sand_11 : decode cX7_sand 11 = .ok (.iload_n 2, 1) := by decide +kernel
theorem dX7_sand_12 : decode cX7_sand 12 = .ok (.iconst 0, 1) := by decide +kernel
theorem dX7_sand_13 : decode cX7_sand 13 = .ok (.iconst 1, 1) := by decide +kernel
theorem dX7_sand_14 : decode cX7_sand 14 = .ok (.invokestatic 74, 3) := by decide +kernel
theorem dX7_sand_17 : decode cX7_sand 17 = .ok (.ifCond .ne 5, 3) := by decide +kernel
theorem dX7_sand_20 : decode cX7_sand 20 = .ok (.iconst (-1), 1) := by decide +kernel
theorem dX7_sand_21 : decode cX7_sand 21 = .ok (.ireturn, 1) := by decide +kernel
theorem dX7_sand_22 : decode cX7_sand 22 = .ok (.aload_n 0, 1) := by decide +kernel
theorem dX7_sand_23 : decode cX7_sand 23 = .ok (.getfield 215, 3) := by decide +kernel
theorem dX7_sand_26 : decode cX7_sand 26 = .ok (.bipush 30, 2) := by decide +kernel
theorem dX7_sand_28 : decode cX7_sand 28 = .ok (.if_icmp .ne 6, 3) := by decide +kernel
theorem dX7_sand_31 : decode cX7_sand 31 = .ok (.bipush (-3), 2) := by decide +kernel
theorem dX7_sand_33 : decode cX7_sand 33 = .ok (.ireturn, 1) := by decide +kernel
theorem dX7_sand_34 : decode cX7_sand 34 = .ok (.aload_n 0, 1) := by decide +kernel
theorem dX7_sand_35 : decode cX7_sand 35 = .ok (.getfield 54, 3) := by decide +kernel
theorem dX7_sand_38 : decode cX7_sand 38 = .ok (.aload_n 0, 1) := by decide +kernel
theorem dX7_sand_39 : decode cX7_sand 39 = .ok (.getfield 215, 3) := by decide +kernel
theorem dX7_sand_42 : decode cX7_sand 42 = .ok (.iload_n 1, 1) := by decide +kernel
theorem dX7_sand_43 : decode cX7_sand 43 = .ok (.iastore, 1) := by decide +kernel
theorem dX7_sand_44 : decode cX7_sand 44 = .ok (.aload_n 0, 1) := by decide +kernel
theorem dX7_sand_45 : decode cX7_sand 45 = .ok (.getfield 57, 3) := by decide +kernel
theorem dX7_sand_48 : decode cX7_sand 48 = .ok (.aload_n 0, 1) := by decide +kernel
theorem dX7_sand_49 : decode cX7_sand 49 = .ok (.getfield 215, 3) := by decide +kernel
theorem dX7_sand_52 : decode cX7_sand 52 = .ok (.iload_n 2, 1) := by decide +kernel
theorem dX7_sand_53 : decode cX7_sand 53 = .ok (.iastore, 1) := by decide +kernel
theorem dX7_sand_54 : decode cX7_sand 54 = .ok (.aload_n 0, 1) := by decide +kernel
theorem dX7_sand_55 : decode cX7_sand 55 = .ok (.dup, 1) := by decide +kernel
theorem dX7_sand_56 : decode cX7_sand 56 = .ok (.getfield 215, 3) := by decide +kernel
theorem dX7_sand_59 : decode cX7_sand 59 = .ok (.iconst 1, 1) := by decide +kernel
theorem dX7_sand_60 : decode cX7_sand 60 = .ok (.iadd, 1) := by decide +kernel
theorem dX7_sand_61 : decode cX7_sand 61 = .ok (.putfield 215, 3) := by decide +kernel
theorem dX7_sand_64 : decode cX7_sand 64 = .ok (.aload_n 0, 1) := by decide +kernel
theorem dX7_sand_65 : decode cX7_sand 65 = .ok (.getfield 215, 3) := by decide +kernel
theorem dX7_sand_68 : decode cX7_sand 68 = .ok (.ireturn, 1) := by decide +kernel
set_option maxRecDepth 20000 in
theorem ggX7_line_X7_in : GoodIn wsX7_line wsX7_in := goodIn_r _ [7] (by decide +kernel) (by decide +kernel)
set_option maxRecDepth 20000 in
theorem gX7_line_X7_in : GoodIn wsX7_line (va_wsS RX7 74 yX7_in wsX7_in) := goodIn_app (goodIn_of _ (by decide +kernel)) ggX7_line_X7_in
theorem dX7_line_0 : decode cX7_line 0 = .ok (.iload_n 1, 1) := by decide +kernel
theorem dX7_line_1 : decode cX7_line 1 = .ok (.iconst 0, 1) := by decide +kernel
theorem dX7_line_2 : decode cX7_line 2 = .ok (.iconst 2, 1) := by decide +kernel
theorem dX7_line_3 : decode cX7_line 3 = .ok (.invokestatic 74, 3) := by decide +kernel
theorem dX7_line_6 : decode cX7_line 6 = .ok (.ifCond .ne 5, 3) := by decide +kernel
theorem dX7_line_9 : decode cX7_line 9 = .ok (.iconst (-1), 1) := by decide +kernel
theorem dX7_line_10 : decode cX7_line 10 = .ok (.ireturn, 1) := by decide +kernel
theorem dX7_line_11 : decode cX7_line 11 = .ok (.iconst 0, 1) := by decide +kernel
theorem dX7_line_12 : decode cX7_line 12 = .ok (.istore_n 2, 1) := by decide +kernel
theorem dX7_line_13 : decode cX7_line 13 = .ok (.bipush (-9), 2) := by decide +kernel
theorem dX7_line_15 : decode cX7_line 15 = .ok (.istore_n 3, 1) := by decide +kernel
theorem dX7_line_16 : decode cX7_line 16 = .ok (.iconst 0, 1) := by decide +kernel
theorem dX7_line_17 : decode cX7_line 17 = .ok (.istore 4, 2) := by decide +kernel
theorem dX7_line_19 : decode cX7_line 19 = .ok (.iload 4, 2) := by decide +kernel
theorem dX7_line_21 : decode cX7_line 21 = .ok (.aload_n 0, 1) := by decide +kernel
theorem dX7_line_22 : decode cX7_line 22 = .ok (.getfield 215, 3) := by decide +kernel
theorem dX7_line_25 : decode cX7_line 25 = .ok (.if_icmp .ge 71, 3) := by decide +kernel
theorem dX7_line_28 : decode cX7_line 28 = .ok (.aload_n 0, 1) := by decide +kernel
theorem dX7_line_29 : decode cX7_line 29 = .ok (.getfield 54, 3) := by decide +kernel
theorem dX7_line_32 : decode cX7_line 32 = .ok (.iload 4, 2) := by decide +kernel
theorem dX7_line_34 : decode cX7_line 34 = .ok (.iaload, 1) := by decide +kernel
theorem dX7_line_35 : decode cX7_line 35 = .ok (.istore 5, 2) := by decide +kernel
theorem dX7_line_37 : decode cX7_line 37 = .ok (.aload_n 0, 1) := by decide +kernel
theorem dX7_line_38 : decode cX7_line 38 = .ok (.getfield 57, 3) := by decide +kernel
theorem dX7_line_41 : decode cX7_line 41 = .ok (.iload 4, 2) := by decide +kernel
theorem dX7_line_43 : decode cX7_line 43 = .ok (.iaload, 1) := by decide +kernel
theorem dX7_line_44 : decode cX7_line 44 = .ok (.ifCond .ne 14, 3) := by decide +kernel
theorem dX7_line_47 : decode cX7_line 47 = .ok (.iload 5, 2) := by decide +kernel
theorem dX7_line_49 : decode cX7_line 49 = .ok (.iload_n 2, 1) := by decide +kernel
theorem dX7_line_50 : decode cX7_line 50 = .ok (.if_icmp .le 8, 3) := by decide +kernel
theorem dX7_line_53 : decode cX7_line 53 = .ok (.iload 5, 2) := by decide +kernel
theorem dX7_line_55 : decode cX7_line 55 = .ok (.goto 4, 3) := by decide +kernel
theorem dX7_line_58 : decode cX7_line 58 = .ok (.iload_n 2, 1) := by decide +kernel
theorem dX7_line_59 : decode cX7_line 59 = .ok (.istore_n 2, 1) := by decide +kernel
theorem dX7_line_60 : decode cX7_line 60 = .ok (.aload_n 0, 1) := by decide +kernel
theorem dX7_line_61 : decode cX7_line 61 = .ok (.getfield 57, 3) := by decide +kernel
theorem dX7_line_64 : decode cX7_line 64 = .ok (.iload 4, 2) := by decide +kernel
theorem dX7_line_66 : decode cX7_line 66 = .ok (.iaload, 1) := by decide +kernel
theorem dX7_line_67 : decode cX7_line 67 = .ok (.iconst 1, 1) := by decide +kernel
theorem dX7_line_68 : decode cX7_line 68 = .ok (.if_icmp .ne 20, 3) := by decide +kernel
theorem dX7_line_71 : decode cX7_line 71 = .ok (.iload_n 3, 1) := by decide +kernel
theorem dX7_line_72 : decode cX7_line 72 = .ok (.bipush (-9), 2) := by decide +kernel
theorem dX7_line_74 : decode cX7_line 74 = .ok (.if_icmp .eq 9, 3) := by decide +kernel
theorem dX7_line_77 : decode cX7_line 77 = .ok (.iload 5, 2) := by decide +kernel
theorem dX7_line_79 : decode cX7_line 79 = .ok (.iload_n 3, 1) := by decide +kernel
theorem dX7_line_80 : decode cX7_line 80 = .ok (.if_icmp .ge 8, 3) := by decide +kernel
theorem dX7_line_83 : decode cX7_line 83 = .ok (.iload 5, 2) := by decide +kernel
theorem dX7_line_85 : decode cX7_line 85 = .ok (.goto 4, 3) := by decide +kernel
theorem dX7_line_88 : decode cX7_line 88 = .ok (.iload_n 3, 1) := by decide +kernel
theorem dX7_line_89 : decode cX7_line 89 = .ok (.istore_n 3, 1) := by decide +kernel
theorem dX7_line_90 : decode cX7_line 90 = .ok (.iinc 4 1, 3) := by decide +kernel
theorem dX7_line_93 : decode cX7_line 93 = .ok (.goto (-74), 3) := by decide +kernel
theorem dX7_line_96 : decode cX7_line 96 = .ok (.iload_n 1, 1) := by decide +kernel
theorem dX7_line_97 : decode cX7_line 97 = .ok (.ifCond .ne 7, 3) := by decide +kernel
theorem dX7_line_100 : decode cX7_line 100 = .ok (.iload_n 2, 1) := by decide +kernel
theorem dX7_line_101 : decode cX7_line 101 = .ok (.goto 32, 3) := by decide +kernel
theorem dX7_line_104 : decode cX7_line 104 = .ok (.iload_n 1, 1) := by decide +kernel
theorem dX7_line_105 : decode cX7_line 105 = .ok (.iconst 1, 1) := by decide +kernel
theorem dX7_line_106 : decode cX7_line 106 = .ok (.if_icmp .ne 7, 3) := by decide +kernel
theorem dX7_line_109 : decode cX7_line 109 = .ok (.iload_n 3, 1) := by decide +kernel
theorem dX7_line_110 : decode cX7_line 110 = .ok (.goto 23, 3) := by decide +kernel
theorem dX7_line_113 : decode cX7_line 113 = .ok (.iload_n 2, 1) := by decide +kernel
theorem dX7_line_114 : decode cX7_line 114 = .ok (.ifCond .eq 14, 3) := by decide +kernel
theorem dX7_line_117 : decode cX7_line 117 = .ok (.iload_n 3, 1) := by decide +kernel
theorem dX7_line_118 : decode cX7_line 118 = .ok (.bipush (-9), 2) := by decide +kernel
theorem dX7_line_120 : decode cX7_line 120 = .ok (.if_icmp .eq 8, 3) := by decide +kernel
theorem dX7_line_123 : decode cX7_line 123 = .ok (.iload_n 2, 1) := by decide +kernel
theorem dX7_line_124 : decode cX7_line 124 = .ok (.iload_n 3, 1) := by decide +kernel
theorem dX7_line_125 : decode cX7_line 125 = .ok (.if_icmp .ge 7, 3) := by decide +kernel
theorem dX7_line_128 : decode cX7_line 128 = .ok (.iconst 1, 1) := by decide +kernel
theorem dX7_line_129 : decode cX7_line 129 = .ok (.goto 4, 3) := by decide +kernel
theorem dX7_line_132 : decode cX7_line 132 = .ok (.iconst 0, 1) := by decide +kernel
theorem dX7_line_133 : decode cX7_line 133 = .ok (.ireturn, 1) := by decide +kernel
set_option maxRecDepth 20000 in
theorem ggX7_year_X7_in : GoodIn wsX7_year wsX7_in := goodIn_r _ [7] (by decide +kernel) (by decide +kernel)
set_option maxRecDepth 20000 in
theorem gX7_year_X7_in : GoodIn wsX7_year (va_wsS RX7 74 yX7_in wsX7_in) := goodIn_app (goodIn_of _ (by decide +kernel)) ggX7_year_X7_in
theorem dX7_year_0 : decode cX7_year 0 = .ok (.iload_n 1, 1) := by decide +kernel
theorem dX7_year_1 : decode cX7_year 1 = .ok (.iconst 0, 1) := by decide +kernel
theorem dX7_year_2 : decode cX7_year 2 = .ok (.sipush 999, 3) := by decide +kernel
theorem dX7_year_5 : decode cX7_year 5 = .ok (.invokestatic 74, 3) := by decide +kernel
theorem dX7_year_8 : decode cX7_year 8 = .ok (.ifCond .eq 14, 3) := by decide +kernel
theorem dX7_year_11 : decode cX7_year 11 = .ok (.iload_n 2, 1) := by decide +kernel
theorem dX7_year_12 : decode cX7_year 12 = .ok (.iconst 0, 1) := by decide +kernel
theorem dX7_year_13 : decode cX7_year 13 = .ok (.sipush 999, 3) := by decide +kernel
theorem dX7_year_16 : decode cX7_year 16 = .ok (.invokestatic 74, 3) := by decide +kernel
theorem dX7_year_19 : decode cX7_year 19 = .ok (.ifCond .ne 5, 3) := by decide +kernel
theorem dX7_year_22 : decode cX7_year 22 = .ok (.iconst (-1), 1) := by decide +kernel
theorem dX7_year_23 : decode cX7_year 23 = .ok (.ireturn, 1) := by decide +kernel
theorem dX7_year_24 : decode cX7_year 24 = .ok (.aload_n 0, 1) := by decide +kernel
theorem dX7_year_25 : decode cX7_year 25 = .ok (.getfield 218, 3) := by decide +kernel
theorem dX7_year_28 : decode cX7_year 28 = .ok (.bipush 20, 2) := by decide +kernel
theorem dX7_year_30 : decode cX7_year 30 = .ok (.if_icmp .ne 6, 3) := by decide +kernel
theorem dX7_year_33 : decode cX7_year 33 = .ok (.bipush (-3), 2) := by decide +kernel
theorem dX7_year_35 : decode cX7_year 35 = .ok (.ireturn, 1) := by decide +kernel
theorem dX7_year_36 : decode cX7_year 36 = .ok (.aload_n 0, 1) := by decide +kernel
theorem dX7_year_37 : decode cX7_year 37 = .ok (.getfield 60, 3) := by decide +kernel
theorem dX7_year_40 : decode cX7_year 40 = .ok (.aload_n 0, 1) := by decide +kernel
theorem dX7_year_41 : decode cX7_year 41 = .ok (.getfield 218, 3) := by decide +kernel
theorem dX7_year_44 : decode cX7_year 44 = .ok (.iload_n 1, 1) := by decide +kernel
theorem dX7_year_45 : decode cX7_year 45 = .ok (.iastore, 1) := by decide +kernel
theorem dX7_year_46 : decode cX7_year 46 = .ok (.aload_n 0, 1) := by decide +kernel
theorem dX7_year_47 : decode cX7_year 47 = .ok (.getfield 63, 3) := by decide +kernel
theorem dX7_year_50 : decode cX7_year 50 = .ok (.aload_n 0, 1) := by decide +kernel
theorem dX7_year_51 : decode cX7_year 51 = .ok (.getfield 218, 3) := by decide +kernel
theorem dX7_year_54 : decode cX7_year 54 = .ok (.iload_n 2, 1) := by decide +kernel
theorem dX7_year_55 : decode cX7_year 55 = .ok (.iastore, 1) := by decide +kernel
theorem dX7_year_56 : decode cX7_year 56 = .ok (.aload_n 0, 1) := by decide +kernel
theorem dX7_year_57 : decode cX7_year 57 = .ok (.dup, 1) := by decide +kernel
theorem dX7_year_58 : decode cX7_year 58 = .ok (.getfield 218, 3) := by decide +kernel
theorem dX7_year_61 : decode cX7_year 61 = .ok (.iconst 1, 1) := by decide +kernel
theorem dX7_year_62 : decode cX7_year 62 = .ok (.iadd, 1) := by decide +kernel
theorem dX7_year_63 : decode cX7_year 63 = .ok (.putfield 218, 3) := by decide +kernel
theorem dX7_year_66 : decode cX7_year 66 = .ok (.aload_n 0, 1) := by decide +kernel
theorem dX7_year_67 : decode cX7_year 67 = .ok (.getfield 218, 3) := by decide +kernel
theorem dX7_year_70 : decode cX7_year 70 = .ok (.ireturn, 1) := by decide +kernel
set_option maxRecDepth 20000 in
theorem ggX7_ahead_X7_in : GoodIn wsX7_ahead wsX7_in := goodIn_r _ [8] (by decide +kernel) (by decide +kernel)
set_option maxRecDepth 20000 in
theorem gX7_ahead_X7_in : GoodIn wsX7_ahead (va_wsS RX7 74 yX7_in wsX7_in) := goodIn_app (goodIn_of _ (by decide +kernel)) ggX7_ahead_X7_in
set_option maxRecDepth 20000 in
theorem ggX7_ahead_X7_inLeast : GoodIn wsX7_ahead wsX7_inLeast := goodIn_r _ [11, 12, 13, 7, 14] (by decide +kernel) (by decide +kernel)
set_option maxRecDepth 20000 in
theorem gX7_ahead_X7_inLeast : GoodIn wsX7_ahead (va_wsS RX7 185 yX7_inLeast wsX7_inLeast) := goodIn_app (goodIn_of _ (by decide +kernel)) ggX7_ahead_X7_inLeast
theorem dX7_ahead_0 : decode cX7_ahead 0 = .ok (.iload_n 1, 1) := by decide +kernel
theorem dX7_ahead_1 : decode cX7_ahead 1 = .ok (.iconst 0, 1) := by decide +kernel
theorem dX7_ahead_2 : decode cX7_ahead 2 = .ok (.sipush 999, 3) := by decide +kernel
theorem dX7_ahead_5 : decode cX7_ahead 5 = .ok (.invokestatic 74, 3) := by decide +kernel
theorem dX7_ahead_8 : decode cX7_ahead 8 = .ok (.ifCond .eq 12, 3) := by decide +kernel
theorem dX7_ahead_11 : decode cX7_ahead 11 = .ok (.iload_n 2, 1) := by decide +kernel
theorem dX7_ahead_12 : decode cX7_ahead 12 = .ok (.iconst 0, 1) := by decide +kernel
theorem dX7_ahead_13 : decode cX7_ahead 13 = .ok (.iconst 3, 1) := by decide +kernel
theorem dX7_ahead_14 : decode cX7_ahead 14 = .ok (.invokestatic 74, 3) := by decide +kernel
theorem dX7_ahead_17 : decode cX7_ahead 17 = .ok (.ifCond .ne 7, 3) := by decide +kernel
theorem dX7_ahead_20 : decode cX7_ahead 20 = .ok (.ldc2_w 221, 3) := by decide +kernel
theorem dX7_ahead_23 : decode cX7_ahead 23 = .ok (.lreturn, 1) := by decide +kernel
theorem dX7_ahead_24 : decode cX7_ahead 24 = .ok (.lconst 0, 1) := by decide +kernel
theorem dX7_ahead_25 : decode cX7_ahead 25 = .ok (.lstore_n 3, 1) := by decide +kernel
theorem dX7_ahead_26 : decode cX7_ahead 26 = .ok (.lconst 0, 1) := by decide +kernel
theorem dX7_ahead_27 : decode cX7_ahead 27 = .ok (.lstore 5, 2) := by decide +kernel
theorem dX7_ahead_29 : decode cX7_ahead 29 = .ok (.lconst 0, 1) := by decide +kernel
theorem dX7_ahead_30 : decode cX7_ahead 30 = .ok (.lstore 7, 2) := by decide +kernel
theorem dX7_ahead_32 : decode cX7_ahead 32 = .ok (.lconst 0, 1) := by decide +kernel
theorem dX7_ahead_33 : decode cX7_ahead 33 = .ok (.lstore 9, 2) := by decide +kernel
theorem dX7_ahead_35 : decode cX7_ahead 35 = .ok (.iconst 0, 1) := by decide +kernel
theorem dX7_ahead_36 : decode cX7_ahead 36 = .ok (.istore 11, 2) := by decide +kernel
theorem dX7_ahead_38 : decode cX7_ahead 38 = .ok (.iload 11, 2) := by decide +kernel
theorem dX7_ahead_40 : decode cX7_ahead 40 = .ok (.aload_n 0, 1) := by decide +kernel
theorem dX7_ahead_41 : decode cX7_ahead 41 = .ok (.getfield 218, 3) := by decide +kernel
theorem dX7_ahead_44 : decode cX7_ahead 44 = .ok (.if_icmp .ge 77, 3) := by decide +kernel
theorem dX7_ahead_47 : decode cX7_ahead 47 = .ok (.lload_n 3, 1) := by decide +kernel
theorem dX7_ahead_48 : decode cX7_ahead 48 = .ok (.aload_n 0, 1) := by decide +kernel
theorem dX7_ahead_49 : decode cX7_ahead 49 = .ok (.getfield 60, 3) := by decide +kernel
theorem dX7_ahead_52 : decode cX7_ahead 52 = .ok (.iload 11, 2) := by decide +kernel
theorem dX7_ahead_54 : decode cX7_ahead 54 = .ok (.iaload, 1) := by decide +kernel
theorem dX7_ahead_55 : decode cX7_ahead 55 = .ok (.i2l, 1) := by decide +kernel
theorem dX7_ahead_56 : decode cX7_ahead 56 = .ok (.ladd, 1) := by decide +kernel
theorem dX7_ahead_57 : decode cX7_ahead 57 = .ok (.lstore_n 3, 1) := by decide +kernel
theorem dX7_ahead_58 : decode cX7_ahead 58 = .ok (.lload 5, 2) := by decide +kernel
theorem dX7_ahead_60 : decode cX7_ahead 60 = .ok (.aload_n 0, 1) := by decide +kernel
theorem dX7_ahead_61 : decode cX7_ahead 61 = .ok (.getfield 63, 3) := by decide +kernel
theorem dX7_ahead_64 : decode cX7_ahead 64 = .ok (.iload 11, 2) := by decide +kernel
theorem dX7_ahead_66 : decode cX7_ahead 66 = .ok (.iaload, 1) := by decide +kernel
theorem dX7_ahead_67 : decode cX7_ahead 67 = .ok (.i2l, 1) := by decide +kernel
theorem dX7_ahead_68 : decode cX7_ahead 68 = .ok (.ladd, 1) := by decide +kernel
theorem dX7_ahead_69 : decode cX7_ahead 69 = .ok (.lstore 5, 2) := by decide +kernel
theorem dX7_ahead_71 : decode cX7_ahead 71 = .ok (.lload 7, 2) := by decide +kernel
theorem dX7_ahead_73 : decode cX7_ahead 73 = .ok (.aload_n 0, 1) := by decide +kernel
theorem dX7_ahead_74 : decode cX7_ahead 74 = .ok (.getfield 60, 3) := by decide +kernel
theorem dX7_ahead_77 : decode cX7_ahead 77 = .ok (.iload 11, 2) := by decide +kernel
theorem dX7_ahead_79 : decode cX7_ahead 79 = .ok (.iaload, 1) := by decide +kernel
theorem dX7_ahead_80 : decode cX7_ahead 80 = .ok (.i2l, 1) := by decide +kernel
theorem dX7_ahead_81 : decode cX7_ahead 81 = .ok (.aload_n 0, 1) := by decide +kernel
theorem dX7_ahead_82 : decode cX7_ahead 82 = .ok (.getfield 60, 3) := by decide +kernel
theorem dX7_ahead_85 : decode cX7_ahead 85 = .ok (.iload 11, 2) := by decide +kernel
theorem dX7_ahead_87 : decode cX7_ahead 87 = .ok (.iaload, 1) := by decide +kernel
theorem dX7_ahead_88 : decode cX7_ahead 88 = .ok (.i2l, 1) := by decide +kernel
theorem dX7_ahead_89 : decode cX7_ahead 89 = .ok (.lmul, 1) := by decide +kernel
theorem dX7_ahead_90 : decode cX7_ahead 90 = .ok (.ladd, 1) := by decide +kernel
theorem dX7_ahead_91 : decode cX7_ahead 91 = .ok (.lstore 7, 2) := by decide +kernel
theorem dX7_ahead_93 : decode cX7_ahead 93 = .ok (.lload 9, 2) := by decide +kernel
theorem dX7_ahead_95 : decode cX7_ahead 95 = .ok (.aload_n 0, 1) := by decide +kernel
theorem dX7_ahead_96 : decode cX7_ahead 96 = .ok (.getfield 60, 3) := by decide +kernel
theorem dX7_ahead_99 : decode cX7_ahead 99 = .ok (.iload 11, 2) := by decide +kernel
theorem dX7_ahead_101 : decode cX7_ahead 101 = .ok (.iaload, 1) := by decide +kernel
theorem dX7_ahead_102 : decode cX7_ahead 102 = .ok (.i2l, 1) := by decide +kernel
theorem dX7_ahead_103 : decode cX7_ahead 103 = .ok (.aload_n 0, 1) := by decide +kernel
theorem dX7_ahead_104 : decode cX7_ahead 104 = .ok (.getfield 63, 3) := by decide +kernel
theorem dX7_ahead_107 : decode cX7_ahead 107 = .ok (.iload 11, 2) := by decide +kernel
theorem dX7_ahead_109 : decode cX7_ahead 109 = .ok (.iaload, 1) := by decide +kernel
theorem dX7_ahead_110 : decode cX7_ahead 110 = .ok (.i2l, 1) := by decide +kernel
theorem dX7_ahead_111 : decode cX7_ahead 111 = .ok (.lmul, 1) := by decide +kernel
theorem dX7_ahead_112 : decode cX7_ahead 112 = .ok (.ladd, 1) := by decide +kernel
theorem dX7_ahead_113 : decode cX7_ahead 113 = .ok (.lstore 9, 2) := by decide +kernel
theorem dX7_ahead_115 : decode cX7_ahead 115 = .ok (.iinc 11 1, 3) := by decide +kernel
theorem dX7_ahead_118 : decode cX7_ahead 118 = .ok (.goto (-80), 3) := by decide +kernel
theorem dX7_ahead_121 : decode cX7_ahead 121 = .ok (.aload_n 0, 1) := by decide +kernel
theorem dX7_ahead_122 : decode cX7_ahead 122 = .ok (.getfield 218, 3) := by decide +kernel
theorem dX7_ahead_125 : decode cX7_ahead 125 = .ok (.i2l, 1) := by decide +kernel
theorem dX7_ahead_126 : decode cX7_ahead 126 = .ok (.lload 7, 2) := by decide +kernel
theorem dX7_ahead_128 : decode cX7_ahead 128 = .ok (.lmul, 1) := by decide +kernel
theorem dX7_ahead_129 : decode cX7_ahead 129 = .ok (.lload_n 3, 1) := by decide +kernel
theorem dX7_ahead_130 : decode cX7_ahead 130 = .ok (.lload_n 3, 1) := by decide +kernel
theorem dX7_ahead_131 : decode cX7_ahead 131 = .ok (.lmul, 1) := by decide +kernel
theorem dX7_ahead_132 : decode cX7_ahead 132 = .ok (.lsub, 1) := by decide +kernel
theorem dX7_ahead_133 : decode cX7_ahead 133 = .ok (.lstore 11, 2) := by decide +kernel
theorem dX7_ahead_135 : decode cX7_ahead 135 = .ok (.aload_n 0, 1) := by decide +kernel
theorem dX7_ahead_136 : decode cX7_ahead 136 = .ok (.getfield 218, 3) := by decide +kernel
theorem dX7_ahead_139 : decode cX7_ahead 139 = .ok (.i2l, 1) := by decide +kernel
theorem dX7_ahead_140 : decode cX7_ahead 140 = .ok (.lload 9, 2) := by decide +kernel
theorem dX7_ahead_142 : decode cX7_ahead 142 = .ok (.lmul, 1) := by decide +kernel
theorem dX7_ahead_143 : decode cX7_ahead 143 = .ok (.lload_n 3, 1) := by decide +kernel
theorem dX7_ahead_144 : decode cX7_ahead 144 = .ok (.lload 5, 2) := by decide +kernel
theorem dX7_ahead_146 : decode cX7_ahead 146 = .ok (.lmul, 1) := by decide +kernel
theorem dX7_ahead_147 : decode cX7_ahead 147 = .ok (.lsub, 1) := by decide +kernel
theorem dX7_ahead_148 : decode cX7_ahead 148 = .ok (.lstore 13, 2) := by decide +kernel
theorem dX7_ahead_150 : decode cX7_ahead 150 = .ok (.lload 11, 2) := by decide +kernel
theorem dX7_ahead_152 : decode cX7_ahead 152 = .ok (.lconst 0, 1) := by decide +kernel
theorem dX7_ahead_153 : decode cX7_ahead 153 = .ok (.lcmp, 1) := by decide +kernel
theorem dX7_ahead_154 : decode cX7_ahead 154 = .ok (.ifCond .ne 7, 3) := by decide +kernel
theorem dX7_ahead_157 : decode cX7_ahead 157 = .ok (.ldc2_w 221, 3) := by decide +kernel
theorem dX7_ahead_160 : decode cX7_ahead 160 = .ok (.lreturn, 1) := by decide +kernel
theorem dX7_ahead_161 : decode cX7_ahead 161 = .ok (.iload_n 2, 1) := by decide +kernel
theorem dX7_ahead_162 : decode cX7_ahead 162 = .ok (.iconst 2, 1) := by decide +kernel
theorem dX7_ahead_163 : decode cX7_ahead 163 = .ok (.if_icmp .ge 14, 3) := by decide +kernel
theorem dX7_ahead_166 : decode cX7_ahead 166 = .ok (.lload 13, 2) := by decide +kernel
theorem dX7_ahead_168 : decode cX7_ahead 168 = .ok (.lload 11, 2) := by decide +kernel
theorem dX7_ahead_170 : decode cX7_ahead 170 = .ok (.iload_n 2, 1) := by decide +kernel
theorem dX7_ahead_171 : decode cX7_ahead 171 = .ok (.invokestatic 185, 3) := by decide +kernel
theorem dX7_ahead_174 : decode cX7_ahead 174 = .ok (.goto 35, 3) := by decide +kernel
theorem dX7_ahead_177 : decode cX7_ahead 177 = .ok (.lload 5, 2) := by decide +kernel
theorem dX7_ahead_179 : decode cX7_ahead 179 = .ok (.lload 11, 2) := by decide +kernel
theorem dX7_ahead_181 : decode cX7_ahead 181 = .ok (.lmul, 1) := by decide +kernel
theorem dX7_ahead_182 : decode cX7_ahead 182 = .ok (.lload 13, 2) := by decide +kernel
theorem dX7_ahead_184 : decode cX7_ahead 184 = .ok (.aload_n 0, 1) := by decide +kernel
theorem dX7_ahead_185 : decode cX7_ahead 185 = .ok (.getfield 218, 3) := by decide +kernel
theorem dX7_ahead_188 : decode cX7_ahead 188 = .ok (.iload_n 1, 1) := by decide +kernel
theorem dX7_ahead_189 : decode cX7_ahead 189 = .ok (.imul, 1) := by decide +kernel
theorem dX7_ahead_190 : decode cX7_ahead 190 = .ok (.i2l, 1) := by decide +kernel
theorem dX7_ahead_191 : decode cX7_ahead 191 = .ok (.lload_n 3, 1) := by decide +kernel
theorem dX7_ahead_192 : decode cX7_ahead 192 = .ok (.lsub, 1) := by decide +kernel
theorem dX7_ahead_193 : decode cX7_ahead 193 = .ok (.lmul, 1) := by decide +kernel
theorem dX7_ahead_194 : decode cX7_ahead 194 = .ok (.ladd, 1) := by decide +kernel
theorem dX7_ahead_195 : decode cX7_ahead 195 = .ok (.aload_n 0, 1) := by decide +kernel
theorem dX7_ahead_196 : decode cX7_ahead 196 = .ok (.getfield 218, 3) := by decide +kernel
theorem dX7_ahead_199 : decode cX7_ahead 199 = .ok (.i2l, 1) := by decide +kernel
theorem dX7_ahead_200 : decode cX7_ahead 200 = .ok (.lload 11, 2) := by decide +kernel
theorem dX7_ahead_202 : decode cX7_ahead 202 = .ok (.lmul, 1) := by decide +kernel
theorem dX7_ahead_203 : decode cX7_ahead 203 = .ok (.iload_n 2, 1) := by decide +kernel
theorem dX7_ahead_204 : decode cX7_ahead 204 = .ok (.iconst 2, 1) := by decide +kernel
theorem dX7_ahead_205 : decode cX7_ahead 205 = .ok (.isub, 1) := by decide +kernel
theorem dX7_ahead_206 : decode cX7_ahead 206 = .ok (.invokestatic 185, 3) := by decide +kernel
theorem dX7_ahead_209 : decode cX7_ahead 209 = .ok (.lreturn, 1) := by decide +kernel
set_option maxRecDepth 20000 in
theorem ggX7_mark_X7_in : GoodIn wsX7_mark wsX7_in := goodIn_r _ [13] (by decide +kernel) (by decide +kernel)
set_option maxRecDepth 20000 in
theorem gX7_mark_X7_in : GoodIn wsX7_mark (va_wsS RX7 74 yX7_in wsX7_in) := goodIn_app (goodIn_of _ (by decide +kernel)) ggX7_mark_X7_in
set_option maxRecDepth 20000 in
theorem ggX7_mark_X7_isTrouble : GoodIn wsX7_mark wsX7_isTrouble := goodIn_r _ [16, 10, 11, 12, 13] (by decide +kernel) (by decide +kernel)
set_option maxRecDepth 20000 in
theorem gX7_mark_X7_isTrouble : GoodIn wsX7_mark (va_wsS RX7 164 yX7_isTrouble wsX7_isTrouble) := goodIn_app (goodIn_of _ (by decide +kernel)) ggX7_mark_X7_isTrouble
set_option maxRecDepth 20000 in
theorem ggX7_mark_X7_takeNow : GoodIn wsX7_mark wsX7_takeNow := goodIn_r _ [20, 21, 5, 22, 23, 24, 12, 25, 26, 27, 32, 33, 34, 35, 36, 37, 38, 39, 40, 41, 42, 43, 44, 45, 46, 47, 48, 49, 50, 51, 52, 53, 54, 55, 56, 57, 58, 59, 60, 61] (by decide +kernel) (by decide +kernel)
set_option maxRecDepth 20000 in
theorem gX7_mark_X7_takeNow : GoodIn wsX7_mark (wsV RX7 142 RX7 yX7_takeNow wsX7_takeNow) := goodIn_app (goodIn_of _ (by decide +kernel)) ggX7_mark_X7_takeNow
set_option maxRecDepth 20000 in
theorem ggX7_mark_X7_depth : GoodIn wsX7_mark wsX7_depth := goodIn_r _ [31, 26, 21, 32, 33, 34, 35, 36, 37, 38, 39, 40, 41, 42, 43, 44, 45, 46, 47, 48, 49, 50, 51, 52, 53, 54, 55, 56, 57, 58, 59, 60, 61] (by decide +kernel) (by decide +kernel)
set_option maxRecDepth 20000 in
theorem gX7_mark_X7_depth : GoodIn wsX7_mark (wsV RX7 127 RX7 yX7_depth wsX7_depth) := goodIn_app (goodIn_of _ (by decide +kernel)) ggX7_mark_X7_depth
theorem dX7_mark_0 : decode cX7_mark 0 = .ok (.iload_n 1, 1) := by decide +kernel
theorem dX7_mark_1 : decode cX7_mark 1 = .ok (.iconst 0, 1) := by decide +kernel
theorem dX7_mark_2 : decode cX7_mark 2 = .ok (.iconst 5, 1) := by decide +kernel
theorem dX7_mark_3 : decode cX7_mark 3 = .ok (.invokestatic 74, 3) := by decide +kernel
theorem dX7_mark_6 : decode cX7_mark 6 = .ok (.ifCond .eq 10, 3) := by decide +kernel
theorem dX7_mark_9 : decode cX7_mark 9 = .ok (.iload_n 2, 1) := by decide +kernel
theorem dX7_mark_10 : decode cX7_mark 10 = .ok (.invokestatic 164, 3) := by decide +kernel
theorem dX7_mark_13 : decode cX7_mark 13 = .ok (.ifCond .ne 6, 3) := by decide +kernel
theorem dX7_mark_16 : decode cX7_mark 16 = .ok (.ldc 223, 2) := by decide +kernel
theorem dX7_mark_18 : decode cX7_mark 18 = .ok (.ireturn, 1) := by decide +kernel
theorem dX7_mark_19 : decode cX7_mark 19 = .ok (.aload_n 0, 1) := by decide +kernel
theorem dX7_mark_20 : decode cX7_mark 20 = .ok (.invokevirtual 142, 3) := by decide +kernel
theorem dX7_mark_23 : decode cX7_mark 23 = .ok (.aload_n 0, 1) := by decide +kernel
theorem dX7_mark_24 : decode cX7_mark 24 = .ok (.getfield 39, 3) := by decide +kernel
theorem dX7_mark_27 : decode cX7_mark 27 = .ok (.iload_n 2, 1) := by decide +kernel
theorem dX7_mark_28 : decode cX7_mark 28 = .ok (.iaload, 1) := by decide +kernel
theorem dX7_mark_29 : decode cX7_mark 29 = .ok (.istore_n 3, 1) := by decide +kernel
theorem dX7_mark_30 : decode cX7_mark 30 = .ok (.iload_n 1, 1) := by decide +kernel
theorem dX7_mark_31 : decode cX7_mark 31 = .ok (.tableswitch 133 0 4 #[33, 45, 66, 87, 110], 33) := by decide +kernel
theorem dX7_mark_64 : decode cX7_mark 64 = .ok (.aload_n 0, 1) := by decide +kernel
theorem dX7_mark_65 : decode cX7_mark 65 = .ok (.dup, 1) := by decide +kernel
theorem dX7_mark_66 : decode cX7_mark 66 = .ok (.getfield 224, 3) := by decide +kernel
theorem dX7_mark_69 : decode cX7_mark 69 = .ok (.lconst 1, 1) := by decide +kernel
theorem dX7_mark_70 : decode cX7_mark 70 = .ok (.ladd, 1) := by decide +kernel
theorem dX7_mark_71 : decode cX7_mark 71 = .ok (.putfield 224, 3) := by decide +kernel
theorem dX7_mark_74 : decode cX7_mark 74 = .ok (.iload_n 3, 1) := by decide +kernel
theorem dX7_mark_75 : decode cX7_mark 75 = .ok (.ireturn, 1) := by decide +kernel
theorem dX7_mark_76 : decode cX7_mark 76 = .ok (.aload_n 0, 1) := by decide +kernel
theorem dX7_mark_77 : decode cX7_mark 77 = .ok (.dup, 1) := by decide +kernel
theorem dX7_mark_78 : decode cX7_mark 78 = .ok (.getfield 224, 3) := by decide +kernel
theorem dX7_mark_81 : decode cX7_mark 81 = .ok (.ldc2_w 228, 3) := by decide +kernel
theorem dX7_mark_84 : decode cX7_mark 84 = .ok (.ladd, 1) := by decide +kernel
theorem dX7_mark_85 : decode cX7_mark 85 = .ok (.putfield 224, 3) := by decide +kernel
theorem dX7_mark_88 : decode cX7_mark 88 = .ok (.iload_n 3, 1) := by decide +kernel
theorem dX7_mark_89 : decode cX7_mark 89 = .ok (.aload_n 0, 1) := by decide +kernel
theorem dX7_mark_90 : decode cX7_mark 90 = .ok (.getfield 23, 3) := by decide +kernel
theorem dX7_mark_93 : decode cX7_mark 93 = .ok (.iconst 1, 1) := by decide +kernel
theorem dX7_mark_94 : decode cX7_mark 94 = .ok (.iaload, 1) := by decide +kernel
theorem dX7_mark_95 : decode cX7_mark 95 = .ok (.iadd, 1) := by decide +kernel
theorem dX7_mark_96 : decode cX7_mark 96 = .ok (.ireturn, 1) := by decide +kernel
theorem dX7_mark_97 : decode cX7_mark 97 = .ok (.aload_n 0, 1) := by decide +kernel
theorem dX7_mark_98 : decode cX7_mark 98 = .ok (.dup, 1) := by decide +kernel
theorem dX7_mark_99 : decode cX7_mark 99 = .ok (.getfield 224, 3) := by decide +kernel
theorem dX7_mark_102 : decode cX7_mark 102 = .ok (.ldc2_w 230, 3) := by decide +kernel
theorem dX7_mark_105 : decode cX7_mark 105 = .ok (.ladd, 1) := by decide +kernel
theorem dX7_mark_106 : decode cX7_mark 106 = .ok (.putfield 224, 3) := by decide +kernel
theorem dX7_mark_109 : decode cX7_mark 109 = .ok (.iload_n 3, 1) := by decide +kernel
theorem dX7_mark_110 : decode cX7_mark 110 = .ok (.aload_n 0, 1) := by decide +kernel
theorem dX7_mark_111 : decode cX7_mark 111 = .ok (.getfield 23, 3) := by decide +kernel
theorem dX7_mark_114 : decode cX7_mark 114 = .ok (.iconst 0, 1) := by decide +kernel
theorem dX7_mark_115 : decode cX7_mark 115 = .ok (.iaload, 1) := by decide +kernel
theorem dX7_mark_116 : decode cX7_mark 116 = .ok (.isub, 1) := by decide +kernel
theorem dX7_mark_117 : decode cX7_mark 117 = .ok (.ireturn, 1) := by decide +kernel
theorem dX7_mark_118 : decode cX7_mark 118 = .ok (.aload_n 0, 1) := by decide +kernel
theorem dX7_mark_119 : decode cX7_mark 119 = .ok (.dup, 1) := by decide +kernel
theorem dX7_mark_120 : decode cX7_mark 120 = .ok (.getfield 224, 3) := by decide +kernel
theorem dX7_mark_123 : decode cX7_mark 123 = .ok (.ldc2_w 232, 3) := by decide +kernel
theorem dX7_mark_126 : decode cX7_mark 126 = .ok (.ladd, 1) := by decide +kernel
theorem dX7_mark_127 : decode cX7_mark 127 = .ok (.putfield 224, 3) := by decide +kernel
theorem dX7_mark_130 : decode cX7_mark 130 = .ok (.iconst 2, 1) := by decide +kernel
theorem dX7_mark_131 : decode cX7_mark 131 = .ok (.iload_n 3, 1) := by decide +kernel
theorem dX7_mark_132 : decode cX7_mark 132 = .ok (.aload_n 0, 1) := by decide +kernel
theorem dX7_mark_133 : decode cX7_mark 133 = .ok (.getfield 23, 3) := by decide +kernel
theorem dX7_mark_136 : decode cX7_mark 136 = .ok (.iconst 0, 1) := by decide +kernel
theorem dX7_mark_137 : decode cX7_mark 137 = .ok (.iaload, 1) := by decide +kernel
theorem dX7_mark_138 : decode cX7_mark 138 = .ok (.isub, 1) := by decide +kernel
theorem dX7_mark_139 : decode cX7_mark 139 = .ok (.imul, 1) := by decide +kernel
theorem dX7_mark_140 : decode cX7_mark 140 = .ok (.ireturn, 1) := by decide +kernel
theorem dX7_mark_141 : decode cX7_mark 141 = .ok (.aload_n 0, 1) := by decide +kernel
theorem dX7_mark_142 : decode cX7_mark 142 = .ok (.dup, 1) := by decide +kernel
theorem dX7_mark_143 : decode cX7_mark 143 = .ok (.getfield 224, 3) := by decide +kernel
theorem dX7_mark_146 : decode cX7_mark 146 = .ok (.ldc2_w 234, 3) := by decide +kernel
theorem dX7_mark_149 : decode cX7_mark 149 = .ok (.ladd, 1) := by decide +kernel
theorem dX7_mark_150 : decode cX7_mark 150 = .ok (.putfield 224, 3) := by decide +kernel
theorem dX7_mark_153 : decode cX7_mark 153 = .ok (.iload_n 3, 1) := by decide +kernel
theorem dX7_mark_154 : decode cX7_mark 154 = .ok (.aload_n 0, 1) := by decide +kernel
theorem dX7_mark_155 : decode cX7_mark 155 = .ok (.getfield 23, 3) := by decide +kernel
theorem dX7_mark_158 : decode cX7_mark 158 = .ok (.iconst 1, 1) := by decide +kernel
theorem dX7_mark_159 : decode cX7_mark 159 = .ok (.iaload, 1) := by decide +kernel
theorem dX7_mark_160 : decode cX7_mark 160 = .ok (.iadd, 1) := by decide +kernel
theorem dX7_mark_161 : decode cX7_mark 161 = .ok (.iload_n 2, 1) := by decide +kernel
theorem dX7_mark_162 : decode cX7_mark 162 = .ok (.iadd, 1) := by decide +kernel
theorem dX7_mark_163 : decode cX7_mark 163 = .ok (.ireturn, 1) := by decide +kernel
theorem dX7_mark_164 : decode cX7_mark 164 = .ok (.aload_n 0, 1) := by decide +kernel
theorem dX7_mark_165 : decode cX7_mark 165 = .ok (.dup, 1) := by decide +kernel
theorem dX7_mark_166 : decode cX7_mark 166 = .ok (.getfield 224, 3) := by decide +kernel
theorem dX7_mark_169 : decode cX7_mark 169 = .ok (.ldc2_w 236, 3) := by decide +kernel
theorem dX7_mark_172 : decode cX7_mark 172 = .ok (.ladd, 1) := by decide +kernel
theorem dX7_mark_173 : decode cX7_mark 173 = .ok (.putfield 224, 3) := by decide +kernel
theorem dX7_mark_176 : decode cX7_mark 176 = .ok (.iload_n 3, 1) := by decide +kernel
theorem dX7_mark_177 : decode cX7_mark 177 = .ok (.aload_n 0, 1) := by decide +kernel
theorem dX7_mark_178 : decode cX7_mark 178 = .ok (.invokevirtual 127, 3) := by decide +kernel
theorem dX7_mark_181 : decode cX7_mark 181 = .ok (.iadd, 1) := by decide +kernel
theorem dX7_mark_182 : decode cX7_mark 182 = .ok (.ireturn, 1) := by decide +kernel
theorem dX7_copy_0 : decode cX7_copy 0 = .ok (.iconst 0, 1) := by decide +kernel
theorem dX7_copy_1 : decode cX7_copy 1 = .ok (.istore_n 3, 1) := by decide +kernel
theorem dX7_copy_2 : decode cX7_copy 2 = .ok (.iload_n 3, 1) := by decide +kernel
theorem dX7_copy_3 : decode cX7_copy 3 = .ok (.bipush 7, 2) := by decide +kernel
theorem dX7_copy_5 : decode cX7_copy 5 = .ok (.if_icmp .ge 31, 3) := by decide +kernel
theorem dX7_copy_8 : decode cX7_copy 8 = .ok (.aload_n 0, 1) := by decide +kernel
theorem dX7_copy_9 : decode cX7_copy 9 = .ok (.getfield 23, 3) := by decide +kernel
theorem dX7_copy_12 : decode cX7_copy 12 = .ok (.bipush 7, 2) := by decide +kernel
theorem dX7_copy_14 : decode cX7_copy 14 = .ok (.iload_n 2, 1) := by decide +kernel
theorem dX7_copy_15 : decode cX7_copy 15 = .ok (.imul, 1) := by decide +kernel
theorem dX7_copy_16 : decode cX7_copy 16 = .ok (.iload_n 3, 1) := by decide +kernel
theorem dX7_copy_17 : decode cX7_copy 17 = .ok (.iadd, 1) := by decide +kernel
theorem dX7_copy_18 : decode cX7_copy 18 = .ok (.aload_n 0, 1) := by decide +kernel
theorem dX7_copy_19 : decode cX7_copy 19 = .ok (.getfield 23, 3) := by decide +kernel
theorem dX7_copy_22 : decode cX7_copy 22 = .ok (.bipush 7, 2) := by decide +kernel
theorem dX7_copy_24 : decode cX7_copy 24 = .ok (.iload_n 1, 1) := by decide +kernel
theorem dX7_copy_25 : decode cX7_copy 25 = .ok (.imul, 1) := by decide +kernel
theorem dX7_copy_26 : decode cX7_copy 26 = .ok (.iload_n 3, 1) := by decide +kernel
theorem dX7_copy_27 : decode cX7_copy 27 = .ok (.iadd, 1) := by decide +kernel
theorem dX7_copy_28 : decode cX7_copy 28 = .ok (.iaload, 1) := by decide +kernel
theorem dX7_copy_29 : decode cX7_copy 29 = .ok (.iastore, 1) := by decide +kernel
theorem dX7_copy_30 : decode cX7_copy 30 = .ok (.iinc 3 1, 3) := by decide +kernel
theorem dX7_copy_33 : decode cX7_copy 33 = .ok (.goto (-31), 3) := by decide +kernel
theorem dX7_copy_36 : decode cX7_copy 36 = .ok (.return_, 1) := by decide +kernel
set_option maxRecDepth 20000 in
theorem ggX7_keep_X7_in : GoodIn wsX7_keep wsX7_in := goodIn_r _ [6] (by decide +kernel) (by decide +kernel)
set_option maxRecDepth 20000 in
theorem gX7_keep_X7_in : GoodIn wsX7_keep (va_wsS RX7 74 yX7_in wsX7_in) := goodIn_app (goodIn_of _ (by decide +kernel)) ggX7_keep_X7_in
set_option maxRecDepth 20000 in
theorem ggX7_keep_X7_copy : GoodIn wsX7_keep wsX7_copy := goodIn_r _ [10, 2, 11, 12, 13, 14, 15, 16, 17, 18, 19, 20, 21, 22, 23, 24, 25, 26, 27, 28, 29, 30, 31, 32, 33, 34, 35, 36, 37, 38, 39, 40] (by decide +kernel) (by decide +kernel)
set_option maxRecDepth 20000 in
theorem gX7_keep_X7_copy : GoodIn wsX7_keep (wsV RX7 238 RX7 yX7_copy wsX7_copy) := goodIn_app (goodIn_of _ (by decide +kernel)) ggX7_keep_X7_copy
theorem dX7_keep_0 : decode cX7_keep 0 = .ok (.iload_n 1, 1) := by decide +kernel
theorem dX7_keep_1 : decode cX7_keep 1 = .ok (.iconst 0, 1) := by decide +kernel
theorem dX7_keep_2 : decode cX7_keep 2 = .ok (.iconst 1, 1) := by decide +kernel
theorem dX7_keep_3 : decode cX7_keep 3 = .ok (.invokestatic 74, 3) := by decide +kernel
theorem dX7_keep_6 : decode cX7_keep 6 = .ok (.ifCond .ne 5, 3) := by decide +kernel
theorem dX7_keep_9 : decode cX7_keep 9 = .ok (.iconst (-1), 1) := by decide +kernel
theorem dX7_keep_10 : decode cX7_keep 10 = .ok (.ireturn, 1) := by decide +kernel
theorem dX7_keep_11 : decode cX7_keep 11 = .ok (.aload_n 0, 1) := by decide +kernel
theorem dX7_keep_12 : decode cX7_keep 12 = .ok (.iconst 0, 1) := by decide +kernel
theorem dX7_keep_13 : decode cX7_keep 13 = .ok (.iconst 1, 1) := by decide +kernel
theorem dX7_keep_14 : decode cX7_keep 14 = .ok (.iload_n 1, 1) := by decide +kernel
theorem dX7_keep_15 : decode cX7_keep 15 = .ok (.iadd, 1) := by decide +kernel
theorem dX7_keep_16 : decode cX7_keep 16 = .ok (.invokevirtual 238, 3) := by decide +kernel
theorem dX7_keep_19 : decode cX7_keep 19 = .ok (.aload_n 0, 1) := by decide +kernel
theorem dX7_keep_20 : decode cX7_keep 20 = .ok (.getfield 26, 3) := by decide +kernel
theorem dX7_keep_23 : decode cX7_keep 23 = .ok (.iload_n 1, 1) := by decide +kernel
theorem dX7_keep_24 : decode cX7_keep 24 = .ok (.iconst 1, 1) := by decide +kernel
theorem dX7_keep_25 : decode cX7_keep 25 = .ok (.bastore, 1) := by decide +kernel
theorem dX7_keep_26 : decode cX7_keep 26 = .ok (.aload_n 0, 1) := by decide +kernel
theorem dX7_keep_27 : decode cX7_keep 27 = .ok (.getfield 23, 3) := by decide +kernel
theorem dX7_keep_30 : decode cX7_keep 30 = .ok (.iconst 0, 1) := by decide +kernel
theorem dX7_keep_31 : decode cX7_keep 31 = .ok (.iaload, 1) := by decide +kernel
theorem dX7_keep_32 : decode cX7_keep 32 = .ok (.ireturn, 1) := by decide +kernel
set_option maxRecDepth 20000 in
theorem ggX7_back_X7_in : GoodIn wsX7_back wsX7_in := goodIn_r _ [6] (by decide +kernel) (by decide +kernel)
set_option maxRecDepth 20000 in
theorem gX7_back_X7_in : GoodIn wsX7_back (va_wsS RX7 74 yX7_in wsX7_in) := goodIn_app (goodIn_of _ (by decide +kernel)) ggX7_back_X7_in
set_option maxRecDepth 20000 in
theorem ggX7_back_X7_copy : GoodIn wsX7_back wsX7_copy := goodIn_r _ [10, 2, 11, 12, 13, 14, 15, 16, 17, 18, 19, 20, 21, 22, 23, 24, 25, 26, 27, 28, 29, 30, 31, 32, 33, 34, 35, 36, 37, 38, 39, 40] (by decide +kernel) (by decide +kernel)
set_option maxRecDepth 20000 in
theorem gX7_back_X7_copy : GoodIn wsX7_back (wsV RX7 238 RX7 yX7_copy wsX7_copy) := goodIn_app (goodIn_of _ (by decide +kernel)) ggX7_back_X7_copy
theorem dX7_back_0 : decode cX7_back 0 = .ok (.iload_n 1, 1) := by decide +kernel
theorem dX7_back_1 : decode cX7_back 1 = .ok (.iconst 0, 1) := by decide +kernel
theorem dX7_back_2 : decode cX7_back 2 = .ok (.iconst 1, 1) := by decide +kernel
theorem dX7_back_3 : decode cX7_back 3 = .ok (.invokestatic 74, 3) := by decide +kernel
theorem dX7_back_6 : decode cX7_back 6 = .ok (.ifCond .ne 5, 3) := by decide +kernel
theorem dX7_back_9 : decode cX7_back 9 = .ok (.iconst (-1), 1) := by decide +kernel
theorem dX7_back_10 : decode cX7_back 10 = .ok (.ireturn, 1) := by decide +kernel
theorem dX7_back_11 : decode cX7_back 11 = .ok (.aload_n 0, 1) := by decide +kernel
theorem dX7_back_12 : decode cX7_back 12 = .ok (.getfield 26, 3) := by decide +kernel
theorem dX7_back_15 : decode cX7_back 15 = .ok (.iload_n 1, 1) := by decide +kernel
theorem dX7_back_16 : decode cX7_back 16 = .ok (.baload, 1) := by decide +kernel
theorem dX7_back_17 : decode cX7_back 17 = .ok (.ifCond .ne 6, 3) := by decide +kernel
theorem dX7_back_20 : decode cX7_back 20 = .ok (.bipush (-2), 2) := by decide +kernel
theorem dX7_back_22 : decode cX7_back 22 = .ok (.ireturn, 1) := by decide +kernel
theorem dX7_back_23 : decode cX7_back 23 = .ok (.aload_n 0, 1) := by decide +kernel
theorem dX7_back_24 : decode cX7_back 24 = .ok (.iconst 1, 1) := by decide +kernel
theorem dX7_back_25 : decode cX7_back 25 = .ok (.iload_n 1, 1) := by decide +kernel
theorem dX7_back_26 : decode cX7_back 26 = .ok (.iadd, 1) := by decide +kernel
theorem dX7_back_27 : decode cX7_back 27 = .ok (.iconst 0, 1) := by decide +kernel
theorem dX7_back_28 : decode cX7_back 28 = .ok (.invokevirtual 238, 3) := by decide +kernel
theorem dX7_back_31 : decode cX7_back 31 = .ok (.aload_n 0, 1) := by decide +kernel
theorem dX7_back_32 : decode cX7_back 32 = .ok (.getfield 23, 3) := by decide +kernel
theorem dX7_back_35 : decode cX7_back 35 = .ok (.iconst 0, 1) := by decide +kernel
theorem dX7_back_36 : decode cX7_back 36 = .ok (.iaload, 1) := by decide +kernel
theorem dX7_back_37 : decode cX7_back 37 = .ok (.ireturn, 1) := by decide +kernel
theorem dX7_count_0 : decode cX7_count 0 = .ok (.iload_n 1, 1) := by decide +kernel
theorem dX7_count_1 : decode cX7_count 1 = .ok (.ifCond .ne 10, 3) := by decide +kernel
theorem dX7_count_4 : decode cX7_count 4 = .ok (.aload_n 0, 1) := by decide +kernel
theorem dX7_count_5 : decode cX7_count 5 = .ok (.getfield 161, 3) := by decide +kernel
theorem dX7_count_8 : decode cX7_count 8 = .ok (.goto 40, 3) := by decide +kernel
theorem dX7_count_11 : decode cX7_count 11 = .ok (.iload_n 1, 1) := by decide +kernel
theorem dX7_count_12 : decode cX7_count 12 = .ok (.iconst 1, 1) := by decide +kernel
theorem dX7_count_13 : decode cX7_count 13 = .ok (.if_icmp .ne 10, 3) := by decide +kernel
theorem dX7_count_16 : decode cX7_count 16 = .ok (.aload_n 0, 1) := by decide +kernel
theorem dX7_count_17 : decode cX7_count 17 = .ok (.getfield 215, 3) := by decide +kernel
theorem dX7_count_20 : decode cX7_count 20 = .ok (.goto 28, 3) := by decide +kernel
theorem dX7_count_23 : decode cX7_count 23 = .ok (.iload_n 1, 1) := by decide +kernel
theorem dX7_count_24 : decode cX7_count 24 = .ok (.iconst 2, 1) := by decide +kernel
theorem dX7_count_25 : decode cX7_count 25 = .ok (.if_icmp .ne 10, 3) := by decide +kernel
theorem dX7_count_28 : decode cX7_count 28 = .ok (.aload_n 0, 1) := by decide +kernel
theorem dX7_count_29 : decode cX7_count 29 = .ok (.getfield 218, 3) := by decide +kernel
theorem dX7_count_32 : decode cX7_count 32 = .ok (.goto 16, 3) := by decide +kernel
theorem dX7_count_35 : decode cX7_count 35 = .ok (.iload_n 1, 1) := by decide +kernel
theorem dX7_count_36 : decode cX7_count 36 = .ok (.iconst 3, 1) := by decide +kernel
theorem dX7_count_37 : decode cX7_count 37 = .ok (.if_icmp .ne 10, 3) := by decide +kernel
theorem dX7_count_40 : decode cX7_count 40 = .ok (.aload_n 0, 1) := by decide +kernel
theorem dX7_count_41 : decode cX7_count 41 = .ok (.getfield 78, 3) := by decide +kernel
theorem dX7_count_44 : decode cX7_count 44 = .ok (.goto 4, 3) := by decide +kernel
theorem dX7_count_47 : decode cX7_count 47 = .ok (.iconst (-1), 1) := by decide +kernel
theorem dX7_count_48 : decode cX7_count 48 = .ok (.ireturn, 1) := by decide +kernel
theorem dX7_trace_0 : decode cX7_trace 0 = .ok (.aload_n 0, 1) := by decide +kernel
theorem dX7_trace_1 : decode cX7_trace 1 = .ok (.getfield 224, 3) := by decide +kernel
theorem dX7_trace_4 : decode cX7_trace 4 = .ok (.lreturn, 1) := by decide +kernel
theorem dJ9_abs_067f4_0 : decode cJ9_abs_067f4 0 = .ok (.lload_n 0, 1) := by decide +kernel
theorem dJ9_abs_067f4_1 : decode cJ9_abs_067f4 1 = .ok (.lconst 0, 1) := by decide +kernel
theorem dJ9_abs_067f4_2 : decode cJ9_abs_067f4 2 = .ok (.lcmp, 1) := by decide +kernel
theorem dJ9_abs_067f4_3 : decode cJ9_abs_067f4 3 = .ok (.ifCond .ge 8, 3) := by decide +kernel
theorem dJ9_abs_067f4_6 : decode cJ9_abs_067f4 6 = .ok (.lload_n 0, 1) := by decide +kernel
theorem dJ9_abs_067f4_7 : decode cJ9_abs_067f4 7 = .ok (.lneg, 1) := by decide +kernel
theorem dJ9_abs_067f4_8 : decode cJ9_abs_067f4 8 = .ok (.goto 4, 3) := by decide +kernel
theorem dJ9_abs_067f4_11 : decode cJ9_abs_067f4 11 = .ok (.lload_n 0, 1) := by decide +kernel
theorem dJ9_abs_067f4_12 : decode cJ9_abs_067f4 12 = .ok (.lreturn, 1) := by decide +kernel
theorem dJ9_max_7cf53_0 : decode cJ9_max_7cf53 0 = .ok (.iload_n 0, 1) := by decide +kernel
theorem dJ9_max_7cf53_1 : decode cJ9_max_7cf53 1 = .ok (.iload_n 1, 1) := by decide +kernel
theorem dJ9_max_7cf53_2 : decode cJ9_max_7cf53 2 = .ok (.if_icmp .lt 7, 3) := by decide +kernel
theorem dJ9_max_7cf53_5 : decode cJ9_max_7cf53 5 = .ok (.iload_n 0, 1) := by decide +kernel
theorem dJ9_max_7cf53_6 : decode cJ9_max_7cf53 6 = .ok (.goto 4, 3) := by decide +kernel
theorem dJ9_max_7cf53_9 : decode cJ9_max_7cf53 9 = .ok (.iload_n 1, 1) := by decide +kernel
theorem dJ9_max_7cf53_10 : decode cJ9_max_7cf53 10 = .ok (.ireturn, 1) := by decide +kernel
theorem dJ9_min_7cf53_0 : decode cJ9_min_7cf53 0 = .ok (.iload_n 0, 1) := by decide +kernel
theorem dJ9_min_7cf53_1 : decode cJ9_min_7cf53 1 = .ok (.iload_n 1, 1) := by decide +kernel
theorem dJ9_min_7cf53_2 : decode cJ9_min_7cf53 2 = .ok (.if_icmp .gt 7, 3) := by decide +kernel
theorem dJ9_min_7cf53_5 : decode cJ9_min_7cf53 5 = .ok (.iload_n 0, 1) := by decide +kernel
theorem dJ9_min_7cf53_6 : decode cJ9_min_7cf53 6 = .ok (.goto 4, 3) := by decide +kernel
theorem dJ9_min_7cf53_9 : decode cJ9_min_7cf53 9 = .ok (.iload_n 1, 1) := by decide +kernel
theorem dJ9_min_7cf53_10 : decode cJ9_min_7cf53 10 = .ok (.ireturn, 1) := by decide +kernel
set_option maxRecDepth 20000 in
theorem ggJ0_length_8abf5_J0_coder_7d493 : GoodIn wsJ0_length_8abf5 wsJ0_coder_7d493 := goodIn_r _ [6, 7, 8] (by decide +kernel) (by decide +kernel)
set_option maxRecDepth 20000 in
theorem gJ0_length_8abf5_J0_coder_7d493 : GoodIn wsJ0_length_8abf5 (wsV RJ0 335 RJ0 yJ0_coder_7d493 wsJ0_coder_7d493) := goodIn_app (goodIn_of _ (by decide +kernel)) ggJ0_length_8abf5_J0_coder_7d493
theorem dJ0_length_8abf5_0 : decode cJ0_length_8abf5 0 = .ok (.aload_n 0, 1) := by decide +kernel
theorem dJ0_length_8abf5_1 : decode cJ0_length_8abf5 1 = .ok (.getfield 9, 3) := by decide +kernel
theorem dJ0_length_8abf5_4 : decode cJ0_length_8abf5 4 = .ok (.arraylength, 1) := by decide +kernel
theorem dJ0_length_8abf5_5 : decode cJ0_length_8abf5 5 = .ok (.aload_n 0, 1) := by decide +kernel
theorem dJ0_length_8abf5_6 : decode cJ0_length_8abf5 6 = .ok (.invokevirtual 335, 3) := by decide +kernel
theorem dJ0_length_8abf5_9 : decode cJ0_length_8abf5 9 = .ok (.ishr, 1) := by decide +kernel
theorem dJ0_length_8abf5_10 : decode cJ0_length_8abf5 10 = .ok (.ireturn, 1) := by decide +kernel
set_option maxRecDepth 20000 in
theorem ggJ0_charAt_5068e_J0_isLatin1_aae02 : GoodIn wsJ0_charAt_5068e wsJ0_isLatin1_aae02 := goodIn_r _ [6, 7, 8] (by decide +kernel) (by decide +kernel)
set_option maxRecDepth 20000 in
theorem gJ0_charAt_5068e_J0_isLatin1_aae02 : GoodIn wsJ0_charAt_5068e (wsV RJ0 492 RJ0 yJ0_isLatin1_aae02 wsJ0_isLatin1_aae02) := goodIn_app (goodIn_of _ (by decide +kernel)) ggJ0_charAt_5068e_J0_isLatin1_aae02
set_option maxRecDepth 20000 in
theorem ggJ0_charAt_5068e_J1_charAt_3b067 : GoodIn wsJ0_charAt_5068e wsJ1_charAt_3b067 := goodIn_r _ [12, 13, 14, 5, 15, 16, 17, 18, 19, 20] (by decide +kernel) (by decide +kernel)
set_option maxRecDepth 20000 in
theorem gJ0_charAt_5068e_J1_charAt_3b067 : GoodIn wsJ0_charAt_5068e (va_wsS RJ0 495 yJ1_charAt_3b067 wsJ1_charAt_3b067) := goodIn_app (goodIn_of _ (by decide +kernel)) ggJ0_charAt_5068e_J1_charAt_3b067
set_option maxRecDepth 20000 in
theorem ggJ0_charAt_5068e_J2_charAt_3b067 : GoodIn wsJ0_charAt_5068e wsJ2_charAt_3b067 := goodIn_r _ [24, 25, 26, 23, 27, 28, 29, 30, 31, 14, 5, 15, 16, 17, 18, 19, 20, 32, 33, 34, 35, 36, 37] (by decide +kernel) (by decide +kernel)
set_option maxRecDepth 20000 in
theorem gJ0_charAt_5068e_J2_charAt_3b067 : GoodIn wsJ0_charAt_5068e (va_wsS RJ0 498 yJ2_charAt_3b067 wsJ2_charAt_3b067) := goodIn_app (goodIn_of _ (by decide +kernel)) ggJ0_charAt_5068e_J2_charAt_3b067
theorem dJ0_charAt_5068e_0 : decode cJ0_charAt_5068e 0 = .ok (.aload_n 0, 1) := by decide +kernel
theorem dJ0_charAt_5068e_1 : decode cJ0_charAt_5068e 1 = .ok (.invokevirtual 492, 3) := by decide +kernel
theorem dJ0_charAt_5068e_4 : decode cJ0_charAt_5068e 4 = .ok (.ifCond .eq 12, 3) := by decide +kernel
theorem dJ0_charAt_5068e_7 : decode cJ0_charAt_5068e 7 = .ok (.aload_n 0, 1) := by decide +kernel
theorem dJ0_charAt_5068e_8 : decode cJ0_charAt_5068e 8 = .ok (.getfield 9, 3) := by decide +kernel
theorem dJ0_charAt_5068e_11 : decode cJ0_charAt_5068e 11 = .ok (.iload_n 1, 1) := by decide +kernel
theorem dJ0_charAt_5068e_12 : decode cJ0_charAt_5068e 12 = .ok (.invokestatic 495, 3) := by decide +kernel
theorem dJ0_charAt_5068e_15 : decode cJ0_charAt_5068e 15 = .ok (.ireturn, 1) := by decide +kernel
theorem dJ0_charAt_5068e_16 : decode cJ0_charAt_5068e 16 = .ok (.aload_n 0, 1) := by decide +kernel
theorem dJ0_charAt_5068e_17 : decode cJ0_charAt_5068e 17 = .ok (.getfield 9, 3) := by decide +kernel
theorem dJ0_charAt_5068e_20 : decode cJ0_charAt_5068e 20 = .ok (.iload_n 1, 1) := by decide +kernel
theorem dJ0_charAt_5068e_21 : decode cJ0_charAt_5068e 21 = .ok (.invokestatic 498, 3) := by decide +kernel
theorem dJ0_charAt_5068e_24 : decode cJ0_charAt_5068e 24 = .ok (.ireturn, 1) := by decide +kernel
theorem dJ0_coder_7d493_0 : decode cJ0_coder_7d493 0 = .ok (.getstatic 38, 3) := by decide +kernel
theorem dJ0_coder_7d493_3 : decode cJ0_coder_7d493 3 = .ok (.ifCond .eq 10, 3) := by decide +kernel
theorem dJ0_coder_7d493_6 : decode cJ0_coder_7d493 6 = .ok (.aload_n 0, 1) := by decide +kernel
theorem dJ0_coder_7d493_7 : decode cJ0_coder_7d493 7 = .ok (.getfield 15, 3) := by decide +kernel
theorem dJ0_coder_7d493_10 : decode cJ0_coder_7d493 10 = .ok (.goto 4, 3) := by decide +kernel
theorem dJ0_coder_7d493_13 : decode cJ0_coder_7d493 13 = .ok (.iconst 1, 1) := by decide +kernel
theorem dJ0_coder_7d493_14 : decode cJ0_coder_7d493 14 = .ok (.ireturn, 1) := by decide +kernel
theorem dJ0_isLatin1_aae02_0 : decode cJ0_isLatin1_aae02 0 = .ok (.getstatic 38, 3) := by decide +kernel
theorem dJ0_isLatin1_aae02_3 : decode cJ0_isLatin1_aae02 3 = .ok (.ifCond .eq 14, 3) := by decide +kernel
theorem dJ0_isLatin1_aae02_6 : decode cJ0_isLatin1_aae02 6 = .ok (.aload_n 0, 1) := by decide +kernel
theorem dJ0_isLatin1_aae02_7 : decode cJ0_isLatin1_aae02 7 = .ok (.getfield 15, 3) := by decide +kernel
theorem dJ0_isLatin1_aae02_10 : decode cJ0_isLatin1_aae02 10 = .ok (.ifCond .ne 7, 3) := by decide +kernel
theorem dJ0_isLatin1_aae02_13 : decode cJ0_isLatin1_aae02 13 = .ok (.iconst 1, 1) := by decide +kernel
theorem dJ0_isLatin1_aae02_14 : decode cJ0_isLatin1_aae02 14 = .ok (.goto 4, 3) := by decide +kernel
theorem dJ0_isLatin1_aae02_17 : decode cJ0_isLatin1_aae02 17 = .ok (.iconst 0, 1) := by decide +kernel
theorem dJ0_isLatin1_aae02_18 : decode cJ0_isLatin1_aae02 18 = .ok (.ireturn, 1) := by decide +kernel
set_option maxRecDepth 20000 in
theorem ggJ0_checkIndex_df160_J3_checkIndex_8e157 : GoodIn wsJ0_checkIndex_df160 wsJ3_checkIndex_8e157 := goodIn_r _ [5] (by decide +kernel) (by decide +kernel)
set_option maxRecDepth 20000 in
theorem gJ0_checkIndex_df160_J3_checkIndex_8e157 : GoodIn wsJ0_checkIndex_df160 (va_wsS RJ0 1059 yJ3_checkIndex_8e157 wsJ3_checkIndex_8e157) := goodIn_app (goodIn_of _ (by decide +kernel)) ggJ0_checkIndex_df160_J3_checkIndex_8e157
theorem dJ0_checkIndex_df160_0 : decode cJ0_checkIndex_df160 0 = .ok (.iload_n 0, 1) := by decide +kernel
theorem dJ0_checkIndex_df160_1 : decode cJ0_checkIndex_df160 1 = .ok (.iload_n 1, 1) := by decide +kernel
theorem dJ0_checkIndex_df160_2 : decode cJ0_checkIndex_df160 2 = .ok (.getstatic 1053, 3) := by decide +kernel
theorem dJ0_checkIndex_df160_5 : decode cJ0_checkIndex_df160 5 = .ok (.invokestatic 1059, 3) := by decide +kernel
theorem dJ0_checkIndex_df160_8 : decode cJ0_checkIndex_df160 8 = .ok (.pop, 1) := by decide +kernel
theorem dJ0_checkIndex_df160_9 : decode cJ0_checkIndex_df160 9 = .ok (.return_, 1) := by decide +kernel
set_option maxRecDepth 20000 in
theorem ggJ1_charAt_3b067_J0_checkIndex_df160 : GoodIn wsJ1_charAt_3b067 wsJ0_checkIndex_df160 := goodIn_r _ [4, 5, 6, 7, 8, 9] (by decide +kernel) (by decide +kernel)
set_option maxRecDepth 20000 in
theorem gJ1_charAt_3b067_J0_checkIndex_df160 : GoodIn wsJ1_charAt_3b067 (va_wsS RJ1 9 yJ0_checkIndex_df160 wsJ0_checkIndex_df160) := goodIn_app (goodIn_of _ (by decide +kernel)) ggJ1_charAt_3b067_J0_checkIndex_df160
theorem dJ1_charAt_3b067_0 : decode cJ1_charAt_3b067 0 = .ok (.iload_n 1, 1) := by decide +kernel
theorem dJ1_charAt_3b067_1 : decode cJ1_charAt_3b067 1 = .ok (.aload_n 0, 1) := by decide +kernel
theorem dJ1_charAt_3b067_2 : decode cJ1_charAt_3b067 2 = .ok (.arraylength, 1) := by decide +kernel
theorem dJ1_charAt_3b067_3 : decode cJ1_charAt_3b067 3 = .ok (.invokestatic 9, 3) := by decide +kernel
theorem dJ1_charAt_3b067_6 : decode cJ1_charAt_3b067 6 = .ok (.aload_n 0, 1) := by decide +kernel
theorem dJ1_charAt_3b067_7 : decode cJ1_charAt_3b067 7 = .ok (.iload_n 1, 1) := by decide +kernel
theorem dJ1_charAt_3b067_8 : decode cJ1_charAt_3b067 8 = .ok (.baload, 1) := by decide +kernel
theorem dJ1_charAt_3b067_9 : decode cJ1_charAt_3b067 9 = .ok (.sipush 255, 3) := by decide +kernel
theorem dJ1_charAt_3b067_12 : decode cJ1_charAt_3b067 12 = .ok (.iand, 1) := by decide +kernel
theorem dJ1_charAt_3b067_13 : decode cJ1_charAt_3b067 13 = .ok (.i2c, 1) := by decide +kernel
theorem dJ1_charAt_3b067_14 : decode cJ1_charAt_3b067 14 = .ok (.ireturn, 1) := by decide +kernel
set_option maxRecDepth 20000 in
theorem ggJ2_getChar_3b067_J2_length_9d52b : GoodIn wsJ2_getChar_3b067 wsJ2_length_9d52b := goodIn_r _ [7] (by decide +kernel) (by decide +kernel)
set_option maxRecDepth 20000 in
theorem gJ2_getChar_3b067_J2_length_9d52b : GoodIn wsJ2_getChar_3b067 (va_wsS RJ2 48 yJ2_length_9d52b wsJ2_length_9d52b) := goodIn_app (goodIn_of _ (by decide +kernel)) ggJ2_getChar_3b067_J2_length_9d52b
theorem dJ2_getChar_3b067_0 : decode cJ2_getChar_3b067 0 = .ok (.getstatic 44, 3) := by decide +kernel
theorem dJ2_getChar_3b067_3 : decode cJ2_getChar_3b067 3 = .ok (.ifCond .ne 25, 3) := by decide +kernel
theorem dJ2_getChar_3b067_6 : decode cJ2_getChar_3b067 6 = .ok (.iload_n 1, 1) := by decide +kernel
theorem dJ2_getChar_3b067_7 : decode cJ2_getChar_3b067 7 = .ok (.ifCond .lt 11, 3) := by decide +kernel
theorem dJ2_getChar_3b067_10 : decode cJ2_getChar_3b067 10 = .ok (.iload_n 1, 1) := by decide +kernel
theorem dJ2_getChar_3b067_11 : decode cJ2_getChar_3b067 11 = .ok (.aload_n 0, 1) := by decide +kernel
theorem dJ2_getChar_3b067_12 : decode cJ2_getChar_3b067 12 = .ok (.invokestatic 48, 3) := by decide +kernel
theorem dJ2_getChar_3b067_15 : decode cJ2_getChar_3b067 15 = .ok (.if_icmp .lt 13, 3) := by decide +kernel
theorem dJ2_getChar_3b067_18 : decode cJ2_getChar_3b067 18 = .ok (.new 52, 3) := by decide +kernel
theorem dJ2_getChar_3b067_21 : decode cJ2_getChar_3b067 21 = .ok (.dup, 1) := by decide +kernel
theorem dJ2_getChar_3b067_22 : decode cJ2_getChar_3b067 22 = .ok (.ldc 54, 2) := by decide +kernel
theorem dJ2_getChar_3b067_24 : decode cJ2_getChar_3b067 24 = .ok (.invokespecial 56, 3) := by decide +kernel
theorem dJ2_getChar_3b067_27 : decode cJ2_getChar_3b067 27 = .ok (.athrow, 1) := by decide +kernel
theorem dJ2_getChar_3b067_28 : decode cJ2_getChar_3b067 28 = .ok (.iload_n 1, 1) := by decide +kernel
theorem dJ2_getChar_3b067_29 : decode cJ2_getChar_3b067 29 = .ok (.iconst 1, 1) := by decide +kernel
theorem dJ2_getChar_3b067_30 : decode cJ2_getChar_3b067 30 = .ok (.ishl, 1) := by decide +kernel
theorem dJ2_getChar_3b067_31 : decode cJ2_getChar_3b067 31 = .ok (.istore_n 1, 1) := by decide +kernel
theorem dJ2_getChar_3b067_32 : decode cJ2_getChar_3b067 32 = .ok (.aload_n 0, 1) := by decide +kernel
theorem dJ2_getChar_3b067_33 : decode cJ2_getChar_3b067 33 = .ok (.iload_n 1, 1) := by decide +kernel
theorem dJ2_getChar_3b067_34 : decode cJ2_getChar_3b067 34 = .ok (.iinc 1 1, 3) := by decide +kernel
theorem dJ2_getChar_3b067_37 : decode cJ2_getChar_3b067 37 = .ok (.baload, 1) := by decide +kernel
theorem dJ2_getChar_3b067_38 : decode cJ2_getChar_3b067 38 = .ok (.sipush 255, 3) := by decide +kernel
theorem dJ2_getChar_3b067_41 : decode cJ2_getChar_3b067 41 = .ok (.iand, 1) := by decide +kernel
theorem dJ2_getChar_3b067_42 : decode cJ2_getChar_3b067 42 = .ok (.getstatic 59, 3) := by decide +kernel
theorem dJ2_getChar_3b067_45 : decode cJ2_getChar_3b067 45 = .ok (.ishl, 1) := by decide +kernel
theorem dJ2_getChar_3b067_46 : decode cJ2_getChar_3b067 46 = .ok (.aload_n 0, 1) := by decide +kernel
theorem dJ2_getChar_3b067_47 : decode cJ2_getChar_3b067 47 = .ok (.iload_n 1, 1) := by decide +kernel
theorem dJ2_getChar_3b067_48 : decode cJ2_getChar_3b067 48 = .ok (.baload, 1) := by decide +kernel
theorem dJ2_getChar_3b067_49 : decode cJ2_getChar_3b067 49 = .ok (.sipush 255, 3) := by decide +kernel
theorem dJ2_getChar_3b067_52 : decode cJ2_getChar_3b067 52 = .ok (.iand, 1) := by decide +kernel
theorem dJ2_getChar_3b067_53 : decode cJ2_getChar_3b067 53 = .ok (.getstatic 63, 3) := by decide +kernel
theorem dJ2_getChar_3b067_56 : decode cJ2_getChar_3b067 56 = .ok (.ishl, 1) := by decide +kernel
theorem dJ2_getChar_3b067_57 : decode cJ2_getChar_3b067 57 = .ok (.ior, 1) := by decide +kernel
theorem dJ2_getChar_3b067_58 : decode cJ2_getChar_3b067 58 = .ok (.i2c, 1) := by decide +kernel
theorem dJ2_getChar_3b067_59 : decode cJ2_getChar_3b067 59 = .ok (.ireturn, 1) := by decide +kernel
theorem dJ2_length_9d52b_0 : decode cJ2_length_9d52b 0 = .ok (.aload_n 0, 1) := by decide +kernel
theorem dJ2_length_9d52b_1 : decode cJ2_length_9d52b 1 = .ok (.arraylength, 1) := by decide +kernel
theorem dJ2_length_9d52b_2 : decode cJ2_length_9d52b 2 = .ok (.iconst 1, 1) := by decide +kernel
theorem dJ2_length_9d52b_3 : decode cJ2_length_9d52b 3 = .ok (.ishr, 1) := by decide +kernel
theorem dJ2_length_9d52b_4 : decode cJ2_length_9d52b 4 = .ok (.ireturn, 1) := by decide +kernel
set_option maxRecDepth 20000 in
theorem ggJ2_charAt_3b067_J2_checkIndex_2214a : GoodIn wsJ2_charAt_3b067 wsJ2_checkIndex_2214a := goodIn_r _ [4, 5, 6, 3, 7, 8, 9, 10, 11, 12, 13, 14, 15, 16] (by decide +kernel) (by decide +kernel)
set_option maxRecDepth 20000 in
theorem gJ2_charAt_3b067_J2_checkIndex_2214a : GoodIn wsJ2_charAt_3b067 (va_wsS RJ2 67 yJ2_checkIndex_2214a wsJ2_checkIndex_2214a) := goodIn_app (goodIn_of _ (by decide +kernel)) ggJ2_charAt_3b067_J2_checkIndex_2214a
set_option maxRecDepth 20000 in
theorem ggJ2_charAt_3b067_J2_getChar_3b067 : GoodIn wsJ2_charAt_3b067 wsJ2_getChar_3b067 := goodIn_r _ [19, 20, 21, 22, 5, 6, 3, 7] (by decide +kernel) (by decide +kernel)
set_option maxRecDepth 20000 in
theorem gJ2_charAt_3b067_J2_getChar_3b067 : GoodIn wsJ2_charAt_3b067 (va_wsS RJ2 71 yJ2_getChar_3b067 wsJ2_getChar_3b067) := goodIn_app (goodIn_of _ (by decide +kernel)) ggJ2_charAt_3b067_J2_getChar_3b067
theorem dJ2_charAt_3b067_0 : decode cJ2_charAt_3b067 0 = .ok (.iload_n 1, 1) := by decide +kernel
theorem dJ2_charAt_3b067_1 : decode cJ2_charAt_3b067 1 = .ok (.aload_n 0, 1) := by decide +kernel
theorem dJ2_charAt_3b067_2 : decode cJ2_charAt_3b067 2 = .ok (.invokestatic 67, 3) := by decide +kernel
theorem dJ2_charAt_3b067_5 : decode cJ2_charAt_3b067 5 = .ok (.aload_n 0, 1) := by decide +kernel
theorem dJ2_charAt_3b067_6 : decode cJ2_charAt_3b067 6 = .ok (.iload_n 1, 1) := by decide +kernel
theorem dJ2_charAt_3b067_7 : decode cJ2_charAt_3b067 7 = .ok (.invokestatic 71, 3) := by decide +kernel
theorem dJ2_charAt_3b067_10 : decode cJ2_charAt_3b067 10 = .ok (.ireturn, 1) := by decide +kernel
set_option maxRecDepth 20000 in
theorem ggJ2_checkIndex_2214a_J2_length_9d52b : GoodIn wsJ2_checkIndex_2214a wsJ2_length_9d52b := goodIn_r _ [4] (by decide +kernel) (by decide +kernel)
set_option maxRecDepth 20000 in
theorem gJ2_checkIndex_2214a_J2_length_9d52b : GoodIn wsJ2_checkIndex_2214a (va_wsS RJ2 48 yJ2_length_9d52b wsJ2_length_9d52b) := goodIn_app (goodIn_of _ (by decide +kernel)) ggJ2_checkIndex_2214a_J2_length_9d52b
set_option maxRecDepth 20000 in
theorem ggJ2_checkIndex_2214a_J0_checkIndex_df160 : GoodIn wsJ2_checkIndex_2214a wsJ0_checkIndex_df160 := goodIn_r _ [8, 9, 10, 11, 12, 13] (by decide +kernel) (by decide +kernel)
set_option maxRecDepth 20000 in
theorem gJ2_checkIndex_2214a_J0_checkIndex_df160 : GoodIn wsJ2_checkIndex_2214a (va_wsS RJ2 414 yJ0_checkIndex_df160 wsJ0_checkIndex_df160) := goodIn_app (goodIn_of _ (by decide +kernel)) ggJ2_checkIndex_2214a_J0_checkIndex_df160
theorem dJ2_checkIndex_2214a_0 : decode cJ2_checkIndex_2214a 0 = .ok (.iload_n 0, 1) := by decide +kernel
theorem dJ2_checkIndex_2214a_1 : decode cJ2_checkIndex_2214a 1 = .ok (.aload_n 1, 1) := by decide +kernel
theorem dJ2_checkIndex_2214a_2 : decode cJ2_checkIndex_2214a 2 = .ok (.invokestatic 48, 3) := by decide +kernel
theorem dJ2_checkIndex_2214a_5 : decode cJ2_checkIndex_2214a 5 = .ok (.invokestatic 414, 3) := by decide +kernel
theorem dJ2_checkIndex_2214a_8 : decode cJ2_checkIndex_2214a 8 = .ok (.return_, 1) := by decide +kernel
theorem dJ3_checkIndex_8e157_0 : decode cJ3_checkIndex_8e157 0 = .ok (.iload_n 0, 1) := by decide +kernel
theorem dJ3_checkIndex_8e157_1 : decode cJ3_checkIndex_8e157 1 = .ok (.ifCond .lt 8, 3) := by decide +kernel
theorem dJ3_checkIndex_8e157_4 : decode cJ3_checkIndex_8e157 4 = .ok (.iload_n 0, 1) := by decide +kernel
theorem dJ3_checkIndex_8e157_5 : decode cJ3_checkIndex_8e157 5 = .ok (.iload_n 1, 1) := by decide +kernel
theorem dJ3_checkIndex_8e157_6 : decode cJ3_checkIndex_8e157 6 = .ok (.if_icmp .lt 10, 3) := by decide +kernel
theorem dJ3_checkIndex_8e157_9 : decode cJ3_checkIndex_8e157 9 = .ok (.aload_n 2, 1) := by decide +kernel
theorem dJ3_checkIndex_8e157_10 : decode cJ3_checkIndex_8e157 10 = .ok (.iload_n 0, 1) := by decide +kernel
theorem dJ3_checkIndex_8e157_11 : decode cJ3_checkIndex_8e157 11 = .ok (.iload_n 1, 1) := by decide +kernel
theorem dJ3_checkIndex_8e157_12 : decode cJ3_checkIndex_8e157 12 = .ok (.invokestatic 95, 3) := by decide +kernel
theorem dJ3_checkIndex_8e157_15 : decode cJ3_checkIndex_8e157 15 = .ok (.athrow, 1) := by decide +kernel
theorem dJ3_checkIndex_8e157_16 : decode cJ3_checkIndex_8e157 16 = .ok (.iload_n 0, 1) := by decide +kernel
theorem dJ3_checkIndex_8e157_17 : decode cJ3_checkIndex_8e157 17 = .ok (.ireturn, 1) := by decide +kernel
set_option maxRecDepth 20000 in
theorem ggL_law_X6_init : GoodIn wsL_law wsX6_init := goodIn_r _ [9, 10, 11, 12, 13, 14, 15, 16, 17, 18, 19, 20, 21, 22, 23, 24, 25, 26, 27, 28, 29, 30, 31, 32, 33, 34, 35, 36, 37, 38, 39, 40, 41, 42, 43, 44, 45, 46, 47, 48, 49, 50, 51, 52, 53, 54, 55, 56, 57, 58, 59, 60, 61, 62, 63, 64, 65, 66, 67, 68, 69, 70, 71, 72, 73, 74, 75, 76, 77, 78, 79, 80, 81, 82, 83, 84, 85, 86, 87, 88, 89, 90, 91, 92, 93, 94, 95, 96, 97, 98, 99, 100, 101, 102, 103, 104, 105, 106, 107, 108, 109, 110, 111, 112, 113, 933, 934, 935, 936, 937, 938, 939, 887, 888, 889, 890, 891, 892, 893, 894, 895, 896, 897, 898, 899, 900, 901, 902, 940, 941, 942, 943, 944, 945, 946, 947, 948, 949, 950, 951, 952, 953, 954, 955, 956, 957, 958, 959, 960, 961, 962, 963, 964, 965, 966, 967] (by decide +kernel) (by decide +kernel)
set_option maxRecDepth 20000 in
theorem gL_law_X6_init : GoodIn wsL_law (wsX6_init) := ggL_law_X6_init
set_option maxRecDepth 20000 in
theorem ggL_law_X7_init : GoodIn wsL_law wsX7_init := goodIn_r _ [116, 117, 11, 12, 118, 119, 32, 120, 121, 122, 123, 26, 124, 125, 126, 127, 128, 129, 130, 131, 132, 133, 134, 135, 136, 137, 138, 139, 5, 140, 141, 142, 143, 144, 145, 146, 147, 148, 149, 150, 151, 152, 153, 154, 155, 156, 903, 904, 905, 906, 907, 908, 909, 910, 911, 912, 913, 914, 915, 916, 917, 918, 919, 920, 921, 922, 923, 924, 925, 926, 927, 928, 929, 930, 931, 932] (by decide +kernel) (by decide +kernel)
set_option maxRecDepth 20000 in
theorem gL_law_X7_init : GoodIn wsL_law (wsX7_init) := ggL_law_X7_init
set_option maxRecDepth 20000 in
theorem ggL_law_X6_type : GoodIn wsL_law wsX6_type := goodIn_r _ [160, 16, 161, 162, 2, 163, 164, 165, 166, 15, 167, 168, 51, 169, 887, 888, 889, 890, 891, 892, 893, 894, 895, 896, 897, 898, 899, 900, 901, 902, 933, 934, 935, 936, 937, 938, 939] (by decide +kernel) (by decide +kernel)
set_option maxRecDepth 20000 in
theorem gL_law_X6_type : GoodIn wsL_law (wsV RL 15 RX6 yX6_type wsX6_type) := goodIn_app (goodIn_of _ (by decide +kernel)) ggL_law_X6_type
set_option maxRecDepth 20000 in
theorem ggL_law_X7_type : GoodIn wsL_law wsX7_type := goodIn_r _ [173, 174, 119, 175, 176, 177, 5, 178, 903, 904, 905, 906, 907, 908, 909, 910, 911, 912, 913, 914, 915, 916, 917, 918, 919, 920, 921, 922, 923, 924, 925, 926, 927, 928, 929, 930, 931, 932] (by decide +kernel) (by decide +kernel)
set_option maxRecDepth 20000 in
theorem gL_law_X7_type : GoodIn wsL_law (wsV RL 19 RX7 yX7_type wsX7_type) := goodIn_app (goodIn_of _ (by decide +kernel)) ggL_law_X7_type
set_option maxRecDepth 20000 in
theorem ggL_law_X6_clear : GoodIn wsL_law wsX6_clear := goodIn_r _ [182, 16, 183, 184, 185, 15, 186, 168, 887, 888, 889, 890, 891, 892, 893, 894, 895, 896, 897, 898, 899, 900, 901, 902, 933, 934, 935, 936, 937, 938, 939] (by decide +kernel) (by decide +kernel)
set_option maxRecDepth 20000 in
theorem gL_law_X6_clear : GoodIn wsL_law (wsV RL 20 RX6 yX6_clear wsX6_clear) := goodIn_app (goodIn_of _ (by decide +kernel)) ggL_law_X6_clear
set_option maxRecDepth 20000 in
theorem ggL_law_X7_clear : GoodIn wsL_law wsX7_clear := goodIn_r _ [190, 174, 903, 904, 905, 906, 907, 908, 909, 910, 911, 912, 913, 914, 915, 916, 917, 918, 919, 920, 921, 922, 923, 924, 925, 926, 927, 928, 929, 930, 931, 932] (by decide +kernel) (by decide +kernel)
set_option maxRecDepth 20000 in
theorem gL_law_X7_clear : GoodIn wsL_law (wsV RL 24 RX7 yX7_clear wsX7_clear) := goodIn_app (goodIn_of _ (by decide +kernel)) ggL_law_X7_clear
set_option maxRecDepth 20000 in
theorem ggL_law_X6_pump : GoodIn wsL_law wsX6_pump := goodIn_r _ [194, 16, 43, 20, 24, 27, 195, 196, 197, 15, 198, 199, 200, 201, 202, 203, 57, 58, 19, 59, 60, 61, 62, 63, 64, 65, 66, 67, 68, 69, 70, 71, 72, 73, 74, 204, 205, 206, 207, 168, 51, 208, 209, 210, 211, 212, 213, 214, 215, 216, 217, 218, 219, 220, 221, 222, 223, 224, 225, 226, 227, 228, 229, 230, 231, 232, 233, 234, 235, 236, 237, 238, 239, 240, 241, 242, 243, 244, 245, 246, 247, 248, 249, 250, 251, 252, 253, 254, 255, 256, 257, 258, 259, 260, 261, 262, 263, 264, 265, 266, 267, 268, 269, 270, 271, 272, 273, 274, 275, 276, 277, 278, 279, 280, 281, 282, 283, 284, 285, 286, 162, 2, 163, 287, 183, 184, 185, 186, 288, 289, 290, 291, 292, 293, 294, 295, 94, 95, 96, 23, 97, 98, 99, 100, 101, 102, 103, 104, 105, 106, 107, 108, 109, 110, 111, 112, 113, 887, 888, 889, 890, 891, 892, 893, 894, 895, 896, 897, 898, 899, 900, 901, 902, 933, 934, 935, 936, 937, 938, 939, 940, 941, 942, 943, 944, 945, 946, 947, 948, 949, 950, 951, 952, 953, 954, 955, 956, 957] (by decide +kernel) (by decide +kernel)
set_option maxRecDepth 20000 in
theorem gL_law_X6_pump : GoodIn wsL_law (wsV RL 25 RX6 yX6_pump wsX6_pump) := goodIn_app (goodIn_of _ (by decide +kernel)) ggL_law_X6_pump
set_option maxRecDepth 20000 in
theorem ggL_law_X7_pump : GoodIn wsL_law wsX7_pump := goodIn_r _ [299, 300, 301, 302, 303, 120, 124, 174, 137, 138, 139, 5, 140, 304, 305, 306, 307, 308, 309, 310, 311, 312, 119, 176, 177, 178, 313, 314, 315, 316, 317, 318, 319, 320, 321, 322, 323, 324, 325, 326, 327, 328, 329, 141, 142, 143, 144, 123, 121, 145, 146, 147, 148, 149, 150, 151, 152, 122, 153, 154, 155, 156, 903, 904, 905, 906, 907, 908, 909, 910, 911, 912, 913, 914, 915, 916, 917, 918, 919, 920, 921, 922, 923, 924, 925, 926, 927, 928, 929, 930, 931, 932] (by decide +kernel) (by decide +kernel)
set_option maxRecDepth 20000 in
theorem gL_law_X7_pump : GoodIn wsL_law (wsV RL 28 RX7 yX7_pump wsX7_pump) := goodIn_app (goodIn_of _ (by decide +kernel)) ggL_law_X7_pump
set_option maxRecDepth 20000 in
theorem ggL_law_X6_told : GoodIn wsL_law wsX6_told := goodIn_r _ [333, 20, 161, 162, 2, 163, 334, 293, 294, 19, 295, 64, 65, 66, 67, 68, 69, 70, 71, 72, 73, 74, 887, 888, 889, 890, 891, 892, 893, 894, 895, 896, 897, 898, 899, 900, 901, 902, 940, 941, 942, 943, 944, 945, 946, 947, 948, 949, 950] (by decide +kernel) (by decide +kernel)
set_option maxRecDepth 20000 in
theorem gL_law_X6_told : GoodIn wsL_law (wsV RL 29 RX6 yX6_told wsX6_told) := goodIn_app (goodIn_of _ (by decide +kernel)) ggL_law_X6_told
set_option maxRecDepth 20000 in
theorem ggL_law_X7_told : GoodIn wsL_law wsX7_told := goodIn_r _ [338, 120, 176, 177, 5, 178, 903, 904, 905, 906, 907, 908, 909, 910, 911, 912, 913, 914, 915, 916, 917, 918, 919, 920, 921, 922, 923, 924, 925, 926, 927, 928, 929, 930, 931, 932] (by decide +kernel) (by decide +kernel)
set_option maxRecDepth 20000 in
theorem gL_law_X7_told : GoodIn wsL_law (wsV RL 33 RX7 yX7_told wsX7_told) := goodIn_app (goodIn_of _ (by decide +kernel)) ggL_law_X7_told
set_option maxRecDepth 20000 in
theorem ggL_law_X6_strokes : GoodIn wsL_law wsX6_strokes := goodIn_r _ [342, 24, 20, 161, 162, 2, 163, 343, 344, 345, 23, 346, 98, 107, 347, 348, 349, 350, 105, 100, 109, 351, 352, 218, 353, 354, 217, 219, 106, 110, 111, 112, 19, 113, 68, 66, 355, 356, 357, 358, 64, 65, 359, 360, 361, 362, 363, 70, 71, 364, 365, 366, 367, 73, 74, 887, 888, 889, 890, 891, 892, 893, 894, 895, 896, 897, 898, 899, 900, 901, 902, 951, 952, 953, 954, 955, 956, 957, 940, 941, 942, 943, 944, 945, 946, 947, 948, 949, 950] (by decide +kernel) (by decide +kernel)
set_option maxRecDepth 20000 in
theorem gL_law_X6_strokes : GoodIn wsL_law (wsV RL 34 RX6 yX6_strokes wsX6_strokes) := goodIn_app (goodIn_of _ (by decide +kernel)) ggL_law_X6_strokes
set_option maxRecDepth 20000 in
theorem ggL_law_X7_strokes : GoodIn wsL_law wsX7_strokes := goodIn_r _ [371, 176, 177, 5, 178, 372, 373, 374, 375, 122, 123, 145, 146, 147, 148, 121, 120, 376, 377, 378, 379, 380, 381, 382, 383, 384, 385, 386, 387, 388, 389, 390, 391, 392, 393, 394, 395, 153, 154, 155, 156, 903, 904, 905, 906, 907, 908, 909, 910, 911, 912, 913, 914, 915, 916, 917, 918, 919, 920, 921, 922, 923, 924, 925, 926, 927, 928, 929, 930, 931, 932] (by decide +kernel) (by decide +kernel)
set_option maxRecDepth 20000 in
theorem gL_law_X7_strokes : GoodIn wsL_law (wsV RL 37 RX7 yX7_strokes wsX7_strokes) := goodIn_app (goodIn_of _ (by decide +kernel)) ggL_law_X7_strokes
set_option maxRecDepth 20000 in
theorem ggL_law_X6_jug : GoodIn wsL_law wsX6_jug := goodIn_r _ [399, 24, 161, 162, 2, 163, 400, 401, 402, 23, 403, 98, 351, 352, 218, 353, 100, 354, 217, 219, 887, 888, 889, 890, 891, 892, 893, 894, 895, 896, 897, 898, 899, 900, 901, 902, 951, 952, 953, 954, 955, 956, 957] (by decide +kernel) (by decide +kernel)
set_option maxRecDepth 20000 in
theorem gL_law_X6_jug : GoodIn wsL_law (wsV RL 38 RX6 yX6_jug wsX6_jug) := goodIn_app (goodIn_of _ (by decide +kernel)) ggL_law_X6_jug
set_option maxRecDepth 20000 in
theorem ggL_law_X7_jug : GoodIn wsL_law wsX7_jug := goodIn_r _ [407, 176, 177, 5, 178, 372, 373, 374, 375, 122, 123, 145, 146, 147, 148, 121, 120, 408, 409, 410, 411, 153, 154, 155, 156, 903, 904, 905, 906, 907, 908, 909, 910, 911, 912, 913, 914, 915, 916, 917, 918, 919, 920, 921, 922, 923, 924, 925, 926, 927, 928, 929, 930, 931, 932] (by decide +kernel) (by decide +kernel)
set_option maxRecDepth 20000 in
theorem gL_law_X7_jug : GoodIn wsL_law (wsV RL 41 RX7 yX7_jug wsX7_jug) := goodIn_app (goodIn_of _ (by decide +kernel)) ggL_law_X7_jug
set_option maxRecDepth 20000 in
theorem ggL_law_X6_hours : GoodIn wsL_law wsX6_hours := goodIn_r _ [415, 24, 20, 161, 162, 2, 163, 416, 417, 418, 23, 419, 108, 98, 420, 421, 422, 423, 105, 424, 354, 217, 218, 219, 100, 351, 352, 353, 425, 110, 111, 112, 19, 113, 68, 66, 426, 361, 362, 363, 70, 71, 887, 888, 889, 890, 891, 892, 893, 894, 895, 896, 897, 898, 899, 900, 901, 902, 951, 952, 953, 954, 955, 956, 957, 940, 941, 942, 943, 944, 945, 946, 947, 948, 949, 950] (by decide +kernel) (by decide +kernel)
set_option maxRecDepth 20000 in
theorem gL_law_X6_hours : GoodIn wsL_law (wsV RL 42 RX6 yX6_hours wsX6_hours) := goodIn_app (goodIn_of _ (by decide +kernel)) ggL_law_X6_hours
set_option maxRecDepth 20000 in
theorem ggL_law_X7_hours : GoodIn wsL_law wsX7_hours := goodIn_r _ [430, 123, 176, 177, 5, 178, 372, 373, 374, 375, 122, 145, 146, 147, 148, 121, 120, 431, 432, 433, 434, 388, 389, 390, 391, 384, 385, 386, 387, 153, 154, 155, 156, 903, 904, 905, 906, 907, 908, 909, 910, 911, 912, 913, 914, 915, 916, 917, 918, 919, 920, 921, 922, 923, 924, 925, 926, 927, 928, 929, 930, 931, 932] (by decide +kernel) (by decide +kernel)
set_option maxRecDepth 20000 in
theorem gL_law_X7_hours : GoodIn wsL_law (wsV RL 45 RX7 yX7_hours wsX7_hours) := goodIn_app (goodIn_of _ (by decide +kernel)) ggL_law_X7_hours
set_option maxRecDepth 20000 in
theorem ggL_law_X6_now : GoodIn wsL_law wsX6_now := goodIn_r _ [438, 24, 439, 440, 441, 442, 443, 444, 445, 20, 446, 111, 112, 19, 113, 68, 66, 447, 365, 366, 367, 73, 74, 448, 356, 357, 358, 64, 65, 359, 352, 218, 353, 360, 361, 362, 363, 70, 71, 887, 888, 889, 890, 891, 892, 893, 894, 895, 896, 897, 898, 899, 900, 901, 902, 951, 952, 953, 954, 955, 956, 957, 940, 941, 942, 943, 944, 945, 946, 947, 948, 949, 950] (by decide +kernel) (by decide +kernel)
set_option maxRecDepth 20000 in
theorem gL_law_X6_now : GoodIn wsL_law (wsV RL 46 RX6 yX6_now wsX6_now) := goodIn_app (goodIn_of _ (by decide +kernel)) ggL_law_X6_now
set_option maxRecDepth 20000 in
theorem ggL_law_X7_now : GoodIn wsL_law wsX7_now := goodIn_r _ [452, 123, 176, 177, 5, 178, 372, 373, 374, 375, 122, 145, 146, 147, 148, 121, 120, 388, 389, 390, 391, 392, 393, 394, 395, 380, 381, 382, 383, 384, 385, 386, 387, 903, 904, 905, 906, 907, 908, 909, 910, 911, 912, 913, 914, 915, 916, 917, 918, 919, 920, 921, 922, 923, 924, 925, 926, 927, 928, 929, 930, 931, 932] (by decide +kernel) (by decide +kernel)
set_option maxRecDepth 20000 in
theorem gL_law_X7_now : GoodIn wsL_law (wsV RL 49 RX7 yX7_now wsX7_now) := goodIn_app (goodIn_of _ (by decide +kernel)) ggL_law_X7_now
set_option maxRecDepth 20000 in
theorem ggL_law_X6_anew : GoodIn wsL_law wsX6_anew := goodIn_r _ [456, 24, 442, 20, 94, 95, 96, 23, 97, 98, 99, 100, 101, 102, 103, 104, 105, 106, 107, 108, 109, 110, 111, 112, 19, 113, 68, 66, 887, 888, 889, 890, 891, 892, 893, 894, 895, 896, 897, 898, 899, 900, 901, 902, 951, 952, 953, 954, 955, 956, 957, 940, 941, 942, 943, 944, 945, 946, 947, 948, 949, 950] (by decide +kernel) (by decide +kernel)
set_option maxRecDepth 20000 in
theorem gL_law_X6_anew : GoodIn wsL_law (wsV RL 50 RX6 yX6_anew wsX6_anew) := goodIn_app (goodIn_of _ (by decide +kernel)) ggL_law_X6_anew
set_option maxRecDepth 20000 in
theorem ggL_law_X7_anew : GoodIn wsL_law wsX7_anew := goodIn_r _ [144, 123, 121, 145, 146, 147, 5, 148, 120, 149, 150, 151, 152, 122, 153, 154, 155, 156, 903, 904, 905, 906, 907, 908, 909, 910, 911, 912, 913, 914, 915, 916, 917, 918, 919, 920, 921, 922, 923, 924, 925, 926, 927, 928, 929, 930, 931, 932] (by decide +kernel) (by decide +kernel)
set_option maxRecDepth 20000 in
theorem gL_law_X7_anew : GoodIn wsL_law (wsV RL 53 RX7 yX7_anew wsX7_anew) := goodIn_app (goodIn_of _ (by decide +kernel)) ggL_law_X7_anew
set_option maxRecDepth 20000 in
theorem ggL_law_X6_until : GoodIn wsL_law wsX6_until := goodIn_r _ [461, 24, 20, 462, 463, 464, 23, 465, 105, 100, 98, 110, 111, 112, 19, 113, 68, 66, 355, 356, 357, 358, 64, 65, 359, 352, 218, 353, 360, 361, 362, 363, 70, 71, 364, 365, 366, 367, 73, 74, 466, 467, 2, 468, 887, 888, 889, 890, 891, 892, 893, 894, 895, 896, 897, 898, 899, 900, 901, 902, 951, 952, 953, 954, 955, 956, 957, 940, 941, 942, 943, 944, 945, 946, 947, 948, 949, 950] (by decide +kernel) (by decide +kernel)
set_option maxRecDepth 20000 in
theorem gL_law_X6_until : GoodIn wsL_law (wsV RL 54 RX6 yX6_until wsX6_until) := goodIn_app (goodIn_of _ (by decide +kernel)) ggL_law_X6_until
set_option maxRecDepth 20000 in
theorem ggL_law_X7_until : GoodIn wsL_law wsX7_until := goodIn_r _ [472, 372, 373, 374, 5, 375, 122, 123, 145, 146, 147, 148, 121, 120, 473, 474, 475, 476, 376, 377, 378, 379, 380, 381, 382, 383, 384, 385, 386, 387, 388, 389, 390, 391, 392, 393, 394, 395, 903, 904, 905, 906, 907, 908, 909, 910, 911, 912, 913, 914, 915, 916, 917, 918, 919, 920, 921, 922, 923, 924, 925, 926, 927, 928, 929, 930, 931, 932] (by decide +kernel) (by decide +kernel)
set_option maxRecDepth 20000 in
theorem gL_law_X7_until : GoodIn wsL_law (wsV RL 57 RX7 yX7_until wsX7_until) := goodIn_app (goodIn_of _ (by decide +kernel)) ggL_law_X7_until
set_option maxRecDepth 20000 in
theorem ggL_law_X6_least : GoodIn wsL_law wsX6_least := goodIn_r _ [480, 44, 24, 20, 161, 162, 2, 163, 481, 482, 483, 23, 484, 98, 100, 105, 106, 107, 108, 109, 400, 401, 402, 403, 351, 352, 218, 353, 354, 217, 219, 462, 463, 464, 465, 110, 111, 112, 19, 113, 68, 66, 355, 356, 357, 358, 64, 65, 359, 360, 361, 362, 363, 70, 71, 364, 365, 366, 367, 73, 74, 887, 888, 889, 890, 891, 892, 893, 894, 895, 896, 897, 898, 899, 900, 901, 902, 951, 952, 953, 954, 955, 956, 957, 940, 941, 942, 943, 944, 945, 946, 947, 948, 949, 950] (by decide +kernel) (by decide +kernel)
set_option maxRecDepth 20000 in
theorem gL_law_X6_least : GoodIn wsL_law (wsV RL 58 RX6 yX6_least wsX6_least) := goodIn_app (goodIn_of _ (by decide +kernel)) ggL_law_X6_least
set_option maxRecDepth 20000 in
theorem ggL_law_X7_least : GoodIn wsL_law wsX7_least := goodIn_r _ [488, 176, 177, 5, 178, 372, 373, 374, 375, 122, 123, 145, 146, 147, 148, 121, 120, 408, 409, 410, 411, 473, 474, 475, 476, 376, 377, 378, 379, 380, 381, 382, 383, 384, 385, 386, 387, 388, 389, 390, 391, 392, 393, 394, 395, 903, 904, 905, 906, 907, 908, 909, 910, 911, 912, 913, 914, 915, 916, 917, 918, 919, 920, 921, 922, 923, 924, 925, 926, 927, 928, 929, 930, 931, 932] (by decide +kernel) (by decide +kernel)
set_option maxRecDepth 20000 in
theorem gL_law_X7_least : GoodIn wsL_law (wsV RL 61 RX7 yX7_least wsX7_least) := goodIn_app (goodIn_of _ (by decide +kernel)) ggL_law_X7_least
set_option maxRecDepth 20000 in
theorem ggL_law_X6_night : GoodIn wsL_law wsX6_night := goodIn_r _ [492, 44, 24, 20, 161, 162, 2, 163, 481, 482, 483, 23, 484, 98, 100, 105, 106, 107, 108, 109, 416, 417, 418, 419, 420, 421, 422, 423, 424, 354, 217, 218, 219, 351, 352, 353, 425, 110, 111, 112, 19, 113, 68, 66, 426, 361, 362, 363, 70, 71, 887, 888, 889, 890, 891, 892, 893, 894, 895, 896, 897, 898, 899, 900, 901, 902, 951, 952, 953, 954, 955, 956, 957, 940, 941, 942, 943, 944, 945, 946, 947, 948, 949, 950] (by decide +kernel) (by decide +kernel)
set_option maxRecDepth 20000 in
theorem gL_law_X6_night : GoodIn wsL_law (wsV RL 62 RX6 yX6_night wsX6_night) := goodIn_app (goodIn_of _ (by decide +kernel)) ggL_law_X6_night
set_option maxRecDepth 20000 in
theorem ggL_law_X7_night : GoodIn wsL_law wsX7_night := goodIn_r _ [496, 122, 176, 177, 5, 178, 372, 373, 374, 375, 123, 145, 146, 147, 148, 121, 120, 431, 432, 433, 434, 388, 389, 390, 391, 384, 385, 386, 387, 903, 904, 905, 906, 907, 908, 909, 910, 911, 912, 913, 914, 915, 916, 917, 918, 919, 920, 921, 922, 923, 924, 925, 926, 927, 928, 929, 930, 931, 932] (by decide +kernel) (by decide +kernel)
set_option maxRecDepth 20000 in
theorem gL_law_X7_night : GoodIn wsL_law (wsV RL 65 RX7 yX7_night wsX7_night) := goodIn_app (goodIn_of _ (by decide +kernel)) ggL_law_X7_night
set_option maxRecDepth 20000 in
theorem ggL_law_X6_sign : GoodIn wsL_law wsX6_sign := goodIn_r _ [500, 31, 501, 502, 2, 503, 161, 162, 163, 504, 505, 506, 30, 507, 508, 81, 82, 83, 887, 888, 889, 890, 891, 892, 893, 894, 895, 896, 897, 898, 899, 900, 901, 902, 958, 959, 960, 961] (by decide +kernel) (by decide +kernel)
set_option maxRecDepth 20000 in
theorem gL_law_X6_sign : GoodIn wsL_law (wsV RL 66 RX6 yX6_sign wsX6_sign) := goodIn_app (goodIn_of _ (by decide +kernel)) ggL_law_X6_sign
set_option maxRecDepth 20000 in
theorem ggL_law_X7_sign : GoodIn wsL_law wsX7_sign := goodIn_r _ [512, 513, 125, 126, 127, 176, 177, 5, 178, 903, 904, 905, 906, 907, 908, 909, 910, 911, 912, 913, 914, 915, 916, 917, 918, 919, 920, 921, 922, 923, 924, 925, 926, 927, 928, 929, 930, 931, 932] (by decide +kernel) (by decide +kernel)
set_option maxRecDepth 20000 in
theorem gL_law_X7_sign : GoodIn wsL_law (wsV RL 70 RX7 yX7_sign wsX7_sign) := goodIn_app (goodIn_of _ (by decide +kernel)) ggL_law_X7_sign
set_option maxRecDepth 20000 in
theorem ggL_law_X6_unsign : GoodIn wsL_law wsX6_unsign := goodIn_r _ [517, 31, 518, 519, 520, 30, 521, 508, 887, 888, 889, 890, 891, 892, 893, 894, 895, 896, 897, 898, 899, 900, 901, 902, 958, 959, 960, 961] (by decide +kernel) (by decide +kernel)
set_option maxRecDepth 20000 in
theorem gL_law_X6_unsign : GoodIn wsL_law (wsV RL 71 RX6 yX6_unsign wsX6_unsign) := goodIn_app (goodIn_of _ (by decide +kernel)) ggL_law_X6_unsign
set_option maxRecDepth 20000 in
theorem ggL_law_X7_unsign : GoodIn wsL_law wsX7_unsign := goodIn_r _ [525, 513, 903, 904, 905, 906, 907, 908, 909, 910, 911, 912, 913, 914, 915, 916, 917, 918, 919, 920, 921, 922, 923, 924, 925, 926, 927, 928, 929, 930, 931, 932] (by decide +kernel) (by decide +kernel)
set_option maxRecDepth 20000 in
theorem gL_law_X7_unsign : GoodIn wsL_law (wsV RL 74 RX7 yX7_unsign wsX7_unsign) := goodIn_app (goodIn_of _ (by decide +kernel)) ggL_law_X7_unsign
set_option maxRecDepth 20000 in
theorem ggL_law_X6_chance : GoodIn wsL_law wsX6_chance := goodIn_r _ [529, 33, 161, 162, 2, 163, 887, 888, 889, 890, 891, 892, 893, 894, 895, 896, 897, 898, 899, 900, 901, 902] (by decide +kernel) (by decide +kernel)
set_option maxRecDepth 20000 in
theorem gL_law_X6_chance : GoodIn wsL_law (wsV RL 75 RX6 yX6_chance wsX6_chance) := goodIn_app (goodIn_of _ (by decide +kernel)) ggL_law_X6_chance
set_option maxRecDepth 20000 in
theorem ggL_law_X7_chance : GoodIn wsL_law wsX7_chance := goodIn_r _ [533, 128, 534, 535, 5, 536, 176, 177, 178, 903, 904, 905, 906, 907, 908, 909, 910, 911, 912, 913, 914, 915, 916, 917, 918, 919, 920, 921, 922, 923, 924, 925, 926, 927, 928, 929, 930, 931, 932] (by decide +kernel) (by decide +kernel)
set_option maxRecDepth 20000 in
theorem gL_law_X7_chance : GoodIn wsL_law (wsV RL 79 RX7 yX7_chance wsX7_chance) := goodIn_app (goodIn_of _ (by decide +kernel)) ggL_law_X7_chance
set_option maxRecDepth 20000 in
theorem ggL_law_X6_fitting : GoodIn wsL_law wsX6_fitting := goodIn_r _ [540, 161, 162, 2, 163, 541, 542, 543, 544, 545, 546, 547, 548, 43, 20, 288, 289, 290, 19, 291, 292, 293, 294, 295, 64, 65, 66, 67, 68, 69, 70, 71, 72, 73, 74, 60, 61, 62, 63, 549, 550, 551, 552, 359, 352, 218, 353, 553, 217, 219, 554, 555, 556, 557, 31, 558, 559, 560, 561, 562, 563, 564, 565, 44, 94, 95, 96, 23, 97, 98, 99, 100, 101, 102, 103, 104, 105, 106, 107, 108, 109, 110, 111, 112, 113, 462, 463, 464, 465, 355, 356, 357, 358, 360, 361, 362, 363, 364, 365, 366, 367, 566, 416, 417, 418, 419, 420, 421, 422, 423, 424, 354, 351, 425, 426, 446, 567, 887, 888, 889, 890, 891, 892, 893, 894, 895, 896, 897, 898, 899, 900, 901, 902, 940, 941, 942, 943, 944, 945, 946, 947, 948, 949, 950, 958, 959, 960, 961, 951, 952, 953, 954, 955, 956, 957] (by decide +kernel) (by decide +kernel)
set_option maxRecDepth 20000 in
theorem gL_law_X6_fitting : GoodIn wsL_law (wsV RL 80 RX6 yX6_fitting wsX6_fitting) := goodIn_app (goodIn_of _ (by decide +kernel)) ggL_law_X6_fitting
set_option maxRecDepth 20000 in
theorem ggL_law_X7_fitting : GoodIn wsL_law wsX7_fitting := goodIn_r _ [571, 534, 535, 5, 536, 176, 177, 178, 572, 573, 574, 575, 513, 125, 126, 127, 576, 577, 578, 579, 121, 145, 146, 147, 148, 120, 580, 581, 582, 583, 584, 585, 586, 122, 149, 150, 151, 152, 473, 474, 475, 476, 376, 377, 378, 379, 380, 381, 382, 383, 384, 385, 386, 387, 388, 389, 390, 391, 392, 393, 394, 395, 431, 432, 433, 434, 903, 904, 905, 906, 907, 908, 909, 910, 911, 912, 913, 914, 915, 916, 917, 918, 919, 920, 921, 922, 923, 924, 925, 926, 927, 928, 929, 930, 931, 932] (by decide +kernel) (by decide +kernel)
set_option maxRecDepth 20000 in
theorem gL_law_X7_fitting : GoodIn wsL_law (wsV RL 83 RX7 yX7_fitting wsX7_fitting) := goodIn_app (goodIn_of _ (by decide +kernel)) ggL_law_X7_fitting
set_option maxRecDepth 20000 in
theorem ggL_law_X6_odds : GoodIn wsL_law wsX6_odds := goodIn_r _ [590, 33, 161, 162, 2, 163, 541, 542, 543, 544, 545, 546, 547, 548, 43, 20, 288, 289, 290, 19, 291, 292, 293, 294, 295, 64, 65, 66, 67, 68, 69, 70, 71, 72, 73, 74, 60, 61, 62, 63, 549, 550, 551, 552, 359, 352, 218, 353, 553, 217, 219, 554, 555, 556, 557, 31, 558, 559, 560, 561, 562, 563, 564, 565, 44, 94, 95, 96, 23, 97, 98, 99, 100, 101, 102, 103, 104, 105, 106, 107, 108, 109, 110, 111, 112, 113, 462, 463, 464, 465, 355, 356, 357, 358, 360, 361, 362, 363, 364, 365, 366, 367, 566, 416, 417, 418, 419, 420, 421, 422, 423, 424, 354, 351, 425, 426, 446, 567, 591, 592, 593, 594, 595, 596, 597, 598, 599, 887, 888, 889, 890, 891, 892, 893, 894, 895, 896, 897, 898, 899, 900, 901, 902, 940, 941, 942, 943, 944, 945, 946, 947, 948, 949, 950, 958, 959, 960, 961, 951, 952, 953, 954, 955, 956, 957] (by decide +kernel) (by decide +kernel)
set_option maxRecDepth 20000 in
theorem gL_law_X6_odds : GoodIn wsL_law (wsV RL 84 RX6 yX6_odds wsX6_odds) := goodIn_app (goodIn_of _ (by decide +kernel)) ggL_law_X6_odds
set_option maxRecDepth 20000 in
theorem ggL_law_X7_odds : GoodIn wsL_law wsX7_odds := goodIn_r _ [603, 128, 534, 535, 5, 536, 176, 177, 178, 572, 573, 574, 575, 513, 125, 126, 127, 576, 577, 578, 579, 121, 145, 146, 147, 148, 120, 580, 581, 582, 583, 584, 585, 586, 122, 149, 150, 151, 152, 473, 474, 475, 476, 376, 377, 378, 379, 380, 381, 382, 383, 384, 385, 386, 387, 388, 389, 390, 391, 392, 393, 394, 395, 431, 432, 433, 434, 604, 605, 606, 607, 608, 609, 903, 904, 905, 906, 907, 908, 909, 910, 911, 912, 913, 914, 915, 916, 917, 918, 919, 920, 921, 922, 923, 924, 925, 926, 927, 928, 929, 930, 931, 932] (by decide +kernel) (by decide +kernel)
set_option maxRecDepth 20000 in
theorem gL_law_X7_odds : GoodIn wsL_law (wsV RL 87 RX7 yX7_odds wsX7_odds) := goodIn_app (goodIn_of _ (by decide +kernel)) ggL_law_X7_odds
set_option maxRecDepth 20000 in
theorem ggL_law_X6_tells : GoodIn wsL_law wsX6_tells := goodIn_r _ [613, 614, 615, 616, 2, 617, 45, 545, 546, 547, 548, 43, 20, 288, 289, 290, 19, 291, 292, 293, 294, 295, 64, 65, 66, 67, 68, 69, 70, 71, 72, 73, 74, 60, 61, 62, 63, 549, 550, 551, 552, 359, 352, 218, 353, 553, 217, 219, 562, 563, 564, 565, 44, 94, 95, 96, 23, 97, 98, 99, 100, 101, 102, 103, 104, 105, 106, 107, 108, 109, 110, 111, 112, 113, 462, 463, 464, 465, 355, 356, 357, 358, 360, 361, 362, 363, 364, 365, 366, 367, 566, 416, 417, 418, 419, 420, 421, 422, 423, 424, 354, 351, 425, 426, 446, 567, 618, 619, 620, 621, 622, 623, 624, 625, 33, 626, 887, 888, 889, 890, 891, 892, 893, 894, 895, 896, 897, 898, 899, 900, 901, 902, 940, 941, 942, 943, 944, 945, 946, 947, 948, 949, 950, 951, 952, 953, 954, 955, 956, 957] (by decide +kernel) (by decide +kernel)
set_option maxRecDepth 20000 in
theorem gL_law_X6_tells : GoodIn wsL_law (wsV RL 88 RX6 yX6_tells wsX6_tells) := goodIn_app (goodIn_of _ (by decide +kernel)) ggL_law_X6_tells
set_option maxRecDepth 20000 in
theorem ggL_law_X7_tells : GoodIn wsL_law wsX7_tells := goodIn_r _ [630, 631, 632, 633, 5, 634, 129, 576, 577, 578, 579, 121, 145, 146, 147, 148, 120, 580, 581, 582, 583, 584, 585, 586, 122, 149, 150, 151, 152, 473, 474, 475, 476, 376, 377, 378, 379, 380, 381, 382, 383, 384, 385, 386, 387, 388, 389, 390, 391, 392, 393, 394, 395, 431, 432, 433, 434, 635, 636, 637, 638, 128, 903, 904, 905, 906, 907, 908, 909, 910, 911, 912, 913, 914, 915, 916, 917, 918, 919, 920, 921, 922, 923, 924, 925, 926, 927, 928, 929, 930, 931, 932] (by decide +kernel) (by decide +kernel)
set_option maxRecDepth 20000 in
theorem gL_law_X7_tells : GoodIn wsL_law (wsV RL 91 RX7 yX7_tells wsX7_tells) := goodIn_app (goodIn_of _ (by decide +kernel)) ggL_law_X7_tells
set_option maxRecDepth 20000 in
theorem ggL_law_X6_where : GoodIn wsL_law wsX6_where := goodIn_r _ [642, 43, 20, 643, 161, 162, 2, 163, 288, 289, 290, 19, 291, 292, 293, 294, 295, 64, 65, 66, 67, 68, 69, 70, 71, 72, 73, 74, 60, 61, 62, 63, 562, 563, 564, 565, 44, 94, 95, 96, 23, 97, 98, 99, 100, 101, 102, 103, 104, 105, 106, 107, 108, 109, 110, 111, 112, 113, 462, 463, 464, 465, 355, 356, 357, 358, 359, 352, 218, 353, 360, 361, 362, 363, 364, 365, 366, 367, 566, 416, 417, 418, 419, 420, 421, 422, 423, 424, 354, 217, 219, 351, 425, 426, 446, 567, 887, 888, 889, 890, 891, 892, 893, 894, 895, 896, 897, 898, 899, 900, 901, 902, 940, 941, 942, 943, 944, 945, 946, 947, 948, 949, 950, 951, 952, 953, 954, 955, 956, 957] (by decide +kernel) (by decide +kernel)
set_option maxRecDepth 20000 in
theorem gL_law_X6_where : GoodIn wsL_law (wsV RL 92 RX6 yX6_where wsX6_where) := goodIn_app (goodIn_of _ (by decide +kernel)) ggL_law_X6_where
set_option maxRecDepth 20000 in
theorem ggL_law_X7_where : GoodIn wsL_law wsX7_where := goodIn_r _ [647, 121, 176, 177, 5, 178, 145, 146, 147, 148, 120, 583, 584, 585, 586, 122, 149, 150, 151, 152, 473, 474, 475, 476, 376, 377, 378, 379, 380, 381, 382, 383, 384, 385, 386, 387, 388, 389, 390, 391, 392, 393, 394, 395, 431, 432, 433, 434, 903, 904, 905, 906, 907, 908, 909, 910, 911, 912, 913, 914, 915, 916, 917, 918, 919, 920, 921, 922, 923, 924, 925, 926, 927, 928, 929, 930, 931, 932] (by decide +kernel) (by decide +kernel)
set_option maxRecDepth 20000 in
theorem gL_law_X7_where : GoodIn wsL_law (wsV RL 95 RX7 yX7_where wsX7_where) := goodIn_app (goodIn_of _ (by decide +kernel)) ggL_law_X7_where
set_option maxRecDepth 20000 in
theorem ggL_law_X6_day : GoodIn wsL_law wsX6_day := goodIn_r _ [651, 161, 162, 2, 163, 652, 653, 654, 655, 44, 20, 442, 566, 102, 103, 23, 104, 98, 100, 105, 106, 107, 108, 109, 343, 344, 345, 346, 347, 348, 349, 350, 351, 352, 218, 353, 354, 217, 219, 110, 111, 112, 19, 113, 68, 66, 355, 356, 357, 358, 64, 65, 359, 360, 361, 362, 363, 70, 71, 364, 365, 366, 367, 73, 74, 416, 417, 418, 419, 420, 421, 422, 423, 424, 425, 426, 887, 888, 889, 890, 891, 892, 893, 894, 895, 896, 897, 898, 899, 900, 901, 902, 951, 952, 953, 954, 955, 956, 957, 940, 941, 942, 943, 944, 945, 946, 947, 948, 949, 950] (by decide +kernel) (by decide +kernel)
set_option maxRecDepth 20000 in
theorem gL_law_X6_day : GoodIn wsL_law (wsV RL 96 RX6 yX6_day wsX6_day) := goodIn_app (goodIn_of _ (by decide +kernel)) ggL_law_X6_day
set_option maxRecDepth 20000 in
theorem ggL_law_X7_day : GoodIn wsL_law wsX7_day := goodIn_r _ [659, 660, 176, 177, 5, 178, 661, 662, 663, 664, 665, 145, 146, 147, 148, 121, 120, 149, 150, 151, 152, 122, 376, 377, 378, 379, 380, 381, 382, 383, 384, 385, 386, 387, 388, 389, 390, 391, 392, 393, 394, 395, 431, 432, 433, 434, 903, 904, 905, 906, 907, 908, 909, 910, 911, 912, 913, 914, 915, 916, 917, 918, 919, 920, 921, 922, 923, 924, 925, 926, 927, 928, 929, 930, 931, 932] (by decide +kernel) (by decide +kernel)
set_option maxRecDepth 20000 in
theorem gL_law_X7_day : GoodIn wsL_law (wsV RL 99 RX7 yX7_day wsX7_day) := goodIn_app (goodIn_of _ (by decide +kernel)) ggL_law_X7_day
set_option maxRecDepth 20000 in
theorem ggL_law_X6_pace : GoodIn wsL_law wsX6_pace := goodIn_r _ [669, 161, 162, 2, 163, 652, 653, 654, 655, 44, 20, 442, 566, 102, 103, 23, 104, 98, 100, 105, 106, 107, 108, 109, 343, 344, 345, 346, 347, 348, 349, 350, 351, 352, 218, 353, 354, 217, 219, 110, 111, 112, 19, 113, 68, 66, 355, 356, 357, 358, 64, 65, 359, 360, 361, 362, 363, 70, 71, 364, 365, 366, 367, 73, 74, 416, 417, 418, 419, 420, 421, 422, 423, 424, 425, 426, 887, 888, 889, 890, 891, 892, 893, 894, 895, 896, 897, 898, 899, 900, 901, 902, 951, 952, 953, 954, 955, 956, 957, 940, 941, 942, 943, 944, 945, 946, 947, 948, 949, 950] (by decide +kernel) (by decide +kernel)
set_option maxRecDepth 20000 in
theorem gL_law_X6_pace : GoodIn wsL_law (wsV RL 100 RX6 yX6_pace wsX6_pace) := goodIn_app (goodIn_of _ (by decide +kernel)) ggL_law_X6_pace
set_option maxRecDepth 20000 in
theorem ggL_law_X7_pace : GoodIn wsL_law wsX7_pace := goodIn_r _ [673, 660, 176, 177, 5, 178, 661, 662, 663, 664, 665, 145, 146, 147, 148, 121, 120, 149, 150, 151, 152, 122, 376, 377, 378, 379, 380, 381, 382, 383, 384, 385, 386, 387, 388, 389, 390, 391, 392, 393, 394, 395, 431, 432, 433, 434, 903, 904, 905, 906, 907, 908, 909, 910, 911, 912, 913, 914, 915, 916, 917, 918, 919, 920, 921, 922, 923, 924, 925, 926, 927, 928, 929, 930, 931, 932] (by decide +kernel) (by decide +kernel)
set_option maxRecDepth 20000 in
theorem gL_law_X7_pace : GoodIn wsL_law (wsV RL 103 RX7 yX7_pace wsX7_pace) := goodIn_app (goodIn_of _ (by decide +kernel)) ggL_law_X7_pace
set_option maxRecDepth 20000 in
theorem ggL_law_X6_two : GoodIn wsL_law wsX6_two := goodIn_r _ [677, 44, 442, 161, 162, 2, 163, 678, 679, 680, 681, 20, 566, 102, 103, 23, 104, 98, 100, 105, 106, 107, 108, 109, 343, 344, 345, 346, 347, 348, 349, 350, 351, 352, 218, 353, 354, 217, 219, 110, 111, 112, 19, 113, 68, 66, 355, 356, 357, 358, 64, 65, 359, 360, 361, 362, 363, 70, 71, 364, 365, 366, 367, 73, 74, 416, 417, 418, 419, 420, 421, 422, 423, 424, 425, 426, 887, 888, 889, 890, 891, 892, 893, 894, 895, 896, 897, 898, 899, 900, 901, 902, 951, 952, 953, 954, 955, 956, 957, 940, 941, 942, 943, 944, 945, 946, 947, 948, 949, 950] (by decide +kernel) (by decide +kernel)
set_option maxRecDepth 20000 in
theorem gL_law_X6_two : GoodIn wsL_law (wsV RL 104 RX6 yX6_two wsX6_two) := goodIn_app (goodIn_of _ (by decide +kernel)) ggL_law_X6_two
set_option maxRecDepth 20000 in
theorem ggL_law_X7_two : GoodIn wsL_law wsX7_two := goodIn_r _ [685, 660, 665, 176, 177, 5, 178, 661, 662, 663, 664, 145, 146, 147, 148, 121, 120, 149, 150, 151, 152, 122, 376, 377, 378, 379, 380, 381, 382, 383, 384, 385, 386, 387, 388, 389, 390, 391, 392, 393, 394, 395, 431, 432, 433, 434, 903, 904, 905, 906, 907, 908, 909, 910, 911, 912, 913, 914, 915, 916, 917, 918, 919, 920, 921, 922, 923, 924, 925, 926, 927, 928, 929, 930, 931, 932] (by decide +kernel) (by decide +kernel)
set_option maxRecDepth 20000 in
theorem gL_law_X7_two : GoodIn wsL_law (wsV RL 108 RX7 yX7_two wsX7_two) := goodIn_app (goodIn_of _ (by decide +kernel)) ggL_law_X7_two
set_option maxRecDepth 20000 in
theorem ggL_law_X6_rests : GoodIn wsL_law wsX6_rests := goodIn_r _ [689, 161, 162, 2, 163, 690, 691, 692, 693, 46, 47, 44, 442, 678, 679, 680, 681, 20, 566, 102, 103, 23, 104, 98, 100, 105, 106, 107, 108, 109, 343, 344, 345, 346, 347, 348, 349, 350, 351, 352, 218, 353, 354, 217, 219, 110, 111, 112, 19, 113, 68, 66, 355, 356, 357, 358, 64, 65, 359, 360, 361, 362, 363, 70, 71, 364, 365, 366, 367, 73, 74, 416, 417, 418, 419, 420, 421, 422, 423, 424, 425, 426, 694, 695, 696, 697, 887, 888, 889, 890, 891, 892, 893, 894, 895, 896, 897, 898, 899, 900, 901, 902, 951, 952, 953, 954, 955, 956, 957, 940, 941, 942, 943, 944, 945, 946, 947, 948, 949, 950] (by decide +kernel) (by decide +kernel)
set_option maxRecDepth 20000 in
theorem gL_law_X6_rests : GoodIn wsL_law (wsV RL 109 RX6 yX6_rests wsX6_rests) := goodIn_app (goodIn_of _ (by decide +kernel)) ggL_law_X6_rests
set_option maxRecDepth 20000 in
theorem ggL_law_X7_rests : GoodIn wsL_law wsX7_rests := goodIn_r _ [701, 130, 660, 131, 665, 176, 177, 5, 178, 661, 662, 663, 664, 145, 146, 147, 148, 121, 120, 149, 150, 151, 152, 122, 376, 377, 378, 379, 380, 381, 382, 383, 384, 385, 386, 387, 388, 389, 390, 391, 392, 393, 394, 395, 431, 432, 433, 434, 702, 703, 704, 705, 903, 904, 905, 906, 907, 908, 909, 910, 911, 912, 913, 914, 915, 916, 917, 918, 919, 920, 921, 922, 923, 924, 925, 926, 927, 928, 929, 930, 931, 932] (by decide +kernel) (by decide +kernel)
set_option maxRecDepth 20000 in
theorem gL_law_X7_rests : GoodIn wsL_law (wsV RL 112 RX7 yX7_rests wsX7_rests) := goodIn_app (goodIn_of _ (by decide +kernel)) ggL_law_X7_rests
set_option maxRecDepth 20000 in
theorem ggL_law_X6_cost : GoodIn wsL_law wsX6_cost := goodIn_r _ [709, 34, 161, 162, 2, 163, 887, 888, 889, 890, 891, 892, 893, 894, 895, 896, 897, 898, 899, 900, 901, 902] (by decide +kernel) (by decide +kernel)
set_option maxRecDepth 20000 in
theorem gL_law_X6_cost : GoodIn wsL_law (wsV RL 113 RX6 yX6_cost wsX6_cost) := goodIn_app (goodIn_of _ (by decide +kernel)) ggL_law_X6_cost
set_option maxRecDepth 20000 in
theorem ggL_law_X7_cost : GoodIn wsL_law wsX7_cost := goodIn_r _ [713, 132, 176, 177, 5, 178, 903, 904, 905, 906, 907, 908, 909, 910, 911, 912, 913, 914, 915, 916, 917, 918, 919, 920, 921, 922, 923, 924, 925, 926, 927, 928, 929, 930, 931, 932] (by decide +kernel) (by decide +kernel)
set_option maxRecDepth 20000 in
theorem gL_law_X7_cost : GoodIn wsL_law (wsV RL 116 RX7 yX7_cost wsX7_cost) := goodIn_app (goodIn_of _ (by decide +kernel)) ggL_law_X7_cost
set_option maxRecDepth 20000 in
theorem ggL_law_X6_choice : GoodIn wsL_law wsX6_choice := goodIn_r _ [717, 161, 162, 2, 163, 718, 719, 720, 721, 34, 722, 723, 724, 725, 43, 20, 44, 288, 289, 290, 19, 291, 292, 293, 294, 295, 64, 65, 66, 67, 68, 69, 70, 71, 72, 73, 74, 60, 61, 62, 63, 726, 727, 728, 729, 553, 217, 218, 219, 94, 95, 96, 23, 97, 98, 99, 100, 101, 102, 103, 104, 105, 106, 107, 108, 109, 110, 111, 112, 113, 400, 401, 402, 403, 351, 352, 353, 354, 343, 344, 345, 346, 347, 348, 349, 350, 355, 356, 357, 358, 359, 360, 361, 362, 363, 364, 365, 366, 367, 887, 888, 889, 890, 891, 892, 893, 894, 895, 896, 897, 898, 899, 900, 901, 902, 940, 941, 942, 943, 944, 945, 946, 947, 948, 949, 950, 951, 952, 953, 954, 955, 956, 957] (by decide +kernel) (by decide +kernel)
set_option maxRecDepth 20000 in
theorem gL_law_X6_choice : GoodIn wsL_law (wsV RL 117 RX6 yX6_choice wsX6_choice) := goodIn_app (goodIn_of _ (by decide +kernel)) ggL_law_X6_choice
set_option maxRecDepth 20000 in
theorem ggL_law_X7_choice : GoodIn wsL_law wsX7_choice := goodIn_r _ [733, 176, 177, 5, 178, 734, 735, 736, 737, 132, 738, 739, 740, 741, 121, 145, 146, 147, 148, 120, 580, 581, 582, 149, 150, 151, 152, 122, 408, 409, 410, 411, 376, 377, 378, 379, 380, 381, 382, 383, 384, 385, 386, 387, 388, 389, 390, 391, 392, 393, 394, 395, 903, 904, 905, 906, 907, 908, 909, 910, 911, 912, 913, 914, 915, 916, 917, 918, 919, 920, 921, 922, 923, 924, 925, 926, 927, 928, 929, 930, 931, 932] (by decide +kernel) (by decide +kernel)
set_option maxRecDepth 20000 in
theorem gL_law_X7_choice : GoodIn wsL_law (wsV RL 120 RX7 yX7_choice wsX7_choice) := goodIn_app (goodIn_of _ (by decide +kernel)) ggL_law_X7_choice
set_option maxRecDepth 20000 in
theorem ggL_law_X6_sand : GoodIn wsL_law wsX6_sand := goodIn_r _ [745, 38, 161, 162, 2, 163, 746, 747, 748, 37, 749, 750, 87, 88, 887, 888, 889, 890, 891, 892, 893, 894, 895, 896, 897, 898, 899, 900, 901, 902, 962, 963, 964] (by decide +kernel) (by decide +kernel)
set_option maxRecDepth 20000 in
theorem gL_law_X6_sand : GoodIn wsL_law (wsV RL 121 RX6 yX6_sand wsX6_sand) := goodIn_app (goodIn_of _ (by decide +kernel)) ggL_law_X6_sand
set_option maxRecDepth 20000 in
theorem ggL_law_X7_sand : GoodIn wsL_law wsX7_sand := goodIn_r _ [754, 755, 133, 134, 176, 177, 5, 178, 903, 904, 905, 906, 907, 908, 909, 910, 911, 912, 913, 914, 915, 916, 917, 918, 919, 920, 921, 922, 923, 924, 925, 926, 927, 928, 929, 930, 931, 932] (by decide +kernel) (by decide +kernel)
set_option maxRecDepth 20000 in
theorem gL_law_X7_sand : GoodIn wsL_law (wsV RL 124 RX7 yX7_sand wsX7_sand) := goodIn_app (goodIn_of _ (by decide +kernel)) ggL_law_X7_sand
set_option maxRecDepth 20000 in
theorem ggL_law_X6_line : GoodIn wsL_law wsX6_line := goodIn_r _ [759, 38, 161, 162, 2, 163, 760, 761, 762, 37, 763, 750, 88, 87, 764, 352, 218, 353, 765, 766, 767, 768, 887, 888, 889, 890, 891, 892, 893, 894, 895, 896, 897, 898, 899, 900, 901, 902, 962, 963, 964] (by decide +kernel) (by decide +kernel)
set_option maxRecDepth 20000 in
theorem gL_law_X6_line : GoodIn wsL_law (wsV RL 125 RX6 yX6_line wsX6_line) := goodIn_app (goodIn_of _ (by decide +kernel)) ggL_law_X6_line
set_option maxRecDepth 20000 in
theorem ggL_law_X7_line : GoodIn wsL_law wsX7_line := goodIn_r _ [772, 755, 133, 134, 176, 177, 5, 178, 903, 904, 905, 906, 907, 908, 909, 910, 911, 912, 913, 914, 915, 916, 917, 918, 919, 920, 921, 922, 923, 924, 925, 926, 927, 928, 929, 930, 931, 932] (by decide +kernel) (by decide +kernel)
set_option maxRecDepth 20000 in
theorem gL_law_X7_line : GoodIn wsL_law (wsV RL 128 RX7 yX7_line wsX7_line) := goodIn_app (goodIn_of _ (by decide +kernel)) ggL_law_X7_line
set_option maxRecDepth 20000 in
theorem ggL_law_X6_year : GoodIn wsL_law wsX6_year := goodIn_r _ [776, 42, 161, 162, 2, 163, 777, 778, 779, 41, 780, 781, 92, 93, 887, 888, 889, 890, 891, 892, 893, 894, 895, 896, 897, 898, 899, 900, 901, 902, 965, 966, 967] (by decide +kernel) (by decide +kernel)
set_option maxRecDepth 20000 in
theorem gL_law_X6_year : GoodIn wsL_law (wsV RL 129 RX6 yX6_year wsX6_year) := goodIn_app (goodIn_of _ (by decide +kernel)) ggL_law_X6_year
set_option maxRecDepth 20000 in
theorem ggL_law_X7_year : GoodIn wsL_law wsX7_year := goodIn_r _ [785, 786, 135, 136, 176, 177, 5, 178, 903, 904, 905, 906, 907, 908, 909, 910, 911, 912, 913, 914, 915, 916, 917, 918, 919, 920, 921, 922, 923, 924, 925, 926, 927, 928, 929, 930, 931, 932] (by decide +kernel) (by decide +kernel)
set_option maxRecDepth 20000 in
theorem gL_law_X7_year : GoodIn wsL_law (wsV RL 132 RX7 yX7_year wsX7_year) := goodIn_app (goodIn_of _ (by decide +kernel)) ggL_law_X7_year
set_option maxRecDepth 20000 in
theorem ggL_law_X6_ahead : GoodIn wsL_law wsX6_ahead := goodIn_r _ [790, 791, 42, 161, 162, 2, 163, 792, 793, 794, 41, 795, 781, 92, 93, 796, 592, 593, 594, 595, 218, 596, 597, 598, 599, 887, 888, 889, 890, 891, 892, 893, 894, 895, 896, 897, 898, 899, 900, 901, 902, 965, 966, 967] (by decide +kernel) (by decide +kernel)
set_option maxRecDepth 20000 in
theorem gL_law_X6_ahead : GoodIn wsL_law (wsV RL 133 RX6 yX6_ahead wsX6_ahead) := goodIn_app (goodIn_of _ (by decide +kernel)) ggL_law_X6_ahead
set_option maxRecDepth 20000 in
theorem ggL_law_X7_ahead : GoodIn wsL_law wsX7_ahead := goodIn_r _ [800, 801, 786, 135, 136, 176, 177, 5, 178, 604, 605, 606, 607, 608, 609, 903, 904, 905, 906, 907, 908, 909, 910, 911, 912, 913, 914, 915, 916, 917, 918, 919, 920, 921, 922, 923, 924, 925, 926, 927, 928, 929, 930, 931, 932] (by decide +kernel) (by decide +kernel)
set_option maxRecDepth 20000 in
theorem gL_law_X7_ahead : GoodIn wsL_law (wsV RL 137 RX7 yX7_ahead wsX7_ahead) := goodIn_app (goodIn_of _ (by decide +kernel)) ggL_law_X7_ahead
set_option maxRecDepth 20000 in
theorem ggL_law_X6_mark : GoodIn wsL_law wsX6_mark := goodIn_r _ [805, 806, 161, 162, 2, 163, 807, 808, 809, 810, 811, 33, 812, 813, 814, 815, 816, 24, 440, 817, 818, 819, 820, 821, 439, 822, 823, 824, 825, 826, 827, 828, 829, 830, 831, 832, 833, 834, 835, 836, 20, 441, 446, 111, 112, 19, 113, 68, 66, 887, 888, 889, 890, 891, 892, 893, 894, 895, 896, 897, 898, 899, 900, 901, 902, 951, 952, 953, 954, 955, 956, 957, 940, 941, 942, 943, 944, 945, 946, 947, 948, 949, 950] (by decide +kernel) (by decide +kernel)
set_option maxRecDepth 20000 in
theorem gL_law_X6_mark : GoodIn wsL_law (wsV RL 138 RX6 yX6_mark wsX6_mark) := goodIn_app (goodIn_of _ (by decide +kernel)) ggL_law_X6_mark
set_option maxRecDepth 20000 in
theorem ggL_law_X7_mark : GoodIn wsL_law wsX7_mark := goodIn_r _ [840, 841, 128, 842, 843, 123, 844, 845, 846, 847, 176, 177, 5, 178, 534, 535, 536, 372, 373, 374, 375, 122, 145, 146, 147, 148, 121, 120, 388, 389, 390, 391, 903, 904, 905, 906, 907, 908, 909, 910, 911, 912, 913, 914, 915, 916, 917, 918, 919, 920, 921, 922, 923, 924, 925, 926, 927, 928, 929, 930, 931, 932] (by decide +kernel) (by decide +kernel)
set_option maxRecDepth 20000 in
theorem gL_law_X7_mark : GoodIn wsL_law (wsV RL 141 RX7 yX7_mark wsX7_mark) := goodIn_app (goodIn_of _ (by decide +kernel)) ggL_law_X7_mark
set_option maxRecDepth 20000 in
theorem ggL_law_X6_keep : GoodIn wsL_law wsX6_keep := goodIn_r _ [851, 25, 24, 27, 439, 161, 162, 2, 163, 481, 482, 483, 23, 484, 98, 100, 105, 106, 107, 108, 109, 887, 888, 889, 890, 891, 892, 893, 894, 895, 896, 897, 898, 899, 900, 901, 902, 951, 952, 953, 954, 955, 956, 957] (by decide +kernel) (by decide +kernel)
set_option maxRecDepth 20000 in
theorem gL_law_X6_keep : GoodIn wsL_law (wsV RL 142 RX6 yX6_keep wsX6_keep) := goodIn_app (goodIn_of _ (by decide +kernel)) ggL_law_X6_keep
set_option maxRecDepth 20000 in
theorem ggL_law_X7_keep : GoodIn wsL_law wsX7_keep := goodIn_r _ [855, 124, 123, 176, 177, 5, 178, 856, 857, 858, 859, 903, 904, 905, 906, 907, 908, 909, 910, 911, 912, 913, 914, 915, 916, 917, 918, 919, 920, 921, 922, 923, 924, 925, 926, 927, 928, 929, 930, 931, 932] (by decide +kernel) (by decide +kernel)
set_option maxRecDepth 20000 in
theorem gL_law_X7_keep : GoodIn wsL_law (wsV RL 145 RX7 yX7_keep wsX7_keep) := goodIn_app (goodIn_of _ (by decide +kernel)) ggL_law_X7_keep
set_option maxRecDepth 20000 in
theorem ggL_law_X6_back : GoodIn wsL_law wsX6_back := goodIn_r _ [863, 27, 24, 25, 439, 161, 162, 2, 163, 481, 482, 483, 23, 484, 98, 100, 105, 106, 107, 108, 109, 887, 888, 889, 890, 891, 892, 893, 894, 895, 896, 897, 898, 899, 900, 901, 902, 951, 952, 953, 954, 955, 956, 957] (by decide +kernel) (by decide +kernel)
set_option maxRecDepth 20000 in
theorem gL_law_X6_back : GoodIn wsL_law (wsV RL 146 RX6 yX6_back wsX6_back) := goodIn_app (goodIn_of _ (by decide +kernel)) ggL_law_X6_back
set_option maxRecDepth 20000 in
theorem ggL_law_X7_back : GoodIn wsL_law wsX7_back := goodIn_r _ [867, 124, 123, 176, 177, 5, 178, 856, 857, 858, 859, 903, 904, 905, 906, 907, 908, 909, 910, 911, 912, 913, 914, 915, 916, 917, 918, 919, 920, 921, 922, 923, 924, 925, 926, 927, 928, 929, 930, 931, 932] (by decide +kernel) (by decide +kernel)
set_option maxRecDepth 20000 in
theorem gL_law_X7_back : GoodIn wsL_law (wsV RL 149 RX7 yX7_back wsX7_back) := goodIn_app (goodIn_of _ (by decide +kernel)) ggL_law_X7_back
set_option maxRecDepth 20000 in
theorem ggL_law_X6_count : GoodIn wsL_law wsX6_count := goodIn_r _ [871, 31, 558, 38, 872, 42, 873, 16, 874, 887, 888, 889, 890, 891, 892, 893, 894, 895, 896, 897, 898, 899, 900, 901, 902, 958, 959, 960, 961, 962, 963, 964, 965, 966, 967, 933, 934, 935, 936, 937, 938, 939] (by decide +kernel) (by decide +kernel)
set_option maxRecDepth 20000 in
theorem gL_law_X6_count : GoodIn wsL_law (wsV RL 150 RX6 yX6_count wsX6_count) := goodIn_app (goodIn_of _ (by decide +kernel)) ggL_law_X6_count
set_option maxRecDepth 20000 in
theorem ggL_law_X7_count : GoodIn wsL_law wsX7_count := goodIn_r _ [878, 513, 755, 786, 174, 903, 904, 905, 906, 907, 908, 909, 910, 911, 912, 913, 914, 915, 916, 917, 918, 919, 920, 921, 922, 923, 924, 925, 926, 927, 928, 929, 930, 931, 932] (by decide +kernel) (by decide +kernel)
set_option maxRecDepth 20000 in
theorem gL_law_X7_count : GoodIn wsL_law (wsV RL 153 RX7 yX7_count wsX7_count) := goodIn_app (goodIn_of _ (by decide +kernel)) ggL_law_X7_count
set_option maxRecDepth 20000 in
theorem ggL_law_X6_trace : GoodIn wsL_law wsX6_trace := goodIn_r _ [882, 811, 887, 888, 889, 890, 891, 892, 893, 894, 895, 896, 897, 898, 899, 900, 901, 902] (by decide +kernel) (by decide +kernel)
set_option maxRecDepth 20000 in
theorem gL_law_X6_trace : GoodIn wsL_law (wsV RL 154 RX6 yX6_trace wsX6_trace) := goodIn_app (goodIn_of _ (by decide +kernel)) ggL_law_X6_trace
set_option maxRecDepth 20000 in
theorem ggL_law_X7_trace : GoodIn wsL_law wsX7_trace := goodIn_r _ [886, 842, 903, 904, 905, 906, 907, 908, 909, 910, 911, 912, 913, 914, 915, 916, 917, 918, 919, 920, 921, 922, 923, 924, 925, 926, 927, 928, 929, 930, 931, 932] (by decide +kernel) (by decide +kernel)
set_option maxRecDepth 20000 in
theorem gL_law_X7_trace : GoodIn wsL_law (wsV RL 158 RX7 yX7_trace wsX7_trace) := goodIn_app (goodIn_of _ (by decide +kernel)) ggL_law_X7_trace
theorem dL_law_0 : decode cL_law 0 = .ok (.new 7, 3) := by decide +kernel
theorem dL_law_3 : decode cL_law 3 = .ok (.dup, 1) := by decide +kernel
theorem dL_law_4 : decode cL_law 4 = .ok (.invokespecial 9, 3) := by decide +kernel
theorem dL_law_7 : decode cL_law 7 = .ok (.astore_n 1, 1) := by decide +kernel
theorem dL_law_8 : decode cL_law 8 = .ok (.new 10, 3) := by decide +kernel
theorem dL_law_11 : decode cL_law 11 = .ok (.dup, 1) := by decide +kernel
theorem dL_law_12 : decode cL_law 12 = .ok (.invokespecial 12, 3) := by decide +kernel
theorem dL_law_15 : decode cL_law 15 = .ok (.astore_n 2, 1) := by decide +kernel
theorem dL_law_16 : decode cL_law 16 = .ok (.iconst 0, 1) := by decide +kernel
theorem dL_law_17 : decode cL_law 17 = .ok (.istore_n 3, 1) := by decide +kernel
theorem dL_law_18 : decode cL_law 18 = .ok (.iload_n 3, 1) := by decide +kernel
theorem dL_law_19 : decode cL_law 19 = .ok (.aload_n 0, 1) := by decide +kernel
theorem dL_law_20 : decode cL_law 20 = .ok (.arraylength, 1) := by decide +kernel
theorem dL_law_21 : decode cL_law 21 = .ok (.iconst 5, 1) := by decide +kernel
theorem dL_law_22 : decode cL_law 22 = .ok (.isub, 1) := by decide +kernel
theorem dL_law_23 : decode cL_law 23 = .ok (.if_icmp .gt 1081, 3) := by decide +kernel
theorem dL_law_26 : decode cL_law 26 = .ok (.aload_n 0, 1) := by decide +kernel
theorem dL_law_27 : decode cL_law 27 = .ok (.iload_n 3, 1) := by decide +kernel
theorem dL_law_28 : decode cL_law 28 = .ok (.iaload, 1) := by decide +kernel
theorem dL_law_29 : decode cL_law 29 = .ok (.bipush 63, 2) := by decide +kernel
theorem dL_law_31 : decode cL_law 31 = .ok (.iand, 1) := by decide +kernel
theorem dL_law_32 : decode cL_law 32 = .ok (.tableswitch 1066 0 33 #[152, 215, 228, 241, 264, 287, 310, 333, 356, 369, 382, 405, 428, 471, 484, 517, 540, 573, 586, 619, 652, 675, 728, 761, 794, 827, 860, 883, 916, 950, 983, 1006, 1029, 1052], 152) := by decide +kernel
theorem dL_law_184 : decode cL_law 184 = .ok (.aload_n 1, 1) := by decide +kernel
theorem dL_law_185 : decode cL_law 185 = .ok (.aload_n 0, 1) := by decide +kernel
theorem dL_law_186 : decode cL_law 186 = .ok (.iload_n 3, 1) := by decide +kernel
theorem dL_law_187 : decode cL_law 187 = .ok (.iconst 1, 1) := by decide +kernel
theorem dL_law_188 : decode cL_law 188 = .ok (.iadd, 1) := by decide +kernel
theorem dL_law_189 : decode cL_law 189 = .ok (.iaload, 1) := by decide +kernel
theorem dL_law_190 : decode cL_law 190 = .ok (.i2l, 1) := by decide +kernel
theorem dL_law_191 : decode cL_law 191 = .ok (.bipush 32, 2) := by decide +kernel
theorem dL_law_193 : decode cL_law 193 = .ok (.lshl, 1) := by decide +kernel
theorem dL_law_194 : decode cL_law 194 = .ok (.aload_n 0, 1) := by decide +kernel
theorem dL_law_195 : decode cL_law 195 = .ok (.iload_n 3, 1) := by decide +kernel
theorem dL_law_196 : decode cL_law 196 = .ok (.iconst 2, 1) := by decide +kernel
theorem dL_law_197 : decode cL_law 197 = .ok (.iadd, 1) := by decide +kernel
theorem dL_law_198 : decode cL_law 198 = .ok (.iaload, 1) := by decide +kernel
theorem dL_law_199 : decode cL_law 199 = .ok (.i2l, 1) := by decide +kernel
theorem dL_law_200 : decode cL_law 200 = .ok (.ldc2_w 13, 3) := by decide +kernel
theorem dL_law_203 : decode cL_law 203 = .ok (.land, 1) := by decide +kernel
theorem dL_law_204 : decode cL_law 204 = .ok (.lor, 1) := by decide +kernel
theorem dL_law_205 : decode cL_law 205 = .ok (.aload_n 0, 1) := by decide +kernel
theorem dL_law_206 : decode cL_law 206 = .ok (.iload_n 3, 1) := by decide +kernel
theorem dL_law_207 : decode cL_law 207 = .ok (.iconst 3, 1) := by decide +kernel
theorem dL_law_208 : decode cL_law 208 = .ok (.iadd, 1) := by decide +kernel
theorem dL_law_209 : decode cL_law 209 = .ok (.iaload, 1) := by decide +kernel
theorem dL_law_210 : decode cL_law 210 = .ok (.invokevirtual 15, 3) := by decide +kernel
theorem dL_law_213 : decode cL_law 213 = .ok (.aload_n 2, 1) := by decide +kernel
theorem dL_law_214 : decode cL_law 214 = .ok (.aload_n 0, 1) := by decide +kernel
theorem dL_law_215 : decode cL_law 215 = .ok (.iload_n 3, 1) := by decide +kernel
theorem dL_law_216 : decode cL_law 216 = .ok (.iconst 1, 1) := by decide +kernel
theorem dL_law_217 : decode cL_law 217 = .ok (.iadd, 1) := by decide +kernel
theorem dL_law_218 : decode cL_law 218 = .ok (.iaload, 1) := by decide +kernel
theorem dL_law_219 : decode cL_law 219 = .ok (.i2l, 1) := by decide +kernel
theorem dL_law_220 : decode cL_law 220 = .ok (.bipush 32, 2) := by decide +kernel
theorem dL_law_222 : decode cL_law 222 = .ok (.lshl, 1) := by decide +kernel
theorem dL_law_223 : decode cL_law 223 = .ok (.aload_n 0, 1) := by decide +kernel
theorem dL_law_224 : decode cL_law 224 = .ok (.iload_n 3, 1) := by decide +kernel
theorem dL_law_225 : decode cL_law 225 = .ok (.iconst 2, 1) := by decide +kernel
theorem dL_law_226 : decode cL_law 226 = .ok (.iadd, 1) := by decide +kernel
theorem dL_law_227 : decode cL_law 227 = .ok (.iaload, 1) := by decide +kernel
theorem dL_law_228 : decode cL_law 228 = .ok (.i2l, 1) := by decide +kernel
theorem dL_law_229 : decode cL_law 229 = .ok (.ldc2_w 13, 3) := by decide +kernel
theorem dL_law_232 : decode cL_law 232 = .ok (.land, 1) := by decide +kernel
theorem dL_law_233 : decode cL_law 233 = .ok (.lor, 1) := by decide +kernel
theorem dL_law_234 : decode cL_law 234 = .ok (.aload_n 0, 1) := by decide +kernel
theorem dL_law_235 : decode cL_law 235 = .ok (.iload_n 3, 1) := by decide +kernel
theorem dL_law_236 : decode cL_law 236 = .ok (.iconst 3, 1) := by decide +kernel
theorem dL_law_237 : decode cL_law 237 = .ok (.iadd, 1) := by decide +kernel
theorem dL_law_238 : decode cL_law 238 = .ok (.iaload, 1) := by decide +kernel
theorem dL_law_239 : decode cL_law 239 = .ok (.invokevirtual 19, 3) := by decide +kernel
theorem dL_law_242 : decode cL_law 242 = .ok (.if_icmp .eq 856, 3) := by decide +kernel
theorem dL_law_245 : decode cL_law 245 = .ok (.iconst 0, 1) := by decide +kernel
theorem dL_law_246 : decode cL_law 246 = .ok (.ireturn, 1) := by decide +kernel
theorem dL_law_247 : decode cL_law 247 = .ok (.aload_n 1, 1) := by decide +kernel
theorem dL_law_248 : decode cL_law 248 = .ok (.invokevirtual 20, 3) := by decide +kernel
theorem dL_law_251 : decode cL_law 251 = .ok (.aload_n 2, 1) := by decide +kernel
theorem dL_law_252 : decode cL_law 252 = .ok (.invokevirtual 24, 3) := by decide +kernel
theorem dL_law_255 : decode cL_law 255 = .ok (.if_icmp .eq 843, 3) := by decide +kernel
theorem dL_law_258 : decode cL_law 258 = .ok (.iconst 0, 1) := by decide +kernel
theorem dL_law_259 : decode cL_law 259 = .ok (.ireturn, 1) := by decide +kernel
theorem dL_law_260 : decode cL_law 260 = .ok (.aload_n 1, 1) := by decide +kernel
theorem dL_law_261 : decode cL_law 261 = .ok (.invokevirtual 25, 3) := by decide +kernel
theorem dL_law_264 : decode cL_law 264 = .ok (.aload_n 2, 1) := by decide +kernel
theorem dL_law_265 : decode cL_law 265 = .ok (.invokevirtual 28, 3) := by decide +kernel
theorem dL_law_268 : decode cL_law 268 = .ok (.if_icmp .eq 830, 3) := by decide +kernel
theorem dL_law_271 : decode cL_law 271 = .ok (.iconst 0, 1) := by decide +kernel
theorem dL_law_272 : decode cL_law 272 = .ok (.ireturn, 1) := by decide +kernel
theorem dL_law_273 : decode cL_law 273 = .ok (.aload_n 1, 1) := by decide +kernel
theorem dL_law_274 : decode cL_law 274 = .ok (.aload_n 0, 1) := by decide +kernel
theorem dL_law_275 : decode cL_law 275 = .ok (.iload_n 3, 1) := by decide +kernel
theorem dL_law_276 : decode cL_law 276 = .ok (.iconst 1, 1) := by decide +kernel
theorem dL_law_277 : decode cL_law 277 = .ok (.iadd, 1) := by decide +kernel
theorem dL_law_278 : decode cL_law 278 = .ok (.iaload, 1) := by decide +kernel
theorem dL_law_279 : decode cL_law 279 = .ok (.invokevirtual 29, 3) := by decide +kernel
theorem dL_law_282 : decode cL_law 282 = .ok (.aload_n 2, 1) := by decide +kernel
theorem dL_law_283 : decode cL_law 283 = .ok (.aload_n 0, 1) := by decide +kernel
theorem dL_law_284 : decode cL_law 284 = .ok (.iload_n 3, 1) := by decide +kernel
theorem dL_law_285 : decode cL_law 285 = .ok (.iconst 1, 1) := by decide +kernel
theorem dL_law_286 : decode cL_law 286 = .ok (.iadd, 1) := by decide +kernel
theorem dL_law_287 : decode cL_law 287 = .ok (.iaload, 1) := by decide +kernel
theorem dL_law_288 : decode cL_law 288 = .ok (.invokevirtual 33, 3) := by decide +kernel
theorem dL_law_291 : decode cL_law 291 = .ok (.if_icmp .eq 807, 3) := by decide +kernel
theorem dL_law_294 : decode cL_law 294 = .ok (.iconst 0, 1) := by decide +kernel
theorem dL_law_295 : decode cL_law 295 = .ok (.ireturn, 1) := by decide +kernel
theorem dL_law_296 : decode cL_law 296 = .ok (.aload_n 1, 1) := by decide +kernel
theorem dL_law_297 : decode cL_law 297 = .ok (.aload_n 0, 1) := by decide +kernel
theorem dL_law_298 : decode cL_law 298 = .ok (.iload_n 3, 1) := by decide +kernel
theorem dL_law_299 : decode cL_law 299 = .ok (.iconst 1, 1) := by decide +kernel
theorem dL_law_300 : decode cL_law 300 = .ok (.iadd, 1) := by decide +kernel
theorem dL_law_301 : decode cL_law 301 = .ok (.iaload, 1) := by decide +kernel
theorem dL_law_302 : decode cL_law 302 = .ok (.invokevirtual 34, 3) := by decide +kernel
theorem dL_law_305 : decode cL_law 305 = .ok (.aload_n 2, 1) := by decide +kernel
theorem dL_law_306 : decode cL_law 306 = .ok (.aload_n 0, 1) := by decide +kernel
theorem dL_law_307 : decode cL_law 307 = .ok (.iload_n 3, 1) := by decide +kernel
theorem dL_law_308 : decode cL_law 308 = .ok (.iconst 1, 1) := by decide +kernel
theorem dL_law_309 : decode cL_law 309 = .ok (.iadd, 1) := by decide +kernel
theorem dL_law_310 : decode cL_law 310 = .ok (.iaload, 1) := by decide +kernel
theorem dL_law_311 : decode cL_law 311 = .ok (.invokevirtual 37, 3) := by decide +kernel
theorem dL_law_314 : decode cL_law 314 = .ok (.if_icmp .eq 784, 3) := by decide +kernel
theorem dL_law_317 : decode cL_law 317 = .ok (.iconst 0, 1) := by decide +kernel
theorem dL_law_318 : decode cL_law 318 = .ok (.ireturn, 1) := by decide +kernel
theorem dL_law_319 : decode cL_law 319 = .ok (.aload_n 1, 1) := by decide +kernel
theorem dL_law_320 : decode cL_law 320 = .ok (.aload_n 0, 1) := by decide +kernel
theorem dL_law_321 : decode cL_law 321 = .ok (.iload_n 3, 1) := by decide +kernel
theorem dL_law_322 : decode cL_law 322 = .ok (.iconst 1, 1) := by decide +kernel
theorem dL_law_323 : decode cL_law 323 = .ok (.iadd, 1) := by decide +kernel
theorem dL_law_324 : decode cL_law 324 = .ok (.iaload, 1) := by decide +kernel
theorem dL_law_325 : decode cL_law 325 = .ok (.invokevirtual 38, 3) := by decide +kernel
theorem dL_law_328 : decode cL_law 328 = .ok (.aload_n 2, 1) := by decide +kernel
theorem dL_law_329 : decode cL_law 329 = .ok (.aload_n 0, 1) := by decide +kernel
theorem dL_law_330 : decode cL_law 330 = .ok (.iload_n 3, 1) := by decide +kernel
theorem dL_law_331 : decode cL_law 331 = .ok (.iconst 1, 1) := by decide +kernel
theorem dL_law_332 : decode cL_law 332 = .ok (.iadd, 1) := by decide +kernel
theorem dL_law_333 : decode cL_law 333 = .ok (.iaload, 1) := by decide +kernel
theorem dL_law_334 : decode cL_law 334 = .ok (.invokevirtual 41, 3) := by decide +kernel
theorem dL_law_337 : decode cL_law 337 = .ok (.if_icmp .eq 761, 3) := by decide +kernel
theorem dL_law_340 : decode cL_law 340 = .ok (.iconst 0, 1) := by decide +kernel
theorem dL_law_341 : decode cL_law 341 = .ok (.ireturn, 1) := by decide +kernel
theorem dL_law_342 : decode cL_law 342 = .ok (.aload_n 1, 1) := by decide +kernel
theorem dL_law_343 : decode cL_law 343 = .ok (.aload_n 0, 1) := by decide +kernel
theorem dL_law_344 : decode cL_law 344 = .ok (.iload_n 3, 1) := by decide +kernel
theorem dL_law_345 : decode cL_law 345 = .ok (.iconst 1, 1) := by decide +kernel
theorem dL_law_346 : decode cL_law 346 = .ok (.iadd, 1) := by decide +kernel
theorem dL_law_347 : decode cL_law 347 = .ok (.iaload, 1) := by decide +kernel
theorem dL_law_348 : decode cL_law 348 = .ok (.invokevirtual 42, 3) := by decide +kernel
theorem dL_law_351 : decode cL_law 351 = .ok (.aload_n 2, 1) := by decide +kernel
theorem dL_law_352 : decode cL_law 352 = .ok (.aload_n 0, 1) := by decide +kernel
theorem dL_law_353 : decode cL_law 353 = .ok (.iload_n 3, 1) := by decide +kernel
theorem dL_law_354 : decode cL_law 354 = .ok (.iconst 1, 1) := by decide +kernel
theorem dL_law_355 : decode cL_law 355 = .ok (.iadd, 1) := by decide +kernel
theorem dL_law_356 : decode cL_law 356 = .ok (.iaload, 1) := by decide +kernel
theorem dL_law_357 : decode cL_law 357 = .ok (.invokevirtual 45, 3) := by decide +kernel
theorem dL_law_360 : decode cL_law 360 = .ok (.if_icmp .eq 738, 3) := by decide +kernel
theorem dL_law_363 : decode cL_law 363 = .ok (.iconst 0, 1) := by decide +kernel
theorem dL_law_364 : decode cL_law 364 = .ok (.ireturn, 1) := by decide +kernel
theorem dL_law_365 : decode cL_law 365 = .ok (.aload_n 1, 1) := by decide +kernel
theorem dL_law_366 : decode cL_law 366 = .ok (.aload_n 0, 1) := by decide +kernel
theorem dL_law_367 : decode cL_law 367 = .ok (.iload_n 3, 1) := by decide +kernel
theorem dL_law_368 : decode cL_law 368 = .ok (.iconst 1, 1) := by decide +kernel
theorem dL_law_369 : decode cL_law 369 = .ok (.iadd, 1) := by decide +kernel
theorem dL_law_370 : decode cL_law 370 = .ok (.iaload, 1) := by decide +kernel
theorem dL_law_371 : decode cL_law 371 = .ok (.invokevirtual 46, 3) := by decide +kernel
theorem dL_law_374 : decode cL_law 374 = .ok (.aload_n 2, 1) := by decide +kernel
theorem dL_law_375 : decode cL_law 375 = .ok (.aload_n 0, 1) := by decide +kernel
theorem dL_law_376 : decode cL_law 376 = .ok (.iload_n 3, 1) := by decide +kernel
theorem dL_law_377 : decode cL_law 377 = .ok (.iconst 1, 1) := by decide +kernel
theorem dL_law_378 : decode cL_law 378 = .ok (.iadd, 1) := by decide +kernel
theorem dL_law_379 : decode cL_law 379 = .ok (.iaload, 1) := by decide +kernel
theorem dL_law_380 : decode cL_law 380 = .ok (.invokevirtual 49, 3) := by decide +kernel
theorem dL_law_383 : decode cL_law 383 = .ok (.if_icmp .eq 715, 3) := by decide +kernel
theorem dL_law_386 : decode cL_law 386 = .ok (.iconst 0, 1) := by decide +kernel
theorem dL_law_387 : decode cL_law 387 = .ok (.ireturn, 1) := by decide +kernel
theorem dL_law_388 : decode cL_law 388 = .ok (.aload_n 1, 1) := by decide +kernel
theorem dL_law_389 : decode cL_law 389 = .ok (.invokevirtual 50, 3) := by decide +kernel
theorem dL_law_392 : decode cL_law 392 = .ok (.aload_n 2, 1) := by decide +kernel
theorem dL_law_393 : decode cL_law 393 = .ok (.invokevirtual 53, 3) := by decide +kernel
theorem dL_law_396 : decode cL_law 396 = .ok (.if_icmp .eq 702, 3) := by decide +kernel
theorem dL_law_399 : decode cL_law 399 = .ok (.iconst 0, 1) := by decide +kernel
theorem dL_law_400 : decode cL_law 400 = .ok (.ireturn, 1) := by decide +kernel
theorem dL_law_401 : decode cL_law 401 = .ok (.aload_n 1, 1) := by decide +kernel
theorem dL_law_402 : decode cL_law 402 = .ok (.invokevirtual 54, 3) := by decide +kernel
theorem dL_law_405 : decode cL_law 405 = .ok (.aload_n 2, 1) := by decide +kernel
theorem dL_law_406 : decode cL_law 406 = .ok (.invokevirtual 57, 3) := by decide +kernel
theorem dL_law_409 : decode cL_law 409 = .ok (.if_icmp .eq 689, 3) := by decide +kernel
theorem dL_law_412 : decode cL_law 412 = .ok (.iconst 0, 1) := by decide +kernel
theorem dL_law_413 : decode cL_law 413 = .ok (.ireturn, 1) := by decide +kernel
theorem dL_law_414 : decode cL_law 414 = .ok (.aload_n 1, 1) := by decide +kernel
theorem dL_law_415 : decode cL_law 415 = .ok (.aload_n 0, 1) := by decide +kernel
theorem dL_law_416 : decode cL_law 416 = .ok (.iload_n 3, 1) := by decide +kernel
theorem dL_law_417 : decode cL_law 417 = .ok (.iconst 1, 1) := by decide +kernel
theorem dL_law_418 : decode cL_law 418 = .ok (.iadd, 1) := by decide +kernel
theorem dL_law_419 : decode cL_law 419 = .ok (.iaload, 1) := by decide +kernel
theorem dL_law_420 : decode cL_law 420 = .ok (.invokevirtual 58, 3) := by decide +kernel
theorem dL_law_423 : decode cL_law 423 = .ok (.aload_n 2, 1) := by decide +kernel
theorem dL_law_424 : decode cL_law 424 = .ok (.aload_n 0, 1) := by decide +kernel
theorem dL_law_425 : decode cL_law 425 = .ok (.iload_n 3, 1) := by decide +kernel
theorem dL_law_426 : decode cL_law 426 = .ok (.iconst 1, 1) := by decide +kernel
theorem dL_law_427 : decode cL_law 427 = .ok (.iadd, 1) := by decide +kernel
theorem dL_law_428 : decode cL_law 428 = .ok (.iaload, 1) := by decide +kernel
theorem dL_law_429 : decode cL_law 429 = .ok (.invokevirtual 61, 3) := by decide +kernel
theorem dL_law_432 : decode cL_law 432 = .ok (.if_icmp .eq 666, 3) := by decide +kernel
theorem dL_law_435 : decode cL_law 435 = .ok (.iconst 0, 1) := by decide +kernel
theorem dL_law_436 : decode cL_law 436 = .ok (.ireturn, 1) := by decide +kernel
theorem dL_law_437 : decode cL_law 437 = .ok (.aload_n 1, 1) := by decide +kernel
theorem dL_law_438 : decode cL_law 438 = .ok (.aload_n 0, 1) := by decide +kernel
theorem dL_law_439 : decode cL_law 439 = .ok (.iload_n 3, 1) := by decide +kernel
theorem dL_law_440 : decode cL_law 440 = .ok (.iconst 1, 1) := by decide +kernel
theorem dL_law_441 : decode cL_law 441 = .ok (.iadd, 1) := by decide +kernel
theorem dL_law_442 : decode cL_law 442 = .ok (.iaload, 1) := by decide +kernel
theorem dL_law_443 : decode cL_law 443 = .ok (.invokevirtual 62, 3) := by decide +kernel
theorem dL_law_446 : decode cL_law 446 = .ok (.aload_n 2, 1) := by decide +kernel
theorem dL_law_447 : decode cL_law 447 = .ok (.aload_n 0, 1) := by decide +kernel
theorem dL_law_448 : decode cL_law 448 = .ok (.iload_n 3, 1) := by decide +kernel
theorem dL_law_449 : decode cL_law 449 = .ok (.iconst 1, 1) := by decide +kernel
theorem dL_law_450 : decode cL_law 450 = .ok (.iadd, 1) := by decide +kernel
theorem dL_law_451 : decode cL_law 451 = .ok (.iaload, 1) := by decide +kernel
theorem dL_law_452 : decode cL_law 452 = .ok (.invokevirtual 65, 3) := by decide +kernel
theorem dL_law_455 : decode cL_law 455 = .ok (.if_icmp .eq 643, 3) := by decide +kernel
theorem dL_law_458 : decode cL_law 458 = .ok (.iconst 0, 1) := by decide +kernel
theorem dL_law_459 : decode cL_law 459 = .ok (.ireturn, 1) := by decide +kernel
theorem dL_law_460 : decode cL_law 460 = .ok (.aload_n 1, 1) := by decide +kernel
theorem dL_law_461 : decode cL_law 461 = .ok (.aload_n 0, 1) := by decide +kernel
theorem dL_law_462 : decode cL_law 462 = .ok (.iload_n 3, 1) := by decide +kernel
theorem dL_law_463 : decode cL_law 463 = .ok (.iconst 1, 1) := by decide +kernel
theorem dL_law_464 : decode cL_law 464 = .ok (.iadd, 1) := by decide +kernel
theorem dL_law_465 : decode cL_law 465 = .ok (.iaload, 1) := by decide +kernel
theorem dL_law_466 : decode cL_law 466 = .ok (.aload_n 0, 1) := by decide +kernel
theorem dL_law_467 : decode cL_law 467 = .ok (.iload_n 3, 1) := by decide +kernel
theorem dL_law_468 : decode cL_law 468 = .ok (.iconst 2, 1) := by decide +kernel
theorem dL_law_469 : decode cL_law 469 = .ok (.iadd, 1) := by decide +kernel
theorem dL_law_470 : decode cL_law 470 = .ok (.iaload, 1) := by decide +kernel
theorem dL_law_471 : decode cL_law 471 = .ok (.aload_n 0, 1) := by decide +kernel
theorem dL_law_472 : decode cL_law 472 = .ok (.iload_n 3, 1) := by decide +kernel
theorem dL_law_473 : decode cL_law 473 = .ok (.iconst 3, 1) := by decide +kernel
theorem dL_law_474 : decode cL_law 474 = .ok (.iadd, 1) := by decide +kernel
theorem dL_law_475 : decode cL_law 475 = .ok (.iaload, 1) := by decide +kernel
theorem dL_law_476 : decode cL_law 476 = .ok (.invokevirtual 66, 3) := by decide +kernel
theorem dL_law_479 : decode cL_law 479 = .ok (.aload_n 2, 1) := by decide +kernel
theorem dL_law_480 : decode cL_law 480 = .ok (.aload_n 0, 1) := by decide +kernel
theorem dL_law_481 : decode cL_law 481 = .ok (.iload_n 3, 1) := by decide +kernel
theorem dL_law_482 : decode cL_law 482 = .ok (.iconst 1, 1) := by decide +kernel
theorem dL_law_483 : decode cL_law 483 = .ok (.iadd, 1) := by decide +kernel
theorem dL_law_484 : decode cL_law 484 = .ok (.iaload, 1) := by decide +kernel
theorem dL_law_485 : decode cL_law 485 = .ok (.aload_n 0, 1) := by decide +kernel
theorem dL_law_486 : decode cL_law 486 = .ok (.iload_n 3, 1) := by decide +kernel
theorem dL_law_487 : decode cL_law 487 = .ok (.iconst 2, 1) := by decide +kernel
theorem dL_law_488 : decode cL_law 488 = .ok (.iadd, 1) := by decide +kernel
theorem dL_law_489 : decode cL_law 489 = .ok (.iaload, 1) := by decide +kernel
theorem dL_law_490 : decode cL_law 490 = .ok (.aload_n 0, 1) := by decide +kernel
theorem dL_law_491 : decode cL_law 491 = .ok (.iload_n 3, 1) := by decide +kernel
theorem dL_law_492 : decode cL_law 492 = .ok (.iconst 3, 1) := by decide +kernel
theorem dL_law_493 : decode cL_law 493 = .ok (.iadd, 1) := by decide +kernel
theorem dL_law_494 : decode cL_law 494 = .ok (.iaload, 1) := by decide +kernel
theorem dL_law_495 : decode cL_law 495 = .ok (.invokevirtual 70, 3) := by decide +kernel
theorem dL_law_498 : decode cL_law 498 = .ok (.if_icmp .eq 600, 3) := by decide +kernel
theorem dL_law_501 : decode cL_law 501 = .ok (.iconst 0, 1) := by decide +kernel
theorem dL_law_502 : decode cL_law 502 = .ok (.ireturn, 1) := by decide +kernel
theorem dL_law_503 : decode cL_law 503 = .ok (.aload_n 1, 1) := by decide +kernel
theorem dL_law_504 : decode cL_law 504 = .ok (.invokevirtual 71, 3) := by decide +kernel
theorem dL_law_507 : decode cL_law 507 = .ok (.aload_n 2, 1) := by decide +kernel
theorem dL_law_508 : decode cL_law 508 = .ok (.invokevirtual 74, 3) := by decide +kernel
theorem dL_law_511 : decode cL_law 511 = .ok (.if_icmp .eq 587, 3) := by decide +kernel
theorem dL_law_514 : decode cL_law 514 = .ok (.iconst 0, 1) := by decide +kernel
theorem dL_law_515 : decode cL_law 515 = .ok (.ireturn, 1) := by decide +kernel
theorem dL_law_516 : decode cL_law 516 = .ok (.aload_n 1, 1) := by decide +kernel
theorem dL_law_517 : decode cL_law 517 = .ok (.aload_n 0, 1) := by decide +kernel
theorem dL_law_518 : decode cL_law 518 = .ok (.iload_n 3, 1) := by decide +kernel
theorem dL_law_519 : decode cL_law 519 = .ok (.iconst 1, 1) := by decide +kernel
theorem dL_law_520 : decode cL_law 520 = .ok (.iadd, 1) := by decide +kernel
theorem dL_law_521 : decode cL_law 521 = .ok (.iaload, 1) := by decide +kernel
theorem dL_law_522 : decode cL_law 522 = .ok (.aload_n 0, 1) := by decide +kernel
theorem dL_law_523 : decode cL_law 523 = .ok (.iload_n 3, 1) := by decide +kernel
theorem dL_law_524 : decode cL_law 524 = .ok (.iconst 2, 1) := by decide +kernel
theorem dL_law_525 : decode cL_law 525 = .ok (.iadd, 1) := by decide +kernel
theorem dL_law_526 : decode cL_law 526 = .ok (.iaload, 1) := by decide +kernel
theorem dL_law_527 : decode cL_law 527 = .ok (.invokevirtual 75, 3) := by decide +kernel
theorem dL_law_530 : decode cL_law 530 = .ok (.aload_n 2, 1) := by decide +kernel
theorem dL_law_531 : decode cL_law 531 = .ok (.aload_n 0, 1) := by decide +kernel
theorem dL_law_532 : decode cL_law 532 = .ok (.iload_n 3, 1) := by decide +kernel
theorem dL_law_533 : decode cL_law 533 = .ok (.iconst 1, 1) := by decide +kernel
theorem dL_law_534 : decode cL_law 534 = .ok (.iadd, 1) := by decide +kernel
theorem dL_law_535 : decode cL_law 535 = .ok (.iaload, 1) := by decide +kernel
theorem dL_law_536 : decode cL_law 536 = .ok (.aload_n 0, 1) := by decide +kernel
theorem dL_law_537 : decode cL_law 537 = .ok (.iload_n 3, 1) := by decide +kernel
theorem dL_law_538 : decode cL_law 538 = .ok (.iconst 2, 1) := by decide +kernel
theorem dL_law_539 : decode cL_law 539 = .ok (.iadd, 1) := by decide +kernel
theorem dL_law_540 : decode cL_law 540 = .ok (.iaload, 1) := by decide +kernel
theorem dL_law_541 : decode cL_law 541 = .ok (.invokevirtual 79, 3) := by decide +kernel
theorem dL_law_544 : decode cL_law 544 = .ok (.if_icmp .eq 554, 3) := by decide +kernel
theorem dL_law_547 : decode cL_law 547 = .ok (.iconst 0, 1) := by decide +kernel
theorem dL_law_548 : decode cL_law 548 = .ok (.ireturn, 1) := by decide +kernel
theorem dL_law_549 : decode cL_law 549 = .ok (.aload_n 1, 1) := by decide +kernel
theorem dL_law_550 : decode cL_law 550 = .ok (.aload_n 0, 1) := by decide +kernel
theorem dL_law_551 : decode cL_law 551 = .ok (.iload_n 3, 1) := by decide +kernel
theorem dL_law_552 : decode cL_law 552 = .ok (.iconst 1, 1) := by decide +kernel
theorem dL_law_553 : decode cL_law 553 = .ok (.iadd, 1) := by decide +kernel
theorem dL_law_554 : decode cL_law 554 = .ok (.iaload, 1) := by decide +kernel
theorem dL_law_555 : decode cL_law 555 = .ok (.invokevirtual 80, 3) := by decide +kernel
theorem dL_law_558 : decode cL_law 558 = .ok (.aload_n 2, 1) := by decide +kernel
theorem dL_law_559 : decode cL_law 559 = .ok (.aload_n 0, 1) := by decide +kernel
theorem dL_law_560 : decode cL_law 560 = .ok (.iload_n 3, 1) := by decide +kernel
theorem dL_law_561 : decode cL_law 561 = .ok (.iconst 1, 1) := by decide +kernel
theorem dL_law_562 : decode cL_law 562 = .ok (.iadd, 1) := by decide +kernel
theorem dL_law_563 : decode cL_law 563 = .ok (.iaload, 1) := by decide +kernel
theorem dL_law_564 : decode cL_law 564 = .ok (.invokevirtual 83, 3) := by decide +kernel
theorem dL_law_567 : decode cL_law 567 = .ok (.if_icmp .eq 531, 3) := by decide +kernel
theorem dL_law_570 : decode cL_law 570 = .ok (.iconst 0, 1) := by decide +kernel
theorem dL_law_571 : decode cL_law 571 = .ok (.ireturn, 1) := by decide +kernel
theorem dL_law_572 : decode cL_law 572 = .ok (.aload_n 1, 1) := by decide +kernel
theorem dL_law_573 : decode cL_law 573 = .ok (.aload_n 0, 1) := by decide +kernel
theorem dL_law_574 : decode cL_law 574 = .ok (.iload_n 3, 1) := by decide +kernel
theorem dL_law_575 : decode cL_law 575 = .ok (.iconst 1, 1) := by decide +kernel
theorem dL_law_576 : decode cL_law 576 = .ok (.iadd, 1) := by decide +kernel
theorem dL_law_577 : decode cL_law 577 = .ok (.iaload, 1) := by decide +kernel
theorem dL_law_578 : decode cL_law 578 = .ok (.aload_n 0, 1) := by decide +kernel
theorem dL_law_579 : decode cL_law 579 = .ok (.iload_n 3, 1) := by decide +kernel
theorem dL_law_580 : decode cL_law 580 = .ok (.iconst 2, 1) := by decide +kernel
theorem dL_law_581 : decode cL_law 581 = .ok (.iadd, 1) := by decide +kernel
theorem dL_law_582 : decode cL_law 582 = .ok (.iaload, 1) := by decide +kernel
theorem dL_law_583 : decode cL_law 583 = .ok (.invokevirtual 84, 3) := by decide +kernel
theorem dL_law_586 : decode cL_law 586 = .ok (.aload_n 2, 1) := by decide +kernel
theorem dL_law_587 : decode cL_law 587 = .ok (.aload_n 0, 1) := by decide +kernel
theorem dL_law_588 : decode cL_law 588 = .ok (.iload_n 3, 1) := by decide +kernel
theorem dL_law_589 : decode cL_law 589 = .ok (.iconst 1, 1) := by decide +kernel
theorem dL_law_590 : decode cL_law 590 = .ok (.iadd, 1) := by decide +kernel
theorem dL_law_591 : decode cL_law 591 = .ok (.iaload, 1) := by decide +kernel
theorem dL_law_592 : decode cL_law 592 = .ok (.aload_n 0, 1) := by decide +kernel
theorem dL_law_593 : decode cL_law 593 = .ok (.iload_n 3, 1) := by decide +kernel
theorem dL_law_594 : decode cL_law 594 = .ok (.iconst 2, 1) := by decide +kernel
theorem dL_law_595 : decode cL_law 595 = .ok (.iadd, 1) := by decide +kernel
theorem dL_law_596 : decode cL_law 596 = .ok (.iaload, 1) := by decide +kernel
theorem dL_law_597 : decode cL_law 597 = .ok (.invokevirtual 87, 3) := by decide +kernel
theorem dL_law_600 : decode cL_law 600 = .ok (.if_icmp .eq 498, 3) := by decide +kernel
theorem dL_law_603 : decode cL_law 603 = .ok (.iconst 0, 1) := by decide +kernel
theorem dL_law_604 : decode cL_law 604 = .ok (.ireturn, 1) := by decide +kernel
theorem dL_law_605 : decode cL_law 605 = .ok (.aload_n 1, 1) := by decide +kernel
theorem dL_law_606 : decode cL_law 606 = .ok (.invokevirtual 88, 3) := by decide +kernel
theorem dL_law_609 : decode cL_law 609 = .ok (.aload_n 2, 1) := by decide +kernel
theorem dL_law_610 : decode cL_law 610 = .ok (.invokevirtual 91, 3) := by decide +kernel
theorem dL_law_613 : decode cL_law 613 = .ok (.if_icmp .eq 485, 3) := by decide +kernel
theorem dL_law_616 : decode cL_law 616 = .ok (.iconst 0, 1) := by decide +kernel
theorem dL_law_617 : decode cL_law 617 = .ok (.ireturn, 1) := by decide +kernel
theorem dL_law_618 : decode cL_law 618 = .ok (.aload_n 1, 1) := by decide +kernel
theorem dL_law_619 : decode cL_law 619 = .ok (.aload_n 0, 1) := by decide +kernel
theorem dL_law_620 : decode cL_law 620 = .ok (.iload_n 3, 1) := by decide +kernel
theorem dL_law_621 : decode cL_law 621 = .ok (.iconst 1, 1) := by decide +kernel
theorem dL_law_622 : decode cL_law 622 = .ok (.iadd, 1) := by decide +kernel
theorem dL_law_623 : decode cL_law 623 = .ok (.iaload, 1) := by decide +kernel
theorem dL_law_624 : decode cL_law 624 = .ok (.aload_n 0, 1) := by decide +kernel
theorem dL_law_625 : decode cL_law 625 = .ok (.iload_n 3, 1) := by decide +kernel
theorem dL_law_626 : decode cL_law 626 = .ok (.iconst 2, 1) := by decide +kernel
theorem dL_law_627 : decode cL_law 627 = .ok (.iadd, 1) := by decide +kernel
theorem dL_law_628 : decode cL_law 628 = .ok (.iaload, 1) := by decide +kernel
theorem dL_law_629 : decode cL_law 629 = .ok (.invokevirtual 92, 3) := by decide +kernel
theorem dL_law_632 : decode cL_law 632 = .ok (.aload_n 2, 1) := by decide +kernel
theorem dL_law_633 : decode cL_law 633 = .ok (.aload_n 0, 1) := by decide +kernel
theorem dL_law_634 : decode cL_law 634 = .ok (.iload_n 3, 1) := by decide +kernel
theorem dL_law_635 : decode cL_law 635 = .ok (.iconst 1, 1) := by decide +kernel
theorem dL_law_636 : decode cL_law 636 = .ok (.iadd, 1) := by decide +kernel
theorem dL_law_637 : decode cL_law 637 = .ok (.iaload, 1) := by decide +kernel
theorem dL_law_638 : decode cL_law 638 = .ok (.aload_n 0, 1) := by decide +kernel
theorem dL_law_639 : decode cL_law 639 = .ok (.iload_n 3, 1) := by decide +kernel
theorem dL_law_640 : decode cL_law 640 = .ok (.iconst 2, 1) := by decide +kernel
theorem dL_law_641 : decode cL_law 641 = .ok (.iadd, 1) := by decide +kernel
theorem dL_law_642 : decode cL_law 642 = .ok (.iaload, 1) := by decide +kernel
theorem dL_law_643 : decode cL_law 643 = .ok (.invokevirtual 95, 3) := by decide +kernel
theorem dL_law_646 : decode cL_law 646 = .ok (.if_icmp .eq 452, 3) := by decide +kernel
theorem dL_law_649 : decode cL_law 649 = .ok (.iconst 0, 1) := by decide +kernel
theorem dL_law_650 : decode cL_law 650 = .ok (.ireturn, 1) := by decide +kernel
theorem dL_law_651 : decode cL_law 651 = .ok (.aload_n 1, 1) := by decide +kernel
theorem dL_law_652 : decode cL_law 652 = .ok (.aload_n 0, 1) := by decide +kernel
theorem dL_law_653 : decode cL_law 653 = .ok (.iload_n 3, 1) := by decide +kernel
theorem dL_law_654 : decode cL_law 654 = .ok (.iconst 1, 1) := by decide +kernel
theorem dL_law_655 : decode cL_law 655 = .ok (.iadd, 1) := by decide +kernel
theorem dL_law_656 : decode cL_law 656 = .ok (.iaload, 1) := by decide +kernel
theorem dL_law_657 : decode cL_law 657 = .ok (.aload_n 0, 1) := by decide +kernel
theorem dL_law_658 : decode cL_law 658 = .ok (.iload_n 3, 1) := by decide +kernel
theorem dL_law_659 : decode cL_law 659 = .ok (.iconst 2, 1) := by decide +kernel
theorem dL_law_660 : decode cL_law 660 = .ok (.iadd, 1) := by decide +kernel
theorem dL_law_661 : decode cL_law 661 = .ok (.iaload, 1) := by decide +kernel
theorem dL_law_662 : decode cL_law 662 = .ok (.invokevirtual 96, 3) := by decide +kernel
theorem dL_law_665 : decode cL_law 665 = .ok (.aload_n 2, 1) := by decide +kernel
theorem dL_law_666 : decode cL_law 666 = .ok (.aload_n 0, 1) := by decide +kernel
theorem dL_law_667 : decode cL_law 667 = .ok (.iload_n 3, 1) := by decide +kernel
theorem dL_law_668 : decode cL_law 668 = .ok (.iconst 1, 1) := by decide +kernel
theorem dL_law_669 : decode cL_law 669 = .ok (.iadd, 1) := by decide +kernel
theorem dL_law_670 : decode cL_law 670 = .ok (.iaload, 1) := by decide +kernel
theorem dL_law_671 : decode cL_law 671 = .ok (.aload_n 0, 1) := by decide +kernel
theorem dL_law_672 : decode cL_law 672 = .ok (.iload_n 3, 1) := by decide +kernel
theorem dL_law_673 : decode cL_law 673 = .ok (.iconst 2, 1) := by decide +kernel
theorem dL_law_674 : decode cL_law 674 = .ok (.iadd, 1) := by decide +kernel
theorem dL_law_675 : decode cL_law 675 = .ok (.iaload, 1) := by decide +kernel
theorem dL_law_676 : decode cL_law 676 = .ok (.invokevirtual 99, 3) := by decide +kernel
theorem dL_law_679 : decode cL_law 679 = .ok (.if_icmp .eq 419, 3) := by decide +kernel
theorem dL_law_682 : decode cL_law 682 = .ok (.iconst 0, 1) := by decide +kernel
theorem dL_law_683 : decode cL_law 683 = .ok (.ireturn, 1) := by decide +kernel
theorem dL_law_684 : decode cL_law 684 = .ok (.aload_n 1, 1) := by decide +kernel
theorem dL_law_685 : decode cL_law 685 = .ok (.aload_n 0, 1) := by decide +kernel
theorem dL_law_686 : decode cL_law 686 = .ok (.iload_n 3, 1) := by decide +kernel
theorem dL_law_687 : decode cL_law 687 = .ok (.iconst 1, 1) := by decide +kernel
theorem dL_law_688 : decode cL_law 688 = .ok (.iadd, 1) := by decide +kernel
theorem dL_law_689 : decode cL_law 689 = .ok (.iaload, 1) := by decide +kernel
theorem dL_law_690 : decode cL_law 690 = .ok (.invokevirtual 100, 3) := by decide +kernel
theorem dL_law_693 : decode cL_law 693 = .ok (.aload_n 2, 1) := by decide +kernel
theorem dL_law_694 : decode cL_law 694 = .ok (.aload_n 0, 1) := by decide +kernel
theorem dL_law_695 : decode cL_law 695 = .ok (.iload_n 3, 1) := by decide +kernel
theorem dL_law_696 : decode cL_law 696 = .ok (.iconst 1, 1) := by decide +kernel
theorem dL_law_697 : decode cL_law 697 = .ok (.iadd, 1) := by decide +kernel
theorem dL_law_698 : decode cL_law 698 = .ok (.iaload, 1) := by decide +kernel
theorem dL_law_699 : decode cL_law 699 = .ok (.invokevirtual 103, 3) := by decide +kernel
theorem dL_law_702 : decode cL_law 702 = .ok (.if_icmp .eq 396, 3) := by decide +kernel
theorem dL_law_705 : decode cL_law 705 = .ok (.iconst 0, 1) := by decide +kernel
theorem dL_law_706 : decode cL_law 706 = .ok (.ireturn, 1) := by decide +kernel
theorem dL_law_707 : decode cL_law 707 = .ok (.aload_n 1, 1) := by decide +kernel
theorem dL_law_708 : decode cL_law 708 = .ok (.aload_n 0, 1) := by decide +kernel
theorem dL_law_709 : decode cL_law 709 = .ok (.iload_n 3, 1) := by decide +kernel
theorem dL_law_710 : decode cL_law 710 = .ok (.iconst 1, 1) := by decide +kernel
theorem dL_law_711 : decode cL_law 711 = .ok (.iadd, 1) := by decide +kernel
theorem dL_law_712 : decode cL_law 712 = .ok (.iaload, 1) := by decide +kernel
theorem dL_law_713 : decode cL_law 713 = .ok (.aload_n 0, 1) := by decide +kernel
theorem dL_law_714 : decode cL_law 714 = .ok (.iload_n 3, 1) := by decide +kernel
theorem dL_law_715 : decode cL_law 715 = .ok (.iconst 2, 1) := by decide +kernel
theorem dL_law_716 : decode cL_law 716 = .ok (.iadd, 1) := by decide +kernel
theorem dL_law_717 : decode cL_law 717 = .ok (.iaload, 1) := by decide +kernel
theorem dL_law_718 : decode cL_law 718 = .ok (.aload_n 0, 1) := by decide +kernel
theorem dL_law_719 : decode cL_law 719 = .ok (.iload_n 3, 1) := by decide +kernel
theorem dL_law_720 : decode cL_law 720 = .ok (.iconst 3, 1) := by decide +kernel
theorem dL_law_721 : decode cL_law 721 = .ok (.iadd, 1) := by decide +kernel
theorem dL_law_722 : decode cL_law 722 = .ok (.iaload, 1) := by decide +kernel
theorem dL_law_723 : decode cL_law 723 = .ok (.aload_n 0, 1) := by decide +kernel
theorem dL_law_724 : decode cL_law 724 = .ok (.iload_n 3, 1) := by decide +kernel
theorem dL_law_725 : decode cL_law 725 = .ok (.iconst 4, 1) := by decide +kernel
theorem dL_law_726 : decode cL_law 726 = .ok (.iadd, 1) := by decide +kernel
theorem dL_law_727 : decode cL_law 727 = .ok (.iaload, 1) := by decide +kernel
theorem dL_law_728 : decode cL_law 728 = .ok (.invokevirtual 104, 3) := by decide +kernel
theorem dL_law_731 : decode cL_law 731 = .ok (.aload_n 2, 1) := by decide +kernel
theorem dL_law_732 : decode cL_law 732 = .ok (.aload_n 0, 1) := by decide +kernel
theorem dL_law_733 : decode cL_law 733 = .ok (.iload_n 3, 1) := by decide +kernel
theorem dL_law_734 : decode cL_law 734 = .ok (.iconst 1, 1) := by decide +kernel
theorem dL_law_735 : decode cL_law 735 = .ok (.iadd, 1) := by decide +kernel
theorem dL_law_736 : decode cL_law 736 = .ok (.iaload, 1) := by decide +kernel
theorem dL_law_737 : decode cL_law 737 = .ok (.aload_n 0, 1) := by decide +kernel
theorem dL_law_738 : decode cL_law 738 = .ok (.iload_n 3, 1) := by decide +kernel
theorem dL_law_739 : decode cL_law 739 = .ok (.iconst 2, 1) := by decide +kernel
theorem dL_law_740 : decode cL_law 740 = .ok (.iadd, 1) := by decide +kernel
theorem dL_law_741 : decode cL_law 741 = .ok (.iaload, 1) := by decide +kernel
theorem dL_law_742 : decode cL_law 742 = .ok (.aload_n 0, 1) := by decide +kernel
theorem dL_law_743 : decode cL_law 743 = .ok (.iload_n 3, 1) := by decide +kernel
theorem dL_law_744 : decode cL_law 744 = .ok (.iconst 3, 1) := by decide +kernel
theorem dL_law_745 : decode cL_law 745 = .ok (.iadd, 1) := by decide +kernel
theorem dL_law_746 : decode cL_law 746 = .ok (.iaload, 1) := by decide +kernel
theorem dL_law_747 : decode cL_law 747 = .ok (.aload_n 0, 1) := by decide +kernel
theorem dL_law_748 : decode cL_law 748 = .ok (.iload_n 3, 1) := by decide +kernel
theorem dL_law_749 : decode cL_law 749 = .ok (.iconst 4, 1) := by decide +kernel
theorem dL_law_750 : decode cL_law 750 = .ok (.iadd, 1) := by decide +kernel
theorem dL_law_751 : decode cL_law 751 = .ok (.iaload, 1) := by decide +kernel
theorem dL_law_752 : decode cL_law 752 = .ok (.invokevirtual 108, 3) := by decide +kernel
theorem dL_law_755 : decode cL_law 755 = .ok (.if_icmp .eq 343, 3) := by decide +kernel
theorem dL_law_758 : decode cL_law 758 = .ok (.iconst 0, 1) := by decide +kernel
theorem dL_law_759 : decode cL_law 759 = .ok (.ireturn, 1) := by decide +kernel
theorem dL_law_760 : decode cL_law 760 = .ok (.aload_n 1, 1) := by decide +kernel
theorem dL_law_761 : decode cL_law 761 = .ok (.aload_n 0, 1) := by decide +kernel
theorem dL_law_762 : decode cL_law 762 = .ok (.iload_n 3, 1) := by decide +kernel
theorem dL_law_763 : decode cL_law 763 = .ok (.iconst 1, 1) := by decide +kernel
theorem dL_law_764 : decode cL_law 764 = .ok (.iadd, 1) := by decide +kernel
theorem dL_law_765 : decode cL_law 765 = .ok (.iaload, 1) := by decide +kernel
theorem dL_law_766 : decode cL_law 766 = .ok (.aload_n 0, 1) := by decide +kernel
theorem dL_law_767 : decode cL_law 767 = .ok (.iload_n 3, 1) := by decide +kernel
theorem dL_law_768 : decode cL_law 768 = .ok (.iconst 2, 1) := by decide +kernel
theorem dL_law_769 : decode cL_law 769 = .ok (.iadd, 1) := by decide +kernel
theorem dL_law_770 : decode cL_law 770 = .ok (.iaload, 1) := by decide +kernel
theorem dL_law_771 : decode cL_law 771 = .ok (.invokevirtual 109, 3) := by decide +kernel
theorem dL_law_774 : decode cL_law 774 = .ok (.aload_n 2, 1) := by decide +kernel
theorem dL_law_775 : decode cL_law 775 = .ok (.aload_n 0, 1) := by decide +kernel
theorem dL_law_776 : decode cL_law 776 = .ok (.iload_n 3, 1) := by decide +kernel
theorem dL_law_777 : decode cL_law 777 = .ok (.iconst 1, 1) := by decide +kernel
theorem dL_law_778 : decode cL_law 778 = .ok (.iadd, 1) := by decide +kernel
theorem dL_law_779 : decode cL_law 779 = .ok (.iaload, 1) := by decide +kernel
theorem dL_law_780 : decode cL_law 780 = .ok (.aload_n 0, 1) := by decide +kernel
theorem dL_law_781 : decode cL_law 781 = .ok (.iload_n 3, 1) := by decide +kernel
theorem dL_law_782 : decode cL_law 782 = .ok (.iconst 2, 1) := by decide +kernel
theorem dL_law_783 : decode cL_law 783 = .ok (.iadd, 1) := by decide +kernel
theorem dL_law_784 : decode cL_law 784 = .ok (.iaload, 1) := by decide +kernel
theorem dL_law_785 : decode cL_law 785 = .ok (.invokevirtual 112, 3) := by decide +kernel
theorem dL_law_788 : decode cL_law 788 = .ok (.if_icmp .eq 310, 3) := by decide +kernel
theorem dL_law_791 : decode cL_law 791 = .ok (.iconst 0, 1) := by decide +kernel
theorem dL_law_792 : decode cL_law 792 = .ok (.ireturn, 1) := by decide +kernel
theorem dL_law_793 : decode cL_law 793 = .ok (.aload_n 1, 1) := by decide +kernel
theorem dL_law_794 : decode cL_law 794 = .ok (.aload_n 0, 1) := by decide +kernel
theorem dL_law_795 : decode cL_law 795 = .ok (.iload_n 3, 1) := by decide +kernel
theorem dL_law_796 : decode cL_law 796 = .ok (.iconst 1, 1) := by decide +kernel
theorem dL_law_797 : decode cL_law 797 = .ok (.iadd, 1) := by decide +kernel
theorem dL_law_798 : decode cL_law 798 = .ok (.iaload, 1) := by decide +kernel
theorem dL_law_799 : decode cL_law 799 = .ok (.aload_n 0, 1) := by decide +kernel
theorem dL_law_800 : decode cL_law 800 = .ok (.iload_n 3, 1) := by decide +kernel
theorem dL_law_801 : decode cL_law 801 = .ok (.iconst 2, 1) := by decide +kernel
theorem dL_law_802 : decode cL_law 802 = .ok (.iadd, 1) := by decide +kernel
theorem dL_law_803 : decode cL_law 803 = .ok (.iaload, 1) := by decide +kernel
theorem dL_law_804 : decode cL_law 804 = .ok (.invokevirtual 113, 3) := by decide +kernel
theorem dL_law_807 : decode cL_law 807 = .ok (.aload_n 2, 1) := by decide +kernel
theorem dL_law_808 : decode cL_law 808 = .ok (.aload_n 0, 1) := by decide +kernel
theorem dL_law_809 : decode cL_law 809 = .ok (.iload_n 3, 1) := by decide +kernel
theorem dL_law_810 : decode cL_law 810 = .ok (.iconst 1, 1) := by decide +kernel
theorem dL_law_811 : decode cL_law 811 = .ok (.iadd, 1) := by decide +kernel
theorem dL_law_812 : decode cL_law 812 = .ok (.iaload, 1) := by decide +kernel
theorem dL_law_813 : decode cL_law 813 = .ok (.aload_n 0, 1) := by decide +kernel
theorem dL_law_814 : decode cL_law 814 = .ok (.iload_n 3, 1) := by decide +kernel
theorem dL_law_815 : decode cL_law 815 = .ok (.iconst 2, 1) := by decide +kernel
theorem dL_law_816 : decode cL_law 816 = .ok (.iadd, 1) := by decide +kernel
theorem dL_law_817 : decode cL_law 817 = .ok (.iaload, 1) := by decide +kernel
theorem dL_law_818 : decode cL_law 818 = .ok (.invokevirtual 116, 3) := by decide +kernel
theorem dL_law_821 : decode cL_law 821 = .ok (.if_icmp .eq 277, 3) := by decide +kernel
theorem dL_law_824 : decode cL_law 824 = .ok (.iconst 0, 1) := by decide +kernel
theorem dL_law_825 : decode cL_law 825 = .ok (.ireturn, 1) := by decide +kernel
theorem dL_law_826 : decode cL_law 826 = .ok (.aload_n 1, 1) := by decide +kernel
theorem dL_law_827 : decode cL_law 827 = .ok (.aload_n 0, 1) := by decide +kernel
theorem dL_law_828 : decode cL_law 828 = .ok (.iload_n 3, 1) := by decide +kernel
theorem dL_law_829 : decode cL_law 829 = .ok (.iconst 1, 1) := by decide +kernel
theorem dL_law_830 : decode cL_law 830 = .ok (.iadd, 1) := by decide +kernel
theorem dL_law_831 : decode cL_law 831 = .ok (.iaload, 1) := by decide +kernel
theorem dL_law_832 : decode cL_law 832 = .ok (.aload_n 0, 1) := by decide +kernel
theorem dL_law_833 : decode cL_law 833 = .ok (.iload_n 3, 1) := by decide +kernel
theorem dL_law_834 : decode cL_law 834 = .ok (.iconst 2, 1) := by decide +kernel
theorem dL_law_835 : decode cL_law 835 = .ok (.iadd, 1) := by decide +kernel
theorem dL_law_836 : decode cL_law 836 = .ok (.iaload, 1) := by decide +kernel
theorem dL_law_837 : decode cL_law 837 = .ok (.invokevirtual 117, 3) := by decide +kernel
theorem dL_law_840 : decode cL_law 840 = .ok (.aload_n 2, 1) := by decide +kernel
theorem dL_law_841 : decode cL_law 841 = .ok (.aload_n 0, 1) := by decide +kernel
theorem dL_law_842 : decode cL_law 842 = .ok (.iload_n 3, 1) := by decide +kernel
theorem dL_law_843 : decode cL_law 843 = .ok (.iconst 1, 1) := by decide +kernel
theorem dL_law_844 : decode cL_law 844 = .ok (.iadd, 1) := by decide +kernel
theorem dL_law_845 : decode cL_law 845 = .ok (.iaload, 1) := by decide +kernel
theorem dL_law_846 : decode cL_law 846 = .ok (.aload_n 0, 1) := by decide +kernel
theorem dL_law_847 : decode cL_law 847 = .ok (.iload_n 3, 1) := by decide +kernel
theorem dL_law_848 : decode cL_law 848 = .ok (.iconst 2, 1) := by decide +kernel
theorem dL_law_849 : decode cL_law 849 = .ok (.iadd, 1) := by decide +kernel
theorem dL_law_850 : decode cL_law 850 = .ok (.iaload, 1) := by decide +kernel
theorem dL_law_851 : decode cL_law 851 = .ok (.invokevirtual 120, 3) := by decide +kernel
theorem dL_law_854 : decode cL_law 854 = .ok (.if_icmp .eq 244, 3) := by decide +kernel
theorem dL_law_857 : decode cL_law 857 = .ok (.iconst 0, 1) := by decide +kernel
theorem dL_law_858 : decode cL_law 858 = .ok (.ireturn, 1) := by decide +kernel
theorem dL_law_859 : decode cL_law 859 = .ok (.aload_n 1, 1) := by decide +kernel
theorem dL_law_860 : decode cL_law 860 = .ok (.aload_n 0, 1) := by decide +kernel
theorem dL_law_861 : decode cL_law 861 = .ok (.iload_n 3, 1) := by decide +kernel
theorem dL_law_862 : decode cL_law 862 = .ok (.iconst 1, 1) := by decide +kernel
theorem dL_law_863 : decode cL_law 863 = .ok (.iadd, 1) := by decide +kernel
theorem dL_law_864 : decode cL_law 864 = .ok (.iaload, 1) := by decide +kernel
theorem dL_law_865 : decode cL_law 865 = .ok (.aload_n 0, 1) := by decide +kernel
theorem dL_law_866 : decode cL_law 866 = .ok (.iload_n 3, 1) := by decide +kernel
theorem dL_law_867 : decode cL_law 867 = .ok (.iconst 2, 1) := by decide +kernel
theorem dL_law_868 : decode cL_law 868 = .ok (.iadd, 1) := by decide +kernel
theorem dL_law_869 : decode cL_law 869 = .ok (.iaload, 1) := by decide +kernel
theorem dL_law_870 : decode cL_law 870 = .ok (.invokevirtual 121, 3) := by decide +kernel
theorem dL_law_873 : decode cL_law 873 = .ok (.aload_n 2, 1) := by decide +kernel
theorem dL_law_874 : decode cL_law 874 = .ok (.aload_n 0, 1) := by decide +kernel
theorem dL_law_875 : decode cL_law 875 = .ok (.iload_n 3, 1) := by decide +kernel
theorem dL_law_876 : decode cL_law 876 = .ok (.iconst 1, 1) := by decide +kernel
theorem dL_law_877 : decode cL_law 877 = .ok (.iadd, 1) := by decide +kernel
theorem dL_law_878 : decode cL_law 878 = .ok (.iaload, 1) := by decide +kernel
theorem dL_law_879 : decode cL_law 879 = .ok (.aload_n 0, 1) := by decide +kernel
theorem dL_law_880 : decode cL_law 880 = .ok (.iload_n 3, 1) := by decide +kernel
theorem dL_law_881 : decode cL_law 881 = .ok (.iconst 2, 1) := by decide +kernel
theorem dL_law_882 : decode cL_law 882 = .ok (.iadd, 1) := by decide +kernel
theorem dL_law_883 : decode cL_law 883 = .ok (.iaload, 1) := by decide +kernel
theorem dL_law_884 : decode cL_law 884 = .ok (.invokevirtual 124, 3) := by decide +kernel
theorem dL_law_887 : decode cL_law 887 = .ok (.if_icmp .eq 211, 3) := by decide +kernel
theorem dL_law_890 : decode cL_law 890 = .ok (.iconst 0, 1) := by decide +kernel
theorem dL_law_891 : decode cL_law 891 = .ok (.ireturn, 1) := by decide +kernel
theorem dL_law_892 : decode cL_law 892 = .ok (.aload_n 1, 1) := by decide +kernel
theorem dL_law_893 : decode cL_law 893 = .ok (.aload_n 0, 1) := by decide +kernel
theorem dL_law_894 : decode cL_law 894 = .ok (.iload_n 3, 1) := by decide +kernel
theorem dL_law_895 : decode cL_law 895 = .ok (.iconst 1, 1) := by decide +kernel
theorem dL_law_896 : decode cL_law 896 = .ok (.iadd, 1) := by decide +kernel
theorem dL_law_897 : decode cL_law 897 = .ok (.iaload, 1) := by decide +kernel
theorem dL_law_898 : decode cL_law 898 = .ok (.invokevirtual 125, 3) := by decide +kernel
theorem dL_law_901 : decode cL_law 901 = .ok (.aload_n 2, 1) := by decide +kernel
theorem dL_law_902 : decode cL_law 902 = .ok (.aload_n 0, 1) := by decide +kernel
theorem dL_law_903 : decode cL_law 903 = .ok (.iload_n 3, 1) := by decide +kernel
theorem dL_law_904 : decode cL_law 904 = .ok (.iconst 1, 1) := by decide +kernel
theorem dL_law_905 : decode cL_law 905 = .ok (.iadd, 1) := by decide +kernel
theorem dL_law_906 : decode cL_law 906 = .ok (.iaload, 1) := by decide +kernel
theorem dL_law_907 : decode cL_law 907 = .ok (.invokevirtual 128, 3) := by decide +kernel
theorem dL_law_910 : decode cL_law 910 = .ok (.if_icmp .eq 188, 3) := by decide +kernel
theorem dL_law_913 : decode cL_law 913 = .ok (.iconst 0, 1) := by decide +kernel
theorem dL_law_914 : decode cL_law 914 = .ok (.ireturn, 1) := by decide +kernel
theorem dL_law_915 : decode cL_law 915 = .ok (.aload_n 1, 1) := by decide +kernel
theorem dL_law_916 : decode cL_law 916 = .ok (.aload_n 0, 1) := by decide +kernel
theorem dL_law_917 : decode cL_law 917 = .ok (.iload_n 3, 1) := by decide +kernel
theorem dL_law_918 : decode cL_law 918 = .ok (.iconst 1, 1) := by decide +kernel
theorem dL_law_919 : decode cL_law 919 = .ok (.iadd, 1) := by decide +kernel
theorem dL_law_920 : decode cL_law 920 = .ok (.iaload, 1) := by decide +kernel
theorem dL_law_921 : decode cL_law 921 = .ok (.aload_n 0, 1) := by decide +kernel
theorem dL_law_922 : decode cL_law 922 = .ok (.iload_n 3, 1) := by decide +kernel
theorem dL_law_923 : decode cL_law 923 = .ok (.iconst 2, 1) := by decide +kernel
theorem dL_law_924 : decode cL_law 924 = .ok (.iadd, 1) := by decide +kernel
theorem dL_law_925 : decode cL_law 925 = .ok (.iaload, 1) := by decide +kernel
theorem dL_law_926 : decode cL_law 926 = .ok (.invokevirtual 129, 3) := by decide +kernel
theorem dL_law_929 : decode cL_law 929 = .ok (.aload_n 2, 1) := by decide +kernel
theorem dL_law_930 : decode cL_law 930 = .ok (.aload_n 0, 1) := by decide +kernel
theorem dL_law_931 : decode cL_law 931 = .ok (.iload_n 3, 1) := by decide +kernel
theorem dL_law_932 : decode cL_law 932 = .ok (.iconst 1, 1) := by decide +kernel
theorem dL_law_933 : decode cL_law 933 = .ok (.iadd, 1) := by decide +kernel
theorem dL_law_934 : decode cL_law 934 = .ok (.iaload, 1) := by decide +kernel
theorem dL_law_935 : decode cL_law 935 = .ok (.aload_n 0, 1) := by decide +kernel
theorem dL_law_936 : decode cL_law 936 = .ok (.iload_n 3, 1) := by decide +kernel
theorem dL_law_937 : decode cL_law 937 = .ok (.iconst 2, 1) := by decide +kernel
theorem dL_law_938 : decode cL_law 938 = .ok (.iadd, 1) := by decide +kernel
theorem dL_law_939 : decode cL_law 939 = .ok (.iaload, 1) := by decide +kernel
theorem dL_law_940 : decode cL_law 940 = .ok (.invokevirtual 132, 3) := by decide +kernel
theorem dL_law_943 : decode cL_law 943 = .ok (.if_icmp .eq 155, 3) := by decide +kernel
theorem dL_law_946 : decode cL_law 946 = .ok (.iconst 0, 1) := by decide +kernel
theorem dL_law_947 : decode cL_law 947 = .ok (.ireturn, 1) := by decide +kernel
theorem dL_law_948 : decode cL_law 948 = .ok (.aload_n 1, 1) := by decide +kernel
theorem dL_law_949 : decode cL_law 949 = .ok (.aload_n 0, 1) := by decide +kernel
theorem dL_law_950 : decode cL_law 950 = .ok (.iload_n 3, 1) := by decide +kernel
theorem dL_law_951 : decode cL_law 951 = .ok (.iconst 1, 1) := by decide +kernel
theorem dL_law_952 : decode cL_law 952 = .ok (.iadd, 1) := by decide +kernel
theorem dL_law_953 : decode cL_law 953 = .ok (.iaload, 1) := by decide +kernel
theorem dL_law_954 : decode cL_law 954 = .ok (.aload_n 0, 1) := by decide +kernel
theorem dL_law_955 : decode cL_law 955 = .ok (.iload_n 3, 1) := by decide +kernel
theorem dL_law_956 : decode cL_law 956 = .ok (.iconst 2, 1) := by decide +kernel
theorem dL_law_957 : decode cL_law 957 = .ok (.iadd, 1) := by decide +kernel
theorem dL_law_958 : decode cL_law 958 = .ok (.iaload, 1) := by decide +kernel
theorem dL_law_959 : decode cL_law 959 = .ok (.invokevirtual 133, 3) := by decide +kernel
theorem dL_law_962 : decode cL_law 962 = .ok (.aload_n 2, 1) := by decide +kernel
theorem dL_law_963 : decode cL_law 963 = .ok (.aload_n 0, 1) := by decide +kernel
theorem dL_law_964 : decode cL_law 964 = .ok (.iload_n 3, 1) := by decide +kernel
theorem dL_law_965 : decode cL_law 965 = .ok (.iconst 1, 1) := by decide +kernel
theorem dL_law_966 : decode cL_law 966 = .ok (.iadd, 1) := by decide +kernel
theorem dL_law_967 : decode cL_law 967 = .ok (.iaload, 1) := by decide +kernel
theorem dL_law_968 : decode cL_law 968 = .ok (.aload_n 0, 1) := by decide +kernel
theorem dL_law_969 : decode cL_law 969 = .ok (.iload_n 3, 1) := by decide +kernel
theorem dL_law_970 : decode cL_law 970 = .ok (.iconst 2, 1) := by decide +kernel
theorem dL_law_971 : decode cL_law 971 = .ok (.iadd, 1) := by decide +kernel
theorem dL_law_972 : decode cL_law 972 = .ok (.iaload, 1) := by decide +kernel
theorem dL_law_973 : decode cL_law 973 = .ok (.invokevirtual 137, 3) := by decide +kernel
theorem dL_law_976 : decode cL_law 976 = .ok (.lcmp, 1) := by decide +kernel
theorem dL_law_977 : decode cL_law 977 = .ok (.ifCond .eq 121, 3) := by decide +kernel
theorem dL_law_980 : decode cL_law 980 = .ok (.iconst 0, 1) := by decide +kernel
theorem dL_law_981 : decode cL_law 981 = .ok (.ireturn, 1) := by decide +kernel
theorem dL_law_982 : decode cL_law 982 = .ok (.aload_n 1, 1) := by decide +kernel
theorem dL_law_983 : decode cL_law 983 = .ok (.aload_n 0, 1) := by decide +kernel
theorem dL_law_984 : decode cL_law 984 = .ok (.iload_n 3, 1) := by decide +kernel
theorem dL_law_985 : decode cL_law 985 = .ok (.iconst 1, 1) := by decide +kernel
theorem dL_law_986 : decode cL_law 986 = .ok (.iadd, 1) := by decide +kernel
theorem dL_law_987 : decode cL_law 987 = .ok (.iaload, 1) := by decide +kernel
theorem dL_law_988 : decode cL_law 988 = .ok (.aload_n 0, 1) := by decide +kernel
theorem dL_law_989 : decode cL_law 989 = .ok (.iload_n 3, 1) := by decide +kernel
theorem dL_law_990 : decode cL_law 990 = .ok (.iconst 2, 1) := by decide +kernel
theorem dL_law_991 : decode cL_law 991 = .ok (.iadd, 1) := by decide +kernel
theorem dL_law_992 : decode cL_law 992 = .ok (.iaload, 1) := by decide +kernel
theorem dL_law_993 : decode cL_law 993 = .ok (.invokevirtual 138, 3) := by decide +kernel
theorem dL_law_996 : decode cL_law 996 = .ok (.aload_n 2, 1) := by decide +kernel
theorem dL_law_997 : decode cL_law 997 = .ok (.aload_n 0, 1) := by decide +kernel
theorem dL_law_998 : decode cL_law 998 = .ok (.iload_n 3, 1) := by decide +kernel
theorem dL_law_999 : decode cL_law 999 = .ok (.iconst 1, 1) := by decide +kernel
theorem dL_law_1000 : decode cL_law 1000 = .ok (.iadd, 1) := by decide +kernel
theorem dL_law_1001 : decode cL_law 1001 = .ok (.iaload, 1) := by decide +kernel
theorem dL_law_1002 : decode cL_law 1002 = .ok (.aload_n 0, 1) := by decide +kernel
theorem dL_law_1003 : decode cL_law 1003 = .ok (.iload_n 3, 1) := by decide +kernel
theorem dL_law_1004 : decode cL_law 1004 = .ok (.iconst 2, 1) := by decide +kernel
theorem dL_law_1005 : decode cL_law 1005 = .ok (.iadd, 1) := by decide +kernel
theorem dL_law_1006 : decode cL_law 1006 = .ok (.iaload, 1) := by decide +kernel
theorem dL_law_1007 : decode cL_law 1007 = .ok (.invokevirtual 141, 3) := by decide +kernel
theorem dL_law_1010 : decode cL_law 1010 = .ok (.if_icmp .eq 88, 3) := by decide +kernel
theorem dL_law_1013 : decode cL_law 1013 = .ok (.iconst 0, 1) := by decide +kernel
theorem dL_law_1014 : decode cL_law 1014 = .ok (.ireturn, 1) := by decide +kernel
theorem dL_law_1015 : decode cL_law 1015 = .ok (.aload_n 1, 1) := by decide +kernel
theorem dL_law_1016 : decode cL_law 1016 = .ok (.aload_n 0, 1) := by decide +kernel
theorem dL_law_1017 : decode cL_law 1017 = .ok (.iload_n 3, 1) := by decide +kernel
theorem dL_law_1018 : decode cL_law 1018 = .ok (.iconst 1, 1) := by decide +kernel
theorem dL_law_1019 : decode cL_law 1019 = .ok (.iadd, 1) := by decide +kernel
theorem dL_law_1020 : decode cL_law 1020 = .ok (.iaload, 1) := by decide +kernel
theorem dL_law_1021 : decode cL_law 1021 = .ok (.invokevirtual 142, 3) := by decide +kernel
theorem dL_law_1024 : decode cL_law 1024 = .ok (.aload_n 2, 1) := by decide +kernel
theorem dL_law_1025 : decode cL_law 1025 = .ok (.aload_n 0, 1) := by decide +kernel
theorem dL_law_1026 : decode cL_law 1026 = .ok (.iload_n 3, 1) := by decide +kernel
theorem dL_law_1027 : decode cL_law 1027 = .ok (.iconst 1, 1) := by decide +kernel
theorem dL_law_1028 : decode cL_law 1028 = .ok (.iadd, 1) := by decide +kernel
theorem dL_law_1029 : decode cL_law 1029 = .ok (.iaload, 1) := by decide +kernel
theorem dL_law_1030 : decode cL_law 1030 = .ok (.invokevirtual 145, 3) := by decide +kernel
theorem dL_law_1033 : decode cL_law 1033 = .ok (.if_icmp .eq 65, 3) := by decide +kernel
theorem dL_law_1036 : decode cL_law 1036 = .ok (.iconst 0, 1) := by decide +kernel
theorem dL_law_1037 : decode cL_law 1037 = .ok (.ireturn, 1) := by decide +kernel
theorem dL_law_1038 : decode cL_law 1038 = .ok (.aload_n 1, 1) := by decide +kernel
theorem dL_law_1039 : decode cL_law 1039 = .ok (.aload_n 0, 1) := by decide +kernel
theorem dL_law_1040 : decode cL_law 1040 = .ok (.iload_n 3, 1) := by decide +kernel
theorem dL_law_1041 : decode cL_law 1041 = .ok (.iconst 1, 1) := by decide +kernel
theorem dL_law_1042 : decode cL_law 1042 = .ok (.iadd, 1) := by decide +kernel
theorem dL_law_1043 : decode cL_law 1043 = .ok (.iaload, 1) := by decide +kernel
theorem dL_law_1044 : decode cL_law 1044 = .ok (.invokevirtual 146, 3) := by decide +kernel
theorem dL_law_1047 : decode cL_law 1047 = .ok (.aload_n 2, 1) := by decide +kernel
theorem dL_law_1048 : decode cL_law 1048 = .ok (.aload_n 0, 1) := by decide +kernel
theorem dL_law_1049 : decode cL_law 1049 = .ok (.iload_n 3, 1) := by decide +kernel
theorem dL_law_1050 : decode cL_law 1050 = .ok (.iconst 1, 1) := by decide +kernel
theorem dL_law_1051 : decode cL_law 1051 = .ok (.iadd, 1) := by decide +kernel
theorem dL_law_1052 : decode cL_law 1052 = .ok (.iaload, 1) := by decide +kernel
theorem dL_law_1053 : decode cL_law 1053 = .ok (.invokevirtual 149, 3) := by decide +kernel
theorem dL_law_1056 : decode cL_law 1056 = .ok (.if_icmp .eq 42, 3) := by decide +kernel
theorem dL_law_1059 : decode cL_law 1059 = .ok (.iconst 0, 1) := by decide +kernel
theorem dL_law_1060 : decode cL_law 1060 = .ok (.ireturn, 1) := by decide +kernel
theorem dL_law_1061 : decode cL_law 1061 = .ok (.aload_n 1, 1) := by decide +kernel
theorem dL_law_1062 : decode cL_law 1062 = .ok (.aload_n 0, 1) := by decide +kernel
theorem dL_law_1063 : decode cL_law 1063 = .ok (.iload_n 3, 1) := by decide +kernel
theorem dL_law_1064 : decode cL_law 1064 = .ok (.iconst 1, 1) := by decide +kernel
theorem dL_law_1065 : decode cL_law 1065 = .ok (.iadd, 1) := by decide +kernel
theorem dL_law_1066 : decode cL_law 1066 = .ok (.iaload, 1) := by decide +kernel
theorem dL_law_1067 : decode cL_law 1067 = .ok (.invokevirtual 150, 3) := by decide +kernel
theorem dL_law_1070 : decode cL_law 1070 = .ok (.aload_n 2, 1) := by decide +kernel
theorem dL_law_1071 : decode cL_law 1071 = .ok (.aload_n 0, 1) := by decide +kernel
theorem dL_law_1072 : decode cL_law 1072 = .ok (.iload_n 3, 1) := by decide +kernel
theorem dL_law_1073 : decode cL_law 1073 = .ok (.iconst 1, 1) := by decide +kernel
theorem dL_law_1074 : decode cL_law 1074 = .ok (.iadd, 1) := by decide +kernel
theorem dL_law_1075 : decode cL_law 1075 = .ok (.iaload, 1) := by decide +kernel
theorem dL_law_1076 : decode cL_law 1076 = .ok (.invokevirtual 153, 3) := by decide +kernel
theorem dL_law_1079 : decode cL_law 1079 = .ok (.if_icmp .eq 19, 3) := by decide +kernel
theorem dL_law_1082 : decode cL_law 1082 = .ok (.iconst 0, 1) := by decide +kernel
theorem dL_law_1083 : decode cL_law 1083 = .ok (.ireturn, 1) := by decide +kernel
theorem dL_law_1084 : decode cL_law 1084 = .ok (.aload_n 1, 1) := by decide +kernel
theorem dL_law_1085 : decode cL_law 1085 = .ok (.invokevirtual 154, 3) := by decide +kernel
theorem dL_law_1088 : decode cL_law 1088 = .ok (.aload_n 2, 1) := by decide +kernel
theorem dL_law_1089 : decode cL_law 1089 = .ok (.invokevirtual 158, 3) := by decide +kernel
theorem dL_law_1092 : decode cL_law 1092 = .ok (.lcmp, 1) := by decide +kernel
theorem dL_law_1093 : decode cL_law 1093 = .ok (.ifCond .eq 5, 3) := by decide +kernel
theorem dL_law_1096 : decode cL_law 1096 = .ok (.iconst 0, 1) := by decide +kernel
theorem dL_law_1097 : decode cL_law 1097 = .ok (.ireturn, 1) := by decide +kernel
theorem dL_law_1098 : decode cL_law 1098 = .ok (.iinc 3 5, 3) := by decide +kernel
theorem dL_law_1101 : decode cL_law 1101 = .ok (.goto (-1083), 3) := by decide +kernel
theorem dL_law_1104 : decode cL_law 1104 = .ok (.iconst 1, 1) := by decide +kernel
theorem dL_law_1105 : decode cL_law 1105 = .ok (.ireturn, 1) := by decide +kernel
abbrev vwCl : List vw_C := [(RX0, TX0, 7), (RX1, TX1, 3), (RX2, TX2, 4), (RX3, TX3, 7), (RX4, TX4, 11), (RX5, TX5, 3), (RX6, TX6, 16), (RX7, TX7, 30)]
