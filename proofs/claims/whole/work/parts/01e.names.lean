theorem dX5_goesOn_88 : decode cX5_goesOn 88 = .ok (.iconst 2, 1) := by decide +kernel
theorem dX5_goesOn_89 : decode cX5_goesOn 89 = .ok (.iload_n 3, 1) := by decide +kernel
theorem dX5_goesOn_90 : decode cX5_goesOn 90 = .ok (.iconst 1, 1) := by decide +kernel
theorem dX5_goesOn_91 : decode cX5_goesOn 91 = .ok (.iadd, 1) := by decide +kernel
theorem dX5_goesOn_92 : decode cX5_goesOn 92 = .ok (.invokevirtual 205, 3) := by decide +kernel
theorem dX5_goesOn_95 : decode cX5_goesOn 95 = .ok (.iinc 4 1, 3) := by decide +kernel
theorem dX5_goesOn_98 : decode cX5_goesOn 98 = .ok (.goto (-62), 3) := by decide +kernel
theorem dX5_goesOn_101 : decode cX5_goesOn 101 = .ok (.aload_n 0, 1) := by decide +kernel
theorem dX5_goesOn_102 : decode cX5_goesOn 102 = .ok (.getfield 70, 3) := by decide +kernel
theorem dX5_goesOn_105 : decode cX5_goesOn 105 = .ok (.iload_n 1, 1) := by decide +kernel
theorem dX5_goesOn_106 : decode cX5_goesOn 106 = .ok (.bipush 18, 2) := by decide +kernel
theorem dX5_goesOn_108 : decode cX5_goesOn 108 = .ok (.iadd, 1) := by decide +kernel
theorem dX5_goesOn_109 : decode cX5_goesOn 109 = .ok (.dup2, 1) := by decide +kernel
theorem dX5_goesOn_110 : decode cX5_goesOn 110 = .ok (.iaload, 1) := by decide +kernel
theorem dX5_goesOn_111 : decode cX5_goesOn 111 = .ok (.iconst 1, 1) := by decide +kernel
theorem dX5_goesOn_112 : decode cX5_goesOn 112 = .ok (.iadd, 1) := by decide +kernel
theorem dX5_goesOn_113 : decode cX5_goesOn 113 = .ok (.iastore, 1) := by decide +kernel
theorem dX5_goesOn_114 : decode cX5_goesOn 114 = .ok (.iload_n 2, 1) := by decide +kernel
theorem dX5_goesOn_115 : decode cX5_goesOn 115 = .ok (.ireturn, 1) := by decide +kernel
theorem dX5_onNow_0 : decode cX5_onNow 0 = .ok (.iconst 0, 1) := by decide +kernel
theorem dX5_onNow_1 : decode cX5_onNow 1 = .ok (.istore_n 2, 1) := by decide +kernel
theorem dX5_onNow_2 : decode cX5_onNow 2 = .ok (.iconst 0, 1) := by decide +kernel
theorem dX5_onNow_3 : decode cX5_onNow 3 = .ok (.istore_n 3, 1) := by decide +kernel
theorem dX5_onNow_4 : decode cX5_onNow 4 = .ok (.iload_n 3, 1) := by decide +kernel
theorem dX5_onNow_5 : decode cX5_onNow 5 = .ok (.aload_n 0, 1) := by decide +kernel
theorem dX5_onNow_6 : decode cX5_onNow 6 = .ok (.getfield 110, 3) := by decide +kernel
theorem dX5_onNow_9 : decode cX5_onNow 9 = .ok (.if_icmp .ge 31, 3) := by decide +kernel
theorem dX5_onNow_12 : decode cX5_onNow 12 = .ok (.iload_n 2, 1) := by decide +kernel
theorem dX5_onNow_13 : decode cX5_onNow 13 = .ok (.aload_n 0, 1) := by decide +kernel
theorem dX5_onNow_14 : decode cX5_onNow 14 = .ok (.getfield 70, 3) := by decide +kernel
theorem dX5_onNow_17 : decode cX5_onNow 17 = .ok (.iload_n 1, 1) := by decide +kernel
theorem dX5_onNow_18 : decode cX5_onNow 18 = .ok (.iload_n 3, 1) := by decide +kernel
theorem dX5_onNow_19 : decode cX5_onNow 19 = .ok (.iadd, 1) := by decide +kernel
theorem dX5_onNow_20 : decode cX5_onNow 20 = .ok (.iaload, 1) := by decide +kernel
theorem dX5_onNow_21 : decode cX5_onNow 21 = .ok (.iconst 1, 1) := by decide +kernel
theorem dX5_onNow_22 : decode cX5_onNow 22 = .ok (.if_icmp .ne 9, 3) := by decide +kernel
theorem dX5_onNow_25 : decode cX5_onNow 25 = .ok (.iconst 1, 1) := by decide +kernel
theorem dX5_onNow_26 : decode cX5_onNow 26 = .ok (.iload_n 3, 1) := by decide +kernel
theorem dX5_onNow_27 : decode cX5_onNow 27 = .ok (.ishl, 1) := by decide +kernel
theorem dX5_onNow_28 : decode cX5_onNow 28 = .ok (.goto 4, 3) := by decide +kernel
theorem dX5_onNow_31 : decode cX5_onNow 31 = .ok (.iconst 0, 1) := by decide +kernel
theorem dX5_onNow_32 : decode cX5_onNow 32 = .ok (.ior, 1) := by decide +kernel
theorem dX5_onNow_33 : decode cX5_onNow 33 = .ok (.istore_n 2, 1) := by decide +kernel
theorem dX5_onNow_34 : decode cX5_onNow 34 = .ok (.iinc 3 1, 3) := by decide +kernel
theorem dX5_onNow_37 : decode cX5_onNow 37 = .ok (.goto (-33), 3) := by decide +kernel
theorem dX5_onNow_40 : decode cX5_onNow 40 = .ok (.iload_n 2, 1) := by decide +kernel
theorem dX5_onNow_41 : decode cX5_onNow 41 = .ok (.ireturn, 1) := by decide +kernel
set_option maxRecDepth 20000 in
theorem ggX5_going_X5_isGoing : GoodIn wsX5_going wsX5_isGoing := goodIn_r _ [11, 12, 13, 14, 10, 15, 29, 30, 31, 32, 33, 34, 35, 36, 37, 38, 39, 40, 41, 42, 43, 44, 45, 46, 47, 48, 49, 50, 51, 52, 53, 54, 55, 56, 57, 58, 59, 60, 61, 62, 63, 64, 65, 66, 67] (by decide +kernel) (by decide +kernel)
set_option maxRecDepth 20000 in
theorem gX5_going_X5_isGoing : GoodIn wsX5_going (wsV RX5 209 RX5 yX5_isGoing wsX5_isGoing) := goodIn_app (goodIn_of _ (by decide +kernel)) ggX5_going_X5_isGoing
set_option maxRecDepth 20000 in
theorem ggX5_going_X5_in : GoodIn wsX5_going wsX5_in := goodIn_r _ [15] (by decide +kernel) (by decide +kernel)
set_option maxRecDepth 20000 in
theorem gX5_going_X5_in : GoodIn wsX5_going (va_wsS RX5 119 yX5_in wsX5_in) := goodIn_app (goodIn_of _ (by decide +kernel)) ggX5_going_X5_in
set_option maxRecDepth 20000 in
theorem ggX5_going_X5_worth : GoodIn wsX5_going wsX5_worth := goodIn_r _ [19, 2, 3, 4, 5, 20, 21, 10, 22, 23, 24, 25, 26, 27, 28, 29, 30, 31, 32, 33, 34, 35, 36, 37, 38, 39, 40, 41, 42, 43, 44, 45, 46, 47, 48, 49, 50, 51, 52, 53, 54, 55, 56, 57, 58, 59, 60, 61, 62, 63, 64, 65, 66, 67] (by decide +kernel) (by decide +kernel)
set_option maxRecDepth 20000 in
theorem gX5_going_X5_worth : GoodIn wsX5_going (wsV RX5 195 RX5 yX5_worth wsX5_worth) := goodIn_app (goodIn_of _ (by decide +kernel)) ggX5_going_X5_worth
theorem dX5_going_0 : decode cX5_going 0 = .ok (.aload_n 0, 1) := by decide +kernel
theorem dX5_going_1 : decode cX5_going 1 = .ok (.iload_n 1, 1) := by decide +kernel
theorem dX5_going_2 : decode cX5_going 2 = .ok (.invokevirtual 209, 3) := by decide +kernel
theorem dX5_going_5 : decode cX5_going 5 = .ok (.ifCond .eq 15, 3) := by decide +kernel
theorem dX5_going_8 : decode cX5_going 8 = .ok (.iload_n 2, 1) := by decide +kernel
theorem dX5_going_9 : decode cX5_going 9 = .ok (.i2l, 1) := by decide +kernel
theorem dX5_going_10 : decode cX5_going 10 = .ok (.lconst 0, 1) := by decide +kernel
theorem dX5_going_11 : decode cX5_going 11 = .ok (.ldc2_w 213, 3) := by decide +kernel
theorem dX5_going_14 : decode cX5_going 14 = .ok (.invokestatic 119, 3) := by decide +kernel
theorem dX5_going_17 : decode cX5_going 17 = .ok (.ifCond .ne 5, 3) := by decide +kernel
theorem dX5_going_20 : decode cX5_going 20 = .ok (.iconst (-1), 1) := by decide +kernel
theorem dX5_going_21 : decode cX5_going 21 = .ok (.ireturn, 1) := by decide +kernel
theorem dX5_going_22 : decode cX5_going 22 = .ok (.aload_n 0, 1) := by decide +kernel
theorem dX5_going_23 : decode cX5_going 23 = .ok (.getfield 70, 3) := by decide +kernel
theorem dX5_going_26 : decode cX5_going 26 = .ok (.bipush 7, 2) := by decide +kernel
theorem dX5_going_28 : decode cX5_going 28 = .ok (.iload_n 1, 1) := by decide +kernel
theorem dX5_going_29 : decode cX5_going 29 = .ok (.iadd, 1) := by decide +kernel
theorem dX5_going_30 : decode cX5_going 30 = .ok (.iaload, 1) := by decide +kernel
theorem dX5_going_31 : decode cX5_going 31 = .ok (.ifCond .ge 8, 3) := by decide +kernel
theorem dX5_going_34 : decode cX5_going 34 = .ok (.bipush (-4), 2) := by decide +kernel
theorem dX5_going_36 : decode cX5_going 36 = .ok (.goto 12, 3) := by decide +kernel
theorem dX5_going_39 : decode cX5_going 39 = .ok (.aload_n 0, 1) := by decide +kernel
theorem dX5_going_40 : decode cX5_going 40 = .ok (.getfield 70, 3) := by decide +kernel
theorem dX5_going_43 : decode cX5_going 43 = .ok (.bipush 7, 2) := by decide +kernel
theorem dX5_going_45 : decode cX5_going 45 = .ok (.iload_n 1, 1) := by decide +kernel
theorem dX5_going_46 : decode cX5_going 46 = .ok (.iadd, 1) := by decide +kernel
theorem dX5_going_47 : decode cX5_going 47 = .ok (.iaload, 1) := by decide +kernel
theorem dX5_going_48 : decode cX5_going 48 = .ok (.istore_n 3, 1) := by decide +kernel
theorem dX5_going_49 : decode cX5_going 49 = .ok (.iload_n 2, 1) := by decide +kernel
theorem dX5_going_50 : decode cX5_going 50 = .ok (.ifCond .ne 12, 3) := by decide +kernel
theorem dX5_going_53 : decode cX5_going 53 = .ok (.aload_n 0, 1) := by decide +kernel
theorem dX5_going_54 : decode cX5_going 54 = .ok (.getfield 7, 3) := by decide +kernel
theorem dX5_going_57 : decode cX5_going 57 = .ok (.iload_n 1, 1) := by decide +kernel
theorem dX5_going_58 : decode cX5_going 58 = .ok (.iaload, 1) := by decide +kernel
theorem dX5_going_59 : decode cX5_going 59 = .ok (.goto 77, 3) := by decide +kernel
theorem dX5_going_62 : decode cX5_going 62 = .ok (.iload_n 2, 1) := by decide +kernel
theorem dX5_going_63 : decode cX5_going 63 = .ok (.iconst 1, 1) := by decide +kernel
theorem dX5_going_64 : decode cX5_going 64 = .ok (.if_icmp .ne 12, 3) := by decide +kernel
theorem dX5_going_67 : decode cX5_going 67 = .ok (.aload_n 0, 1) := by decide +kernel
theorem dX5_going_68 : decode cX5_going 68 = .ok (.getfield 16, 3) := by decide +kernel
theorem dX5_going_71 : decode cX5_going 71 = .ok (.iload_n 1, 1) := by decide +kernel
theorem dX5_going_72 : decode cX5_going 72 = .ok (.iaload, 1) := by decide +kernel
theorem dX5_going_73 : decode cX5_going 73 = .ok (.goto 63, 3) := by decide +kernel
theorem dX5_going_76 : decode cX5_going 76 = .ok (.iload_n 2, 1) := by decide +kernel
theorem dX5_going_77 : decode cX5_going 77 = .ok (.iconst 2, 1) := by decide +kernel
theorem dX5_going_78 : decode cX5_going 78 = .ok (.if_icmp .ne 12, 3) := by decide +kernel
theorem dX5_going_81 : decode cX5_going 81 = .ok (.aload_n 0, 1) := by decide +kernel
theorem dX5_going_82 : decode cX5_going 82 = .ok (.getfield 19, 3) := by decide +kernel
theorem dX5_going_85 : decode cX5_going 85 = .ok (.iload_n 1, 1) := by decide +kernel
theorem dX5_going_86 : decode cX5_going 86 = .ok (.iaload, 1) := by decide +kernel
theorem dX5_going_87 : decode cX5_going 87 = .ok (.goto 49, 3) := by decide +kernel
theorem dX5_going_90 : decode cX5_going 90 = .ok (.iload_n 2, 1) := by decide +kernel
theorem dX5_going_91 : decode cX5_going 91 = .ok (.iconst 3, 1) := by decide +kernel
theorem dX5_going_92 : decode cX5_going 92 = .ok (.if_icmp .ne 12, 3) := by decide +kernel
theorem dX5_going_95 : decode cX5_going 95 = .ok (.aload_n 0, 1) := by decide +kernel
theorem dX5_going_96 : decode cX5_going 96 = .ok (.getfield 22, 3) := by decide +kernel
theorem dX5_going_99 : decode cX5_going 99 = .ok (.iload_n 1, 1) := by decide +kernel
theorem dX5_going_100 : decode cX5_going 100 = .ok (.iaload, 1) := by decide +kernel
theorem dX5_going_101 : decode cX5_going 101 = .ok (.goto 35, 3) := by decide +kernel
theorem dX5_going_104 : decode cX5_going 104 = .ok (.iload_n 2, 1) := by decide +kernel
theorem dX5_going_105 : decode cX5_going 105 = .ok (.iconst 4, 1) := by decide +kernel
theorem dX5_going_106 : decode cX5_going 106 = .ok (.if_icmp .ne 12, 3) := by decide +kernel
theorem dX5_going_109 : decode cX5_going 109 = .ok (.aload_n 0, 1) := by decide +kernel
theorem dX5_going_110 : decode cX5_going 110 = .ok (.getfield 70, 3) := by decide +kernel
theorem dX5_going_113 : decode cX5_going 113 = .ok (.iload_n 1, 1) := by decide +kernel
theorem dX5_going_114 : decode cX5_going 114 = .ok (.iaload, 1) := by decide +kernel
theorem dX5_going_115 : decode cX5_going 115 = .ok (.goto 21, 3) := by decide +kernel
theorem dX5_going_118 : decode cX5_going 118 = .ok (.iload_n 2, 1) := by decide +kernel
theorem dX5_going_119 : decode cX5_going 119 = .ok (.iconst 5, 1) := by decide +kernel
theorem dX5_going_120 : decode cX5_going 120 = .ok (.if_icmp .ne 7, 3) := by decide +kernel
theorem dX5_going_123 : decode cX5_going 123 = .ok (.iload_n 3, 1) := by decide +kernel
theorem dX5_going_124 : decode cX5_going 124 = .ok (.goto 12, 3) := by decide +kernel
theorem dX5_going_127 : decode cX5_going 127 = .ok (.aload_n 0, 1) := by decide +kernel
theorem dX5_going_128 : decode cX5_going 128 = .ok (.iconst 0, 1) := by decide +kernel
theorem dX5_going_129 : decode cX5_going 129 = .ok (.iload_n 1, 1) := by decide +kernel
theorem dX5_going_130 : decode cX5_going 130 = .ok (.invokevirtual 195, 3) := by decide +kernel
theorem dX5_going_133 : decode cX5_going 133 = .ok (.bipush 20, 2) := by decide +kernel
theorem dX5_going_135 : decode cX5_going 135 = .ok (.iadd, 1) := by decide +kernel
theorem dX5_going_136 : decode cX5_going 136 = .ok (.ireturn, 1) := by decide +kernel
set_option maxRecDepth 20000 in
theorem ggX5_canPin_X5_has : GoodIn wsX5_canPin wsX5_has := goodIn_r _ [7] (by decide +kernel) (by decide +kernel)
set_option maxRecDepth 20000 in
theorem gX5_canPin_X5_has : GoodIn wsX5_canPin (va_wsS RX5 152 yX5_has wsX5_has) := goodIn_app (goodIn_of _ (by decide +kernel)) ggX5_canPin_X5_has
theorem dX5_canPin_0 : decode cX5_canPin 0 = .ok (.aload_n 0, 1) := by decide +kernel
theorem dX5_canPin_1 : decode cX5_canPin 1 = .ok (.getfield 70, 3) := by decide +kernel
theorem dX5_canPin_4 : decode cX5_canPin 4 = .ok (.iload_n 1, 1) := by decide +kernel
theorem dX5_canPin_5 : decode cX5_canPin 5 = .ok (.bipush 14, 2) := by decide +kernel
theorem dX5_canPin_7 : decode cX5_canPin 7 = .ok (.iadd, 1) := by decide +kernel
theorem dX5_canPin_8 : decode cX5_canPin 8 = .ok (.iload_n 2, 1) := by decide +kernel
theorem dX5_canPin_9 : decode cX5_canPin 9 = .ok (.iadd, 1) := by decide +kernel
theorem dX5_canPin_10 : decode cX5_canPin 10 = .ok (.iaload, 1) := by decide +kernel
theorem dX5_canPin_11 : decode cX5_canPin 11 = .ok (.ifCond .le 37, 3) := by decide +kernel
theorem dX5_canPin_14 : decode cX5_canPin 14 = .ok (.aload_n 0, 1) := by decide +kernel
theorem dX5_canPin_15 : decode cX5_canPin 15 = .ok (.getfield 70, 3) := by decide +kernel
theorem dX5_canPin_18 : decode cX5_canPin 18 = .ok (.iload_n 1, 1) := by decide +kernel
theorem dX5_canPin_19 : decode cX5_canPin 19 = .ok (.iload_n 3, 1) := by decide +kernel
theorem dX5_canPin_20 : decode cX5_canPin 20 = .ok (.iadd, 1) := by decide +kernel
theorem dX5_canPin_21 : decode cX5_canPin 21 = .ok (.iaload, 1) := by decide +kernel
theorem dX5_canPin_22 : decode cX5_canPin 22 = .ok (.iconst 1, 1) := by decide +kernel
theorem dX5_canPin_23 : decode cX5_canPin 23 = .ok (.if_icmp .ne 25, 3) := by decide +kernel
theorem dX5_canPin_26 : decode cX5_canPin 26 = .ok (.aload_n 0, 1) := by decide +kernel
theorem dX5_canPin_27 : decode cX5_canPin 27 = .ok (.getfield 37, 3) := by decide +kernel
theorem dX5_canPin_30 : decode cX5_canPin 30 = .ok (.iload_n 2, 1) := by decide +kernel
theorem dX5_canPin_31 : decode cX5_canPin 31 = .ok (.iaload, 1) := by decide +kernel
theorem dX5_canPin_32 : decode cX5_canPin 32 = .ok (.aload_n 0, 1) := by decide +kernel
theorem dX5_canPin_33 : decode cX5_canPin 33 = .ok (.getfield 7, 3) := by decide +kernel
theorem dX5_canPin_36 : decode cX5_canPin 36 = .ok (.iload_n 3, 1) := by decide +kernel
theorem dX5_canPin_37 : decode cX5_canPin 37 = .ok (.iaload, 1) := by decide +kernel
theorem dX5_canPin_38 : decode cX5_canPin 38 = .ok (.invokestatic 152, 3) := by decide +kernel
theorem dX5_canPin_41 : decode cX5_canPin 41 = .ok (.ifCond .eq 7, 3) := by decide +kernel
theorem dX5_canPin_44 : decode cX5_canPin 44 = .ok (.iconst 1, 1) := by decide +kernel
theorem dX5_canPin_45 : decode cX5_canPin 45 = .ok (.goto 4, 3) := by decide +kernel
theorem dX5_canPin_48 : decode cX5_canPin 48 = .ok (.iconst 0, 1) := by decide +kernel
theorem dX5_canPin_49 : decode cX5_canPin 49 = .ok (.ireturn, 1) := by decide +kernel
set_option maxRecDepth 20000 in
theorem ggX5_lady_X5_isLady : GoodIn wsX5_lady wsX5_isLady := goodIn_r _ [9, 10, 11, 12, 8, 13, 22, 23, 24, 25, 26, 27, 28, 29, 30, 31, 32, 33, 34, 35, 36, 37, 38, 39, 40, 41, 42, 43, 44, 45, 46, 47, 48, 49, 50, 51, 52, 53, 54, 55, 56, 57, 58, 59, 60] (by decide +kernel) (by decide +kernel)
set_option maxRecDepth 20000 in
theorem gX5_lady_X5_isLady : GoodIn wsX5_lady (wsV RX5 215 RX5 yX5_isLady wsX5_isLady) := goodIn_app (goodIn_of _ (by decide +kernel)) ggX5_lady_X5_isLady
set_option maxRecDepth 20000 in
theorem ggX5_lady_X5_in : GoodIn wsX5_lady wsX5_in := goodIn_r _ [13] (by decide +kernel) (by decide +kernel)
set_option maxRecDepth 20000 in
theorem gX5_lady_X5_in : GoodIn wsX5_lady (va_wsS RX5 119 yX5_in wsX5_in) := goodIn_app (goodIn_of _ (by decide +kernel)) ggX5_lady_X5_in
set_option maxRecDepth 20000 in
theorem ggX5_lady_X5_canPin : GoodIn wsX5_lady wsX5_canPin := goodIn_r _ [17, 3, 4, 18, 19, 20, 8, 21, 22, 23, 24, 25, 26, 27, 28, 29, 30, 31, 32, 33, 34, 35, 36, 37, 38, 39, 40, 41, 42, 43, 44, 45, 46, 47, 48, 49, 50, 51, 52, 53, 54, 55, 56, 57, 58, 59, 60] (by decide +kernel) (by decide +kernel)
set_option maxRecDepth 20000 in
theorem gX5_lady_X5_canPin : GoodIn wsX5_lady (wsV RX5 220 RX5 yX5_canPin wsX5_canPin) := goodIn_app (goodIn_of _ (by decide +kernel)) ggX5_lady_X5_canPin
theorem dX5_lady_0 : decode cX5_lady 0 = .ok (.aload_n 0, 1) := by decide +kernel
theorem dX5_lady_1 : decode cX5_lady 1 = .ok (.iload_n 1, 1) := by decide +kernel
theorem dX5_lady_2 : decode cX5_lady 2 = .ok (.invokevirtual 215, 3) := by decide +kernel
theorem dX5_lady_5 : decode cX5_lady 5 = .ok (.ifCond .eq 15, 3) := by decide +kernel
theorem dX5_lady_8 : decode cX5_lady 8 = .ok (.iload_n 2, 1) := by decide +kernel
theorem dX5_lady_9 : decode cX5_lady 9 = .ok (.i2l, 1) := by decide +kernel
theorem dX5_lady_10 : decode cX5_lady 10 = .ok (.lconst 0, 1) := by decide +kernel
theorem dX5_lady_11 : decode cX5_lady 11 = .ok (.ldc2_w 218, 3) := by decide +kernel
theorem dX5_lady_14 : decode cX5_lady 14 = .ok (.invokestatic 119, 3) := by decide +kernel
theorem dX5_lady_17 : decode cX5_lady 17 = .ok (.ifCond .ne 5, 3) := by decide +kernel
theorem dX5_lady_20 : decode cX5_lady 20 = .ok (.iconst (-1), 1) := by decide +kernel
theorem dX5_lady_21 : decode cX5_lady 21 = .ok (.ireturn, 1) := by decide +kernel
theorem dX5_lady_22 : decode cX5_lady 22 = .ok (.iconst 0, 1) := by decide +kernel
theorem dX5_lady_23 : decode cX5_lady 23 = .ok (.istore_n 3, 1) := by decide +kernel
theorem dX5_lady_24 : decode cX5_lady 24 = .ok (.iconst 0, 1) := by decide +kernel
theorem dX5_lady_25 : decode cX5_lady 25 = .ok (.istore 4, 2) := by decide +kernel
theorem dX5_lady_27 : decode cX5_lady 27 = .ok (.iload 4, 2) := by decide +kernel
theorem dX5_lady_29 : decode cX5_lady 29 = .ok (.aload_n 0, 1) := by decide +kernel
theorem dX5_lady_30 : decode cX5_lady 30 = .ok (.getfield 110, 3) := by decide +kernel
theorem dX5_lady_33 : decode cX5_lady 33 = .ok (.if_icmp .ge 31, 3) := by decide +kernel
theorem dX5_lady_36 : decode cX5_lady 36 = .ok (.iload_n 3, 1) := by decide +kernel
theorem dX5_lady_37 : decode cX5_lady 37 = .ok (.aload_n 0, 1) := by decide +kernel
theorem dX5_lady_38 : decode cX5_lady 38 = .ok (.iconst 0, 1) := by decide +kernel
theorem dX5_lady_39 : decode cX5_lady 39 = .ok (.iload_n 1, 1) := by decide +kernel
theorem dX5_lady_40 : decode cX5_lady 40 = .ok (.iload 4, 2) := by decide +kernel
theorem dX5_lady_42 : decode cX5_lady 42 = .ok (.invokevirtual 220, 3) := by decide +kernel
theorem dX5_lady_45 : decode cX5_lady 45 = .ok (.ifCond .eq 10, 3) := by decide +kernel
theorem dX5_lady_48 : decode cX5_lady 48 = .ok (.iconst 1, 1) := by decide +kernel
theorem dX5_lady_49 : decode cX5_lady 49 = .ok (.iload 4, 2) := by decide +kernel
theorem dX5_lady_51 : decode cX5_lady 51 = .ok (.ishl, 1) := by decide +kernel
theorem dX5_lady_52 : decode cX5_lady 52 = .ok (.goto 4, 3) := by decide +kernel
theorem dX5_lady_55 : decode cX5_lady 55 = .ok (.iconst 0, 1) := by decide +kernel
theorem dX5_lady_56 : decode cX5_lady 56 = .ok (.ior, 1) := by decide +kernel
theorem dX5_lady_57 : decode cX5_lady 57 = .ok (.istore_n 3, 1) := by decide +kernel
theorem dX5_lady_58 : decode cX5_lady 58 = .ok (.iinc 4 1, 3) := by decide +kernel
theorem dX5_lady_61 : decode cX5_lady 61 = .ok (.goto (-34), 3) := by decide +kernel
theorem dX5_lady_64 : decode cX5_lady 64 = .ok (.iload_n 2, 1) := by decide +kernel
theorem dX5_lady_65 : decode cX5_lady 65 = .ok (.ifCond .ne 15, 3) := by decide +kernel
theorem dX5_lady_68 : decode cX5_lady 68 = .ok (.aload_n 0, 1) := by decide +kernel
theorem dX5_lady_69 : decode cX5_lady 69 = .ok (.getfield 70, 3) := by decide +kernel
theorem dX5_lady_72 : decode cX5_lady 72 = .ok (.bipush 14, 2) := by decide +kernel
theorem dX5_lady_74 : decode cX5_lady 74 = .ok (.iload_n 1, 1) := by decide +kernel
theorem dX5_lady_75 : decode cX5_lady 75 = .ok (.iadd, 1) := by decide +kernel
theorem dX5_lady_76 : decode cX5_lady 76 = .ok (.iaload, 1) := by decide +kernel
theorem dX5_lady_77 : decode cX5_lady 77 = .ok (.goto 18, 3) := by decide +kernel
theorem dX5_lady_80 : decode cX5_lady 80 = .ok (.iload_n 2, 1) := by decide +kernel
theorem dX5_lady_81 : decode cX5_lady 81 = .ok (.iconst 1, 1) := by decide +kernel
theorem dX5_lady_82 : decode cX5_lady 82 = .ok (.if_icmp .ne 12, 3) := by decide +kernel
theorem dX5_lady_85 : decode cX5_lady 85 = .ok (.aload_n 0, 1) := by decide +kernel
theorem dX5_lady_86 : decode cX5_lady 86 = .ok (.getfield 37, 3) := by decide +kernel
theorem dX5_lady_89 : decode cX5_lady 89 = .ok (.iload_n 1, 1) := by decide +kernel
theorem dX5_lady_90 : decode cX5_lady 90 = .ok (.iaload, 1) := by decide +kernel
theorem dX5_lady_91 : decode cX5_lady 91 = .ok (.goto 4, 3) := by decide +kernel
theorem dX5_lady_94 : decode cX5_lady 94 = .ok (.iload_n 3, 1) := by decide +kernel
theorem dX5_lady_95 : decode cX5_lady 95 = .ok (.ireturn, 1) := by decide +kernel
set_option maxRecDepth 20000 in
theorem ggX5_known_X5_copies : GoodIn wsX5_known wsX5_copies := goodIn_r _ [7, 2, 8, 9, 10, 11, 12, 13, 14, 15, 16, 17, 18, 19, 20, 21, 22, 23, 24, 25, 26, 27, 28, 29, 30, 31, 32, 33, 34, 35, 36, 37, 38, 39, 40, 41, 42, 43, 44, 45, 46] (by decide +kernel) (by decide +kernel)
set_option maxRecDepth 20000 in
theorem gX5_known_X5_copies : GoodIn wsX5_known (wsV RX5 224 RX5 yX5_copies wsX5_copies) := goodIn_app (goodIn_of _ (by decide +kernel)) ggX5_known_X5_copies
theorem dX5_known_0 : decode cX5_known 0 = .ok (.aload_n 0, 1) := by decide +kernel
theorem dX5_known_1 : decode cX5_known 1 = .ok (.getfield 176, 3) := by decide +kernel
theorem dX5_known_4 : decode cX5_known 4 = .ok (.bipush 8, 2) := by decide +kernel
theorem dX5_known_6 : decode cX5_known 6 = .ok (.if_icmp .ne 40, 3) := by decide +kernel
theorem dX5_known_9 : decode cX5_known 9 = .ok (.bipush 20, 2) := by decide +kernel
theorem dX5_known_11 : decode cX5_known 11 = .ok (.istore_n 1, 1) := by decide +kernel
theorem dX5_known_12 : decode cX5_known 12 = .ok (.iload_n 1, 1) := by decide +kernel
theorem dX5_known_13 : decode cX5_known 13 = .ok (.sipush 160, 3) := by decide +kernel
theorem dX5_known_16 : decode cX5_known 16 = .ok (.if_icmp .ge 24, 3) := by decide +kernel
theorem dX5_known_19 : decode cX5_known 19 = .ok (.aload_n 0, 1) := by decide +kernel
theorem dX5_known_20 : decode cX5_known 20 = .ok (.getfield 70, 3) := by decide +kernel
theorem dX5_known_23 : decode cX5_known 23 = .ok (.iload_n 1, 1) := by decide +kernel
theorem dX5_known_24 : decode cX5_known 24 = .ok (.aload_n 0, 1) := by decide +kernel
theorem dX5_known_25 : decode cX5_known 25 = .ok (.getfield 70, 3) := by decide +kernel
theorem dX5_known_28 : decode cX5_known 28 = .ok (.iload_n 1, 1) := by decide +kernel
theorem dX5_known_29 : decode cX5_known 29 = .ok (.bipush 20, 2) := by decide +kernel
theorem dX5_known_31 : decode cX5_known 31 = .ok (.iadd, 1) := by decide +kernel
theorem dX5_known_32 : decode cX5_known 32 = .ok (.iaload, 1) := by decide +kernel
theorem dX5_known_33 : decode cX5_known 33 = .ok (.iastore, 1) := by decide +kernel
theorem dX5_known_34 : decode cX5_known 34 = .ok (.iinc 1 1, 3) := by decide +kernel
theorem dX5_known_37 : decode cX5_known 37 = .ok (.goto (-25), 3) := by decide +kernel
theorem dX5_known_40 : decode cX5_known 40 = .ok (.aload_n 0, 1) := by decide +kernel
theorem dX5_known_41 : decode cX5_known 41 = .ok (.bipush 7, 2) := by decide +kernel
theorem dX5_known_43 : decode cX5_known 43 = .ok (.putfield 176, 3) := by decide +kernel
theorem dX5_known_46 : decode cX5_known 46 = .ok (.aload_n 0, 1) := by decide +kernel
theorem dX5_known_47 : decode cX5_known 47 = .ok (.dup, 1) := by decide +kernel
theorem dX5_known_48 : decode cX5_known 48 = .ok (.getfield 176, 3) := by decide +kernel
theorem dX5_known_51 : decode cX5_known 51 = .ok (.iconst 1, 1) := by decide +kernel
theorem dX5_known_52 : decode cX5_known 52 = .ok (.iadd, 1) := by decide +kernel
theorem dX5_known_53 : decode cX5_known 53 = .ok (.putfield 176, 3) := by decide +kernel
theorem dX5_known_56 : decode cX5_known 56 = .ok (.aload_n 0, 1) := by decide +kernel
theorem dX5_known_57 : decode cX5_known 57 = .ok (.iconst 0, 1) := by decide +kernel
theorem dX5_known_58 : decode cX5_known 58 = .ok (.aload_n 0, 1) := by decide +kernel
theorem dX5_known_59 : decode cX5_known 59 = .ok (.getfield 176, 3) := by decide +kernel
theorem dX5_known_62 : decode cX5_known 62 = .ok (.bipush 20, 2) := by decide +kernel
theorem dX5_known_64 : decode cX5_known 64 = .ok (.imul, 1) := by decide +kernel
theorem dX5_known_65 : decode cX5_known 65 = .ok (.invokevirtual 224, 3) := by decide +kernel
theorem dX5_known_68 : decode cX5_known 68 = .ok (.return_, 1) := by decide +kernel
set_option maxRecDepth 20000 in
theorem ggX5_pass_X5_in : GoodIn wsX5_pass wsX5_in := goodIn_r _ [6] (by decide +kernel) (by decide +kernel)
set_option maxRecDepth 20000 in
theorem gX5_pass_X5_in : GoodIn wsX5_pass (va_wsS RX5 119 yX5_in wsX5_in) := goodIn_app (goodIn_of _ (by decide +kernel)) ggX5_pass_X5_in
set_option maxRecDepth 20000 in
theorem ggX5_pass_X5_known : GoodIn wsX5_pass wsX5_known := goodIn_r _ [10, 11, 2, 12, 13, 14, 5, 15, 60, 61, 62, 63, 64, 65, 66, 67, 68, 69, 70, 71, 72, 73, 74, 75, 76, 77, 78, 79, 80, 81, 82, 83, 84, 85, 86, 87, 88, 89, 90, 91, 92, 93, 94, 95, 96, 97, 98] (by decide +kernel) (by decide +kernel)
set_option maxRecDepth 20000 in
theorem gX5_pass_X5_known : GoodIn wsX5_pass (wsV RX5 230 RX5 yX5_known wsX5_known) := goodIn_app (goodIn_of _ (by decide +kernel)) ggX5_pass_X5_known
set_option maxRecDepth 20000 in
theorem ggX5_pass_X5_minutes : GoodIn wsX5_pass wsX5_minutes := goodIn_r _ [19, 20, 21, 22, 23, 5, 24, 2, 25, 26, 27, 28, 29, 30, 31, 32, 33, 34, 35, 36, 37, 38, 39, 40, 41, 42, 43, 44, 45, 46, 47, 48, 49, 50, 51, 52, 53, 54, 55, 56, 57, 58, 59, 60, 61, 62, 63, 64, 65, 66, 67, 68, 69, 70, 71, 72, 73, 74, 75, 76, 77, 78, 79, 80, 81, 82, 83, 84, 85, 86, 87, 88, 89, 90, 91, 92, 93, 94, 95, 96, 97, 98] (by decide +kernel) (by decide +kernel)
set_option maxRecDepth 20000 in
theorem gX5_pass_X5_minutes : GoodIn wsX5_pass (wsV RX5 233 RX5 yX5_minutes wsX5_minutes) := goodIn_app (goodIn_of _ (by decide +kernel)) ggX5_pass_X5_minutes
theorem dX5_pass_0 : decode cX5_pass 0 = .ok (.iload_n 1, 1) := by decide +kernel
theorem dX5_pass_1 : decode cX5_pass 1 = .ok (.i2l, 1) := by decide +kernel
theorem dX5_pass_2 : decode cX5_pass 2 = .ok (.lconst 1, 1) := by decide +kernel
theorem dX5_pass_3 : decode cX5_pass 3 = .ok (.ldc2_w 228, 3) := by decide +kernel
theorem dX5_pass_6 : decode cX5_pass 6 = .ok (.invokestatic 119, 3) := by decide +kernel
theorem dX5_pass_9 : decode cX5_pass 9 = .ok (.ifCond .ne 5, 3) := by decide +kernel
theorem dX5_pass_12 : decode cX5_pass 12 = .ok (.iconst (-1), 1) := by decide +kernel
theorem dX5_pass_13 : decode cX5_pass 13 = .ok (.ireturn, 1) := by decide +kernel
theorem dX5_pass_14 : decode cX5_pass 14 = .ok (.aload_n 0, 1) := by decide +kernel
theorem dX5_pass_15 : decode cX5_pass 15 = .ok (.getfield 70, 3) := by decide +kernel
theorem dX5_pass_18 : decode cX5_pass 18 = .ok (.bipush 18, 2) := by decide +kernel
theorem dX5_pass_20 : decode cX5_pass 20 = .ok (.iaload, 1) := by decide +kernel
theorem dX5_pass_21 : decode cX5_pass 21 = .ok (.iload_n 1, 1) := by decide +kernel
theorem dX5_pass_22 : decode cX5_pass 22 = .ok (.iadd, 1) := by decide +kernel
theorem dX5_pass_23 : decode cX5_pass 23 = .ok (.sipush 999, 3) := by decide +kernel
theorem dX5_pass_26 : decode cX5_pass 26 = .ok (.if_icmp .le 6, 3) := by decide +kernel
theorem dX5_pass_29 : decode cX5_pass 29 = .ok (.bipush (-2), 2) := by decide +kernel
theorem dX5_pass_31 : decode cX5_pass 31 = .ok (.ireturn, 1) := by decide +kernel
theorem dX5_pass_32 : decode cX5_pass 32 = .ok (.aload_n 0, 1) := by decide +kernel
theorem dX5_pass_33 : decode cX5_pass 33 = .ok (.invokevirtual 230, 3) := by decide +kernel
theorem dX5_pass_36 : decode cX5_pass 36 = .ok (.aload_n 0, 1) := by decide +kernel
theorem dX5_pass_37 : decode cX5_pass 37 = .ok (.iconst 0, 1) := by decide +kernel
theorem dX5_pass_38 : decode cX5_pass 38 = .ok (.iload_n 1, 1) := by decide +kernel
theorem dX5_pass_39 : decode cX5_pass 39 = .ok (.invokevirtual 233, 3) := by decide +kernel
theorem dX5_pass_42 : decode cX5_pass 42 = .ok (.aload_n 0, 1) := by decide +kernel
theorem dX5_pass_43 : decode cX5_pass 43 = .ok (.getfield 70, 3) := by decide +kernel
theorem dX5_pass_46 : decode cX5_pass 46 = .ok (.bipush 19, 2) := by decide +kernel
theorem dX5_pass_48 : decode cX5_pass 48 = .ok (.iaload, 1) := by decide +kernel
theorem dX5_pass_49 : decode cX5_pass 49 = .ok (.sipush 10000, 3) := by decide +kernel
theorem dX5_pass_52 : decode cX5_pass 52 = .ok (.iadd, 1) := by decide +kernel
theorem dX5_pass_53 : decode cX5_pass 53 = .ok (.ireturn, 1) := by decide +kernel
set_option maxRecDepth 20000 in
theorem ggX5_minutes_X5_goesOn : GoodIn wsX5_minutes wsX5_goesOn := goodIn_r _ [6, 7, 8, 9, 10, 11, 12, 5, 13, 14, 15, 16, 17, 18, 19, 20, 21, 22, 23, 24, 25, 26, 27, 28, 29, 30, 31, 32, 33, 34, 35, 36, 37, 38, 39, 40, 41, 42, 43, 44, 45, 46, 47, 48, 49, 50, 51, 52, 53, 54, 55, 56, 57, 58, 59, 60, 61, 62, 63, 64, 65, 66, 67, 68, 69, 70, 71, 72, 73, 74, 75, 76, 77, 78, 79, 80, 81] (by decide +kernel) (by decide +kernel)
set_option maxRecDepth 20000 in
theorem gX5_minutes_X5_goesOn : GoodIn wsX5_minutes (wsV RX5 239 RX5 yX5_goesOn wsX5_goesOn) := goodIn_app (goodIn_of _ (by decide +kernel)) ggX5_minutes_X5_goesOn
theorem dX5_minutes_0 : decode cX5_minutes 0 = .ok (.aload_n 0, 1) := by decide +kernel
theorem dX5_minutes_1 : decode cX5_minutes 1 = .ok (.iconst 0, 1) := by decide +kernel
theorem dX5_minutes_2 : decode cX5_minutes 2 = .ok (.putfield 236, 3) := by decide +kernel
theorem dX5_minutes_5 : decode cX5_minutes 5 = .ok (.iconst 0, 1) := by decide +kernel
theorem dX5_minutes_6 : decode cX5_minutes 6 = .ok (.istore_n 3, 1) := by decide +kernel
theorem dX5_minutes_7 : decode cX5_minutes 7 = .ok (.iload_n 3, 1) := by decide +kernel
theorem dX5_minutes_8 : decode cX5_minutes 8 = .ok (.iload_n 2, 1) := by decide +kernel
theorem dX5_minutes_9 : decode cX5_minutes 9 = .ok (.if_icmp .ge 23, 3) := by decide +kernel
theorem dX5_minutes_12 : decode cX5_minutes 12 = .ok (.aload_n 0, 1) := by decide +kernel
theorem dX5_minutes_13 : decode cX5_minutes 13 = .ok (.dup, 1) := by decide +kernel
theorem dX5_minutes_14 : decode cX5_minutes 14 = .ok (.getfield 236, 3) := by decide +kernel
theorem dX5_minutes_17 : decode cX5_minutes 17 = .ok (.aload_n 0, 1) := by decide +kernel
theorem dX5_minutes_18 : decode cX5_minutes 18 = .ok (.iload_n 1, 1) := by decide +kernel
theorem dX5_minutes_19 : decode cX5_minutes 19 = .ok (.invokevirtual 239, 3) := by decide +kernel
theorem dX5_minutes_22 : decode cX5_minutes 22 = .ok (.ior, 1) := by decide +kernel
theorem dX5_minutes_23 : decode cX5_minutes 23 = .ok (.putfield 236, 3) := by decide +kernel
theorem dX5_minutes_26 : decode cX5_minutes 26 = .ok (.iinc 3 1, 3) := by decide +kernel
theorem dX5_minutes_29 : decode cX5_minutes 29 = .ok (.goto (-22), 3) := by decide +kernel
theorem dX5_minutes_32 : decode cX5_minutes 32 = .ok (.return_, 1) := by decide +kernel
set_option maxRecDepth 20000 in
theorem ggX5_pin_X5_isLady : GoodIn wsX5_pin wsX5_isLady := goodIn_r _ [6, 7, 8, 9, 5, 10, 46, 47, 48, 49, 50, 51, 52, 53, 54, 55, 56, 57, 58, 59, 60, 61, 62, 63, 64, 65, 66, 67, 68, 69, 70, 71, 72, 73, 74, 75, 76, 77, 78, 79, 80, 81, 82, 83, 84] (by decide +kernel) (by decide +kernel)
set_option maxRecDepth 20000 in
theorem gX5_pin_X5_isLady : GoodIn wsX5_pin (wsV RX5 215 RX5 yX5_isLady wsX5_isLady) := goodIn_app (goodIn_of _ (by decide +kernel)) ggX5_pin_X5_isLady
set_option maxRecDepth 20000 in
theorem ggX5_pin_X5_isGoing : GoodIn wsX5_pin wsX5_isGoing := goodIn_r _ [14, 15, 8, 9, 5, 10, 46, 47, 48, 49, 50, 51, 52, 53, 54, 55, 56, 57, 58, 59, 60, 61, 62, 63, 64, 65, 66, 67, 68, 69, 70, 71, 72, 73, 74, 75, 76, 77, 78, 79, 80, 81, 82, 83, 84] (by decide +kernel) (by decide +kernel)
set_option maxRecDepth 20000 in
theorem gX5_pin_X5_isGoing : GoodIn wsX5_pin (wsV RX5 209 RX5 yX5_isGoing wsX5_isGoing) := goodIn_app (goodIn_of _ (by decide +kernel)) ggX5_pin_X5_isGoing
set_option maxRecDepth 20000 in
theorem ggX5_pin_X5_canPin : GoodIn wsX5_pin wsX5_canPin := goodIn_r _ [19, 1, 20, 21, 22, 23, 5, 24, 46, 47, 48, 49, 50, 51, 52, 53, 54, 55, 56, 57, 58, 59, 60, 61, 62, 63, 64, 65, 66, 67, 68, 69, 70, 71, 72, 73, 74, 75, 76, 77, 78, 79, 80, 81, 82, 83, 84] (by decide +kernel) (by decide +kernel)
set_option maxRecDepth 20000 in
theorem gX5_pin_X5_canPin : GoodIn wsX5_pin (wsV RX5 220 RX5 yX5_canPin wsX5_canPin) := goodIn_app (goodIn_of _ (by decide +kernel)) ggX5_pin_X5_canPin
set_option maxRecDepth 20000 in
theorem ggX5_pin_X5_known : GoodIn wsX5_pin wsX5_known := goodIn_r _ [28, 29, 1, 30, 31, 32, 5, 33, 46, 47, 48, 49, 50, 51, 52, 53, 54, 55, 56, 57, 58, 59, 60, 61, 62, 63, 64, 65, 66, 67, 68, 69, 70, 71, 72, 73, 74, 75, 76, 77, 78, 79, 80, 81, 82, 83, 84] (by decide +kernel) (by decide +kernel)
set_option maxRecDepth 20000 in
theorem gX5_pin_X5_known : GoodIn wsX5_pin (wsV RX5 230 RX5 yX5_known wsX5_known) := goodIn_app (goodIn_of _ (by decide +kernel)) ggX5_pin_X5_known
set_option maxRecDepth 20000 in
theorem ggX5_pin_X5_ends : GoodIn wsX5_pin wsX5_ends := goodIn_r _ [37, 1, 38, 39, 40, 41, 42, 43, 44, 5, 45, 46, 47, 48, 49, 50, 51, 52, 53, 54, 55, 56, 57, 58, 59, 60, 61, 62, 63, 64, 65, 66, 67, 68, 69, 70, 71, 72, 73, 74, 75, 76, 77, 78, 79, 80, 81, 82, 83, 84] (by decide +kernel) (by decide +kernel)
set_option maxRecDepth 20000 in
theorem gX5_pin_X5_ends : GoodIn wsX5_pin (wsV RX5 205 RX5 yX5_ends wsX5_ends) := goodIn_app (goodIn_of _ (by decide +kernel)) ggX5_pin_X5_ends
theorem dX5_pin_0 : decode cX5_pin 0 = .ok (.aload_n 0, 1) := by decide +kernel
theorem dX5_pin_1 : decode cX5_pin 1 = .ok (.iload_n 1, 1) := by decide +kernel
theorem dX5_pin_2 : decode cX5_pin 2 = .ok (.invokevirtual 215, 3) := by decide +kernel
theorem dX5_pin_5 : decode cX5_pin 5 = .ok (.ifCond .eq 11, 3) := by decide +kernel
theorem dX5_pin_8 : decode cX5_pin 8 = .ok (.aload_n 0, 1) := by decide +kernel
theorem dX5_pin_9 : decode cX5_pin 9 = .ok (.iload_n 2, 1) := by decide +kernel
theorem dX5_pin_10 : decode cX5_pin 10 = .ok (.invokevirtual 209, 3) := by decide +kernel
theorem dX5_pin_13 : decode cX5_pin 13 = .ok (.ifCond .ne 5, 3) := by decide +kernel
theorem dX5_pin_16 : decode cX5_pin 16 = .ok (.iconst (-1), 1) := by decide +kernel
theorem dX5_pin_17 : decode cX5_pin 17 = .ok (.ireturn, 1) := by decide +kernel
theorem dX5_pin_18 : decode cX5_pin 18 = .ok (.aload_n 0, 1) := by decide +kernel
theorem dX5_pin_19 : decode cX5_pin 19 = .ok (.iconst 0, 1) := by decide +kernel
theorem dX5_pin_20 : decode cX5_pin 20 = .ok (.iload_n 1, 1) := by decide +kernel
theorem dX5_pin_21 : decode cX5_pin 21 = .ok (.iload_n 2, 1) := by decide +kernel
theorem dX5_pin_22 : decode cX5_pin 22 = .ok (.invokevirtual 220, 3) := by decide +kernel
theorem dX5_pin_25 : decode cX5_pin 25 = .ok (.ifCond .ne 6, 3) := by decide +kernel
theorem dX5_pin_28 : decode cX5_pin 28 = .ok (.bipush (-2), 2) := by decide +kernel
theorem dX5_pin_30 : decode cX5_pin 30 = .ok (.ireturn, 1) := by decide +kernel
theorem dX5_pin_31 : decode cX5_pin 31 = .ok (.aload_n 0, 1) := by decide +kernel
theorem dX5_pin_32 : decode cX5_pin 32 = .ok (.invokevirtual 230, 3) := by decide +kernel
theorem dX5_pin_35 : decode cX5_pin 35 = .ok (.aload_n 0, 1) := by decide +kernel
theorem dX5_pin_36 : decode cX5_pin 36 = .ok (.getfield 70, 3) := by decide +kernel
theorem dX5_pin_39 : decode cX5_pin 39 = .ok (.bipush 14, 2) := by decide +kernel
theorem dX5_pin_41 : decode cX5_pin 41 = .ok (.iload_n 1, 1) := by decide +kernel
theorem dX5_pin_42 : decode cX5_pin 42 = .ok (.iadd, 1) := by decide +kernel
theorem dX5_pin_43 : decode cX5_pin 43 = .ok (.dup2, 1) := by decide +kernel
theorem dX5_pin_44 : decode cX5_pin 44 = .ok (.iaload, 1) := by decide +kernel
theorem dX5_pin_45 : decode cX5_pin 45 = .ok (.iconst 1, 1) := by decide +kernel
theorem dX5_pin_46 : decode cX5_pin 46 = .ok (.isub, 1) := by decide +kernel
theorem dX5_pin_47 : decode cX5_pin 47 = .ok (.iastore, 1) := by decide +kernel
theorem dX5_pin_48 : decode cX5_pin 48 = .ok (.aload_n 0, 1) := by decide +kernel
theorem dX5_pin_49 : decode cX5_pin 49 = .ok (.iconst 0, 1) := by decide +kernel
theorem dX5_pin_50 : decode cX5_pin 50 = .ok (.iload_n 2, 1) := by decide +kernel
theorem dX5_pin_51 : decode cX5_pin 51 = .ok (.iconst 3, 1) := by decide +kernel
theorem dX5_pin_52 : decode cX5_pin 52 = .ok (.aload_n 0, 1) := by decide +kernel
theorem dX5_pin_53 : decode cX5_pin 53 = .ok (.getfield 70, 3) := by decide +kernel
theorem dX5_pin_56 : decode cX5_pin 56 = .ok (.bipush 18, 2) := by decide +kernel
theorem dX5_pin_58 : decode cX5_pin 58 = .ok (.iaload, 1) := by decide +kernel
theorem dX5_pin_59 : decode cX5_pin 59 = .ok (.invokevirtual 205, 3) := by decide +kernel
theorem dX5_pin_62 : decode cX5_pin 62 = .ok (.aload_n 0, 1) := by decide +kernel
theorem dX5_pin_63 : decode cX5_pin 63 = .ok (.getfield 70, 3) := by decide +kernel
theorem dX5_pin_66 : decode cX5_pin 66 = .ok (.bipush 14, 2) := by decide +kernel
theorem dX5_pin_68 : decode cX5_pin 68 = .ok (.iload_n 1, 1) := by decide +kernel
theorem dX5_pin_69 : decode cX5_pin 69 = .ok (.iadd, 1) := by decide +kernel
theorem dX5_pin_70 : decode cX5_pin 70 = .ok (.iaload, 1) := by decide +kernel
theorem dX5_pin_71 : decode cX5_pin 71 = .ok (.ireturn, 1) := by decide +kernel
set_option maxRecDepth 20000 in
theorem ggX5_lend_X5_isLady : GoodIn wsX5_lend wsX5_isLady := goodIn_r _ [6, 7, 8, 9, 5, 10, 20, 21, 22, 23, 24, 25, 26, 27, 28, 29, 30, 31, 32, 33, 34, 35, 36, 37, 38, 39, 40, 41, 42, 43, 44, 45, 46, 47, 48, 49, 50, 51, 52, 53, 54, 55, 56, 57, 58] (by decide +kernel) (by decide +kernel)
set_option maxRecDepth 20000 in
theorem gX5_lend_X5_isLady : GoodIn wsX5_lend (wsV RX5 215 RX5 yX5_isLady wsX5_isLady) := goodIn_app (goodIn_of _ (by decide +kernel)) ggX5_lend_X5_isLady
set_option maxRecDepth 20000 in
theorem ggX5_lend_X5_known : GoodIn wsX5_lend wsX5_known := goodIn_r _ [14, 15, 1, 16, 17, 18, 5, 19, 20, 21, 22, 23, 24, 25, 26, 27, 28, 29, 30, 31, 32, 33, 34, 35, 36, 37, 38, 39, 40, 41, 42, 43, 44, 45, 46, 47, 48, 49, 50, 51, 52, 53, 54, 55, 56, 57, 58] (by decide +kernel) (by decide +kernel)
set_option maxRecDepth 20000 in
theorem gX5_lend_X5_known : GoodIn wsX5_lend (wsV RX5 230 RX5 yX5_known wsX5_known) := goodIn_app (goodIn_of _ (by decide +kernel)) ggX5_lend_X5_known
theorem dX5_lend_0 : decode cX5_lend 0 = .ok (.aload_n 0, 1) := by decide +kernel
theorem dX5_lend_1 : decode cX5_lend 1 = .ok (.iload_n 1, 1) := by decide +kernel
theorem dX5_lend_2 : decode cX5_lend 2 = .ok (.invokevirtual 215, 3) := by decide +kernel
theorem dX5_lend_5 : decode cX5_lend 5 = .ok (.ifCond .eq 16, 3) := by decide +kernel
theorem dX5_lend_8 : decode cX5_lend 8 = .ok (.aload_n 0, 1) := by decide +kernel
theorem dX5_lend_9 : decode cX5_lend 9 = .ok (.iload_n 2, 1) := by decide +kernel
theorem dX5_lend_10 : decode cX5_lend 10 = .ok (.invokevirtual 215, 3) := by decide +kernel
theorem dX5_lend_13 : decode cX5_lend 13 = .ok (.ifCond .eq 8, 3) := by decide +kernel
theorem dX5_lend_16 : decode cX5_lend 16 = .ok (.iload_n 1, 1) := by decide +kernel
theorem dX5_lend_17 : decode cX5_lend 17 = .ok (.iload_n 2, 1) := by decide +kernel
theorem dX5_lend_18 : decode cX5_lend 18 = .ok (.if_icmp .ne 5, 3) := by decide +kernel
theorem dX5_lend_21 : decode cX5_lend 21 = .ok (.iconst (-1), 1) := by decide +kernel
theorem dX5_lend_22 : decode cX5_lend 22 = .ok (.ireturn, 1) := by decide +kernel
theorem dX5_lend_23 : decode cX5_lend 23 = .ok (.aload_n 0, 1) := by decide +kernel
theorem dX5_lend_24 : decode cX5_lend 24 = .ok (.getfield 70, 3) := by decide +kernel
theorem dX5_lend_27 : decode cX5_lend 27 = .ok (.bipush 14, 2) := by decide +kernel
theorem dX5_lend_29 : decode cX5_lend 29 = .ok (.iload_n 1, 1) := by decide +kernel
theorem dX5_lend_30 : decode cX5_lend 30 = .ok (.iadd, 1) := by decide +kernel
theorem dX5_lend_31 : decode cX5_lend 31 = .ok (.iaload, 1) := by decide +kernel
theorem dX5_lend_32 : decode cX5_lend 32 = .ok (.ifCond .ne 6, 3) := by decide +kernel
theorem dX5_lend_35 : decode cX5_lend 35 = .ok (.bipush (-2), 2) := by decide +kernel
theorem dX5_lend_37 : decode cX5_lend 37 = .ok (.ireturn, 1) := by decide +kernel
theorem dX5_lend_38 : decode cX5_lend 38 = .ok (.aload_n 0, 1) := by decide +kernel
theorem dX5_lend_39 : decode cX5_lend 39 = .ok (.getfield 70, 3) := by decide +kernel
theorem dX5_lend_42 : decode cX5_lend 42 = .ok (.bipush 14, 2) := by decide +kernel
theorem dX5_lend_44 : decode cX5_lend 44 = .ok (.iload_n 2, 1) := by decide +kernel
theorem dX5_lend_45 : decode cX5_lend 45 = .ok (.iadd, 1) := by decide +kernel
theorem dX5_lend_46 : decode cX5_lend 46 = .ok (.iaload, 1) := by decide +kernel
theorem dX5_lend_47 : decode cX5_lend 47 = .ok (.bipush 9, 2) := by decide +kernel
theorem dX5_lend_49 : decode cX5_lend 49 = .ok (.if_icmp .ne 6, 3) := by decide +kernel
theorem dX5_lend_52 : decode cX5_lend 52 = .ok (.bipush (-3), 2) := by decide +kernel
theorem dX5_lend_54 : decode cX5_lend 54 = .ok (.ireturn, 1) := by decide +kernel
theorem dX5_lend_55 : decode cX5_lend 55 = .ok (.aload_n 0, 1) := by decide +kernel
theorem dX5_lend_56 : decode cX5_lend 56 = .ok (.invokevirtual 230, 3) := by decide +kernel
theorem dX5_lend_59 : decode cX5_lend 59 = .ok (.aload_n 0, 1) := by decide +kernel
theorem dX5_lend_60 : decode cX5_lend 60 = .ok (.getfield 70, 3) := by decide +kernel
theorem dX5_lend_63 : decode cX5_lend 63 = .ok (.bipush 14, 2) := by decide +kernel
theorem dX5_lend_65 : decode cX5_lend 65 = .ok (.iload_n 1, 1) := by decide +kernel
theorem dX5_lend_66 : decode cX5_lend 66 = .ok (.iadd, 1) := by decide +kernel
theorem dX5_lend_67 : decode cX5_lend 67 = .ok (.dup2, 1) := by decide +kernel
theorem dX5_lend_68 : decode cX5_lend 68 = .ok (.iaload, 1) := by decide +kernel
theorem dX5_lend_69 : decode cX5_lend 69 = .ok (.iconst 1, 1) := by decide +kernel
theorem dX5_lend_70 : decode cX5_lend 70 = .ok (.isub, 1) := by decide +kernel
theorem dX5_lend_71 : decode cX5_lend 71 = .ok (.iastore, 1) := by decide +kernel
theorem dX5_lend_72 : decode cX5_lend 72 = .ok (.aload_n 0, 1) := by decide +kernel
theorem dX5_lend_73 : decode cX5_lend 73 = .ok (.getfield 70, 3) := by decide +kernel
theorem dX5_lend_76 : decode cX5_lend 76 = .ok (.bipush 14, 2) := by decide +kernel
theorem dX5_lend_78 : decode cX5_lend 78 = .ok (.iload_n 2, 1) := by decide +kernel
theorem dX5_lend_79 : decode cX5_lend 79 = .ok (.iadd, 1) := by decide +kernel
theorem dX5_lend_80 : decode cX5_lend 80 = .ok (.dup2, 1) := by decide +kernel
theorem dX5_lend_81 : decode cX5_lend 81 = .ok (.iaload, 1) := by decide +kernel
theorem dX5_lend_82 : decode cX5_lend 82 = .ok (.iconst 1, 1) := by decide +kernel
theorem dX5_lend_83 : decode cX5_lend 83 = .ok (.iadd, 1) := by decide +kernel
theorem dX5_lend_84 : decode cX5_lend 84 = .ok (.iastore, 1) := by decide +kernel
theorem dX5_lend_85 : decode cX5_lend 85 = .ok (.aload_n 0, 1) := by decide +kernel
theorem dX5_lend_86 : decode cX5_lend 86 = .ok (.getfield 70, 3) := by decide +kernel
theorem dX5_lend_89 : decode cX5_lend 89 = .ok (.bipush 14, 2) := by decide +kernel
theorem dX5_lend_91 : decode cX5_lend 91 = .ok (.iload_n 2, 1) := by decide +kernel
theorem dX5_lend_92 : decode cX5_lend 92 = .ok (.iadd, 1) := by decide +kernel
theorem dX5_lend_93 : decode cX5_lend 93 = .ok (.iaload, 1) := by decide +kernel
theorem dX5_lend_94 : decode cX5_lend 94 = .ok (.ireturn, 1) := by decide +kernel
set_option maxRecDepth 20000 in
theorem ggX5_undo_X5_copies : GoodIn wsX5_undo wsX5_copies := goodIn_r _ [6, 7, 8, 9, 10, 11, 12, 13, 14, 15, 16, 17, 18, 19, 20, 21, 22, 23, 24, 25, 26, 27, 28, 29, 30, 31, 32, 33, 34, 35, 36, 37, 38, 39, 40, 41, 42, 43, 44, 45, 46] (by decide +kernel) (by decide +kernel)
set_option maxRecDepth 20000 in
theorem gX5_undo_X5_copies : GoodIn wsX5_undo (wsV RX5 224 RX5 yX5_copies wsX5_copies) := goodIn_app (goodIn_of _ (by decide +kernel)) ggX5_undo_X5_copies
theorem dX5_undo_0 : decode cX5_undo 0 = .ok (.aload_n 0, 1) := by decide +kernel
theorem dX5_undo_1 : decode cX5_undo 1 = .ok (.getfield 176, 3) := by decide +kernel
theorem dX5_undo_4 : decode cX5_undo 4 = .ok (.ifCond .ne 6, 3) := by decide +kernel
theorem dX5_undo_7 : decode cX5_undo 7 = .ok (.bipush (-2), 2) := by decide +kernel
theorem dX5_undo_9 : decode cX5_undo 9 = .ok (.ireturn, 1) := by decide +kernel
theorem dX5_undo_10 : decode cX5_undo 10 = .ok (.aload_n 0, 1) := by decide +kernel
theorem dX5_undo_11 : decode cX5_undo 11 = .ok (.aload_n 0, 1) := by decide +kernel
theorem dX5_undo_12 : decode cX5_undo 12 = .ok (.getfield 176, 3) := by decide +kernel
theorem dX5_undo_15 : decode cX5_undo 15 = .ok (.bipush 20, 2) := by decide +kernel
theorem dX5_undo_17 : decode cX5_undo 17 = .ok (.imul, 1) := by decide +kernel
theorem dX5_undo_18 : decode cX5_undo 18 = .ok (.iconst 0, 1) := by decide +kernel
theorem dX5_undo_19 : decode cX5_undo 19 = .ok (.invokevirtual 224, 3) := by decide +kernel
theorem dX5_undo_22 : decode cX5_undo 22 = .ok (.aload_n 0, 1) := by decide +kernel
theorem dX5_undo_23 : decode cX5_undo 23 = .ok (.dup, 1) := by decide +kernel
theorem dX5_undo_24 : decode cX5_undo 24 = .ok (.getfield 176, 3) := by decide +kernel
theorem dX5_undo_27 : decode cX5_undo 27 = .ok (.iconst 1, 1) := by decide +kernel
theorem dX5_undo_28 : decode cX5_undo 28 = .ok (.isub, 1) := by decide +kernel
theorem dX5_undo_29 : decode cX5_undo 29 = .ok (.putfield 176, 3) := by decide +kernel
theorem dX5_undo_32 : decode cX5_undo 32 = .ok (.aload_n 0, 1) := by decide +kernel
theorem dX5_undo_33 : decode cX5_undo 33 = .ok (.getfield 176, 3) := by decide +kernel
theorem dX5_undo_36 : decode cX5_undo 36 = .ok (.ireturn, 1) := by decide +kernel
set_option maxRecDepth 20000 in
theorem ggX5_behind_X5_in : GoodIn wsX5_behind wsX5_in := goodIn_r _ [6] (by decide +kernel) (by decide +kernel)
set_option maxRecDepth 20000 in
theorem gX5_behind_X5_in : GoodIn wsX5_behind (va_wsS RX5 119 yX5_in wsX5_in) := goodIn_app (goodIn_of _ (by decide +kernel)) ggX5_behind_X5_in
set_option maxRecDepth 20000 in
theorem ggX5_behind_X5_copies : GoodIn wsX5_behind wsX5_copies := goodIn_r _ [10, 2, 59, 60, 61, 62, 63, 64, 65, 66, 67, 68, 69, 70, 71, 72, 73, 74, 75, 76, 77, 78, 79, 80, 81, 82, 83, 84, 85, 86, 87, 88, 89, 90, 91, 92, 93, 94, 95, 96, 97] (by decide +kernel) (by decide +kernel)
set_option maxRecDepth 20000 in
theorem gX5_behind_X5_copies : GoodIn wsX5_behind (wsV RX5 224 RX5 yX5_copies wsX5_copies) := goodIn_app (goodIn_of _ (by decide +kernel)) ggX5_behind_X5_copies
set_option maxRecDepth 20000 in
theorem ggX5_behind_X5_minutes : GoodIn wsX5_behind wsX5_minutes := goodIn_r _ [14, 15, 16, 17, 18, 5, 19, 2, 20, 21, 22, 23, 24, 25, 26, 27, 28, 29, 30, 31, 32, 33, 34, 35, 36, 37, 38, 39, 40, 41, 42, 43, 44, 45, 46, 47, 48, 49, 50, 51, 52, 53, 54, 59, 60, 61, 62, 63, 64, 65, 66, 67, 68, 69, 70, 71, 72, 73, 74, 75, 76, 77, 78, 79, 80, 81, 82, 83, 84, 85, 86, 87, 88, 89, 90, 91, 92, 93, 94, 95, 96, 97] (by decide +kernel) (by decide +kernel)
set_option maxRecDepth 20000 in
theorem gX5_behind_X5_minutes : GoodIn wsX5_behind (wsV RX5 233 RX5 yX5_minutes wsX5_minutes) := goodIn_app (goodIn_of _ (by decide +kernel)) ggX5_behind_X5_minutes
set_option maxRecDepth 20000 in
theorem ggX5_behind_X5_onNow : GoodIn wsX5_behind wsX5_onNow := goodIn_r _ [58, 20, 2, 59, 60, 61, 62, 63, 64, 65, 66, 67, 68, 69, 70, 71, 72, 73, 74, 75, 76, 77, 78, 79, 80, 81, 82, 83, 84, 85, 86, 87, 88, 89, 90, 91, 92, 93, 94, 95, 96, 97] (by decide +kernel) (by decide +kernel)
set_option maxRecDepth 20000 in
theorem gX5_behind_X5_onNow : GoodIn wsX5_behind (wsV RX5 244 RX5 yX5_onNow wsX5_onNow) := goodIn_app (goodIn_of _ (by decide +kernel)) ggX5_behind_X5_onNow
theorem dX5_behind_0 : decode cX5_behind 0 = .ok (.iload_n 1, 1) := by decide +kernel
theorem dX5_behind_1 : decode cX5_behind 1 = .ok (.i2l, 1) := by decide +kernel
theorem dX5_behind_2 : decode cX5_behind 2 = .ok (.lconst 0, 1) := by decide +kernel
theorem dX5_behind_3 : decode cX5_behind 3 = .ok (.ldc2_w 242, 3) := by decide +kernel
theorem dX5_behind_6 : decode cX5_behind 6 = .ok (.invokestatic 119, 3) := by decide +kernel
theorem dX5_behind_9 : decode cX5_behind 9 = .ok (.ifCond .eq 13, 3) := by decide +kernel
theorem dX5_behind_12 : decode cX5_behind 12 = .ok (.iload_n 2, 1) := by decide +kernel
theorem dX5_behind_13 : decode cX5_behind 13 = .ok (.i2l, 1) := by decide +kernel
theorem dX5_behind_14 : decode cX5_behind 14 = .ok (.lconst 0, 1) := by decide +kernel
theorem dX5_behind_15 : decode cX5_behind 15 = .ok (.lconst 1, 1) := by decide +kernel
theorem dX5_behind_16 : decode cX5_behind 16 = .ok (.invokestatic 119, 3) := by decide +kernel
theorem dX5_behind_19 : decode cX5_behind 19 = .ok (.ifCond .ne 5, 3) := by decide +kernel
theorem dX5_behind_22 : decode cX5_behind 22 = .ok (.iconst (-1), 1) := by decide +kernel
theorem dX5_behind_23 : decode cX5_behind 23 = .ok (.ireturn, 1) := by decide +kernel
theorem dX5_behind_24 : decode cX5_behind 24 = .ok (.aload_n 0, 1) := by decide +kernel
theorem dX5_behind_25 : decode cX5_behind 25 = .ok (.iconst 0, 1) := by decide +kernel
theorem dX5_behind_26 : decode cX5_behind 26 = .ok (.sipush 220, 3) := by decide +kernel
theorem dX5_behind_29 : decode cX5_behind 29 = .ok (.invokevirtual 224, 3) := by decide +kernel
theorem dX5_behind_32 : decode cX5_behind 32 = .ok (.aload_n 0, 1) := by decide +kernel
theorem dX5_behind_33 : decode cX5_behind 33 = .ok (.sipush 220, 3) := by decide +kernel
theorem dX5_behind_36 : decode cX5_behind 36 = .ok (.iload_n 1, 1) := by decide +kernel
theorem dX5_behind_37 : decode cX5_behind 37 = .ok (.invokevirtual 233, 3) := by decide +kernel
theorem dX5_behind_40 : decode cX5_behind 40 = .ok (.iload_n 2, 1) := by decide +kernel
theorem dX5_behind_41 : decode cX5_behind 41 = .ok (.ifCond .ne 18, 3) := by decide +kernel
theorem dX5_behind_44 : decode cX5_behind 44 = .ok (.aload_n 0, 1) := by decide +kernel
theorem dX5_behind_45 : decode cX5_behind 45 = .ok (.getfield 70, 3) := by decide +kernel
theorem dX5_behind_48 : decode cX5_behind 48 = .ok (.sipush 239, 3) := by decide +kernel
theorem dX5_behind_51 : decode cX5_behind 51 = .ok (.iaload, 1) := by decide +kernel
theorem dX5_behind_52 : decode cX5_behind 52 = .ok (.sipush 10000, 3) := by decide +kernel
theorem dX5_behind_55 : decode cX5_behind 55 = .ok (.iadd, 1) := by decide +kernel
theorem dX5_behind_56 : decode cX5_behind 56 = .ok (.goto 10, 3) := by decide +kernel
theorem dX5_behind_59 : decode cX5_behind 59 = .ok (.aload_n 0, 1) := by decide +kernel
theorem dX5_behind_60 : decode cX5_behind 60 = .ok (.sipush 220, 3) := by decide +kernel
theorem dX5_behind_63 : decode cX5_behind 63 = .ok (.invokevirtual 244, 3) := by decide +kernel
theorem dX5_behind_66 : decode cX5_behind 66 = .ok (.ireturn, 1) := by decide +kernel
set_option maxRecDepth 20000 in
theorem ggX5_dull_X5_copies : GoodIn wsX5_dull wsX5_copies := goodIn_r _ [6, 1, 51, 52, 53, 54, 55, 56, 57, 58, 59, 60, 61, 62, 63, 64, 65, 66, 67, 68, 69, 70, 71, 72, 73, 74, 75, 76, 77, 78, 79, 80, 81, 82, 83, 84, 85, 86, 87, 88, 89] (by decide +kernel) (by decide +kernel)
set_option maxRecDepth 20000 in
theorem gX5_dull_X5_copies : GoodIn wsX5_dull (wsV RX5 224 RX5 yX5_copies wsX5_copies) := goodIn_app (goodIn_of _ (by decide +kernel)) ggX5_dull_X5_copies
set_option maxRecDepth 20000 in
theorem ggX5_dull_X5_minutes : GoodIn wsX5_dull wsX5_minutes := goodIn_r _ [10, 11, 12, 13, 14, 5, 15, 1, 16, 17, 18, 19, 20, 21, 22, 23, 24, 25, 26, 27, 28, 29, 30, 31, 32, 33, 34, 35, 36, 37, 38, 39, 40, 41, 42, 43, 44, 45, 46, 47, 48, 49, 50, 51, 52, 53, 54, 55, 56, 57, 58, 59, 60, 61, 62, 63, 64, 65, 66, 67, 68, 69, 70, 71, 72, 73, 74, 75, 76, 77, 78, 79, 80, 81, 82, 83, 84, 85, 86, 87, 88, 89] (by decide +kernel) (by decide +kernel)
set_option maxRecDepth 20000 in
theorem gX5_dull_X5_minutes : GoodIn wsX5_dull (wsV RX5 233 RX5 yX5_minutes wsX5_minutes) := goodIn_app (goodIn_of _ (by decide +kernel)) ggX5_dull_X5_minutes
theorem dX5_dull_0 : decode cX5_dull 0 = .ok (.aload_n 0, 1) := by decide +kernel
theorem dX5_dull_1 : decode cX5_dull 1 = .ok (.iconst 0, 1) := by decide +kernel
theorem dX5_dull_2 : decode cX5_dull 2 = .ok (.sipush 220, 3) := by decide +kernel
theorem dX5_dull_5 : decode cX5_dull 5 = .ok (.invokevirtual 224, 3) := by decide +kernel
theorem dX5_dull_8 : decode cX5_dull 8 = .ok (.iconst 0, 1) := by decide +kernel
theorem dX5_dull_9 : decode cX5_dull 9 = .ok (.istore_n 1, 1) := by decide +kernel
theorem dX5_dull_10 : decode cX5_dull 10 = .ok (.iload_n 1, 1) := by decide +kernel
theorem dX5_dull_11 : decode cX5_dull 11 = .ok (.bipush 60, 2) := by decide +kernel
theorem dX5_dull_13 : decode cX5_dull 13 = .ok (.if_icmp .gt 40, 3) := by decide +kernel
theorem dX5_dull_16 : decode cX5_dull 16 = .ok (.aload_n 0, 1) := by decide +kernel
theorem dX5_dull_17 : decode cX5_dull 17 = .ok (.getfield 70, 3) := by decide +kernel
theorem dX5_dull_20 : decode cX5_dull 20 = .ok (.sipush 239, 3) := by decide +kernel
theorem dX5_dull_23 : decode cX5_dull 23 = .ok (.iaload, 1) := by decide +kernel
theorem dX5_dull_24 : decode cX5_dull 24 = .ok (.istore_n 2, 1) := by decide +kernel
theorem dX5_dull_25 : decode cX5_dull 25 = .ok (.aload_n 0, 1) := by decide +kernel
theorem dX5_dull_26 : decode cX5_dull 26 = .ok (.sipush 220, 3) := by decide +kernel
theorem dX5_dull_29 : decode cX5_dull 29 = .ok (.iconst 1, 1) := by decide +kernel
theorem dX5_dull_30 : decode cX5_dull 30 = .ok (.invokevirtual 233, 3) := by decide +kernel
theorem dX5_dull_33 : decode cX5_dull 33 = .ok (.aload_n 0, 1) := by decide +kernel
theorem dX5_dull_34 : decode cX5_dull 34 = .ok (.getfield 70, 3) := by decide +kernel
theorem dX5_dull_37 : decode cX5_dull 37 = .ok (.sipush 239, 3) := by decide +kernel
theorem dX5_dull_40 : decode cX5_dull 40 = .ok (.iaload, 1) := by decide +kernel
theorem dX5_dull_41 : decode cX5_dull 41 = .ok (.iload_n 2, 1) := by decide +kernel
theorem dX5_dull_42 : decode cX5_dull 42 = .ok (.if_icmp .ge 5, 3) := by decide +kernel
theorem dX5_dull_45 : decode cX5_dull 45 = .ok (.iload_n 1, 1) := by decide +kernel
theorem dX5_dull_46 : decode cX5_dull 46 = .ok (.ireturn, 1) := by decide +kernel
theorem dX5_dull_47 : decode cX5_dull 47 = .ok (.iinc 1 1, 3) := by decide +kernel
theorem dX5_dull_50 : decode cX5_dull 50 = .ok (.goto (-40), 3) := by decide +kernel
theorem dX5_dull_53 : decode cX5_dull 53 = .ok (.bipush (-4), 2) := by decide +kernel
theorem dX5_dull_55 : decode cX5_dull 55 = .ok (.ireturn, 1) := by decide +kernel
set_option maxRecDepth 20000 in
theorem ggX5_quiet_X5_copies : GoodIn wsX5_quiet wsX5_copies := goodIn_r _ [5, 6, 46, 47, 48, 49, 50, 51, 52, 53, 54, 55, 56, 57, 58, 59, 60, 61, 62, 63, 64, 65, 66, 67, 68, 69, 70, 71, 72, 73, 74, 75, 76, 77, 78, 79, 80, 81, 82, 83, 84] (by decide +kernel) (by decide +kernel)
set_option maxRecDepth 20000 in
theorem gX5_quiet_X5_copies : GoodIn wsX5_quiet (wsV RX5 224 RX5 yX5_copies wsX5_copies) := goodIn_app (goodIn_of _ (by decide +kernel)) ggX5_quiet_X5_copies
set_option maxRecDepth 20000 in
theorem ggX5_quiet_X5_goesOn : GoodIn wsX5_quiet wsX5_goesOn := goodIn_r _ [10, 6, 11, 12, 13, 14, 15, 4, 16, 17, 18, 19, 20, 21, 22, 23, 24, 25, 26, 27, 28, 29, 30, 31, 32, 33, 34, 35, 36, 37, 38, 39, 40, 41, 42, 43, 44, 45, 46, 47, 48, 49, 50, 51, 52, 53, 54, 55, 56, 57, 58, 59, 60, 61, 62, 63, 64, 65, 66, 67, 68, 69, 70, 71, 72, 73, 74, 75, 76, 77, 78, 79, 80, 81, 82, 83, 84] (by decide +kernel) (by decide +kernel)
set_option maxRecDepth 20000 in
theorem gX5_quiet_X5_goesOn : GoodIn wsX5_quiet (wsV RX5 239 RX5 yX5_goesOn wsX5_goesOn) := goodIn_app (goodIn_of _ (by decide +kernel)) ggX5_quiet_X5_goesOn
set_option maxRecDepth 20000 in
theorem ggX5_quiet_X5_larger : GoodIn wsX5_quiet wsX5_larger := goodIn_r _ [36] (by decide +kernel) (by decide +kernel)
set_option maxRecDepth 20000 in
theorem gX5_quiet_X5_larger : GoodIn wsX5_quiet (va_wsS RX5 188 yX5_larger wsX5_larger) := goodIn_app (goodIn_of _ (by decide +kernel)) ggX5_quiet_X5_larger
theorem dX5_quiet_0 : decode cX5_quiet 0 = .ok (.aload_n 0, 1) := by decide +kernel
theorem dX5_quiet_1 : decode cX5_quiet 1 = .ok (.iconst 0, 1) := by decide +kernel
theorem dX5_quiet_2 : decode cX5_quiet 2 = .ok (.sipush 220, 3) := by decide +kernel
theorem dX5_quiet_5 : decode cX5_quiet 5 = .ok (.invokevirtual 224, 3) := by decide +kernel
theorem dX5_quiet_8 : decode cX5_quiet 8 = .ok (.iconst 0, 1) := by decide +kernel
theorem dX5_quiet_9 : decode cX5_quiet 9 = .ok (.istore_n 1, 1) := by decide +kernel
theorem dX5_quiet_10 : decode cX5_quiet 10 = .ok (.iconst 0, 1) := by decide +kernel
theorem dX5_quiet_11 : decode cX5_quiet 11 = .ok (.istore_n 2, 1) := by decide +kernel
theorem dX5_quiet_12 : decode cX5_quiet 12 = .ok (.iconst 0, 1) := by decide +kernel
theorem dX5_quiet_13 : decode cX5_quiet 13 = .ok (.istore_n 3, 1) := by decide +kernel
theorem dX5_quiet_14 : decode cX5_quiet 14 = .ok (.iload_n 3, 1) := by decide +kernel
theorem dX5_quiet_15 : decode cX5_quiet 15 = .ok (.bipush 60, 2) := by decide +kernel
theorem dX5_quiet_17 : decode cX5_quiet 17 = .ok (.if_icmp .ge 33, 3) := by decide +kernel
theorem dX5_quiet_20 : decode cX5_quiet 20 = .ok (.aload_n 0, 1) := by decide +kernel
theorem dX5_quiet_21 : decode cX5_quiet 21 = .ok (.sipush 220, 3) := by decide +kernel
theorem dX5_quiet_24 : decode cX5_quiet 24 = .ok (.invokevirtual 239, 3) := by decide +kernel
theorem dX5_quiet_27 : decode cX5_quiet 27 = .ok (.ifCond .ne 9, 3) := by decide +kernel
theorem dX5_quiet_30 : decode cX5_quiet 30 = .ok (.iload_n 2, 1) := by decide +kernel
theorem dX5_quiet_31 : decode cX5_quiet 31 = .ok (.iconst 1, 1) := by decide +kernel
theorem dX5_quiet_32 : decode cX5_quiet 32 = .ok (.iadd, 1) := by decide +kernel
theorem dX5_quiet_33 : decode cX5_quiet 33 = .ok (.goto 4, 3) := by decide +kernel
theorem dX5_quiet_36 : decode cX5_quiet 36 = .ok (.iconst 0, 1) := by decide +kernel
theorem dX5_quiet_37 : decode cX5_quiet 37 = .ok (.istore_n 2, 1) := by decide +kernel
theorem dX5_quiet_38 : decode cX5_quiet 38 = .ok (.iload_n 1, 1) := by decide +kernel
theorem dX5_quiet_39 : decode cX5_quiet 39 = .ok (.iload_n 2, 1) := by decide +kernel
theorem dX5_quiet_40 : decode cX5_quiet 40 = .ok (.invokestatic 188, 3) := by decide +kernel
theorem dX5_quiet_43 : decode cX5_quiet 43 = .ok (.istore_n 1, 1) := by decide +kernel
theorem dX5_quiet_44 : decode cX5_quiet 44 = .ok (.iinc 3 1, 3) := by decide +kernel
theorem dX5_quiet_47 : decode cX5_quiet 47 = .ok (.goto (-33), 3) := by decide +kernel
theorem dX5_quiet_50 : decode cX5_quiet 50 = .ok (.iload_n 1, 1) := by decide +kernel
theorem dX5_quiet_51 : decode cX5_quiet 51 = .ok (.ireturn, 1) := by decide +kernel
set_option maxRecDepth 20000 in
theorem ggX5_hadThen_X5_minutes : GoodIn wsX5_hadThen wsX5_minutes := goodIn_r _ [6, 7, 8, 9, 10, 5, 11, 1, 12, 13, 14, 15, 16, 17, 18, 19, 20, 21, 22, 23, 24, 25, 26, 27, 28, 29, 30, 31, 32, 33, 34, 35, 36, 37, 38, 39, 40, 41, 42, 43, 44, 45, 46, 47, 48, 49, 50, 51, 52, 53, 54, 55, 56, 57, 58, 59, 60, 61, 62, 63, 64, 65, 66, 67, 68, 69, 70, 71, 72, 73, 74, 75, 76, 77, 78, 79, 80, 81, 82, 83, 84, 85] (by decide +kernel) (by decide +kernel)
set_option maxRecDepth 20000 in
theorem gX5_hadThen_X5_minutes : GoodIn wsX5_hadThen (wsV RX5 233 RX5 yX5_minutes wsX5_minutes) := goodIn_app (goodIn_of _ (by decide +kernel)) ggX5_hadThen_X5_minutes
theorem dX5_hadThen_0 : decode cX5_hadThen 0 = .ok (.aload_n 0, 1) := by decide +kernel
theorem dX5_hadThen_1 : decode cX5_hadThen 1 = .ok (.sipush 220, 3) := by decide +kernel
theorem dX5_hadThen_4 : decode cX5_hadThen 4 = .ok (.bipush 60, 2) := by decide +kernel
theorem dX5_hadThen_6 : decode cX5_hadThen 6 = .ok (.invokevirtual 233, 3) := by decide +kernel
theorem dX5_hadThen_9 : decode cX5_hadThen 9 = .ok (.aload_n 0, 1) := by decide +kernel
theorem dX5_hadThen_10 : decode cX5_hadThen 10 = .ok (.getfield 70, 3) := by decide +kernel
theorem dX5_hadThen_13 : decode cX5_hadThen 13 = .ok (.sipush 239, 3) := by decide +kernel
theorem dX5_hadThen_16 : decode cX5_hadThen 16 = .ok (.iaload, 1) := by decide +kernel
theorem dX5_hadThen_17 : decode cX5_hadThen 17 = .ok (.ireturn, 1) := by decide +kernel
set_option maxRecDepth 20000 in
theorem ggX5_hadAsItIs_X5_copies : GoodIn wsX5_hadAsItIs wsX5_copies := goodIn_r _ [5, 6, 55, 56, 57, 58, 59, 60, 61, 62, 63, 64, 65, 66, 67, 68, 69, 70, 71, 72, 73, 74, 75, 76, 77, 78, 79, 80, 81, 82, 83, 84, 85, 86, 87, 88, 89, 90, 91, 92, 93] (by decide +kernel) (by decide +kernel)
set_option maxRecDepth 20000 in
theorem gX5_hadAsItIs_X5_copies : GoodIn wsX5_hadAsItIs (wsV RX5 224 RX5 yX5_copies wsX5_copies) := goodIn_app (goodIn_of _ (by decide +kernel)) ggX5_hadAsItIs_X5_copies
set_option maxRecDepth 20000 in
theorem ggX5_hadAsItIs_X5_hadThen : GoodIn wsX5_hadAsItIs wsX5_hadThen := goodIn_r _ [10, 6, 11, 12, 13, 4, 14, 15, 16, 17, 18, 19, 20, 21, 22, 23, 24, 25, 26, 27, 28, 29, 30, 31, 32, 33, 34, 35, 36, 37, 38, 39, 40, 41, 42, 43, 44, 45, 46, 47, 48, 49, 50, 51, 52, 53, 54, 55, 56, 57, 58, 59, 60, 61, 62, 63, 64, 65, 66, 67, 68, 69, 70, 71, 72, 73, 74, 75, 76, 77, 78, 79, 80, 81, 82, 83, 84, 85, 86, 87, 88, 89, 90, 91, 92, 93] (by decide +kernel) (by decide +kernel)
set_option maxRecDepth 20000 in
theorem gX5_hadAsItIs_X5_hadThen : GoodIn wsX5_hadAsItIs (wsV RX5 247 RX5 yX5_hadThen wsX5_hadThen) := goodIn_app (goodIn_of _ (by decide +kernel)) ggX5_hadAsItIs_X5_hadThen
theorem dX5_hadAsItIs_0 : decode cX5_hadAsItIs 0 = .ok (.aload_n 0, 1) := by decide +kernel
theorem dX5_hadAsItIs_1 : decode cX5_hadAsItIs 1 = .ok (.iconst 0, 1) := by decide +kernel
theorem dX5_hadAsItIs_2 : decode cX5_hadAsItIs 2 = .ok (.sipush 220, 3) := by decide +kernel
theorem dX5_hadAsItIs_5 : decode cX5_hadAsItIs 5 = .ok (.invokevirtual 224, 3) := by decide +kernel
theorem dX5_hadAsItIs_8 : decode cX5_hadAsItIs 8 = .ok (.aload_n 0, 1) := by decide +kernel
theorem dX5_hadAsItIs_9 : decode cX5_hadAsItIs 9 = .ok (.invokevirtual 247, 3) := by decide +kernel
theorem dX5_hadAsItIs_12 : decode cX5_hadAsItIs 12 = .ok (.ireturn, 1) := by decide +kernel
set_option maxRecDepth 20000 in
theorem ggX5_hadStopped_X5_copies : GoodIn wsX5_hadStopped wsX5_copies := goodIn_r _ [6, 1, 51, 52, 53, 54, 55, 56, 57, 58, 59, 60, 61, 62, 63, 64, 65, 66, 67, 68, 69, 70, 71, 72, 73, 74, 75, 76, 77, 78, 79, 80, 81, 82, 83, 84, 85, 86, 87, 88, 89] (by decide +kernel) (by decide +kernel)
set_option maxRecDepth 20000 in
theorem gX5_hadStopped_X5_copies : GoodIn wsX5_hadStopped (wsV RX5 224 RX5 yX5_copies wsX5_copies) := goodIn_app (goodIn_of _ (by decide +kernel)) ggX5_hadStopped_X5_copies
set_option maxRecDepth 20000 in
theorem ggX5_hadStopped_X5_ends : GoodIn wsX5_hadStopped wsX5_ends := goodIn_r _ [10, 1, 11, 12, 13, 14, 15, 16, 17, 5, 18, 51, 52, 53, 54, 55, 56, 57, 58, 59, 60, 61, 62, 63, 64, 65, 66, 67, 68, 69, 70, 71, 72, 73, 74, 75, 76, 77, 78, 79, 80, 81, 82, 83, 84, 85, 86, 87, 88, 89] (by decide +kernel) (by decide +kernel)
set_option maxRecDepth 20000 in
theorem gX5_hadStopped_X5_ends : GoodIn wsX5_hadStopped (wsV RX5 205 RX5 yX5_ends wsX5_ends) := goodIn_app (goodIn_of _ (by decide +kernel)) ggX5_hadStopped_X5_ends
set_option maxRecDepth 20000 in
theorem ggX5_hadStopped_X5_minutes : GoodIn wsX5_hadStopped wsX5_minutes := goodIn_r _ [22, 23, 24, 25, 26, 5, 27, 1, 28, 29, 30, 31, 32, 33, 34, 35, 36, 37, 38, 39, 40, 41, 42, 43, 44, 45, 46, 47, 16, 17, 18, 48, 49, 50, 7, 8, 9, 10, 11, 12, 13, 14, 15, 51, 52, 53, 54, 55, 56, 57, 58, 59, 60, 61, 62, 63, 64, 65, 66, 67, 68, 69, 70, 71, 72, 73, 74, 75, 76, 77, 78, 79, 80, 81, 82, 83, 84, 85, 86, 87, 88, 89] (by decide +kernel) (by decide +kernel)
set_option maxRecDepth 20000 in
theorem gX5_hadStopped_X5_minutes : GoodIn wsX5_hadStopped (wsV RX5 233 RX5 yX5_minutes wsX5_minutes) := goodIn_app (goodIn_of _ (by decide +kernel)) ggX5_hadStopped_X5_minutes
theorem dX5_hadStopped_0 : decode cX5_hadStopped 0 = .ok (.aload_n 0, 1) := by decide +kernel
theorem dX5_hadStopped_1 : decode cX5_hadStopped 1 = .ok (.iconst 0, 1) := by decide +kernel
theorem dX5_hadStopped_2 : decode cX5_hadStopped 2 = .ok (.sipush 220, 3) := by decide +kernel
theorem dX5_hadStopped_5 : decode cX5_hadStopped 5 = .ok (.invokevirtual 224, 3) := by decide +kernel
theorem dX5_hadStopped_8 : decode cX5_hadStopped 8 = .ok (.iconst 0, 1) := by decide +kernel
theorem dX5_hadStopped_9 : decode cX5_hadStopped 9 = .ok (.istore_n 3, 1) := by decide +kernel
theorem dX5_hadStopped_10 : decode cX5_hadStopped 10 = .ok (.iload_n 3, 1) := by decide +kernel
theorem dX5_hadStopped_11 : decode cX5_hadStopped 11 = .ok (.bipush 60, 2) := by decide +kernel
theorem dX5_hadStopped_13 : decode cX5_hadStopped 13 = .ok (.if_icmp .ge 53, 3) := by decide +kernel
theorem dX5_hadStopped_16 : decode cX5_hadStopped 16 = .ok (.iload_n 3, 1) := by decide +kernel
theorem dX5_hadStopped_17 : decode cX5_hadStopped 17 = .ok (.iload_n 2, 1) := by decide +kernel
theorem dX5_hadStopped_18 : decode cX5_hadStopped 18 = .ok (.if_icmp .lt 34, 3) := by decide +kernel
theorem dX5_hadStopped_21 : decode cX5_hadStopped 21 = .ok (.aload_n 0, 1) := by decide +kernel
theorem dX5_hadStopped_22 : decode cX5_hadStopped 22 = .ok (.getfield 70, 3) := by decide +kernel
theorem dX5_hadStopped_25 : decode cX5_hadStopped 25 = .ok (.sipush 220, 3) := by decide +kernel
theorem dX5_hadStopped_28 : decode cX5_hadStopped 28 = .ok (.iload_n 1, 1) := by decide +kernel
theorem dX5_hadStopped_29 : decode cX5_hadStopped 29 = .ok (.iadd, 1) := by decide +kernel
theorem dX5_hadStopped_30 : decode cX5_hadStopped 30 = .ok (.iaload, 1) := by decide +kernel
theorem dX5_hadStopped_31 : decode cX5_hadStopped 31 = .ok (.iconst 1, 1) := by decide +kernel
theorem dX5_hadStopped_32 : decode cX5_hadStopped 32 = .ok (.if_icmp .ne 20, 3) := by decide +kernel
theorem dX5_hadStopped_35 : decode cX5_hadStopped 35 = .ok (.aload_n 0, 1) := by decide +kernel
theorem dX5_hadStopped_36 : decode cX5_hadStopped 36 = .ok (.sipush 220, 3) := by decide +kernel
theorem dX5_hadStopped_39 : decode cX5_hadStopped 39 = .ok (.iload_n 1, 1) := by decide +kernel
theorem dX5_hadStopped_40 : decode cX5_hadStopped 40 = .ok (.iconst 3, 1) := by decide +kernel
theorem dX5_hadStopped_41 : decode cX5_hadStopped 41 = .ok (.aload_n 0, 1) := by decide +kernel
theorem dX5_hadStopped_42 : decode cX5_hadStopped 42 = .ok (.getfield 70, 3) := by decide +kernel
theorem dX5_hadStopped_45 : decode cX5_hadStopped 45 = .ok (.sipush 238, 3) := by decide +kernel
theorem dX5_hadStopped_48 : decode cX5_hadStopped 48 = .ok (.iaload, 1) := by decide +kernel
theorem dX5_hadStopped_49 : decode cX5_hadStopped 49 = .ok (.invokevirtual 205, 3) := by decide +kernel
theorem dX5_hadStopped_52 : decode cX5_hadStopped 52 = .ok (.aload_n 0, 1) := by decide +kernel
theorem dX5_hadStopped_53 : decode cX5_hadStopped 53 = .ok (.sipush 220, 3) := by decide +kernel
theorem dX5_hadStopped_56 : decode cX5_hadStopped 56 = .ok (.iconst 1, 1) := by decide +kernel
theorem dX5_hadStopped_57 : decode cX5_hadStopped 57 = .ok (.invokevirtual 233, 3) := by decide +kernel
theorem dX5_hadStopped_60 : decode cX5_hadStopped 60 = .ok (.iinc 3 1, 3) := by decide +kernel
theorem dX5_hadStopped_63 : decode cX5_hadStopped 63 = .ok (.goto (-53), 3) := by decide +kernel
theorem dX5_hadStopped_66 : decode cX5_hadStopped 66 = .ok (.aload_n 0, 1) := by decide +kernel
theorem dX5_hadStopped_67 : decode cX5_hadStopped 67 = .ok (.getfield 70, 3) := by decide +kernel
theorem dX5_hadStopped_70 : decode cX5_hadStopped 70 = .ok (.sipush 239, 3) := by decide +kernel
theorem dX5_hadStopped_73 : decode cX5_hadStopped 73 = .ok (.iaload, 1) := by decide +kernel
theorem dX5_hadStopped_74 : decode cX5_hadStopped 74 = .ok (.ireturn, 1) := by decide +kernel
set_option maxRecDepth 20000 in
theorem ggX5_stop_X5_isGoing : GoodIn wsX5_stop wsX5_isGoing := goodIn_r _ [6, 7, 8, 9, 5, 10, 70, 71, 72, 73, 74, 75, 76, 77, 78, 79, 80, 81, 82, 83, 84, 85, 86, 87, 88, 89, 90, 91, 92, 93, 94, 95, 96, 97, 98, 99, 100, 101, 102, 103, 104, 105, 106, 107, 108] (by decide +kernel) (by decide +kernel)
set_option maxRecDepth 20000 in
theorem gX5_stop_X5_isGoing : GoodIn wsX5_stop (wsV RX5 209 RX5 yX5_isGoing wsX5_isGoing) := goodIn_app (goodIn_of _ (by decide +kernel)) ggX5_stop_X5_isGoing
set_option maxRecDepth 20000 in
theorem ggX5_stop_X5_in : GoodIn wsX5_stop wsX5_in := goodIn_r _ [10] (by decide +kernel) (by decide +kernel)
set_option maxRecDepth 20000 in
theorem gX5_stop_X5_in : GoodIn wsX5_stop (va_wsS RX5 119 yX5_in wsX5_in) := goodIn_app (goodIn_of _ (by decide +kernel)) ggX5_stop_X5_in
set_option maxRecDepth 20000 in
theorem ggX5_stop_X5_hadAsItIs : GoodIn wsX5_stop wsX5_hadAsItIs := goodIn_r _ [14, 15, 16, 17, 5, 18, 1, 19, 20, 21, 22, 23, 24, 25, 26, 27, 28, 29, 30, 31, 7, 32, 33, 34, 35, 36, 37, 38, 39, 40, 41, 42, 43, 44, 45, 46, 47, 48, 49, 50, 51, 52, 53, 54, 55, 56, 57, 58, 59, 60, 61, 62, 63, 64, 65, 70, 71, 72, 73, 74, 75, 76, 77, 78, 79, 80, 81, 82, 83, 84, 85, 86, 87, 88, 89, 90, 91, 92, 93, 94, 95, 96, 97, 98, 99, 100, 101, 102, 103, 104, 105, 106, 107, 108] (by decide +kernel) (by decide +kernel)
set_option maxRecDepth 20000 in
theorem gX5_stop_X5_hadAsItIs : GoodIn wsX5_stop (wsV RX5 250 RX5 yX5_hadAsItIs wsX5_hadAsItIs) := goodIn_app (goodIn_of _ (by decide +kernel)) ggX5_stop_X5_hadAsItIs
set_option maxRecDepth 20000 in
theorem ggX5_stop_X5_hadStopped : GoodIn wsX5_stop wsX5_hadStopped := goodIn_r _ [69, 1, 15, 16, 17, 5, 18, 57, 58, 59, 60, 61, 62, 63, 64, 65, 51, 52, 53, 23, 24, 25, 26, 27, 28, 29, 30, 31, 7, 32, 33, 34, 35, 36, 37, 38, 39, 40, 41, 42, 43, 44, 45, 46, 47, 48, 49, 50, 54, 55, 56, 70, 71, 72, 73, 74, 75, 76, 77, 78, 79, 80, 81, 82, 83, 84, 85, 86, 87, 88, 89, 90, 91, 92, 93, 94, 95, 96, 97, 98, 99, 100, 101, 102, 103, 104, 105, 106, 107, 108] (by decide +kernel) (by decide +kernel)
set_option maxRecDepth 20000 in
theorem gX5_stop_X5_hadStopped : GoodIn wsX5_stop (wsV RX5 253 RX5 yX5_hadStopped wsX5_hadStopped) := goodIn_app (goodIn_of _ (by decide +kernel)) ggX5_stop_X5_hadStopped
set_option maxRecDepth 20000 in
theorem ggX5_stop_X5_larger : GoodIn wsX5_stop wsX5_larger := goodIn_r _ [56] (by decide +kernel) (by decide +kernel)
set_option maxRecDepth 20000 in
theorem gX5_stop_X5_larger : GoodIn wsX5_stop (va_wsS RX5 188 yX5_larger wsX5_larger) := goodIn_app (goodIn_of _ (by decide +kernel)) ggX5_stop_X5_larger
theorem dX5_stop_0 : decode cX5_stop 0 = .ok (.aload_n 0, 1) := by decide +kernel
theorem dX5_stop_1 : decode cX5_stop 1 = .ok (.iload_n 1, 1) := by decide +kernel
theorem dX5_stop_2 : decode cX5_stop 2 = .ok (.invokevirtual 209, 3) := by decide +kernel
theorem dX5_stop_5 : decode cX5_stop 5 = .ok (.ifCond .eq 13, 3) := by decide +kernel
theorem dX5_stop_8 : decode cX5_stop 8 = .ok (.iload_n 2, 1) := by decide +kernel
theorem dX5_stop_9 : decode cX5_stop 9 = .ok (.i2l, 1) := by decide +kernel
theorem dX5_stop_10 : decode cX5_stop 10 = .ok (.lconst 0, 1) := by decide +kernel
theorem dX5_stop_11 : decode cX5_stop 11 = .ok (.lconst 1, 1) := by decide +kernel
theorem dX5_stop_12 : decode cX5_stop 12 = .ok (.invokestatic 119, 3) := by decide +kernel
theorem dX5_stop_15 : decode cX5_stop 15 = .ok (.ifCond .ne 5, 3) := by decide +kernel
theorem dX5_stop_18 : decode cX5_stop 18 = .ok (.iconst (-1), 1) := by decide +kernel
theorem dX5_stop_19 : decode cX5_stop 19 = .ok (.ireturn, 1) := by decide +kernel
theorem dX5_stop_20 : decode cX5_stop 20 = .ok (.aload_n 0, 1) := by decide +kernel
theorem dX5_stop_21 : decode cX5_stop 21 = .ok (.getfield 70, 3) := by decide +kernel
theorem dX5_stop_24 : decode cX5_stop 24 = .ok (.iload_n 1, 1) := by decide +kernel
theorem dX5_stop_25 : decode cX5_stop 25 = .ok (.iaload, 1) := by decide +kernel
theorem dX5_stop_26 : decode cX5_stop 26 = .ok (.iconst 1, 1) := by decide +kernel
theorem dX5_stop_27 : decode cX5_stop 27 = .ok (.if_icmp .le 6, 3) := by decide +kernel
theorem dX5_stop_30 : decode cX5_stop 30 = .ok (.bipush (-2), 2) := by decide +kernel
theorem dX5_stop_32 : decode cX5_stop 32 = .ok (.ireturn, 1) := by decide +kernel
theorem dX5_stop_33 : decode cX5_stop 33 = .ok (.aload_n 0, 1) := by decide +kernel
theorem dX5_stop_34 : decode cX5_stop 34 = .ok (.invokevirtual 250, 3) := by decide +kernel
theorem dX5_stop_37 : decode cX5_stop 37 = .ok (.istore_n 3, 1) := by decide +kernel
theorem dX5_stop_38 : decode cX5_stop 38 = .ok (.bipush (-4), 2) := by decide +kernel
theorem dX5_stop_40 : decode cX5_stop 40 = .ok (.istore 4, 2) := by decide +kernel
theorem dX5_stop_42 : decode cX5_stop 42 = .ok (.iconst 0, 1) := by decide +kernel
theorem dX5_stop_43 : decode cX5_stop 43 = .ok (.istore 5, 2) := by decide +kernel
theorem dX5_stop_45 : decode cX5_stop 45 = .ok (.iload 5, 2) := by decide +kernel
theorem dX5_stop_47 : decode cX5_stop 47 = .ok (.bipush 40, 2) := by decide +kernel
theorem dX5_stop_49 : decode cX5_stop 49 = .ok (.if_icmp .gt 40, 3) := by decide +kernel
theorem dX5_stop_52 : decode cX5_stop 52 = .ok (.aload_n 0, 1) := by decide +kernel
theorem dX5_stop_53 : decode cX5_stop 53 = .ok (.iload_n 1, 1) := by decide +kernel
theorem dX5_stop_54 : decode cX5_stop 54 = .ok (.iload 5, 2) := by decide +kernel
theorem dX5_stop_56 : decode cX5_stop 56 = .ok (.invokevirtual 253, 3) := by decide +kernel
theorem dX5_stop_59 : decode cX5_stop 59 = .ok (.istore 6, 2) := by decide +kernel
theorem dX5_stop_61 : decode cX5_stop 61 = .ok (.iload 6, 2) := by decide +kernel
theorem dX5_stop_63 : decode cX5_stop 63 = .ok (.iload_n 3, 1) := by decide +kernel
theorem dX5_stop_64 : decode cX5_stop 64 = .ok (.if_icmp .le 8, 3) := by decide +kernel
theorem dX5_stop_67 : decode cX5_stop 67 = .ok (.iload 5, 2) := by decide +kernel
theorem dX5_stop_69 : decode cX5_stop 69 = .ok (.goto 5, 3) := by decide +kernel
theorem dX5_stop_72 : decode cX5_stop 72 = .ok (.iload 4, 2) := by decide +kernel
theorem dX5_stop_74 : decode cX5_stop 74 = .ok (.istore 4, 2) := by decide +kernel
theorem dX5_stop_76 : decode cX5_stop 76 = .ok (.iload_n 3, 1) := by decide +kernel
theorem dX5_stop_77 : decode cX5_stop 77 = .ok (.iload 6, 2) := by decide +kernel
theorem dX5_stop_79 : decode cX5_stop 79 = .ok (.invokestatic 188, 3) := by decide +kernel
theorem dX5_stop_82 : decode cX5_stop 82 = .ok (.istore_n 3, 1) := by decide +kernel
theorem dX5_stop_83 : decode cX5_stop 83 = .ok (.iinc 5 1, 3) := by decide +kernel
theorem dX5_stop_86 : decode cX5_stop 86 = .ok (.goto (-41), 3) := by decide +kernel
theorem dX5_stop_89 : decode cX5_stop 89 = .ok (.iload 4, 2) := by decide +kernel
theorem dX5_stop_91 : decode cX5_stop 91 = .ok (.ifCond .lt 7, 3) := by decide +kernel
theorem dX5_stop_94 : decode cX5_stop 94 = .ok (.iload_n 2, 1) := by decide +kernel
theorem dX5_stop_95 : decode cX5_stop 95 = .ok (.ifCond .ne 8, 3) := by decide +kernel
theorem dX5_stop_98 : decode cX5_stop 98 = .ok (.iload 4, 2) := by decide +kernel
theorem dX5_stop_100 : decode cX5_stop 100 = .ok (.goto 8, 3) := by decide +kernel
theorem dX5_stop_103 : decode cX5_stop 103 = .ok (.iload_n 3, 1) := by decide +kernel
theorem dX5_stop_104 : decode cX5_stop 104 = .ok (.sipush 10000, 3) := by decide +kernel
theorem dX5_stop_107 : decode cX5_stop 107 = .ok (.iadd, 1) := by decide +kernel
theorem dX5_stop_108 : decode cX5_stop 108 = .ok (.ireturn, 1) := by decide +kernel
set_option maxRecDepth 20000 in
theorem ggX5_best_X5_in : GoodIn wsX5_best wsX5_in := goodIn_r _ [7] (by decide +kernel) (by decide +kernel)
set_option maxRecDepth 20000 in
theorem gX5_best_X5_in : GoodIn wsX5_best (va_wsS RX5 119 yX5_in wsX5_in) := goodIn_app (goodIn_of _ (by decide +kernel)) ggX5_best_X5_in
set_option maxRecDepth 20000 in
theorem ggX5_best_X5_hadAsItIs : GoodIn wsX5_best wsX5_hadAsItIs := goodIn_r _ [11, 12, 13, 14, 6, 15, 3, 16, 17, 18, 19, 20, 21, 22, 23, 24, 25, 26, 27, 28, 2, 29, 30, 31, 32, 33, 34, 35, 36, 37, 38, 39, 40, 41, 42, 43, 44, 45, 46, 47, 48, 49, 50, 51, 52, 53, 54, 55, 56, 57, 58, 59, 60, 61, 62, 71, 72, 73, 74, 75, 76, 77, 78, 79, 80, 81, 82, 83, 84, 85, 86, 87, 88, 89, 90, 91, 92, 93, 94, 95, 96, 97, 98, 99, 100, 101, 102, 103, 104, 105, 106, 107, 108, 109] (by decide +kernel) (by decide +kernel)
set_option maxRecDepth 20000 in
theorem gX5_best_X5_hadAsItIs : GoodIn wsX5_best (wsV RX5 250 RX5 yX5_hadAsItIs wsX5_hadAsItIs) := goodIn_app (goodIn_of _ (by decide +kernel)) ggX5_best_X5_hadAsItIs
set_option maxRecDepth 20000 in
theorem ggX5_best_X5_canPin : GoodIn wsX5_best wsX5_canPin := goodIn_r _ [66, 3, 67, 42, 68, 69, 6, 70, 71, 72, 73, 74, 75, 76, 77, 78, 79, 80, 81, 82, 83, 84, 85, 86, 87, 88, 89, 90, 91, 92, 93, 94, 95, 96, 97, 98, 99, 100, 101, 102, 103, 104, 105, 106, 107, 108, 109] (by decide +kernel) (by decide +kernel)
set_option maxRecDepth 20000 in
theorem gX5_best_X5_canPin : GoodIn wsX5_best (wsV RX5 220 RX5 yX5_canPin wsX5_canPin) := goodIn_app (goodIn_of _ (by decide +kernel)) ggX5_best_X5_canPin
set_option maxRecDepth 20000 in
theorem ggX5_best_X5_copies : GoodIn wsX5_best wsX5_copies := goodIn_r _ [15, 3, 71, 72, 73, 74, 75, 76, 77, 78, 79, 80, 81, 82, 83, 84, 85, 86, 87, 88, 89, 90, 91, 92, 93, 94, 95, 96, 97, 98, 99, 100, 101, 102, 103, 104, 105, 106, 107, 108, 109] (by decide +kernel) (by decide +kernel)
set_option maxRecDepth 20000 in
theorem gX5_best_X5_copies : GoodIn wsX5_best (wsV RX5 224 RX5 yX5_copies wsX5_copies) := goodIn_app (goodIn_of _ (by decide +kernel)) ggX5_best_X5_copies
set_option maxRecDepth 20000 in
theorem ggX5_best_X5_ends : GoodIn wsX5_best wsX5_ends := goodIn_r _ [57, 3, 58, 59, 60, 61, 62, 48, 49, 6, 50, 71, 72, 73, 74, 75, 76, 77, 78, 79, 80, 81, 82, 83, 84, 85, 86, 87, 88, 89, 90, 91, 92, 93, 94, 95, 96, 97, 98, 99, 100, 101, 102, 103, 104, 105, 106, 107, 108, 109] (by decide +kernel) (by decide +kernel)
set_option maxRecDepth 20000 in
theorem gX5_best_X5_ends : GoodIn wsX5_best (wsV RX5 205 RX5 yX5_ends wsX5_ends) := goodIn_app (goodIn_of _ (by decide +kernel)) ggX5_best_X5_ends
set_option maxRecDepth 20000 in
theorem ggX5_best_X5_hadThen : GoodIn wsX5_best wsX5_hadThen := goodIn_r _ [19, 3, 20, 21, 22, 6, 23, 24, 25, 26, 27, 28, 2, 29, 30, 31, 32, 33, 34, 35, 36, 37, 38, 39, 40, 41, 42, 43, 44, 45, 46, 47, 48, 49, 50, 51, 52, 53, 54, 55, 56, 57, 58, 59, 60, 61, 62, 71, 72, 73, 74, 75, 76, 77, 78, 79, 80, 81, 82, 83, 84, 85, 86, 87, 88, 89, 90, 91, 92, 93, 94, 95, 96, 97, 98, 99, 100, 101, 102, 103, 104, 105, 106, 107, 108, 109] (by decide +kernel) (by decide +kernel)
set_option maxRecDepth 20000 in
theorem gX5_best_X5_hadThen : GoodIn wsX5_best (wsV RX5 247 RX5 yX5_hadThen wsX5_hadThen) := goodIn_app (goodIn_of _ (by decide +kernel)) ggX5_best_X5_hadThen
set_option maxRecDepth 20000 in
theorem ggX5_best_X5_larger : GoodIn wsX5_best wsX5_larger := goodIn_r _ [53] (by decide +kernel) (by decide +kernel)
set_option maxRecDepth 20000 in
theorem gX5_best_X5_larger : GoodIn wsX5_best (va_wsS RX5 188 yX5_larger wsX5_larger) := goodIn_app (goodIn_of _ (by decide +kernel)) ggX5_best_X5_larger
theorem dX5_best_0 : decode cX5_best 0 = .ok (.iload_n 1, 1) := by decide +kernel
theorem dX5_best_1 : decode cX5_best 1 = .ok (.i2l, 1) := by decide +kernel
theorem dX5_best_2 : decode cX5_best 2 = .ok (.lconst 0, 1) := by decide +kernel
theorem dX5_best_3 : decode cX5_best 3 = .ok (.lconst 1, 1) := by decide +kernel
theorem dX5_best_4 : decode cX5_best 4 = .ok (.invokestatic 119, 3) := by decide +kernel
theorem dX5_best_7 : decode cX5_best 7 = .ok (.ifCond .ne 5, 3) := by decide +kernel
theorem dX5_best_10 : decode cX5_best 10 = .ok (.iconst (-1), 1) := by decide +kernel
theorem dX5_best_11 : decode cX5_best 11 = .ok (.ireturn, 1) := by decide +kernel
theorem dX5_best_12 : decode cX5_best 12 = .ok (.aload_n 0, 1) := by decide +kernel
theorem dX5_best_13 : decode cX5_best 13 = .ok (.invokevirtual 250, 3) := by decide +kernel
theorem dX5_best_16 : decode cX5_best 16 = .ok (.istore_n 2, 1) := by decide +kernel
theorem dX5_best_17 : decode cX5_best 17 = .ok (.bipush (-4), 2) := by decide +kernel
theorem dX5_best_19 : decode cX5_best 19 = .ok (.istore_n 3, 1) := by decide +kernel
theorem dX5_best_20 : decode cX5_best 20 = .ok (.iconst 0, 1) := by decide +kernel
theorem dX5_best_21 : decode cX5_best 21 = .ok (.istore 4, 2) := by decide +kernel
theorem dX5_best_23 : decode cX5_best 23 = .ok (.iload 4, 2) := by decide +kernel
theorem dX5_best_25 : decode cX5_best 25 = .ok (.aload_n 0, 1) := by decide +kernel
theorem dX5_best_26 : decode cX5_best 26 = .ok (.getfield 116, 3) := by decide +kernel
theorem dX5_best_29 : decode cX5_best 29 = .ok (.aload_n 0, 1) := by decide +kernel
theorem dX5_best_30 : decode cX5_best 30 = .ok (.getfield 110, 3) := by decide +kernel
theorem dX5_best_33 : decode cX5_best 33 = .ok (.imul, 1) := by decide +kernel
theorem dX5_best_34 : decode cX5_best 34 = .ok (.if_icmp .ge 96, 3) := by decide +kernel
theorem dX5_best_37 : decode cX5_best 37 = .ok (.iload 4, 2) := by decide +kernel
theorem dX5_best_39 : decode cX5_best 39 = .ok (.aload_n 0, 1) := by decide +kernel
theorem dX5_best_40 : decode cX5_best 40 = .ok (.getfield 110, 3) := by decide +kernel
theorem dX5_best_43 : decode cX5_best 43 = .ok (.idiv, 1) := by decide +kernel
theorem dX5_best_44 : decode cX5_best 44 = .ok (.istore 5, 2) := by decide +kernel
theorem dX5_best_46 : decode cX5_best 46 = .ok (.iload 4, 2) := by decide +kernel
theorem dX5_best_48 : decode cX5_best 48 = .ok (.aload_n 0, 1) := by decide +kernel
theorem dX5_best_49 : decode cX5_best 49 = .ok (.getfield 110, 3) := by decide +kernel
theorem dX5_best_52 : decode cX5_best 52 = .ok (.irem, 1) := by decide +kernel
theorem dX5_best_53 : decode cX5_best 53 = .ok (.istore 6, 2) := by decide +kernel
theorem dX5_best_55 : decode cX5_best 55 = .ok (.aload_n 0, 1) := by decide +kernel
theorem dX5_best_56 : decode cX5_best 56 = .ok (.iconst 0, 1) := by decide +kernel
theorem dX5_best_57 : decode cX5_best 57 = .ok (.iload 5, 2) := by decide +kernel
theorem dX5_best_59 : decode cX5_best 59 = .ok (.iload 6, 2) := by decide +kernel
theorem dX5_best_61 : decode cX5_best 61 = .ok (.invokevirtual 220, 3) := by decide +kernel
theorem dX5_best_64 : decode cX5_best 64 = .ok (.ifCond .eq 60, 3) := by decide +kernel
theorem dX5_best_67 : decode cX5_best 67 = .ok (.aload_n 0, 1) := by decide +kernel
theorem dX5_best_68 : decode cX5_best 68 = .ok (.iconst 0, 1) := by decide +kernel
theorem dX5_best_69 : decode cX5_best 69 = .ok (.sipush 220, 3) := by decide +kernel
theorem dX5_best_72 : decode cX5_best 72 = .ok (.invokevirtual 224, 3) := by decide +kernel
theorem dX5_best_75 : decode cX5_best 75 = .ok (.aload_n 0, 1) := by decide +kernel
theorem dX5_best_76 : decode cX5_best 76 = .ok (.sipush 220, 3) := by decide +kernel
theorem dX5_best_79 : decode cX5_best 79 = .ok (.iload 6, 2) := by decide +kernel
theorem dX5_best_81 : decode cX5_best 81 = .ok (.iconst 3, 1) := by decide +kernel
theorem dX5_best_82 : decode cX5_best 82 = .ok (.aload_n 0, 1) := by decide +kernel
theorem dX5_best_83 : decode cX5_best 83 = .ok (.getfield 70, 3) := by decide +kernel
theorem dX5_best_86 : decode cX5_best 86 = .ok (.bipush 18, 2) := by decide +kernel
theorem dX5_best_88 : decode cX5_best 88 = .ok (.iaload, 1) := by decide +kernel
theorem dX5_best_89 : decode cX5_best 89 = .ok (.invokevirtual 205, 3) := by decide +kernel
theorem dX5_best_92 : decode cX5_best 92 = .ok (.aload_n 0, 1) := by decide +kernel
theorem dX5_best_93 : decode cX5_best 93 = .ok (.invokevirtual 247, 3) := by decide +kernel
theorem dX5_best_96 : decode cX5_best 96 = .ok (.istore 7, 2) := by decide +kernel
theorem dX5_best_98 : decode cX5_best 98 = .ok (.iload 7, 2) := by decide +kernel
theorem dX5_best_100 : decode cX5_best 100 = .ok (.iload_n 2, 1) := by decide +kernel
theorem dX5_best_101 : decode cX5_best 101 = .ok (.if_icmp .le 14, 3) := by decide +kernel
theorem dX5_best_104 : decode cX5_best 104 = .ok (.bipush 10, 2) := by decide +kernel
theorem dX5_best_106 : decode cX5_best 106 = .ok (.iload 5, 2) := by decide +kernel
theorem dX5_best_108 : decode cX5_best 108 = .ok (.imul, 1) := by decide +kernel
theorem dX5_best_109 : decode cX5_best 109 = .ok (.iload 6, 2) := by decide +kernel
theorem dX5_best_111 : decode cX5_best 111 = .ok (.iadd, 1) := by decide +kernel
theorem dX5_best_112 : decode cX5_best 112 = .ok (.goto 4, 3) := by decide +kernel
theorem dX5_best_115 : decode cX5_best 115 = .ok (.iload_n 3, 1) := by decide +kernel
theorem dX5_best_116 : decode cX5_best 116 = .ok (.istore_n 3, 1) := by decide +kernel
theorem dX5_best_117 : decode cX5_best 117 = .ok (.iload_n 2, 1) := by decide +kernel
theorem dX5_best_118 : decode cX5_best 118 = .ok (.iload 7, 2) := by decide +kernel
theorem dX5_best_120 : decode cX5_best 120 = .ok (.invokestatic 188, 3) := by decide +kernel
theorem dX5_best_123 : decode cX5_best 123 = .ok (.istore_n 2, 1) := by decide +kernel
theorem dX5_best_124 : decode cX5_best 124 = .ok (.iinc 4 1, 3) := by decide +kernel
theorem dX5_best_127 : decode cX5_best 127 = .ok (.goto (-104), 3) := by decide +kernel
theorem dX5_best_130 : decode cX5_best 130 = .ok (.iload_n 3, 1) := by decide +kernel
theorem dX5_best_131 : decode cX5_best 131 = .ok (.ifCond .lt 7, 3) := by decide +kernel
theorem dX5_best_134 : decode cX5_best 134 = .ok (.iload_n 1, 1) := by decide +kernel
theorem dX5_best_135 : decode cX5_best 135 = .ok (.ifCond .ne 7, 3) := by decide +kernel
theorem dX5_best_138 : decode cX5_best 138 = .ok (.iload_n 3, 1) := by decide +kernel
theorem dX5_best_139 : decode cX5_best 139 = .ok (.goto 8, 3) := by decide +kernel
theorem dX5_best_142 : decode cX5_best 142 = .ok (.iload_n 2, 1) := by decide +kernel
theorem dX5_best_143 : decode cX5_best 143 = .ok (.sipush 10000, 3) := by decide +kernel
theorem dX5_best_146 : decode cX5_best 146 = .ok (.iadd, 1) := by decide +kernel
theorem dX5_best_147 : decode cX5_best 147 = .ok (.ireturn, 1) := by decide +kernel
set_option maxRecDepth 20000 in
theorem ggX5_both_X5_in : GoodIn wsX5_both wsX5_in := goodIn_r _ [6] (by decide +kernel) (by decide +kernel)
set_option maxRecDepth 20000 in
theorem gX5_both_X5_in : GoodIn wsX5_both (va_wsS RX5 119 yX5_in wsX5_in) := goodIn_app (goodIn_of _ (by decide +kernel)) ggX5_both_X5_in
set_option maxRecDepth 20000 in
theorem ggX5_both_X5_copies : GoodIn wsX5_both wsX5_copies := goodIn_r _ [10, 2, 58, 59, 60, 61, 62, 63, 64, 65, 66, 67, 68, 69, 70, 71, 72, 73, 74, 75, 76, 77, 78, 79, 80, 81, 82, 83, 84, 85, 86, 87, 88, 89, 90, 91, 92, 93, 94, 95, 96] (by decide +kernel) (by decide +kernel)
set_option maxRecDepth 20000 in
theorem gX5_both_X5_copies : GoodIn wsX5_both (wsV RX5 224 RX5 yX5_copies wsX5_copies) := goodIn_app (goodIn_of _ (by decide +kernel)) ggX5_both_X5_copies
set_option maxRecDepth 20000 in
theorem ggX5_both_X5_ends : GoodIn wsX5_both wsX5_ends := goodIn_r _ [14, 2, 15, 16, 17, 18, 19, 20, 21, 5, 22, 58, 59, 60, 61, 62, 63, 64, 65, 66, 67, 68, 69, 70, 71, 72, 73, 74, 75, 76, 77, 78, 79, 80, 81, 82, 83, 84, 85, 86, 87, 88, 89, 90, 91, 92, 93, 94, 95, 96] (by decide +kernel) (by decide +kernel)
set_option maxRecDepth 20000 in
theorem gX5_both_X5_ends : GoodIn wsX5_both (wsV RX5 205 RX5 yX5_ends wsX5_ends) := goodIn_app (goodIn_of _ (by decide +kernel)) ggX5_both_X5_ends
set_option maxRecDepth 20000 in
theorem ggX5_both_X5_hadThen : GoodIn wsX5_both wsX5_hadThen := goodIn_r _ [26, 2, 27, 28, 29, 5, 30, 31, 32, 33, 34, 35, 1, 36, 37, 38, 39, 40, 41, 42, 43, 44, 45, 46, 47, 48, 49, 50, 51, 52, 53, 54, 20, 21, 22, 55, 56, 57, 11, 12, 13, 14, 15, 16, 17, 18, 19, 58, 59, 60, 61, 62, 63, 64, 65, 66, 67, 68, 69, 70, 71, 72, 73, 74, 75, 76, 77, 78, 79, 80, 81, 82, 83, 84, 85, 86, 87, 88, 89, 90, 91, 92, 93, 94, 95, 96] (by decide +kernel) (by decide +kernel)
set_option maxRecDepth 20000 in
theorem gX5_both_X5_hadThen : GoodIn wsX5_both (wsV RX5 247 RX5 yX5_hadThen wsX5_hadThen) := goodIn_app (goodIn_of _ (by decide +kernel)) ggX5_both_X5_hadThen
theorem dX5_both_0 : decode cX5_both 0 = .ok (.iload_n 1, 1) := by decide +kernel
theorem dX5_both_1 : decode cX5_both 1 = .ok (.i2l, 1) := by decide +kernel
theorem dX5_both_2 : decode cX5_both 2 = .ok (.lconst 0, 1) := by decide +kernel
theorem dX5_both_3 : decode cX5_both 3 = .ok (.lconst 1, 1) := by decide +kernel
theorem dX5_both_4 : decode cX5_both 4 = .ok (.invokestatic 119, 3) := by decide +kernel
theorem dX5_both_7 : decode cX5_both 7 = .ok (.ifCond .ne 5, 3) := by decide +kernel
theorem dX5_both_10 : decode cX5_both 10 = .ok (.iconst (-1), 1) := by decide +kernel
theorem dX5_both_11 : decode cX5_both 11 = .ok (.ireturn, 1) := by decide +kernel
theorem dX5_both_12 : decode cX5_both 12 = .ok (.iconst 0, 1) := by decide +kernel
theorem dX5_both_13 : decode cX5_both 13 = .ok (.istore_n 2, 1) := by decide +kernel
theorem dX5_both_14 : decode cX5_both 14 = .ok (.bipush (-4), 2) := by decide +kernel
theorem dX5_both_16 : decode cX5_both 16 = .ok (.istore_n 3, 1) := by decide +kernel
theorem dX5_both_17 : decode cX5_both 17 = .ok (.iconst 0, 1) := by decide +kernel
theorem dX5_both_18 : decode cX5_both 18 = .ok (.istore 4, 2) := by decide +kernel
theorem dX5_both_20 : decode cX5_both 20 = .ok (.iload 4, 2) := by decide +kernel
theorem dX5_both_22 : decode cX5_both 22 = .ok (.aload_n 0, 1) := by decide +kernel
theorem dX5_both_23 : decode cX5_both 23 = .ok (.getfield 110, 3) := by decide +kernel
theorem dX5_both_26 : decode cX5_both 26 = .ok (.if_icmp .ge 147, 3) := by decide +kernel
theorem dX5_both_29 : decode cX5_both 29 = .ok (.iload 4, 2) := by decide +kernel
theorem dX5_both_31 : decode cX5_both 31 = .ok (.iconst 1, 1) := by decide +kernel
theorem dX5_both_32 : decode cX5_both 32 = .ok (.iadd, 1) := by decide +kernel
theorem dX5_both_33 : decode cX5_both 33 = .ok (.istore 5, 2) := by decide +kernel
theorem dX5_both_35 : decode cX5_both 35 = .ok (.iload 5, 2) := by decide +kernel
theorem dX5_both_37 : decode cX5_both 37 = .ok (.aload_n 0, 1) := by decide +kernel
theorem dX5_both_38 : decode cX5_both 38 = .ok (.getfield 110, 3) := by decide +kernel
theorem dX5_both_41 : decode cX5_both 41 = .ok (.if_icmp .ge 126, 3) := by decide +kernel
theorem dX5_both_44 : decode cX5_both 44 = .ok (.aload_n 0, 1) := by decide +kernel
theorem dX5_both_45 : decode cX5_both 45 = .ok (.getfield 70, 3) := by decide +kernel
theorem dX5_both_48 : decode cX5_both 48 = .ok (.iload 4, 2) := by decide +kernel
theorem dX5_both_50 : decode cX5_both 50 = .ok (.iaload, 1) := by decide +kernel
theorem dX5_both_51 : decode cX5_both 51 = .ok (.iconst 1, 1) := by decide +kernel
theorem dX5_both_52 : decode cX5_both 52 = .ok (.if_icmp .ne 109, 3) := by decide +kernel
theorem dX5_both_55 : decode cX5_both 55 = .ok (.aload_n 0, 1) := by decide +kernel
theorem dX5_both_56 : decode cX5_both 56 = .ok (.getfield 70, 3) := by decide +kernel
theorem dX5_both_59 : decode cX5_both 59 = .ok (.iload 5, 2) := by decide +kernel
theorem dX5_both_61 : decode cX5_both 61 = .ok (.iaload, 1) := by decide +kernel
theorem dX5_both_62 : decode cX5_both 62 = .ok (.iconst 1, 1) := by decide +kernel
theorem dX5_both_63 : decode cX5_both 63 = .ok (.if_icmp .ne 98, 3) := by decide +kernel
theorem dX5_both_66 : decode cX5_both 66 = .ok (.aload_n 0, 1) := by decide +kernel
theorem dX5_both_67 : decode cX5_both 67 = .ok (.iconst 0, 1) := by decide +kernel
theorem dX5_both_68 : decode cX5_both 68 = .ok (.sipush 220, 3) := by decide +kernel
theorem dX5_both_71 : decode cX5_both 71 = .ok (.invokevirtual 224, 3) := by decide +kernel
theorem dX5_both_74 : decode cX5_both 74 = .ok (.aload_n 0, 1) := by decide +kernel
theorem dX5_both_75 : decode cX5_both 75 = .ok (.sipush 220, 3) := by decide +kernel
theorem dX5_both_78 : decode cX5_both 78 = .ok (.iload 4, 2) := by decide +kernel
theorem dX5_both_80 : decode cX5_both 80 = .ok (.iconst 3, 1) := by decide +kernel
theorem dX5_both_81 : decode cX5_both 81 = .ok (.aload_n 0, 1) := by decide +kernel
theorem dX5_both_82 : decode cX5_both 82 = .ok (.getfield 70, 3) := by decide +kernel
theorem dX5_both_85 : decode cX5_both 85 = .ok (.bipush 18, 2) := by decide +kernel
theorem dX5_both_87 : decode cX5_both 87 = .ok (.iaload, 1) := by decide +kernel
theorem dX5_both_88 : decode cX5_both 88 = .ok (.invokevirtual 205, 3) := by decide +kernel
theorem dX5_both_91 : decode cX5_both 91 = .ok (.aload_n 0, 1) := by decide +kernel
theorem dX5_both_92 : decode cX5_both 92 = .ok (.sipush 220, 3) := by decide +kernel
theorem dX5_both_95 : decode cX5_both 95 = .ok (.iload 5, 2) := by decide +kernel
theorem dX5_both_97 : decode cX5_both 97 = .ok (.iconst 3, 1) := by decide +kernel
theorem dX5_both_98 : decode cX5_both 98 = .ok (.aload_n 0, 1) := by decide +kernel
theorem dX5_both_99 : decode cX5_both 99 = .ok (.getfield 70, 3) := by decide +kernel
theorem dX5_both_102 : decode cX5_both 102 = .ok (.bipush 18, 2) := by decide +kernel
theorem dX5_both_104 : decode cX5_both 104 = .ok (.iaload, 1) := by decide +kernel
theorem dX5_both_105 : decode cX5_both 105 = .ok (.invokevirtual 205, 3) := by decide +kernel
theorem dX5_both_108 : decode cX5_both 108 = .ok (.aload_n 0, 1) := by decide +kernel
theorem dX5_both_109 : decode cX5_both 109 = .ok (.invokevirtual 247, 3) := by decide +kernel
theorem dX5_both_112 : decode cX5_both 112 = .ok (.istore 6, 2) := by decide +kernel
theorem dX5_both_114 : decode cX5_both 114 = .ok (.iload_n 3, 1) := by decide +kernel
theorem dX5_both_115 : decode cX5_both 115 = .ok (.ifCond .lt 9, 3) := by decide +kernel
theorem dX5_both_118 : decode cX5_both 118 = .ok (.iload 6, 2) := by decide +kernel
theorem dX5_both_120 : decode cX5_both 120 = .ok (.iload_n 2, 1) := by decide +kernel
theorem dX5_both_121 : decode cX5_both 121 = .ok (.if_icmp .le 7, 3) := by decide +kernel
theorem dX5_both_124 : decode cX5_both 124 = .ok (.iconst 1, 1) := by decide +kernel
theorem dX5_both_125 : decode cX5_both 125 = .ok (.goto 4, 3) := by decide +kernel
theorem dX5_both_128 : decode cX5_both 128 = .ok (.iconst 0, 1) := by decide +kernel
theorem dX5_both_129 : decode cX5_both 129 = .ok (.istore 7, 2) := by decide +kernel
theorem dX5_both_131 : decode cX5_both 131 = .ok (.iload 7, 2) := by decide +kernel
theorem dX5_both_133 : decode cX5_both 133 = .ok (.ifCond .eq 14, 3) := by decide +kernel
theorem dX5_both_136 : decode cX5_both 136 = .ok (.bipush 10, 2) := by decide +kernel
theorem dX5_both_138 : decode cX5_both 138 = .ok (.iload 4, 2) := by decide +kernel
theorem dX5_both_140 : decode cX5_both 140 = .ok (.imul, 1) := by decide +kernel
theorem dX5_both_141 : decode cX5_both 141 = .ok (.iload 5, 2) := by decide +kernel
theorem dX5_both_143 : decode cX5_both 143 = .ok (.iadd, 1) := by decide +kernel
theorem dX5_both_144 : decode cX5_both 144 = .ok (.goto 4, 3) := by decide +kernel
theorem dX5_both_147 : decode cX5_both 147 = .ok (.iload_n 3, 1) := by decide +kernel
theorem dX5_both_148 : decode cX5_both 148 = .ok (.istore_n 3, 1) := by decide +kernel
theorem dX5_both_149 : decode cX5_both 149 = .ok (.iload 7, 2) := by decide +kernel
theorem dX5_both_151 : decode cX5_both 151 = .ok (.ifCond .eq 8, 3) := by decide +kernel
theorem dX5_both_154 : decode cX5_both 154 = .ok (.iload 6, 2) := by decide +kernel
theorem dX5_both_156 : decode cX5_both 156 = .ok (.goto 4, 3) := by decide +kernel
theorem dX5_both_159 : decode cX5_both 159 = .ok (.iload_n 2, 1) := by decide +kernel
theorem dX5_both_160 : decode cX5_both 160 = .ok (.istore_n 2, 1) := by decide +kernel
theorem dX5_both_161 : decode cX5_both 161 = .ok (.iinc 5 1, 3) := by decide +kernel
theorem dX5_both_164 : decode cX5_both 164 = .ok (.goto (-129), 3) := by decide +kernel
theorem dX5_both_167 : decode cX5_both 167 = .ok (.iinc 4 1, 3) := by decide +kernel
theorem dX5_both_170 : decode cX5_both 170 = .ok (.goto (-150), 3) := by decide +kernel
theorem dX5_both_173 : decode cX5_both 173 = .ok (.iload_n 3, 1) := by decide +kernel
theorem dX5_both_174 : decode cX5_both 174 = .ok (.ifCond .lt 7, 3) := by decide +kernel
theorem dX5_both_177 : decode cX5_both 177 = .ok (.iload_n 1, 1) := by decide +kernel
theorem dX5_both_178 : decode cX5_both 178 = .ok (.ifCond .ne 7, 3) := by decide +kernel
theorem dX5_both_181 : decode cX5_both 181 = .ok (.iload_n 3, 1) := by decide +kernel
theorem dX5_both_182 : decode cX5_both 182 = .ok (.goto 8, 3) := by decide +kernel
theorem dX5_both_185 : decode cX5_both 185 = .ok (.iload_n 2, 1) := by decide +kernel
theorem dX5_both_186 : decode cX5_both 186 = .ok (.sipush 10000, 3) := by decide +kernel
theorem dX5_both_189 : decode cX5_both 189 = .ok (.iadd, 1) := by decide +kernel
theorem dX5_both_190 : decode cX5_both 190 = .ok (.ireturn, 1) := by decide +kernel
set_option maxRecDepth 20000 in
theorem ggX5_never_X5_in : GoodIn wsX5_never wsX5_in := goodIn_r _ [7] (by decide +kernel) (by decide +kernel)
set_option maxRecDepth 20000 in
theorem gX5_never_X5_in : GoodIn wsX5_never (va_wsS RX5 119 yX5_in wsX5_in) := goodIn_app (goodIn_of _ (by decide +kernel)) ggX5_never_X5_in
set_option maxRecDepth 20000 in
theorem ggX5_never_X5_hadAsItIs : GoodIn wsX5_never wsX5_hadAsItIs := goodIn_r _ [11, 12, 13, 14, 6, 15, 2, 16, 17, 18, 19, 20, 21, 22, 23, 24, 25, 26, 27, 28, 1, 29, 30, 31, 32, 33, 34, 35, 36, 37, 38, 39, 40, 41, 42, 43, 44, 45, 46, 47, 48, 49, 50, 51, 52, 53, 54, 55, 56, 57, 58, 59, 60, 3, 61, 62, 63, 64, 65, 66, 67, 68, 69, 70, 71, 72, 73, 74, 75, 76, 77, 78, 79, 80, 81, 82, 83, 84, 85, 86, 87, 88, 89, 90, 91, 92, 93, 94, 95, 96, 97, 98, 99, 100] (by decide +kernel) (by decide +kernel)
set_option maxRecDepth 20000 in
theorem gX5_never_X5_hadAsItIs : GoodIn wsX5_never (wsV RX5 250 RX5 yX5_hadAsItIs wsX5_hadAsItIs) := goodIn_app (goodIn_of _ (by decide +kernel)) ggX5_never_X5_hadAsItIs
set_option maxRecDepth 20000 in
theorem ggX5_never_X5_copies : GoodIn wsX5_never wsX5_copies := goodIn_r _ [15, 2, 62, 63, 64, 65, 66, 67, 68, 69, 70, 71, 72, 73, 74, 75, 76, 77, 78, 79, 80, 81, 82, 83, 84, 85, 86, 87, 88, 89, 90, 91, 92, 93, 94, 95, 96, 97, 98, 99, 100] (by decide +kernel) (by decide +kernel)
set_option maxRecDepth 20000 in
theorem gX5_never_X5_copies : GoodIn wsX5_never (wsV RX5 224 RX5 yX5_copies wsX5_copies) := goodIn_app (goodIn_of _ (by decide +kernel)) ggX5_never_X5_copies
set_option maxRecDepth 20000 in
theorem ggX5_never_X5_hadThen : GoodIn wsX5_never wsX5_hadThen := goodIn_r _ [19, 2, 20, 21, 22, 6, 23, 24, 25, 26, 27, 28, 1, 29, 30, 31, 32, 33, 34, 35, 36, 37, 38, 39, 40, 41, 42, 43, 44, 45, 46, 47, 48, 49, 50, 51, 52, 53, 54, 55, 56, 57, 58, 59, 60, 3, 61, 62, 63, 64, 65, 66, 67, 68, 69, 70, 71, 72, 73, 74, 75, 76, 77, 78, 79, 80, 81, 82, 83, 84, 85, 86, 87, 88, 89, 90, 91, 92, 93, 94, 95, 96, 97, 98, 99, 100] (by decide +kernel) (by decide +kernel)
set_option maxRecDepth 20000 in
theorem gX5_never_X5_hadThen : GoodIn wsX5_never (wsV RX5 247 RX5 yX5_hadThen wsX5_hadThen) := goodIn_app (goodIn_of _ (by decide +kernel)) ggX5_never_X5_hadThen
set_option maxRecDepth 20000 in
theorem ggX5_never_X5_larger : GoodIn wsX5_never wsX5_larger := goodIn_r _ [53] (by decide +kernel) (by decide +kernel)
set_option maxRecDepth 20000 in
theorem gX5_never_X5_larger : GoodIn wsX5_never (va_wsS RX5 188 yX5_larger wsX5_larger) := goodIn_app (goodIn_of _ (by decide +kernel)) ggX5_never_X5_larger
theorem dX5_never_0 : decode cX5_never 0 = .ok (.iload_n 1, 1) := by decide +kernel
theorem dX5_never_1 : decode cX5_never 1 = .ok (.i2l, 1) := by decide +kernel
theorem dX5_never_2 : decode cX5_never 2 = .ok (.lconst 0, 1) := by decide +kernel
theorem dX5_never_3 : decode cX5_never 3 = .ok (.lconst 1, 1) := by decide +kernel
theorem dX5_never_4 : decode cX5_never 4 = .ok (.invokestatic 119, 3) := by decide +kernel
theorem dX5_never_7 : decode cX5_never 7 = .ok (.ifCond .ne 5, 3) := by decide +kernel
theorem dX5_never_10 : decode cX5_never 10 = .ok (.iconst (-1), 1) := by decide +kernel
theorem dX5_never_11 : decode cX5_never 11 = .ok (.ireturn, 1) := by decide +kernel
theorem dX5_never_12 : decode cX5_never 12 = .ok (.aload_n 0, 1) := by decide +kernel
theorem dX5_never_13 : decode cX5_never 13 = .ok (.invokevirtual 250, 3) := by decide +kernel
theorem dX5_never_16 : decode cX5_never 16 = .ok (.istore_n 2, 1) := by decide +kernel
theorem dX5_never_17 : decode cX5_never 17 = .ok (.bipush (-4), 2) := by decide +kernel
theorem dX5_never_19 : decode cX5_never 19 = .ok (.istore_n 3, 1) := by decide +kernel
theorem dX5_never_20 : decode cX5_never 20 = .ok (.iconst 0, 1) := by decide +kernel
theorem dX5_never_21 : decode cX5_never 21 = .ok (.istore 4, 2) := by decide +kernel
theorem dX5_never_23 : decode cX5_never 23 = .ok (.iload 4, 2) := by decide +kernel
theorem dX5_never_25 : decode cX5_never 25 = .ok (.aload_n 0, 1) := by decide +kernel
theorem dX5_never_26 : decode cX5_never 26 = .ok (.getfield 110, 3) := by decide +kernel
theorem dX5_never_29 : decode cX5_never 29 = .ok (.if_icmp .ge 77, 3) := by decide +kernel
theorem dX5_never_32 : decode cX5_never 32 = .ok (.aload_n 0, 1) := by decide +kernel
theorem dX5_never_33 : decode cX5_never 33 = .ok (.getfield 70, 3) := by decide +kernel
theorem dX5_never_36 : decode cX5_never 36 = .ok (.iload 4, 2) := by decide +kernel
theorem dX5_never_38 : decode cX5_never 38 = .ok (.iaload, 1) := by decide +kernel
theorem dX5_never_39 : decode cX5_never 39 = .ok (.ifCond .ne 61, 3) := by decide +kernel
theorem dX5_never_42 : decode cX5_never 42 = .ok (.aload_n 0, 1) := by decide +kernel
theorem dX5_never_43 : decode cX5_never 43 = .ok (.iconst 0, 1) := by decide +kernel
theorem dX5_never_44 : decode cX5_never 44 = .ok (.sipush 220, 3) := by decide +kernel
theorem dX5_never_47 : decode cX5_never 47 = .ok (.invokevirtual 224, 3) := by decide +kernel
theorem dX5_never_50 : decode cX5_never 50 = .ok (.aload_n 0, 1) := by decide +kernel
theorem dX5_never_51 : decode cX5_never 51 = .ok (.getfield 70, 3) := by decide +kernel
theorem dX5_never_54 : decode cX5_never 54 = .ok (.sipush 227, 3) := by decide +kernel
theorem dX5_never_57 : decode cX5_never 57 = .ok (.iload 4, 2) := by decide +kernel
theorem dX5_never_59 : decode cX5_never 59 = .ok (.iadd, 1) := by decide +kernel
theorem dX5_never_60 : decode cX5_never 60 = .ok (.iconst (-1), 1) := by decide +kernel
theorem dX5_never_61 : decode cX5_never 61 = .ok (.iastore, 1) := by decide +kernel
theorem dX5_never_62 : decode cX5_never 62 = .ok (.aload_n 0, 1) := by decide +kernel
theorem dX5_never_63 : decode cX5_never 63 = .ok (.iload 4, 2) := by decide +kernel
theorem dX5_never_65 : decode cX5_never 65 = .ok (.putfield 83, 3) := by decide +kernel
theorem dX5_never_68 : decode cX5_never 68 = .ok (.aload_n 0, 1) := by decide +kernel
theorem dX5_never_69 : decode cX5_never 69 = .ok (.invokevirtual 247, 3) := by decide +kernel
theorem dX5_never_72 : decode cX5_never 72 = .ok (.istore 5, 2) := by decide +kernel
theorem dX5_never_74 : decode cX5_never 74 = .ok (.aload_n 0, 1) := by decide +kernel
theorem dX5_never_75 : decode cX5_never 75 = .ok (.bipush (-4), 2) := by decide +kernel
theorem dX5_never_77 : decode cX5_never 77 = .ok (.putfield 83, 3) := by decide +kernel
theorem dX5_never_80 : decode cX5_never 80 = .ok (.iload 5, 2) := by decide +kernel
theorem dX5_never_82 : decode cX5_never 82 = .ok (.iload_n 2, 1) := by decide +kernel
theorem dX5_never_83 : decode cX5_never 83 = .ok (.if_icmp .le 8, 3) := by decide +kernel
theorem dX5_never_86 : decode cX5_never 86 = .ok (.iload 4, 2) := by decide +kernel
theorem dX5_never_88 : decode cX5_never 88 = .ok (.goto 4, 3) := by decide +kernel
theorem dX5_never_91 : decode cX5_never 91 = .ok (.iload_n 3, 1) := by decide +kernel
theorem dX5_never_92 : decode cX5_never 92 = .ok (.istore_n 3, 1) := by decide +kernel
theorem dX5_never_93 : decode cX5_never 93 = .ok (.iload_n 2, 1) := by decide +kernel
theorem dX5_never_94 : decode cX5_never 94 = .ok (.iload 5, 2) := by decide +kernel
theorem dX5_never_96 : decode cX5_never 96 = .ok (.invokestatic 188, 3) := by decide +kernel
theorem dX5_never_99 : decode cX5_never 99 = .ok (.istore_n 2, 1) := by decide +kernel
theorem dX5_never_100 : decode cX5_never 100 = .ok (.iinc 4 1, 3) := by decide +kernel
theorem dX5_never_103 : decode cX5_never 103 = .ok (.goto (-80), 3) := by decide +kernel
theorem dX5_never_106 : decode cX5_never 106 = .ok (.iload_n 3, 1) := by decide +kernel
theorem dX5_never_107 : decode cX5_never 107 = .ok (.ifCond .lt 7, 3) := by decide +kernel
theorem dX5_never_110 : decode cX5_never 110 = .ok (.iload_n 1, 1) := by decide +kernel
theorem dX5_never_111 : decode cX5_never 111 = .ok (.ifCond .ne 7, 3) := by decide +kernel
theorem dX5_never_114 : decode cX5_never 114 = .ok (.iload_n 3, 1) := by decide +kernel
theorem dX5_never_115 : decode cX5_never 115 = .ok (.goto 8, 3) := by decide +kernel
theorem dX5_never_118 : decode cX5_never 118 = .ok (.iload_n 2, 1) := by decide +kernel
theorem dX5_never_119 : decode cX5_never 119 = .ok (.sipush 10000, 3) := by decide +kernel
theorem dX5_never_122 : decode cX5_never 122 = .ok (.iadd, 1) := by decide +kernel
theorem dX5_never_123 : decode cX5_never 123 = .ok (.ireturn, 1) := by decide +kernel
set_option maxRecDepth 20000 in
theorem ggX5_note_X5_in : GoodIn wsX5_note wsX5_in := goodIn_r _ [10] (by decide +kernel) (by decide +kernel)
set_option maxRecDepth 20000 in
theorem gX5_note_X5_in : GoodIn wsX5_note (va_wsS RX5 119 yX5_in wsX5_in) := goodIn_app (goodIn_of _ (by decide +kernel)) ggX5_note_X5_in
theorem dX5_note_0 : decode cX5_note 0 = .ok (.iload_n 1, 1) := by decide +kernel
theorem dX5_note_1 : decode cX5_note 1 = .ok (.i2l, 1) := by decide +kernel
theorem dX5_note_2 : decode cX5_note 2 = .ok (.lconst 0, 1) := by decide +kernel
theorem dX5_note_3 : decode cX5_note 3 = .ok (.ldc2_w 256, 3) := by decide +kernel
theorem dX5_note_6 : decode cX5_note 6 = .ok (.invokestatic 119, 3) := by decide +kernel
theorem dX5_note_9 : decode cX5_note 9 = .ok (.ifCond .eq 17, 3) := by decide +kernel
theorem dX5_note_12 : decode cX5_note 12 = .ok (.iload_n 2, 1) := by decide +kernel
theorem dX5_note_13 : decode cX5_note 13 = .ok (.i2l, 1) := by decide +kernel
theorem dX5_note_14 : decode cX5_note 14 = .ok (.ldc2_w 258, 3) := by decide +kernel
theorem dX5_note_17 : decode cX5_note 17 = .ok (.ldc2_w 260, 3) := by decide +kernel
theorem dX5_note_20 : decode cX5_note 20 = .ok (.invokestatic 119, 3) := by decide +kernel
theorem dX5_note_23 : decode cX5_note 23 = .ok (.ifCond .ne 5, 3) := by decide +kernel
theorem dX5_note_26 : decode cX5_note 26 = .ok (.iconst (-1), 1) := by decide +kernel
theorem dX5_note_27 : decode cX5_note 27 = .ok (.ireturn, 1) := by decide +kernel
theorem dX5_note_28 : decode cX5_note 28 = .ok (.aload_n 0, 1) := by decide +kernel
theorem dX5_note_29 : decode cX5_note 29 = .ok (.getfield 182, 3) := by decide +kernel
theorem dX5_note_32 : decode cX5_note 32 = .ok (.bipush 8, 2) := by decide +kernel
theorem dX5_note_34 : decode cX5_note 34 = .ok (.if_icmp .ne 6, 3) := by decide +kernel
theorem dX5_note_37 : decode cX5_note 37 = .ok (.bipush (-3), 2) := by decide +kernel
theorem dX5_note_39 : decode cX5_note 39 = .ok (.ireturn, 1) := by decide +kernel
theorem dX5_note_40 : decode cX5_note 40 = .ok (.aload_n 0, 1) := by decide +kernel
theorem dX5_note_41 : decode cX5_note 41 = .ok (.getfield 77, 3) := by decide +kernel
theorem dX5_note_44 : decode cX5_note 44 = .ok (.aload_n 0, 1) := by decide +kernel
theorem dX5_note_45 : decode cX5_note 45 = .ok (.getfield 182, 3) := by decide +kernel
theorem dX5_note_48 : decode cX5_note 48 = .ok (.iload_n 1, 1) := by decide +kernel
theorem dX5_note_49 : decode cX5_note 49 = .ok (.iastore, 1) := by decide +kernel
theorem dX5_note_50 : decode cX5_note 50 = .ok (.aload_n 0, 1) := by decide +kernel
theorem dX5_note_51 : decode cX5_note 51 = .ok (.getfield 80, 3) := by decide +kernel
theorem dX5_note_54 : decode cX5_note 54 = .ok (.aload_n 0, 1) := by decide +kernel
theorem dX5_note_55 : decode cX5_note 55 = .ok (.getfield 182, 3) := by decide +kernel
theorem dX5_note_58 : decode cX5_note 58 = .ok (.iload_n 2, 1) := by decide +kernel
theorem dX5_note_59 : decode cX5_note 59 = .ok (.iastore, 1) := by decide +kernel
theorem dX5_note_60 : decode cX5_note 60 = .ok (.aload_n 0, 1) := by decide +kernel
theorem dX5_note_61 : decode cX5_note 61 = .ok (.dup, 1) := by decide +kernel
theorem dX5_note_62 : decode cX5_note 62 = .ok (.getfield 182, 3) := by decide +kernel
theorem dX5_note_65 : decode cX5_note 65 = .ok (.iconst 1, 1) := by decide +kernel
theorem dX5_note_66 : decode cX5_note 66 = .ok (.iadd, 1) := by decide +kernel
theorem dX5_note_67 : decode cX5_note 67 = .ok (.putfield 182, 3) := by decide +kernel
theorem dX5_note_70 : decode cX5_note 70 = .ok (.aload_n 0, 1) := by decide +kernel
theorem dX5_note_71 : decode cX5_note 71 = .ok (.getfield 182, 3) := by decide +kernel
theorem dX5_note_74 : decode cX5_note 74 = .ok (.ireturn, 1) := by decide +kernel
theorem dX5_forget_0 : decode cX5_forget 0 = .ok (.aload_n 0, 1) := by decide +kernel
theorem dX5_forget_1 : decode cX5_forget 1 = .ok (.getfield 182, 3) := by decide +kernel
theorem dX5_forget_4 : decode cX5_forget 4 = .ok (.istore_n 1, 1) := by decide +kernel
theorem dX5_forget_5 : decode cX5_forget 5 = .ok (.aload_n 0, 1) := by decide +kernel
theorem dX5_forget_6 : decode cX5_forget 6 = .ok (.iconst 0, 1) := by decide +kernel
theorem dX5_forget_7 : decode cX5_forget 7 = .ok (.putfield 182, 3) := by decide +kernel
theorem dX5_forget_10 : decode cX5_forget 10 = .ok (.iload_n 1, 1) := by decide +kernel
theorem dX5_forget_11 : decode cX5_forget 11 = .ok (.ireturn, 1) := by decide +kernel
set_option maxRecDepth 20000 in
theorem ggX5_isSo_X5_worthOf : GoodIn wsX5_isSo wsX5_worthOf := goodIn_r _ [7, 8, 9, 6, 10, 11, 12, 13] (by decide +kernel) (by decide +kernel)
set_option maxRecDepth 20000 in
theorem gX5_isSo_X5_worthOf : GoodIn wsX5_isSo (va_wsS RX5 191 yX5_worthOf wsX5_worthOf) := goodIn_app (goodIn_of _ (by decide +kernel)) ggX5_isSo_X5_worthOf
theorem dX5_isSo_0 : decode cX5_isSo 0 = .ok (.iconst 1, 1) := by decide +kernel
theorem dX5_isSo_1 : decode cX5_isSo 1 = .ok (.istore 4, 2) := by decide +kernel
theorem dX5_isSo_3 : decode cX5_isSo 3 = .ok (.iconst 0, 1) := by decide +kernel
theorem dX5_isSo_4 : decode cX5_isSo 4 = .ok (.istore 5, 2) := by decide +kernel
theorem dX5_isSo_6 : decode cX5_isSo 6 = .ok (.iload 5, 2) := by decide +kernel
theorem dX5_isSo_8 : decode cX5_isSo 8 = .ok (.aload_n 0, 1) := by decide +kernel
theorem dX5_isSo_9 : decode cX5_isSo 9 = .ok (.getfield 182, 3) := by decide +kernel
theorem dX5_isSo_12 : decode cX5_isSo 12 = .ok (.if_icmp .ge 44, 3) := by decide +kernel
theorem dX5_isSo_15 : decode cX5_isSo 15 = .ok (.iload 4, 2) := by decide +kernel
theorem dX5_isSo_17 : decode cX5_isSo 17 = .ok (.ifCond .eq 30, 3) := by decide +kernel
theorem dX5_isSo_20 : decode cX5_isSo 20 = .ok (.iload_n 1, 1) := by decide +kernel
theorem dX5_isSo_21 : decode cX5_isSo 21 = .ok (.iload_n 2, 1) := by decide +kernel
theorem dX5_isSo_22 : decode cX5_isSo 22 = .ok (.iload_n 3, 1) := by decide +kernel
theorem dX5_isSo_23 : decode cX5_isSo 23 = .ok (.aload_n 0, 1) := by decide +kernel
theorem dX5_isSo_24 : decode cX5_isSo 24 = .ok (.getfield 77, 3) := by decide +kernel
theorem dX5_isSo_27 : decode cX5_isSo 27 = .ok (.iload 5, 2) := by decide +kernel
theorem dX5_isSo_29 : decode cX5_isSo 29 = .ok (.iaload, 1) := by decide +kernel
theorem dX5_isSo_30 : decode cX5_isSo 30 = .ok (.invokestatic 191, 3) := by decide +kernel
theorem dX5_isSo_33 : decode cX5_isSo 33 = .ok (.aload_n 0, 1) := by decide +kernel
theorem dX5_isSo_34 : decode cX5_isSo 34 = .ok (.getfield 80, 3) := by decide +kernel
theorem dX5_isSo_37 : decode cX5_isSo 37 = .ok (.iload 5, 2) := by decide +kernel
theorem dX5_isSo_39 : decode cX5_isSo 39 = .ok (.iaload, 1) := by decide +kernel
theorem dX5_isSo_40 : decode cX5_isSo 40 = .ok (.if_icmp .ne 7, 3) := by decide +kernel
theorem dX5_isSo_43 : decode cX5_isSo 43 = .ok (.iconst 1, 1) := by decide +kernel
theorem dX5_isSo_44 : decode cX5_isSo 44 = .ok (.goto 4, 3) := by decide +kernel
theorem dX5_isSo_47 : decode cX5_isSo 47 = .ok (.iconst 0, 1) := by decide +kernel
theorem dX5_isSo_48 : decode cX5_isSo 48 = .ok (.istore 4, 2) := by decide +kernel
theorem dX5_isSo_50 : decode cX5_isSo 50 = .ok (.iinc 5 1, 3) := by decide +kernel
theorem dX5_isSo_53 : decode cX5_isSo 53 = .ok (.goto (-47), 3) := by decide +kernel
theorem dX5_isSo_56 : decode cX5_isSo 56 = .ok (.iload 4, 2) := by decide +kernel
theorem dX5_isSo_58 : decode cX5_isSo 58 = .ok (.ireturn, 1) := by decide +kernel
set_option maxRecDepth 20000 in
theorem ggX5_waning_X5_in : GoodIn wsX5_waning wsX5_in := goodIn_r _ [4] (by decide +kernel) (by decide +kernel)
set_option maxRecDepth 20000 in
theorem gX5_waning_X5_in : GoodIn wsX5_waning (va_wsS RX5 119 yX5_in wsX5_in) := goodIn_app (goodIn_of _ (by decide +kernel)) ggX5_waning_X5_in
set_option maxRecDepth 20000 in
theorem ggX5_waning_X5_isSo : GoodIn wsX5_waning wsX5_isSo := goodIn_r _ [8, 9, 10, 11, 12, 13, 3, 14, 15, 16, 17, 18, 19, 20, 21, 22, 23, 24, 25, 26, 27, 28, 29, 30, 31, 32, 33, 34, 35, 36, 37, 38, 39, 40, 41, 42, 43, 44, 45, 46, 47, 48, 49, 50, 51, 52, 53, 54, 55, 56, 57, 58, 59] (by decide +kernel) (by decide +kernel)
set_option maxRecDepth 20000 in
theorem gX5_waning_X5_isSo : GoodIn wsX5_waning (wsV RX5 262 RX5 yX5_isSo wsX5_isSo) := goodIn_app (goodIn_of _ (by decide +kernel)) ggX5_waning_X5_isSo
theorem dX5_waning_0 : decode cX5_waning 0 = .ok (.iload_n 1, 1) := by decide +kernel
theorem dX5_waning_1 : decode cX5_waning 1 = .ok (.i2l, 1) := by decide +kernel
theorem dX5_waning_2 : decode cX5_waning 2 = .ok (.lconst 0, 1) := by decide +kernel
theorem dX5_waning_3 : decode cX5_waning 3 = .ok (.lconst 1, 1) := by decide +kernel
theorem dX5_waning_4 : decode cX5_waning 4 = .ok (.invokestatic 119, 3) := by decide +kernel
theorem dX5_waning_7 : decode cX5_waning 7 = .ok (.ifCond .ne 5, 3) := by decide +kernel
theorem dX5_waning_10 : decode cX5_waning 10 = .ok (.iconst (-1), 1) := by decide +kernel
theorem dX5_waning_11 : decode cX5_waning 11 = .ok (.ireturn, 1) := by decide +kernel
theorem dX5_waning_12 : decode cX5_waning 12 = .ok (.iconst 0, 1) := by decide +kernel
theorem dX5_waning_13 : decode cX5_waning 13 = .ok (.istore_n 2, 1) := by decide +kernel
theorem dX5_waning_14 : decode cX5_waning 14 = .ok (.bipush (-4), 2) := by decide +kernel
theorem dX5_waning_16 : decode cX5_waning 16 = .ok (.istore_n 3, 1) := by decide +kernel
theorem dX5_waning_17 : decode cX5_waning 17 = .ok (.bipush 20, 2) := by decide +kernel
theorem dX5_waning_19 : decode cX5_waning 19 = .ok (.istore 4, 2) := by decide +kernel
theorem dX5_waning_21 : decode cX5_waning 21 = .ok (.iload 4, 2) := by decide +kernel
theorem dX5_waning_23 : decode cX5_waning 23 = .ok (.ifCond .lt 68, 3) := by decide +kernel
theorem dX5_waning_26 : decode cX5_waning 26 = .ok (.iconst 5, 1) := by decide +kernel
theorem dX5_waning_27 : decode cX5_waning 27 = .ok (.istore 5, 2) := by decide +kernel
theorem dX5_waning_29 : decode cX5_waning 29 = .ok (.iload 5, 2) := by decide +kernel
theorem dX5_waning_31 : decode cX5_waning 31 = .ok (.ifCond .lt 54, 3) := by decide +kernel
theorem dX5_waning_34 : decode cX5_waning 34 = .ok (.iload_n 2, 1) := by decide +kernel
theorem dX5_waning_35 : decode cX5_waning 35 = .ok (.aload_n 0, 1) := by decide +kernel
theorem dX5_waning_36 : decode cX5_waning 36 = .ok (.iconst 0, 1) := by decide +kernel
theorem dX5_waning_37 : decode cX5_waning 37 = .ok (.iload 4, 2) := by decide +kernel
theorem dX5_waning_39 : decode cX5_waning 39 = .ok (.iload 5, 2) := by decide +kernel
theorem dX5_waning_41 : decode cX5_waning 41 = .ok (.invokevirtual 262, 3) := by decide +kernel
theorem dX5_waning_44 : decode cX5_waning 44 = .ok (.ifCond .eq 7, 3) := by decide +kernel
theorem dX5_waning_47 : decode cX5_waning 47 = .ok (.iconst 1, 1) := by decide +kernel
theorem dX5_waning_48 : decode cX5_waning 48 = .ok (.goto 4, 3) := by decide +kernel
theorem dX5_waning_51 : decode cX5_waning 51 = .ok (.iconst 0, 1) := by decide +kernel
theorem dX5_waning_52 : decode cX5_waning 52 = .ok (.iadd, 1) := by decide +kernel
theorem dX5_waning_53 : decode cX5_waning 53 = .ok (.istore_n 2, 1) := by decide +kernel
theorem dX5_waning_54 : decode cX5_waning 54 = .ok (.aload_n 0, 1) := by decide +kernel
theorem dX5_waning_55 : decode cX5_waning 55 = .ok (.iconst 0, 1) := by decide +kernel
theorem dX5_waning_56 : decode cX5_waning 56 = .ok (.iload 4, 2) := by decide +kernel
theorem dX5_waning_58 : decode cX5_waning 58 = .ok (.iload 5, 2) := by decide +kernel
theorem dX5_waning_60 : decode cX5_waning 60 = .ok (.invokevirtual 262, 3) := by decide +kernel
theorem dX5_waning_63 : decode cX5_waning 63 = .ok (.ifCond .eq 14, 3) := by decide +kernel
theorem dX5_waning_66 : decode cX5_waning 66 = .ok (.bipush 10, 2) := by decide +kernel
theorem dX5_waning_68 : decode cX5_waning 68 = .ok (.iload 4, 2) := by decide +kernel
theorem dX5_waning_70 : decode cX5_waning 70 = .ok (.imul, 1) := by decide +kernel
theorem dX5_waning_71 : decode cX5_waning 71 = .ok (.iload 5, 2) := by decide +kernel
theorem dX5_waning_73 : decode cX5_waning 73 = .ok (.iadd, 1) := by decide +kernel
theorem dX5_waning_74 : decode cX5_waning 74 = .ok (.goto 4, 3) := by decide +kernel
theorem dX5_waning_77 : decode cX5_waning 77 = .ok (.iload_n 3, 1) := by decide +kernel
theorem dX5_waning_78 : decode cX5_waning 78 = .ok (.istore_n 3, 1) := by decide +kernel
theorem dX5_waning_79 : decode cX5_waning 79 = .ok (.iinc 5 (-1), 3) := by decide +kernel
theorem dX5_waning_82 : decode cX5_waning 82 = .ok (.goto (-53), 3) := by decide +kernel
theorem dX5_waning_85 : decode cX5_waning 85 = .ok (.iinc 4 (-1), 3) := by decide +kernel
theorem dX5_waning_88 : decode cX5_waning 88 = .ok (.goto (-67), 3) := by decide +kernel
theorem dX5_waning_91 : decode cX5_waning 91 = .ok (.iload_n 1, 1) := by decide +kernel
theorem dX5_waning_92 : decode cX5_waning 92 = .ok (.ifCond .ne 7, 3) := by decide +kernel
theorem dX5_waning_95 : decode cX5_waning 95 = .ok (.iload_n 2, 1) := by decide +kernel
theorem dX5_waning_96 : decode cX5_waning 96 = .ok (.goto 4, 3) := by decide +kernel
theorem dX5_waning_99 : decode cX5_waning 99 = .ok (.iload_n 3, 1) := by decide +kernel
theorem dX5_waning_100 : decode cX5_waning 100 = .ok (.ireturn, 1) := by decide +kernel
set_option maxRecDepth 20000 in
theorem ggX5_kinds_X5_isGoing : GoodIn wsX5_kinds wsX5_isGoing := goodIn_r _ [7, 8, 9, 10, 6, 11, 28, 29, 30, 31, 32, 33, 34, 35, 36, 37, 38, 39, 40, 41, 42, 43, 44, 45, 46, 47, 48, 49, 50, 51, 52, 53, 54, 55, 56, 57, 58, 59, 60, 61, 62, 63, 64, 65, 66] (by decide +kernel) (by decide +kernel)
set_option maxRecDepth 20000 in
theorem gX5_kinds_X5_isGoing : GoodIn wsX5_kinds (wsV RX5 209 RX5 yX5_isGoing wsX5_isGoing) := goodIn_app (goodIn_of _ (by decide +kernel)) ggX5_kinds_X5_isGoing
set_option maxRecDepth 20000 in
theorem ggX5_kinds_X5_isSo : GoodIn wsX5_kinds wsX5_isSo := goodIn_r _ [15, 16, 17, 18, 19, 20, 6, 21, 22, 23, 24, 25, 26, 27, 28, 29, 30, 31, 32, 33, 34, 35, 36, 37, 38, 39, 40, 41, 42, 43, 44, 45, 46, 47, 48, 49, 50, 51, 52, 53, 54, 55, 56, 57, 58, 59, 60, 61, 62, 63, 64, 65, 66] (by decide +kernel) (by decide +kernel)
set_option maxRecDepth 20000 in
theorem gX5_kinds_X5_isSo : GoodIn wsX5_kinds (wsV RX5 262 RX5 yX5_isSo wsX5_isSo) := goodIn_app (goodIn_of _ (by decide +kernel)) ggX5_kinds_X5_isSo
theorem dX5_kinds_0 : decode cX5_kinds 0 = .ok (.aload_n 0, 1) := by decide +kernel
theorem dX5_kinds_1 : decode cX5_kinds 1 = .ok (.iload_n 1, 1) := by decide +kernel
theorem dX5_kinds_2 : decode cX5_kinds 2 = .ok (.invokevirtual 209, 3) := by decide +kernel
theorem dX5_kinds_5 : decode cX5_kinds 5 = .ok (.ifCond .ne 5, 3) := by decide +kernel
theorem dX5_kinds_8 : decode cX5_kinds 8 = .ok (.iconst (-1), 1) := by decide +kernel
theorem dX5_kinds_9 : decode cX5_kinds 9 = .ok (.ireturn, 1) := by decide +kernel
theorem dX5_kinds_10 : decode cX5_kinds 10 = .ok (.iconst 0, 1) := by decide +kernel
theorem dX5_kinds_11 : decode cX5_kinds 11 = .ok (.istore_n 2, 1) := by decide +kernel
theorem dX5_kinds_12 : decode cX5_kinds 12 = .ok (.iconst 0, 1) := by decide +kernel
theorem dX5_kinds_13 : decode cX5_kinds 13 = .ok (.istore_n 3, 1) := by decide +kernel
theorem dX5_kinds_14 : decode cX5_kinds 14 = .ok (.iload_n 3, 1) := by decide +kernel
theorem dX5_kinds_15 : decode cX5_kinds 15 = .ok (.iconst 4, 1) := by decide +kernel
theorem dX5_kinds_16 : decode cX5_kinds 16 = .ok (.if_icmp .ge 39, 3) := by decide +kernel
theorem dX5_kinds_19 : decode cX5_kinds 19 = .ok (.iload_n 2, 1) := by decide +kernel
theorem dX5_kinds_20 : decode cX5_kinds 20 = .ok (.aload_n 0, 1) := by decide +kernel
theorem dX5_kinds_21 : decode cX5_kinds 21 = .ok (.iload_n 3, 1) := by decide +kernel
theorem dX5_kinds_22 : decode cX5_kinds 22 = .ok (.aload_n 0, 1) := by decide +kernel
theorem dX5_kinds_23 : decode cX5_kinds 23 = .ok (.getfield 16, 3) := by decide +kernel
theorem dX5_kinds_26 : decode cX5_kinds 26 = .ok (.iload_n 1, 1) := by decide +kernel
theorem dX5_kinds_27 : decode cX5_kinds 27 = .ok (.iaload, 1) := by decide +kernel
theorem dX5_kinds_28 : decode cX5_kinds 28 = .ok (.aload_n 0, 1) := by decide +kernel
theorem dX5_kinds_29 : decode cX5_kinds 29 = .ok (.getfield 19, 3) := by decide +kernel
theorem dX5_kinds_32 : decode cX5_kinds 32 = .ok (.iload_n 1, 1) := by decide +kernel
theorem dX5_kinds_33 : decode cX5_kinds 33 = .ok (.iaload, 1) := by decide +kernel
theorem dX5_kinds_34 : decode cX5_kinds 34 = .ok (.invokevirtual 262, 3) := by decide +kernel
theorem dX5_kinds_37 : decode cX5_kinds 37 = .ok (.ifCond .eq 9, 3) := by decide +kernel
theorem dX5_kinds_40 : decode cX5_kinds 40 = .ok (.iconst 1, 1) := by decide +kernel
theorem dX5_kinds_41 : decode cX5_kinds 41 = .ok (.iload_n 3, 1) := by decide +kernel
theorem dX5_kinds_42 : decode cX5_kinds 42 = .ok (.ishl, 1) := by decide +kernel
theorem dX5_kinds_43 : decode cX5_kinds 43 = .ok (.goto 4, 3) := by decide +kernel
theorem dX5_kinds_46 : decode cX5_kinds 46 = .ok (.iconst 0, 1) := by decide +kernel
theorem dX5_kinds_47 : decode cX5_kinds 47 = .ok (.ior, 1) := by decide +kernel
theorem dX5_kinds_48 : decode cX5_kinds 48 = .ok (.istore_n 2, 1) := by decide +kernel
theorem dX5_kinds_49 : decode cX5_kinds 49 = .ok (.iinc 3 1, 3) := by decide +kernel
theorem dX5_kinds_52 : decode cX5_kinds 52 = .ok (.goto (-38), 3) := by decide +kernel
theorem dX5_kinds_55 : decode cX5_kinds 55 = .ok (.iload_n 2, 1) := by decide +kernel
theorem dX5_kinds_56 : decode cX5_kinds 56 = .ok (.ireturn, 1) := by decide +kernel
theorem dX5_isSoon_0 : decode cX5_isSoon 0 = .ok (.aload_n 0, 1) := by decide +kernel
theorem dX5_isSoon_1 : decode cX5_isSoon 1 = .ok (.getfield 70, 3) := by decide +kernel
theorem dX5_isSoon_4 : decode cX5_isSoon 4 = .ok (.iload_n 1, 1) := by decide +kernel
theorem dX5_isSoon_5 : decode cX5_isSoon 5 = .ok (.iaload, 1) := by decide +kernel
theorem dX5_isSoon_6 : decode cX5_isSoon 6 = .ok (.ifCond .ne 41, 3) := by decide +kernel
theorem dX5_isSoon_9 : decode cX5_isSoon 9 = .ok (.aload_n 0, 1) := by decide +kernel
theorem dX5_isSoon_10 : decode cX5_isSoon 10 = .ok (.getfield 70, 3) := by decide +kernel
theorem dX5_isSoon_13 : decode cX5_isSoon 13 = .ok (.bipush 7, 2) := by decide +kernel
theorem dX5_isSoon_15 : decode cX5_isSoon 15 = .ok (.iload_n 1, 1) := by decide +kernel
theorem dX5_isSoon_16 : decode cX5_isSoon 16 = .ok (.iadd, 1) := by decide +kernel
theorem dX5_isSoon_17 : decode cX5_isSoon 17 = .ok (.iaload, 1) := by decide +kernel
theorem dX5_isSoon_18 : decode cX5_isSoon 18 = .ok (.ifCond .lt 29, 3) := by decide +kernel
theorem dX5_isSoon_21 : decode cX5_isSoon 21 = .ok (.aload_n 0, 1) := by decide +kernel
theorem dX5_isSoon_22 : decode cX5_isSoon 22 = .ok (.getfield 70, 3) := by decide +kernel
theorem dX5_isSoon_25 : decode cX5_isSoon 25 = .ok (.bipush 7, 2) := by decide +kernel
theorem dX5_isSoon_27 : decode cX5_isSoon 27 = .ok (.iload_n 1, 1) := by decide +kernel
theorem dX5_isSoon_28 : decode cX5_isSoon 28 = .ok (.iadd, 1) := by decide +kernel
theorem dX5_isSoon_29 : decode cX5_isSoon 29 = .ok (.iaload, 1) := by decide +kernel
theorem dX5_isSoon_30 : decode cX5_isSoon 30 = .ok (.aload_n 0, 1) := by decide +kernel
theorem dX5_isSoon_31 : decode cX5_isSoon 31 = .ok (.getfield 70, 3) := by decide +kernel
theorem dX5_isSoon_34 : decode cX5_isSoon 34 = .ok (.bipush 18, 2) := by decide +kernel
theorem dX5_isSoon_36 : decode cX5_isSoon 36 = .ok (.iaload, 1) := by decide +kernel
theorem dX5_isSoon_37 : decode cX5_isSoon 37 = .ok (.bipush 8, 2) := by decide +kernel
theorem dX5_isSoon_39 : decode cX5_isSoon 39 = .ok (.iadd, 1) := by decide +kernel
theorem dX5_isSoon_40 : decode cX5_isSoon 40 = .ok (.if_icmp .gt 7, 3) := by decide +kernel
theorem dX5_isSoon_43 : decode cX5_isSoon 43 = .ok (.iconst 1, 1) := by decide +kernel
theorem dX5_isSoon_44 : decode cX5_isSoon 44 = .ok (.goto 4, 3) := by decide +kernel
theorem dX5_isSoon_47 : decode cX5_isSoon 47 = .ok (.iconst 0, 1) := by decide +kernel
theorem dX5_isSoon_48 : decode cX5_isSoon 48 = .ok (.ireturn, 1) := by decide +kernel
set_option maxRecDepth 20000 in
theorem ggX5_late_X5_in : GoodIn wsX5_late wsX5_in := goodIn_r _ [9] (by decide +kernel) (by decide +kernel)
set_option maxRecDepth 20000 in
theorem gX5_late_X5_in : GoodIn wsX5_late (va_wsS RX5 119 yX5_in wsX5_in) := goodIn_app (goodIn_of _ (by decide +kernel)) ggX5_late_X5_in
set_option maxRecDepth 20000 in
theorem ggX5_late_X5_copies : GoodIn wsX5_late wsX5_copies := goodIn_r _ [13, 5, 68, 69, 70, 71, 72, 73, 74, 75, 76, 77, 78, 79, 80, 81, 82, 83, 84, 85, 86, 87, 88, 89, 90, 91, 92, 93, 94, 95, 96, 97, 98, 99, 100, 101, 102, 103, 104, 105, 106] (by decide +kernel) (by decide +kernel)
set_option maxRecDepth 20000 in
theorem gX5_late_X5_copies : GoodIn wsX5_late (wsV RX5 224 RX5 yX5_copies wsX5_copies) := goodIn_app (goodIn_of _ (by decide +kernel)) ggX5_late_X5_copies
set_option maxRecDepth 20000 in
theorem ggX5_late_X5_isSoon : GoodIn wsX5_late wsX5_isSoon := goodIn_r _ [17, 5, 68, 69, 70, 71, 72, 73, 74, 75, 76, 77, 78, 79, 80, 81, 82, 83, 84, 85, 86, 87, 88, 89, 90, 91, 92, 93, 94, 95, 96, 97, 98, 99, 100, 101, 102, 103, 104, 105, 106] (by decide +kernel) (by decide +kernel)
set_option maxRecDepth 20000 in
theorem gX5_late_X5_isSoon : GoodIn wsX5_late (wsV RX5 269 RX5 yX5_isSoon wsX5_isSoon) := goodIn_app (goodIn_of _ (by decide +kernel)) ggX5_late_X5_isSoon
set_option maxRecDepth 20000 in
theorem ggX5_late_X5_has : GoodIn wsX5_late wsX5_has := goodIn_r _ [20] (by decide +kernel) (by decide +kernel)
set_option maxRecDepth 20000 in
theorem gX5_late_X5_has : GoodIn wsX5_late (va_wsS RX5 152 yX5_has wsX5_has) := goodIn_app (goodIn_of _ (by decide +kernel)) ggX5_late_X5_has
set_option maxRecDepth 20000 in
theorem ggX5_late_X5_hadThen : GoodIn wsX5_late wsX5_hadThen := goodIn_r _ [24, 5, 25, 26, 27, 8, 28, 29, 30, 31, 32, 33, 4, 34, 35, 36, 37, 38, 39, 40, 41, 42, 43, 44, 45, 46, 47, 48, 49, 50, 51, 52, 53, 54, 55, 56, 57, 58, 59, 60, 61, 62, 63, 64, 65, 66, 67, 68, 69, 70, 71, 72, 73, 74, 75, 76, 77, 78, 79, 80, 81, 82, 83, 84, 85, 86, 87, 88, 89, 90, 91, 92, 93, 94, 95, 96, 97, 98, 99, 100, 101, 102, 103, 104, 105, 106] (by decide +kernel) (by decide +kernel)
set_option maxRecDepth 20000 in
theorem gX5_late_X5_hadThen : GoodIn wsX5_late (wsV RX5 247 RX5 yX5_hadThen wsX5_hadThen) := goodIn_app (goodIn_of _ (by decide +kernel)) ggX5_late_X5_hadThen
theorem dX5_late_0 : decode cX5_late 0 = .ok (.iload_n 1, 1) := by decide +kernel
theorem dX5_late_1 : decode cX5_late 1 = .ok (.i2l, 1) := by decide +kernel
theorem dX5_late_2 : decode cX5_late 2 = .ok (.lconst 1, 1) := by decide +kernel
theorem dX5_late_3 : decode cX5_late 3 = .ok (.ldc2_w 260, 3) := by decide +kernel
theorem dX5_late_6 : decode cX5_late 6 = .ok (.invokestatic 119, 3) := by decide +kernel
theorem dX5_late_9 : decode cX5_late 9 = .ok (.ifCond .eq 38, 3) := by decide +kernel
theorem dX5_late_12 : decode cX5_late 12 = .ok (.iload_n 2, 1) := by decide +kernel
theorem dX5_late_13 : decode cX5_late 13 = .ok (.i2l, 1) := by decide +kernel
theorem dX5_late_14 : decode cX5_late 14 = .ok (.lconst 0, 1) := by decide +kernel
theorem dX5_late_15 : decode cX5_late 15 = .ok (.ldc2_w 265, 3) := by decide +kernel
theorem dX5_late_18 : decode cX5_late 18 = .ok (.invokestatic 119, 3) := by decide +kernel
theorem dX5_late_21 : decode cX5_late 21 = .ok (.ifCond .eq 26, 3) := by decide +kernel
theorem dX5_late_24 : decode cX5_late 24 = .ok (.iload_n 3, 1) := by decide +kernel
theorem dX5_late_25 : decode cX5_late 25 = .ok (.i2l, 1) := by decide +kernel
theorem dX5_late_26 : decode cX5_late 26 = .ok (.lconst 0, 1) := by decide +kernel
theorem dX5_late_27 : decode cX5_late 27 = .ok (.ldc2_w 267, 3) := by decide +kernel
theorem dX5_late_30 : decode cX5_late 30 = .ok (.invokestatic 119, 3) := by decide +kernel
theorem dX5_late_33 : decode cX5_late 33 = .ok (.ifCond .eq 14, 3) := by decide +kernel
theorem dX5_late_36 : decode cX5_late 36 = .ok (.iload 4, 2) := by decide +kernel
theorem dX5_late_38 : decode cX5_late 38 = .ok (.i2l, 1) := by decide +kernel
theorem dX5_late_39 : decode cX5_late 39 = .ok (.lconst 0, 1) := by decide +kernel
theorem dX5_late_40 : decode cX5_late 40 = .ok (.lconst 1, 1) := by decide +kernel
theorem dX5_late_41 : decode cX5_late 41 = .ok (.invokestatic 119, 3) := by decide +kernel
theorem dX5_late_44 : decode cX5_late 44 = .ok (.ifCond .ne 5, 3) := by decide +kernel
theorem dX5_late_47 : decode cX5_late 47 = .ok (.iconst (-1), 1) := by decide +kernel
theorem dX5_late_48 : decode cX5_late 48 = .ok (.ireturn, 1) := by decide +kernel
theorem dX5_late_49 : decode cX5_late 49 = .ok (.iconst 0, 1) := by decide +kernel
theorem dX5_late_50 : decode cX5_late 50 = .ok (.istore 5, 2) := by decide +kernel
theorem dX5_late_52 : decode cX5_late 52 = .ok (.iconst 0, 1) := by decide +kernel
theorem dX5_late_53 : decode cX5_late 53 = .ok (.istore 6, 2) := by decide +kernel
theorem dX5_late_55 : decode cX5_late 55 = .ok (.iconst 0, 1) := by decide +kernel
theorem dX5_late_56 : decode cX5_late 56 = .ok (.istore 7, 2) := by decide +kernel
theorem dX5_late_58 : decode cX5_late 58 = .ok (.iload 7, 2) := by decide +kernel
theorem dX5_late_60 : decode cX5_late 60 = .ok (.iconst 1, 1) := by decide +kernel
theorem dX5_late_61 : decode cX5_late 61 = .ok (.aload_n 0, 1) := by decide +kernel
theorem dX5_late_62 : decode cX5_late 62 = .ok (.getfield 110, 3) := by decide +kernel
theorem dX5_late_65 : decode cX5_late 65 = .ok (.ishl, 1) := by decide +kernel
theorem dX5_late_66 : decode cX5_late 66 = .ok (.if_icmp .ge 173, 3) := by decide +kernel
theorem dX5_late_69 : decode cX5_late 69 = .ok (.aload_n 0, 1) := by decide +kernel
theorem dX5_late_70 : decode cX5_late 70 = .ok (.iconst 0, 1) := by decide +kernel
theorem dX5_late_71 : decode cX5_late 71 = .ok (.sipush 220, 3) := by decide +kernel
theorem dX5_late_74 : decode cX5_late 74 = .ok (.invokevirtual 224, 3) := by decide +kernel
theorem dX5_late_77 : decode cX5_late 77 = .ok (.iconst 1, 1) := by decide +kernel
theorem dX5_late_78 : decode cX5_late 78 = .ok (.istore 8, 2) := by decide +kernel
theorem dX5_late_80 : decode cX5_late 80 = .ok (.iconst 1, 1) := by decide +kernel
theorem dX5_late_81 : decode cX5_late 81 = .ok (.istore 9, 2) := by decide +kernel
theorem dX5_late_83 : decode cX5_late 83 = .ok (.iconst 0, 1) := by decide +kernel
theorem dX5_late_84 : decode cX5_late 84 = .ok (.istore 10, 2) := by decide +kernel
theorem dX5_late_86 : decode cX5_late 86 = .ok (.iload 10, 2) := by decide +kernel
theorem dX5_late_88 : decode cX5_late 88 = .ok (.aload_n 0, 1) := by decide +kernel
theorem dX5_late_89 : decode cX5_late 89 = .ok (.getfield 110, 3) := by decide +kernel
theorem dX5_late_92 : decode cX5_late 92 = .ok (.if_icmp .ge 110, 3) := by decide +kernel
theorem dX5_late_95 : decode cX5_late 95 = .ok (.aload_n 0, 1) := by decide +kernel
