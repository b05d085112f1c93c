theorem dX4_lend_71 : decode cX4_lend 71 = .ok (.iload_n 1, 1) := by decide +kernel
theorem dX4_lend_72 : decode cX4_lend 72 = .ok (.iload_n 2, 1) := by decide +kernel
theorem dX4_lend_73 : decode cX4_lend 73 = .ok (.invokevirtual 151, 3) := by decide +kernel
theorem dX4_lend_76 : decode cX4_lend 76 = .ok (.aload_n 0, 1) := by decide +kernel
theorem dX4_lend_77 : decode cX4_lend 77 = .ok (.getfield 29, 3) := by decide +kernel
theorem dX4_lend_80 : decode cX4_lend 80 = .ok (.getfield 120, 3) := by decide +kernel
theorem dX4_lend_83 : decode cX4_lend 83 = .ok (.iload_n 2, 1) := by decide +kernel
theorem dX4_lend_84 : decode cX4_lend 84 = .ok (.iaload, 1) := by decide +kernel
theorem dX4_lend_85 : decode cX4_lend 85 = .ok (.ireturn, 1) := by decide +kernel
set_option maxRecDepth 20000 in
theorem ggX4_undo_X1_takeInto : GoodIn wsX4_undo wsX1_takeInto := goodIn_r _ [8, 9, 10, 11, 12, 13, 14, 15, 16, 17, 18, 19, 20, 21, 22, 23, 24, 25, 36, 37, 38, 39, 40, 41, 42, 43] (by decide +kernel) (by decide +kernel)
set_option maxRecDepth 20000 in
theorem gX4_undo_X1_takeInto : GoodIn wsX4_undo (wsV RX4 155 RX1 yX1_takeInto wsX1_takeInto) := goodIn_app (goodIn_of _ (by decide +kernel)) ggX4_undo_X1_takeInto
theorem dX4_undo_0 : decode cX4_undo 0 = .ok (.aload_n 0, 1) := by decide +kernel
theorem dX4_undo_1 : decode cX4_undo 1 = .ok (.getfield 41, 3) := by decide +kernel
theorem dX4_undo_4 : decode cX4_undo 4 = .ok (.aload_n 0, 1) := by decide +kernel
theorem dX4_undo_5 : decode cX4_undo 5 = .ok (.getfield 29, 3) := by decide +kernel
theorem dX4_undo_8 : decode cX4_undo 8 = .ok (.invokevirtual 155, 3) := by decide +kernel
theorem dX4_undo_11 : decode cX4_undo 11 = .ok (.ifCond .eq 13, 3) := by decide +kernel
theorem dX4_undo_14 : decode cX4_undo 14 = .ok (.aload_n 0, 1) := by decide +kernel
theorem dX4_undo_15 : decode cX4_undo 15 = .ok (.getfield 41, 3) := by decide +kernel
theorem dX4_undo_18 : decode cX4_undo 18 = .ok (.getfield 85, 3) := by decide +kernel
theorem dX4_undo_21 : decode cX4_undo 21 = .ok (.goto 5, 3) := by decide +kernel
theorem dX4_undo_24 : decode cX4_undo 24 = .ok (.bipush (-2), 2) := by decide +kernel
theorem dX4_undo_26 : decode cX4_undo 26 = .ok (.ireturn, 1) := by decide +kernel
set_option maxRecDepth 20000 in
theorem ggX4_behind_X4_isEither : GoodIn wsX4_behind wsX4_isEither := goodIn_r _ [8] (by decide +kernel) (by decide +kernel)
set_option maxRecDepth 20000 in
theorem gX4_behind_X4_isEither : GoodIn wsX4_behind (va_wsS RX4 159 yX4_isEither wsX4_isEither) := goodIn_app (goodIn_of _ (by decide +kernel)) ggX4_behind_X4_isEither
set_option maxRecDepth 20000 in
theorem ggX4_behind_X2_copyOf : GoodIn wsX4_behind wsX2_copyOf := goodIn_r _ [13, 14, 15, 16, 17, 18, 19, 20, 21, 22, 23, 81, 82, 83, 84, 85, 86] (by decide +kernel) (by decide +kernel)
set_option maxRecDepth 20000 in
theorem gX4_behind_X2_copyOf : GoodIn wsX4_behind (wsV RX4 162 RX2 yX2_copyOf wsX2_copyOf) := goodIn_app (goodIn_of _ (by decide +kernel)) ggX4_behind_X2_copyOf
set_option maxRecDepth 20000 in
theorem ggX4_behind_X2_goBy : GoodIn wsX4_behind wsX2_goBy := goodIn_r _ [27, 15, 28, 29, 30, 12, 31, 32, 16, 21, 14, 22, 33, 34, 35, 36, 37, 38, 39, 40, 41, 42, 43, 44, 7, 45, 46, 47, 48, 49, 50, 51, 52, 53, 54, 55, 56, 57, 58, 59, 60, 61, 62, 63, 64, 65, 66, 81, 82, 83, 84, 85, 86, 87, 88, 89, 90, 91, 92, 93, 94, 95, 96, 97, 98, 99] (by decide +kernel) (by decide +kernel)
set_option maxRecDepth 20000 in
theorem gX4_behind_X2_goBy : GoodIn wsX4_behind (wsV RX4 136 RX2 yX2_goBy wsX2_goBy) := goodIn_app (goodIn_of _ (by decide +kernel)) ggX4_behind_X2_goBy
set_option maxRecDepth 20000 in
theorem ggX4_behind_X2_onBits : GoodIn wsX4_behind wsX2_onBits := goodIn_r _ [70, 32, 16, 87, 88, 89, 90, 91, 92, 93, 94, 95, 96, 97, 98, 99, 81, 82, 83, 84, 85, 86] (by decide +kernel) (by decide +kernel)
set_option maxRecDepth 20000 in
theorem gX4_behind_X2_onBits : GoodIn wsX4_behind (wsV RX4 165 RX2 yX2_onBits wsX2_onBits) := goodIn_app (goodIn_of _ (by decide +kernel)) ggX4_behind_X2_onBits
theorem dX4_behind_0 : decode cX4_behind 0 = .ok (.iload_n 1, 1) := by decide +kernel
theorem dX4_behind_1 : decode cX4_behind 1 = .ok (.ifCond .lt 16, 3) := by decide +kernel
theorem dX4_behind_4 : decode cX4_behind 4 = .ok (.iload_n 1, 1) := by decide +kernel
theorem dX4_behind_5 : decode cX4_behind 5 = .ok (.bipush 60, 2) := by decide +kernel
theorem dX4_behind_7 : decode cX4_behind 7 = .ok (.if_icmp .gt 10, 3) := by decide +kernel
theorem dX4_behind_10 : decode cX4_behind 10 = .ok (.iload_n 2, 1) := by decide +kernel
theorem dX4_behind_11 : decode cX4_behind 11 = .ok (.invokestatic 159, 3) := by decide +kernel
theorem dX4_behind_14 : decode cX4_behind 14 = .ok (.ifCond .ne 5, 3) := by decide +kernel
theorem dX4_behind_17 : decode cX4_behind 17 = .ok (.iconst (-1), 1) := by decide +kernel
theorem dX4_behind_18 : decode cX4_behind 18 = .ok (.ireturn, 1) := by decide +kernel
theorem dX4_behind_19 : decode cX4_behind 19 = .ok (.aload_n 0, 1) := by decide +kernel
theorem dX4_behind_20 : decode cX4_behind 20 = .ok (.getfield 33, 3) := by decide +kernel
theorem dX4_behind_23 : decode cX4_behind 23 = .ok (.aload_n 0, 1) := by decide +kernel
theorem dX4_behind_24 : decode cX4_behind 24 = .ok (.getfield 29, 3) := by decide +kernel
theorem dX4_behind_27 : decode cX4_behind 27 = .ok (.invokevirtual 162, 3) := by decide +kernel
theorem dX4_behind_30 : decode cX4_behind 30 = .ok (.aload_n 0, 1) := by decide +kernel
theorem dX4_behind_31 : decode cX4_behind 31 = .ok (.getfield 33, 3) := by decide +kernel
theorem dX4_behind_34 : decode cX4_behind 34 = .ok (.aload_n 0, 1) := by decide +kernel
theorem dX4_behind_35 : decode cX4_behind 35 = .ok (.getfield 19, 3) := by decide +kernel
theorem dX4_behind_38 : decode cX4_behind 38 = .ok (.iload_n 1, 1) := by decide +kernel
theorem dX4_behind_39 : decode cX4_behind 39 = .ok (.invokevirtual 136, 3) := by decide +kernel
theorem dX4_behind_42 : decode cX4_behind 42 = .ok (.iload_n 2, 1) := by decide +kernel
theorem dX4_behind_43 : decode cX4_behind 43 = .ok (.ifCond .ne 17, 3) := by decide +kernel
theorem dX4_behind_46 : decode cX4_behind 46 = .ok (.aload_n 0, 1) := by decide +kernel
theorem dX4_behind_47 : decode cX4_behind 47 = .ok (.getfield 33, 3) := by decide +kernel
theorem dX4_behind_50 : decode cX4_behind 50 = .ok (.getfield 140, 3) := by decide +kernel
theorem dX4_behind_53 : decode cX4_behind 53 = .ok (.sipush 10000, 3) := by decide +kernel
theorem dX4_behind_56 : decode cX4_behind 56 = .ok (.iadd, 1) := by decide +kernel
theorem dX4_behind_57 : decode cX4_behind 57 = .ok (.goto 14, 3) := by decide +kernel
theorem dX4_behind_60 : decode cX4_behind 60 = .ok (.aload_n 0, 1) := by decide +kernel
theorem dX4_behind_61 : decode cX4_behind 61 = .ok (.getfield 33, 3) := by decide +kernel
theorem dX4_behind_64 : decode cX4_behind 64 = .ok (.aload_n 0, 1) := by decide +kernel
theorem dX4_behind_65 : decode cX4_behind 65 = .ok (.getfield 19, 3) := by decide +kernel
theorem dX4_behind_68 : decode cX4_behind 68 = .ok (.invokevirtual 165, 3) := by decide +kernel
theorem dX4_behind_71 : decode cX4_behind 71 = .ok (.ireturn, 1) := by decide +kernel
set_option maxRecDepth 20000 in
theorem ggX4_dull_X2_copyOf : GoodIn wsX4_dull wsX2_copyOf := goodIn_r _ [8, 9, 10, 11, 12, 13, 14, 15, 16, 17, 18, 69, 70, 71, 72, 73, 74] (by decide +kernel) (by decide +kernel)
set_option maxRecDepth 20000 in
theorem gX4_dull_X2_copyOf : GoodIn wsX4_dull (wsV RX4 162 RX2 yX2_copyOf wsX2_copyOf) := goodIn_app (goodIn_of _ (by decide +kernel)) ggX4_dull_X2_copyOf
set_option maxRecDepth 20000 in
theorem ggX4_dull_X2_beginDue : GoodIn wsX4_dull wsX2_beginDue := goodIn_r _ [22, 23, 11, 16, 9, 17, 75, 76, 77, 78, 79, 80, 81, 82, 83, 84, 85, 86, 87, 69, 70, 71, 72, 73, 74] (by decide +kernel) (by decide +kernel)
set_option maxRecDepth 20000 in
theorem gX4_dull_X2_beginDue : GoodIn wsX4_dull (wsV RX4 168 RX2 yX2_beginDue wsX2_beginDue) := goodIn_app (goodIn_of _ (by decide +kernel)) ggX4_dull_X2_beginDue
set_option maxRecDepth 20000 in
theorem ggX4_dull_X2_worthOfAll : GoodIn wsX4_dull wsX2_worthOfAll := goodIn_r _ [27, 23, 11, 28, 29, 30, 7, 31, 32, 33, 34, 9, 17, 35, 36, 37, 38, 39, 40, 41, 42, 43, 44, 75, 76, 77, 78, 79, 80, 81, 82, 83, 84, 85, 86, 87, 69, 70, 71, 72, 73, 74] (by decide +kernel) (by decide +kernel)
set_option maxRecDepth 20000 in
theorem gX4_dull_X2_worthOfAll : GoodIn wsX4_dull (wsV RX4 171 RX2 yX2_worthOfAll wsX2_worthOfAll) := goodIn_app (goodIn_of _ (by decide +kernel)) ggX4_dull_X2_worthOfAll
set_option maxRecDepth 20000 in
theorem ggX4_dull_X2_endMinute : GoodIn wsX4_dull wsX2_endMinute := goodIn_r _ [48, 9, 23, 11, 17, 49, 50, 51, 52, 7, 53, 54, 55, 56, 16, 57, 58, 39, 40, 41, 69, 70, 71, 72, 73, 74, 75, 76, 77, 78, 79, 80, 81, 82, 83, 84, 85, 86, 87] (by decide +kernel) (by decide +kernel)
set_option maxRecDepth 20000 in
theorem gX4_dull_X2_endMinute : GoodIn wsX4_dull (wsV RX4 174 RX2 yX2_endMinute wsX2_endMinute) := goodIn_app (goodIn_of _ (by decide +kernel)) ggX4_dull_X2_endMinute
theorem dX4_dull_0 : decode cX4_dull 0 = .ok (.aload_n 0, 1) := by decide +kernel
theorem dX4_dull_1 : decode cX4_dull 1 = .ok (.getfield 33, 3) := by decide +kernel
theorem dX4_dull_4 : decode cX4_dull 4 = .ok (.aload_n 0, 1) := by decide +kernel
theorem dX4_dull_5 : decode cX4_dull 5 = .ok (.getfield 29, 3) := by decide +kernel
theorem dX4_dull_8 : decode cX4_dull 8 = .ok (.invokevirtual 162, 3) := by decide +kernel
theorem dX4_dull_11 : decode cX4_dull 11 = .ok (.iconst 0, 1) := by decide +kernel
theorem dX4_dull_12 : decode cX4_dull 12 = .ok (.istore_n 1, 1) := by decide +kernel
theorem dX4_dull_13 : decode cX4_dull 13 = .ok (.iload_n 1, 1) := by decide +kernel
theorem dX4_dull_14 : decode cX4_dull 14 = .ok (.bipush 60, 2) := by decide +kernel
theorem dX4_dull_16 : decode cX4_dull 16 = .ok (.if_icmp .gt 47, 3) := by decide +kernel
theorem dX4_dull_19 : decode cX4_dull 19 = .ok (.aload_n 0, 1) := by decide +kernel
theorem dX4_dull_20 : decode cX4_dull 20 = .ok (.getfield 33, 3) := by decide +kernel
theorem dX4_dull_23 : decode cX4_dull 23 = .ok (.aload_n 0, 1) := by decide +kernel
theorem dX4_dull_24 : decode cX4_dull 24 = .ok (.getfield 19, 3) := by decide +kernel
theorem dX4_dull_27 : decode cX4_dull 27 = .ok (.invokevirtual 168, 3) := by decide +kernel
theorem dX4_dull_30 : decode cX4_dull 30 = .ok (.aload_n 0, 1) := by decide +kernel
theorem dX4_dull_31 : decode cX4_dull 31 = .ok (.getfield 33, 3) := by decide +kernel
theorem dX4_dull_34 : decode cX4_dull 34 = .ok (.aload_n 0, 1) := by decide +kernel
theorem dX4_dull_35 : decode cX4_dull 35 = .ok (.getfield 19, 3) := by decide +kernel
theorem dX4_dull_38 : decode cX4_dull 38 = .ok (.invokevirtual 171, 3) := by decide +kernel
theorem dX4_dull_41 : decode cX4_dull 41 = .ok (.ifCond .ge 5, 3) := by decide +kernel
theorem dX4_dull_44 : decode cX4_dull 44 = .ok (.iload_n 1, 1) := by decide +kernel
theorem dX4_dull_45 : decode cX4_dull 45 = .ok (.ireturn, 1) := by decide +kernel
theorem dX4_dull_46 : decode cX4_dull 46 = .ok (.aload_n 0, 1) := by decide +kernel
theorem dX4_dull_47 : decode cX4_dull 47 = .ok (.getfield 33, 3) := by decide +kernel
theorem dX4_dull_50 : decode cX4_dull 50 = .ok (.aload_n 0, 1) := by decide +kernel
theorem dX4_dull_51 : decode cX4_dull 51 = .ok (.getfield 19, 3) := by decide +kernel
theorem dX4_dull_54 : decode cX4_dull 54 = .ok (.invokevirtual 174, 3) := by decide +kernel
theorem dX4_dull_57 : decode cX4_dull 57 = .ok (.iinc 1 1, 3) := by decide +kernel
theorem dX4_dull_60 : decode cX4_dull 60 = .ok (.goto (-47), 3) := by decide +kernel
theorem dX4_dull_63 : decode cX4_dull 63 = .ok (.bipush (-4), 2) := by decide +kernel
theorem dX4_dull_65 : decode cX4_dull 65 = .ok (.ireturn, 1) := by decide +kernel
set_option maxRecDepth 20000 in
theorem ggX4_quiet_X2_copyOf : GoodIn wsX4_quiet wsX2_copyOf := goodIn_r _ [12, 13, 14, 15, 16, 17, 18, 19, 20, 21, 22, 58, 59, 60, 61, 62, 63] (by decide +kernel) (by decide +kernel)
set_option maxRecDepth 20000 in
theorem gX4_quiet_X2_copyOf : GoodIn wsX4_quiet (wsV RX4 162 RX2 yX2_copyOf wsX2_copyOf) := goodIn_app (goodIn_of _ (by decide +kernel)) ggX4_quiet_X2_copyOf
set_option maxRecDepth 20000 in
theorem ggX4_quiet_X2_beginDue : GoodIn wsX4_quiet wsX2_beginDue := goodIn_r _ [26, 27, 15, 20, 13, 21, 64, 65, 66, 67, 68, 69, 70, 71, 72, 73, 74, 75, 76, 58, 59, 60, 61, 62, 63] (by decide +kernel) (by decide +kernel)
set_option maxRecDepth 20000 in
theorem gX4_quiet_X2_beginDue : GoodIn wsX4_quiet (wsV RX4 168 RX2 yX2_beginDue wsX2_beginDue) := goodIn_app (goodIn_of _ (by decide +kernel)) ggX4_quiet_X2_beginDue
set_option maxRecDepth 20000 in
theorem ggX4_quiet_X2_onBits : GoodIn wsX4_quiet wsX2_onBits := goodIn_r _ [31, 27, 15, 64, 65, 66, 67, 68, 69, 70, 71, 72, 73, 74, 75, 76, 58, 59, 60, 61, 62, 63] (by decide +kernel) (by decide +kernel)
set_option maxRecDepth 20000 in
theorem gX4_quiet_X2_onBits : GoodIn wsX4_quiet (wsV RX4 165 RX2 yX2_onBits wsX2_onBits) := goodIn_app (goodIn_of _ (by decide +kernel)) ggX4_quiet_X2_onBits
set_option maxRecDepth 20000 in
theorem ggX4_quiet_X2_endMinute : GoodIn wsX4_quiet wsX2_endMinute := goodIn_r _ [35, 13, 27, 15, 21, 36, 37, 38, 39, 11, 40, 41, 42, 43, 20, 44, 45, 46, 6, 47, 58, 59, 60, 61, 62, 63, 64, 65, 66, 67, 68, 69, 70, 71, 72, 73, 74, 75, 76] (by decide +kernel) (by decide +kernel)
set_option maxRecDepth 20000 in
theorem gX4_quiet_X2_endMinute : GoodIn wsX4_quiet (wsV RX4 174 RX2 yX2_endMinute wsX2_endMinute) := goodIn_app (goodIn_of _ (by decide +kernel)) ggX4_quiet_X2_endMinute
theorem dX4_quiet_0 : decode cX4_quiet 0 = .ok (.iconst 0, 1) := by decide +kernel
theorem dX4_quiet_1 : decode cX4_quiet 1 = .ok (.istore_n 1, 1) := by decide +kernel
theorem dX4_quiet_2 : decode cX4_quiet 2 = .ok (.iconst 0, 1) := by decide +kernel
theorem dX4_quiet_3 : decode cX4_quiet 3 = .ok (.istore_n 2, 1) := by decide +kernel
theorem dX4_quiet_4 : decode cX4_quiet 4 = .ok (.aload_n 0, 1) := by decide +kernel
theorem dX4_quiet_5 : decode cX4_quiet 5 = .ok (.getfield 33, 3) := by decide +kernel
theorem dX4_quiet_8 : decode cX4_quiet 8 = .ok (.aload_n 0, 1) := by decide +kernel
theorem dX4_quiet_9 : decode cX4_quiet 9 = .ok (.getfield 29, 3) := by decide +kernel
theorem dX4_quiet_12 : decode cX4_quiet 12 = .ok (.invokevirtual 162, 3) := by decide +kernel
theorem dX4_quiet_15 : decode cX4_quiet 15 = .ok (.iconst 0, 1) := by decide +kernel
theorem dX4_quiet_16 : decode cX4_quiet 16 = .ok (.istore_n 3, 1) := by decide +kernel
theorem dX4_quiet_17 : decode cX4_quiet 17 = .ok (.iload_n 3, 1) := by decide +kernel
theorem dX4_quiet_18 : decode cX4_quiet 18 = .ok (.bipush 60, 2) := by decide +kernel
theorem dX4_quiet_20 : decode cX4_quiet 20 = .ok (.if_icmp .ge 59, 3) := by decide +kernel
theorem dX4_quiet_23 : decode cX4_quiet 23 = .ok (.aload_n 0, 1) := by decide +kernel
theorem dX4_quiet_24 : decode cX4_quiet 24 = .ok (.getfield 33, 3) := by decide +kernel
theorem dX4_quiet_27 : decode cX4_quiet 27 = .ok (.aload_n 0, 1) := by decide +kernel
theorem dX4_quiet_28 : decode cX4_quiet 28 = .ok (.getfield 19, 3) := by decide +kernel
theorem dX4_quiet_31 : decode cX4_quiet 31 = .ok (.invokevirtual 168, 3) := by decide +kernel
theorem dX4_quiet_34 : decode cX4_quiet 34 = .ok (.aload_n 0, 1) := by decide +kernel
theorem dX4_quiet_35 : decode cX4_quiet 35 = .ok (.getfield 33, 3) := by decide +kernel
theorem dX4_quiet_38 : decode cX4_quiet 38 = .ok (.aload_n 0, 1) := by decide +kernel
theorem dX4_quiet_39 : decode cX4_quiet 39 = .ok (.getfield 19, 3) := by decide +kernel
theorem dX4_quiet_42 : decode cX4_quiet 42 = .ok (.invokevirtual 165, 3) := by decide +kernel
theorem dX4_quiet_45 : decode cX4_quiet 45 = .ok (.ifCond .ne 9, 3) := by decide +kernel
theorem dX4_quiet_48 : decode cX4_quiet 48 = .ok (.iload_n 1, 1) := by decide +kernel
theorem dX4_quiet_49 : decode cX4_quiet 49 = .ok (.iconst 1, 1) := by decide +kernel
theorem dX4_quiet_50 : decode cX4_quiet 50 = .ok (.iadd, 1) := by decide +kernel
theorem dX4_quiet_51 : decode cX4_quiet 51 = .ok (.goto 4, 3) := by decide +kernel
theorem dX4_quiet_54 : decode cX4_quiet 54 = .ok (.iconst 0, 1) := by decide +kernel
theorem dX4_quiet_55 : decode cX4_quiet 55 = .ok (.istore_n 1, 1) := by decide +kernel
theorem dX4_quiet_56 : decode cX4_quiet 56 = .ok (.iload_n 2, 1) := by decide +kernel
theorem dX4_quiet_57 : decode cX4_quiet 57 = .ok (.iload_n 1, 1) := by decide +kernel
theorem dX4_quiet_58 : decode cX4_quiet 58 = .ok (.invokestatic 177, 3) := by decide +kernel
theorem dX4_quiet_61 : decode cX4_quiet 61 = .ok (.istore_n 2, 1) := by decide +kernel
theorem dX4_quiet_62 : decode cX4_quiet 62 = .ok (.aload_n 0, 1) := by decide +kernel
theorem dX4_quiet_63 : decode cX4_quiet 63 = .ok (.getfield 33, 3) := by decide +kernel
theorem dX4_quiet_66 : decode cX4_quiet 66 = .ok (.aload_n 0, 1) := by decide +kernel
theorem dX4_quiet_67 : decode cX4_quiet 67 = .ok (.getfield 19, 3) := by decide +kernel
theorem dX4_quiet_70 : decode cX4_quiet 70 = .ok (.invokevirtual 174, 3) := by decide +kernel
theorem dX4_quiet_73 : decode cX4_quiet 73 = .ok (.iinc 3 1, 3) := by decide +kernel
theorem dX4_quiet_76 : decode cX4_quiet 76 = .ok (.goto (-59), 3) := by decide +kernel
theorem dX4_quiet_79 : decode cX4_quiet 79 = .ok (.iload_n 2, 1) := by decide +kernel
theorem dX4_quiet_80 : decode cX4_quiet 80 = .ok (.ireturn, 1) := by decide +kernel
set_option maxRecDepth 20000 in
theorem ggX4_stop_X4_isGoing : GoodIn wsX4_stop wsX4_isGoing := goodIn_r _ [7, 8, 9, 85, 86, 87, 88, 89, 90, 91, 92, 93, 94, 101, 102, 103, 104, 105, 106, 107, 108, 109, 110, 111, 112, 113] (by decide +kernel) (by decide +kernel)
set_option maxRecDepth 20000 in
theorem gX4_stop_X4_isGoing : GoodIn wsX4_stop (wsV RX4 91 RX4 yX4_isGoing wsX4_isGoing) := goodIn_app (goodIn_of _ (by decide +kernel)) ggX4_stop_X4_isGoing
set_option maxRecDepth 20000 in
theorem ggX4_stop_X4_isEither : GoodIn wsX4_stop wsX4_isEither := goodIn_r _ [12] (by decide +kernel) (by decide +kernel)
set_option maxRecDepth 20000 in
theorem gX4_stop_X4_isEither : GoodIn wsX4_stop (va_wsS RX4 159 yX4_isEither wsX4_isEither) := goodIn_app (goodIn_of _ (by decide +kernel)) ggX4_stop_X4_isEither
set_option maxRecDepth 20000 in
theorem ggX4_stop_X4_hadAsItIs : GoodIn wsX4_stop wsX4_hadAsItIs := goodIn_r _ [16, 17, 1, 8, 18, 19, 20, 21, 22, 23, 24, 25, 26, 27, 28, 29, 30, 31, 32, 33, 34, 35, 36, 37, 38, 39, 40, 41, 42, 43, 44, 45, 46, 47, 48, 49, 50, 51, 52, 53, 54, 6, 55, 56, 57, 58, 59, 60, 61, 62, 63, 64, 65, 66, 67, 68, 69, 70, 71, 72, 73, 74, 75, 76, 85, 86, 87, 88, 89, 90, 91, 92, 93, 94, 95, 96, 97, 98, 99, 100, 101, 102, 103, 104, 105, 106, 107, 108, 109, 110, 111, 112, 113] (by decide +kernel) (by decide +kernel)
set_option maxRecDepth 20000 in
theorem gX4_stop_X4_hadAsItIs : GoodIn wsX4_stop (wsV RX4 183 RX4 yX4_hadAsItIs wsX4_hadAsItIs) := goodIn_app (goodIn_of _ (by decide +kernel)) ggX4_stop_X4_hadAsItIs
set_option maxRecDepth 20000 in
theorem ggX4_stop_X4_hadStopping : GoodIn wsX4_stop wsX4_hadStopping := goodIn_r _ [80, 17, 1, 8, 2, 18, 19, 20, 21, 22, 23, 24, 25, 26, 27, 28, 29, 30, 31, 32, 33, 34, 35, 36, 37, 38, 39, 40, 41, 42, 43, 44, 45, 46, 47, 48, 49, 50, 51, 52, 53, 54, 6, 55, 56, 57, 58, 59, 60, 61, 62, 63, 64, 65, 66, 67, 68, 69, 70, 71, 72, 73, 74, 75, 76, 81, 85, 86, 87, 88, 89, 90, 91, 92, 93, 94, 95, 96, 97, 98, 99, 100, 101, 102, 103, 104, 105, 106, 107, 108, 109, 110, 111, 112, 113] (by decide +kernel) (by decide +kernel)
set_option maxRecDepth 20000 in
theorem gX4_stop_X4_hadStopping : GoodIn wsX4_stop (wsV RX4 186 RX4 yX4_hadStopping wsX4_hadStopping) := goodIn_app (goodIn_of _ (by decide +kernel)) ggX4_stop_X4_hadStopping
set_option maxRecDepth 20000 in
theorem ggX4_stop_X4_whichOrHad : GoodIn wsX4_stop wsX4_whichOrHad := goodIn_r _ [84] (by decide +kernel) (by decide +kernel)
set_option maxRecDepth 20000 in
theorem gX4_stop_X4_whichOrHad : GoodIn wsX4_stop (va_wsS RX4 189 yX4_whichOrHad wsX4_whichOrHad) := goodIn_app (goodIn_of _ (by decide +kernel)) ggX4_stop_X4_whichOrHad
theorem dX4_stop_0 : decode cX4_stop 0 = .ok (.aload_n 0, 1) := by decide +kernel
theorem dX4_stop_1 : decode cX4_stop 1 = .ok (.iload_n 1, 1) := by decide +kernel
theorem dX4_stop_2 : decode cX4_stop 2 = .ok (.invokevirtual 91, 3) := by decide +kernel
theorem dX4_stop_5 : decode cX4_stop 5 = .ok (.ifCond .eq 10, 3) := by decide +kernel
theorem dX4_stop_8 : decode cX4_stop 8 = .ok (.iload_n 2, 1) := by decide +kernel
theorem dX4_stop_9 : decode cX4_stop 9 = .ok (.invokestatic 159, 3) := by decide +kernel
theorem dX4_stop_12 : decode cX4_stop 12 = .ok (.ifCond .ne 5, 3) := by decide +kernel
theorem dX4_stop_15 : decode cX4_stop 15 = .ok (.iconst (-1), 1) := by decide +kernel
theorem dX4_stop_16 : decode cX4_stop 16 = .ok (.ireturn, 1) := by decide +kernel
theorem dX4_stop_17 : decode cX4_stop 17 = .ok (.aload_n 0, 1) := by decide +kernel
theorem dX4_stop_18 : decode cX4_stop 18 = .ok (.getfield 29, 3) := by decide +kernel
theorem dX4_stop_21 : decode cX4_stop 21 = .ok (.getfield 106, 3) := by decide +kernel
theorem dX4_stop_24 : decode cX4_stop 24 = .ok (.iload_n 1, 1) := by decide +kernel
theorem dX4_stop_25 : decode cX4_stop 25 = .ok (.iaload, 1) := by decide +kernel
theorem dX4_stop_26 : decode cX4_stop 26 = .ok (.iconst 2, 1) := by decide +kernel
theorem dX4_stop_27 : decode cX4_stop 27 = .ok (.if_icmp .eq 16, 3) := by decide +kernel
theorem dX4_stop_30 : decode cX4_stop 30 = .ok (.aload_n 0, 1) := by decide +kernel
theorem dX4_stop_31 : decode cX4_stop 31 = .ok (.getfield 29, 3) := by decide +kernel
theorem dX4_stop_34 : decode cX4_stop 34 = .ok (.getfield 106, 3) := by decide +kernel
theorem dX4_stop_37 : decode cX4_stop 37 = .ok (.iload_n 1, 1) := by decide +kernel
theorem dX4_stop_38 : decode cX4_stop 38 = .ok (.iaload, 1) := by decide +kernel
theorem dX4_stop_39 : decode cX4_stop 39 = .ok (.iconst 3, 1) := by decide +kernel
theorem dX4_stop_40 : decode cX4_stop 40 = .ok (.if_icmp .ne 6, 3) := by decide +kernel
theorem dX4_stop_43 : decode cX4_stop 43 = .ok (.bipush (-2), 2) := by decide +kernel
theorem dX4_stop_45 : decode cX4_stop 45 = .ok (.ireturn, 1) := by decide +kernel
theorem dX4_stop_46 : decode cX4_stop 46 = .ok (.bipush (-4), 2) := by decide +kernel
theorem dX4_stop_48 : decode cX4_stop 48 = .ok (.istore_n 3, 1) := by decide +kernel
theorem dX4_stop_49 : decode cX4_stop 49 = .ok (.aload_n 0, 1) := by decide +kernel
theorem dX4_stop_50 : decode cX4_stop 50 = .ok (.invokevirtual 183, 3) := by decide +kernel
theorem dX4_stop_53 : decode cX4_stop 53 = .ok (.istore 4, 2) := by decide +kernel
theorem dX4_stop_55 : decode cX4_stop 55 = .ok (.iconst 0, 1) := by decide +kernel
theorem dX4_stop_56 : decode cX4_stop 56 = .ok (.istore 5, 2) := by decide +kernel
theorem dX4_stop_58 : decode cX4_stop 58 = .ok (.iload 5, 2) := by decide +kernel
theorem dX4_stop_60 : decode cX4_stop 60 = .ok (.bipush 40, 2) := by decide +kernel
theorem dX4_stop_62 : decode cX4_stop 62 = .ok (.if_icmp .gt 32, 3) := by decide +kernel
theorem dX4_stop_65 : decode cX4_stop 65 = .ok (.aload_n 0, 1) := by decide +kernel
theorem dX4_stop_66 : decode cX4_stop 66 = .ok (.iload_n 1, 1) := by decide +kernel
theorem dX4_stop_67 : decode cX4_stop 67 = .ok (.iload 5, 2) := by decide +kernel
theorem dX4_stop_69 : decode cX4_stop 69 = .ok (.invokevirtual 186, 3) := by decide +kernel
theorem dX4_stop_72 : decode cX4_stop 72 = .ok (.istore 6, 2) := by decide +kernel
theorem dX4_stop_74 : decode cX4_stop 74 = .ok (.iload 6, 2) := by decide +kernel
theorem dX4_stop_76 : decode cX4_stop 76 = .ok (.iload 4, 2) := by decide +kernel
theorem dX4_stop_78 : decode cX4_stop 78 = .ok (.if_icmp .le 10, 3) := by decide +kernel
theorem dX4_stop_81 : decode cX4_stop 81 = .ok (.iload 5, 2) := by decide +kernel
theorem dX4_stop_83 : decode cX4_stop 83 = .ok (.istore_n 3, 1) := by decide +kernel
theorem dX4_stop_84 : decode cX4_stop 84 = .ok (.iload 6, 2) := by decide +kernel
theorem dX4_stop_86 : decode cX4_stop 86 = .ok (.istore 4, 2) := by decide +kernel
theorem dX4_stop_88 : decode cX4_stop 88 = .ok (.iinc 5 1, 3) := by decide +kernel
theorem dX4_stop_91 : decode cX4_stop 91 = .ok (.goto (-33), 3) := by decide +kernel
theorem dX4_stop_94 : decode cX4_stop 94 = .ok (.iload_n 3, 1) := by decide +kernel
theorem dX4_stop_95 : decode cX4_stop 95 = .ok (.iload 4, 2) := by decide +kernel
theorem dX4_stop_97 : decode cX4_stop 97 = .ok (.iload_n 2, 1) := by decide +kernel
theorem dX4_stop_98 : decode cX4_stop 98 = .ok (.invokestatic 189, 3) := by decide +kernel
theorem dX4_stop_101 : decode cX4_stop 101 = .ok (.ireturn, 1) := by decide +kernel
set_option maxRecDepth 20000 in
theorem ggX4_best_X4_isEither : GoodIn wsX4_best wsX4_isEither := goodIn_r _ [8] (by decide +kernel) (by decide +kernel)
set_option maxRecDepth 20000 in
theorem gX4_best_X4_isEither : GoodIn wsX4_best (va_wsS RX4 159 yX4_isEither wsX4_isEither) := goodIn_app (goodIn_of _ (by decide +kernel)) ggX4_best_X4_isEither
set_option maxRecDepth 20000 in
theorem ggX4_best_X4_hadAsItIs : GoodIn wsX4_best wsX4_hadAsItIs := goodIn_r _ [12, 13, 4, 1, 14, 15, 16, 17, 18, 19, 20, 21, 22, 23, 24, 25, 26, 27, 28, 29, 30, 31, 32, 33, 34, 35, 36, 37, 38, 39, 40, 41, 42, 43, 44, 45, 46, 47, 48, 49, 50, 7, 51, 52, 53, 54, 55, 56, 57, 58, 59, 60, 61, 62, 63, 64, 65, 66, 67, 68, 69, 70, 71, 72, 86, 87, 88, 89, 90, 91, 92, 93, 94, 95, 109, 110, 111, 112, 113, 114, 96, 97, 98, 99, 100, 101, 102, 103, 104, 105, 106, 107, 108] (by decide +kernel) (by decide +kernel)
set_option maxRecDepth 20000 in
theorem gX4_best_X4_hadAsItIs : GoodIn wsX4_best (wsV RX4 183 RX4 yX4_hadAsItIs wsX4_hadAsItIs) := goodIn_app (goodIn_of _ (by decide +kernel)) ggX4_best_X4_hadAsItIs
set_option maxRecDepth 20000 in
theorem ggX4_best_X2_canPin : GoodIn wsX4_best wsX2_canPin := goodIn_r _ [76, 77, 47, 29, 22, 96, 97, 98, 99, 100, 101, 102, 103, 104, 105, 106, 107, 108, 109, 110, 111, 112, 113, 114] (by decide +kernel) (by decide +kernel)
set_option maxRecDepth 20000 in
theorem gX4_best_X2_canPin : GoodIn wsX4_best (wsV RX4 143 RX2 yX2_canPin wsX2_canPin) := goodIn_app (goodIn_of _ (by decide +kernel)) ggX4_best_X2_canPin
set_option maxRecDepth 20000 in
theorem ggX4_best_X4_hadPinning : GoodIn wsX4_best wsX4_hadPinning := goodIn_r _ [81, 13, 4, 1, 3, 14, 15, 16, 17, 18, 19, 20, 21, 22, 23, 24, 25, 26, 27, 28, 29, 82, 65, 66, 67, 68, 69, 70, 71, 72, 53, 54, 55, 30, 31, 32, 33, 34, 35, 36, 37, 38, 39, 40, 41, 42, 43, 44, 45, 46, 47, 48, 49, 50, 7, 51, 52, 56, 57, 58, 59, 60, 61, 62, 63, 64, 86, 87, 88, 89, 90, 91, 92, 93, 94, 95, 96, 97, 98, 99, 100, 101, 102, 103, 104, 105, 106, 107, 108, 109, 110, 111, 112, 113, 114] (by decide +kernel) (by decide +kernel)
set_option maxRecDepth 20000 in
theorem gX4_best_X4_hadPinning : GoodIn wsX4_best (wsV RX4 196 RX4 yX4_hadPinning wsX4_hadPinning) := goodIn_app (goodIn_of _ (by decide +kernel)) ggX4_best_X4_hadPinning
set_option maxRecDepth 20000 in
theorem ggX4_best_X4_whichOrHad : GoodIn wsX4_best wsX4_whichOrHad := goodIn_r _ [85] (by decide +kernel) (by decide +kernel)
set_option maxRecDepth 20000 in
theorem gX4_best_X4_whichOrHad : GoodIn wsX4_best (va_wsS RX4 189 yX4_whichOrHad wsX4_whichOrHad) := goodIn_app (goodIn_of _ (by decide +kernel)) ggX4_best_X4_whichOrHad
theorem dX4_best_0 : decode cX4_best 0 = .ok (.iload_n 1, 1) := by decide +kernel
theorem dX4_best_1 : decode cX4_best 1 = .ok (.invokestatic 159, 3) := by decide +kernel
theorem dX4_best_4 : decode cX4_best 4 = .ok (.ifCond .ne 5, 3) := by decide +kernel
theorem dX4_best_7 : decode cX4_best 7 = .ok (.iconst (-1), 1) := by decide +kernel
theorem dX4_best_8 : decode cX4_best 8 = .ok (.ireturn, 1) := by decide +kernel
theorem dX4_best_9 : decode cX4_best 9 = .ok (.bipush (-4), 2) := by decide +kernel
theorem dX4_best_11 : decode cX4_best 11 = .ok (.istore_n 2, 1) := by decide +kernel
theorem dX4_best_12 : decode cX4_best 12 = .ok (.aload_n 0, 1) := by decide +kernel
theorem dX4_best_13 : decode cX4_best 13 = .ok (.invokevirtual 183, 3) := by decide +kernel
theorem dX4_best_16 : decode cX4_best 16 = .ok (.istore_n 3, 1) := by decide +kernel
theorem dX4_best_17 : decode cX4_best 17 = .ok (.iconst 0, 1) := by decide +kernel
theorem dX4_best_18 : decode cX4_best 18 = .ok (.istore 4, 2) := by decide +kernel
theorem dX4_best_20 : decode cX4_best 20 = .ok (.iload 4, 2) := by decide +kernel
theorem dX4_best_22 : decode cX4_best 22 = .ok (.aload_n 0, 1) := by decide +kernel
theorem dX4_best_23 : decode cX4_best 23 = .ok (.getfield 19, 3) := by decide +kernel
theorem dX4_best_26 : decode cX4_best 26 = .ok (.getfield 193, 3) := by decide +kernel
theorem dX4_best_29 : decode cX4_best 29 = .ok (.if_icmp .ge 80, 3) := by decide +kernel
theorem dX4_best_32 : decode cX4_best 32 = .ok (.iconst 0, 1) := by decide +kernel
theorem dX4_best_33 : decode cX4_best 33 = .ok (.istore 5, 2) := by decide +kernel
theorem dX4_best_35 : decode cX4_best 35 = .ok (.iload 5, 2) := by decide +kernel
theorem dX4_best_37 : decode cX4_best 37 = .ok (.aload_n 0, 1) := by decide +kernel
theorem dX4_best_38 : decode cX4_best 38 = .ok (.getfield 19, 3) := by decide +kernel
theorem dX4_best_41 : decode cX4_best 41 = .ok (.getfield 82, 3) := by decide +kernel
theorem dX4_best_44 : decode cX4_best 44 = .ok (.if_icmp .ge 59, 3) := by decide +kernel
theorem dX4_best_47 : decode cX4_best 47 = .ok (.aload_n 0, 1) := by decide +kernel
theorem dX4_best_48 : decode cX4_best 48 = .ok (.getfield 29, 3) := by decide +kernel
theorem dX4_best_51 : decode cX4_best 51 = .ok (.aload_n 0, 1) := by decide +kernel
theorem dX4_best_52 : decode cX4_best 52 = .ok (.getfield 19, 3) := by decide +kernel
theorem dX4_best_55 : decode cX4_best 55 = .ok (.iload 4, 2) := by decide +kernel
theorem dX4_best_57 : decode cX4_best 57 = .ok (.iload 5, 2) := by decide +kernel
theorem dX4_best_59 : decode cX4_best 59 = .ok (.invokevirtual 143, 3) := by decide +kernel
theorem dX4_best_62 : decode cX4_best 62 = .ok (.ifCond .eq 14, 3) := by decide +kernel
theorem dX4_best_65 : decode cX4_best 65 = .ok (.aload_n 0, 1) := by decide +kernel
theorem dX4_best_66 : decode cX4_best 66 = .ok (.iconst 1, 1) := by decide +kernel
theorem dX4_best_67 : decode cX4_best 67 = .ok (.iload 5, 2) := by decide +kernel
theorem dX4_best_69 : decode cX4_best 69 = .ok (.ishl, 1) := by decide +kernel
theorem dX4_best_70 : decode cX4_best 70 = .ok (.invokevirtual 196, 3) := by decide +kernel
theorem dX4_best_73 : decode cX4_best 73 = .ok (.goto 4, 3) := by decide +kernel
theorem dX4_best_76 : decode cX4_best 76 = .ok (.iload_n 3, 1) := by decide +kernel
theorem dX4_best_77 : decode cX4_best 77 = .ok (.istore 6, 2) := by decide +kernel
theorem dX4_best_79 : decode cX4_best 79 = .ok (.iload 6, 2) := by decide +kernel
theorem dX4_best_81 : decode cX4_best 81 = .ok (.iload_n 3, 1) := by decide +kernel
theorem dX4_best_82 : decode cX4_best 82 = .ok (.if_icmp .le 15, 3) := by decide +kernel
theorem dX4_best_85 : decode cX4_best 85 = .ok (.bipush 10, 2) := by decide +kernel
theorem dX4_best_87 : decode cX4_best 87 = .ok (.iload 4, 2) := by decide +kernel
theorem dX4_best_89 : decode cX4_best 89 = .ok (.imul, 1) := by decide +kernel
theorem dX4_best_90 : decode cX4_best 90 = .ok (.iload 5, 2) := by decide +kernel
theorem dX4_best_92 : decode cX4_best 92 = .ok (.iadd, 1) := by decide +kernel
theorem dX4_best_93 : decode cX4_best 93 = .ok (.istore_n 2, 1) := by decide +kernel
theorem dX4_best_94 : decode cX4_best 94 = .ok (.iload 6, 2) := by decide +kernel
theorem dX4_best_96 : decode cX4_best 96 = .ok (.istore_n 3, 1) := by decide +kernel
theorem dX4_best_97 : decode cX4_best 97 = .ok (.iinc 5 1, 3) := by decide +kernel
theorem dX4_best_100 : decode cX4_best 100 = .ok (.goto (-65), 3) := by decide +kernel
theorem dX4_best_103 : decode cX4_best 103 = .ok (.iinc 4 1, 3) := by decide +kernel
theorem dX4_best_106 : decode cX4_best 106 = .ok (.goto (-86), 3) := by decide +kernel
theorem dX4_best_109 : decode cX4_best 109 = .ok (.iload_n 2, 1) := by decide +kernel
theorem dX4_best_110 : decode cX4_best 110 = .ok (.iload_n 3, 1) := by decide +kernel
theorem dX4_best_111 : decode cX4_best 111 = .ok (.iload_n 1, 1) := by decide +kernel
theorem dX4_best_112 : decode cX4_best 112 = .ok (.invokestatic 189, 3) := by decide +kernel
theorem dX4_best_115 : decode cX4_best 115 = .ok (.ireturn, 1) := by decide +kernel
set_option maxRecDepth 20000 in
theorem ggX4_both_X4_isEither : GoodIn wsX4_both wsX4_isEither := goodIn_r _ [8] (by decide +kernel) (by decide +kernel)
set_option maxRecDepth 20000 in
theorem gX4_both_X4_isEither : GoodIn wsX4_both (va_wsS RX4 159 yX4_isEither wsX4_isEither) := goodIn_app (goodIn_of _ (by decide +kernel)) ggX4_both_X4_isEither
set_option maxRecDepth 20000 in
theorem ggX4_both_X4_hadPinning : GoodIn wsX4_both wsX4_hadPinning := goodIn_r _ [12, 13, 3, 1, 2, 14, 15, 16, 17, 18, 19, 20, 21, 22, 23, 24, 25, 26, 27, 28, 29, 30, 31, 32, 33, 34, 35, 36, 37, 38, 39, 40, 41, 42, 43, 44, 45, 46, 47, 48, 49, 50, 51, 52, 53, 54, 55, 56, 57, 58, 59, 60, 61, 62, 7, 63, 64, 65, 66, 67, 68, 69, 70, 71, 72, 73, 77, 78, 79, 80, 81, 82, 83, 84, 85, 86, 87, 88, 89, 90, 91, 92, 93, 94, 95, 96, 97, 98, 99, 100, 101, 102, 103, 104, 105] (by decide +kernel) (by decide +kernel)
set_option maxRecDepth 20000 in
theorem gX4_both_X4_hadPinning : GoodIn wsX4_both (wsV RX4 196 RX4 yX4_hadPinning wsX4_hadPinning) := goodIn_app (goodIn_of _ (by decide +kernel)) ggX4_both_X4_hadPinning
set_option maxRecDepth 20000 in
theorem ggX4_both_X4_whichOrHad : GoodIn wsX4_both wsX4_whichOrHad := goodIn_r _ [76] (by decide +kernel) (by decide +kernel)
set_option maxRecDepth 20000 in
theorem gX4_both_X4_whichOrHad : GoodIn wsX4_both (va_wsS RX4 189 yX4_whichOrHad wsX4_whichOrHad) := goodIn_app (goodIn_of _ (by decide +kernel)) ggX4_both_X4_whichOrHad
theorem dX4_both_0 : decode cX4_both 0 = .ok (.iload_n 1, 1) := by decide +kernel
theorem dX4_both_1 : decode cX4_both 1 = .ok (.invokestatic 159, 3) := by decide +kernel
theorem dX4_both_4 : decode cX4_both 4 = .ok (.ifCond .ne 5, 3) := by decide +kernel
theorem dX4_both_7 : decode cX4_both 7 = .ok (.iconst (-1), 1) := by decide +kernel
theorem dX4_both_8 : decode cX4_both 8 = .ok (.ireturn, 1) := by decide +kernel
theorem dX4_both_9 : decode cX4_both 9 = .ok (.bipush (-4), 2) := by decide +kernel
theorem dX4_both_11 : decode cX4_both 11 = .ok (.istore_n 2, 1) := by decide +kernel
theorem dX4_both_12 : decode cX4_both 12 = .ok (.iconst 0, 1) := by decide +kernel
theorem dX4_both_13 : decode cX4_both 13 = .ok (.istore_n 3, 1) := by decide +kernel
theorem dX4_both_14 : decode cX4_both 14 = .ok (.iconst 0, 1) := by decide +kernel
theorem dX4_both_15 : decode cX4_both 15 = .ok (.istore 4, 2) := by decide +kernel
theorem dX4_both_17 : decode cX4_both 17 = .ok (.iload 4, 2) := by decide +kernel
theorem dX4_both_19 : decode cX4_both 19 = .ok (.aload_n 0, 1) := by decide +kernel
theorem dX4_both_20 : decode cX4_both 20 = .ok (.getfield 19, 3) := by decide +kernel
theorem dX4_both_23 : decode cX4_both 23 = .ok (.getfield 82, 3) := by decide +kernel
theorem dX4_both_26 : decode cX4_both 26 = .ok (.if_icmp .ge 103, 3) := by decide +kernel
theorem dX4_both_29 : decode cX4_both 29 = .ok (.iload 4, 2) := by decide +kernel
theorem dX4_both_31 : decode cX4_both 31 = .ok (.iconst 1, 1) := by decide +kernel
theorem dX4_both_32 : decode cX4_both 32 = .ok (.iadd, 1) := by decide +kernel
theorem dX4_both_33 : decode cX4_both 33 = .ok (.istore 5, 2) := by decide +kernel
theorem dX4_both_35 : decode cX4_both 35 = .ok (.iload 5, 2) := by decide +kernel
theorem dX4_both_37 : decode cX4_both 37 = .ok (.aload_n 0, 1) := by decide +kernel
theorem dX4_both_38 : decode cX4_both 38 = .ok (.getfield 19, 3) := by decide +kernel
theorem dX4_both_41 : decode cX4_both 41 = .ok (.getfield 82, 3) := by decide +kernel
theorem dX4_both_44 : decode cX4_both 44 = .ok (.if_icmp .ge 79, 3) := by decide +kernel
theorem dX4_both_47 : decode cX4_both 47 = .ok (.aload_n 0, 1) := by decide +kernel
theorem dX4_both_48 : decode cX4_both 48 = .ok (.getfield 29, 3) := by decide +kernel
theorem dX4_both_51 : decode cX4_both 51 = .ok (.getfield 106, 3) := by decide +kernel
theorem dX4_both_54 : decode cX4_both 54 = .ok (.iload 4, 2) := by decide +kernel
theorem dX4_both_56 : decode cX4_both 56 = .ok (.iaload, 1) := by decide +kernel
theorem dX4_both_57 : decode cX4_both 57 = .ok (.iconst 1, 1) := by decide +kernel
theorem dX4_both_58 : decode cX4_both 58 = .ok (.if_icmp .ne 59, 3) := by decide +kernel
theorem dX4_both_61 : decode cX4_both 61 = .ok (.aload_n 0, 1) := by decide +kernel
theorem dX4_both_62 : decode cX4_both 62 = .ok (.getfield 29, 3) := by decide +kernel
theorem dX4_both_65 : decode cX4_both 65 = .ok (.getfield 106, 3) := by decide +kernel
theorem dX4_both_68 : decode cX4_both 68 = .ok (.iload 5, 2) := by decide +kernel
theorem dX4_both_70 : decode cX4_both 70 = .ok (.iaload, 1) := by decide +kernel
theorem dX4_both_71 : decode cX4_both 71 = .ok (.iconst 1, 1) := by decide +kernel
theorem dX4_both_72 : decode cX4_both 72 = .ok (.if_icmp .eq 6, 3) := by decide +kernel
theorem dX4_both_75 : decode cX4_both 75 = .ok (.goto 42, 3) := by decide +kernel
theorem dX4_both_78 : decode cX4_both 78 = .ok (.aload_n 0, 1) := by decide +kernel
theorem dX4_both_79 : decode cX4_both 79 = .ok (.iconst 1, 1) := by decide +kernel
theorem dX4_both_80 : decode cX4_both 80 = .ok (.iload 4, 2) := by decide +kernel
theorem dX4_both_82 : decode cX4_both 82 = .ok (.ishl, 1) := by decide +kernel
theorem dX4_both_83 : decode cX4_both 83 = .ok (.iconst 1, 1) := by decide +kernel
theorem dX4_both_84 : decode cX4_both 84 = .ok (.iload 5, 2) := by decide +kernel
theorem dX4_both_86 : decode cX4_both 86 = .ok (.ishl, 1) := by decide +kernel
theorem dX4_both_87 : decode cX4_both 87 = .ok (.ior, 1) := by decide +kernel
theorem dX4_both_88 : decode cX4_both 88 = .ok (.invokevirtual 196, 3) := by decide +kernel
theorem dX4_both_91 : decode cX4_both 91 = .ok (.istore 6, 2) := by decide +kernel
theorem dX4_both_93 : decode cX4_both 93 = .ok (.iload_n 2, 1) := by decide +kernel
theorem dX4_both_94 : decode cX4_both 94 = .ok (.bipush (-4), 2) := by decide +kernel
theorem dX4_both_96 : decode cX4_both 96 = .ok (.if_icmp .eq 9, 3) := by decide +kernel
theorem dX4_both_99 : decode cX4_both 99 = .ok (.iload 6, 2) := by decide +kernel
theorem dX4_both_101 : decode cX4_both 101 = .ok (.iload_n 3, 1) := by decide +kernel
theorem dX4_both_102 : decode cX4_both 102 = .ok (.if_icmp .le 15, 3) := by decide +kernel
theorem dX4_both_105 : decode cX4_both 105 = .ok (.bipush 10, 2) := by decide +kernel
theorem dX4_both_107 : decode cX4_both 107 = .ok (.iload 4, 2) := by decide +kernel
theorem dX4_both_109 : decode cX4_both 109 = .ok (.imul, 1) := by decide +kernel
theorem dX4_both_110 : decode cX4_both 110 = .ok (.iload 5, 2) := by decide +kernel
theorem dX4_both_112 : decode cX4_both 112 = .ok (.iadd, 1) := by decide +kernel
theorem dX4_both_113 : decode cX4_both 113 = .ok (.istore_n 2, 1) := by decide +kernel
theorem dX4_both_114 : decode cX4_both 114 = .ok (.iload 6, 2) := by decide +kernel
theorem dX4_both_116 : decode cX4_both 116 = .ok (.istore_n 3, 1) := by decide +kernel
theorem dX4_both_117 : decode cX4_both 117 = .ok (.iinc 5 1, 3) := by decide +kernel
theorem dX4_both_120 : decode cX4_both 120 = .ok (.goto (-85), 3) := by decide +kernel
theorem dX4_both_123 : decode cX4_both 123 = .ok (.iinc 4 1, 3) := by decide +kernel
theorem dX4_both_126 : decode cX4_both 126 = .ok (.goto (-109), 3) := by decide +kernel
theorem dX4_both_129 : decode cX4_both 129 = .ok (.iload_n 2, 1) := by decide +kernel
theorem dX4_both_130 : decode cX4_both 130 = .ok (.iload_n 3, 1) := by decide +kernel
theorem dX4_both_131 : decode cX4_both 131 = .ok (.iload_n 1, 1) := by decide +kernel
theorem dX4_both_132 : decode cX4_both 132 = .ok (.invokestatic 189, 3) := by decide +kernel
theorem dX4_both_135 : decode cX4_both 135 = .ok (.ireturn, 1) := by decide +kernel
set_option maxRecDepth 20000 in
theorem ggX4_never_X4_isEither : GoodIn wsX4_never wsX4_isEither := goodIn_r _ [8] (by decide +kernel) (by decide +kernel)
set_option maxRecDepth 20000 in
theorem gX4_never_X4_isEither : GoodIn wsX4_never (va_wsS RX4 159 yX4_isEither wsX4_isEither) := goodIn_app (goodIn_of _ (by decide +kernel)) ggX4_never_X4_isEither
set_option maxRecDepth 20000 in
theorem ggX4_never_X4_hadAsItIs : GoodIn wsX4_never wsX4_hadAsItIs := goodIn_r _ [12, 13, 3, 1, 14, 15, 16, 17, 18, 19, 20, 21, 22, 23, 24, 25, 26, 27, 28, 29, 30, 31, 32, 33, 34, 35, 36, 37, 38, 39, 40, 41, 42, 43, 44, 45, 46, 47, 48, 49, 50, 7, 51, 52, 53, 54, 55, 56, 57, 58, 59, 60, 61, 62, 63, 64, 65, 66, 67, 68, 69, 70, 71, 72, 80, 81, 82, 83, 84, 85, 86, 87, 88, 89, 103, 104, 105, 106, 107, 108, 90, 91, 92, 93, 94, 95, 96, 97, 98, 99, 100, 101, 102] (by decide +kernel) (by decide +kernel)
set_option maxRecDepth 20000 in
theorem gX4_never_X4_hadAsItIs : GoodIn wsX4_never (wsV RX4 183 RX4 yX4_hadAsItIs wsX4_hadAsItIs) := goodIn_app (goodIn_of _ (by decide +kernel)) ggX4_never_X4_hadAsItIs
set_option maxRecDepth 20000 in
theorem ggX4_never_X4_hadWithout : GoodIn wsX4_never wsX4_hadWithout := goodIn_r _ [76, 13, 3, 4, 1, 14, 15, 16, 17, 18, 19, 20, 21, 22, 23, 24, 25, 26, 27, 28, 29, 30, 31, 32, 33, 34, 35, 36, 37, 38, 39, 40, 41, 42, 43, 44, 45, 46, 47, 48, 49, 50, 7, 51, 52, 53, 54, 55, 56, 57, 58, 59, 60, 61, 62, 63, 64, 65, 66, 67, 68, 69, 70, 71, 72, 80, 81, 82, 83, 84, 85, 86, 87, 88, 89, 103, 104, 105, 106, 107, 108, 90, 91, 92, 93, 94, 95, 96, 97, 98, 99, 100, 101, 102] (by decide +kernel) (by decide +kernel)
set_option maxRecDepth 20000 in
theorem gX4_never_X4_hadWithout : GoodIn wsX4_never (wsV RX4 199 RX4 yX4_hadWithout wsX4_hadWithout) := goodIn_app (goodIn_of _ (by decide +kernel)) ggX4_never_X4_hadWithout
set_option maxRecDepth 20000 in
theorem ggX4_never_X4_whichOrHad : GoodIn wsX4_never wsX4_whichOrHad := goodIn_r _ [79] (by decide +kernel) (by decide +kernel)
set_option maxRecDepth 20000 in
theorem gX4_never_X4_whichOrHad : GoodIn wsX4_never (va_wsS RX4 189 yX4_whichOrHad wsX4_whichOrHad) := goodIn_app (goodIn_of _ (by decide +kernel)) ggX4_never_X4_whichOrHad
theorem dX4_never_0 : decode cX4_never 0 = .ok (.iload_n 1, 1) := by decide +kernel
theorem dX4_never_1 : decode cX4_never 1 = .ok (.invokestatic 159, 3) := by decide +kernel
theorem dX4_never_4 : decode cX4_never 4 = .ok (.ifCond .ne 5, 3) := by decide +kernel
theorem dX4_never_7 : decode cX4_never 7 = .ok (.iconst (-1), 1) := by decide +kernel
theorem dX4_never_8 : decode cX4_never 8 = .ok (.ireturn, 1) := by decide +kernel
theorem dX4_never_9 : decode cX4_never 9 = .ok (.bipush (-4), 2) := by decide +kernel
theorem dX4_never_11 : decode cX4_never 11 = .ok (.istore_n 2, 1) := by decide +kernel
theorem dX4_never_12 : decode cX4_never 12 = .ok (.aload_n 0, 1) := by decide +kernel
theorem dX4_never_13 : decode cX4_never 13 = .ok (.invokevirtual 183, 3) := by decide +kernel
theorem dX4_never_16 : decode cX4_never 16 = .ok (.istore_n 3, 1) := by decide +kernel
theorem dX4_never_17 : decode cX4_never 17 = .ok (.iconst 0, 1) := by decide +kernel
theorem dX4_never_18 : decode cX4_never 18 = .ok (.istore 4, 2) := by decide +kernel
theorem dX4_never_20 : decode cX4_never 20 = .ok (.iload 4, 2) := by decide +kernel
theorem dX4_never_22 : decode cX4_never 22 = .ok (.aload_n 0, 1) := by decide +kernel
theorem dX4_never_23 : decode cX4_never 23 = .ok (.getfield 19, 3) := by decide +kernel
theorem dX4_never_26 : decode cX4_never 26 = .ok (.getfield 82, 3) := by decide +kernel
theorem dX4_never_29 : decode cX4_never 29 = .ok (.if_icmp .ge 46, 3) := by decide +kernel
theorem dX4_never_32 : decode cX4_never 32 = .ok (.aload_n 0, 1) := by decide +kernel
theorem dX4_never_33 : decode cX4_never 33 = .ok (.getfield 29, 3) := by decide +kernel
theorem dX4_never_36 : decode cX4_never 36 = .ok (.getfield 106, 3) := by decide +kernel
theorem dX4_never_39 : decode cX4_never 39 = .ok (.iload 4, 2) := by decide +kernel
theorem dX4_never_41 : decode cX4_never 41 = .ok (.iaload, 1) := by decide +kernel
theorem dX4_never_42 : decode cX4_never 42 = .ok (.ifCond .ne 12, 3) := by decide +kernel
theorem dX4_never_45 : decode cX4_never 45 = .ok (.aload_n 0, 1) := by decide +kernel
theorem dX4_never_46 : decode cX4_never 46 = .ok (.iload 4, 2) := by decide +kernel
theorem dX4_never_48 : decode cX4_never 48 = .ok (.invokevirtual 199, 3) := by decide +kernel
theorem dX4_never_51 : decode cX4_never 51 = .ok (.goto 4, 3) := by decide +kernel
theorem dX4_never_54 : decode cX4_never 54 = .ok (.iload_n 3, 1) := by decide +kernel
theorem dX4_never_55 : decode cX4_never 55 = .ok (.istore 5, 2) := by decide +kernel
theorem dX4_never_57 : decode cX4_never 57 = .ok (.iload 5, 2) := by decide +kernel
theorem dX4_never_59 : decode cX4_never 59 = .ok (.iload_n 3, 1) := by decide +kernel
theorem dX4_never_60 : decode cX4_never 60 = .ok (.if_icmp .le 9, 3) := by decide +kernel
theorem dX4_never_63 : decode cX4_never 63 = .ok (.iload 4, 2) := by decide +kernel
theorem dX4_never_65 : decode cX4_never 65 = .ok (.istore_n 2, 1) := by decide +kernel
theorem dX4_never_66 : decode cX4_never 66 = .ok (.iload 5, 2) := by decide +kernel
theorem dX4_never_68 : decode cX4_never 68 = .ok (.istore_n 3, 1) := by decide +kernel
theorem dX4_never_69 : decode cX4_never 69 = .ok (.iinc 4 1, 3) := by decide +kernel
theorem dX4_never_72 : decode cX4_never 72 = .ok (.goto (-52), 3) := by decide +kernel
theorem dX4_never_75 : decode cX4_never 75 = .ok (.iload_n 2, 1) := by decide +kernel
theorem dX4_never_76 : decode cX4_never 76 = .ok (.iload_n 3, 1) := by decide +kernel
theorem dX4_never_77 : decode cX4_never 77 = .ok (.iload_n 1, 1) := by decide +kernel
theorem dX4_never_78 : decode cX4_never 78 = .ok (.invokestatic 189, 3) := by decide +kernel
theorem dX4_never_81 : decode cX4_never 81 = .ok (.ireturn, 1) := by decide +kernel
theorem dX4_note_0 : decode cX4_note 0 = .ok (.iload_n 1, 1) := by decide +kernel
theorem dX4_note_1 : decode cX4_note 1 = .ok (.ifCond .lt 21, 3) := by decide +kernel
theorem dX4_note_4 : decode cX4_note 4 = .ok (.iload_n 1, 1) := by decide +kernel
theorem dX4_note_5 : decode cX4_note 5 = .ok (.bipush 39, 2) := by decide +kernel
theorem dX4_note_7 : decode cX4_note 7 = .ok (.if_icmp .gt 15, 3) := by decide +kernel
theorem dX4_note_10 : decode cX4_note 10 = .ok (.iload_n 2, 1) := by decide +kernel
theorem dX4_note_11 : decode cX4_note 11 = .ok (.bipush (-20), 2) := by decide +kernel
theorem dX4_note_13 : decode cX4_note 13 = .ok (.if_icmp .lt 9, 3) := by decide +kernel
theorem dX4_note_16 : decode cX4_note 16 = .ok (.iload_n 2, 1) := by decide +kernel
theorem dX4_note_17 : decode cX4_note 17 = .ok (.bipush 20, 2) := by decide +kernel
theorem dX4_note_19 : decode cX4_note 19 = .ok (.if_icmp .le 5, 3) := by decide +kernel
theorem dX4_note_22 : decode cX4_note 22 = .ok (.iconst (-1), 1) := by decide +kernel
theorem dX4_note_23 : decode cX4_note 23 = .ok (.ireturn, 1) := by decide +kernel
theorem dX4_note_24 : decode cX4_note 24 = .ok (.aload_n 0, 1) := by decide +kernel
theorem dX4_note_25 : decode cX4_note 25 = .ok (.getfield 88, 3) := by decide +kernel
theorem dX4_note_28 : decode cX4_note 28 = .ok (.bipush 8, 2) := by decide +kernel
theorem dX4_note_30 : decode cX4_note 30 = .ok (.if_icmp .lt 6, 3) := by decide +kernel
theorem dX4_note_33 : decode cX4_note 33 = .ok (.bipush (-3), 2) := by decide +kernel
theorem dX4_note_35 : decode cX4_note 35 = .ok (.ireturn, 1) := by decide +kernel
theorem dX4_note_36 : decode cX4_note 36 = .ok (.aload_n 0, 1) := by decide +kernel
theorem dX4_note_37 : decode cX4_note 37 = .ok (.getfield 48, 3) := by decide +kernel
theorem dX4_note_40 : decode cX4_note 40 = .ok (.aload_n 0, 1) := by decide +kernel
theorem dX4_note_41 : decode cX4_note 41 = .ok (.getfield 88, 3) := by decide +kernel
theorem dX4_note_44 : decode cX4_note 44 = .ok (.iload_n 1, 1) := by decide +kernel
theorem dX4_note_45 : decode cX4_note 45 = .ok (.iastore, 1) := by decide +kernel
theorem dX4_note_46 : decode cX4_note 46 = .ok (.aload_n 0, 1) := by decide +kernel
theorem dX4_note_47 : decode cX4_note 47 = .ok (.getfield 52, 3) := by decide +kernel
theorem dX4_note_50 : decode cX4_note 50 = .ok (.aload_n 0, 1) := by decide +kernel
theorem dX4_note_51 : decode cX4_note 51 = .ok (.getfield 88, 3) := by decide +kernel
theorem dX4_note_54 : decode cX4_note 54 = .ok (.iload_n 2, 1) := by decide +kernel
theorem dX4_note_55 : decode cX4_note 55 = .ok (.iastore, 1) := by decide +kernel
theorem dX4_note_56 : decode cX4_note 56 = .ok (.aload_n 0, 1) := by decide +kernel
theorem dX4_note_57 : decode cX4_note 57 = .ok (.dup, 1) := by decide +kernel
theorem dX4_note_58 : decode cX4_note 58 = .ok (.getfield 88, 3) := by decide +kernel
theorem dX4_note_61 : decode cX4_note 61 = .ok (.iconst 1, 1) := by decide +kernel
theorem dX4_note_62 : decode cX4_note 62 = .ok (.iadd, 1) := by decide +kernel
theorem dX4_note_63 : decode cX4_note 63 = .ok (.putfield 88, 3) := by decide +kernel
theorem dX4_note_66 : decode cX4_note 66 = .ok (.aload_n 0, 1) := by decide +kernel
theorem dX4_note_67 : decode cX4_note 67 = .ok (.getfield 88, 3) := by decide +kernel
theorem dX4_note_70 : decode cX4_note 70 = .ok (.ireturn, 1) := by decide +kernel
theorem dX4_forget_0 : decode cX4_forget 0 = .ok (.aload_n 0, 1) := by decide +kernel
theorem dX4_forget_1 : decode cX4_forget 1 = .ok (.getfield 88, 3) := by decide +kernel
theorem dX4_forget_4 : decode cX4_forget 4 = .ok (.istore_n 1, 1) := by decide +kernel
theorem dX4_forget_5 : decode cX4_forget 5 = .ok (.aload_n 0, 1) := by decide +kernel
theorem dX4_forget_6 : decode cX4_forget 6 = .ok (.iconst 0, 1) := by decide +kernel
theorem dX4_forget_7 : decode cX4_forget 7 = .ok (.putfield 88, 3) := by decide +kernel
theorem dX4_forget_10 : decode cX4_forget 10 = .ok (.iload_n 1, 1) := by decide +kernel
theorem dX4_forget_11 : decode cX4_forget 11 = .ok (.ireturn, 1) := by decide +kernel
set_option maxRecDepth 20000 in
theorem ggX4_waning_X4_isEither : GoodIn wsX4_waning wsX4_isEither := goodIn_r _ [4] (by decide +kernel) (by decide +kernel)
set_option maxRecDepth 20000 in
theorem gX4_waning_X4_isEither : GoodIn wsX4_waning (va_wsS RX4 159 yX4_isEither wsX4_isEither) := goodIn_app (goodIn_of _ (by decide +kernel)) ggX4_waning_X4_isEither
set_option maxRecDepth 20000 in
theorem ggX4_waning_X4_allNotedSo : GoodIn wsX4_waning wsX4_allNotedSo := goodIn_r _ [8, 9, 10, 11, 12, 13, 3, 14, 15, 16, 17, 18, 19, 20, 21, 22, 23, 24, 25, 26, 27, 28, 29, 30, 31] (by decide +kernel) (by decide +kernel)
set_option maxRecDepth 20000 in
theorem gX4_waning_X4_allNotedSo : GoodIn wsX4_waning (wsV RX4 202 RX4 yX4_allNotedSo wsX4_allNotedSo) := goodIn_app (goodIn_of _ (by decide +kernel)) ggX4_waning_X4_allNotedSo
theorem dX4_waning_0 : decode cX4_waning 0 = .ok (.iload_n 1, 1) := by decide +kernel
theorem dX4_waning_1 : decode cX4_waning 1 = .ok (.invokestatic 159, 3) := by decide +kernel
theorem dX4_waning_4 : decode cX4_waning 4 = .ok (.ifCond .ne 5, 3) := by decide +kernel
theorem dX4_waning_7 : decode cX4_waning 7 = .ok (.iconst (-1), 1) := by decide +kernel
theorem dX4_waning_8 : decode cX4_waning 8 = .ok (.ireturn, 1) := by decide +kernel
theorem dX4_waning_9 : decode cX4_waning 9 = .ok (.iconst 0, 1) := by decide +kernel
theorem dX4_waning_10 : decode cX4_waning 10 = .ok (.istore_n 2, 1) := by decide +kernel
theorem dX4_waning_11 : decode cX4_waning 11 = .ok (.bipush (-4), 2) := by decide +kernel
theorem dX4_waning_13 : decode cX4_waning 13 = .ok (.istore_n 3, 1) := by decide +kernel
theorem dX4_waning_14 : decode cX4_waning 14 = .ok (.iconst 0, 1) := by decide +kernel
theorem dX4_waning_15 : decode cX4_waning 15 = .ok (.istore 4, 2) := by decide +kernel
theorem dX4_waning_17 : decode cX4_waning 17 = .ok (.iload 4, 2) := by decide +kernel
theorem dX4_waning_19 : decode cX4_waning 19 = .ok (.bipush 20, 2) := by decide +kernel
theorem dX4_waning_21 : decode cX4_waning 21 = .ok (.if_icmp .gt 56, 3) := by decide +kernel
theorem dX4_waning_24 : decode cX4_waning 24 = .ok (.iconst 0, 1) := by decide +kernel
theorem dX4_waning_25 : decode cX4_waning 25 = .ok (.istore 5, 2) := by decide +kernel
theorem dX4_waning_27 : decode cX4_waning 27 = .ok (.iload 5, 2) := by decide +kernel
theorem dX4_waning_29 : decode cX4_waning 29 = .ok (.iconst 5, 1) := by decide +kernel
theorem dX4_waning_30 : decode cX4_waning 30 = .ok (.if_icmp .gt 41, 3) := by decide +kernel
theorem dX4_waning_33 : decode cX4_waning 33 = .ok (.aload_n 0, 1) := by decide +kernel
theorem dX4_waning_34 : decode cX4_waning 34 = .ok (.iconst 0, 1) := by decide +kernel
theorem dX4_waning_35 : decode cX4_waning 35 = .ok (.iload 4, 2) := by decide +kernel
theorem dX4_waning_37 : decode cX4_waning 37 = .ok (.iload 5, 2) := by decide +kernel
theorem dX4_waning_39 : decode cX4_waning 39 = .ok (.invokevirtual 202, 3) := by decide +kernel
theorem dX4_waning_42 : decode cX4_waning 42 = .ok (.ifCond .eq 23, 3) := by decide +kernel
theorem dX4_waning_45 : decode cX4_waning 45 = .ok (.iload_n 2, 1) := by decide +kernel
theorem dX4_waning_46 : decode cX4_waning 46 = .ok (.ifCond .ne 14, 3) := by decide +kernel
theorem dX4_waning_49 : decode cX4_waning 49 = .ok (.bipush 10, 2) := by decide +kernel
theorem dX4_waning_51 : decode cX4_waning 51 = .ok (.iload 4, 2) := by decide +kernel
theorem dX4_waning_53 : decode cX4_waning 53 = .ok (.imul, 1) := by decide +kernel
theorem dX4_waning_54 : decode cX4_waning 54 = .ok (.iload 5, 2) := by decide +kernel
theorem dX4_waning_56 : decode cX4_waning 56 = .ok (.iadd, 1) := by decide +kernel
theorem dX4_waning_57 : decode cX4_waning 57 = .ok (.goto 4, 3) := by decide +kernel
theorem dX4_waning_60 : decode cX4_waning 60 = .ok (.iload_n 3, 1) := by decide +kernel
theorem dX4_waning_61 : decode cX4_waning 61 = .ok (.istore_n 3, 1) := by decide +kernel
theorem dX4_waning_62 : decode cX4_waning 62 = .ok (.iinc 2 1, 3) := by decide +kernel
theorem dX4_waning_65 : decode cX4_waning 65 = .ok (.iinc 5 1, 3) := by decide +kernel
theorem dX4_waning_68 : decode cX4_waning 68 = .ok (.goto (-41), 3) := by decide +kernel
theorem dX4_waning_71 : decode cX4_waning 71 = .ok (.iinc 4 1, 3) := by decide +kernel
theorem dX4_waning_74 : decode cX4_waning 74 = .ok (.goto (-57), 3) := by decide +kernel
theorem dX4_waning_77 : decode cX4_waning 77 = .ok (.iload_n 1, 1) := by decide +kernel
theorem dX4_waning_78 : decode cX4_waning 78 = .ok (.ifCond .ne 7, 3) := by decide +kernel
theorem dX4_waning_81 : decode cX4_waning 81 = .ok (.iload_n 2, 1) := by decide +kernel
theorem dX4_waning_82 : decode cX4_waning 82 = .ok (.goto 4, 3) := by decide +kernel
theorem dX4_waning_85 : decode cX4_waning 85 = .ok (.iload_n 3, 1) := by decide +kernel
theorem dX4_waning_86 : decode cX4_waning 86 = .ok (.ireturn, 1) := by decide +kernel
set_option maxRecDepth 20000 in
theorem ggX4_kinds_X4_isGoing : GoodIn wsX4_kinds wsX4_isGoing := goodIn_r _ [8, 1, 9, 27, 28, 29, 30, 31, 32, 33, 34, 35, 36, 37, 38, 39, 40, 41, 42, 43, 44, 45, 46, 47, 48, 49] (by decide +kernel) (by decide +kernel)
set_option maxRecDepth 20000 in
theorem gX4_kinds_X4_isGoing : GoodIn wsX4_kinds (wsV RX4 91 RX4 yX4_isGoing wsX4_isGoing) := goodIn_app (goodIn_of _ (by decide +kernel)) ggX4_kinds_X4_isGoing
set_option maxRecDepth 20000 in
theorem ggX4_kinds_X4_allNotedSo : GoodIn wsX4_kinds wsX4_allNotedSo := goodIn_r _ [13, 14, 15, 16, 17, 18, 7, 19, 20, 21, 22, 23, 24, 25, 26, 27, 28, 29, 30, 31, 32, 33, 34, 35, 36] (by decide +kernel) (by decide +kernel)
set_option maxRecDepth 20000 in
theorem gX4_kinds_X4_allNotedSo : GoodIn wsX4_kinds (wsV RX4 202 RX4 yX4_allNotedSo wsX4_allNotedSo) := goodIn_app (goodIn_of _ (by decide +kernel)) ggX4_kinds_X4_allNotedSo
theorem dX4_kinds_0 : decode cX4_kinds 0 = .ok (.aload_n 0, 1) := by decide +kernel
theorem dX4_kinds_1 : decode cX4_kinds 1 = .ok (.iload_n 1, 1) := by decide +kernel
theorem dX4_kinds_2 : decode cX4_kinds 2 = .ok (.invokevirtual 91, 3) := by decide +kernel
theorem dX4_kinds_5 : decode cX4_kinds 5 = .ok (.ifCond .ne 5, 3) := by decide +kernel
theorem dX4_kinds_8 : decode cX4_kinds 8 = .ok (.iconst (-1), 1) := by decide +kernel
theorem dX4_kinds_9 : decode cX4_kinds 9 = .ok (.ireturn, 1) := by decide +kernel
theorem dX4_kinds_10 : decode cX4_kinds 10 = .ok (.iconst 0, 1) := by decide +kernel
theorem dX4_kinds_11 : decode cX4_kinds 11 = .ok (.istore_n 2, 1) := by decide +kernel
theorem dX4_kinds_12 : decode cX4_kinds 12 = .ok (.iconst 0, 1) := by decide +kernel
theorem dX4_kinds_13 : decode cX4_kinds 13 = .ok (.istore_n 3, 1) := by decide +kernel
theorem dX4_kinds_14 : decode cX4_kinds 14 = .ok (.iload_n 3, 1) := by decide +kernel
theorem dX4_kinds_15 : decode cX4_kinds 15 = .ok (.iconst 4, 1) := by decide +kernel
theorem dX4_kinds_16 : decode cX4_kinds 16 = .ok (.if_icmp .ge 41, 3) := by decide +kernel
theorem dX4_kinds_19 : decode cX4_kinds 19 = .ok (.aload_n 0, 1) := by decide +kernel
theorem dX4_kinds_20 : decode cX4_kinds 20 = .ok (.iload_n 3, 1) := by decide +kernel
theorem dX4_kinds_21 : decode cX4_kinds 21 = .ok (.aload_n 0, 1) := by decide +kernel
theorem dX4_kinds_22 : decode cX4_kinds 22 = .ok (.getfield 19, 3) := by decide +kernel
theorem dX4_kinds_25 : decode cX4_kinds 25 = .ok (.getfield 97, 3) := by decide +kernel
theorem dX4_kinds_28 : decode cX4_kinds 28 = .ok (.iload_n 1, 1) := by decide +kernel
theorem dX4_kinds_29 : decode cX4_kinds 29 = .ok (.iaload, 1) := by decide +kernel
theorem dX4_kinds_30 : decode cX4_kinds 30 = .ok (.aload_n 0, 1) := by decide +kernel
theorem dX4_kinds_31 : decode cX4_kinds 31 = .ok (.getfield 19, 3) := by decide +kernel
theorem dX4_kinds_34 : decode cX4_kinds 34 = .ok (.getfield 100, 3) := by decide +kernel
theorem dX4_kinds_37 : decode cX4_kinds 37 = .ok (.iload_n 1, 1) := by decide +kernel
theorem dX4_kinds_38 : decode cX4_kinds 38 = .ok (.iaload, 1) := by decide +kernel
theorem dX4_kinds_39 : decode cX4_kinds 39 = .ok (.invokevirtual 202, 3) := by decide +kernel
theorem dX4_kinds_42 : decode cX4_kinds 42 = .ok (.ifCond .eq 9, 3) := by decide +kernel
theorem dX4_kinds_45 : decode cX4_kinds 45 = .ok (.iload_n 2, 1) := by decide +kernel
theorem dX4_kinds_46 : decode cX4_kinds 46 = .ok (.iconst 1, 1) := by decide +kernel
theorem dX4_kinds_47 : decode cX4_kinds 47 = .ok (.iload_n 3, 1) := by decide +kernel
theorem dX4_kinds_48 : decode cX4_kinds 48 = .ok (.ishl, 1) := by decide +kernel
theorem dX4_kinds_49 : decode cX4_kinds 49 = .ok (.ior, 1) := by decide +kernel
theorem dX4_kinds_50 : decode cX4_kinds 50 = .ok (.istore_n 2, 1) := by decide +kernel
theorem dX4_kinds_51 : decode cX4_kinds 51 = .ok (.iinc 3 1, 3) := by decide +kernel
theorem dX4_kinds_54 : decode cX4_kinds 54 = .ok (.goto (-40), 3) := by decide +kernel
theorem dX4_kinds_57 : decode cX4_kinds 57 = .ok (.iload_n 2, 1) := by decide +kernel
theorem dX4_kinds_58 : decode cX4_kinds 58 = .ok (.ireturn, 1) := by decide +kernel
set_option maxRecDepth 20000 in
theorem ggX4_late_X4_isEither : GoodIn wsX4_late wsX4_isEither := goodIn_r _ [7] (by decide +kernel) (by decide +kernel)
set_option maxRecDepth 20000 in
theorem gX4_late_X4_isEither : GoodIn wsX4_late (va_wsS RX4 159 yX4_isEither wsX4_isEither) := goodIn_app (goodIn_of _ (by decide +kernel)) ggX4_late_X4_isEither
set_option maxRecDepth 20000 in
theorem ggX4_late_X2_soonBits : GoodIn wsX4_late wsX2_soonBits := goodIn_r _ [12, 13, 14, 15, 16, 93, 94, 95, 96, 97, 98, 99, 100, 101, 102, 103, 104, 105, 106, 107, 108, 109, 110, 111] (by decide +kernel) (by decide +kernel)
set_option maxRecDepth 20000 in
theorem gX4_late_X2_soonBits : GoodIn wsX4_late (wsV RX4 206 RX2 yX2_soonBits wsX2_soonBits) := goodIn_app (goodIn_of _ (by decide +kernel)) ggX4_late_X2_soonBits
set_option maxRecDepth 20000 in
theorem ggX4_late_X4_chanceOf : GoodIn wsX4_late wsX4_chanceOf := goodIn_r _ [19] (by decide +kernel) (by decide +kernel)
set_option maxRecDepth 20000 in
theorem gX4_late_X4_chanceOf : GoodIn wsX4_late (va_wsS RX4 209 yX4_chanceOf wsX4_chanceOf) := goodIn_app (goodIn_of _ (by decide +kernel)) ggX4_late_X4_chanceOf
set_option maxRecDepth 20000 in
theorem ggX4_late_X4_hadLate : GoodIn wsX4_late wsX4_hadLate := goodIn_r _ [23, 24, 1, 2, 3, 25, 26, 27, 28, 29, 11, 30, 16, 31, 14, 32, 33, 34, 35, 15, 36, 37, 38, 39, 40, 41, 42, 43, 44, 45, 13, 46, 47, 48, 49, 50, 51, 52, 53, 54, 55, 56, 57, 6, 58, 59, 60, 61, 62, 63, 64, 65, 66, 67, 68, 69, 70, 71, 72, 73, 74, 75, 76, 77, 78, 79, 83, 84, 85, 86, 87, 88, 89, 90, 91, 92, 93, 94, 95, 96, 97, 98, 99, 100, 101, 102, 103, 104, 105, 106, 107, 108, 109, 110, 111] (by decide +kernel) (by decide +kernel)
set_option maxRecDepth 20000 in
theorem gX4_late_X4_hadLate : GoodIn wsX4_late (wsV RX4 213 RX4 yX4_hadLate wsX4_hadLate) := goodIn_app (goodIn_of _ (by decide +kernel)) ggX4_late_X4_hadLate
set_option maxRecDepth 20000 in
theorem ggX4_late_X4_commonDivisor : GoodIn wsX4_late wsX4_commonDivisor := goodIn_r _ [82] (by decide +kernel) (by decide +kernel)
set_option maxRecDepth 20000 in
theorem gX4_late_X4_commonDivisor : GoodIn wsX4_late (va_wsS RX4 216 yX4_commonDivisor wsX4_commonDivisor) := goodIn_app (goodIn_of _ (by decide +kernel)) ggX4_late_X4_commonDivisor
theorem dX4_late_0 : decode cX4_late 0 = .ok (.iload_n 1, 1) := by decide +kernel
theorem dX4_late_1 : decode cX4_late 1 = .ok (.iconst 1, 1) := by decide +kernel
theorem dX4_late_2 : decode cX4_late 2 = .ok (.if_icmp .lt 38, 3) := by decide +kernel
theorem dX4_late_5 : decode cX4_late 5 = .ok (.iload_n 1, 1) := by decide +kernel
theorem dX4_late_6 : decode cX4_late 6 = .ok (.bipush 20, 2) := by decide +kernel
theorem dX4_late_8 : decode cX4_late 8 = .ok (.if_icmp .gt 32, 3) := by decide +kernel
theorem dX4_late_11 : decode cX4_late 11 = .ok (.iload_n 2, 1) := by decide +kernel
theorem dX4_late_12 : decode cX4_late 12 = .ok (.ifCond .lt 28, 3) := by decide +kernel
theorem dX4_late_15 : decode cX4_late 15 = .ok (.iload_n 2, 1) := by decide +kernel
theorem dX4_late_16 : decode cX4_late 16 = .ok (.bipush 10, 2) := by decide +kernel
theorem dX4_late_18 : decode cX4_late 18 = .ok (.if_icmp .gt 22, 3) := by decide +kernel
theorem dX4_late_21 : decode cX4_late 21 = .ok (.iload_n 3, 1) := by decide +kernel
theorem dX4_late_22 : decode cX4_late 22 = .ok (.ifCond .lt 18, 3) := by decide +kernel
theorem dX4_late_25 : decode cX4_late 25 = .ok (.iload_n 3, 1) := by decide +kernel
theorem dX4_late_26 : decode cX4_late 26 = .ok (.sipush 999, 3) := by decide +kernel
theorem dX4_late_29 : decode cX4_late 29 = .ok (.if_icmp .gt 11, 3) := by decide +kernel
theorem dX4_late_32 : decode cX4_late 32 = .ok (.iload 4, 2) := by decide +kernel
theorem dX4_late_34 : decode cX4_late 34 = .ok (.invokestatic 159, 3) := by decide +kernel
theorem dX4_late_37 : decode cX4_late 37 = .ok (.ifCond .ne 5, 3) := by decide +kernel
theorem dX4_late_40 : decode cX4_late 40 = .ok (.iconst (-1), 1) := by decide +kernel
theorem dX4_late_41 : decode cX4_late 41 = .ok (.ireturn, 1) := by decide +kernel
theorem dX4_late_42 : decode cX4_late 42 = .ok (.aload_n 0, 1) := by decide +kernel
theorem dX4_late_43 : decode cX4_late 43 = .ok (.getfield 29, 3) := by decide +kernel
theorem dX4_late_46 : decode cX4_late 46 = .ok (.aload_n 0, 1) := by decide +kernel
theorem dX4_late_47 : decode cX4_late 47 = .ok (.getfield 19, 3) := by decide +kernel
theorem dX4_late_50 : decode cX4_late 50 = .ok (.invokevirtual 206, 3) := by decide +kernel
theorem dX4_late_53 : decode cX4_late 53 = .ok (.istore 5, 2) := by decide +kernel
theorem dX4_late_55 : decode cX4_late 55 = .ok (.iconst 0, 1) := by decide +kernel
theorem dX4_late_56 : decode cX4_late 56 = .ok (.istore 6, 2) := by decide +kernel
theorem dX4_late_58 : decode cX4_late 58 = .ok (.iconst 0, 1) := by decide +kernel
theorem dX4_late_59 : decode cX4_late 59 = .ok (.iload 5, 2) := by decide +kernel
theorem dX4_late_61 : decode cX4_late 61 = .ok (.bipush 10, 2) := by decide +kernel
theorem dX4_late_63 : decode cX4_late 63 = .ok (.bipush 10, 2) := by decide +kernel
theorem dX4_late_65 : decode cX4_late 65 = .ok (.invokestatic 209, 3) := by decide +kernel
theorem dX4_late_68 : decode cX4_late 68 = .ok (.istore 7, 2) := by decide +kernel
theorem dX4_late_70 : decode cX4_late 70 = .ok (.iconst 0, 1) := by decide +kernel
theorem dX4_late_71 : decode cX4_late 71 = .ok (.istore 8, 2) := by decide +kernel
theorem dX4_late_73 : decode cX4_late 73 = .ok (.iload 8, 2) := by decide +kernel
theorem dX4_late_75 : decode cX4_late 75 = .ok (.iconst 1, 1) := by decide +kernel
theorem dX4_late_76 : decode cX4_late 76 = .ok (.aload_n 0, 1) := by decide +kernel
theorem dX4_late_77 : decode cX4_late 77 = .ok (.getfield 19, 3) := by decide +kernel
theorem dX4_late_80 : decode cX4_late 80 = .ok (.getfield 82, 3) := by decide +kernel
theorem dX4_late_83 : decode cX4_late 83 = .ok (.ishl, 1) := by decide +kernel
theorem dX4_late_84 : decode cX4_late 84 = .ok (.if_icmp .ge 47, 3) := by decide +kernel
theorem dX4_late_87 : decode cX4_late 87 = .ok (.iload 8, 2) := by decide +kernel
theorem dX4_late_89 : decode cX4_late 89 = .ok (.iload 5, 2) := by decide +kernel
theorem dX4_late_91 : decode cX4_late 91 = .ok (.iconst (-1), 1) := by decide +kernel
theorem dX4_late_92 : decode cX4_late 92 = .ok (.ixor, 1) := by decide +kernel
theorem dX4_late_93 : decode cX4_late 93 = .ok (.iand, 1) := by decide +kernel
theorem dX4_late_94 : decode cX4_late 94 = .ok (.ifCond .ne 31, 3) := by decide +kernel
theorem dX4_late_97 : decode cX4_late 97 = .ok (.aload_n 0, 1) := by decide +kernel
theorem dX4_late_98 : decode cX4_late 98 = .ok (.iload 8, 2) := by decide +kernel
theorem dX4_late_100 : decode cX4_late 100 = .ok (.iload_n 1, 1) := by decide +kernel
theorem dX4_late_101 : decode cX4_late 101 = .ok (.invokevirtual 213, 3) := by decide +kernel
theorem dX4_late_104 : decode cX4_late 104 = .ok (.iload_n 3, 1) := by decide +kernel
theorem dX4_late_105 : decode cX4_late 105 = .ok (.if_icmp .lt 20, 3) := by decide +kernel
theorem dX4_late_108 : decode cX4_late 108 = .ok (.iload 6, 2) := by decide +kernel
theorem dX4_late_110 : decode cX4_late 110 = .ok (.iload 8, 2) := by decide +kernel
theorem dX4_late_112 : decode cX4_late 112 = .ok (.iload 5, 2) := by decide +kernel
theorem dX4_late_114 : decode cX4_late 114 = .ok (.iload_n 2, 1) := by decide +kernel
theorem dX4_late_115 : decode cX4_late 115 = .ok (.bipush 10, 2) := by decide +kernel
theorem dX4_late_117 : decode cX4_late 117 = .ok (.iload_n 2, 1) := by decide +kernel
theorem dX4_late_118 : decode cX4_late 118 = .ok (.isub, 1) := by decide +kernel
theorem dX4_late_119 : decode cX4_late 119 = .ok (.invokestatic 209, 3) := by decide +kernel
theorem dX4_late_122 : decode cX4_late 122 = .ok (.iadd, 1) := by decide +kernel
theorem dX4_late_123 : decode cX4_late 123 = .ok (.istore 6, 2) := by decide +kernel
theorem dX4_late_125 : decode cX4_late 125 = .ok (.iinc 8 1, 3) := by decide +kernel
theorem dX4_late_128 : decode cX4_late 128 = .ok (.goto (-55), 3) := by decide +kernel
theorem dX4_late_131 : decode cX4_late 131 = .ok (.iload 6, 2) := by decide +kernel
theorem dX4_late_133 : decode cX4_late 133 = .ok (.iload 7, 2) := by decide +kernel
theorem dX4_late_135 : decode cX4_late 135 = .ok (.invokestatic 216, 3) := by decide +kernel
theorem dX4_late_138 : decode cX4_late 138 = .ok (.istore 8, 2) := by decide +kernel
theorem dX4_late_140 : decode cX4_late 140 = .ok (.iload 8, 2) := by decide +kernel
theorem dX4_late_142 : decode cX4_late 142 = .ok (.iconst 1, 1) := by decide +kernel
theorem dX4_late_143 : decode cX4_late 143 = .ok (.if_icmp .ge 6, 3) := by decide +kernel
theorem dX4_late_146 : decode cX4_late 146 = .ok (.bipush (-4), 2) := by decide +kernel
theorem dX4_late_148 : decode cX4_late 148 = .ok (.ireturn, 1) := by decide +kernel
theorem dX4_late_149 : decode cX4_late 149 = .ok (.iload 4, 2) := by decide +kernel
theorem dX4_late_151 : decode cX4_late 151 = .ok (.ifCond .ne 11, 3) := by decide +kernel
theorem dX4_late_154 : decode cX4_late 154 = .ok (.iload 6, 2) := by decide +kernel
theorem dX4_late_156 : decode cX4_late 156 = .ok (.iload 8, 2) := by decide +kernel
theorem dX4_late_158 : decode cX4_late 158 = .ok (.idiv, 1) := by decide +kernel
theorem dX4_late_159 : decode cX4_late 159 = .ok (.goto 8, 3) := by decide +kernel
theorem dX4_late_162 : decode cX4_late 162 = .ok (.iload 7, 2) := by decide +kernel
theorem dX4_late_164 : decode cX4_late 164 = .ok (.iload 8, 2) := by decide +kernel
theorem dX4_late_166 : decode cX4_late 166 = .ok (.idiv, 1) := by decide +kernel
theorem dX4_late_167 : decode cX4_late 167 = .ok (.ireturn, 1) := by decide +kernel
set_option maxRecDepth 20000 in
theorem ggX4_season_X4_isEither : GoodIn wsX4_season wsX4_isEither := goodIn_r _ [8] (by decide +kernel) (by decide +kernel)
set_option maxRecDepth 20000 in
theorem gX4_season_X4_isEither : GoodIn wsX4_season (va_wsS RX4 159 yX4_isEither wsX4_isEither) := goodIn_app (goodIn_of _ (by decide +kernel)) ggX4_season_X4_isEither
set_option maxRecDepth 20000 in
theorem ggX4_season_X2_copyOf : GoodIn wsX4_season wsX2_copyOf := goodIn_r _ [13, 14, 15, 16, 17, 18, 19, 20, 21, 22, 23, 108, 109, 110, 111, 112, 113] (by decide +kernel) (by decide +kernel)
set_option maxRecDepth 20000 in
theorem gX4_season_X2_copyOf : GoodIn wsX4_season (wsV RX4 162 RX2 yX2_copyOf wsX2_copyOf) := goodIn_app (goodIn_of _ (by decide +kernel)) ggX4_season_X2_copyOf
set_option maxRecDepth 20000 in
theorem ggX4_season_X4_draw : GoodIn wsX4_season wsX4_draw := goodIn_r _ [26, 27, 28, 29] (by decide +kernel) (by decide +kernel)
set_option maxRecDepth 20000 in
theorem gX4_season_X4_draw : GoodIn wsX4_season (va_wsS RX4 219 yX4_draw wsX4_draw) := goodIn_app (goodIn_of _ (by decide +kernel)) ggX4_season_X4_draw
set_option maxRecDepth 20000 in
theorem ggX4_season_X4_actInTrial : GoodIn wsX4_season wsX4_actInTrial := goodIn_r _ [33, 3, 34, 35, 1, 36, 37, 38, 39, 12, 40, 41, 42, 23, 16, 43, 44, 45, 46, 47, 48, 49, 50, 51, 52, 53, 21, 14, 54, 55, 56, 57, 58, 59, 60, 61, 62, 98, 99, 100, 101, 102, 103, 104, 105, 106, 107, 114, 115, 116, 117, 118, 119, 120, 121, 122, 123, 124, 125, 126, 108, 109, 110, 111, 112, 113] (by decide +kernel) (by decide +kernel)
set_option maxRecDepth 20000 in
theorem gX4_season_X4_actInTrial : GoodIn wsX4_season (wsV RX4 222 RX4 yX4_actInTrial wsX4_actInTrial) := goodIn_app (goodIn_of _ (by decide +kernel)) ggX4_season_X4_actInTrial
set_option maxRecDepth 20000 in
theorem ggX4_season_X2_goBy : GoodIn wsX4_season wsX2_goBy := goodIn_r _ [66, 15, 67, 68, 69, 12, 70, 71, 16, 21, 14, 22, 72, 73, 74, 75, 76, 77, 78, 79, 42, 80, 81, 82, 7, 83, 84, 56, 57, 58, 85, 86, 87, 88, 89, 90, 91, 92, 47, 48, 49, 50, 51, 52, 53, 54, 55, 108, 109, 110, 111, 112, 113, 114, 115, 116, 117, 118, 119, 120, 121, 122, 123, 124, 125, 126] (by decide +kernel) (by decide +kernel)
set_option maxRecDepth 20000 in
theorem gX4_season_X2_goBy : GoodIn wsX4_season (wsV RX4 136 RX2 yX2_goBy wsX2_goBy) := goodIn_app (goodIn_of _ (by decide +kernel)) ggX4_season_X2_goBy
set_option maxRecDepth 20000 in
theorem ggX4_season_X2_pinsOfAll : GoodIn wsX4_season wsX2_pinsOfAll := goodIn_r _ [96, 97, 23, 114, 115, 116, 117, 118, 119, 120, 121, 122, 123, 124, 125, 126, 108, 109, 110, 111, 112, 113] (by decide +kernel) (by decide +kernel)
set_option maxRecDepth 20000 in
theorem gX4_season_X2_pinsOfAll : GoodIn wsX4_season (wsV RX4 225 RX2 yX2_pinsOfAll wsX2_pinsOfAll) := goodIn_app (goodIn_of _ (by decide +kernel)) ggX4_season_X2_pinsOfAll
theorem dX4_season_0 : decode cX4_season 0 = .ok (.iload_n 1, 1) := by decide +kernel
theorem dX4_season_1 : decode cX4_season 1 = .ok (.ifCond .lt 28, 3) := by decide +kernel
theorem dX4_season_4 : decode cX4_season 4 = .ok (.iload_n 1, 1) := by decide +kernel
theorem dX4_season_5 : decode cX4_season 5 = .ok (.sipush 9999, 3) := by decide +kernel
theorem dX4_season_8 : decode cX4_season 8 = .ok (.if_icmp .gt 21, 3) := by decide +kernel
theorem dX4_season_11 : decode cX4_season 11 = .ok (.iload_n 2, 1) := by decide +kernel
theorem dX4_season_12 : decode cX4_season 12 = .ok (.iconst 1, 1) := by decide +kernel
theorem dX4_season_13 : decode cX4_season 13 = .ok (.if_icmp .lt 16, 3) := by decide +kernel
theorem dX4_season_16 : decode cX4_season 16 = .ok (.iload_n 2, 1) := by decide +kernel
theorem dX4_season_17 : decode cX4_season 17 = .ok (.bipush 60, 2) := by decide +kernel
theorem dX4_season_19 : decode cX4_season 19 = .ok (.if_icmp .gt 10, 3) := by decide +kernel
theorem dX4_season_22 : decode cX4_season 22 = .ok (.iload_n 3, 1) := by decide +kernel
theorem dX4_season_23 : decode cX4_season 23 = .ok (.invokestatic 159, 3) := by decide +kernel
theorem dX4_season_26 : decode cX4_season 26 = .ok (.ifCond .ne 5, 3) := by decide +kernel
theorem dX4_season_29 : decode cX4_season 29 = .ok (.iconst (-1), 1) := by decide +kernel
theorem dX4_season_30 : decode cX4_season 30 = .ok (.ireturn, 1) := by decide +kernel
theorem dX4_season_31 : decode cX4_season 31 = .ok (.aload_n 0, 1) := by decide +kernel
theorem dX4_season_32 : decode cX4_season 32 = .ok (.getfield 33, 3) := by decide +kernel
theorem dX4_season_35 : decode cX4_season 35 = .ok (.aload_n 0, 1) := by decide +kernel
theorem dX4_season_36 : decode cX4_season 36 = .ok (.getfield 29, 3) := by decide +kernel
theorem dX4_season_39 : decode cX4_season 39 = .ok (.invokevirtual 162, 3) := by decide +kernel
theorem dX4_season_42 : decode cX4_season 42 = .ok (.iconst 0, 1) := by decide +kernel
theorem dX4_season_43 : decode cX4_season 43 = .ok (.istore 4, 2) := by decide +kernel
theorem dX4_season_45 : decode cX4_season 45 = .ok (.iload 4, 2) := by decide +kernel
theorem dX4_season_47 : decode cX4_season 47 = .ok (.iload_n 2, 1) := by decide +kernel
theorem dX4_season_48 : decode cX4_season 48 = .ok (.if_icmp .ge 31, 3) := by decide +kernel
theorem dX4_season_51 : decode cX4_season 51 = .ok (.aload_n 0, 1) := by decide +kernel
theorem dX4_season_52 : decode cX4_season 52 = .ok (.iload_n 1, 1) := by decide +kernel
theorem dX4_season_53 : decode cX4_season 53 = .ok (.iload 4, 2) := by decide +kernel
theorem dX4_season_55 : decode cX4_season 55 = .ok (.invokestatic 219, 3) := by decide +kernel
theorem dX4_season_58 : decode cX4_season 58 = .ok (.invokevirtual 222, 3) := by decide +kernel
theorem dX4_season_61 : decode cX4_season 61 = .ok (.aload_n 0, 1) := by decide +kernel
theorem dX4_season_62 : decode cX4_season 62 = .ok (.getfield 33, 3) := by decide +kernel
theorem dX4_season_65 : decode cX4_season 65 = .ok (.aload_n 0, 1) := by decide +kernel
theorem dX4_season_66 : decode cX4_season 66 = .ok (.getfield 19, 3) := by decide +kernel
theorem dX4_season_69 : decode cX4_season 69 = .ok (.iconst 1, 1) := by decide +kernel
theorem dX4_season_70 : decode cX4_season 70 = .ok (.invokevirtual 136, 3) := by decide +kernel
theorem dX4_season_73 : decode cX4_season 73 = .ok (.iinc 4 1, 3) := by decide +kernel
theorem dX4_season_76 : decode cX4_season 76 = .ok (.goto (-31), 3) := by decide +kernel
theorem dX4_season_79 : decode cX4_season 79 = .ok (.iload_n 3, 1) := by decide +kernel
theorem dX4_season_80 : decode cX4_season 80 = .ok (.ifCond .ne 17, 3) := by decide +kernel
theorem dX4_season_83 : decode cX4_season 83 = .ok (.aload_n 0, 1) := by decide +kernel
theorem dX4_season_84 : decode cX4_season 84 = .ok (.getfield 33, 3) := by decide +kernel
theorem dX4_season_87 : decode cX4_season 87 = .ok (.getfield 140, 3) := by decide +kernel
theorem dX4_season_90 : decode cX4_season 90 = .ok (.sipush 10000, 3) := by decide +kernel
theorem dX4_season_93 : decode cX4_season 93 = .ok (.iadd, 1) := by decide +kernel
theorem dX4_season_94 : decode cX4_season 94 = .ok (.goto 14, 3) := by decide +kernel
theorem dX4_season_97 : decode cX4_season 97 = .ok (.aload_n 0, 1) := by decide +kernel
theorem dX4_season_98 : decode cX4_season 98 = .ok (.getfield 33, 3) := by decide +kernel
theorem dX4_season_101 : decode cX4_season 101 = .ok (.aload_n 0, 1) := by decide +kernel
theorem dX4_season_102 : decode cX4_season 102 = .ok (.getfield 19, 3) := by decide +kernel
theorem dX4_season_105 : decode cX4_season 105 = .ok (.invokevirtual 225, 3) := by decide +kernel
theorem dX4_season_108 : decode cX4_season 108 = .ok (.ireturn, 1) := by decide +kernel
set_option maxRecDepth 20000 in
theorem ggX4_keep_X1_put : GoodIn wsX4_keep wsX1_put := goodIn_r _ [8, 9, 10, 11, 12, 13, 7, 14, 15, 16, 17, 18, 19, 20, 21, 22, 23, 24, 25, 26, 27, 28, 29, 40, 41, 42, 43, 44, 45, 46, 47] (by decide +kernel) (by decide +kernel)
set_option maxRecDepth 20000 in
theorem gX4_keep_X1_put : GoodIn wsX4_keep (wsV RX4 132 RX1 yX1_put wsX1_put) := goodIn_app (goodIn_of _ (by decide +kernel)) ggX4_keep_X1_put
theorem dX4_keep_0 : decode cX4_keep 0 = .ok (.aload_n 0, 1) := by decide +kernel
theorem dX4_keep_1 : decode cX4_keep 1 = .ok (.getfield 45, 3) := by decide +kernel
theorem dX4_keep_4 : decode cX4_keep 4 = .ok (.getfield 85, 3) := by decide +kernel
theorem dX4_keep_7 : decode cX4_keep 7 = .ok (.iconst 2, 1) := by decide +kernel
theorem dX4_keep_8 : decode cX4_keep 8 = .ok (.if_icmp .lt 6, 3) := by decide +kernel
theorem dX4_keep_11 : decode cX4_keep 11 = .ok (.bipush (-3), 2) := by decide +kernel
theorem dX4_keep_13 : decode cX4_keep 13 = .ok (.ireturn, 1) := by decide +kernel
theorem dX4_keep_14 : decode cX4_keep 14 = .ok (.aload_n 0, 1) := by decide +kernel
theorem dX4_keep_15 : decode cX4_keep 15 = .ok (.getfield 45, 3) := by decide +kernel
theorem dX4_keep_18 : decode cX4_keep 18 = .ok (.aload_n 0, 1) := by decide +kernel
theorem dX4_keep_19 : decode cX4_keep 19 = .ok (.getfield 29, 3) := by decide +kernel
theorem dX4_keep_22 : decode cX4_keep 22 = .ok (.invokevirtual 132, 3) := by decide +kernel
theorem dX4_keep_25 : decode cX4_keep 25 = .ok (.aload_n 0, 1) := by decide +kernel
theorem dX4_keep_26 : decode cX4_keep 26 = .ok (.getfield 45, 3) := by decide +kernel
theorem dX4_keep_29 : decode cX4_keep 29 = .ok (.getfield 85, 3) := by decide +kernel
theorem dX4_keep_32 : decode cX4_keep 32 = .ok (.ireturn, 1) := by decide +kernel
set_option maxRecDepth 20000 in
theorem ggX4_back_X1_takeInto : GoodIn wsX4_back wsX1_takeInto := goodIn_r _ [9, 10, 11, 12, 13, 14, 15, 16, 17, 18, 19, 20, 21, 22, 23, 24, 25, 26, 37, 38, 39, 40, 41, 42, 43, 44] (by decide +kernel) (by decide +kernel)
set_option maxRecDepth 20000 in
theorem gX4_back_X1_takeInto : GoodIn wsX4_back (wsV RX4 155 RX1 yX1_takeInto wsX1_takeInto) := goodIn_app (goodIn_of _ (by decide +kernel)) ggX4_back_X1_takeInto
theorem dX4_back_0 : decode cX4_back 0 = .ok (.aload_n 0, 1) := by decide +kernel
theorem dX4_back_1 : decode cX4_back 1 = .ok (.getfield 45, 3) := by decide +kernel
theorem dX4_back_4 : decode cX4_back 4 = .ok (.aload_n 0, 1) := by decide +kernel
theorem dX4_back_5 : decode cX4_back 5 = .ok (.getfield 29, 3) := by decide +kernel
theorem dX4_back_8 : decode cX4_back 8 = .ok (.invokevirtual 155, 3) := by decide +kernel
theorem dX4_back_11 : decode cX4_back 11 = .ok (.ifCond .ne 6, 3) := by decide +kernel
theorem dX4_back_14 : decode cX4_back 14 = .ok (.bipush (-2), 2) := by decide +kernel
theorem dX4_back_16 : decode cX4_back 16 = .ok (.ireturn, 1) := by decide +kernel
theorem dX4_back_17 : decode cX4_back 17 = .ok (.aload_n 0, 1) := by decide +kernel
theorem dX4_back_18 : decode cX4_back 18 = .ok (.getfield 41, 3) := by decide +kernel
theorem dX4_back_21 : decode cX4_back 21 = .ok (.iconst 0, 1) := by decide +kernel
theorem dX4_back_22 : decode cX4_back 22 = .ok (.putfield 85, 3) := by decide +kernel
theorem dX4_back_25 : decode cX4_back 25 = .ok (.aload_n 0, 1) := by decide +kernel
theorem dX4_back_26 : decode cX4_back 26 = .ok (.getfield 45, 3) := by decide +kernel
theorem dX4_back_29 : decode cX4_back 29 = .ok (.getfield 85, 3) := by decide +kernel
theorem dX4_back_32 : decode cX4_back 32 = .ok (.ireturn, 1) := by decide +kernel
set_option maxRecDepth 20000 in
theorem ggX4_count_X2_howMany : GoodIn wsX4_count wsX2_howMany := goodIn_r _ [17, 18, 19, 36, 37, 38, 39, 40, 41, 42, 43, 44, 45, 46, 47, 48, 49, 50, 51, 52, 53, 54] (by decide +kernel) (by decide +kernel)
set_option maxRecDepth 20000 in
theorem gX4_count_X2_howMany : GoodIn wsX4_count (wsV RX4 228 RX2 yX2_howMany wsX2_howMany) := goodIn_app (goodIn_of _ (by decide +kernel)) ggX4_count_X2_howMany
set_option maxRecDepth 20000 in
theorem ggX4_count_X2_pinsOfAll : GoodIn wsX4_count wsX2_pinsOfAll := goodIn_r _ [23, 24, 25, 36, 37, 38, 39, 40, 41, 42, 43, 44, 45, 46, 47, 48, 49, 50, 51, 52, 53, 54] (by decide +kernel) (by decide +kernel)
set_option maxRecDepth 20000 in
theorem gX4_count_X2_pinsOfAll : GoodIn wsX4_count (wsV RX4 225 RX2 yX2_pinsOfAll wsX2_pinsOfAll) := goodIn_app (goodIn_of _ (by decide +kernel)) ggX4_count_X2_pinsOfAll
theorem dX4_count_0 : decode cX4_count 0 = .ok (.iload_n 1, 1) := by decide +kernel
theorem dX4_count_1 : decode cX4_count 1 = .ok (.tableswitch 196 0 12 #[67, 75, 83, 91, 104, 117, 130, 143, 155, 167, 172, 180, 188], 67) := by decide +kernel
theorem dX4_count_68 : decode cX4_count 68 = .ok (.aload_n 0, 1) := by decide +kernel
theorem dX4_count_69 : decode cX4_count 69 = .ok (.getfield 19, 3) := by decide +kernel
theorem dX4_count_72 : decode cX4_count 72 = .ok (.getfield 82, 3) := by decide +kernel
theorem dX4_count_75 : decode cX4_count 75 = .ok (.ireturn, 1) := by decide +kernel
theorem dX4_count_76 : decode cX4_count 76 = .ok (.aload_n 0, 1) := by decide +kernel
theorem dX4_count_77 : decode cX4_count 77 = .ok (.getfield 19, 3) := by decide +kernel
theorem dX4_count_80 : decode cX4_count 80 = .ok (.getfield 193, 3) := by decide +kernel
theorem dX4_count_83 : decode cX4_count 83 = .ok (.ireturn, 1) := by decide +kernel
theorem dX4_count_84 : decode cX4_count 84 = .ok (.aload_n 0, 1) := by decide +kernel
theorem dX4_count_85 : decode cX4_count 85 = .ok (.getfield 29, 3) := by decide +kernel
theorem dX4_count_88 : decode cX4_count 88 = .ok (.getfield 129, 3) := by decide +kernel
theorem dX4_count_91 : decode cX4_count 91 = .ok (.ireturn, 1) := by decide +kernel
theorem dX4_count_92 : decode cX4_count 92 = .ok (.aload_n 0, 1) := by decide +kernel
theorem dX4_count_93 : decode cX4_count 93 = .ok (.getfield 29, 3) := by decide +kernel
theorem dX4_count_96 : decode cX4_count 96 = .ok (.aload_n 0, 1) := by decide +kernel
theorem dX4_count_97 : decode cX4_count 97 = .ok (.getfield 19, 3) := by decide +kernel
theorem dX4_count_100 : decode cX4_count 100 = .ok (.iconst 0, 1) := by decide +kernel
theorem dX4_count_101 : decode cX4_count 101 = .ok (.invokevirtual 228, 3) := by decide +kernel
theorem dX4_count_104 : decode cX4_count 104 = .ok (.ireturn, 1) := by decide +kernel
theorem dX4_count_105 : decode cX4_count 105 = .ok (.aload_n 0, 1) := by decide +kernel
theorem dX4_count_106 : decode cX4_count 106 = .ok (.getfield 29, 3) := by decide +kernel
theorem dX4_count_109 : decode cX4_count 109 = .ok (.aload_n 0, 1) := by decide +kernel
theorem dX4_count_110 : decode cX4_count 110 = .ok (.getfield 19, 3) := by decide +kernel
theorem dX4_count_113 : decode cX4_count 113 = .ok (.iconst 1, 1) := by decide +kernel
theorem dX4_count_114 : decode cX4_count 114 = .ok (.invokevirtual 228, 3) := by decide +kernel
theorem dX4_count_117 : decode cX4_count 117 = .ok (.ireturn, 1) := by decide +kernel
theorem dX4_count_118 : decode cX4_count 118 = .ok (.aload_n 0, 1) := by decide +kernel
theorem dX4_count_119 : decode cX4_count 119 = .ok (.getfield 29, 3) := by decide +kernel
theorem dX4_count_122 : decode cX4_count 122 = .ok (.aload_n 0, 1) := by decide +kernel
theorem dX4_count_123 : decode cX4_count 123 = .ok (.getfield 19, 3) := by decide +kernel
theorem dX4_count_126 : decode cX4_count 126 = .ok (.iconst 2, 1) := by decide +kernel
theorem dX4_count_127 : decode cX4_count 127 = .ok (.invokevirtual 228, 3) := by decide +kernel
theorem dX4_count_130 : decode cX4_count 130 = .ok (.ireturn, 1) := by decide +kernel
theorem dX4_count_131 : decode cX4_count 131 = .ok (.aload_n 0, 1) := by decide +kernel
theorem dX4_count_132 : decode cX4_count 132 = .ok (.getfield 29, 3) := by decide +kernel
theorem dX4_count_135 : decode cX4_count 135 = .ok (.aload_n 0, 1) := by decide +kernel
theorem dX4_count_136 : decode cX4_count 136 = .ok (.getfield 19, 3) := by decide +kernel
theorem dX4_count_139 : decode cX4_count 139 = .ok (.iconst 3, 1) := by decide +kernel
theorem dX4_count_140 : decode cX4_count 140 = .ok (.invokevirtual 228, 3) := by decide +kernel
theorem dX4_count_143 : decode cX4_count 143 = .ok (.ireturn, 1) := by decide +kernel
theorem dX4_count_144 : decode cX4_count 144 = .ok (.aload_n 0, 1) := by decide +kernel
theorem dX4_count_145 : decode cX4_count 145 = .ok (.getfield 29, 3) := by decide +kernel
theorem dX4_count_148 : decode cX4_count 148 = .ok (.getfield 140, 3) := by decide +kernel
theorem dX4_count_151 : decode cX4_count 151 = .ok (.sipush 10000, 3) := by decide +kernel
theorem dX4_count_154 : decode cX4_count 154 = .ok (.iadd, 1) := by decide +kernel
theorem dX4_count_155 : decode cX4_count 155 = .ok (.ireturn, 1) := by decide +kernel
theorem dX4_count_156 : decode cX4_count 156 = .ok (.aload_n 0, 1) := by decide +kernel
theorem dX4_count_157 : decode cX4_count 157 = .ok (.getfield 29, 3) := by decide +kernel
theorem dX4_count_160 : decode cX4_count 160 = .ok (.aload_n 0, 1) := by decide +kernel
theorem dX4_count_161 : decode cX4_count 161 = .ok (.getfield 19, 3) := by decide +kernel
theorem dX4_count_164 : decode cX4_count 164 = .ok (.invokevirtual 225, 3) := by decide +kernel
theorem dX4_count_167 : decode cX4_count 167 = .ok (.ireturn, 1) := by decide +kernel
theorem dX4_count_168 : decode cX4_count 168 = .ok (.aload_n 0, 1) := by decide +kernel
theorem dX4_count_169 : decode cX4_count 169 = .ok (.getfield 88, 3) := by decide +kernel
theorem dX4_count_172 : decode cX4_count 172 = .ok (.ireturn, 1) := by decide +kernel
theorem dX4_count_173 : decode cX4_count 173 = .ok (.aload_n 0, 1) := by decide +kernel
theorem dX4_count_174 : decode cX4_count 174 = .ok (.getfield 41, 3) := by decide +kernel
theorem dX4_count_177 : decode cX4_count 177 = .ok (.getfield 85, 3) := by decide +kernel
theorem dX4_count_180 : decode cX4_count 180 = .ok (.ireturn, 1) := by decide +kernel
theorem dX4_count_181 : decode cX4_count 181 = .ok (.aload_n 0, 1) := by decide +kernel
theorem dX4_count_182 : decode cX4_count 182 = .ok (.getfield 45, 3) := by decide +kernel
theorem dX4_count_185 : decode cX4_count 185 = .ok (.getfield 85, 3) := by decide +kernel
theorem dX4_count_188 : decode cX4_count 188 = .ok (.ireturn, 1) := by decide +kernel
theorem dX4_count_189 : decode cX4_count 189 = .ok (.aload_n 0, 1) := by decide +kernel
theorem dX4_count_190 : decode cX4_count 190 = .ok (.getfield 10, 3) := by decide +kernel
theorem dX4_count_193 : decode cX4_count 193 = .ok (.getfield 75, 3) := by decide +kernel
theorem dX4_count_196 : decode cX4_count 196 = .ok (.ireturn, 1) := by decide +kernel
theorem dX4_count_197 : decode cX4_count 197 = .ok (.iconst (-1), 1) := by decide +kernel
theorem dX4_count_198 : decode cX4_count 198 = .ok (.ireturn, 1) := by decide +kernel
theorem dX4_isGoing_0 : decode cX4_isGoing 0 = .ok (.iload_n 1, 1) := by decide +kernel
theorem dX4_isGoing_1 : decode cX4_isGoing 1 = .ok (.ifCond .lt 18, 3) := by decide +kernel
theorem dX4_isGoing_4 : decode cX4_isGoing 4 = .ok (.iload_n 1, 1) := by decide +kernel
theorem dX4_isGoing_5 : decode cX4_isGoing 5 = .ok (.aload_n 0, 1) := by decide +kernel
theorem dX4_isGoing_6 : decode cX4_isGoing 6 = .ok (.getfield 19, 3) := by decide +kernel
theorem dX4_isGoing_9 : decode cX4_isGoing 9 = .ok (.getfield 82, 3) := by decide +kernel
theorem dX4_isGoing_12 : decode cX4_isGoing 12 = .ok (.if_icmp .ge 7, 3) := by decide +kernel
theorem dX4_isGoing_15 : decode cX4_isGoing 15 = .ok (.iconst 1, 1) := by decide +kernel
theorem dX4_isGoing_16 : decode cX4_isGoing 16 = .ok (.goto 4, 3) := by decide +kernel
theorem dX4_isGoing_19 : decode cX4_isGoing 19 = .ok (.iconst 0, 1) := by decide +kernel
theorem dX4_isGoing_20 : decode cX4_isGoing 20 = .ok (.ireturn, 1) := by decide +kernel
theorem dX4_isLady_0 : decode cX4_isLady 0 = .ok (.iload_n 1, 1) := by decide +kernel
theorem dX4_isLady_1 : decode cX4_isLady 1 = .ok (.ifCond .lt 18, 3) := by decide +kernel
theorem dX4_isLady_4 : decode cX4_isLady 4 = .ok (.iload_n 1, 1) := by decide +kernel
theorem dX4_isLady_5 : decode cX4_isLady 5 = .ok (.aload_n 0, 1) := by decide +kernel
theorem dX4_isLady_6 : decode cX4_isLady 6 = .ok (.getfield 19, 3) := by decide +kernel
theorem dX4_isLady_9 : decode cX4_isLady 9 = .ok (.getfield 193, 3) := by decide +kernel
theorem dX4_isLady_12 : decode cX4_isLady 12 = .ok (.if_icmp .ge 7, 3) := by decide +kernel
theorem dX4_isLady_15 : decode cX4_isLady 15 = .ok (.iconst 1, 1) := by decide +kernel
theorem dX4_isLady_16 : decode cX4_isLady 16 = .ok (.goto 4, 3) := by decide +kernel
theorem dX4_isLady_19 : decode cX4_isLady 19 = .ok (.iconst 0, 1) := by decide +kernel
theorem dX4_isLady_20 : decode cX4_isLady 20 = .ok (.ireturn, 1) := by decide +kernel
theorem dX4_isEither_0 : decode cX4_isEither 0 = .ok (.iload_n 0, 1) := by decide +kernel
theorem dX4_isEither_1 : decode cX4_isEither 1 = .ok (.ifCond .eq 8, 3) := by decide +kernel
theorem dX4_isEither_4 : decode cX4_isEither 4 = .ok (.iload_n 0, 1) := by decide +kernel
theorem dX4_isEither_5 : decode cX4_isEither 5 = .ok (.iconst 1, 1) := by decide +kernel
theorem dX4_isEither_6 : decode cX4_isEither 6 = .ok (.if_icmp .ne 7, 3) := by decide +kernel
theorem dX4_isEither_9 : decode cX4_isEither 9 = .ok (.iconst 1, 1) := by decide +kernel
theorem dX4_isEither_10 : decode cX4_isEither 10 = .ok (.goto 4, 3) := by decide +kernel
theorem dX4_isEither_13 : decode cX4_isEither 13 = .ok (.iconst 0, 1) := by decide +kernel
theorem dX4_isEither_14 : decode cX4_isEither 14 = .ok (.ireturn, 1) := by decide +kernel
theorem dX4_whichOrHad_0 : decode cX4_whichOrHad 0 = .ok (.iload_n 0, 1) := by decide +kernel
theorem dX4_whichOrHad_1 : decode cX4_whichOrHad 1 = .ok (.bipush (-4), 2) := by decide +kernel
theorem dX4_whichOrHad_3 : decode cX4_whichOrHad 3 = .ok (.if_icmp .ne 6, 3) := by decide +kernel
theorem dX4_whichOrHad_6 : decode cX4_whichOrHad 6 = .ok (.bipush (-4), 2) := by decide +kernel
theorem dX4_whichOrHad_8 : decode cX4_whichOrHad 8 = .ok (.ireturn, 1) := by decide +kernel
theorem dX4_whichOrHad_9 : decode cX4_whichOrHad 9 = .ok (.iload_n 2, 1) := by decide +kernel
theorem dX4_whichOrHad_10 : decode cX4_whichOrHad 10 = .ok (.ifCond .ne 7, 3) := by decide +kernel
theorem dX4_whichOrHad_13 : decode cX4_whichOrHad 13 = .ok (.iload_n 0, 1) := by decide +kernel
theorem dX4_whichOrHad_14 : decode cX4_whichOrHad 14 = .ok (.goto 8, 3) := by decide +kernel
theorem dX4_whichOrHad_17 : decode cX4_whichOrHad 17 = .ok (.iload_n 1, 1) := by decide +kernel
theorem dX4_whichOrHad_18 : decode cX4_whichOrHad 18 = .ok (.sipush 10000, 3) := by decide +kernel
theorem dX4_whichOrHad_21 : decode cX4_whichOrHad 21 = .ok (.iadd, 1) := by decide +kernel
theorem dX4_whichOrHad_22 : decode cX4_whichOrHad 22 = .ok (.ireturn, 1) := by decide +kernel
set_option maxRecDepth 20000 in
theorem ggX4_hadAsItIs_X2_copyOf : GoodIn wsX4_hadAsItIs wsX2_copyOf := goodIn_r _ [9, 10, 11, 12, 13, 14, 15, 16, 17, 18, 19, 74, 75, 76, 77, 78, 79] (by decide +kernel) (by decide +kernel)
set_option maxRecDepth 20000 in
theorem gX4_hadAsItIs_X2_copyOf : GoodIn wsX4_hadAsItIs (wsV RX4 162 RX2 yX2_copyOf wsX2_copyOf) := goodIn_app (goodIn_of _ (by decide +kernel)) ggX4_hadAsItIs_X2_copyOf
set_option maxRecDepth 20000 in
theorem ggX4_hadAsItIs_X2_goBy : GoodIn wsX4_hadAsItIs wsX2_goBy := goodIn_r _ [23, 11, 24, 25, 26, 8, 27, 28, 12, 17, 10, 18, 29, 30, 31, 32, 33, 34, 35, 36, 37, 38, 39, 40, 41, 42, 43, 44, 45, 46, 47, 48, 49, 50, 51, 52, 53, 54, 55, 56, 57, 58, 59, 60, 61, 62, 63, 74, 75, 76, 77, 78, 79, 80, 81, 82, 83, 84, 85, 86, 87, 88, 89, 90, 91, 92] (by decide +kernel) (by decide +kernel)
set_option maxRecDepth 20000 in
theorem gX4_hadAsItIs_X2_goBy : GoodIn wsX4_hadAsItIs (wsV RX4 136 RX2 yX2_goBy wsX2_goBy) := goodIn_app (goodIn_of _ (by decide +kernel)) ggX4_hadAsItIs_X2_goBy
theorem dX4_hadAsItIs_0 : decode cX4_hadAsItIs 0 = .ok (.aload_n 0, 1) := by decide +kernel
theorem dX4_hadAsItIs_1 : decode cX4_hadAsItIs 1 = .ok (.getfield 33, 3) := by decide +kernel
theorem dX4_hadAsItIs_4 : decode cX4_hadAsItIs 4 = .ok (.aload_n 0, 1) := by decide +kernel
theorem dX4_hadAsItIs_5 : decode cX4_hadAsItIs 5 = .ok (.getfield 29, 3) := by decide +kernel
theorem dX4_hadAsItIs_8 : decode cX4_hadAsItIs 8 = .ok (.invokevirtual 162, 3) := by decide +kernel
theorem dX4_hadAsItIs_11 : decode cX4_hadAsItIs 11 = .ok (.aload_n 0, 1) := by decide +kernel
theorem dX4_hadAsItIs_12 : decode cX4_hadAsItIs 12 = .ok (.getfield 33, 3) := by decide +kernel
theorem dX4_hadAsItIs_15 : decode cX4_hadAsItIs 15 = .ok (.aload_n 0, 1) := by decide +kernel
theorem dX4_hadAsItIs_16 : decode cX4_hadAsItIs 16 = .ok (.getfield 19, 3) := by decide +kernel
theorem dX4_hadAsItIs_19 : decode cX4_hadAsItIs 19 = .ok (.bipush 60, 2) := by decide +kernel
theorem dX4_hadAsItIs_21 : decode cX4_hadAsItIs 21 = .ok (.invokevirtual 136, 3) := by decide +kernel
theorem dX4_hadAsItIs_24 : decode cX4_hadAsItIs 24 = .ok (.aload_n 0, 1) := by decide +kernel
theorem dX4_hadAsItIs_25 : decode cX4_hadAsItIs 25 = .ok (.getfield 33, 3) := by decide +kernel
theorem dX4_hadAsItIs_28 : decode cX4_hadAsItIs 28 = .ok (.getfield 140, 3) := by decide +kernel
theorem dX4_hadAsItIs_31 : decode cX4_hadAsItIs 31 = .ok (.ireturn, 1) := by decide +kernel
set_option maxRecDepth 20000 in
theorem ggX4_hadStopping_X2_copyOf : GoodIn wsX4_hadStopping wsX2_copyOf := goodIn_r _ [10, 11, 12, 13, 14, 15, 16, 17, 18, 19, 20, 76, 77, 78, 79, 80, 81] (by decide +kernel) (by decide +kernel)
set_option maxRecDepth 20000 in
theorem gX4_hadStopping_X2_copyOf : GoodIn wsX4_hadStopping (wsV RX4 162 RX2 yX2_copyOf wsX2_copyOf) := goodIn_app (goodIn_of _ (by decide +kernel)) ggX4_hadStopping_X2_copyOf
set_option maxRecDepth 20000 in
theorem ggX4_hadStopping_X2_goBy : GoodIn wsX4_hadStopping wsX2_goBy := goodIn_r _ [24, 12, 25, 26, 27, 9, 28, 29, 13, 18, 11, 19, 30, 31, 32, 33, 34, 35, 36, 37, 38, 39, 40, 41, 42, 43, 44, 45, 46, 47, 48, 49, 50, 51, 52, 53, 54, 55, 56, 57, 58, 59, 60, 61, 62, 63, 64, 76, 77, 78, 79, 80, 81, 82, 83, 84, 85, 86, 87, 88, 89, 90, 91, 92, 93, 94] (by decide +kernel) (by decide +kernel)
set_option maxRecDepth 20000 in
theorem gX4_hadStopping_X2_goBy : GoodIn wsX4_hadStopping (wsV RX4 136 RX2 yX2_goBy wsX2_goBy) := goodIn_app (goodIn_of _ (by decide +kernel)) ggX4_hadStopping_X2_goBy
set_option maxRecDepth 20000 in
theorem ggX4_hadStopping_X2_finish : GoodIn wsX4_hadStopping wsX2_finish := goodIn_r _ [59, 13, 60, 61, 62, 18, 11, 63, 64, 45, 46, 47, 76, 77, 78, 79, 80, 81, 82, 83, 84, 85, 86, 87, 88, 89, 90, 91, 92, 93, 94] (by decide +kernel) (by decide +kernel)
set_option maxRecDepth 20000 in
theorem gX4_hadStopping_X2_finish : GoodIn wsX4_hadStopping (wsV RX4 231 RX2 yX2_finish wsX2_finish) := goodIn_app (goodIn_of _ (by decide +kernel)) ggX4_hadStopping_X2_finish
theorem dX4_hadStopping_0 : decode cX4_hadStopping 0 = .ok (.aload_n 0, 1) := by decide +kernel
theorem dX4_hadStopping_1 : decode cX4_hadStopping 1 = .ok (.getfield 33, 3) := by decide +kernel
theorem dX4_hadStopping_4 : decode cX4_hadStopping 4 = .ok (.aload_n 0, 1) := by decide +kernel
theorem dX4_hadStopping_5 : decode cX4_hadStopping 5 = .ok (.getfield 29, 3) := by decide +kernel
theorem dX4_hadStopping_8 : decode cX4_hadStopping 8 = .ok (.invokevirtual 162, 3) := by decide +kernel
theorem dX4_hadStopping_11 : decode cX4_hadStopping 11 = .ok (.aload_n 0, 1) := by decide +kernel
theorem dX4_hadStopping_12 : decode cX4_hadStopping 12 = .ok (.getfield 33, 3) := by decide +kernel
theorem dX4_hadStopping_15 : decode cX4_hadStopping 15 = .ok (.aload_n 0, 1) := by decide +kernel
theorem dX4_hadStopping_16 : decode cX4_hadStopping 16 = .ok (.getfield 19, 3) := by decide +kernel
theorem dX4_hadStopping_19 : decode cX4_hadStopping 19 = .ok (.iload_n 2, 1) := by decide +kernel
theorem dX4_hadStopping_20 : decode cX4_hadStopping 20 = .ok (.invokevirtual 136, 3) := by decide +kernel
theorem dX4_hadStopping_23 : decode cX4_hadStopping 23 = .ok (.iload_n 2, 1) := by decide +kernel
theorem dX4_hadStopping_24 : decode cX4_hadStopping 24 = .ok (.istore_n 3, 1) := by decide +kernel
theorem dX4_hadStopping_25 : decode cX4_hadStopping 25 = .ok (.iload_n 3, 1) := by decide +kernel
theorem dX4_hadStopping_26 : decode cX4_hadStopping 26 = .ok (.bipush 60, 2) := by decide +kernel
theorem dX4_hadStopping_28 : decode cX4_hadStopping 28 = .ok (.if_icmp .ge 47, 3) := by decide +kernel
theorem dX4_hadStopping_31 : decode cX4_hadStopping 31 = .ok (.aload_n 0, 1) := by decide +kernel
theorem dX4_hadStopping_32 : decode cX4_hadStopping 32 = .ok (.getfield 33, 3) := by decide +kernel
theorem dX4_hadStopping_35 : decode cX4_hadStopping 35 = .ok (.getfield 106, 3) := by decide +kernel
theorem dX4_hadStopping_38 : decode cX4_hadStopping 38 = .ok (.iload_n 1, 1) := by decide +kernel
theorem dX4_hadStopping_39 : decode cX4_hadStopping 39 = .ok (.iaload, 1) := by decide +kernel
theorem dX4_hadStopping_40 : decode cX4_hadStopping 40 = .ok (.iconst 1, 1) := by decide +kernel
theorem dX4_hadStopping_41 : decode cX4_hadStopping 41 = .ok (.if_icmp .ne 16, 3) := by decide +kernel
theorem dX4_hadStopping_44 : decode cX4_hadStopping 44 = .ok (.aload_n 0, 1) := by decide +kernel
theorem dX4_hadStopping_45 : decode cX4_hadStopping 45 = .ok (.getfield 33, 3) := by decide +kernel
theorem dX4_hadStopping_48 : decode cX4_hadStopping 48 = .ok (.aload_n 0, 1) := by decide +kernel
theorem dX4_hadStopping_49 : decode cX4_hadStopping 49 = .ok (.getfield 19, 3) := by decide +kernel
theorem dX4_hadStopping_52 : decode cX4_hadStopping 52 = .ok (.iload_n 1, 1) := by decide +kernel
theorem dX4_hadStopping_53 : decode cX4_hadStopping 53 = .ok (.iconst 3, 1) := by decide +kernel
theorem dX4_hadStopping_54 : decode cX4_hadStopping 54 = .ok (.invokevirtual 231, 3) := by decide +kernel
theorem dX4_hadStopping_57 : decode cX4_hadStopping 57 = .ok (.aload_n 0, 1) := by decide +kernel
theorem dX4_hadStopping_58 : decode cX4_hadStopping 58 = .ok (.getfield 33, 3) := by decide +kernel
theorem dX4_hadStopping_61 : decode cX4_hadStopping 61 = .ok (.aload_n 0, 1) := by decide +kernel
theorem dX4_hadStopping_62 : decode cX4_hadStopping 62 = .ok (.getfield 19, 3) := by decide +kernel
theorem dX4_hadStopping_65 : decode cX4_hadStopping 65 = .ok (.iconst 1, 1) := by decide +kernel
theorem dX4_hadStopping_66 : decode cX4_hadStopping 66 = .ok (.invokevirtual 136, 3) := by decide +kernel
theorem dX4_hadStopping_69 : decode cX4_hadStopping 69 = .ok (.iinc 3 1, 3) := by decide +kernel
theorem dX4_hadStopping_72 : decode cX4_hadStopping 72 = .ok (.goto (-47), 3) := by decide +kernel
theorem dX4_hadStopping_75 : decode cX4_hadStopping 75 = .ok (.aload_n 0, 1) := by decide +kernel
theorem dX4_hadStopping_76 : decode cX4_hadStopping 76 = .ok (.getfield 33, 3) := by decide +kernel
theorem dX4_hadStopping_79 : decode cX4_hadStopping 79 = .ok (.getfield 140, 3) := by decide +kernel
theorem dX4_hadStopping_82 : decode cX4_hadStopping 82 = .ok (.ireturn, 1) := by decide +kernel
set_option maxRecDepth 20000 in
theorem ggX4_hadPinning_X2_copyOf : GoodIn wsX4_hadPinning wsX2_copyOf := goodIn_r _ [10, 11, 12, 13, 14, 15, 16, 17, 18, 19, 20, 89, 90, 91, 92, 93, 94] (by decide +kernel) (by decide +kernel)
set_option maxRecDepth 20000 in
theorem gX4_hadPinning_X2_copyOf : GoodIn wsX4_hadPinning (wsV RX4 162 RX2 yX2_copyOf wsX2_copyOf) := goodIn_app (goodIn_of _ (by decide +kernel)) ggX4_hadPinning_X2_copyOf
set_option maxRecDepth 20000 in
theorem ggX4_hadPinning_X2_finish : GoodIn wsX4_hadPinning wsX2_finish := goodIn_r _ [24, 13, 25, 26, 27, 18, 11, 28, 29, 30, 31, 32, 89, 90, 91, 92, 93, 94, 76, 77, 78, 79, 80, 81, 82, 83, 84, 85, 86, 87, 88] (by decide +kernel) (by decide +kernel)
set_option maxRecDepth 20000 in
theorem gX4_hadPinning_X2_finish : GoodIn wsX4_hadPinning (wsV RX4 231 RX2 yX2_finish wsX2_finish) := goodIn_app (goodIn_of _ (by decide +kernel)) ggX4_hadPinning_X2_finish
set_option maxRecDepth 20000 in
theorem ggX4_hadPinning_X2_goBy : GoodIn wsX4_hadPinning wsX2_goBy := goodIn_r _ [36, 12, 37, 38, 39, 9, 40, 41, 13, 18, 11, 19, 42, 43, 44, 45, 46, 47, 48, 49, 50, 51, 52, 53, 54, 55, 56, 30, 31, 32, 57, 58, 59, 60, 61, 62, 63, 64, 65, 22, 23, 24, 25, 26, 27, 28, 29, 89, 90, 91, 92, 93, 94, 76, 77, 78, 79, 80, 81, 82, 83, 84, 85, 86, 87, 88] (by decide +kernel) (by decide +kernel)
set_option maxRecDepth 20000 in
theorem gX4_hadPinning_X2_goBy : GoodIn wsX4_hadPinning (wsV RX4 136 RX2 yX2_goBy wsX2_goBy) := goodIn_app (goodIn_of _ (by decide +kernel)) ggX4_hadPinning_X2_goBy
theorem dX4_hadPinning_0 : decode cX4_hadPinning 0 = .ok (.aload_n 0, 1) := by decide +kernel
theorem dX4_hadPinning_1 : decode cX4_hadPinning 1 = .ok (.getfield 33, 3) := by decide +kernel
theorem dX4_hadPinning_4 : decode cX4_hadPinning 4 = .ok (.aload_n 0, 1) := by decide +kernel
theorem dX4_hadPinning_5 : decode cX4_hadPinning 5 = .ok (.getfield 29, 3) := by decide +kernel
theorem dX4_hadPinning_8 : decode cX4_hadPinning 8 = .ok (.invokevirtual 162, 3) := by decide +kernel
theorem dX4_hadPinning_11 : decode cX4_hadPinning 11 = .ok (.iconst 0, 1) := by decide +kernel
theorem dX4_hadPinning_12 : decode cX4_hadPinning 12 = .ok (.istore_n 2, 1) := by decide +kernel
theorem dX4_hadPinning_13 : decode cX4_hadPinning 13 = .ok (.iload_n 2, 1) := by decide +kernel
theorem dX4_hadPinning_14 : decode cX4_hadPinning 14 = .ok (.aload_n 0, 1) := by decide +kernel
theorem dX4_hadPinning_15 : decode cX4_hadPinning 15 = .ok (.getfield 19, 3) := by decide +kernel
theorem dX4_hadPinning_18 : decode cX4_hadPinning 18 = .ok (.getfield 82, 3) := by decide +kernel
theorem dX4_hadPinning_21 : decode cX4_hadPinning 21 = .ok (.if_icmp .ge 31, 3) := by decide +kernel
theorem dX4_hadPinning_24 : decode cX4_hadPinning 24 = .ok (.iload_n 1, 1) := by decide +kernel
theorem dX4_hadPinning_25 : decode cX4_hadPinning 25 = .ok (.iload_n 2, 1) := by decide +kernel
theorem dX4_hadPinning_26 : decode cX4_hadPinning 26 = .ok (.ishr, 1) := by decide +kernel
theorem dX4_hadPinning_27 : decode cX4_hadPinning 27 = .ok (.iconst 1, 1) := by decide +kernel
theorem dX4_hadPinning_28 : decode cX4_hadPinning 28 = .ok (.iand, 1) := by decide +kernel
theorem dX4_hadPinning_29 : decode cX4_hadPinning 29 = .ok (.iconst 1, 1) := by decide +kernel
theorem dX4_hadPinning_30 : decode cX4_hadPinning 30 = .ok (.if_icmp .ne 16, 3) := by decide +kernel
theorem dX4_hadPinning_33 : decode cX4_hadPinning 33 = .ok (.aload_n 0, 1) := by decide +kernel
theorem dX4_hadPinning_34 : decode cX4_hadPinning 34 = .ok (.getfield 33, 3) := by decide +kernel
theorem dX4_hadPinning_37 : decode cX4_hadPinning 37 = .ok (.aload_n 0, 1) := by decide +kernel
theorem dX4_hadPinning_38 : decode cX4_hadPinning 38 = .ok (.getfield 19, 3) := by decide +kernel
theorem dX4_hadPinning_41 : decode cX4_hadPinning 41 = .ok (.iload_n 2, 1) := by decide +kernel
theorem dX4_hadPinning_42 : decode cX4_hadPinning 42 = .ok (.iconst 3, 1) := by decide +kernel
theorem dX4_hadPinning_43 : decode cX4_hadPinning 43 = .ok (.invokevirtual 231, 3) := by decide +kernel
theorem dX4_hadPinning_46 : decode cX4_hadPinning 46 = .ok (.iinc 2 1, 3) := by decide +kernel
theorem dX4_hadPinning_49 : decode cX4_hadPinning 49 = .ok (.goto (-36), 3) := by decide +kernel
theorem dX4_hadPinning_52 : decode cX4_hadPinning 52 = .ok (.aload_n 0, 1) := by decide +kernel
theorem dX4_hadPinning_53 : decode cX4_hadPinning 53 = .ok (.getfield 33, 3) := by decide +kernel
theorem dX4_hadPinning_56 : decode cX4_hadPinning 56 = .ok (.aload_n 0, 1) := by decide +kernel
theorem dX4_hadPinning_57 : decode cX4_hadPinning 57 = .ok (.getfield 19, 3) := by decide +kernel
theorem dX4_hadPinning_60 : decode cX4_hadPinning 60 = .ok (.bipush 60, 2) := by decide +kernel
theorem dX4_hadPinning_62 : decode cX4_hadPinning 62 = .ok (.invokevirtual 136, 3) := by decide +kernel
theorem dX4_hadPinning_65 : decode cX4_hadPinning 65 = .ok (.aload_n 0, 1) := by decide +kernel
theorem dX4_hadPinning_66 : decode cX4_hadPinning 66 = .ok (.getfield 33, 3) := by decide +kernel
theorem dX4_hadPinning_69 : decode cX4_hadPinning 69 = .ok (.getfield 140, 3) := by decide +kernel
theorem dX4_hadPinning_72 : decode cX4_hadPinning 72 = .ok (.ireturn, 1) := by decide +kernel
set_option maxRecDepth 20000 in
theorem ggX4_hadWithout_X2_copyOf : GoodIn wsX4_hadWithout wsX2_copyOf := goodIn_r _ [10, 11, 12, 13, 14, 15, 16, 17, 18, 19, 20, 75, 76, 77, 78, 79, 80] (by decide +kernel) (by decide +kernel)
set_option maxRecDepth 20000 in
theorem gX4_hadWithout_X2_copyOf : GoodIn wsX4_hadWithout (wsV RX4 162 RX2 yX2_copyOf wsX2_copyOf) := goodIn_app (goodIn_of _ (by decide +kernel)) ggX4_hadWithout_X2_copyOf
set_option maxRecDepth 20000 in
theorem ggX4_hadWithout_X2_goBy : GoodIn wsX4_hadWithout wsX2_goBy := goodIn_r _ [24, 12, 25, 26, 27, 9, 28, 29, 13, 18, 11, 19, 30, 31, 32, 33, 34, 35, 36, 37, 38, 39, 40, 41, 42, 43, 44, 45, 46, 47, 48, 49, 50, 51, 52, 53, 54, 55, 56, 57, 58, 59, 60, 61, 62, 63, 64, 75, 76, 77, 78, 79, 80, 81, 82, 83, 84, 85, 86, 87, 88, 89, 90, 91, 92, 93] (by decide +kernel) (by decide +kernel)
set_option maxRecDepth 20000 in
theorem gX4_hadWithout_X2_goBy : GoodIn wsX4_hadWithout (wsV RX4 136 RX2 yX2_goBy wsX2_goBy) := goodIn_app (goodIn_of _ (by decide +kernel)) ggX4_hadWithout_X2_goBy
theorem dX4_hadWithout_0 : decode cX4_hadWithout 0 = .ok (.aload_n 0, 1) := by decide +kernel
theorem dX4_hadWithout_1 : decode cX4_hadWithout 1 = .ok (.getfield 33, 3) := by decide +kernel
theorem dX4_hadWithout_4 : decode cX4_hadWithout 4 = .ok (.aload_n 0, 1) := by decide +kernel
theorem dX4_hadWithout_5 : decode cX4_hadWithout 5 = .ok (.getfield 29, 3) := by decide +kernel
theorem dX4_hadWithout_8 : decode cX4_hadWithout 8 = .ok (.invokevirtual 162, 3) := by decide +kernel
theorem dX4_hadWithout_11 : decode cX4_hadWithout 11 = .ok (.aload_n 0, 1) := by decide +kernel
theorem dX4_hadWithout_12 : decode cX4_hadWithout 12 = .ok (.getfield 33, 3) := by decide +kernel
theorem dX4_hadWithout_15 : decode cX4_hadWithout 15 = .ok (.getfield 106, 3) := by decide +kernel
theorem dX4_hadWithout_18 : decode cX4_hadWithout 18 = .ok (.iload_n 1, 1) := by decide +kernel
theorem dX4_hadWithout_19 : decode cX4_hadWithout 19 = .ok (.iconst 3, 1) := by decide +kernel
theorem dX4_hadWithout_20 : decode cX4_hadWithout 20 = .ok (.iastore, 1) := by decide +kernel
theorem dX4_hadWithout_21 : decode cX4_hadWithout 21 = .ok (.aload_n 0, 1) := by decide +kernel
theorem dX4_hadWithout_22 : decode cX4_hadWithout 22 = .ok (.getfield 33, 3) := by decide +kernel
theorem dX4_hadWithout_25 : decode cX4_hadWithout 25 = .ok (.aload_n 0, 1) := by decide +kernel
theorem dX4_hadWithout_26 : decode cX4_hadWithout 26 = .ok (.getfield 19, 3) := by decide +kernel
theorem dX4_hadWithout_29 : decode cX4_hadWithout 29 = .ok (.bipush 60, 2) := by decide +kernel
theorem dX4_hadWithout_31 : decode cX4_hadWithout 31 = .ok (.invokevirtual 136, 3) := by decide +kernel
theorem dX4_hadWithout_34 : decode cX4_hadWithout 34 = .ok (.aload_n 0, 1) := by decide +kernel
theorem dX4_hadWithout_35 : decode cX4_hadWithout 35 = .ok (.getfield 33, 3) := by decide +kernel
theorem dX4_hadWithout_38 : decode cX4_hadWithout 38 = .ok (.getfield 140, 3) := by decide +kernel
theorem dX4_hadWithout_41 : decode cX4_hadWithout 41 = .ok (.ireturn, 1) := by decide +kernel
set_option maxRecDepth 20000 in
theorem ggX4_hadLate_X2_copyOf : GoodIn wsX4_hadLate wsX2_copyOf := goodIn_r _ [11, 12, 13, 14, 15, 16, 17, 18, 19, 20, 21, 89, 90, 91, 92, 93, 94] (by decide +kernel) (by decide +kernel)
set_option maxRecDepth 20000 in
theorem gX4_hadLate_X2_copyOf : GoodIn wsX4_hadLate (wsV RX4 162 RX2 yX2_copyOf wsX2_copyOf) := goodIn_app (goodIn_of _ (by decide +kernel)) ggX4_hadLate_X2_copyOf
set_option maxRecDepth 20000 in
theorem ggX4_hadLate_X2_goBy : GoodIn wsX4_hadLate wsX2_goBy := goodIn_r _ [25, 13, 26, 27, 28, 10, 29, 30, 14, 19, 12, 20, 31, 32, 33, 34, 35, 36, 37, 38, 39, 40, 41, 42, 43, 44, 45, 46, 47, 48, 49, 50, 51, 52, 53, 54, 55, 56, 57, 58, 59, 60, 61, 62, 63, 64, 65, 89, 90, 91, 92, 93, 94, 76, 77, 78, 79, 80, 81, 82, 83, 84, 85, 86, 87, 88] (by decide +kernel) (by decide +kernel)
set_option maxRecDepth 20000 in
theorem gX4_hadLate_X2_goBy : GoodIn wsX4_hadLate (wsV RX4 136 RX2 yX2_goBy wsX2_goBy) := goodIn_app (goodIn_of _ (by decide +kernel)) ggX4_hadLate_X2_goBy
theorem dX4_hadLate_0 : decode cX4_hadLate 0 = .ok (.aload_n 0, 1) := by decide +kernel
theorem dX4_hadLate_1 : decode cX4_hadLate 1 = .ok (.getfield 33, 3) := by decide +kernel
theorem dX4_hadLate_4 : decode cX4_hadLate 4 = .ok (.aload_n 0, 1) := by decide +kernel
theorem dX4_hadLate_5 : decode cX4_hadLate 5 = .ok (.getfield 29, 3) := by decide +kernel
theorem dX4_hadLate_8 : decode cX4_hadLate 8 = .ok (.invokevirtual 162, 3) := by decide +kernel
theorem dX4_hadLate_11 : decode cX4_hadLate 11 = .ok (.iconst 0, 1) := by decide +kernel
theorem dX4_hadLate_12 : decode cX4_hadLate 12 = .ok (.istore_n 3, 1) := by decide +kernel
theorem dX4_hadLate_13 : decode cX4_hadLate 13 = .ok (.iload_n 3, 1) := by decide +kernel
theorem dX4_hadLate_14 : decode cX4_hadLate 14 = .ok (.aload_n 0, 1) := by decide +kernel
theorem dX4_hadLate_15 : decode cX4_hadLate 15 = .ok (.getfield 19, 3) := by decide +kernel
theorem dX4_hadLate_18 : decode cX4_hadLate 18 = .ok (.getfield 82, 3) := by decide +kernel
theorem dX4_hadLate_21 : decode cX4_hadLate 21 = .ok (.if_icmp .ge 31, 3) := by decide +kernel
theorem dX4_hadLate_24 : decode cX4_hadLate 24 = .ok (.iload_n 1, 1) := by decide +kernel
theorem dX4_hadLate_25 : decode cX4_hadLate 25 = .ok (.iload_n 3, 1) := by decide +kernel
theorem dX4_hadLate_26 : decode cX4_hadLate 26 = .ok (.ishr, 1) := by decide +kernel
theorem dX4_hadLate_27 : decode cX4_hadLate 27 = .ok (.iconst 1, 1) := by decide +kernel
theorem dX4_hadLate_28 : decode cX4_hadLate 28 = .ok (.iand, 1) := by decide +kernel
theorem dX4_hadLate_29 : decode cX4_hadLate 29 = .ok (.iconst 1, 1) := by decide +kernel
theorem dX4_hadLate_30 : decode cX4_hadLate 30 = .ok (.if_icmp .ne 16, 3) := by decide +kernel
theorem dX4_hadLate_33 : decode cX4_hadLate 33 = .ok (.aload_n 0, 1) := by decide +kernel
theorem dX4_hadLate_34 : decode cX4_hadLate 34 = .ok (.getfield 33, 3) := by decide +kernel
theorem dX4_hadLate_37 : decode cX4_hadLate 37 = .ok (.getfield 234, 3) := by decide +kernel
theorem dX4_hadLate_40 : decode cX4_hadLate 40 = .ok (.iload_n 3, 1) := by decide +kernel
theorem dX4_hadLate_41 : decode cX4_hadLate 41 = .ok (.dup2, 1) := by decide +kernel
theorem dX4_hadLate_42 : decode cX4_hadLate 42 = .ok (.iaload, 1) := by decide +kernel
theorem dX4_hadLate_43 : decode cX4_hadLate 43 = .ok (.iload_n 2, 1) := by decide +kernel
theorem dX4_hadLate_44 : decode cX4_hadLate 44 = .ok (.iadd, 1) := by decide +kernel
theorem dX4_hadLate_45 : decode cX4_hadLate 45 = .ok (.iastore, 1) := by decide +kernel
theorem dX4_hadLate_46 : decode cX4_hadLate 46 = .ok (.iinc 3 1, 3) := by decide +kernel
theorem dX4_hadLate_49 : decode cX4_hadLate 49 = .ok (.goto (-36), 3) := by decide +kernel
theorem dX4_hadLate_52 : decode cX4_hadLate 52 = .ok (.aload_n 0, 1) := by decide +kernel
theorem dX4_hadLate_53 : decode cX4_hadLate 53 = .ok (.getfield 33, 3) := by decide +kernel
theorem dX4_hadLate_56 : decode cX4_hadLate 56 = .ok (.aload_n 0, 1) := by decide +kernel
theorem dX4_hadLate_57 : decode cX4_hadLate 57 = .ok (.getfield 19, 3) := by decide +kernel
theorem dX4_hadLate_60 : decode cX4_hadLate 60 = .ok (.bipush 60, 2) := by decide +kernel
theorem dX4_hadLate_62 : decode cX4_hadLate 62 = .ok (.invokevirtual 136, 3) := by decide +kernel
theorem dX4_hadLate_65 : decode cX4_hadLate 65 = .ok (.aload_n 0, 1) := by decide +kernel
theorem dX4_hadLate_66 : decode cX4_hadLate 66 = .ok (.getfield 33, 3) := by decide +kernel
theorem dX4_hadLate_69 : decode cX4_hadLate 69 = .ok (.getfield 140, 3) := by decide +kernel
theorem dX4_hadLate_72 : decode cX4_hadLate 72 = .ok (.ireturn, 1) := by decide +kernel
theorem dX4_chanceOf_0 : decode cX4_chanceOf 0 = .ok (.iconst 1, 1) := by decide +kernel
theorem dX4_chanceOf_1 : decode cX4_chanceOf 1 = .ok (.istore 4, 2) := by decide +kernel
theorem dX4_chanceOf_3 : decode cX4_chanceOf 3 = .ok (.iconst 0, 1) := by decide +kernel
theorem dX4_chanceOf_4 : decode cX4_chanceOf 4 = .ok (.istore 5, 2) := by decide +kernel
theorem dX4_chanceOf_6 : decode cX4_chanceOf 6 = .ok (.iload 5, 2) := by decide +kernel
theorem dX4_chanceOf_8 : decode cX4_chanceOf 8 = .ok (.bipush 7, 2) := by decide +kernel
theorem dX4_chanceOf_10 : decode cX4_chanceOf 10 = .ok (.if_icmp .ge 39, 3) := by decide +kernel
theorem dX4_chanceOf_13 : decode cX4_chanceOf 13 = .ok (.iload_n 1, 1) := by decide +kernel
theorem dX4_chanceOf_14 : decode cX4_chanceOf 14 = .ok (.iload 5, 2) := by decide +kernel
theorem dX4_chanceOf_16 : decode cX4_chanceOf 16 = .ok (.ishr, 1) := by decide +kernel
theorem dX4_chanceOf_17 : decode cX4_chanceOf 17 = .ok (.iconst 1, 1) := by decide +kernel
theorem dX4_chanceOf_18 : decode cX4_chanceOf 18 = .ok (.iand, 1) := by decide +kernel
theorem dX4_chanceOf_19 : decode cX4_chanceOf 19 = .ok (.iconst 1, 1) := by decide +kernel
theorem dX4_chanceOf_20 : decode cX4_chanceOf 20 = .ok (.if_icmp .ne 23, 3) := by decide +kernel
theorem dX4_chanceOf_23 : decode cX4_chanceOf 23 = .ok (.iload 4, 2) := by decide +kernel
theorem dX4_chanceOf_25 : decode cX4_chanceOf 25 = .ok (.iload_n 0, 1) := by decide +kernel
theorem dX4_chanceOf_26 : decode cX4_chanceOf 26 = .ok (.iload 5, 2) := by decide +kernel
theorem dX4_chanceOf_28 : decode cX4_chanceOf 28 = .ok (.ishr, 1) := by decide +kernel
theorem dX4_chanceOf_29 : decode cX4_chanceOf 29 = .ok (.iconst 1, 1) := by decide +kernel
theorem dX4_chanceOf_30 : decode cX4_chanceOf 30 = .ok (.iand, 1) := by decide +kernel
theorem dX4_chanceOf_31 : decode cX4_chanceOf 31 = .ok (.iconst 1, 1) := by decide +kernel
theorem dX4_chanceOf_32 : decode cX4_chanceOf 32 = .ok (.if_icmp .ne 7, 3) := by decide +kernel
theorem dX4_chanceOf_35 : decode cX4_chanceOf 35 = .ok (.iload_n 2, 1) := by decide +kernel
theorem dX4_chanceOf_36 : decode cX4_chanceOf 36 = .ok (.goto 4, 3) := by decide +kernel
theorem dX4_chanceOf_39 : decode cX4_chanceOf 39 = .ok (.iload_n 3, 1) := by decide +kernel
theorem dX4_chanceOf_40 : decode cX4_chanceOf 40 = .ok (.imul, 1) := by decide +kernel
theorem dX4_chanceOf_41 : decode cX4_chanceOf 41 = .ok (.istore 4, 2) := by decide +kernel
theorem dX4_chanceOf_43 : decode cX4_chanceOf 43 = .ok (.iinc 5 1, 3) := by decide +kernel
theorem dX4_chanceOf_46 : decode cX4_chanceOf 46 = .ok (.goto (-40), 3) := by decide +kernel
theorem dX4_chanceOf_49 : decode cX4_chanceOf 49 = .ok (.iload 4, 2) := by decide +kernel
theorem dX4_chanceOf_51 : decode cX4_chanceOf 51 = .ok (.ireturn, 1) := by decide +kernel
theorem dX4_commonDivisor_0 : decode cX4_commonDivisor 0 = .ok (.iload_n 0, 1) := by decide +kernel
theorem dX4_commonDivisor_1 : decode cX4_commonDivisor 1 = .ok (.istore_n 2, 1) := by decide +kernel
theorem dX4_commonDivisor_2 : decode cX4_commonDivisor 2 = .ok (.iload_n 1, 1) := by decide +kernel
theorem dX4_commonDivisor_3 : decode cX4_commonDivisor 3 = .ok (.istore_n 3, 1) := by decide +kernel
theorem dX4_commonDivisor_4 : decode cX4_commonDivisor 4 = .ok (.iconst 0, 1) := by decide +kernel
theorem dX4_commonDivisor_5 : decode cX4_commonDivisor 5 = .ok (.istore 4, 2) := by decide +kernel
theorem dX4_commonDivisor_7 : decode cX4_commonDivisor 7 = .ok (.iload 4, 2) := by decide +kernel
theorem dX4_commonDivisor_9 : decode cX4_commonDivisor 9 = .ok (.bipush 100, 2) := by decide +kernel
theorem dX4_commonDivisor_11 : decode cX4_commonDivisor 11 = .ok (.if_icmp .ge 23, 3) := by decide +kernel
theorem dX4_commonDivisor_14 : decode cX4_commonDivisor 14 = .ok (.iload_n 3, 1) := by decide +kernel
theorem dX4_commonDivisor_15 : decode cX4_commonDivisor 15 = .ok (.ifCond .eq 19, 3) := by decide +kernel
theorem dX4_commonDivisor_18 : decode cX4_commonDivisor 18 = .ok (.iload_n 2, 1) := by decide +kernel
theorem dX4_commonDivisor_19 : decode cX4_commonDivisor 19 = .ok (.iload_n 3, 1) := by decide +kernel
theorem dX4_commonDivisor_20 : decode cX4_commonDivisor 20 = .ok (.irem, 1) := by decide +kernel
theorem dX4_commonDivisor_21 : decode cX4_commonDivisor 21 = .ok (.istore 5, 2) := by decide +kernel
theorem dX4_commonDivisor_23 : decode cX4_commonDivisor 23 = .ok (.iload_n 3, 1) := by decide +kernel
theorem dX4_commonDivisor_24 : decode cX4_commonDivisor 24 = .ok (.istore_n 2, 1) := by decide +kernel
theorem dX4_commonDivisor_25 : decode cX4_commonDivisor 25 = .ok (.iload 5, 2) := by decide +kernel
theorem dX4_commonDivisor_27 : decode cX4_commonDivisor 27 = .ok (.istore_n 3, 1) := by decide +kernel
theorem dX4_commonDivisor_28 : decode cX4_commonDivisor 28 = .ok (.iinc 4 1, 3) := by decide +kernel
theorem dX4_commonDivisor_31 : decode cX4_commonDivisor 31 = .ok (.goto (-24), 3) := by decide +kernel
theorem dX4_commonDivisor_34 : decode cX4_commonDivisor 34 = .ok (.iload_n 2, 1) := by decide +kernel
theorem dX4_commonDivisor_35 : decode cX4_commonDivisor 35 = .ok (.ireturn, 1) := by decide +kernel
set_option maxRecDepth 20000 in
theorem ggX4_allNotedSo_X4_worth : GoodIn wsX4_allNotedSo wsX4_worth := goodIn_r _ [7, 8, 9, 10, 11, 12, 13, 14] (by decide +kernel) (by decide +kernel)
set_option maxRecDepth 20000 in
theorem gX4_allNotedSo_X4_worth : GoodIn wsX4_allNotedSo (va_wsS RX4 237 yX4_worth wsX4_worth) := goodIn_app (goodIn_of _ (by decide +kernel)) ggX4_allNotedSo_X4_worth
theorem dX4_allNotedSo_0 : decode cX4_allNotedSo 0 = .ok (.iconst 0, 1) := by decide +kernel
theorem dX4_allNotedSo_1 : decode cX4_allNotedSo 1 = .ok (.istore 4, 2) := by decide +kernel
theorem dX4_allNotedSo_3 : decode cX4_allNotedSo 3 = .ok (.iload 4, 2) := by decide +kernel
theorem dX4_allNotedSo_5 : decode cX4_allNotedSo 5 = .ok (.aload_n 0, 1) := by decide +kernel
theorem dX4_allNotedSo_6 : decode cX4_allNotedSo 6 = .ok (.getfield 88, 3) := by decide +kernel
theorem dX4_allNotedSo_9 : decode cX4_allNotedSo 9 = .ok (.if_icmp .ge 41, 3) := by decide +kernel
theorem dX4_allNotedSo_12 : decode cX4_allNotedSo 12 = .ok (.iload 4, 2) := by decide +kernel
theorem dX4_allNotedSo_14 : decode cX4_allNotedSo 14 = .ok (.bipush 8, 2) := by decide +kernel
theorem dX4_allNotedSo_16 : decode cX4_allNotedSo 16 = .ok (.if_icmp .ge 34, 3) := by decide +kernel
theorem dX4_allNotedSo_19 : decode cX4_allNotedSo 19 = .ok (.iload_n 1, 1) := by decide +kernel
theorem dX4_allNotedSo_20 : decode cX4_allNotedSo 20 = .ok (.iload_n 2, 1) := by decide +kernel
theorem dX4_allNotedSo_21 : decode cX4_allNotedSo 21 = .ok (.iload_n 3, 1) := by decide +kernel
theorem dX4_allNotedSo_22 : decode cX4_allNotedSo 22 = .ok (.aload_n 0, 1) := by decide +kernel
theorem dX4_allNotedSo_23 : decode cX4_allNotedSo 23 = .ok (.getfield 48, 3) := by decide +kernel
theorem dX4_allNotedSo_26 : decode cX4_allNotedSo 26 = .ok (.iload 4, 2) := by decide +kernel
theorem dX4_allNotedSo_28 : decode cX4_allNotedSo 28 = .ok (.iaload, 1) := by decide +kernel
theorem dX4_allNotedSo_29 : decode cX4_allNotedSo 29 = .ok (.invokestatic 237, 3) := by decide +kernel
theorem dX4_allNotedSo_32 : decode cX4_allNotedSo 32 = .ok (.aload_n 0, 1) := by decide +kernel
theorem dX4_allNotedSo_33 : decode cX4_allNotedSo 33 = .ok (.getfield 52, 3) := by decide +kernel
theorem dX4_allNotedSo_36 : decode cX4_allNotedSo 36 = .ok (.iload 4, 2) := by decide +kernel
theorem dX4_allNotedSo_38 : decode cX4_allNotedSo 38 = .ok (.iaload, 1) := by decide +kernel
theorem dX4_allNotedSo_39 : decode cX4_allNotedSo 39 = .ok (.if_icmp .eq 5, 3) := by decide +kernel
theorem dX4_allNotedSo_42 : decode cX4_allNotedSo 42 = .ok (.iconst 0, 1) := by decide +kernel
theorem dX4_allNotedSo_43 : decode cX4_allNotedSo 43 = .ok (.ireturn, 1) := by decide +kernel
theorem dX4_allNotedSo_44 : decode cX4_allNotedSo 44 = .ok (.iinc 4 1, 3) := by decide +kernel
theorem dX4_allNotedSo_47 : decode cX4_allNotedSo 47 = .ok (.goto (-44), 3) := by decide +kernel
theorem dX4_allNotedSo_50 : decode cX4_allNotedSo 50 = .ok (.iconst 1, 1) := by decide +kernel
theorem dX4_allNotedSo_51 : decode cX4_allNotedSo 51 = .ok (.ireturn, 1) := by decide +kernel
theorem dX4_draw_0 : decode cX4_draw 0 = .ok (.ldc2_w 240, 3) := by decide +kernel
theorem dX4_draw_3 : decode cX4_draw 3 = .ok (.iload_n 0, 1) := by decide +kernel
theorem dX4_draw_4 : decode cX4_draw 4 = .ok (.i2l, 1) := by decide +kernel
theorem dX4_draw_5 : decode cX4_draw 5 = .ok (.lmul, 1) := by decide +kernel
theorem dX4_draw_6 : decode cX4_draw 6 = .ok (.ldc2_w 242, 3) := by decide +kernel
theorem dX4_draw_9 : decode cX4_draw 9 = .ok (.iload_n 1, 1) := by decide +kernel
theorem dX4_draw_10 : decode cX4_draw 10 = .ok (.i2l, 1) := by decide +kernel
theorem dX4_draw_11 : decode cX4_draw 11 = .ok (.lmul, 1) := by decide +kernel
theorem dX4_draw_12 : decode cX4_draw 12 = .ok (.ladd, 1) := by decide +kernel
theorem dX4_draw_13 : decode cX4_draw 13 = .ok (.lconst 1, 1) := by decide +kernel
theorem dX4_draw_14 : decode cX4_draw 14 = .ok (.ladd, 1) := by decide +kernel
theorem dX4_draw_15 : decode cX4_draw 15 = .ok (.lstore_n 2, 1) := by decide +kernel
theorem dX4_draw_16 : decode cX4_draw 16 = .ok (.lload_n 2, 1) := by decide +kernel
theorem dX4_draw_17 : decode cX4_draw 17 = .ok (.lload_n 2, 1) := by decide +kernel
theorem dX4_draw_18 : decode cX4_draw 18 = .ok (.lmul, 1) := by decide +kernel
theorem dX4_draw_19 : decode cX4_draw 19 = .ok (.ldc2_w 244, 3) := by decide +kernel
theorem dX4_draw_22 : decode cX4_draw 22 = .ok (.lrem, 1) := by decide +kernel
theorem dX4_draw_23 : decode cX4_draw 23 = .ok (.l2i, 1) := by decide +kernel
theorem dX4_draw_24 : decode cX4_draw 24 = .ok (.ireturn, 1) := by decide +kernel
set_option maxRecDepth 20000 in
theorem ggX4_actInTrial_X2_canPin : GoodIn wsX4_actInTrial wsX2_canPin := goodIn_r _ [10, 11, 12, 13, 14, 47, 48, 49, 50, 51, 52, 53, 54, 55, 56, 57, 58, 59, 60, 61, 62, 63, 64, 65] (by decide +kernel) (by decide +kernel)
set_option maxRecDepth 20000 in
theorem gX4_actInTrial_X2_canPin : GoodIn wsX4_actInTrial (wsV RX4 143 RX2 yX2_canPin wsX2_canPin) := goodIn_app (goodIn_of _ (by decide +kernel)) ggX4_actInTrial_X2_canPin
set_option maxRecDepth 20000 in
theorem ggX4_actInTrial_X2_pinBy : GoodIn wsX4_actInTrial wsX2_pinBy := goodIn_r _ [18, 13, 19, 20, 21, 9, 22, 14, 23, 24, 25, 26, 27, 28, 29, 30, 31, 32, 60, 61, 62, 63, 64, 65, 47, 48, 49, 50, 51, 52, 53, 54, 55, 56, 57, 58, 59] (by decide +kernel) (by decide +kernel)
set_option maxRecDepth 20000 in
theorem gX4_actInTrial_X2_pinBy : GoodIn wsX4_actInTrial (wsV RX4 147 RX2 yX2_pinBy wsX2_pinBy) := goodIn_app (goodIn_of _ (by decide +kernel)) ggX4_actInTrial_X2_pinBy
set_option maxRecDepth 20000 in
theorem ggX4_actInTrial_X2_lendPin : GoodIn wsX4_actInTrial wsX2_lendPin := goodIn_r _ [36, 13, 60, 61, 62, 63, 64, 65] (by decide +kernel) (by decide +kernel)
set_option maxRecDepth 20000 in
theorem gX4_actInTrial_X2_lendPin : GoodIn wsX4_actInTrial (wsV RX4 151 RX2 yX2_lendPin wsX2_lendPin) := goodIn_app (goodIn_of _ (by decide +kernel)) ggX4_actInTrial_X2_lendPin
theorem dX4_actInTrial_0 : decode cX4_actInTrial 0 = .ok (.aload_n 0, 1) := by decide +kernel
theorem dX4_actInTrial_1 : decode cX4_actInTrial 1 = .ok (.getfield 19, 3) := by decide +kernel
theorem dX4_actInTrial_4 : decode cX4_actInTrial 4 = .ok (.getfield 193, 3) := by decide +kernel
theorem dX4_actInTrial_7 : decode cX4_actInTrial 7 = .ok (.istore_n 2, 1) := by decide +kernel
theorem dX4_actInTrial_8 : decode cX4_actInTrial 8 = .ok (.aload_n 0, 1) := by decide +kernel
theorem dX4_actInTrial_9 : decode cX4_actInTrial 9 = .ok (.getfield 19, 3) := by decide +kernel
theorem dX4_actInTrial_12 : decode cX4_actInTrial 12 = .ok (.getfield 82, 3) := by decide +kernel
theorem dX4_actInTrial_15 : decode cX4_actInTrial 15 = .ok (.istore_n 3, 1) := by decide +kernel
theorem dX4_actInTrial_16 : decode cX4_actInTrial 16 = .ok (.iload_n 2, 1) := by decide +kernel
theorem dX4_actInTrial_17 : decode cX4_actInTrial 17 = .ok (.iconst 1, 1) := by decide +kernel
theorem dX4_actInTrial_18 : decode cX4_actInTrial 18 = .ok (.if_icmp .lt 8, 3) := by decide +kernel
theorem dX4_actInTrial_21 : decode cX4_actInTrial 21 = .ok (.iload_n 3, 1) := by decide +kernel
theorem dX4_actInTrial_22 : decode cX4_actInTrial 22 = .ok (.iconst 1, 1) := by decide +kernel
theorem dX4_actInTrial_23 : decode cX4_actInTrial 23 = .ok (.if_icmp .ge 4, 3) := by decide +kernel
theorem dX4_actInTrial_26 : decode cX4_actInTrial 26 = .ok (.return_, 1) := by decide +kernel
theorem dX4_actInTrial_27 : decode cX4_actInTrial 27 = .ok (.iload_n 1, 1) := by decide +kernel
theorem dX4_actInTrial_28 : decode cX4_actInTrial 28 = .ok (.bipush 8, 2) := by decide +kernel
theorem dX4_actInTrial_30 : decode cX4_actInTrial 30 = .ok (.irem, 1) := by decide +kernel
theorem dX4_actInTrial_31 : decode cX4_actInTrial 31 = .ok (.istore 4, 2) := by decide +kernel
theorem dX4_actInTrial_33 : decode cX4_actInTrial 33 = .ok (.iload_n 1, 1) := by decide +kernel
theorem dX4_actInTrial_34 : decode cX4_actInTrial 34 = .ok (.bipush 8, 2) := by decide +kernel
theorem dX4_actInTrial_36 : decode cX4_actInTrial 36 = .ok (.idiv, 1) := by decide +kernel
theorem dX4_actInTrial_37 : decode cX4_actInTrial 37 = .ok (.iload_n 2, 1) := by decide +kernel
theorem dX4_actInTrial_38 : decode cX4_actInTrial 38 = .ok (.irem, 1) := by decide +kernel
theorem dX4_actInTrial_39 : decode cX4_actInTrial 39 = .ok (.istore 5, 2) := by decide +kernel
theorem dX4_actInTrial_41 : decode cX4_actInTrial 41 = .ok (.iload_n 1, 1) := by decide +kernel
theorem dX4_actInTrial_42 : decode cX4_actInTrial 42 = .ok (.bipush 64, 2) := by decide +kernel
theorem dX4_actInTrial_44 : decode cX4_actInTrial 44 = .ok (.idiv, 1) := by decide +kernel
theorem dX4_actInTrial_45 : decode cX4_actInTrial 45 = .ok (.iload_n 3, 1) := by decide +kernel
theorem dX4_actInTrial_46 : decode cX4_actInTrial 46 = .ok (.irem, 1) := by decide +kernel
theorem dX4_actInTrial_47 : decode cX4_actInTrial 47 = .ok (.istore 6, 2) := by decide +kernel
theorem dX4_actInTrial_49 : decode cX4_actInTrial 49 = .ok (.iload_n 1, 1) := by decide +kernel
theorem dX4_actInTrial_50 : decode cX4_actInTrial 50 = .ok (.bipush 64, 2) := by decide +kernel
theorem dX4_actInTrial_52 : decode cX4_actInTrial 52 = .ok (.idiv, 1) := by decide +kernel
theorem dX4_actInTrial_53 : decode cX4_actInTrial 53 = .ok (.iload_n 2, 1) := by decide +kernel
theorem dX4_actInTrial_54 : decode cX4_actInTrial 54 = .ok (.irem, 1) := by decide +kernel
theorem dX4_actInTrial_55 : decode cX4_actInTrial 55 = .ok (.istore 7, 2) := by decide +kernel
theorem dX4_actInTrial_57 : decode cX4_actInTrial 57 = .ok (.iload 4, 2) := by decide +kernel
theorem dX4_actInTrial_59 : decode cX4_actInTrial 59 = .ok (.iconst 1, 1) := by decide +kernel
theorem dX4_actInTrial_60 : decode cX4_actInTrial 60 = .ok (.if_icmp .gt 36, 3) := by decide +kernel
theorem dX4_actInTrial_63 : decode cX4_actInTrial 63 = .ok (.aload_n 0, 1) := by decide +kernel
theorem dX4_actInTrial_64 : decode cX4_actInTrial 64 = .ok (.getfield 33, 3) := by decide +kernel
theorem dX4_actInTrial_67 : decode cX4_actInTrial 67 = .ok (.aload_n 0, 1) := by decide +kernel
theorem dX4_actInTrial_68 : decode cX4_actInTrial 68 = .ok (.getfield 19, 3) := by decide +kernel
theorem dX4_actInTrial_71 : decode cX4_actInTrial 71 = .ok (.iload 5, 2) := by decide +kernel
theorem dX4_actInTrial_73 : decode cX4_actInTrial 73 = .ok (.iload 6, 2) := by decide +kernel
theorem dX4_actInTrial_75 : decode cX4_actInTrial 75 = .ok (.invokevirtual 143, 3) := by decide +kernel
theorem dX4_actInTrial_78 : decode cX4_actInTrial 78 = .ok (.ifCond .eq 18, 3) := by decide +kernel
theorem dX4_actInTrial_81 : decode cX4_actInTrial 81 = .ok (.aload_n 0, 1) := by decide +kernel
theorem dX4_actInTrial_82 : decode cX4_actInTrial 82 = .ok (.getfield 33, 3) := by decide +kernel
theorem dX4_actInTrial_85 : decode cX4_actInTrial 85 = .ok (.aload_n 0, 1) := by decide +kernel
theorem dX4_actInTrial_86 : decode cX4_actInTrial 86 = .ok (.getfield 19, 3) := by decide +kernel
theorem dX4_actInTrial_89 : decode cX4_actInTrial 89 = .ok (.iload 5, 2) := by decide +kernel
theorem dX4_actInTrial_91 : decode cX4_actInTrial 91 = .ok (.iload 6, 2) := by decide +kernel
theorem dX4_actInTrial_93 : decode cX4_actInTrial 93 = .ok (.invokevirtual 147, 3) := by decide +kernel
theorem dX4_actInTrial_96 : decode cX4_actInTrial 96 = .ok (.iload 4, 2) := by decide +kernel
theorem dX4_actInTrial_98 : decode cX4_actInTrial 98 = .ok (.iconst 2, 1) := by decide +kernel
theorem dX4_actInTrial_99 : decode cX4_actInTrial 99 = .ok (.if_icmp .ne 49, 3) := by decide +kernel
theorem dX4_actInTrial_102 : decode cX4_actInTrial 102 = .ok (.iload 5, 2) := by decide +kernel
theorem dX4_actInTrial_104 : decode cX4_actInTrial 104 = .ok (.iload 7, 2) := by decide +kernel
theorem dX4_actInTrial_106 : decode cX4_actInTrial 106 = .ok (.if_icmp .eq 42, 3) := by decide +kernel
theorem dX4_actInTrial_109 : decode cX4_actInTrial 109 = .ok (.aload_n 0, 1) := by decide +kernel
theorem dX4_actInTrial_110 : decode cX4_actInTrial 110 = .ok (.getfield 33, 3) := by decide +kernel
theorem dX4_actInTrial_113 : decode cX4_actInTrial 113 = .ok (.getfield 120, 3) := by decide +kernel
theorem dX4_actInTrial_116 : decode cX4_actInTrial 116 = .ok (.iload 5, 2) := by decide +kernel
theorem dX4_actInTrial_118 : decode cX4_actInTrial 118 = .ok (.iaload, 1) := by decide +kernel
theorem dX4_actInTrial_119 : decode cX4_actInTrial 119 = .ok (.ifCond .le 29, 3) := by decide +kernel
theorem dX4_actInTrial_122 : decode cX4_actInTrial 122 = .ok (.aload_n 0, 1) := by decide +kernel
theorem dX4_actInTrial_123 : decode cX4_actInTrial 123 = .ok (.getfield 33, 3) := by decide +kernel
theorem dX4_actInTrial_126 : decode cX4_actInTrial 126 = .ok (.getfield 120, 3) := by decide +kernel
theorem dX4_actInTrial_129 : decode cX4_actInTrial 129 = .ok (.iload 7, 2) := by decide +kernel
theorem dX4_actInTrial_131 : decode cX4_actInTrial 131 = .ok (.iaload, 1) := by decide +kernel
theorem dX4_actInTrial_132 : decode cX4_actInTrial 132 = .ok (.bipush 9, 2) := by decide +kernel
theorem dX4_actInTrial_134 : decode cX4_actInTrial 134 = .ok (.if_icmp .ge 14, 3) := by decide +kernel
theorem dX4_actInTrial_137 : decode cX4_actInTrial 137 = .ok (.aload_n 0, 1) := by decide +kernel
theorem dX4_actInTrial_138 : decode cX4_actInTrial 138 = .ok (.getfield 33, 3) := by decide +kernel
theorem dX4_actInTrial_141 : decode cX4_actInTrial 141 = .ok (.iload 5, 2) := by decide +kernel
theorem dX4_actInTrial_143 : decode cX4_actInTrial 143 = .ok (.iload 7, 2) := by decide +kernel
theorem dX4_actInTrial_145 : decode cX4_actInTrial 145 = .ok (.invokevirtual 151, 3) := by decide +kernel
theorem dX4_actInTrial_148 : decode cX4_actInTrial 148 = .ok (.return_, 1) := by decide +kernel
theorem dX4_worth_0 : decode cX4_worth 0 = .ok (.iload_n 0, 1) := by decide +kernel
theorem dX4_worth_1 : decode cX4_worth 1 = .ok (.tableswitch 68 1 3 #[27, 39, 54], 27) := by decide +kernel
theorem dX4_worth_28 : decode cX4_worth 28 = .ok (.iload_n 1, 1) := by decide +kernel
theorem dX4_worth_29 : decode cX4_worth 29 = .ok (.iload_n 2, 1) := by decide +kernel
theorem dX4_worth_30 : decode cX4_worth 30 = .ok (.iload_n 3, 1) := by decide +kernel
theorem dX4_worth_31 : decode cX4_worth 31 = .ok (.iconst 2, 1) := by decide +kernel
theorem dX4_worth_32 : decode cX4_worth 32 = .ok (.idiv, 1) := by decide +kernel
theorem dX4_worth_33 : decode cX4_worth 33 = .ok (.imul, 1) := by decide +kernel
theorem dX4_worth_34 : decode cX4_worth 34 = .ok (.isub, 1) := by decide +kernel
theorem dX4_worth_35 : decode cX4_worth 35 = .ok (.istore 4, 2) := by decide +kernel
theorem dX4_worth_37 : decode cX4_worth 37 = .ok (.goto 39, 3) := by decide +kernel
theorem dX4_worth_40 : decode cX4_worth 40 = .ok (.iload_n 1, 1) := by decide +kernel
theorem dX4_worth_41 : decode cX4_worth 41 = .ok (.iload_n 2, 1) := by decide +kernel
theorem dX4_worth_42 : decode cX4_worth 42 = .ok (.iload_n 3, 1) := by decide +kernel
theorem dX4_worth_43 : decode cX4_worth 43 = .ok (.imul, 1) := by decide +kernel
theorem dX4_worth_44 : decode cX4_worth 44 = .ok (.iadd, 1) := by decide +kernel
theorem dX4_worth_45 : decode cX4_worth 45 = .ok (.bipush 40, 2) := by decide +kernel
theorem dX4_worth_47 : decode cX4_worth 47 = .ok (.invokestatic 246, 3) := by decide +kernel
theorem dX4_worth_50 : decode cX4_worth 50 = .ok (.istore 4, 2) := by decide +kernel
theorem dX4_worth_52 : decode cX4_worth 52 = .ok (.goto 24, 3) := by decide +kernel
theorem dX4_worth_55 : decode cX4_worth 55 = .ok (.iload_n 1, 1) := by decide +kernel
theorem dX4_worth_56 : decode cX4_worth 56 = .ok (.iload_n 2, 1) := by decide +kernel
theorem dX4_worth_57 : decode cX4_worth 57 = .ok (.iload_n 3, 1) := by decide +kernel
theorem dX4_worth_58 : decode cX4_worth 58 = .ok (.imul, 1) := by decide +kernel
theorem dX4_worth_59 : decode cX4_worth 59 = .ok (.isub, 1) := by decide +kernel
theorem dX4_worth_60 : decode cX4_worth 60 = .ok (.iconst 0, 1) := by decide +kernel
theorem dX4_worth_61 : decode cX4_worth 61 = .ok (.invokestatic 177, 3) := by decide +kernel
theorem dX4_worth_64 : decode cX4_worth 64 = .ok (.istore 4, 2) := by decide +kernel
theorem dX4_worth_66 : decode cX4_worth 66 = .ok (.goto 10, 3) := by decide +kernel
theorem dX4_worth_69 : decode cX4_worth 69 = .ok (.iload_n 1, 1) := by decide +kernel
theorem dX4_worth_70 : decode cX4_worth 70 = .ok (.iload_n 2, 1) := by decide +kernel
theorem dX4_worth_71 : decode cX4_worth 71 = .ok (.iload_n 3, 1) := by decide +kernel
theorem dX4_worth_72 : decode cX4_worth 72 = .ok (.imul, 1) := by decide +kernel
theorem dX4_worth_73 : decode cX4_worth 73 = .ok (.isub, 1) := by decide +kernel
