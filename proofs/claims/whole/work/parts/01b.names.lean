theorem dX0_addFollowing_78 : decode cX0_addFollowing 78 = .ok (.iaload, 1) := by decide +kernel
theorem dX0_addFollowing_79 : decode cX0_addFollowing 79 = .ok (.iastore, 1) := by decide +kernel
theorem dX0_addFollowing_80 : decode cX0_addFollowing 80 = .ok (.aload_n 0, 1) := by decide +kernel
theorem dX0_addFollowing_81 : decode cX0_addFollowing 81 = .ok (.getfield 33, 3) := by decide +kernel
theorem dX0_addFollowing_84 : decode cX0_addFollowing 84 = .ok (.aload_n 0, 1) := by decide +kernel
theorem dX0_addFollowing_85 : decode cX0_addFollowing 85 = .ok (.getfield 46, 3) := by decide +kernel
theorem dX0_addFollowing_88 : decode cX0_addFollowing 88 = .ok (.aload_n 1, 1) := by decide +kernel
theorem dX0_addFollowing_89 : decode cX0_addFollowing 89 = .ok (.iconst 2, 1) := by decide +kernel
theorem dX0_addFollowing_90 : decode cX0_addFollowing 90 = .ok (.iaload, 1) := by decide +kernel
theorem dX0_addFollowing_91 : decode cX0_addFollowing 91 = .ok (.iastore, 1) := by decide +kernel
theorem dX0_addFollowing_92 : decode cX0_addFollowing 92 = .ok (.aload_n 0, 1) := by decide +kernel
theorem dX0_addFollowing_93 : decode cX0_addFollowing 93 = .ok (.dup, 1) := by decide +kernel
theorem dX0_addFollowing_94 : decode cX0_addFollowing 94 = .ok (.getfield 46, 3) := by decide +kernel
theorem dX0_addFollowing_97 : decode cX0_addFollowing 97 = .ok (.iconst 1, 1) := by decide +kernel
theorem dX0_addFollowing_98 : decode cX0_addFollowing 98 = .ok (.iadd, 1) := by decide +kernel
theorem dX0_addFollowing_99 : decode cX0_addFollowing 99 = .ok (.putfield 46, 3) := by decide +kernel
theorem dX0_addFollowing_102 : decode cX0_addFollowing 102 = .ok (.iconst 1, 1) := by decide +kernel
theorem dX0_addFollowing_103 : decode cX0_addFollowing 103 = .ok (.ireturn, 1) := by decide +kernel
theorem dX0_addLady_0 : decode cX0_addLady 0 = .ok (.aload_n 0, 1) := by decide +kernel
theorem dX0_addLady_1 : decode cX0_addLady 1 = .ok (.getfield 49, 3) := by decide +kernel
theorem dX0_addLady_4 : decode cX0_addLady 4 = .ok (.iconst 4, 1) := by decide +kernel
theorem dX0_addLady_5 : decode cX0_addLady 5 = .ok (.if_icmp .ge 11, 3) := by decide +kernel
theorem dX0_addLady_8 : decode cX0_addLady 8 = .ok (.aload_n 1, 1) := by decide +kernel
theorem dX0_addLady_9 : decode cX0_addLady 9 = .ok (.iconst 0, 1) := by decide +kernel
theorem dX0_addLady_10 : decode cX0_addLady 10 = .ok (.iaload, 1) := by decide +kernel
theorem dX0_addLady_11 : decode cX0_addLady 11 = .ok (.bipush 9, 2) := by decide +kernel
theorem dX0_addLady_13 : decode cX0_addLady 13 = .ok (.if_icmp .le 5, 3) := by decide +kernel
theorem dX0_addLady_16 : decode cX0_addLady 16 = .ok (.iconst 0, 1) := by decide +kernel
theorem dX0_addLady_17 : decode cX0_addLady 17 = .ok (.ireturn, 1) := by decide +kernel
theorem dX0_addLady_18 : decode cX0_addLady 18 = .ok (.iconst 0, 1) := by decide +kernel
theorem dX0_addLady_19 : decode cX0_addLady 19 = .ok (.istore_n 3, 1) := by decide +kernel
theorem dX0_addLady_20 : decode cX0_addLady 20 = .ok (.iconst 1, 1) := by decide +kernel
theorem dX0_addLady_21 : decode cX0_addLady 21 = .ok (.istore 4, 2) := by decide +kernel
theorem dX0_addLady_23 : decode cX0_addLady 23 = .ok (.iload 4, 2) := by decide +kernel
theorem dX0_addLady_25 : decode cX0_addLady 25 = .ok (.iload_n 2, 1) := by decide +kernel
theorem dX0_addLady_26 : decode cX0_addLady 26 = .ok (.if_icmp .ge 47, 3) := by decide +kernel
theorem dX0_addLady_29 : decode cX0_addLady 29 = .ok (.iload 4, 2) := by decide +kernel
theorem dX0_addLady_31 : decode cX0_addLady 31 = .ok (.aload_n 1, 1) := by decide +kernel
theorem dX0_addLady_32 : decode cX0_addLady 32 = .ok (.arraylength, 1) := by decide +kernel
theorem dX0_addLady_33 : decode cX0_addLady 33 = .ok (.if_icmp .ge 40, 3) := by decide +kernel
theorem dX0_addLady_36 : decode cX0_addLady 36 = .ok (.aload_n 1, 1) := by decide +kernel
theorem dX0_addLady_37 : decode cX0_addLady 37 = .ok (.iload 4, 2) := by decide +kernel
theorem dX0_addLady_39 : decode cX0_addLady 39 = .ok (.iaload, 1) := by decide +kernel
theorem dX0_addLady_40 : decode cX0_addLady 40 = .ok (.iconst 4, 1) := by decide +kernel
theorem dX0_addLady_41 : decode cX0_addLady 41 = .ok (.if_icmp .ge 15, 3) := by decide +kernel
theorem dX0_addLady_44 : decode cX0_addLady 44 = .ok (.iload_n 3, 1) := by decide +kernel
theorem dX0_addLady_45 : decode cX0_addLady 45 = .ok (.aload_n 1, 1) := by decide +kernel
theorem dX0_addLady_46 : decode cX0_addLady 46 = .ok (.iload 4, 2) := by decide +kernel
theorem dX0_addLady_48 : decode cX0_addLady 48 = .ok (.iaload, 1) := by decide +kernel
theorem dX0_addLady_49 : decode cX0_addLady 49 = .ok (.ishr, 1) := by decide +kernel
theorem dX0_addLady_50 : decode cX0_addLady 50 = .ok (.iconst 1, 1) := by decide +kernel
theorem dX0_addLady_51 : decode cX0_addLady 51 = .ok (.iand, 1) := by decide +kernel
theorem dX0_addLady_52 : decode cX0_addLady 52 = .ok (.iconst 1, 1) := by decide +kernel
theorem dX0_addLady_53 : decode cX0_addLady 53 = .ok (.if_icmp .ne 5, 3) := by decide +kernel
theorem dX0_addLady_56 : decode cX0_addLady 56 = .ok (.iconst 0, 1) := by decide +kernel
theorem dX0_addLady_57 : decode cX0_addLady 57 = .ok (.ireturn, 1) := by decide +kernel
theorem dX0_addLady_58 : decode cX0_addLady 58 = .ok (.iload_n 3, 1) := by decide +kernel
theorem dX0_addLady_59 : decode cX0_addLady 59 = .ok (.iconst 1, 1) := by decide +kernel
theorem dX0_addLady_60 : decode cX0_addLady 60 = .ok (.aload_n 1, 1) := by decide +kernel
theorem dX0_addLady_61 : decode cX0_addLady 61 = .ok (.iload 4, 2) := by decide +kernel
theorem dX0_addLady_63 : decode cX0_addLady 63 = .ok (.iaload, 1) := by decide +kernel
theorem dX0_addLady_64 : decode cX0_addLady 64 = .ok (.ishl, 1) := by decide +kernel
theorem dX0_addLady_65 : decode cX0_addLady 65 = .ok (.ior, 1) := by decide +kernel
theorem dX0_addLady_66 : decode cX0_addLady 66 = .ok (.istore_n 3, 1) := by decide +kernel
theorem dX0_addLady_67 : decode cX0_addLady 67 = .ok (.iinc 4 1, 3) := by decide +kernel
theorem dX0_addLady_70 : decode cX0_addLady 70 = .ok (.goto (-47), 3) := by decide +kernel
theorem dX0_addLady_73 : decode cX0_addLady 73 = .ok (.aload_n 0, 1) := by decide +kernel
theorem dX0_addLady_74 : decode cX0_addLady 74 = .ok (.getfield 36, 3) := by decide +kernel
theorem dX0_addLady_77 : decode cX0_addLady 77 = .ok (.aload_n 0, 1) := by decide +kernel
theorem dX0_addLady_78 : decode cX0_addLady 78 = .ok (.getfield 49, 3) := by decide +kernel
theorem dX0_addLady_81 : decode cX0_addLady 81 = .ok (.aload_n 1, 1) := by decide +kernel
theorem dX0_addLady_82 : decode cX0_addLady 82 = .ok (.iconst 0, 1) := by decide +kernel
theorem dX0_addLady_83 : decode cX0_addLady 83 = .ok (.iaload, 1) := by decide +kernel
theorem dX0_addLady_84 : decode cX0_addLady 84 = .ok (.iastore, 1) := by decide +kernel
theorem dX0_addLady_85 : decode cX0_addLady 85 = .ok (.aload_n 0, 1) := by decide +kernel
theorem dX0_addLady_86 : decode cX0_addLady 86 = .ok (.getfield 39, 3) := by decide +kernel
theorem dX0_addLady_89 : decode cX0_addLady 89 = .ok (.aload_n 0, 1) := by decide +kernel
theorem dX0_addLady_90 : decode cX0_addLady 90 = .ok (.getfield 49, 3) := by decide +kernel
theorem dX0_addLady_93 : decode cX0_addLady 93 = .ok (.iload_n 3, 1) := by decide +kernel
theorem dX0_addLady_94 : decode cX0_addLady 94 = .ok (.iastore, 1) := by decide +kernel
theorem dX0_addLady_95 : decode cX0_addLady 95 = .ok (.aload_n 0, 1) := by decide +kernel
theorem dX0_addLady_96 : decode cX0_addLady 96 = .ok (.dup, 1) := by decide +kernel
theorem dX0_addLady_97 : decode cX0_addLady 97 = .ok (.getfield 49, 3) := by decide +kernel
theorem dX0_addLady_100 : decode cX0_addLady 100 = .ok (.iconst 1, 1) := by decide +kernel
theorem dX0_addLady_101 : decode cX0_addLady 101 = .ok (.iadd, 1) := by decide +kernel
theorem dX0_addLady_102 : decode cX0_addLady 102 = .ok (.putfield 49, 3) := by decide +kernel
theorem dX0_addLady_105 : decode cX0_addLady 105 = .ok (.iconst 1, 1) := by decide +kernel
theorem dX0_addLady_106 : decode cX0_addLady 106 = .ok (.ireturn, 1) := by decide +kernel
set_option maxRecDepth 20000 in
theorem ggX1_init_X2_init : GoodIn wsX1_init wsX2_init := goodIn_r _ [13, 14, 2, 3, 15, 16, 17, 18, 19, 22, 23, 24, 25, 26, 27] (by decide +kernel) (by decide +kernel)
set_option maxRecDepth 20000 in
theorem gX1_init_X2_init_n21 : GoodIn wsX1_init (wsX2_init) := ggX1_init_X2_init
theorem dX1_init_0 : decode cX1_init 0 = .ok (.aload_n 0, 1) := by decide +kernel
theorem dX1_init_1 : decode cX1_init 1 = .ok (.invokespecial 1, 3) := by decide +kernel
theorem dX1_init_4 : decode cX1_init 4 = .ok (.aload_n 0, 1) := by decide +kernel
theorem dX1_init_5 : decode cX1_init 5 = .ok (.iload_n 1, 1) := by decide +kernel
theorem dX1_init_6 : decode cX1_init 6 = .ok (.iconst 1, 1) := by decide +kernel
theorem dX1_init_7 : decode cX1_init 7 = .ok (.invokestatic 7, 3) := by decide +kernel
theorem dX1_init_10 : decode cX1_init 10 = .ok (.anewarray 13, 3) := by decide +kernel
theorem dX1_init_13 : decode cX1_init 13 = .ok (.putfield 15, 3) := by decide +kernel
theorem dX1_init_16 : decode cX1_init 16 = .ok (.iconst 0, 1) := by decide +kernel
theorem dX1_init_17 : decode cX1_init 17 = .ok (.istore_n 2, 1) := by decide +kernel
theorem dX1_init_18 : decode cX1_init 18 = .ok (.iload_n 2, 1) := by decide +kernel
theorem dX1_init_19 : decode cX1_init 19 = .ok (.aload_n 0, 1) := by decide +kernel
theorem dX1_init_20 : decode cX1_init 20 = .ok (.getfield 15, 3) := by decide +kernel
theorem dX1_init_23 : decode cX1_init 23 = .ok (.arraylength, 1) := by decide +kernel
theorem dX1_init_24 : decode cX1_init 24 = .ok (.if_icmp .ge 22, 3) := by decide +kernel
theorem dX1_init_27 : decode cX1_init 27 = .ok (.aload_n 0, 1) := by decide +kernel
theorem dX1_init_28 : decode cX1_init 28 = .ok (.getfield 15, 3) := by decide +kernel
theorem dX1_init_31 : decode cX1_init 31 = .ok (.iload_n 2, 1) := by decide +kernel
theorem dX1_init_32 : decode cX1_init 32 = .ok (.new 13, 3) := by decide +kernel
theorem dX1_init_35 : decode cX1_init 35 = .ok (.dup, 1) := by decide +kernel
theorem dX1_init_36 : decode cX1_init 36 = .ok (.invokespecial 21, 3) := by decide +kernel
theorem dX1_init_39 : decode cX1_init 39 = .ok (.aastore, 1) := by decide +kernel
theorem dX1_init_40 : decode cX1_init 40 = .ok (.iinc 2 1, 3) := by decide +kernel
theorem dX1_init_43 : decode cX1_init 43 = .ok (.goto (-25), 3) := by decide +kernel
theorem dX1_init_46 : decode cX1_init 46 = .ok (.return_, 1) := by decide +kernel
set_option maxRecDepth 20000 in
theorem ggX1_put_X1_dropOldest : GoodIn wsX1_put wsX1_dropOldest := goodIn_r _ [7, 2, 1, 23, 24] (by decide +kernel) (by decide +kernel)
set_option maxRecDepth 20000 in
theorem gX1_put_X1_dropOldest : GoodIn wsX1_put (wsV RX1 26 RX1 yX1_dropOldest wsX1_dropOldest) := goodIn_app (goodIn_of _ (by decide +kernel)) ggX1_put_X1_dropOldest
set_option maxRecDepth 20000 in
theorem ggX1_put_X2_copyOf : GoodIn wsX1_put wsX2_copyOf := goodIn_r _ [12, 13, 14, 15, 16, 17, 18, 19, 20, 21, 22, 25, 26, 27, 28, 29, 30] (by decide +kernel) (by decide +kernel)
set_option maxRecDepth 20000 in
theorem gX1_put_X2_copyOf : GoodIn wsX1_put (wsV RX1 29 RX2 yX2_copyOf wsX2_copyOf) := goodIn_app (goodIn_of _ (by decide +kernel)) ggX1_put_X2_copyOf
theorem dX1_put_0 : decode cX1_put 0 = .ok (.aload_n 0, 1) := by decide +kernel
theorem dX1_put_1 : decode cX1_put 1 = .ok (.getfield 22, 3) := by decide +kernel
theorem dX1_put_4 : decode cX1_put 4 = .ok (.aload_n 0, 1) := by decide +kernel
theorem dX1_put_5 : decode cX1_put 5 = .ok (.getfield 15, 3) := by decide +kernel
theorem dX1_put_8 : decode cX1_put 8 = .ok (.arraylength, 1) := by decide +kernel
theorem dX1_put_9 : decode cX1_put 9 = .ok (.if_icmp .lt 7, 3) := by decide +kernel
theorem dX1_put_12 : decode cX1_put 12 = .ok (.aload_n 0, 1) := by decide +kernel
theorem dX1_put_13 : decode cX1_put 13 = .ok (.invokevirtual 26, 3) := by decide +kernel
theorem dX1_put_16 : decode cX1_put 16 = .ok (.aload_n 0, 1) := by decide +kernel
theorem dX1_put_17 : decode cX1_put 17 = .ok (.getfield 15, 3) := by decide +kernel
theorem dX1_put_20 : decode cX1_put 20 = .ok (.aload_n 0, 1) := by decide +kernel
theorem dX1_put_21 : decode cX1_put 21 = .ok (.getfield 22, 3) := by decide +kernel
theorem dX1_put_24 : decode cX1_put 24 = .ok (.aaload, 1) := by decide +kernel
theorem dX1_put_25 : decode cX1_put 25 = .ok (.aload_n 1, 1) := by decide +kernel
theorem dX1_put_26 : decode cX1_put 26 = .ok (.invokevirtual 29, 3) := by decide +kernel
theorem dX1_put_29 : decode cX1_put 29 = .ok (.aload_n 0, 1) := by decide +kernel
theorem dX1_put_30 : decode cX1_put 30 = .ok (.dup, 1) := by decide +kernel
theorem dX1_put_31 : decode cX1_put 31 = .ok (.getfield 22, 3) := by decide +kernel
theorem dX1_put_34 : decode cX1_put 34 = .ok (.iconst 1, 1) := by decide +kernel
theorem dX1_put_35 : decode cX1_put 35 = .ok (.iadd, 1) := by decide +kernel
theorem dX1_put_36 : decode cX1_put 36 = .ok (.putfield 22, 3) := by decide +kernel
theorem dX1_put_39 : decode cX1_put 39 = .ok (.return_, 1) := by decide +kernel
theorem dX1_dropOldest_0 : decode cX1_dropOldest 0 = .ok (.aload_n 0, 1) := by decide +kernel
theorem dX1_dropOldest_1 : decode cX1_dropOldest 1 = .ok (.getfield 15, 3) := by decide +kernel
theorem dX1_dropOldest_4 : decode cX1_dropOldest 4 = .ok (.iconst 0, 1) := by decide +kernel
theorem dX1_dropOldest_5 : decode cX1_dropOldest 5 = .ok (.aaload, 1) := by decide +kernel
theorem dX1_dropOldest_6 : decode cX1_dropOldest 6 = .ok (.astore_n 1, 1) := by decide +kernel
theorem dX1_dropOldest_7 : decode cX1_dropOldest 7 = .ok (.iconst 1, 1) := by decide +kernel
theorem dX1_dropOldest_8 : decode cX1_dropOldest 8 = .ok (.istore_n 2, 1) := by decide +kernel
theorem dX1_dropOldest_9 : decode cX1_dropOldest 9 = .ok (.iload_n 2, 1) := by decide +kernel
theorem dX1_dropOldest_10 : decode cX1_dropOldest 10 = .ok (.aload_n 0, 1) := by decide +kernel
theorem dX1_dropOldest_11 : decode cX1_dropOldest 11 = .ok (.getfield 15, 3) := by decide +kernel
theorem dX1_dropOldest_14 : decode cX1_dropOldest 14 = .ok (.arraylength, 1) := by decide +kernel
theorem dX1_dropOldest_15 : decode cX1_dropOldest 15 = .ok (.if_icmp .ge 23, 3) := by decide +kernel
theorem dX1_dropOldest_18 : decode cX1_dropOldest 18 = .ok (.aload_n 0, 1) := by decide +kernel
theorem dX1_dropOldest_19 : decode cX1_dropOldest 19 = .ok (.getfield 15, 3) := by decide +kernel
theorem dX1_dropOldest_22 : decode cX1_dropOldest 22 = .ok (.iload_n 2, 1) := by decide +kernel
theorem dX1_dropOldest_23 : decode cX1_dropOldest 23 = .ok (.iconst 1, 1) := by decide +kernel
theorem dX1_dropOldest_24 : decode cX1_dropOldest 24 = .ok (.isub, 1) := by decide +kernel
theorem dX1_dropOldest_25 : decode cX1_dropOldest 25 = .ok (.aload_n 0, 1) := by decide +kernel
theorem dX1_dropOldest_26 : decode cX1_dropOldest 26 = .ok (.getfield 15, 3) := by decide +kernel
theorem dX1_dropOldest_29 : decode cX1_dropOldest 29 = .ok (.iload_n 2, 1) := by decide +kernel
theorem dX1_dropOldest_30 : decode cX1_dropOldest 30 = .ok (.aaload, 1) := by decide +kernel
theorem dX1_dropOldest_31 : decode cX1_dropOldest 31 = .ok (.aastore, 1) := by decide +kernel
theorem dX1_dropOldest_32 : decode cX1_dropOldest 32 = .ok (.iinc 2 1, 3) := by decide +kernel
theorem dX1_dropOldest_35 : decode cX1_dropOldest 35 = .ok (.goto (-26), 3) := by decide +kernel
theorem dX1_dropOldest_38 : decode cX1_dropOldest 38 = .ok (.aload_n 0, 1) := by decide +kernel
theorem dX1_dropOldest_39 : decode cX1_dropOldest 39 = .ok (.getfield 15, 3) := by decide +kernel
theorem dX1_dropOldest_42 : decode cX1_dropOldest 42 = .ok (.aload_n 0, 1) := by decide +kernel
theorem dX1_dropOldest_43 : decode cX1_dropOldest 43 = .ok (.getfield 15, 3) := by decide +kernel
theorem dX1_dropOldest_46 : decode cX1_dropOldest 46 = .ok (.arraylength, 1) := by decide +kernel
theorem dX1_dropOldest_47 : decode cX1_dropOldest 47 = .ok (.iconst 1, 1) := by decide +kernel
theorem dX1_dropOldest_48 : decode cX1_dropOldest 48 = .ok (.isub, 1) := by decide +kernel
theorem dX1_dropOldest_49 : decode cX1_dropOldest 49 = .ok (.aload_n 1, 1) := by decide +kernel
theorem dX1_dropOldest_50 : decode cX1_dropOldest 50 = .ok (.aastore, 1) := by decide +kernel
theorem dX1_dropOldest_51 : decode cX1_dropOldest 51 = .ok (.aload_n 0, 1) := by decide +kernel
theorem dX1_dropOldest_52 : decode cX1_dropOldest 52 = .ok (.aload_n 0, 1) := by decide +kernel
theorem dX1_dropOldest_53 : decode cX1_dropOldest 53 = .ok (.getfield 15, 3) := by decide +kernel
theorem dX1_dropOldest_56 : decode cX1_dropOldest 56 = .ok (.arraylength, 1) := by decide +kernel
theorem dX1_dropOldest_57 : decode cX1_dropOldest 57 = .ok (.iconst 1, 1) := by decide +kernel
theorem dX1_dropOldest_58 : decode cX1_dropOldest 58 = .ok (.isub, 1) := by decide +kernel
theorem dX1_dropOldest_59 : decode cX1_dropOldest 59 = .ok (.putfield 22, 3) := by decide +kernel
theorem dX1_dropOldest_62 : decode cX1_dropOldest 62 = .ok (.return_, 1) := by decide +kernel
set_option maxRecDepth 20000 in
theorem ggX1_takeInto_X2_copyOf : GoodIn wsX1_takeInto wsX2_copyOf := goodIn_r _ [7, 8, 9, 10, 11, 12, 13, 14, 15, 16, 17, 20, 21, 22, 23, 24, 25] (by decide +kernel) (by decide +kernel)
set_option maxRecDepth 20000 in
theorem gX1_takeInto_X2_copyOf : GoodIn wsX1_takeInto (wsV RX1 29 RX2 yX2_copyOf wsX2_copyOf) := goodIn_app (goodIn_of _ (by decide +kernel)) ggX1_takeInto_X2_copyOf
theorem dX1_takeInto_0 : decode cX1_takeInto 0 = .ok (.aload_n 0, 1) := by decide +kernel
theorem dX1_takeInto_1 : decode cX1_takeInto 1 = .ok (.getfield 22, 3) := by decide +kernel
theorem dX1_takeInto_4 : decode cX1_takeInto 4 = .ok (.iconst 1, 1) := by decide +kernel
theorem dX1_takeInto_5 : decode cX1_takeInto 5 = .ok (.if_icmp .lt 15, 3) := by decide +kernel
theorem dX1_takeInto_8 : decode cX1_takeInto 8 = .ok (.aload_n 0, 1) := by decide +kernel
theorem dX1_takeInto_9 : decode cX1_takeInto 9 = .ok (.getfield 22, 3) := by decide +kernel
theorem dX1_takeInto_12 : decode cX1_takeInto 12 = .ok (.aload_n 0, 1) := by decide +kernel
theorem dX1_takeInto_13 : decode cX1_takeInto 13 = .ok (.getfield 15, 3) := by decide +kernel
theorem dX1_takeInto_16 : decode cX1_takeInto 16 = .ok (.arraylength, 1) := by decide +kernel
theorem dX1_takeInto_17 : decode cX1_takeInto 17 = .ok (.if_icmp .le 5, 3) := by decide +kernel
theorem dX1_takeInto_20 : decode cX1_takeInto 20 = .ok (.iconst 0, 1) := by decide +kernel
theorem dX1_takeInto_21 : decode cX1_takeInto 21 = .ok (.ireturn, 1) := by decide +kernel
theorem dX1_takeInto_22 : decode cX1_takeInto 22 = .ok (.aload_n 0, 1) := by decide +kernel
theorem dX1_takeInto_23 : decode cX1_takeInto 23 = .ok (.dup, 1) := by decide +kernel
theorem dX1_takeInto_24 : decode cX1_takeInto 24 = .ok (.getfield 22, 3) := by decide +kernel
theorem dX1_takeInto_27 : decode cX1_takeInto 27 = .ok (.iconst 1, 1) := by decide +kernel
theorem dX1_takeInto_28 : decode cX1_takeInto 28 = .ok (.isub, 1) := by decide +kernel
theorem dX1_takeInto_29 : decode cX1_takeInto 29 = .ok (.putfield 22, 3) := by decide +kernel
theorem dX1_takeInto_32 : decode cX1_takeInto 32 = .ok (.aload_n 1, 1) := by decide +kernel
theorem dX1_takeInto_33 : decode cX1_takeInto 33 = .ok (.aload_n 0, 1) := by decide +kernel
theorem dX1_takeInto_34 : decode cX1_takeInto 34 = .ok (.getfield 15, 3) := by decide +kernel
theorem dX1_takeInto_37 : decode cX1_takeInto 37 = .ok (.aload_n 0, 1) := by decide +kernel
theorem dX1_takeInto_38 : decode cX1_takeInto 38 = .ok (.getfield 22, 3) := by decide +kernel
theorem dX1_takeInto_41 : decode cX1_takeInto 41 = .ok (.aaload, 1) := by decide +kernel
theorem dX1_takeInto_42 : decode cX1_takeInto 42 = .ok (.invokevirtual 29, 3) := by decide +kernel
theorem dX1_takeInto_45 : decode cX1_takeInto 45 = .ok (.iconst 1, 1) := by decide +kernel
theorem dX1_takeInto_46 : decode cX1_takeInto 46 = .ok (.ireturn, 1) := by decide +kernel
theorem dX2_init_0 : decode cX2_init 0 = .ok (.aload_n 0, 1) := by decide +kernel
theorem dX2_init_1 : decode cX2_init 1 = .ok (.invokespecial 3, 3) := by decide +kernel
theorem dX2_init_4 : decode cX2_init 4 = .ok (.aload_n 0, 1) := by decide +kernel
theorem dX2_init_5 : decode cX2_init 5 = .ok (.bipush 7, 2) := by decide +kernel
theorem dX2_init_7 : decode cX2_init 7 = .ok (.newarray .int, 2) := by decide +kernel
theorem dX2_init_9 : decode cX2_init 9 = .ok (.putfield 9, 3) := by decide +kernel
theorem dX2_init_12 : decode cX2_init 12 = .ok (.aload_n 0, 1) := by decide +kernel
theorem dX2_init_13 : decode cX2_init 13 = .ok (.bipush 7, 2) := by decide +kernel
theorem dX2_init_15 : decode cX2_init 15 = .ok (.newarray .int, 2) := by decide +kernel
theorem dX2_init_17 : decode cX2_init 17 = .ok (.putfield 15, 3) := by decide +kernel
theorem dX2_init_20 : decode cX2_init 20 = .ok (.aload_n 0, 1) := by decide +kernel
theorem dX2_init_21 : decode cX2_init 21 = .ok (.bipush 7, 2) := by decide +kernel
theorem dX2_init_23 : decode cX2_init 23 = .ok (.newarray .int, 2) := by decide +kernel
theorem dX2_init_25 : decode cX2_init 25 = .ok (.putfield 18, 3) := by decide +kernel
theorem dX2_init_28 : decode cX2_init 28 = .ok (.aload_n 0, 1) := by decide +kernel
theorem dX2_init_29 : decode cX2_init 29 = .ok (.iconst 4, 1) := by decide +kernel
theorem dX2_init_30 : decode cX2_init 30 = .ok (.newarray .int, 2) := by decide +kernel
theorem dX2_init_32 : decode cX2_init 32 = .ok (.putfield 21, 3) := by decide +kernel
theorem dX2_init_35 : decode cX2_init 35 = .ok (.return_, 1) := by decide +kernel
theorem dX2_start_0 : decode cX2_start 0 = .ok (.aload_n 0, 1) := by decide +kernel
theorem dX2_start_1 : decode cX2_start 1 = .ok (.iconst 0, 1) := by decide +kernel
theorem dX2_start_2 : decode cX2_start 2 = .ok (.putfield 24, 3) := by decide +kernel
theorem dX2_start_5 : decode cX2_start 5 = .ok (.aload_n 0, 1) := by decide +kernel
theorem dX2_start_6 : decode cX2_start 6 = .ok (.iconst 0, 1) := by decide +kernel
theorem dX2_start_7 : decode cX2_start 7 = .ok (.putfield 28, 3) := by decide +kernel
theorem dX2_start_10 : decode cX2_start 10 = .ok (.iconst 0, 1) := by decide +kernel
theorem dX2_start_11 : decode cX2_start 11 = .ok (.istore_n 2, 1) := by decide +kernel
theorem dX2_start_12 : decode cX2_start 12 = .ok (.iload_n 2, 1) := by decide +kernel
theorem dX2_start_13 : decode cX2_start 13 = .ok (.bipush 7, 2) := by decide +kernel
theorem dX2_start_15 : decode cX2_start 15 = .ok (.if_icmp .ge 51, 3) := by decide +kernel
theorem dX2_start_18 : decode cX2_start 18 = .ok (.aload_n 0, 1) := by decide +kernel
theorem dX2_start_19 : decode cX2_start 19 = .ok (.getfield 9, 3) := by decide +kernel
theorem dX2_start_22 : decode cX2_start 22 = .ok (.iload_n 2, 1) := by decide +kernel
theorem dX2_start_23 : decode cX2_start 23 = .ok (.iconst 0, 1) := by decide +kernel
theorem dX2_start_24 : decode cX2_start 24 = .ok (.iastore, 1) := by decide +kernel
theorem dX2_start_25 : decode cX2_start 25 = .ok (.aload_n 0, 1) := by decide +kernel
theorem dX2_start_26 : decode cX2_start 26 = .ok (.getfield 15, 3) := by decide +kernel
theorem dX2_start_29 : decode cX2_start 29 = .ok (.iload_n 2, 1) := by decide +kernel
theorem dX2_start_30 : decode cX2_start 30 = .ok (.aload_n 1, 1) := by decide +kernel
theorem dX2_start_31 : decode cX2_start 31 = .ok (.getfield 31, 3) := by decide +kernel
theorem dX2_start_34 : decode cX2_start 34 = .ok (.iload_n 2, 1) := by decide +kernel
theorem dX2_start_35 : decode cX2_start 35 = .ok (.iaload, 1) := by decide +kernel
theorem dX2_start_36 : decode cX2_start 36 = .ok (.bipush 99, 2) := by decide +kernel
theorem dX2_start_38 : decode cX2_start 38 = .ok (.if_icmp .ne 8, 3) := by decide +kernel
theorem dX2_start_41 : decode cX2_start 41 = .ok (.ldc 36, 2) := by decide +kernel
theorem dX2_start_43 : decode cX2_start 43 = .ok (.goto 9, 3) := by decide +kernel
theorem dX2_start_46 : decode cX2_start 46 = .ok (.aload_n 1, 1) := by decide +kernel
theorem dX2_start_47 : decode cX2_start 47 = .ok (.getfield 31, 3) := by decide +kernel
theorem dX2_start_50 : decode cX2_start 50 = .ok (.iload_n 2, 1) := by decide +kernel
theorem dX2_start_51 : decode cX2_start 51 = .ok (.iaload, 1) := by decide +kernel
theorem dX2_start_52 : decode cX2_start 52 = .ok (.iastore, 1) := by decide +kernel
theorem dX2_start_53 : decode cX2_start 53 = .ok (.aload_n 0, 1) := by decide +kernel
theorem dX2_start_54 : decode cX2_start 54 = .ok (.getfield 18, 3) := by decide +kernel
theorem dX2_start_57 : decode cX2_start 57 = .ok (.iload_n 2, 1) := by decide +kernel
theorem dX2_start_58 : decode cX2_start 58 = .ok (.iconst 0, 1) := by decide +kernel
theorem dX2_start_59 : decode cX2_start 59 = .ok (.iastore, 1) := by decide +kernel
theorem dX2_start_60 : decode cX2_start 60 = .ok (.iinc 2 1, 3) := by decide +kernel
theorem dX2_start_63 : decode cX2_start 63 = .ok (.goto (-51), 3) := by decide +kernel
theorem dX2_start_66 : decode cX2_start 66 = .ok (.aload_n 1, 1) := by decide +kernel
theorem dX2_start_67 : decode cX2_start 67 = .ok (.getfield 37, 3) := by decide +kernel
theorem dX2_start_70 : decode cX2_start 70 = .ok (.iconst 0, 1) := by decide +kernel
theorem dX2_start_71 : decode cX2_start 71 = .ok (.aload_n 0, 1) := by decide +kernel
theorem dX2_start_72 : decode cX2_start 72 = .ok (.getfield 21, 3) := by decide +kernel
theorem dX2_start_75 : decode cX2_start 75 = .ok (.iconst 0, 1) := by decide +kernel
theorem dX2_start_76 : decode cX2_start 76 = .ok (.iconst 4, 1) := by decide +kernel
theorem dX2_start_77 : decode cX2_start 77 = .ok (.invokestatic 38, 3) := by decide +kernel
theorem dX2_start_80 : decode cX2_start 80 = .ok (.return_, 1) := by decide +kernel
theorem dX2_copyOf_0 : decode cX2_copyOf 0 = .ok (.aload_n 0, 1) := by decide +kernel
theorem dX2_copyOf_1 : decode cX2_copyOf 1 = .ok (.aload_n 1, 1) := by decide +kernel
theorem dX2_copyOf_2 : decode cX2_copyOf 2 = .ok (.getfield 24, 3) := by decide +kernel
theorem dX2_copyOf_5 : decode cX2_copyOf 5 = .ok (.putfield 24, 3) := by decide +kernel
theorem dX2_copyOf_8 : decode cX2_copyOf 8 = .ok (.aload_n 0, 1) := by decide +kernel
theorem dX2_copyOf_9 : decode cX2_copyOf 9 = .ok (.aload_n 1, 1) := by decide +kernel
theorem dX2_copyOf_10 : decode cX2_copyOf 10 = .ok (.getfield 28, 3) := by decide +kernel
theorem dX2_copyOf_13 : decode cX2_copyOf 13 = .ok (.putfield 28, 3) := by decide +kernel
theorem dX2_copyOf_16 : decode cX2_copyOf 16 = .ok (.aload_n 1, 1) := by decide +kernel
theorem dX2_copyOf_17 : decode cX2_copyOf 17 = .ok (.getfield 9, 3) := by decide +kernel
theorem dX2_copyOf_20 : decode cX2_copyOf 20 = .ok (.iconst 0, 1) := by decide +kernel
theorem dX2_copyOf_21 : decode cX2_copyOf 21 = .ok (.aload_n 0, 1) := by decide +kernel
theorem dX2_copyOf_22 : decode cX2_copyOf 22 = .ok (.getfield 9, 3) := by decide +kernel
theorem dX2_copyOf_25 : decode cX2_copyOf 25 = .ok (.iconst 0, 1) := by decide +kernel
theorem dX2_copyOf_26 : decode cX2_copyOf 26 = .ok (.bipush 7, 2) := by decide +kernel
theorem dX2_copyOf_28 : decode cX2_copyOf 28 = .ok (.invokestatic 38, 3) := by decide +kernel
theorem dX2_copyOf_31 : decode cX2_copyOf 31 = .ok (.aload_n 1, 1) := by decide +kernel
theorem dX2_copyOf_32 : decode cX2_copyOf 32 = .ok (.getfield 15, 3) := by decide +kernel
theorem dX2_copyOf_35 : decode cX2_copyOf 35 = .ok (.iconst 0, 1) := by decide +kernel
theorem dX2_copyOf_36 : decode cX2_copyOf 36 = .ok (.aload_n 0, 1) := by decide +kernel
theorem dX2_copyOf_37 : decode cX2_copyOf 37 = .ok (.getfield 15, 3) := by decide +kernel
theorem dX2_copyOf_40 : decode cX2_copyOf 40 = .ok (.iconst 0, 1) := by decide +kernel
theorem dX2_copyOf_41 : decode cX2_copyOf 41 = .ok (.bipush 7, 2) := by decide +kernel
theorem dX2_copyOf_43 : decode cX2_copyOf 43 = .ok (.invokestatic 38, 3) := by decide +kernel
theorem dX2_copyOf_46 : decode cX2_copyOf 46 = .ok (.aload_n 1, 1) := by decide +kernel
theorem dX2_copyOf_47 : decode cX2_copyOf 47 = .ok (.getfield 18, 3) := by decide +kernel
theorem dX2_copyOf_50 : decode cX2_copyOf 50 = .ok (.iconst 0, 1) := by decide +kernel
theorem dX2_copyOf_51 : decode cX2_copyOf 51 = .ok (.aload_n 0, 1) := by decide +kernel
theorem dX2_copyOf_52 : decode cX2_copyOf 52 = .ok (.getfield 18, 3) := by decide +kernel
theorem dX2_copyOf_55 : decode cX2_copyOf 55 = .ok (.iconst 0, 1) := by decide +kernel
theorem dX2_copyOf_56 : decode cX2_copyOf 56 = .ok (.bipush 7, 2) := by decide +kernel
theorem dX2_copyOf_58 : decode cX2_copyOf 58 = .ok (.invokestatic 38, 3) := by decide +kernel
theorem dX2_copyOf_61 : decode cX2_copyOf 61 = .ok (.aload_n 1, 1) := by decide +kernel
theorem dX2_copyOf_62 : decode cX2_copyOf 62 = .ok (.getfield 21, 3) := by decide +kernel
theorem dX2_copyOf_65 : decode cX2_copyOf 65 = .ok (.iconst 0, 1) := by decide +kernel
theorem dX2_copyOf_66 : decode cX2_copyOf 66 = .ok (.aload_n 0, 1) := by decide +kernel
theorem dX2_copyOf_67 : decode cX2_copyOf 67 = .ok (.getfield 21, 3) := by decide +kernel
theorem dX2_copyOf_70 : decode cX2_copyOf 70 = .ok (.iconst 0, 1) := by decide +kernel
theorem dX2_copyOf_71 : decode cX2_copyOf 71 = .ok (.iconst 4, 1) := by decide +kernel
theorem dX2_copyOf_72 : decode cX2_copyOf 72 = .ok (.invokestatic 38, 3) := by decide +kernel
theorem dX2_copyOf_75 : decode cX2_copyOf 75 = .ok (.return_, 1) := by decide +kernel
set_option maxRecDepth 20000 in
theorem ggX2_goBy_X2_beginDue : GoodIn wsX2_goBy wsX2_beginDue := goodIn_r _ [6, 7, 8, 9, 10, 11, 53, 54, 55, 56, 57, 58, 59, 60, 61, 62, 63, 64, 65, 47, 48, 49, 50, 51, 52] (by decide +kernel) (by decide +kernel)
set_option maxRecDepth 20000 in
theorem gX2_goBy_X2_beginDue : GoodIn wsX2_goBy (wsV RX2 44 RX2 yX2_beginDue wsX2_beginDue) := goodIn_app (goodIn_of _ (by decide +kernel)) ggX2_goBy_X2_beginDue
set_option maxRecDepth 20000 in
theorem ggX2_goBy_X2_worthOfAll : GoodIn wsX2_goBy wsX2_worthOfAll := goodIn_r _ [15, 7, 8, 16, 17, 18, 5, 19, 20, 21, 22, 10, 11, 23, 24, 25, 26, 27, 28, 29, 30, 31, 32, 53, 54, 55, 56, 57, 58, 59, 60, 61, 62, 63, 64, 65, 47, 48, 49, 50, 51, 52] (by decide +kernel) (by decide +kernel)
set_option maxRecDepth 20000 in
theorem gX2_goBy_X2_worthOfAll : GoodIn wsX2_goBy (wsV RX2 48 RX2 yX2_worthOfAll wsX2_worthOfAll) := goodIn_app (goodIn_of _ (by decide +kernel)) ggX2_goBy_X2_worthOfAll
set_option maxRecDepth 20000 in
theorem ggX2_goBy_X2_endMinute : GoodIn wsX2_goBy wsX2_endMinute := goodIn_r _ [36, 10, 7, 8, 11, 37, 38, 39, 40, 5, 41, 42, 43, 44, 9, 45, 46, 27, 28, 29, 47, 48, 49, 50, 51, 52, 53, 54, 55, 56, 57, 58, 59, 60, 61, 62, 63, 64, 65] (by decide +kernel) (by decide +kernel)
set_option maxRecDepth 20000 in
theorem gX2_goBy_X2_endMinute : GoodIn wsX2_goBy (wsV RX2 52 RX2 yX2_endMinute wsX2_endMinute) := goodIn_app (goodIn_of _ (by decide +kernel)) ggX2_goBy_X2_endMinute
theorem dX2_goBy_0 : decode cX2_goBy 0 = .ok (.iconst 0, 1) := by decide +kernel
theorem dX2_goBy_1 : decode cX2_goBy 1 = .ok (.istore_n 3, 1) := by decide +kernel
theorem dX2_goBy_2 : decode cX2_goBy 2 = .ok (.iload_n 3, 1) := by decide +kernel
theorem dX2_goBy_3 : decode cX2_goBy 3 = .ok (.iload_n 2, 1) := by decide +kernel
theorem dX2_goBy_4 : decode cX2_goBy 4 = .ok (.if_icmp .ge 33, 3) := by decide +kernel
theorem dX2_goBy_7 : decode cX2_goBy 7 = .ok (.aload_n 0, 1) := by decide +kernel
theorem dX2_goBy_8 : decode cX2_goBy 8 = .ok (.aload_n 1, 1) := by decide +kernel
theorem dX2_goBy_9 : decode cX2_goBy 9 = .ok (.invokevirtual 44, 3) := by decide +kernel
theorem dX2_goBy_12 : decode cX2_goBy 12 = .ok (.aload_n 0, 1) := by decide +kernel
theorem dX2_goBy_13 : decode cX2_goBy 13 = .ok (.dup, 1) := by decide +kernel
theorem dX2_goBy_14 : decode cX2_goBy 14 = .ok (.getfield 28, 3) := by decide +kernel
theorem dX2_goBy_17 : decode cX2_goBy 17 = .ok (.aload_n 0, 1) := by decide +kernel
theorem dX2_goBy_18 : decode cX2_goBy 18 = .ok (.aload_n 1, 1) := by decide +kernel
theorem dX2_goBy_19 : decode cX2_goBy 19 = .ok (.invokevirtual 48, 3) := by decide +kernel
theorem dX2_goBy_22 : decode cX2_goBy 22 = .ok (.iadd, 1) := by decide +kernel
theorem dX2_goBy_23 : decode cX2_goBy 23 = .ok (.putfield 28, 3) := by decide +kernel
theorem dX2_goBy_26 : decode cX2_goBy 26 = .ok (.aload_n 0, 1) := by decide +kernel
theorem dX2_goBy_27 : decode cX2_goBy 27 = .ok (.aload_n 1, 1) := by decide +kernel
theorem dX2_goBy_28 : decode cX2_goBy 28 = .ok (.invokevirtual 52, 3) := by decide +kernel
theorem dX2_goBy_31 : decode cX2_goBy 31 = .ok (.iinc 3 1, 3) := by decide +kernel
theorem dX2_goBy_34 : decode cX2_goBy 34 = .ok (.goto (-32), 3) := by decide +kernel
theorem dX2_goBy_37 : decode cX2_goBy 37 = .ok (.return_, 1) := by decide +kernel
theorem dX2_beginDue_0 : decode cX2_beginDue 0 = .ok (.iconst 0, 1) := by decide +kernel
theorem dX2_beginDue_1 : decode cX2_beginDue 1 = .ok (.istore_n 2, 1) := by decide +kernel
theorem dX2_beginDue_2 : decode cX2_beginDue 2 = .ok (.iload_n 2, 1) := by decide +kernel
theorem dX2_beginDue_3 : decode cX2_beginDue 3 = .ok (.aload_n 1, 1) := by decide +kernel
theorem dX2_beginDue_4 : decode cX2_beginDue 4 = .ok (.getfield 55, 3) := by decide +kernel
theorem dX2_beginDue_7 : decode cX2_beginDue 7 = .ok (.if_icmp .ge 48, 3) := by decide +kernel
theorem dX2_beginDue_10 : decode cX2_beginDue 10 = .ok (.aload_n 0, 1) := by decide +kernel
theorem dX2_beginDue_11 : decode cX2_beginDue 11 = .ok (.getfield 9, 3) := by decide +kernel
theorem dX2_beginDue_14 : decode cX2_beginDue 14 = .ok (.iload_n 2, 1) := by decide +kernel
theorem dX2_beginDue_15 : decode cX2_beginDue 15 = .ok (.iaload, 1) := by decide +kernel
theorem dX2_beginDue_16 : decode cX2_beginDue 16 = .ok (.ifCond .ne 33, 3) := by decide +kernel
theorem dX2_beginDue_19 : decode cX2_beginDue 19 = .ok (.aload_n 0, 1) := by decide +kernel
theorem dX2_beginDue_20 : decode cX2_beginDue 20 = .ok (.getfield 15, 3) := by decide +kernel
theorem dX2_beginDue_23 : decode cX2_beginDue 23 = .ok (.iload_n 2, 1) := by decide +kernel
theorem dX2_beginDue_24 : decode cX2_beginDue 24 = .ok (.iaload, 1) := by decide +kernel
theorem dX2_beginDue_25 : decode cX2_beginDue 25 = .ok (.aload_n 0, 1) := by decide +kernel
theorem dX2_beginDue_26 : decode cX2_beginDue 26 = .ok (.getfield 24, 3) := by decide +kernel
theorem dX2_beginDue_29 : decode cX2_beginDue 29 = .ok (.if_icmp .gt 20, 3) := by decide +kernel
theorem dX2_beginDue_32 : decode cX2_beginDue 32 = .ok (.aload_n 0, 1) := by decide +kernel
theorem dX2_beginDue_33 : decode cX2_beginDue 33 = .ok (.getfield 9, 3) := by decide +kernel
theorem dX2_beginDue_36 : decode cX2_beginDue 36 = .ok (.iload_n 2, 1) := by decide +kernel
theorem dX2_beginDue_37 : decode cX2_beginDue 37 = .ok (.iconst 1, 1) := by decide +kernel
theorem dX2_beginDue_38 : decode cX2_beginDue 38 = .ok (.iastore, 1) := by decide +kernel
theorem dX2_beginDue_39 : decode cX2_beginDue 39 = .ok (.aload_n 0, 1) := by decide +kernel
theorem dX2_beginDue_40 : decode cX2_beginDue 40 = .ok (.getfield 18, 3) := by decide +kernel
theorem dX2_beginDue_43 : decode cX2_beginDue 43 = .ok (.iload_n 2, 1) := by decide +kernel
theorem dX2_beginDue_44 : decode cX2_beginDue 44 = .ok (.aload_n 0, 1) := by decide +kernel
theorem dX2_beginDue_45 : decode cX2_beginDue 45 = .ok (.getfield 24, 3) := by decide +kernel
theorem dX2_beginDue_48 : decode cX2_beginDue 48 = .ok (.iastore, 1) := by decide +kernel
theorem dX2_beginDue_49 : decode cX2_beginDue 49 = .ok (.iinc 2 1, 3) := by decide +kernel
theorem dX2_beginDue_52 : decode cX2_beginDue 52 = .ok (.goto (-50), 3) := by decide +kernel
theorem dX2_beginDue_55 : decode cX2_beginDue 55 = .ok (.return_, 1) := by decide +kernel
set_option maxRecDepth 20000 in
theorem ggX2_worthOfAll_X2_worthOf : GoodIn wsX2_worthOfAll wsX2_worthOf := goodIn_r _ [7, 8, 9, 10, 11, 12, 13, 14, 15, 16, 17, 18, 19, 20, 21, 22, 23, 24, 25, 26, 27, 28, 29, 30, 31, 32, 33, 34, 35, 36, 37, 38, 39, 40, 41] (by decide +kernel) (by decide +kernel)
set_option maxRecDepth 20000 in
theorem gX2_worthOfAll_X2_worthOf : GoodIn wsX2_worthOfAll (wsV RX2 58 RX2 yX2_worthOf wsX2_worthOf) := goodIn_app (goodIn_of _ (by decide +kernel)) ggX2_worthOfAll_X2_worthOf
theorem dX2_worthOfAll_0 : decode cX2_worthOfAll 0 = .ok (.iconst 0, 1) := by decide +kernel
theorem dX2_worthOfAll_1 : decode cX2_worthOfAll 1 = .ok (.istore_n 2, 1) := by decide +kernel
theorem dX2_worthOfAll_2 : decode cX2_worthOfAll 2 = .ok (.iconst 0, 1) := by decide +kernel
theorem dX2_worthOfAll_3 : decode cX2_worthOfAll 3 = .ok (.istore_n 3, 1) := by decide +kernel
theorem dX2_worthOfAll_4 : decode cX2_worthOfAll 4 = .ok (.iload_n 3, 1) := by decide +kernel
theorem dX2_worthOfAll_5 : decode cX2_worthOfAll 5 = .ok (.aload_n 1, 1) := by decide +kernel
theorem dX2_worthOfAll_6 : decode cX2_worthOfAll 6 = .ok (.getfield 55, 3) := by decide +kernel
theorem dX2_worthOfAll_9 : decode cX2_worthOfAll 9 = .ok (.if_icmp .ge 28, 3) := by decide +kernel
theorem dX2_worthOfAll_12 : decode cX2_worthOfAll 12 = .ok (.aload_n 0, 1) := by decide +kernel
theorem dX2_worthOfAll_13 : decode cX2_worthOfAll 13 = .ok (.getfield 9, 3) := by decide +kernel
theorem dX2_worthOfAll_16 : decode cX2_worthOfAll 16 = .ok (.iload_n 3, 1) := by decide +kernel
theorem dX2_worthOfAll_17 : decode cX2_worthOfAll 17 = .ok (.iaload, 1) := by decide +kernel
theorem dX2_worthOfAll_18 : decode cX2_worthOfAll 18 = .ok (.iconst 1, 1) := by decide +kernel
theorem dX2_worthOfAll_19 : decode cX2_worthOfAll 19 = .ok (.if_icmp .ne 12, 3) := by decide +kernel
theorem dX2_worthOfAll_22 : decode cX2_worthOfAll 22 = .ok (.iload_n 2, 1) := by decide +kernel
theorem dX2_worthOfAll_23 : decode cX2_worthOfAll 23 = .ok (.aload_n 0, 1) := by decide +kernel
theorem dX2_worthOfAll_24 : decode cX2_worthOfAll 24 = .ok (.aload_n 1, 1) := by decide +kernel
theorem dX2_worthOfAll_25 : decode cX2_worthOfAll 25 = .ok (.iload_n 3, 1) := by decide +kernel
theorem dX2_worthOfAll_26 : decode cX2_worthOfAll 26 = .ok (.invokevirtual 58, 3) := by decide +kernel
theorem dX2_worthOfAll_29 : decode cX2_worthOfAll 29 = .ok (.iadd, 1) := by decide +kernel
theorem dX2_worthOfAll_30 : decode cX2_worthOfAll 30 = .ok (.istore_n 2, 1) := by decide +kernel
theorem dX2_worthOfAll_31 : decode cX2_worthOfAll 31 = .ok (.iinc 3 1, 3) := by decide +kernel
theorem dX2_worthOfAll_34 : decode cX2_worthOfAll 34 = .ok (.goto (-30), 3) := by decide +kernel
theorem dX2_worthOfAll_37 : decode cX2_worthOfAll 37 = .ok (.iload_n 2, 1) := by decide +kernel
theorem dX2_worthOfAll_38 : decode cX2_worthOfAll 38 = .ok (.ireturn, 1) := by decide +kernel
set_option maxRecDepth 20000 in
theorem ggX2_worthOf_X4_worth : GoodIn wsX2_worthOf wsX4_worth := goodIn_r _ [8, 9, 10, 11, 12, 13, 14, 15] (by decide +kernel) (by decide +kernel)
set_option maxRecDepth 20000 in
theorem gX2_worthOf_X4_worth_n71 : GoodIn wsX2_worthOf (wsX4_worth) := ggX2_worthOf_X4_worth
theorem dX2_worthOf_0 : decode cX2_worthOf 0 = .ok (.aload_n 1, 1) := by decide +kernel
theorem dX2_worthOf_1 : decode cX2_worthOf 1 = .ok (.getfield 62, 3) := by decide +kernel
theorem dX2_worthOf_4 : decode cX2_worthOf 4 = .ok (.iload_n 2, 1) := by decide +kernel
theorem dX2_worthOf_5 : decode cX2_worthOf 5 = .ok (.iaload, 1) := by decide +kernel
theorem dX2_worthOf_6 : decode cX2_worthOf 6 = .ok (.aload_n 1, 1) := by decide +kernel
theorem dX2_worthOf_7 : decode cX2_worthOf 7 = .ok (.getfield 65, 3) := by decide +kernel
theorem dX2_worthOf_10 : decode cX2_worthOf 10 = .ok (.iload_n 2, 1) := by decide +kernel
theorem dX2_worthOf_11 : decode cX2_worthOf 11 = .ok (.iaload, 1) := by decide +kernel
theorem dX2_worthOf_12 : decode cX2_worthOf 12 = .ok (.aload_n 1, 1) := by decide +kernel
theorem dX2_worthOf_13 : decode cX2_worthOf 13 = .ok (.getfield 68, 3) := by decide +kernel
theorem dX2_worthOf_16 : decode cX2_worthOf 16 = .ok (.iload_n 2, 1) := by decide +kernel
theorem dX2_worthOf_17 : decode cX2_worthOf 17 = .ok (.iaload, 1) := by decide +kernel
theorem dX2_worthOf_18 : decode cX2_worthOf 18 = .ok (.aload_n 0, 1) := by decide +kernel
theorem dX2_worthOf_19 : decode cX2_worthOf 19 = .ok (.getfield 24, 3) := by decide +kernel
theorem dX2_worthOf_22 : decode cX2_worthOf 22 = .ok (.aload_n 0, 1) := by decide +kernel
theorem dX2_worthOf_23 : decode cX2_worthOf 23 = .ok (.getfield 18, 3) := by decide +kernel
theorem dX2_worthOf_26 : decode cX2_worthOf 26 = .ok (.iload_n 2, 1) := by decide +kernel
theorem dX2_worthOf_27 : decode cX2_worthOf 27 = .ok (.iaload, 1) := by decide +kernel
theorem dX2_worthOf_28 : decode cX2_worthOf 28 = .ok (.isub, 1) := by decide +kernel
theorem dX2_worthOf_29 : decode cX2_worthOf 29 = .ok (.invokestatic 71, 3) := by decide +kernel
theorem dX2_worthOf_32 : decode cX2_worthOf 32 = .ok (.ireturn, 1) := by decide +kernel
set_option maxRecDepth 20000 in
theorem ggX2_endMinute_X2_finish : GoodIn wsX2_endMinute wsX2_finish := goodIn_r _ [10, 3, 11, 12, 13, 14, 1, 15, 16, 17, 18, 19, 20, 21, 22, 23, 24, 25, 26, 27, 28, 29, 30, 31, 32, 33, 34, 35, 36, 37, 38] (by decide +kernel) (by decide +kernel)
set_option maxRecDepth 20000 in
theorem gX2_endMinute_X2_finish : GoodIn wsX2_endMinute (wsV RX2 78 RX2 yX2_finish wsX2_finish) := goodIn_app (goodIn_of _ (by decide +kernel)) ggX2_endMinute_X2_finish
theorem dX2_endMinute_0 : decode cX2_endMinute 0 = .ok (.aload_n 0, 1) := by decide +kernel
theorem dX2_endMinute_1 : decode cX2_endMinute 1 = .ok (.dup, 1) := by decide +kernel
theorem dX2_endMinute_2 : decode cX2_endMinute 2 = .ok (.getfield 24, 3) := by decide +kernel
theorem dX2_endMinute_5 : decode cX2_endMinute 5 = .ok (.iconst 1, 1) := by decide +kernel
theorem dX2_endMinute_6 : decode cX2_endMinute 6 = .ok (.iadd, 1) := by decide +kernel
theorem dX2_endMinute_7 : decode cX2_endMinute 7 = .ok (.putfield 24, 3) := by decide +kernel
theorem dX2_endMinute_10 : decode cX2_endMinute 10 = .ok (.iconst 0, 1) := by decide +kernel
theorem dX2_endMinute_11 : decode cX2_endMinute 11 = .ok (.istore_n 2, 1) := by decide +kernel
theorem dX2_endMinute_12 : decode cX2_endMinute 12 = .ok (.iload_n 2, 1) := by decide +kernel
theorem dX2_endMinute_13 : decode cX2_endMinute 13 = .ok (.aload_n 1, 1) := by decide +kernel
theorem dX2_endMinute_14 : decode cX2_endMinute 14 = .ok (.getfield 55, 3) := by decide +kernel
theorem dX2_endMinute_17 : decode cX2_endMinute 17 = .ok (.if_icmp .ge 46, 3) := by decide +kernel
theorem dX2_endMinute_20 : decode cX2_endMinute 20 = .ok (.aload_n 0, 1) := by decide +kernel
theorem dX2_endMinute_21 : decode cX2_endMinute 21 = .ok (.getfield 9, 3) := by decide +kernel
theorem dX2_endMinute_24 : decode cX2_endMinute 24 = .ok (.iload_n 2, 1) := by decide +kernel
theorem dX2_endMinute_25 : decode cX2_endMinute 25 = .ok (.iaload, 1) := by decide +kernel
theorem dX2_endMinute_26 : decode cX2_endMinute 26 = .ok (.iconst 1, 1) := by decide +kernel
theorem dX2_endMinute_27 : decode cX2_endMinute 27 = .ok (.if_icmp .ne 30, 3) := by decide +kernel
theorem dX2_endMinute_30 : decode cX2_endMinute 30 = .ok (.aload_n 0, 1) := by decide +kernel
theorem dX2_endMinute_31 : decode cX2_endMinute 31 = .ok (.getfield 24, 3) := by decide +kernel
theorem dX2_endMinute_34 : decode cX2_endMinute 34 = .ok (.aload_n 0, 1) := by decide +kernel
theorem dX2_endMinute_35 : decode cX2_endMinute 35 = .ok (.getfield 18, 3) := by decide +kernel
theorem dX2_endMinute_38 : decode cX2_endMinute 38 = .ok (.iload_n 2, 1) := by decide +kernel
theorem dX2_endMinute_39 : decode cX2_endMinute 39 = .ok (.iaload, 1) := by decide +kernel
theorem dX2_endMinute_40 : decode cX2_endMinute 40 = .ok (.isub, 1) := by decide +kernel
theorem dX2_endMinute_41 : decode cX2_endMinute 41 = .ok (.aload_n 1, 1) := by decide +kernel
theorem dX2_endMinute_42 : decode cX2_endMinute 42 = .ok (.getfield 75, 3) := by decide +kernel
theorem dX2_endMinute_45 : decode cX2_endMinute 45 = .ok (.iload_n 2, 1) := by decide +kernel
theorem dX2_endMinute_46 : decode cX2_endMinute 46 = .ok (.iaload, 1) := by decide +kernel
theorem dX2_endMinute_47 : decode cX2_endMinute 47 = .ok (.if_icmp .lt 10, 3) := by decide +kernel
theorem dX2_endMinute_50 : decode cX2_endMinute 50 = .ok (.aload_n 0, 1) := by decide +kernel
theorem dX2_endMinute_51 : decode cX2_endMinute 51 = .ok (.aload_n 1, 1) := by decide +kernel
theorem dX2_endMinute_52 : decode cX2_endMinute 52 = .ok (.iload_n 2, 1) := by decide +kernel
theorem dX2_endMinute_53 : decode cX2_endMinute 53 = .ok (.iconst 2, 1) := by decide +kernel
theorem dX2_endMinute_54 : decode cX2_endMinute 54 = .ok (.invokevirtual 78, 3) := by decide +kernel
theorem dX2_endMinute_57 : decode cX2_endMinute 57 = .ok (.iinc 2 1, 3) := by decide +kernel
theorem dX2_endMinute_60 : decode cX2_endMinute 60 = .ok (.goto (-48), 3) := by decide +kernel
theorem dX2_endMinute_63 : decode cX2_endMinute 63 = .ok (.return_, 1) := by decide +kernel
theorem dX2_finish_0 : decode cX2_finish 0 = .ok (.aload_n 0, 1) := by decide +kernel
theorem dX2_finish_1 : decode cX2_finish 1 = .ok (.getfield 9, 3) := by decide +kernel
theorem dX2_finish_4 : decode cX2_finish 4 = .ok (.iload_n 2, 1) := by decide +kernel
theorem dX2_finish_5 : decode cX2_finish 5 = .ok (.iload_n 3, 1) := by decide +kernel
theorem dX2_finish_6 : decode cX2_finish 6 = .ok (.iastore, 1) := by decide +kernel
theorem dX2_finish_7 : decode cX2_finish 7 = .ok (.iconst 0, 1) := by decide +kernel
theorem dX2_finish_8 : decode cX2_finish 8 = .ok (.istore 4, 2) := by decide +kernel
theorem dX2_finish_10 : decode cX2_finish 10 = .ok (.iload 4, 2) := by decide +kernel
theorem dX2_finish_12 : decode cX2_finish 12 = .ok (.aload_n 1, 1) := by decide +kernel
theorem dX2_finish_13 : decode cX2_finish 13 = .ok (.getfield 82, 3) := by decide +kernel
theorem dX2_finish_16 : decode cX2_finish 16 = .ok (.if_icmp .ge 68, 3) := by decide +kernel
theorem dX2_finish_19 : decode cX2_finish 19 = .ok (.aload_n 1, 1) := by decide +kernel
theorem dX2_finish_20 : decode cX2_finish 20 = .ok (.getfield 85, 3) := by decide +kernel
theorem dX2_finish_23 : decode cX2_finish 23 = .ok (.iload 4, 2) := by decide +kernel
theorem dX2_finish_25 : decode cX2_finish 25 = .ok (.iaload, 1) := by decide +kernel
theorem dX2_finish_26 : decode cX2_finish 26 = .ok (.istore 5, 2) := by decide +kernel
theorem dX2_finish_28 : decode cX2_finish 28 = .ok (.aload_n 1, 1) := by decide +kernel
theorem dX2_finish_29 : decode cX2_finish 29 = .ok (.getfield 88, 3) := by decide +kernel
theorem dX2_finish_32 : decode cX2_finish 32 = .ok (.iload 4, 2) := by decide +kernel
theorem dX2_finish_34 : decode cX2_finish 34 = .ok (.iaload, 1) := by decide +kernel
theorem dX2_finish_35 : decode cX2_finish 35 = .ok (.iload_n 2, 1) := by decide +kernel
theorem dX2_finish_36 : decode cX2_finish 36 = .ok (.if_icmp .ne 42, 3) := by decide +kernel
theorem dX2_finish_39 : decode cX2_finish 39 = .ok (.aload_n 0, 1) := by decide +kernel
theorem dX2_finish_40 : decode cX2_finish 40 = .ok (.getfield 9, 3) := by decide +kernel
theorem dX2_finish_43 : decode cX2_finish 43 = .ok (.iload 5, 2) := by decide +kernel
theorem dX2_finish_45 : decode cX2_finish 45 = .ok (.iaload, 1) := by decide +kernel
theorem dX2_finish_46 : decode cX2_finish 46 = .ok (.ifCond .ne 32, 3) := by decide +kernel
theorem dX2_finish_49 : decode cX2_finish 49 = .ok (.aload_n 0, 1) := by decide +kernel
theorem dX2_finish_50 : decode cX2_finish 50 = .ok (.getfield 15, 3) := by decide +kernel
theorem dX2_finish_53 : decode cX2_finish 53 = .ok (.iload 5, 2) := by decide +kernel
theorem dX2_finish_55 : decode cX2_finish 55 = .ok (.aload_n 0, 1) := by decide +kernel
theorem dX2_finish_56 : decode cX2_finish 56 = .ok (.getfield 15, 3) := by decide +kernel
theorem dX2_finish_59 : decode cX2_finish 59 = .ok (.iload 5, 2) := by decide +kernel
theorem dX2_finish_61 : decode cX2_finish 61 = .ok (.iaload, 1) := by decide +kernel
theorem dX2_finish_62 : decode cX2_finish 62 = .ok (.aload_n 0, 1) := by decide +kernel
theorem dX2_finish_63 : decode cX2_finish 63 = .ok (.getfield 24, 3) := by decide +kernel
theorem dX2_finish_66 : decode cX2_finish 66 = .ok (.aload_n 1, 1) := by decide +kernel
theorem dX2_finish_67 : decode cX2_finish 67 = .ok (.getfield 91, 3) := by decide +kernel
theorem dX2_finish_70 : decode cX2_finish 70 = .ok (.iload 4, 2) := by decide +kernel
theorem dX2_finish_72 : decode cX2_finish 72 = .ok (.iaload, 1) := by decide +kernel
theorem dX2_finish_73 : decode cX2_finish 73 = .ok (.iadd, 1) := by decide +kernel
theorem dX2_finish_74 : decode cX2_finish 74 = .ok (.invokestatic 94, 3) := by decide +kernel
theorem dX2_finish_77 : decode cX2_finish 77 = .ok (.iastore, 1) := by decide +kernel
theorem dX2_finish_78 : decode cX2_finish 78 = .ok (.iinc 4 1, 3) := by decide +kernel
theorem dX2_finish_81 : decode cX2_finish 81 = .ok (.goto (-71), 3) := by decide +kernel
theorem dX2_finish_84 : decode cX2_finish 84 = .ok (.return_, 1) := by decide +kernel
theorem dX2_canPin_0 : decode cX2_canPin 0 = .ok (.aload_n 1, 1) := by decide +kernel
theorem dX2_canPin_1 : decode cX2_canPin 1 = .ok (.getfield 100, 3) := by decide +kernel
theorem dX2_canPin_4 : decode cX2_canPin 4 = .ok (.iload_n 2, 1) := by decide +kernel
theorem dX2_canPin_5 : decode cX2_canPin 5 = .ok (.iaload, 1) := by decide +kernel
theorem dX2_canPin_6 : decode cX2_canPin 6 = .ok (.aload_n 1, 1) := by decide +kernel
theorem dX2_canPin_7 : decode cX2_canPin 7 = .ok (.getfield 62, 3) := by decide +kernel
theorem dX2_canPin_10 : decode cX2_canPin 10 = .ok (.iload_n 3, 1) := by decide +kernel
theorem dX2_canPin_11 : decode cX2_canPin 11 = .ok (.iaload, 1) := by decide +kernel
theorem dX2_canPin_12 : decode cX2_canPin 12 = .ok (.ishr, 1) := by decide +kernel
theorem dX2_canPin_13 : decode cX2_canPin 13 = .ok (.iconst 1, 1) := by decide +kernel
theorem dX2_canPin_14 : decode cX2_canPin 14 = .ok (.iand, 1) := by decide +kernel
theorem dX2_canPin_15 : decode cX2_canPin 15 = .ok (.iconst 1, 1) := by decide +kernel
theorem dX2_canPin_16 : decode cX2_canPin 16 = .ok (.if_icmp .ne 7, 3) := by decide +kernel
theorem dX2_canPin_19 : decode cX2_canPin 19 = .ok (.iconst 1, 1) := by decide +kernel
theorem dX2_canPin_20 : decode cX2_canPin 20 = .ok (.goto 4, 3) := by decide +kernel
theorem dX2_canPin_23 : decode cX2_canPin 23 = .ok (.iconst 0, 1) := by decide +kernel
theorem dX2_canPin_24 : decode cX2_canPin 24 = .ok (.istore 4, 2) := by decide +kernel
theorem dX2_canPin_26 : decode cX2_canPin 26 = .ok (.aload_n 0, 1) := by decide +kernel
theorem dX2_canPin_27 : decode cX2_canPin 27 = .ok (.getfield 21, 3) := by decide +kernel
theorem dX2_canPin_30 : decode cX2_canPin 30 = .ok (.iload_n 2, 1) := by decide +kernel
theorem dX2_canPin_31 : decode cX2_canPin 31 = .ok (.iaload, 1) := by decide +kernel
theorem dX2_canPin_32 : decode cX2_canPin 32 = .ok (.ifCond .le 22, 3) := by decide +kernel
theorem dX2_canPin_35 : decode cX2_canPin 35 = .ok (.aload_n 0, 1) := by decide +kernel
theorem dX2_canPin_36 : decode cX2_canPin 36 = .ok (.getfield 9, 3) := by decide +kernel
theorem dX2_canPin_39 : decode cX2_canPin 39 = .ok (.iload_n 3, 1) := by decide +kernel
theorem dX2_canPin_40 : decode cX2_canPin 40 = .ok (.iaload, 1) := by decide +kernel
theorem dX2_canPin_41 : decode cX2_canPin 41 = .ok (.iconst 1, 1) := by decide +kernel
theorem dX2_canPin_42 : decode cX2_canPin 42 = .ok (.if_icmp .ne 12, 3) := by decide +kernel
theorem dX2_canPin_45 : decode cX2_canPin 45 = .ok (.iload 4, 2) := by decide +kernel
theorem dX2_canPin_47 : decode cX2_canPin 47 = .ok (.ifCond .eq 7, 3) := by decide +kernel
theorem dX2_canPin_50 : decode cX2_canPin 50 = .ok (.iconst 1, 1) := by decide +kernel
theorem dX2_canPin_51 : decode cX2_canPin 51 = .ok (.goto 4, 3) := by decide +kernel
theorem dX2_canPin_54 : decode cX2_canPin 54 = .ok (.iconst 0, 1) := by decide +kernel
theorem dX2_canPin_55 : decode cX2_canPin 55 = .ok (.ireturn, 1) := by decide +kernel
set_option maxRecDepth 20000 in
theorem ggX2_pinBy_X2_finish : GoodIn wsX2_pinBy wsX2_finish := goodIn_r _ [6, 7, 8, 9, 10, 11, 12, 13, 14, 15, 16, 17, 18, 19, 20, 21, 22, 23, 24, 25, 26, 27, 28, 29, 30, 31, 32, 33, 34, 35, 36] (by decide +kernel) (by decide +kernel)
set_option maxRecDepth 20000 in
theorem gX2_pinBy_X2_finish : GoodIn wsX2_pinBy (wsV RX2 78 RX2 yX2_finish wsX2_finish) := goodIn_app (goodIn_of _ (by decide +kernel)) ggX2_pinBy_X2_finish
theorem dX2_pinBy_0 : decode cX2_pinBy 0 = .ok (.aload_n 0, 1) := by decide +kernel
theorem dX2_pinBy_1 : decode cX2_pinBy 1 = .ok (.getfield 21, 3) := by decide +kernel
theorem dX2_pinBy_4 : decode cX2_pinBy 4 = .ok (.iload_n 2, 1) := by decide +kernel
theorem dX2_pinBy_5 : decode cX2_pinBy 5 = .ok (.dup2, 1) := by decide +kernel
theorem dX2_pinBy_6 : decode cX2_pinBy 6 = .ok (.iaload, 1) := by decide +kernel
theorem dX2_pinBy_7 : decode cX2_pinBy 7 = .ok (.iconst 1, 1) := by decide +kernel
theorem dX2_pinBy_8 : decode cX2_pinBy 8 = .ok (.isub, 1) := by decide +kernel
theorem dX2_pinBy_9 : decode cX2_pinBy 9 = .ok (.iastore, 1) := by decide +kernel
theorem dX2_pinBy_10 : decode cX2_pinBy 10 = .ok (.aload_n 0, 1) := by decide +kernel
theorem dX2_pinBy_11 : decode cX2_pinBy 11 = .ok (.aload_n 1, 1) := by decide +kernel
theorem dX2_pinBy_12 : decode cX2_pinBy 12 = .ok (.iload_n 3, 1) := by decide +kernel
theorem dX2_pinBy_13 : decode cX2_pinBy 13 = .ok (.iconst 3, 1) := by decide +kernel
theorem dX2_pinBy_14 : decode cX2_pinBy 14 = .ok (.invokevirtual 78, 3) := by decide +kernel
theorem dX2_pinBy_17 : decode cX2_pinBy 17 = .ok (.return_, 1) := by decide +kernel
theorem dX2_lendPin_0 : decode cX2_lendPin 0 = .ok (.aload_n 0, 1) := by decide +kernel
theorem dX2_lendPin_1 : decode cX2_lendPin 1 = .ok (.getfield 21, 3) := by decide +kernel
theorem dX2_lendPin_4 : decode cX2_lendPin 4 = .ok (.iload_n 1, 1) := by decide +kernel
theorem dX2_lendPin_5 : decode cX2_lendPin 5 = .ok (.dup2, 1) := by decide +kernel
theorem dX2_lendPin_6 : decode cX2_lendPin 6 = .ok (.iaload, 1) := by decide +kernel
theorem dX2_lendPin_7 : decode cX2_lendPin 7 = .ok (.iconst 1, 1) := by decide +kernel
theorem dX2_lendPin_8 : decode cX2_lendPin 8 = .ok (.isub, 1) := by decide +kernel
theorem dX2_lendPin_9 : decode cX2_lendPin 9 = .ok (.iastore, 1) := by decide +kernel
theorem dX2_lendPin_10 : decode cX2_lendPin 10 = .ok (.aload_n 0, 1) := by decide +kernel
theorem dX2_lendPin_11 : decode cX2_lendPin 11 = .ok (.getfield 21, 3) := by decide +kernel
theorem dX2_lendPin_14 : decode cX2_lendPin 14 = .ok (.iload_n 2, 1) := by decide +kernel
theorem dX2_lendPin_15 : decode cX2_lendPin 15 = .ok (.dup2, 1) := by decide +kernel
theorem dX2_lendPin_16 : decode cX2_lendPin 16 = .ok (.iaload, 1) := by decide +kernel
theorem dX2_lendPin_17 : decode cX2_lendPin 17 = .ok (.iconst 1, 1) := by decide +kernel
theorem dX2_lendPin_18 : decode cX2_lendPin 18 = .ok (.iadd, 1) := by decide +kernel
theorem dX2_lendPin_19 : decode cX2_lendPin 19 = .ok (.iastore, 1) := by decide +kernel
theorem dX2_lendPin_20 : decode cX2_lendPin 20 = .ok (.return_, 1) := by decide +kernel
set_option maxRecDepth 20000 in
theorem ggX2_pinnableBy_X2_canPin : GoodIn wsX2_pinnableBy wsX2_canPin := goodIn_r _ [6, 7, 8, 9, 10, 11, 12, 13, 14, 15, 16, 17, 18, 19, 20, 21, 22, 23, 24, 25, 26, 27, 28, 29] (by decide +kernel) (by decide +kernel)
set_option maxRecDepth 20000 in
theorem gX2_pinnableBy_X2_canPin : GoodIn wsX2_pinnableBy (wsV RX2 103 RX2 yX2_canPin wsX2_canPin) := goodIn_app (goodIn_of _ (by decide +kernel)) ggX2_pinnableBy_X2_canPin
theorem dX2_pinnableBy_0 : decode cX2_pinnableBy 0 = .ok (.iconst 0, 1) := by decide +kernel
theorem dX2_pinnableBy_1 : decode cX2_pinnableBy 1 = .ok (.istore_n 3, 1) := by decide +kernel
theorem dX2_pinnableBy_2 : decode cX2_pinnableBy 2 = .ok (.iconst 0, 1) := by decide +kernel
theorem dX2_pinnableBy_3 : decode cX2_pinnableBy 3 = .ok (.istore 4, 2) := by decide +kernel
theorem dX2_pinnableBy_5 : decode cX2_pinnableBy 5 = .ok (.iload 4, 2) := by decide +kernel
theorem dX2_pinnableBy_7 : decode cX2_pinnableBy 7 = .ok (.aload_n 1, 1) := by decide +kernel
theorem dX2_pinnableBy_8 : decode cX2_pinnableBy 8 = .ok (.getfield 55, 3) := by decide +kernel
theorem dX2_pinnableBy_11 : decode cX2_pinnableBy 11 = .ok (.if_icmp .ge 27, 3) := by decide +kernel
theorem dX2_pinnableBy_14 : decode cX2_pinnableBy 14 = .ok (.aload_n 0, 1) := by decide +kernel
theorem dX2_pinnableBy_15 : decode cX2_pinnableBy 15 = .ok (.aload_n 1, 1) := by decide +kernel
theorem dX2_pinnableBy_16 : decode cX2_pinnableBy 16 = .ok (.iload_n 2, 1) := by decide +kernel
theorem dX2_pinnableBy_17 : decode cX2_pinnableBy 17 = .ok (.iload 4, 2) := by decide +kernel
theorem dX2_pinnableBy_19 : decode cX2_pinnableBy 19 = .ok (.invokevirtual 103, 3) := by decide +kernel
theorem dX2_pinnableBy_22 : decode cX2_pinnableBy 22 = .ok (.ifCond .eq 10, 3) := by decide +kernel
theorem dX2_pinnableBy_25 : decode cX2_pinnableBy 25 = .ok (.iload_n 3, 1) := by decide +kernel
theorem dX2_pinnableBy_26 : decode cX2_pinnableBy 26 = .ok (.iconst 1, 1) := by decide +kernel
theorem dX2_pinnableBy_27 : decode cX2_pinnableBy 27 = .ok (.iload 4, 2) := by decide +kernel
theorem dX2_pinnableBy_29 : decode cX2_pinnableBy 29 = .ok (.ishl, 1) := by decide +kernel
theorem dX2_pinnableBy_30 : decode cX2_pinnableBy 30 = .ok (.ior, 1) := by decide +kernel
theorem dX2_pinnableBy_31 : decode cX2_pinnableBy 31 = .ok (.istore_n 3, 1) := by decide +kernel
theorem dX2_pinnableBy_32 : decode cX2_pinnableBy 32 = .ok (.iinc 4 1, 3) := by decide +kernel
theorem dX2_pinnableBy_35 : decode cX2_pinnableBy 35 = .ok (.goto (-30), 3) := by decide +kernel
theorem dX2_pinnableBy_38 : decode cX2_pinnableBy 38 = .ok (.iload_n 3, 1) := by decide +kernel
theorem dX2_pinnableBy_39 : decode cX2_pinnableBy 39 = .ok (.ireturn, 1) := by decide +kernel
theorem dX2_onBits_0 : decode cX2_onBits 0 = .ok (.iconst 0, 1) := by decide +kernel
theorem dX2_onBits_1 : decode cX2_onBits 1 = .ok (.istore_n 2, 1) := by decide +kernel
theorem dX2_onBits_2 : decode cX2_onBits 2 = .ok (.iconst 0, 1) := by decide +kernel
theorem dX2_onBits_3 : decode cX2_onBits 3 = .ok (.istore_n 3, 1) := by decide +kernel
theorem dX2_onBits_4 : decode cX2_onBits 4 = .ok (.iload_n 3, 1) := by decide +kernel
theorem dX2_onBits_5 : decode cX2_onBits 5 = .ok (.aload_n 1, 1) := by decide +kernel
theorem dX2_onBits_6 : decode cX2_onBits 6 = .ok (.getfield 55, 3) := by decide +kernel
theorem dX2_onBits_9 : decode cX2_onBits 9 = .ok (.if_icmp .ge 25, 3) := by decide +kernel
theorem dX2_onBits_12 : decode cX2_onBits 12 = .ok (.aload_n 0, 1) := by decide +kernel
theorem dX2_onBits_13 : decode cX2_onBits 13 = .ok (.getfield 9, 3) := by decide +kernel
theorem dX2_onBits_16 : decode cX2_onBits 16 = .ok (.iload_n 3, 1) := by decide +kernel
theorem dX2_onBits_17 : decode cX2_onBits 17 = .ok (.iaload, 1) := by decide +kernel
theorem dX2_onBits_18 : decode cX2_onBits 18 = .ok (.iconst 1, 1) := by decide +kernel
theorem dX2_onBits_19 : decode cX2_onBits 19 = .ok (.if_icmp .ne 9, 3) := by decide +kernel
theorem dX2_onBits_22 : decode cX2_onBits 22 = .ok (.iload_n 2, 1) := by decide +kernel
theorem dX2_onBits_23 : decode cX2_onBits 23 = .ok (.iconst 1, 1) := by decide +kernel
theorem dX2_onBits_24 : decode cX2_onBits 24 = .ok (.iload_n 3, 1) := by decide +kernel
theorem dX2_onBits_25 : decode cX2_onBits 25 = .ok (.ishl, 1) := by decide +kernel
theorem dX2_onBits_26 : decode cX2_onBits 26 = .ok (.ior, 1) := by decide +kernel
theorem dX2_onBits_27 : decode cX2_onBits 27 = .ok (.istore_n 2, 1) := by decide +kernel
theorem dX2_onBits_28 : decode cX2_onBits 28 = .ok (.iinc 3 1, 3) := by decide +kernel
theorem dX2_onBits_31 : decode cX2_onBits 31 = .ok (.goto (-27), 3) := by decide +kernel
theorem dX2_onBits_34 : decode cX2_onBits 34 = .ok (.iload_n 2, 1) := by decide +kernel
theorem dX2_onBits_35 : decode cX2_onBits 35 = .ok (.ireturn, 1) := by decide +kernel
theorem dX2_soonBits_0 : decode cX2_soonBits 0 = .ok (.iconst 0, 1) := by decide +kernel
theorem dX2_soonBits_1 : decode cX2_soonBits 1 = .ok (.istore_n 2, 1) := by decide +kernel
theorem dX2_soonBits_2 : decode cX2_soonBits 2 = .ok (.iconst 0, 1) := by decide +kernel
theorem dX2_soonBits_3 : decode cX2_soonBits 3 = .ok (.istore_n 3, 1) := by decide +kernel
theorem dX2_soonBits_4 : decode cX2_soonBits 4 = .ok (.iload_n 3, 1) := by decide +kernel
theorem dX2_soonBits_5 : decode cX2_soonBits 5 = .ok (.aload_n 1, 1) := by decide +kernel
theorem dX2_soonBits_6 : decode cX2_soonBits 6 = .ok (.getfield 55, 3) := by decide +kernel
theorem dX2_soonBits_9 : decode cX2_soonBits 9 = .ok (.if_icmp .ge 40, 3) := by decide +kernel
theorem dX2_soonBits_12 : decode cX2_soonBits 12 = .ok (.aload_n 0, 1) := by decide +kernel
theorem dX2_soonBits_13 : decode cX2_soonBits 13 = .ok (.getfield 9, 3) := by decide +kernel
theorem dX2_soonBits_16 : decode cX2_soonBits 16 = .ok (.iload_n 3, 1) := by decide +kernel
theorem dX2_soonBits_17 : decode cX2_soonBits 17 = .ok (.iaload, 1) := by decide +kernel
theorem dX2_soonBits_18 : decode cX2_soonBits 18 = .ok (.ifCond .ne 25, 3) := by decide +kernel
theorem dX2_soonBits_21 : decode cX2_soonBits 21 = .ok (.aload_n 0, 1) := by decide +kernel
theorem dX2_soonBits_22 : decode cX2_soonBits 22 = .ok (.getfield 15, 3) := by decide +kernel
theorem dX2_soonBits_25 : decode cX2_soonBits 25 = .ok (.iload_n 3, 1) := by decide +kernel
theorem dX2_soonBits_26 : decode cX2_soonBits 26 = .ok (.iaload, 1) := by decide +kernel
theorem dX2_soonBits_27 : decode cX2_soonBits 27 = .ok (.aload_n 0, 1) := by decide +kernel
theorem dX2_soonBits_28 : decode cX2_soonBits 28 = .ok (.getfield 24, 3) := by decide +kernel
theorem dX2_soonBits_31 : decode cX2_soonBits 31 = .ok (.bipush 9, 2) := by decide +kernel
theorem dX2_soonBits_33 : decode cX2_soonBits 33 = .ok (.iadd, 1) := by decide +kernel
theorem dX2_soonBits_34 : decode cX2_soonBits 34 = .ok (.if_icmp .ge 9, 3) := by decide +kernel
theorem dX2_soonBits_37 : decode cX2_soonBits 37 = .ok (.iload_n 2, 1) := by decide +kernel
theorem dX2_soonBits_38 : decode cX2_soonBits 38 = .ok (.iconst 1, 1) := by decide +kernel
theorem dX2_soonBits_39 : decode cX2_soonBits 39 = .ok (.iload_n 3, 1) := by decide +kernel
theorem dX2_soonBits_40 : decode cX2_soonBits 40 = .ok (.ishl, 1) := by decide +kernel
theorem dX2_soonBits_41 : decode cX2_soonBits 41 = .ok (.ior, 1) := by decide +kernel
theorem dX2_soonBits_42 : decode cX2_soonBits 42 = .ok (.istore_n 2, 1) := by decide +kernel
theorem dX2_soonBits_43 : decode cX2_soonBits 43 = .ok (.iinc 3 1, 3) := by decide +kernel
theorem dX2_soonBits_46 : decode cX2_soonBits 46 = .ok (.goto (-42), 3) := by decide +kernel
theorem dX2_soonBits_49 : decode cX2_soonBits 49 = .ok (.iload_n 2, 1) := by decide +kernel
theorem dX2_soonBits_50 : decode cX2_soonBits 50 = .ok (.ireturn, 1) := by decide +kernel
theorem dX2_whenOf_0 : decode cX2_whenOf 0 = .ok (.aload_n 0, 1) := by decide +kernel
theorem dX2_whenOf_1 : decode cX2_whenOf 1 = .ok (.getfield 9, 3) := by decide +kernel
theorem dX2_whenOf_4 : decode cX2_whenOf 4 = .ok (.iload_n 1, 1) := by decide +kernel
theorem dX2_whenOf_5 : decode cX2_whenOf 5 = .ok (.iaload, 1) := by decide +kernel
theorem dX2_whenOf_6 : decode cX2_whenOf 6 = .ok (.ifCond .eq 10, 3) := by decide +kernel
theorem dX2_whenOf_9 : decode cX2_whenOf 9 = .ok (.aload_n 0, 1) := by decide +kernel
theorem dX2_whenOf_10 : decode cX2_whenOf 10 = .ok (.getfield 18, 3) := by decide +kernel
theorem dX2_whenOf_13 : decode cX2_whenOf 13 = .ok (.iload_n 1, 1) := by decide +kernel
theorem dX2_whenOf_14 : decode cX2_whenOf 14 = .ok (.iaload, 1) := by decide +kernel
theorem dX2_whenOf_15 : decode cX2_whenOf 15 = .ok (.ireturn, 1) := by decide +kernel
theorem dX2_whenOf_16 : decode cX2_whenOf 16 = .ok (.aload_n 0, 1) := by decide +kernel
theorem dX2_whenOf_17 : decode cX2_whenOf 17 = .ok (.getfield 15, 3) := by decide +kernel
theorem dX2_whenOf_20 : decode cX2_whenOf 20 = .ok (.iload_n 1, 1) := by decide +kernel
theorem dX2_whenOf_21 : decode cX2_whenOf 21 = .ok (.iaload, 1) := by decide +kernel
theorem dX2_whenOf_22 : decode cX2_whenOf 22 = .ok (.ldc 36, 2) := by decide +kernel
theorem dX2_whenOf_24 : decode cX2_whenOf 24 = .ok (.if_icmp .ne 8, 3) := by decide +kernel
theorem dX2_whenOf_27 : decode cX2_whenOf 27 = .ok (.bipush (-4), 2) := by decide +kernel
theorem dX2_whenOf_29 : decode cX2_whenOf 29 = .ok (.goto 9, 3) := by decide +kernel
theorem dX2_whenOf_32 : decode cX2_whenOf 32 = .ok (.aload_n 0, 1) := by decide +kernel
theorem dX2_whenOf_33 : decode cX2_whenOf 33 = .ok (.getfield 15, 3) := by decide +kernel
theorem dX2_whenOf_36 : decode cX2_whenOf 36 = .ok (.iload_n 1, 1) := by decide +kernel
theorem dX2_whenOf_37 : decode cX2_whenOf 37 = .ok (.iaload, 1) := by decide +kernel
theorem dX2_whenOf_38 : decode cX2_whenOf 38 = .ok (.ireturn, 1) := by decide +kernel
theorem dX2_howMany_0 : decode cX2_howMany 0 = .ok (.iconst 0, 1) := by decide +kernel
theorem dX2_howMany_1 : decode cX2_howMany 1 = .ok (.istore_n 3, 1) := by decide +kernel
theorem dX2_howMany_2 : decode cX2_howMany 2 = .ok (.iconst 0, 1) := by decide +kernel
theorem dX2_howMany_3 : decode cX2_howMany 3 = .ok (.istore 4, 2) := by decide +kernel
theorem dX2_howMany_5 : decode cX2_howMany 5 = .ok (.iload 4, 2) := by decide +kernel
theorem dX2_howMany_7 : decode cX2_howMany 7 = .ok (.aload_n 1, 1) := by decide +kernel
theorem dX2_howMany_8 : decode cX2_howMany 8 = .ok (.getfield 55, 3) := by decide +kernel
theorem dX2_howMany_11 : decode cX2_howMany 11 = .ok (.if_icmp .ge 23, 3) := by decide +kernel
theorem dX2_howMany_14 : decode cX2_howMany 14 = .ok (.aload_n 0, 1) := by decide +kernel
theorem dX2_howMany_15 : decode cX2_howMany 15 = .ok (.getfield 9, 3) := by decide +kernel
theorem dX2_howMany_18 : decode cX2_howMany 18 = .ok (.iload 4, 2) := by decide +kernel
theorem dX2_howMany_20 : decode cX2_howMany 20 = .ok (.iaload, 1) := by decide +kernel
theorem dX2_howMany_21 : decode cX2_howMany 21 = .ok (.iload_n 2, 1) := by decide +kernel
theorem dX2_howMany_22 : decode cX2_howMany 22 = .ok (.if_icmp .ne 6, 3) := by decide +kernel
theorem dX2_howMany_25 : decode cX2_howMany 25 = .ok (.iinc 3 1, 3) := by decide +kernel
theorem dX2_howMany_28 : decode cX2_howMany 28 = .ok (.iinc 4 1, 3) := by decide +kernel
theorem dX2_howMany_31 : decode cX2_howMany 31 = .ok (.goto (-26), 3) := by decide +kernel
theorem dX2_howMany_34 : decode cX2_howMany 34 = .ok (.iload_n 3, 1) := by decide +kernel
theorem dX2_howMany_35 : decode cX2_howMany 35 = .ok (.ireturn, 1) := by decide +kernel
theorem dX2_pinsOfAll_0 : decode cX2_pinsOfAll 0 = .ok (.iconst 0, 1) := by decide +kernel
theorem dX2_pinsOfAll_1 : decode cX2_pinsOfAll 1 = .ok (.istore_n 2, 1) := by decide +kernel
theorem dX2_pinsOfAll_2 : decode cX2_pinsOfAll 2 = .ok (.iconst 0, 1) := by decide +kernel
theorem dX2_pinsOfAll_3 : decode cX2_pinsOfAll 3 = .ok (.istore_n 3, 1) := by decide +kernel
theorem dX2_pinsOfAll_4 : decode cX2_pinsOfAll 4 = .ok (.iload_n 3, 1) := by decide +kernel
theorem dX2_pinsOfAll_5 : decode cX2_pinsOfAll 5 = .ok (.aload_n 1, 1) := by decide +kernel
theorem dX2_pinsOfAll_6 : decode cX2_pinsOfAll 6 = .ok (.getfield 107, 3) := by decide +kernel
theorem dX2_pinsOfAll_9 : decode cX2_pinsOfAll 9 = .ok (.if_icmp .ge 18, 3) := by decide +kernel
theorem dX2_pinsOfAll_12 : decode cX2_pinsOfAll 12 = .ok (.iload_n 2, 1) := by decide +kernel
theorem dX2_pinsOfAll_13 : decode cX2_pinsOfAll 13 = .ok (.aload_n 0, 1) := by decide +kernel
theorem dX2_pinsOfAll_14 : decode cX2_pinsOfAll 14 = .ok (.getfield 21, 3) := by decide +kernel
theorem dX2_pinsOfAll_17 : decode cX2_pinsOfAll 17 = .ok (.iload_n 3, 1) := by decide +kernel
theorem dX2_pinsOfAll_18 : decode cX2_pinsOfAll 18 = .ok (.iaload, 1) := by decide +kernel
theorem dX2_pinsOfAll_19 : decode cX2_pinsOfAll 19 = .ok (.iadd, 1) := by decide +kernel
theorem dX2_pinsOfAll_20 : decode cX2_pinsOfAll 20 = .ok (.istore_n 2, 1) := by decide +kernel
theorem dX2_pinsOfAll_21 : decode cX2_pinsOfAll 21 = .ok (.iinc 3 1, 3) := by decide +kernel
theorem dX2_pinsOfAll_24 : decode cX2_pinsOfAll 24 = .ok (.goto (-20), 3) := by decide +kernel
theorem dX2_pinsOfAll_27 : decode cX2_pinsOfAll 27 = .ok (.iload_n 2, 1) := by decide +kernel
theorem dX2_pinsOfAll_28 : decode cX2_pinsOfAll 28 = .ok (.ireturn, 1) := by decide +kernel
theorem dX3_init_0 : decode cX3_init 0 = .ok (.aload_n 0, 1) := by decide +kernel
theorem dX3_init_1 : decode cX3_init 1 = .ok (.invokespecial 3, 3) := by decide +kernel
theorem dX3_init_4 : decode cX3_init 4 = .ok (.aload_n 0, 1) := by decide +kernel
theorem dX3_init_5 : decode cX3_init 5 = .ok (.sipush 200, 3) := by decide +kernel
theorem dX3_init_8 : decode cX3_init 8 = .ok (.newarray .int, 2) := by decide +kernel
theorem dX3_init_10 : decode cX3_init 10 = .ok (.putfield 9, 3) := by decide +kernel
theorem dX3_init_13 : decode cX3_init 13 = .ok (.aload_n 0, 1) := by decide +kernel
theorem dX3_init_14 : decode cX3_init 14 = .ok (.iconst 5, 1) := by decide +kernel
theorem dX3_init_15 : decode cX3_init 15 = .ok (.newarray .int, 2) := by decide +kernel
theorem dX3_init_17 : decode cX3_init 17 = .ok (.putfield 15, 3) := by decide +kernel
theorem dX3_init_20 : decode cX3_init 20 = .ok (.return_, 1) := by decide +kernel
theorem dX3_append_0 : decode cX3_append 0 = .ok (.aload_n 0, 1) := by decide +kernel
theorem dX3_append_1 : decode cX3_append 1 = .ok (.getfield 18, 3) := by decide +kernel
theorem dX3_append_4 : decode cX3_append 4 = .ok (.ifCond .lt 13, 3) := by decide +kernel
theorem dX3_append_7 : decode cX3_append 7 = .ok (.aload_n 0, 1) := by decide +kernel
theorem dX3_append_8 : decode cX3_append 8 = .ok (.getfield 18, 3) := by decide +kernel
theorem dX3_append_11 : decode cX3_append 11 = .ok (.sipush 200, 3) := by decide +kernel
theorem dX3_append_14 : decode cX3_append 14 = .ok (.if_icmp .lt 5, 3) := by decide +kernel
theorem dX3_append_17 : decode cX3_append 17 = .ok (.iconst 0, 1) := by decide +kernel
theorem dX3_append_18 : decode cX3_append 18 = .ok (.ireturn, 1) := by decide +kernel
theorem dX3_append_19 : decode cX3_append 19 = .ok (.aload_n 0, 1) := by decide +kernel
theorem dX3_append_20 : decode cX3_append 20 = .ok (.getfield 9, 3) := by decide +kernel
theorem dX3_append_23 : decode cX3_append 23 = .ok (.aload_n 0, 1) := by decide +kernel
theorem dX3_append_24 : decode cX3_append 24 = .ok (.getfield 18, 3) := by decide +kernel
theorem dX3_append_27 : decode cX3_append 27 = .ok (.iload_n 1, 1) := by decide +kernel
theorem dX3_append_28 : decode cX3_append 28 = .ok (.iastore, 1) := by decide +kernel
theorem dX3_append_29 : decode cX3_append 29 = .ok (.aload_n 0, 1) := by decide +kernel
theorem dX3_append_30 : decode cX3_append 30 = .ok (.dup, 1) := by decide +kernel
theorem dX3_append_31 : decode cX3_append 31 = .ok (.getfield 18, 3) := by decide +kernel
theorem dX3_append_34 : decode cX3_append 34 = .ok (.iconst 1, 1) := by decide +kernel
theorem dX3_append_35 : decode cX3_append 35 = .ok (.iadd, 1) := by decide +kernel
theorem dX3_append_36 : decode cX3_append 36 = .ok (.putfield 18, 3) := by decide +kernel
theorem dX3_append_39 : decode cX3_append 39 = .ok (.iconst 1, 1) := by decide +kernel
theorem dX3_append_40 : decode cX3_append 40 = .ok (.ireturn, 1) := by decide +kernel
set_option maxRecDepth 20000 in
theorem ggX3_readInto_X0_clear : GoodIn wsX3_readInto wsX0_clear := goodIn_r _ [8, 9, 10, 11, 56, 57, 58, 59, 60, 61, 62, 63, 64, 65, 66, 67, 68] (by decide +kernel) (by decide +kernel)
set_option maxRecDepth 20000 in
theorem gX3_readInto_X0_clear : GoodIn wsX3_readInto (wsV RX3 22 RX0 yX0_clear wsX0_clear) := goodIn_app (goodIn_of _ (by decide +kernel)) ggX3_readInto_X0_clear
set_option maxRecDepth 20000 in
theorem ggX3_readInto_X3_readNumbers : GoodIn wsX3_readInto wsX3_readNumbers := goodIn_r _ [16, 2, 3, 17, 18, 19, 15, 20, 21, 22, 23, 24, 1, 25, 52, 53, 54, 55] (by decide +kernel) (by decide +kernel)
set_option maxRecDepth 20000 in
theorem gX3_readInto_X3_readNumbers : GoodIn wsX3_readInto (wsV RX3 27 RX3 yX3_readNumbers wsX3_readNumbers) := goodIn_app (goodIn_of _ (by decide +kernel)) ggX3_readInto_X3_readNumbers
set_option maxRecDepth 20000 in
theorem ggX3_readInto_X3_letterAt : GoodIn wsX3_readInto wsX3_letterAt := goodIn_r _ [24, 1, 25, 52, 53, 54, 55] (by decide +kernel) (by decide +kernel)
set_option maxRecDepth 20000 in
theorem gX3_readInto_X3_letterAt : GoodIn wsX3_readInto (wsV RX3 31 RX3 yX3_letterAt wsX3_letterAt) := goodIn_app (goodIn_of _ (by decide +kernel)) ggX3_readInto_X3_letterAt
set_option maxRecDepth 20000 in
theorem ggX3_readInto_X0_add : GoodIn wsX3_readInto wsX0_add := goodIn_r _ [29, 30, 31, 32, 7, 33, 9, 34, 35, 36, 37, 38, 39, 40, 41, 42, 10, 43, 44, 45, 46, 47, 48, 49, 11, 50, 51, 56, 57, 58, 59, 60, 61, 62, 63, 64, 65, 66, 67, 68] (by decide +kernel) (by decide +kernel)
set_option maxRecDepth 20000 in
theorem gX3_readInto_X0_add : GoodIn wsX3_readInto (wsV RX3 37 RX0 yX0_add wsX0_add) := goodIn_app (goodIn_of _ (by decide +kernel)) ggX3_readInto_X0_add
theorem dX3_readInto_0 : decode cX3_readInto 0 = .ok (.aload_n 1, 1) := by decide +kernel
theorem dX3_readInto_1 : decode cX3_readInto 1 = .ok (.invokevirtual 22, 3) := by decide +kernel
theorem dX3_readInto_4 : decode cX3_readInto 4 = .ok (.iconst 0, 1) := by decide +kernel
theorem dX3_readInto_5 : decode cX3_readInto 5 = .ok (.istore_n 2, 1) := by decide +kernel
theorem dX3_readInto_6 : decode cX3_readInto 6 = .ok (.iconst 0, 1) := by decide +kernel
theorem dX3_readInto_7 : decode cX3_readInto 7 = .ok (.istore_n 3, 1) := by decide +kernel
theorem dX3_readInto_8 : decode cX3_readInto 8 = .ok (.iload_n 3, 1) := by decide +kernel
theorem dX3_readInto_9 : decode cX3_readInto 9 = .ok (.sipush 200, 3) := by decide +kernel
theorem dX3_readInto_12 : decode cX3_readInto 12 = .ok (.if_icmp .ge 58, 3) := by decide +kernel
theorem dX3_readInto_15 : decode cX3_readInto 15 = .ok (.iload_n 2, 1) := by decide +kernel
theorem dX3_readInto_16 : decode cX3_readInto 16 = .ok (.aload_n 0, 1) := by decide +kernel
theorem dX3_readInto_17 : decode cX3_readInto 17 = .ok (.getfield 18, 3) := by decide +kernel
theorem dX3_readInto_20 : decode cX3_readInto 20 = .ok (.if_icmp .ge 50, 3) := by decide +kernel
theorem dX3_readInto_23 : decode cX3_readInto 23 = .ok (.aload_n 0, 1) := by decide +kernel
theorem dX3_readInto_24 : decode cX3_readInto 24 = .ok (.iload_n 2, 1) := by decide +kernel
theorem dX3_readInto_25 : decode cX3_readInto 25 = .ok (.iconst 1, 1) := by decide +kernel
theorem dX3_readInto_26 : decode cX3_readInto 26 = .ok (.iadd, 1) := by decide +kernel
theorem dX3_readInto_27 : decode cX3_readInto 27 = .ok (.invokevirtual 27, 3) := by decide +kernel
theorem dX3_readInto_30 : decode cX3_readInto 30 = .ok (.istore 4, 2) := by decide +kernel
theorem dX3_readInto_32 : decode cX3_readInto 32 = .ok (.iload 4, 2) := by decide +kernel
theorem dX3_readInto_34 : decode cX3_readInto 34 = .ok (.bipush (-4), 2) := by decide +kernel
theorem dX3_readInto_36 : decode cX3_readInto 36 = .ok (.if_icmp .eq 23, 3) := by decide +kernel
theorem dX3_readInto_39 : decode cX3_readInto 39 = .ok (.aload_n 1, 1) := by decide +kernel
theorem dX3_readInto_40 : decode cX3_readInto 40 = .ok (.aload_n 0, 1) := by decide +kernel
theorem dX3_readInto_41 : decode cX3_readInto 41 = .ok (.iload_n 2, 1) := by decide +kernel
theorem dX3_readInto_42 : decode cX3_readInto 42 = .ok (.invokevirtual 31, 3) := by decide +kernel
theorem dX3_readInto_45 : decode cX3_readInto 45 = .ok (.aload_n 0, 1) := by decide +kernel
theorem dX3_readInto_46 : decode cX3_readInto 46 = .ok (.getfield 15, 3) := by decide +kernel
theorem dX3_readInto_49 : decode cX3_readInto 49 = .ok (.aload_n 0, 1) := by decide +kernel
theorem dX3_readInto_50 : decode cX3_readInto 50 = .ok (.getfield 34, 3) := by decide +kernel
theorem dX3_readInto_53 : decode cX3_readInto 53 = .ok (.invokevirtual 37, 3) := by decide +kernel
theorem dX3_readInto_56 : decode cX3_readInto 56 = .ok (.ifCond .ne 5, 3) := by decide +kernel
theorem dX3_readInto_59 : decode cX3_readInto 59 = .ok (.iload_n 2, 1) := by decide +kernel
theorem dX3_readInto_60 : decode cX3_readInto 60 = .ok (.ireturn, 1) := by decide +kernel
theorem dX3_readInto_61 : decode cX3_readInto 61 = .ok (.iload 4, 2) := by decide +kernel
theorem dX3_readInto_63 : decode cX3_readInto 63 = .ok (.istore_n 2, 1) := by decide +kernel
theorem dX3_readInto_64 : decode cX3_readInto 64 = .ok (.iinc 3 1, 3) := by decide +kernel
theorem dX3_readInto_67 : decode cX3_readInto 67 = .ok (.goto (-59), 3) := by decide +kernel
theorem dX3_readInto_70 : decode cX3_readInto 70 = .ok (.bipush (-4), 2) := by decide +kernel
theorem dX3_readInto_72 : decode cX3_readInto 72 = .ok (.ireturn, 1) := by decide +kernel
set_option maxRecDepth 20000 in
theorem ggX3_readNumbers_X3_isFigure : GoodIn wsX3_readNumbers wsX3_isFigure := goodIn_r _ [7, 8, 9, 10, 6, 11, 12, 13, 14, 15, 16, 17] (by decide +kernel) (by decide +kernel)
set_option maxRecDepth 20000 in
theorem gX3_readNumbers_X3_isFigure : GoodIn wsX3_readNumbers (wsV RX3 41 RX3 yX3_isFigure wsX3_isFigure) := goodIn_app (goodIn_of _ (by decide +kernel)) ggX3_readNumbers_X3_isFigure
set_option maxRecDepth 20000 in
theorem ggX3_readNumbers_X3_letterAt : GoodIn wsX3_readNumbers wsX3_letterAt := goodIn_r _ [11, 12, 13, 14, 15, 16, 17] (by decide +kernel) (by decide +kernel)
set_option maxRecDepth 20000 in
theorem gX3_readNumbers_X3_letterAt : GoodIn wsX3_readNumbers (wsV RX3 31 RX3 yX3_letterAt wsX3_letterAt) := goodIn_app (goodIn_of _ (by decide +kernel)) ggX3_readNumbers_X3_letterAt
theorem dX3_readNumbers_0 : decode cX3_readNumbers 0 = .ok (.iload_n 1, 1) := by decide +kernel
theorem dX3_readNumbers_1 : decode cX3_readNumbers 1 = .ok (.istore_n 2, 1) := by decide +kernel
theorem dX3_readNumbers_2 : decode cX3_readNumbers 2 = .ok (.iconst 0, 1) := by decide +kernel
theorem dX3_readNumbers_3 : decode cX3_readNumbers 3 = .ok (.istore_n 3, 1) := by decide +kernel
theorem dX3_readNumbers_4 : decode cX3_readNumbers 4 = .ok (.iload_n 3, 1) := by decide +kernel
theorem dX3_readNumbers_5 : decode cX3_readNumbers 5 = .ok (.iconst 5, 1) := by decide +kernel
theorem dX3_readNumbers_6 : decode cX3_readNumbers 6 = .ok (.if_icmp .ge 104, 3) := by decide +kernel
theorem dX3_readNumbers_9 : decode cX3_readNumbers 9 = .ok (.aload_n 0, 1) := by decide +kernel
theorem dX3_readNumbers_10 : decode cX3_readNumbers 10 = .ok (.iload_n 2, 1) := by decide +kernel
theorem dX3_readNumbers_11 : decode cX3_readNumbers 11 = .ok (.invokevirtual 41, 3) := by decide +kernel
theorem dX3_readNumbers_14 : decode cX3_readNumbers 14 = .ok (.ifCond .ne 6, 3) := by decide +kernel
theorem dX3_readNumbers_17 : decode cX3_readNumbers 17 = .ok (.bipush (-4), 2) := by decide +kernel
theorem dX3_readNumbers_19 : decode cX3_readNumbers 19 = .ok (.ireturn, 1) := by decide +kernel
theorem dX3_readNumbers_20 : decode cX3_readNumbers 20 = .ok (.aload_n 0, 1) := by decide +kernel
theorem dX3_readNumbers_21 : decode cX3_readNumbers 21 = .ok (.iload_n 2, 1) := by decide +kernel
theorem dX3_readNumbers_22 : decode cX3_readNumbers 22 = .ok (.invokevirtual 31, 3) := by decide +kernel
theorem dX3_readNumbers_25 : decode cX3_readNumbers 25 = .ok (.bipush 48, 2) := by decide +kernel
theorem dX3_readNumbers_27 : decode cX3_readNumbers 27 = .ok (.isub, 1) := by decide +kernel
theorem dX3_readNumbers_28 : decode cX3_readNumbers 28 = .ok (.istore 4, 2) := by decide +kernel
theorem dX3_readNumbers_30 : decode cX3_readNumbers 30 = .ok (.iinc 2 1, 3) := by decide +kernel
theorem dX3_readNumbers_33 : decode cX3_readNumbers 33 = .ok (.aload_n 0, 1) := by decide +kernel
theorem dX3_readNumbers_34 : decode cX3_readNumbers 34 = .ok (.iload_n 2, 1) := by decide +kernel
theorem dX3_readNumbers_35 : decode cX3_readNumbers 35 = .ok (.invokevirtual 41, 3) := by decide +kernel
theorem dX3_readNumbers_38 : decode cX3_readNumbers 38 = .ok (.ifCond .eq 22, 3) := by decide +kernel
theorem dX3_readNumbers_41 : decode cX3_readNumbers 41 = .ok (.bipush 10, 2) := by decide +kernel
theorem dX3_readNumbers_43 : decode cX3_readNumbers 43 = .ok (.iload 4, 2) := by decide +kernel
theorem dX3_readNumbers_45 : decode cX3_readNumbers 45 = .ok (.imul, 1) := by decide +kernel
theorem dX3_readNumbers_46 : decode cX3_readNumbers 46 = .ok (.aload_n 0, 1) := by decide +kernel
theorem dX3_readNumbers_47 : decode cX3_readNumbers 47 = .ok (.iload_n 2, 1) := by decide +kernel
theorem dX3_readNumbers_48 : decode cX3_readNumbers 48 = .ok (.invokevirtual 31, 3) := by decide +kernel
theorem dX3_readNumbers_51 : decode cX3_readNumbers 51 = .ok (.iadd, 1) := by decide +kernel
theorem dX3_readNumbers_52 : decode cX3_readNumbers 52 = .ok (.bipush 48, 2) := by decide +kernel
theorem dX3_readNumbers_54 : decode cX3_readNumbers 54 = .ok (.isub, 1) := by decide +kernel
theorem dX3_readNumbers_55 : decode cX3_readNumbers 55 = .ok (.istore 4, 2) := by decide +kernel
theorem dX3_readNumbers_57 : decode cX3_readNumbers 57 = .ok (.iinc 2 1, 3) := by decide +kernel
theorem dX3_readNumbers_60 : decode cX3_readNumbers 60 = .ok (.aload_n 0, 1) := by decide +kernel
theorem dX3_readNumbers_61 : decode cX3_readNumbers 61 = .ok (.getfield 15, 3) := by decide +kernel
theorem dX3_readNumbers_64 : decode cX3_readNumbers 64 = .ok (.iload_n 3, 1) := by decide +kernel
theorem dX3_readNumbers_65 : decode cX3_readNumbers 65 = .ok (.iload 4, 2) := by decide +kernel
theorem dX3_readNumbers_67 : decode cX3_readNumbers 67 = .ok (.iastore, 1) := by decide +kernel
theorem dX3_readNumbers_68 : decode cX3_readNumbers 68 = .ok (.aload_n 0, 1) := by decide +kernel
theorem dX3_readNumbers_69 : decode cX3_readNumbers 69 = .ok (.iload_n 3, 1) := by decide +kernel
theorem dX3_readNumbers_70 : decode cX3_readNumbers 70 = .ok (.iconst 1, 1) := by decide +kernel
theorem dX3_readNumbers_71 : decode cX3_readNumbers 71 = .ok (.iadd, 1) := by decide +kernel
theorem dX3_readNumbers_72 : decode cX3_readNumbers 72 = .ok (.putfield 34, 3) := by decide +kernel
theorem dX3_readNumbers_75 : decode cX3_readNumbers 75 = .ok (.aload_n 0, 1) := by decide +kernel
theorem dX3_readNumbers_76 : decode cX3_readNumbers 76 = .ok (.iload_n 2, 1) := by decide +kernel
theorem dX3_readNumbers_77 : decode cX3_readNumbers 77 = .ok (.invokevirtual 31, 3) := by decide +kernel
theorem dX3_readNumbers_80 : decode cX3_readNumbers 80 = .ok (.istore 5, 2) := by decide +kernel
theorem dX3_readNumbers_82 : decode cX3_readNumbers 82 = .ok (.iinc 2 1, 3) := by decide +kernel
theorem dX3_readNumbers_85 : decode cX3_readNumbers 85 = .ok (.iload 5, 2) := by decide +kernel
theorem dX3_readNumbers_87 : decode cX3_readNumbers 87 = .ok (.bipush 59, 2) := by decide +kernel
theorem dX3_readNumbers_89 : decode cX3_readNumbers 89 = .ok (.if_icmp .ne 5, 3) := by decide +kernel
theorem dX3_readNumbers_92 : decode cX3_readNumbers 92 = .ok (.iload_n 2, 1) := by decide +kernel
theorem dX3_readNumbers_93 : decode cX3_readNumbers 93 = .ok (.ireturn, 1) := by decide +kernel
theorem dX3_readNumbers_94 : decode cX3_readNumbers 94 = .ok (.iload 5, 2) := by decide +kernel
theorem dX3_readNumbers_96 : decode cX3_readNumbers 96 = .ok (.bipush 44, 2) := by decide +kernel
theorem dX3_readNumbers_98 : decode cX3_readNumbers 98 = .ok (.if_icmp .eq 6, 3) := by decide +kernel
theorem dX3_readNumbers_101 : decode cX3_readNumbers 101 = .ok (.bipush (-4), 2) := by decide +kernel
theorem dX3_readNumbers_103 : decode cX3_readNumbers 103 = .ok (.ireturn, 1) := by decide +kernel
theorem dX3_readNumbers_104 : decode cX3_readNumbers 104 = .ok (.iinc 3 1, 3) := by decide +kernel
theorem dX3_readNumbers_107 : decode cX3_readNumbers 107 = .ok (.goto (-103), 3) := by decide +kernel
theorem dX3_readNumbers_110 : decode cX3_readNumbers 110 = .ok (.bipush (-4), 2) := by decide +kernel
theorem dX3_readNumbers_112 : decode cX3_readNumbers 112 = .ok (.ireturn, 1) := by decide +kernel
theorem dX3_letterAt_0 : decode cX3_letterAt 0 = .ok (.iload_n 1, 1) := by decide +kernel
theorem dX3_letterAt_1 : decode cX3_letterAt 1 = .ok (.ifCond .lt 27, 3) := by decide +kernel
theorem dX3_letterAt_4 : decode cX3_letterAt 4 = .ok (.iload_n 1, 1) := by decide +kernel
theorem dX3_letterAt_5 : decode cX3_letterAt 5 = .ok (.aload_n 0, 1) := by decide +kernel
theorem dX3_letterAt_6 : decode cX3_letterAt 6 = .ok (.getfield 18, 3) := by decide +kernel
theorem dX3_letterAt_9 : decode cX3_letterAt 9 = .ok (.if_icmp .ge 19, 3) := by decide +kernel
theorem dX3_letterAt_12 : decode cX3_letterAt 12 = .ok (.iload_n 1, 1) := by decide +kernel
theorem dX3_letterAt_13 : decode cX3_letterAt 13 = .ok (.sipush 200, 3) := by decide +kernel
theorem dX3_letterAt_16 : decode cX3_letterAt 16 = .ok (.if_icmp .ge 12, 3) := by decide +kernel
theorem dX3_letterAt_19 : decode cX3_letterAt 19 = .ok (.aload_n 0, 1) := by decide +kernel
theorem dX3_letterAt_20 : decode cX3_letterAt 20 = .ok (.getfield 9, 3) := by decide +kernel
theorem dX3_letterAt_23 : decode cX3_letterAt 23 = .ok (.iload_n 1, 1) := by decide +kernel
theorem dX3_letterAt_24 : decode cX3_letterAt 24 = .ok (.iaload, 1) := by decide +kernel
theorem dX3_letterAt_25 : decode cX3_letterAt 25 = .ok (.goto 4, 3) := by decide +kernel
theorem dX3_letterAt_28 : decode cX3_letterAt 28 = .ok (.iconst 0, 1) := by decide +kernel
theorem dX3_letterAt_29 : decode cX3_letterAt 29 = .ok (.ireturn, 1) := by decide +kernel
set_option maxRecDepth 20000 in
theorem ggX3_isFigure_X3_letterAt : GoodIn wsX3_isFigure wsX3_letterAt := goodIn_r _ [5, 6, 7, 8, 9, 10, 11] (by decide +kernel) (by decide +kernel)
set_option maxRecDepth 20000 in
theorem gX3_isFigure_X3_letterAt : GoodIn wsX3_isFigure (wsV RX3 31 RX3 yX3_letterAt wsX3_letterAt) := goodIn_app (goodIn_of _ (by decide +kernel)) ggX3_isFigure_X3_letterAt
theorem dX3_isFigure_0 : decode cX3_isFigure 0 = .ok (.aload_n 0, 1) := by decide +kernel
theorem dX3_isFigure_1 : decode cX3_isFigure 1 = .ok (.iload_n 1, 1) := by decide +kernel
theorem dX3_isFigure_2 : decode cX3_isFigure 2 = .ok (.invokevirtual 31, 3) := by decide +kernel
theorem dX3_isFigure_5 : decode cX3_isFigure 5 = .ok (.istore_n 2, 1) := by decide +kernel
theorem dX3_isFigure_6 : decode cX3_isFigure 6 = .ok (.iload_n 2, 1) := by decide +kernel
theorem dX3_isFigure_7 : decode cX3_isFigure 7 = .ok (.bipush 48, 2) := by decide +kernel
theorem dX3_isFigure_9 : decode cX3_isFigure 9 = .ok (.if_icmp .lt 13, 3) := by decide +kernel
theorem dX3_isFigure_12 : decode cX3_isFigure 12 = .ok (.iload_n 2, 1) := by decide +kernel
theorem dX3_isFigure_13 : decode cX3_isFigure 13 = .ok (.bipush 57, 2) := by decide +kernel
theorem dX3_isFigure_15 : decode cX3_isFigure 15 = .ok (.if_icmp .gt 7, 3) := by decide +kernel
theorem dX3_isFigure_18 : decode cX3_isFigure 18 = .ok (.iconst 1, 1) := by decide +kernel
theorem dX3_isFigure_19 : decode cX3_isFigure 19 = .ok (.goto 4, 3) := by decide +kernel
theorem dX3_isFigure_22 : decode cX3_isFigure 22 = .ok (.iconst 0, 1) := by decide +kernel
theorem dX3_isFigure_23 : decode cX3_isFigure 23 = .ok (.ireturn, 1) := by decide +kernel
set_option maxRecDepth 20000 in
theorem ggX4_init_X3_init : GoodIn wsX4_init wsX3_init := goodIn_r _ [28, 29, 2, 3, 23, 30, 31, 169, 170, 171, 172] (by decide +kernel) (by decide +kernel)
set_option maxRecDepth 20000 in
theorem gX4_init_X3_init_n9 : GoodIn wsX4_init (wsX3_init) := ggX4_init_X3_init
set_option maxRecDepth 20000 in
theorem ggX4_init_X0_init : GoodIn wsX4_init wsX0_init := goodIn_r _ [33, 34, 2, 3, 23, 35, 36, 37, 38, 39, 40, 41, 42, 43, 44, 183, 184, 185, 186, 187, 188, 189, 190, 191, 192, 193, 194, 195] (by decide +kernel) (by decide +kernel)
set_option maxRecDepth 20000 in
theorem gX4_init_X0_init_n18 : GoodIn wsX4_init (wsX0_init) := ggX4_init_X0_init
set_option maxRecDepth 20000 in
theorem ggX4_init_X2_init : GoodIn wsX4_init wsX2_init := goodIn_r _ [46, 47, 2, 3, 23, 48, 49, 50, 51, 196, 197, 198, 199, 200, 201] (by decide +kernel) (by decide +kernel)
set_option maxRecDepth 20000 in
theorem gX4_init_X2_init_n28 : GoodIn wsX4_init (wsX2_init) := ggX4_init_X2_init
set_option maxRecDepth 20000 in
theorem ggX4_init_X1_init : GoodIn wsX4_init wsX1_init := goodIn_r _ [54, 55, 2, 3, 56, 57, 58, 59, 60, 61, 14, 15, 45, 46, 47, 23, 48, 49, 50, 51, 202, 203, 196, 197, 198, 199, 200, 201] (by decide +kernel) (by decide +kernel)
set_option maxRecDepth 20000 in
theorem gX4_init_X1_init : GoodIn wsX4_init (wsX1_init) := ggX4_init_X1_init
set_option maxRecDepth 20000 in
theorem ggX4_init_J0_length_8abf5 : GoodIn wsX4_init wsJ0_length_8abf5 := goodIn_r _ [66, 67, 68, 69, 70, 65, 71, 72, 73] (by decide +kernel) (by decide +kernel)
set_option maxRecDepth 20000 in
theorem gX4_init_J0_length_8abf5 : GoodIn wsX4_init (wsV RX4 57 RJ0 yJ0_length_8abf5 wsJ0_length_8abf5) := goodIn_app (goodIn_of _ (by decide +kernel)) ggX4_init_J0_length_8abf5
set_option maxRecDepth 20000 in
theorem ggX4_init_J0_charAt_5068e : GoodIn wsX4_init wsJ0_charAt_5068e := goodIn_r _ [77, 67, 78, 79, 80, 65, 81, 72, 73, 82, 83, 84, 85, 86, 87, 88, 89, 90, 91, 92, 93, 94, 95, 96, 97, 98, 99, 100, 101, 102, 103, 104, 105, 106, 107, 108, 109, 110] (by decide +kernel) (by decide +kernel)
set_option maxRecDepth 20000 in
theorem gX4_init_J0_charAt_5068e : GoodIn wsX4_init (wsV RX4 63 RJ0 yJ0_charAt_5068e wsJ0_charAt_5068e) := goodIn_app (goodIn_of _ (by decide +kernel)) ggX4_init_J0_charAt_5068e
set_option maxRecDepth 20000 in
theorem ggX4_init_X3_append : GoodIn wsX4_init wsX3_append := goodIn_r _ [114, 115, 30, 169, 170, 171, 172] (by decide +kernel) (by decide +kernel)
set_option maxRecDepth 20000 in
theorem gX4_init_X3_append : GoodIn wsX4_init (wsV RX4 67 RX3 yX3_append wsX3_append) := goodIn_app (goodIn_of _ (by decide +kernel)) ggX4_init_X3_append
set_option maxRecDepth 20000 in
theorem ggX4_init_X3_readInto : GoodIn wsX4_init wsX3_readInto := goodIn_r _ [119, 115, 31, 120, 121, 122, 123, 10, 124, 125, 126, 127, 128, 129, 130, 6, 131, 132, 133, 134, 135, 136, 137, 138, 139, 30, 140, 141, 142, 143, 144, 145, 146, 147, 35, 36, 37, 38, 39, 148, 149, 150, 151, 40, 41, 42, 152, 153, 154, 155, 43, 44, 169, 170, 171, 172, 183, 184, 185, 186, 187, 188, 189, 190, 191, 192, 193, 194, 195] (by decide +kernel) (by decide +kernel)
set_option maxRecDepth 20000 in
theorem gX4_init_X3_readInto : GoodIn wsX4_init (wsV RX4 71 RX3 yX3_readInto wsX3_readInto) := goodIn_app (goodIn_of _ (by decide +kernel)) ggX4_init_X3_readInto
set_option maxRecDepth 20000 in
theorem ggX4_init_X2_start : GoodIn wsX4_init wsX2_start := goodIn_r _ [159, 160, 161, 48, 49, 162, 163, 50, 164, 51, 165, 166, 167, 168, 196, 197, 198, 199, 200, 201, 183, 184, 185, 186, 187, 188, 189, 190, 191, 192, 193, 194, 195] (by decide +kernel) (by decide +kernel)
set_option maxRecDepth 20000 in
theorem gX4_init_X2_start : GoodIn wsX4_init (wsV RX4 78 RX2 yX2_start wsX2_start) := goodIn_app (goodIn_of _ (by decide +kernel)) ggX4_init_X2_start
theorem dX4_init_0 : decode cX4_init 0 = .ok (.aload_n 0, 1) := by decide +kernel
theorem dX4_init_1 : decode cX4_init 1 = .ok (.invokespecial 1, 3) := by decide +kernel
theorem dX4_init_4 : decode cX4_init 4 = .ok (.aload_n 0, 1) := by decide +kernel
theorem dX4_init_5 : decode cX4_init 5 = .ok (.new 7, 3) := by decide +kernel
theorem dX4_init_8 : decode cX4_init 8 = .ok (.dup, 1) := by decide +kernel
theorem dX4_init_9 : decode cX4_init 9 = .ok (.invokespecial 9, 3) := by decide +kernel
theorem dX4_init_12 : decode cX4_init 12 = .ok (.putfield 10, 3) := by decide +kernel
theorem dX4_init_15 : decode cX4_init 15 = .ok (.aload_n 0, 1) := by decide +kernel
theorem dX4_init_16 : decode cX4_init 16 = .ok (.new 16, 3) := by decide +kernel
theorem dX4_init_19 : decode cX4_init 19 = .ok (.dup, 1) := by decide +kernel
theorem dX4_init_20 : decode cX4_init 20 = .ok (.invokespecial 18, 3) := by decide +kernel
theorem dX4_init_23 : decode cX4_init 23 = .ok (.putfield 19, 3) := by decide +kernel
theorem dX4_init_26 : decode cX4_init 26 = .ok (.aload_n 0, 1) := by decide +kernel
theorem dX4_init_27 : decode cX4_init 27 = .ok (.new 16, 3) := by decide +kernel
theorem dX4_init_30 : decode cX4_init 30 = .ok (.dup, 1) := by decide +kernel
theorem dX4_init_31 : decode cX4_init 31 = .ok (.invokespecial 18, 3) := by decide +kernel
theorem dX4_init_34 : decode cX4_init 34 = .ok (.putfield 23, 3) := by decide +kernel
theorem dX4_init_37 : decode cX4_init 37 = .ok (.aload_n 0, 1) := by decide +kernel
theorem dX4_init_38 : decode cX4_init 38 = .ok (.new 26, 3) := by decide +kernel
theorem dX4_init_41 : decode cX4_init 41 = .ok (.dup, 1) := by decide +kernel
theorem dX4_init_42 : decode cX4_init 42 = .ok (.invokespecial 28, 3) := by decide +kernel
theorem dX4_init_45 : decode cX4_init 45 = .ok (.putfield 29, 3) := by decide +kernel
theorem dX4_init_48 : decode cX4_init 48 = .ok (.aload_n 0, 1) := by decide +kernel
theorem dX4_init_49 : decode cX4_init 49 = .ok (.new 26, 3) := by decide +kernel
theorem dX4_init_52 : decode cX4_init 52 = .ok (.dup, 1) := by decide +kernel
theorem dX4_init_53 : decode cX4_init 53 = .ok (.invokespecial 28, 3) := by decide +kernel
theorem dX4_init_56 : decode cX4_init 56 = .ok (.putfield 33, 3) := by decide +kernel
theorem dX4_init_59 : decode cX4_init 59 = .ok (.aload_n 0, 1) := by decide +kernel
theorem dX4_init_60 : decode cX4_init 60 = .ok (.new 36, 3) := by decide +kernel
theorem dX4_init_63 : decode cX4_init 63 = .ok (.dup, 1) := by decide +kernel
theorem dX4_init_64 : decode cX4_init 64 = .ok (.bipush 8, 2) := by decide +kernel
theorem dX4_init_66 : decode cX4_init 66 = .ok (.invokespecial 38, 3) := by decide +kernel
theorem dX4_init_69 : decode cX4_init 69 = .ok (.putfield 41, 3) := by decide +kernel
theorem dX4_init_72 : decode cX4_init 72 = .ok (.aload_n 0, 1) := by decide +kernel
theorem dX4_init_73 : decode cX4_init 73 = .ok (.new 36, 3) := by decide +kernel
theorem dX4_init_76 : decode cX4_init 76 = .ok (.dup, 1) := by decide +kernel
theorem dX4_init_77 : decode cX4_init 77 = .ok (.iconst 2, 1) := by decide +kernel
theorem dX4_init_78 : decode cX4_init 78 = .ok (.invokespecial 38, 3) := by decide +kernel
theorem dX4_init_81 : decode cX4_init 81 = .ok (.putfield 45, 3) := by decide +kernel
theorem dX4_init_84 : decode cX4_init 84 = .ok (.aload_n 0, 1) := by decide +kernel
theorem dX4_init_85 : decode cX4_init 85 = .ok (.bipush 8, 2) := by decide +kernel
theorem dX4_init_87 : decode cX4_init 87 = .ok (.newarray .int, 2) := by decide +kernel
theorem dX4_init_89 : decode cX4_init 89 = .ok (.putfield 48, 3) := by decide +kernel
theorem dX4_init_92 : decode cX4_init 92 = .ok (.aload_n 0, 1) := by decide +kernel
theorem dX4_init_93 : decode cX4_init 93 = .ok (.bipush 8, 2) := by decide +kernel
theorem dX4_init_95 : decode cX4_init 95 = .ok (.newarray .int, 2) := by decide +kernel
theorem dX4_init_97 : decode cX4_init 97 = .ok (.putfield 52, 3) := by decide +kernel
theorem dX4_init_100 : decode cX4_init 100 = .ok (.iconst 0, 1) := by decide +kernel
theorem dX4_init_101 : decode cX4_init 101 = .ok (.istore_n 1, 1) := by decide +kernel
theorem dX4_init_102 : decode cX4_init 102 = .ok (.iload_n 1, 1) := by decide +kernel
theorem dX4_init_103 : decode cX4_init 103 = .ok (.ldc 55, 2) := by decide +kernel
theorem dX4_init_105 : decode cX4_init 105 = .ok (.invokevirtual 57, 3) := by decide +kernel
theorem dX4_init_108 : decode cX4_init 108 = .ok (.if_icmp .ge 23, 3) := by decide +kernel
theorem dX4_init_111 : decode cX4_init 111 = .ok (.aload_n 0, 1) := by decide +kernel
theorem dX4_init_112 : decode cX4_init 112 = .ok (.getfield 10, 3) := by decide +kernel
theorem dX4_init_115 : decode cX4_init 115 = .ok (.ldc 55, 2) := by decide +kernel
theorem dX4_init_117 : decode cX4_init 117 = .ok (.iload_n 1, 1) := by decide +kernel
theorem dX4_init_118 : decode cX4_init 118 = .ok (.invokevirtual 63, 3) := by decide +kernel
theorem dX4_init_121 : decode cX4_init 121 = .ok (.invokevirtual 67, 3) := by decide +kernel
theorem dX4_init_124 : decode cX4_init 124 = .ok (.pop, 1) := by decide +kernel
theorem dX4_init_125 : decode cX4_init 125 = .ok (.iinc 1 1, 3) := by decide +kernel
theorem dX4_init_128 : decode cX4_init 128 = .ok (.goto (-26), 3) := by decide +kernel
theorem dX4_init_131 : decode cX4_init 131 = .ok (.aload_n 0, 1) := by decide +kernel
theorem dX4_init_132 : decode cX4_init 132 = .ok (.getfield 10, 3) := by decide +kernel
theorem dX4_init_135 : decode cX4_init 135 = .ok (.aload_n 0, 1) := by decide +kernel
theorem dX4_init_136 : decode cX4_init 136 = .ok (.getfield 19, 3) := by decide +kernel
theorem dX4_init_139 : decode cX4_init 139 = .ok (.invokevirtual 71, 3) := by decide +kernel
theorem dX4_init_142 : decode cX4_init 142 = .ok (.pop, 1) := by decide +kernel
theorem dX4_init_143 : decode cX4_init 143 = .ok (.aload_n 0, 1) := by decide +kernel
theorem dX4_init_144 : decode cX4_init 144 = .ok (.getfield 10, 3) := by decide +kernel
theorem dX4_init_147 : decode cX4_init 147 = .ok (.iconst 0, 1) := by decide +kernel
theorem dX4_init_148 : decode cX4_init 148 = .ok (.putfield 75, 3) := by decide +kernel
theorem dX4_init_151 : decode cX4_init 151 = .ok (.aload_n 0, 1) := by decide +kernel
theorem dX4_init_152 : decode cX4_init 152 = .ok (.getfield 29, 3) := by decide +kernel
theorem dX4_init_155 : decode cX4_init 155 = .ok (.aload_n 0, 1) := by decide +kernel
theorem dX4_init_156 : decode cX4_init 156 = .ok (.getfield 19, 3) := by decide +kernel
theorem dX4_init_159 : decode cX4_init 159 = .ok (.invokevirtual 78, 3) := by decide +kernel
theorem dX4_init_162 : decode cX4_init 162 = .ok (.return_, 1) := by decide +kernel
set_option maxRecDepth 20000 in
theorem ggX4_write_X3_append : GoodIn wsX4_write wsX3_append := goodIn_r _ [7, 8, 9, 20, 21, 22, 23] (by decide +kernel) (by decide +kernel)
set_option maxRecDepth 20000 in
theorem gX4_write_X3_append : GoodIn wsX4_write (wsV RX4 67 RX3 yX3_append wsX3_append) := goodIn_app (goodIn_of _ (by decide +kernel)) ggX4_write_X3_append
theorem dX4_write_0 : decode cX4_write 0 = .ok (.iload_n 1, 1) := by decide +kernel
theorem dX4_write_1 : decode cX4_write 1 = .ok (.bipush 32, 2) := by decide +kernel
theorem dX4_write_3 : decode cX4_write 3 = .ok (.if_icmp .lt 9, 3) := by decide +kernel
theorem dX4_write_6 : decode cX4_write 6 = .ok (.iload_n 1, 1) := by decide +kernel
theorem dX4_write_7 : decode cX4_write 7 = .ok (.bipush 126, 2) := by decide +kernel
theorem dX4_write_9 : decode cX4_write 9 = .ok (.if_icmp .le 5, 3) := by decide +kernel
theorem dX4_write_12 : decode cX4_write 12 = .ok (.iconst (-1), 1) := by decide +kernel
theorem dX4_write_13 : decode cX4_write 13 = .ok (.ireturn, 1) := by decide +kernel
theorem dX4_write_14 : decode cX4_write 14 = .ok (.aload_n 0, 1) := by decide +kernel
theorem dX4_write_15 : decode cX4_write 15 = .ok (.getfield 10, 3) := by decide +kernel
theorem dX4_write_18 : decode cX4_write 18 = .ok (.iload_n 1, 1) := by decide +kernel
theorem dX4_write_19 : decode cX4_write 19 = .ok (.invokevirtual 67, 3) := by decide +kernel
theorem dX4_write_22 : decode cX4_write 22 = .ok (.ifCond .eq 13, 3) := by decide +kernel
theorem dX4_write_25 : decode cX4_write 25 = .ok (.aload_n 0, 1) := by decide +kernel
theorem dX4_write_26 : decode cX4_write 26 = .ok (.getfield 10, 3) := by decide +kernel
theorem dX4_write_29 : decode cX4_write 29 = .ok (.getfield 75, 3) := by decide +kernel
theorem dX4_write_32 : decode cX4_write 32 = .ok (.goto 5, 3) := by decide +kernel
theorem dX4_write_35 : decode cX4_write 35 = .ok (.bipush (-3), 2) := by decide +kernel
theorem dX4_write_37 : decode cX4_write 37 = .ok (.ireturn, 1) := by decide +kernel
theorem dX4_wipe_0 : decode cX4_wipe 0 = .ok (.aload_n 0, 1) := by decide +kernel
theorem dX4_wipe_1 : decode cX4_wipe 1 = .ok (.getfield 10, 3) := by decide +kernel
theorem dX4_wipe_4 : decode cX4_wipe 4 = .ok (.getfield 75, 3) := by decide +kernel
theorem dX4_wipe_7 : decode cX4_wipe 7 = .ok (.istore_n 1, 1) := by decide +kernel
theorem dX4_wipe_8 : decode cX4_wipe 8 = .ok (.aload_n 0, 1) := by decide +kernel
theorem dX4_wipe_9 : decode cX4_wipe 9 = .ok (.getfield 10, 3) := by decide +kernel
theorem dX4_wipe_12 : decode cX4_wipe 12 = .ok (.iconst 0, 1) := by decide +kernel
theorem dX4_wipe_13 : decode cX4_wipe 13 = .ok (.putfield 75, 3) := by decide +kernel
theorem dX4_wipe_16 : decode cX4_wipe 16 = .ok (.iload_n 1, 1) := by decide +kernel
theorem dX4_wipe_17 : decode cX4_wipe 17 = .ok (.ireturn, 1) := by decide +kernel
set_option maxRecDepth 20000 in
theorem ggX4_fault_X3_readInto : GoodIn wsX4_fault wsX3_readInto := goodIn_r _ [7, 8, 9, 10, 11, 12, 13, 14, 15, 16, 17, 18, 19, 20, 21, 6, 22, 23, 24, 25, 26, 27, 28, 29, 30, 31, 32, 33, 34, 35, 36, 37, 38, 39, 40, 41, 42, 43, 44, 45, 46, 47, 48, 49, 50, 51, 52, 53, 54, 55, 56, 57, 68, 69, 70, 71, 72, 73, 74, 75, 76, 77, 78, 79, 80, 81, 82, 83, 84] (by decide +kernel) (by decide +kernel)
set_option maxRecDepth 20000 in
theorem gX4_fault_X3_readInto : GoodIn wsX4_fault (wsV RX4 71 RX3 yX3_readInto wsX3_readInto) := goodIn_app (goodIn_of _ (by decide +kernel)) ggX4_fault_X3_readInto
theorem dX4_fault_0 : decode cX4_fault 0 = .ok (.aload_n 0, 1) := by decide +kernel
theorem dX4_fault_1 : decode cX4_fault 1 = .ok (.getfield 10, 3) := by decide +kernel
theorem dX4_fault_4 : decode cX4_fault 4 = .ok (.aload_n 0, 1) := by decide +kernel
theorem dX4_fault_5 : decode cX4_fault 5 = .ok (.getfield 23, 3) := by decide +kernel
theorem dX4_fault_8 : decode cX4_fault 8 = .ok (.invokevirtual 71, 3) := by decide +kernel
theorem dX4_fault_11 : decode cX4_fault 11 = .ok (.ireturn, 1) := by decide +kernel
set_option maxRecDepth 20000 in
theorem ggX4_lay_X3_readInto : GoodIn wsX4_lay wsX3_readInto := goodIn_r _ [14, 15, 16, 17, 18, 19, 20, 21, 22, 23, 24, 25, 26, 27, 28, 13, 29, 30, 31, 32, 33, 34, 35, 36, 37, 38, 39, 40, 41, 42, 43, 44, 45, 46, 47, 48, 49, 50, 51, 52, 53, 54, 55, 56, 57, 58, 59, 60, 61, 62, 63, 64, 108, 109, 110, 111, 93, 94, 95, 96, 97, 98, 99, 100, 101, 102, 103, 104, 105] (by decide +kernel) (by decide +kernel)
set_option maxRecDepth 20000 in
theorem gX4_lay_X3_readInto : GoodIn wsX4_lay (wsV RX4 71 RX3 yX3_readInto wsX3_readInto) := goodIn_app (goodIn_of _ (by decide +kernel)) ggX4_lay_X3_readInto
set_option maxRecDepth 20000 in
theorem ggX4_lay_X2_start : GoodIn wsX4_lay wsX2_start := goodIn_r _ [69, 70, 71, 72, 73, 74, 75, 76, 77, 78, 79, 80, 81, 82, 112, 113, 114, 115, 116, 117, 93, 94, 95, 96, 97, 98, 99, 100, 101, 102, 103, 104, 105] (by decide +kernel) (by decide +kernel)
set_option maxRecDepth 20000 in
theorem gX4_lay_X2_start : GoodIn wsX4_lay (wsV RX4 78 RX2 yX2_start wsX2_start) := goodIn_app (goodIn_of _ (by decide +kernel)) ggX4_lay_X2_start
theorem dX4_lay_0 : decode cX4_lay 0 = .ok (.aload_n 0, 1) := by decide +kernel
theorem dX4_lay_1 : decode cX4_lay 1 = .ok (.getfield 10, 3) := by decide +kernel
theorem dX4_lay_4 : decode cX4_lay 4 = .ok (.aload_n 0, 1) := by decide +kernel
theorem dX4_lay_5 : decode cX4_lay 5 = .ok (.getfield 23, 3) := by decide +kernel
theorem dX4_lay_8 : decode cX4_lay 8 = .ok (.invokevirtual 71, 3) := by decide +kernel
theorem dX4_lay_11 : decode cX4_lay 11 = .ok (.bipush (-4), 2) := by decide +kernel
theorem dX4_lay_13 : decode cX4_lay 13 = .ok (.if_icmp .ne 13, 3) := by decide +kernel
theorem dX4_lay_16 : decode cX4_lay 16 = .ok (.aload_n 0, 1) := by decide +kernel
theorem dX4_lay_17 : decode cX4_lay 17 = .ok (.getfield 23, 3) := by decide +kernel
theorem dX4_lay_20 : decode cX4_lay 20 = .ok (.getfield 82, 3) := by decide +kernel
theorem dX4_lay_23 : decode cX4_lay 23 = .ok (.ifCond .ne 6, 3) := by decide +kernel
theorem dX4_lay_26 : decode cX4_lay 26 = .ok (.bipush (-2), 2) := by decide +kernel
theorem dX4_lay_28 : decode cX4_lay 28 = .ok (.ireturn, 1) := by decide +kernel
theorem dX4_lay_29 : decode cX4_lay 29 = .ok (.aload_n 0, 1) := by decide +kernel
theorem dX4_lay_30 : decode cX4_lay 30 = .ok (.getfield 10, 3) := by decide +kernel
theorem dX4_lay_33 : decode cX4_lay 33 = .ok (.aload_n 0, 1) := by decide +kernel
theorem dX4_lay_34 : decode cX4_lay 34 = .ok (.getfield 19, 3) := by decide +kernel
theorem dX4_lay_37 : decode cX4_lay 37 = .ok (.invokevirtual 71, 3) := by decide +kernel
theorem dX4_lay_40 : decode cX4_lay 40 = .ok (.pop, 1) := by decide +kernel
theorem dX4_lay_41 : decode cX4_lay 41 = .ok (.aload_n 0, 1) := by decide +kernel
theorem dX4_lay_42 : decode cX4_lay 42 = .ok (.getfield 29, 3) := by decide +kernel
theorem dX4_lay_45 : decode cX4_lay 45 = .ok (.aload_n 0, 1) := by decide +kernel
theorem dX4_lay_46 : decode cX4_lay 46 = .ok (.getfield 19, 3) := by decide +kernel
theorem dX4_lay_49 : decode cX4_lay 49 = .ok (.invokevirtual 78, 3) := by decide +kernel
theorem dX4_lay_52 : decode cX4_lay 52 = .ok (.aload_n 0, 1) := by decide +kernel
theorem dX4_lay_53 : decode cX4_lay 53 = .ok (.getfield 41, 3) := by decide +kernel
theorem dX4_lay_56 : decode cX4_lay 56 = .ok (.iconst 0, 1) := by decide +kernel
theorem dX4_lay_57 : decode cX4_lay 57 = .ok (.putfield 85, 3) := by decide +kernel
theorem dX4_lay_60 : decode cX4_lay 60 = .ok (.aload_n 0, 1) := by decide +kernel
theorem dX4_lay_61 : decode cX4_lay 61 = .ok (.getfield 45, 3) := by decide +kernel
theorem dX4_lay_64 : decode cX4_lay 64 = .ok (.iconst 0, 1) := by decide +kernel
theorem dX4_lay_65 : decode cX4_lay 65 = .ok (.putfield 85, 3) := by decide +kernel
theorem dX4_lay_68 : decode cX4_lay 68 = .ok (.aload_n 0, 1) := by decide +kernel
theorem dX4_lay_69 : decode cX4_lay 69 = .ok (.iconst 0, 1) := by decide +kernel
theorem dX4_lay_70 : decode cX4_lay 70 = .ok (.putfield 88, 3) := by decide +kernel
theorem dX4_lay_73 : decode cX4_lay 73 = .ok (.aload_n 0, 1) := by decide +kernel
theorem dX4_lay_74 : decode cX4_lay 74 = .ok (.getfield 19, 3) := by decide +kernel
theorem dX4_lay_77 : decode cX4_lay 77 = .ok (.getfield 82, 3) := by decide +kernel
theorem dX4_lay_80 : decode cX4_lay 80 = .ok (.ireturn, 1) := by decide +kernel
set_option maxRecDepth 20000 in
theorem ggX4_going_X4_isGoing : GoodIn wsX4_going wsX4_isGoing := goodIn_r _ [12, 1, 13, 40, 41, 42, 43, 44, 45, 46, 47, 48, 49, 50, 51, 52, 53, 54, 55, 56, 57, 58, 59, 60, 61, 62] (by decide +kernel) (by decide +kernel)
set_option maxRecDepth 20000 in
theorem gX4_going_X4_isGoing : GoodIn wsX4_going (wsV RX4 91 RX4 yX4_isGoing wsX4_isGoing) := goodIn_app (goodIn_of _ (by decide +kernel)) ggX4_going_X4_isGoing
set_option maxRecDepth 20000 in
theorem ggX4_going_X2_whenOf : GoodIn wsX4_going wsX2_whenOf := goodIn_r _ [18, 19, 20, 21, 22, 63, 64, 65, 66, 67, 68] (by decide +kernel) (by decide +kernel)
set_option maxRecDepth 20000 in
theorem gX4_going_X2_whenOf : GoodIn wsX4_going (wsV RX4 109 RX2 yX2_whenOf wsX2_whenOf) := goodIn_app (goodIn_of _ (by decide +kernel)) ggX4_going_X2_whenOf
set_option maxRecDepth 20000 in
theorem ggX4_going_X2_worthOf : GoodIn wsX4_going wsX2_worthOf := goodIn_r _ [26, 27, 28, 29, 30, 20, 31, 11, 32, 33, 34, 35, 36, 37, 38, 39, 50, 51, 52, 53, 54, 55, 56, 57, 58, 59, 60, 61, 62, 63, 64, 65, 66, 67, 68] (by decide +kernel) (by decide +kernel)
set_option maxRecDepth 20000 in
theorem gX4_going_X2_worthOf : GoodIn wsX4_going (wsV RX4 113 RX2 yX2_worthOf wsX2_worthOf) := goodIn_app (goodIn_of _ (by decide +kernel)) ggX4_going_X2_worthOf
theorem dX4_going_0 : decode cX4_going 0 = .ok (.aload_n 0, 1) := by decide +kernel
theorem dX4_going_1 : decode cX4_going 1 = .ok (.iload_n 1, 1) := by decide +kernel
theorem dX4_going_2 : decode cX4_going 2 = .ok (.invokevirtual 91, 3) := by decide +kernel
theorem dX4_going_5 : decode cX4_going 5 = .ok (.ifCond .ne 5, 3) := by decide +kernel
theorem dX4_going_8 : decode cX4_going 8 = .ok (.iconst (-1), 1) := by decide +kernel
theorem dX4_going_9 : decode cX4_going 9 = .ok (.ireturn, 1) := by decide +kernel
theorem dX4_going_10 : decode cX4_going 10 = .ok (.iload_n 2, 1) := by decide +kernel
theorem dX4_going_11 : decode cX4_going 11 = .ok (.tableswitch 134 0 6 #[41, 51, 61, 71, 81, 91, 100], 41) := by decide +kernel
theorem dX4_going_52 : decode cX4_going 52 = .ok (.aload_n 0, 1) := by decide +kernel
theorem dX4_going_53 : decode cX4_going 53 = .ok (.getfield 19, 3) := by decide +kernel
theorem dX4_going_56 : decode cX4_going 56 = .ok (.getfield 94, 3) := by decide +kernel
theorem dX4_going_59 : decode cX4_going 59 = .ok (.iload_n 1, 1) := by decide +kernel
theorem dX4_going_60 : decode cX4_going 60 = .ok (.iaload, 1) := by decide +kernel
theorem dX4_going_61 : decode cX4_going 61 = .ok (.ireturn, 1) := by decide +kernel
theorem dX4_going_62 : decode cX4_going 62 = .ok (.aload_n 0, 1) := by decide +kernel
theorem dX4_going_63 : decode cX4_going 63 = .ok (.getfield 19, 3) := by decide +kernel
theorem dX4_going_66 : decode cX4_going 66 = .ok (.getfield 97, 3) := by decide +kernel
theorem dX4_going_69 : decode cX4_going 69 = .ok (.iload_n 1, 1) := by decide +kernel
theorem dX4_going_70 : decode cX4_going 70 = .ok (.iaload, 1) := by decide +kernel
theorem dX4_going_71 : decode cX4_going 71 = .ok (.ireturn, 1) := by decide +kernel
theorem dX4_going_72 : decode cX4_going 72 = .ok (.aload_n 0, 1) := by decide +kernel
theorem dX4_going_73 : decode cX4_going 73 = .ok (.getfield 19, 3) := by decide +kernel
theorem dX4_going_76 : decode cX4_going 76 = .ok (.getfield 100, 3) := by decide +kernel
theorem dX4_going_79 : decode cX4_going 79 = .ok (.iload_n 1, 1) := by decide +kernel
theorem dX4_going_80 : decode cX4_going 80 = .ok (.iaload, 1) := by decide +kernel
theorem dX4_going_81 : decode cX4_going 81 = .ok (.ireturn, 1) := by decide +kernel
theorem dX4_going_82 : decode cX4_going 82 = .ok (.aload_n 0, 1) := by decide +kernel
theorem dX4_going_83 : decode cX4_going 83 = .ok (.getfield 19, 3) := by decide +kernel
theorem dX4_going_86 : decode cX4_going 86 = .ok (.getfield 103, 3) := by decide +kernel
theorem dX4_going_89 : decode cX4_going 89 = .ok (.iload_n 1, 1) := by decide +kernel
theorem dX4_going_90 : decode cX4_going 90 = .ok (.iaload, 1) := by decide +kernel
theorem dX4_going_91 : decode cX4_going 91 = .ok (.ireturn, 1) := by decide +kernel
theorem dX4_going_92 : decode cX4_going 92 = .ok (.aload_n 0, 1) := by decide +kernel
theorem dX4_going_93 : decode cX4_going 93 = .ok (.getfield 29, 3) := by decide +kernel
theorem dX4_going_96 : decode cX4_going 96 = .ok (.getfield 106, 3) := by decide +kernel
theorem dX4_going_99 : decode cX4_going 99 = .ok (.iload_n 1, 1) := by decide +kernel
theorem dX4_going_100 : decode cX4_going 100 = .ok (.iaload, 1) := by decide +kernel
theorem dX4_going_101 : decode cX4_going 101 = .ok (.ireturn, 1) := by decide +kernel
theorem dX4_going_102 : decode cX4_going 102 = .ok (.aload_n 0, 1) := by decide +kernel
theorem dX4_going_103 : decode cX4_going 103 = .ok (.getfield 29, 3) := by decide +kernel
theorem dX4_going_106 : decode cX4_going 106 = .ok (.iload_n 1, 1) := by decide +kernel
theorem dX4_going_107 : decode cX4_going 107 = .ok (.invokevirtual 109, 3) := by decide +kernel
theorem dX4_going_110 : decode cX4_going 110 = .ok (.ireturn, 1) := by decide +kernel
theorem dX4_going_111 : decode cX4_going 111 = .ok (.aload_n 0, 1) := by decide +kernel
theorem dX4_going_112 : decode cX4_going 112 = .ok (.getfield 29, 3) := by decide +kernel
theorem dX4_going_115 : decode cX4_going 115 = .ok (.getfield 106, 3) := by decide +kernel
theorem dX4_going_118 : decode cX4_going 118 = .ok (.iload_n 1, 1) := by decide +kernel
theorem dX4_going_119 : decode cX4_going 119 = .ok (.iaload, 1) := by decide +kernel
theorem dX4_going_120 : decode cX4_going 120 = .ok (.iconst 1, 1) := by decide +kernel
theorem dX4_going_121 : decode cX4_going 121 = .ok (.if_icmp .ne 21, 3) := by decide +kernel
theorem dX4_going_124 : decode cX4_going 124 = .ok (.aload_n 0, 1) := by decide +kernel
theorem dX4_going_125 : decode cX4_going 125 = .ok (.getfield 29, 3) := by decide +kernel
theorem dX4_going_128 : decode cX4_going 128 = .ok (.aload_n 0, 1) := by decide +kernel
theorem dX4_going_129 : decode cX4_going 129 = .ok (.getfield 19, 3) := by decide +kernel
theorem dX4_going_132 : decode cX4_going 132 = .ok (.iload_n 1, 1) := by decide +kernel
theorem dX4_going_133 : decode cX4_going 133 = .ok (.invokevirtual 113, 3) := by decide +kernel
theorem dX4_going_136 : decode cX4_going 136 = .ok (.bipush 20, 2) := by decide +kernel
theorem dX4_going_138 : decode cX4_going 138 = .ok (.iadd, 1) := by decide +kernel
theorem dX4_going_139 : decode cX4_going 139 = .ok (.goto 5, 3) := by decide +kernel
theorem dX4_going_142 : decode cX4_going 142 = .ok (.bipush 20, 2) := by decide +kernel
theorem dX4_going_144 : decode cX4_going 144 = .ok (.ireturn, 1) := by decide +kernel
theorem dX4_going_145 : decode cX4_going 145 = .ok (.iconst (-1), 1) := by decide +kernel
theorem dX4_going_146 : decode cX4_going 146 = .ok (.ireturn, 1) := by decide +kernel
set_option maxRecDepth 20000 in
theorem ggX4_lady_X4_isLady : GoodIn wsX4_lady wsX4_isLady := goodIn_r _ [9, 3, 10, 25, 26, 27, 28, 29, 30, 31, 32, 33, 34, 41, 42, 43, 44, 45, 46, 47, 48, 49, 50, 51, 52, 53] (by decide +kernel) (by decide +kernel)
set_option maxRecDepth 20000 in
theorem gX4_lady_X4_isLady : GoodIn wsX4_lady (wsV RX4 117 RX4 yX4_isLady wsX4_isLady) := goodIn_app (goodIn_of _ (by decide +kernel)) ggX4_lady_X4_isLady
set_option maxRecDepth 20000 in
theorem ggX4_lady_X2_pinnableBy : GoodIn wsX4_lady wsX2_pinnableBy := goodIn_r _ [15, 16, 17, 18, 19, 14, 20, 21, 22, 23, 24, 41, 42, 43, 44, 45, 46, 47, 48, 49, 50, 51, 52, 53, 35, 36, 37, 38, 39, 40] (by decide +kernel) (by decide +kernel)
set_option maxRecDepth 20000 in
theorem gX4_lady_X2_pinnableBy : GoodIn wsX4_lady (wsV RX4 126 RX2 yX2_pinnableBy wsX2_pinnableBy) := goodIn_app (goodIn_of _ (by decide +kernel)) ggX4_lady_X2_pinnableBy
theorem dX4_lady_0 : decode cX4_lady 0 = .ok (.aload_n 0, 1) := by decide +kernel
theorem dX4_lady_1 : decode cX4_lady 1 = .ok (.iload_n 1, 1) := by decide +kernel
theorem dX4_lady_2 : decode cX4_lady 2 = .ok (.invokevirtual 117, 3) := by decide +kernel
theorem dX4_lady_5 : decode cX4_lady 5 = .ok (.ifCond .ne 5, 3) := by decide +kernel
theorem dX4_lady_8 : decode cX4_lady 8 = .ok (.iconst (-1), 1) := by decide +kernel
theorem dX4_lady_9 : decode cX4_lady 9 = .ok (.ireturn, 1) := by decide +kernel
theorem dX4_lady_10 : decode cX4_lady 10 = .ok (.iload_n 2, 1) := by decide +kernel
theorem dX4_lady_11 : decode cX4_lady 11 = .ok (.tableswitch 58 0 2 #[25, 35, 45], 25) := by decide +kernel
theorem dX4_lady_36 : decode cX4_lady 36 = .ok (.aload_n 0, 1) := by decide +kernel
theorem dX4_lady_37 : decode cX4_lady 37 = .ok (.getfield 29, 3) := by decide +kernel
theorem dX4_lady_40 : decode cX4_lady 40 = .ok (.getfield 120, 3) := by decide +kernel
theorem dX4_lady_43 : decode cX4_lady 43 = .ok (.iload_n 1, 1) := by decide +kernel
theorem dX4_lady_44 : decode cX4_lady 44 = .ok (.iaload, 1) := by decide +kernel
theorem dX4_lady_45 : decode cX4_lady 45 = .ok (.ireturn, 1) := by decide +kernel
theorem dX4_lady_46 : decode cX4_lady 46 = .ok (.aload_n 0, 1) := by decide +kernel
theorem dX4_lady_47 : decode cX4_lady 47 = .ok (.getfield 19, 3) := by decide +kernel
theorem dX4_lady_50 : decode cX4_lady 50 = .ok (.getfield 123, 3) := by decide +kernel
theorem dX4_lady_53 : decode cX4_lady 53 = .ok (.iload_n 1, 1) := by decide +kernel
theorem dX4_lady_54 : decode cX4_lady 54 = .ok (.iaload, 1) := by decide +kernel
theorem dX4_lady_55 : decode cX4_lady 55 = .ok (.ireturn, 1) := by decide +kernel
theorem dX4_lady_56 : decode cX4_lady 56 = .ok (.aload_n 0, 1) := by decide +kernel
theorem dX4_lady_57 : decode cX4_lady 57 = .ok (.getfield 29, 3) := by decide +kernel
theorem dX4_lady_60 : decode cX4_lady 60 = .ok (.aload_n 0, 1) := by decide +kernel
theorem dX4_lady_61 : decode cX4_lady 61 = .ok (.getfield 19, 3) := by decide +kernel
theorem dX4_lady_64 : decode cX4_lady 64 = .ok (.iload_n 1, 1) := by decide +kernel
theorem dX4_lady_65 : decode cX4_lady 65 = .ok (.invokevirtual 126, 3) := by decide +kernel
theorem dX4_lady_68 : decode cX4_lady 68 = .ok (.ireturn, 1) := by decide +kernel
theorem dX4_lady_69 : decode cX4_lady 69 = .ok (.iconst (-1), 1) := by decide +kernel
theorem dX4_lady_70 : decode cX4_lady 70 = .ok (.ireturn, 1) := by decide +kernel
set_option maxRecDepth 20000 in
theorem ggX4_pass_X1_put : GoodIn wsX4_pass wsX1_put := goodIn_r _ [10, 11, 12, 13, 14, 15, 9, 16, 17, 18, 19, 20, 21, 22, 23, 24, 25, 26, 27, 28, 29, 30, 31, 92, 93, 86, 87, 88, 89, 90, 91] (by decide +kernel) (by decide +kernel)
set_option maxRecDepth 20000 in
theorem gX4_pass_X1_put : GoodIn wsX4_pass (wsV RX4 132 RX1 yX1_put wsX1_put) := goodIn_app (goodIn_of _ (by decide +kernel)) ggX4_pass_X1_put
set_option maxRecDepth 20000 in
theorem ggX4_pass_X2_goBy : GoodIn wsX4_pass wsX2_goBy := goodIn_r _ [35, 23, 36, 37, 38, 20, 39, 40, 24, 29, 22, 30, 41, 42, 43, 44, 45, 46, 47, 48, 49, 50, 51, 52, 53, 54, 55, 56, 57, 58, 59, 60, 61, 62, 63, 64, 65, 66, 67, 68, 69, 70, 71, 72, 73, 74, 75, 86, 87, 88, 89, 90, 91, 94, 95, 96, 97, 98, 99, 100, 101, 102, 103, 104, 105, 106] (by decide +kernel) (by decide +kernel)
set_option maxRecDepth 20000 in
theorem gX4_pass_X2_goBy : GoodIn wsX4_pass (wsV RX4 136 RX2 yX2_goBy wsX2_goBy) := goodIn_app (goodIn_of _ (by decide +kernel)) ggX4_pass_X2_goBy
theorem dX4_pass_0 : decode cX4_pass 0 = .ok (.iload_n 1, 1) := by decide +kernel
theorem dX4_pass_1 : decode cX4_pass 1 = .ok (.iconst 1, 1) := by decide +kernel
theorem dX4_pass_2 : decode cX4_pass 2 = .ok (.if_icmp .lt 9, 3) := by decide +kernel
theorem dX4_pass_5 : decode cX4_pass 5 = .ok (.iload_n 1, 1) := by decide +kernel
theorem dX4_pass_6 : decode cX4_pass 6 = .ok (.bipush 24, 2) := by decide +kernel
theorem dX4_pass_8 : decode cX4_pass 8 = .ok (.if_icmp .le 5, 3) := by decide +kernel
theorem dX4_pass_11 : decode cX4_pass 11 = .ok (.iconst (-1), 1) := by decide +kernel
theorem dX4_pass_12 : decode cX4_pass 12 = .ok (.ireturn, 1) := by decide +kernel
theorem dX4_pass_13 : decode cX4_pass 13 = .ok (.aload_n 0, 1) := by decide +kernel
theorem dX4_pass_14 : decode cX4_pass 14 = .ok (.getfield 29, 3) := by decide +kernel
theorem dX4_pass_17 : decode cX4_pass 17 = .ok (.getfield 129, 3) := by decide +kernel
theorem dX4_pass_20 : decode cX4_pass 20 = .ok (.iload_n 1, 1) := by decide +kernel
theorem dX4_pass_21 : decode cX4_pass 21 = .ok (.iadd, 1) := by decide +kernel
theorem dX4_pass_22 : decode cX4_pass 22 = .ok (.sipush 999, 3) := by decide +kernel
theorem dX4_pass_25 : decode cX4_pass 25 = .ok (.if_icmp .le 6, 3) := by decide +kernel
theorem dX4_pass_28 : decode cX4_pass 28 = .ok (.bipush (-2), 2) := by decide +kernel
theorem dX4_pass_30 : decode cX4_pass 30 = .ok (.ireturn, 1) := by decide +kernel
theorem dX4_pass_31 : decode cX4_pass 31 = .ok (.aload_n 0, 1) := by decide +kernel
theorem dX4_pass_32 : decode cX4_pass 32 = .ok (.getfield 41, 3) := by decide +kernel
theorem dX4_pass_35 : decode cX4_pass 35 = .ok (.aload_n 0, 1) := by decide +kernel
theorem dX4_pass_36 : decode cX4_pass 36 = .ok (.getfield 29, 3) := by decide +kernel
theorem dX4_pass_39 : decode cX4_pass 39 = .ok (.invokevirtual 132, 3) := by decide +kernel
theorem dX4_pass_42 : decode cX4_pass 42 = .ok (.aload_n 0, 1) := by decide +kernel
theorem dX4_pass_43 : decode cX4_pass 43 = .ok (.getfield 29, 3) := by decide +kernel
theorem dX4_pass_46 : decode cX4_pass 46 = .ok (.aload_n 0, 1) := by decide +kernel
theorem dX4_pass_47 : decode cX4_pass 47 = .ok (.getfield 19, 3) := by decide +kernel
theorem dX4_pass_50 : decode cX4_pass 50 = .ok (.iload_n 1, 1) := by decide +kernel
theorem dX4_pass_51 : decode cX4_pass 51 = .ok (.invokevirtual 136, 3) := by decide +kernel
theorem dX4_pass_54 : decode cX4_pass 54 = .ok (.aload_n 0, 1) := by decide +kernel
theorem dX4_pass_55 : decode cX4_pass 55 = .ok (.getfield 29, 3) := by decide +kernel
theorem dX4_pass_58 : decode cX4_pass 58 = .ok (.getfield 140, 3) := by decide +kernel
theorem dX4_pass_61 : decode cX4_pass 61 = .ok (.sipush 10000, 3) := by decide +kernel
theorem dX4_pass_64 : decode cX4_pass 64 = .ok (.iadd, 1) := by decide +kernel
theorem dX4_pass_65 : decode cX4_pass 65 = .ok (.ireturn, 1) := by decide +kernel
set_option maxRecDepth 20000 in
theorem ggX4_pin_X4_isLady : GoodIn wsX4_pin wsX4_isLady := goodIn_r _ [9, 2, 10, 64, 65, 66, 67, 68, 69, 70, 71, 72, 73, 80, 81, 82, 83, 84, 85, 86, 87, 88, 89, 90, 91, 92] (by decide +kernel) (by decide +kernel)
set_option maxRecDepth 20000 in
theorem gX4_pin_X4_isLady : GoodIn wsX4_pin (wsV RX4 117 RX4 yX4_isLady wsX4_isLady) := goodIn_app (goodIn_of _ (by decide +kernel)) ggX4_pin_X4_isLady
set_option maxRecDepth 20000 in
theorem ggX4_pin_X4_isGoing : GoodIn wsX4_pin wsX4_isGoing := goodIn_r _ [14, 2, 15, 64, 65, 66, 67, 68, 69, 70, 71, 72, 73, 80, 81, 82, 83, 84, 85, 86, 87, 88, 89, 90, 91, 92] (by decide +kernel) (by decide +kernel)
set_option maxRecDepth 20000 in
theorem gX4_pin_X4_isGoing : GoodIn wsX4_pin (wsV RX4 91 RX4 yX4_isGoing wsX4_isGoing) := goodIn_app (goodIn_of _ (by decide +kernel)) ggX4_pin_X4_isGoing
set_option maxRecDepth 20000 in
theorem ggX4_pin_X2_canPin : GoodIn wsX4_pin wsX2_canPin := goodIn_r _ [20, 21, 22, 23, 24, 80, 81, 82, 83, 84, 85, 86, 87, 88, 89, 90, 91, 92, 74, 75, 76, 77, 78, 79] (by decide +kernel) (by decide +kernel)
set_option maxRecDepth 20000 in
theorem gX4_pin_X2_canPin : GoodIn wsX4_pin (wsV RX4 143 RX2 yX2_canPin wsX2_canPin) := goodIn_app (goodIn_of _ (by decide +kernel)) ggX4_pin_X2_canPin
set_option maxRecDepth 20000 in
theorem ggX4_pin_X1_put : GoodIn wsX4_pin wsX1_put := goodIn_r _ [29, 30, 31, 32, 33, 34, 28, 35, 36, 37, 38, 19, 39, 40, 41, 24, 42, 43, 44, 45, 46, 47, 23, 93, 94, 74, 75, 76, 77, 78, 79] (by decide +kernel) (by decide +kernel)
set_option maxRecDepth 20000 in
theorem gX4_pin_X1_put : GoodIn wsX4_pin (wsV RX4 132 RX1 yX1_put wsX1_put) := goodIn_app (goodIn_of _ (by decide +kernel)) ggX4_pin_X1_put
set_option maxRecDepth 20000 in
theorem ggX4_pin_X2_pinBy : GoodIn wsX4_pin wsX2_pinBy := goodIn_r _ [51, 23, 52, 53, 54, 19, 55, 24, 56, 57, 58, 46, 40, 59, 60, 61, 62, 63, 74, 75, 76, 77, 78, 79, 80, 81, 82, 83, 84, 85, 86, 87, 88, 89, 90, 91, 92] (by decide +kernel) (by decide +kernel)
set_option maxRecDepth 20000 in
theorem gX4_pin_X2_pinBy : GoodIn wsX4_pin (wsV RX4 147 RX2 yX2_pinBy wsX2_pinBy) := goodIn_app (goodIn_of _ (by decide +kernel)) ggX4_pin_X2_pinBy
theorem dX4_pin_0 : decode cX4_pin 0 = .ok (.aload_n 0, 1) := by decide +kernel
theorem dX4_pin_1 : decode cX4_pin 1 = .ok (.iload_n 1, 1) := by decide +kernel
theorem dX4_pin_2 : decode cX4_pin 2 = .ok (.invokevirtual 117, 3) := by decide +kernel
theorem dX4_pin_5 : decode cX4_pin 5 = .ok (.ifCond .eq 11, 3) := by decide +kernel
theorem dX4_pin_8 : decode cX4_pin 8 = .ok (.aload_n 0, 1) := by decide +kernel
theorem dX4_pin_9 : decode cX4_pin 9 = .ok (.iload_n 2, 1) := by decide +kernel
theorem dX4_pin_10 : decode cX4_pin 10 = .ok (.invokevirtual 91, 3) := by decide +kernel
theorem dX4_pin_13 : decode cX4_pin 13 = .ok (.ifCond .ne 5, 3) := by decide +kernel
theorem dX4_pin_16 : decode cX4_pin 16 = .ok (.iconst (-1), 1) := by decide +kernel
theorem dX4_pin_17 : decode cX4_pin 17 = .ok (.ireturn, 1) := by decide +kernel
theorem dX4_pin_18 : decode cX4_pin 18 = .ok (.aload_n 0, 1) := by decide +kernel
theorem dX4_pin_19 : decode cX4_pin 19 = .ok (.getfield 29, 3) := by decide +kernel
theorem dX4_pin_22 : decode cX4_pin 22 = .ok (.aload_n 0, 1) := by decide +kernel
theorem dX4_pin_23 : decode cX4_pin 23 = .ok (.getfield 19, 3) := by decide +kernel
theorem dX4_pin_26 : decode cX4_pin 26 = .ok (.iload_n 1, 1) := by decide +kernel
theorem dX4_pin_27 : decode cX4_pin 27 = .ok (.iload_n 2, 1) := by decide +kernel
theorem dX4_pin_28 : decode cX4_pin 28 = .ok (.invokevirtual 143, 3) := by decide +kernel
theorem dX4_pin_31 : decode cX4_pin 31 = .ok (.ifCond .ne 6, 3) := by decide +kernel
theorem dX4_pin_34 : decode cX4_pin 34 = .ok (.bipush (-2), 2) := by decide +kernel
theorem dX4_pin_36 : decode cX4_pin 36 = .ok (.ireturn, 1) := by decide +kernel
theorem dX4_pin_37 : decode cX4_pin 37 = .ok (.aload_n 0, 1) := by decide +kernel
theorem dX4_pin_38 : decode cX4_pin 38 = .ok (.getfield 41, 3) := by decide +kernel
theorem dX4_pin_41 : decode cX4_pin 41 = .ok (.aload_n 0, 1) := by decide +kernel
theorem dX4_pin_42 : decode cX4_pin 42 = .ok (.getfield 29, 3) := by decide +kernel
theorem dX4_pin_45 : decode cX4_pin 45 = .ok (.invokevirtual 132, 3) := by decide +kernel
theorem dX4_pin_48 : decode cX4_pin 48 = .ok (.aload_n 0, 1) := by decide +kernel
theorem dX4_pin_49 : decode cX4_pin 49 = .ok (.getfield 29, 3) := by decide +kernel
theorem dX4_pin_52 : decode cX4_pin 52 = .ok (.aload_n 0, 1) := by decide +kernel
theorem dX4_pin_53 : decode cX4_pin 53 = .ok (.getfield 19, 3) := by decide +kernel
theorem dX4_pin_56 : decode cX4_pin 56 = .ok (.iload_n 1, 1) := by decide +kernel
theorem dX4_pin_57 : decode cX4_pin 57 = .ok (.iload_n 2, 1) := by decide +kernel
theorem dX4_pin_58 : decode cX4_pin 58 = .ok (.invokevirtual 147, 3) := by decide +kernel
theorem dX4_pin_61 : decode cX4_pin 61 = .ok (.aload_n 0, 1) := by decide +kernel
theorem dX4_pin_62 : decode cX4_pin 62 = .ok (.getfield 29, 3) := by decide +kernel
theorem dX4_pin_65 : decode cX4_pin 65 = .ok (.getfield 120, 3) := by decide +kernel
theorem dX4_pin_68 : decode cX4_pin 68 = .ok (.iload_n 1, 1) := by decide +kernel
theorem dX4_pin_69 : decode cX4_pin 69 = .ok (.iaload, 1) := by decide +kernel
theorem dX4_pin_70 : decode cX4_pin 70 = .ok (.ireturn, 1) := by decide +kernel
set_option maxRecDepth 20000 in
theorem ggX4_lend_X4_isLady : GoodIn wsX4_lend wsX4_isLady := goodIn_r _ [8, 9, 10, 41, 42, 43, 44, 45, 46, 47, 48, 49, 50, 57, 58, 59, 60, 61, 62, 63, 64, 65, 66, 67, 68, 69] (by decide +kernel) (by decide +kernel)
set_option maxRecDepth 20000 in
theorem gX4_lend_X4_isLady : GoodIn wsX4_lend (wsV RX4 117 RX4 yX4_isLady wsX4_isLady) := goodIn_app (goodIn_of _ (by decide +kernel)) ggX4_lend_X4_isLady
set_option maxRecDepth 20000 in
theorem ggX4_lend_X1_put : GoodIn wsX4_lend wsX1_put := goodIn_r _ [15, 16, 17, 18, 19, 20, 14, 21, 22, 23, 24, 25, 26, 27, 28, 29, 30, 31, 32, 33, 34, 35, 36, 70, 71, 51, 52, 53, 54, 55, 56] (by decide +kernel) (by decide +kernel)
set_option maxRecDepth 20000 in
theorem gX4_lend_X1_put : GoodIn wsX4_lend (wsV RX4 132 RX1 yX1_put wsX1_put) := goodIn_app (goodIn_of _ (by decide +kernel)) ggX4_lend_X1_put
set_option maxRecDepth 20000 in
theorem ggX4_lend_X2_lendPin : GoodIn wsX4_lend wsX2_lendPin := goodIn_r _ [40, 36, 51, 52, 53, 54, 55, 56] (by decide +kernel) (by decide +kernel)
set_option maxRecDepth 20000 in
theorem gX4_lend_X2_lendPin : GoodIn wsX4_lend (wsV RX4 151 RX2 yX2_lendPin wsX2_lendPin) := goodIn_app (goodIn_of _ (by decide +kernel)) ggX4_lend_X2_lendPin
theorem dX4_lend_0 : decode cX4_lend 0 = .ok (.aload_n 0, 1) := by decide +kernel
theorem dX4_lend_1 : decode cX4_lend 1 = .ok (.iload_n 1, 1) := by decide +kernel
theorem dX4_lend_2 : decode cX4_lend 2 = .ok (.invokevirtual 117, 3) := by decide +kernel
theorem dX4_lend_5 : decode cX4_lend 5 = .ok (.ifCond .eq 16, 3) := by decide +kernel
theorem dX4_lend_8 : decode cX4_lend 8 = .ok (.aload_n 0, 1) := by decide +kernel
theorem dX4_lend_9 : decode cX4_lend 9 = .ok (.iload_n 2, 1) := by decide +kernel
theorem dX4_lend_10 : decode cX4_lend 10 = .ok (.invokevirtual 117, 3) := by decide +kernel
theorem dX4_lend_13 : decode cX4_lend 13 = .ok (.ifCond .eq 8, 3) := by decide +kernel
theorem dX4_lend_16 : decode cX4_lend 16 = .ok (.iload_n 1, 1) := by decide +kernel
theorem dX4_lend_17 : decode cX4_lend 17 = .ok (.iload_n 2, 1) := by decide +kernel
theorem dX4_lend_18 : decode cX4_lend 18 = .ok (.if_icmp .ne 5, 3) := by decide +kernel
theorem dX4_lend_21 : decode cX4_lend 21 = .ok (.iconst (-1), 1) := by decide +kernel
theorem dX4_lend_22 : decode cX4_lend 22 = .ok (.ireturn, 1) := by decide +kernel
theorem dX4_lend_23 : decode cX4_lend 23 = .ok (.aload_n 0, 1) := by decide +kernel
theorem dX4_lend_24 : decode cX4_lend 24 = .ok (.getfield 29, 3) := by decide +kernel
theorem dX4_lend_27 : decode cX4_lend 27 = .ok (.getfield 120, 3) := by decide +kernel
theorem dX4_lend_30 : decode cX4_lend 30 = .ok (.iload_n 1, 1) := by decide +kernel
theorem dX4_lend_31 : decode cX4_lend 31 = .ok (.iaload, 1) := by decide +kernel
theorem dX4_lend_32 : decode cX4_lend 32 = .ok (.iconst 1, 1) := by decide +kernel
theorem dX4_lend_33 : decode cX4_lend 33 = .ok (.if_icmp .ge 6, 3) := by decide +kernel
theorem dX4_lend_36 : decode cX4_lend 36 = .ok (.bipush (-2), 2) := by decide +kernel
theorem dX4_lend_38 : decode cX4_lend 38 = .ok (.ireturn, 1) := by decide +kernel
theorem dX4_lend_39 : decode cX4_lend 39 = .ok (.aload_n 0, 1) := by decide +kernel
theorem dX4_lend_40 : decode cX4_lend 40 = .ok (.getfield 29, 3) := by decide +kernel
theorem dX4_lend_43 : decode cX4_lend 43 = .ok (.getfield 120, 3) := by decide +kernel
theorem dX4_lend_46 : decode cX4_lend 46 = .ok (.iload_n 2, 1) := by decide +kernel
theorem dX4_lend_47 : decode cX4_lend 47 = .ok (.iaload, 1) := by decide +kernel
theorem dX4_lend_48 : decode cX4_lend 48 = .ok (.bipush 9, 2) := by decide +kernel
theorem dX4_lend_50 : decode cX4_lend 50 = .ok (.if_icmp .lt 6, 3) := by decide +kernel
theorem dX4_lend_53 : decode cX4_lend 53 = .ok (.bipush (-3), 2) := by decide +kernel
theorem dX4_lend_55 : decode cX4_lend 55 = .ok (.ireturn, 1) := by decide +kernel
theorem dX4_lend_56 : decode cX4_lend 56 = .ok (.aload_n 0, 1) := by decide +kernel
theorem dX4_lend_57 : decode cX4_lend 57 = .ok (.getfield 41, 3) := by decide +kernel
theorem dX4_lend_60 : decode cX4_lend 60 = .ok (.aload_n 0, 1) := by decide +kernel
theorem dX4_lend_61 : decode cX4_lend 61 = .ok (.getfield 29, 3) := by decide +kernel
theorem dX4_lend_64 : decode cX4_lend 64 = .ok (.invokevirtual 132, 3) := by decide +kernel
theorem dX4_lend_67 : decode cX4_lend 67 = .ok (.aload_n 0, 1) := by decide +kernel
theorem dX4_lend_68 : decode cX4_lend 68 = .ok (.getfield 29, 3) := by decide +kernel
