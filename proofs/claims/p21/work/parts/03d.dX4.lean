theorem dX4_init_0 : decode cX4_init 0 = .ok (.aload_n 0, 1) := by decide +kernel
theorem dX4_init_1 : decode cX4_init 1 = .ok (.invokespecial 1, 3) := by decide +kernel
theorem dX4_init_4 : decode cX4_init 4 = .ok (.aload_n 0, 1) := by decide +kernel
theorem dX4_init_5 : decode cX4_init 5 = .ok (.iconst (-1), 1) := by decide +kernel
theorem dX4_init_6 : decode cX4_init 6 = .ok (.putfield 7, 3) := by decide +kernel
theorem dX4_init_9 : decode cX4_init 9 = .ok (.return_, 1) := by decide +kernel
theorem dX4_pull_0 : decode cX4_pull 0 = .ok (.aload_n 0, 1) := by decide +kernel
theorem dX4_pull_1 : decode cX4_pull 1 = .ok (.getfield 17, 3) := by decide +kernel
theorem dX4_pull_4 : decode cX4_pull 4 = .ok (.iconst 2, 1) := by decide +kernel
theorem dX4_pull_5 : decode cX4_pull 5 = .ok (.if_icmp .ne 17, 3) := by decide +kernel
theorem dX4_pull_8 : decode cX4_pull 8 = .ok (.iload_n 1, 1) := by decide +kernel
theorem dX4_pull_9 : decode cX4_pull 9 = .ok (.ifCond .le 9, 3) := by decide +kernel
theorem dX4_pull_12 : decode cX4_pull 12 = .ok (.iload_n 1, 1) := by decide +kernel
theorem dX4_pull_13 : decode cX4_pull 13 = .ok (.iconst 5, 1) := by decide +kernel
theorem dX4_pull_14 : decode cX4_pull 14 = .ok (.iadd, 1) := by decide +kernel
theorem dX4_pull_15 : decode cX4_pull 15 = .ok (.goto 28, 3) := by decide +kernel
theorem dX4_pull_18 : decode cX4_pull 18 = .ok (.iconst 0, 1) := by decide +kernel
theorem dX4_pull_19 : decode cX4_pull 19 = .ok (.goto 24, 3) := by decide +kernel
theorem dX4_pull_22 : decode cX4_pull 22 = .ok (.aload_n 0, 1) := by decide +kernel
theorem dX4_pull_23 : decode cX4_pull 23 = .ok (.getfield 17, 3) := by decide +kernel
theorem dX4_pull_26 : decode cX4_pull 26 = .ok (.iconst 1, 1) := by decide +kernel
theorem dX4_pull_27 : decode cX4_pull 27 = .ok (.if_icmp .ne 11, 3) := by decide +kernel
theorem dX4_pull_30 : decode cX4_pull 30 = .ok (.iload_n 1, 1) := by decide +kernel
theorem dX4_pull_31 : decode cX4_pull 31 = .ok (.iload_n 1, 1) := by decide +kernel
theorem dX4_pull_32 : decode cX4_pull 32 = .ok (.imul, 1) := by decide +kernel
theorem dX4_pull_33 : decode cX4_pull 33 = .ok (.iconst 2, 1) := by decide +kernel
theorem dX4_pull_34 : decode cX4_pull 34 = .ok (.idiv, 1) := by decide +kernel
theorem dX4_pull_35 : decode cX4_pull 35 = .ok (.goto 8, 3) := by decide +kernel
theorem dX4_pull_38 : decode cX4_pull 38 = .ok (.iload_n 1, 1) := by decide +kernel
theorem dX4_pull_39 : decode cX4_pull 39 = .ok (.iload_n 1, 1) := by decide +kernel
theorem dX4_pull_40 : decode cX4_pull 40 = .ok (.iadd, 1) := by decide +kernel
theorem dX4_pull_41 : decode cX4_pull 41 = .ok (.iload_n 1, 1) := by decide +kernel
theorem dX4_pull_42 : decode cX4_pull 42 = .ok (.iadd, 1) := by decide +kernel
theorem dX4_pull_43 : decode cX4_pull 43 = .ok (.ireturn, 1) := by decide +kernel
set_option maxRecDepth 20000 in
theorem ggX4_heel_X4_pull : GoodIn wsX4_heel wsX4_pull := goodIn_r _ [7, 8, 9, 10, 11, 12, 13, 14, 15, 16, 17, 18] (by decide +kernel) (by decide +kernel)
set_option maxRecDepth 20000 in
theorem gX4_heel_X4_pull : GoodIn wsX4_heel (wsV RX4 41 RX4 yX4_pull wsX4_pull) := goodIn_app (goodIn_of _ (by decide +kernel)) ggX4_heel_X4_pull
theorem dX4_heel_0 : decode cX4_heel 0 = .ok (.iconst 4, 1) := by decide +kernel
theorem dX4_heel_1 : decode cX4_heel 1 = .ok (.aload_n 0, 1) := by decide +kernel
theorem dX4_heel_2 : decode cX4_heel 2 = .ok (.iload_n 1, 1) := by decide +kernel
theorem dX4_heel_3 : decode cX4_heel 3 = .ok (.invokevirtual 41, 3) := by decide +kernel
theorem dX4_heel_6 : decode cX4_heel 6 = .ok (.imul, 1) := by decide +kernel
theorem dX4_heel_7 : decode cX4_heel 7 = .ok (.iconst 5, 1) := by decide +kernel
theorem dX4_heel_8 : decode cX4_heel 8 = .ok (.aload_n 0, 1) := by decide +kernel
theorem dX4_heel_9 : decode cX4_heel 9 = .ok (.getfield 20, 3) := by decide +kernel
theorem dX4_heel_12 : decode cX4_heel 12 = .ok (.imul, 1) := by decide +kernel
theorem dX4_heel_13 : decode cX4_heel 13 = .ok (.isub, 1) := by decide +kernel
theorem dX4_heel_14 : decode cX4_heel 14 = .ok (.iconst 2, 1) := by decide +kernel
theorem dX4_heel_15 : decode cX4_heel 15 = .ok (.aload_n 0, 1) := by decide +kernel
theorem dX4_heel_16 : decode cX4_heel 16 = .ok (.getfield 14, 3) := by decide +kernel
theorem dX4_heel_19 : decode cX4_heel 19 = .ok (.imul, 1) := by decide +kernel
theorem dX4_heel_20 : decode cX4_heel 20 = .ok (.isub, 1) := by decide +kernel
theorem dX4_heel_21 : decode cX4_heel 21 = .ok (.istore_n 2, 1) := by decide +kernel
theorem dX4_heel_22 : decode cX4_heel 22 = .ok (.iload_n 2, 1) := by decide +kernel
theorem dX4_heel_23 : decode cX4_heel 23 = .ok (.ifCond .ge 7, 3) := by decide +kernel
theorem dX4_heel_26 : decode cX4_heel 26 = .ok (.iconst 0, 1) := by decide +kernel
theorem dX4_heel_27 : decode cX4_heel 27 = .ok (.goto 4, 3) := by decide +kernel
theorem dX4_heel_30 : decode cX4_heel 30 = .ok (.iload_n 2, 1) := by decide +kernel
theorem dX4_heel_31 : decode cX4_heel 31 = .ok (.ireturn, 1) := by decide +kernel
set_option maxRecDepth 20000 in
theorem ggX4_speed_X4_pull : GoodIn wsX4_speed wsX4_pull := goodIn_r _ [7, 8, 9, 10, 11, 12, 13, 14, 15, 16, 17, 18] (by decide +kernel) (by decide +kernel)
set_option maxRecDepth 20000 in
theorem gX4_speed_X4_pull : GoodIn wsX4_speed (wsV RX4 41 RX4 yX4_pull wsX4_pull) := goodIn_app (goodIn_of _ (by decide +kernel)) ggX4_speed_X4_pull
theorem dX4_speed_0 : decode cX4_speed 0 = .ok (.iconst 4, 1) := by decide +kernel
theorem dX4_speed_1 : decode cX4_speed 1 = .ok (.aload_n 0, 1) := by decide +kernel
theorem dX4_speed_2 : decode cX4_speed 2 = .ok (.iload_n 1, 1) := by decide +kernel
theorem dX4_speed_3 : decode cX4_speed 3 = .ok (.invokevirtual 41, 3) := by decide +kernel
theorem dX4_speed_6 : decode cX4_speed 6 = .ok (.imul, 1) := by decide +kernel
theorem dX4_speed_7 : decode cX4_speed 7 = .ok (.iconst 2, 1) := by decide +kernel
theorem dX4_speed_8 : decode cX4_speed 8 = .ok (.aload_n 0, 1) := by decide +kernel
theorem dX4_speed_9 : decode cX4_speed 9 = .ok (.getfield 14, 3) := by decide +kernel
theorem dX4_speed_12 : decode cX4_speed 12 = .ok (.iadd, 1) := by decide +kernel
theorem dX4_speed_13 : decode cX4_speed 13 = .ok (.aload_n 0, 1) := by decide +kernel
theorem dX4_speed_14 : decode cX4_speed 14 = .ok (.getfield 20, 3) := by decide +kernel
theorem dX4_speed_17 : decode cX4_speed 17 = .ok (.iconst 2, 1) := by decide +kernel
theorem dX4_speed_18 : decode cX4_speed 18 = .ok (.idiv, 1) := by decide +kernel
theorem dX4_speed_19 : decode cX4_speed 19 = .ok (.iadd, 1) := by decide +kernel
theorem dX4_speed_20 : decode cX4_speed 20 = .ok (.idiv, 1) := by decide +kernel
theorem dX4_speed_21 : decode cX4_speed 21 = .ok (.istore_n 2, 1) := by decide +kernel
theorem dX4_speed_22 : decode cX4_speed 22 = .ok (.iload_n 2, 1) := by decide +kernel
theorem dX4_speed_23 : decode cX4_speed 23 = .ok (.bipush 20, 2) := by decide +kernel
theorem dX4_speed_25 : decode cX4_speed 25 = .ok (.if_icmp .le 8, 3) := by decide +kernel
theorem dX4_speed_28 : decode cX4_speed 28 = .ok (.bipush 20, 2) := by decide +kernel
theorem dX4_speed_30 : decode cX4_speed 30 = .ok (.goto 4, 3) := by decide +kernel
theorem dX4_speed_33 : decode cX4_speed 33 = .ok (.iload_n 2, 1) := by decide +kernel
theorem dX4_speed_34 : decode cX4_speed 34 = .ok (.ireturn, 1) := by decide +kernel
theorem dX5_init_0 : decode cX5_init 0 = .ok (.aload_n 0, 1) := by decide +kernel
theorem dX5_init_1 : decode cX5_init 1 = .ok (.invokespecial 1, 3) := by decide +kernel
theorem dX5_init_4 : decode cX5_init 4 = .ok (.aload_n 0, 1) := by decide +kernel
theorem dX5_init_5 : decode cX5_init 5 = .ok (.bipush 60, 2) := by decide +kernel
theorem dX5_init_7 : decode cX5_init 7 = .ok (.putfield 7, 3) := by decide +kernel
theorem dX5_init_10 : decode cX5_init 10 = .ok (.aload_n 0, 1) := by decide +kernel
theorem dX5_init_11 : decode cX5_init 11 = .ok (.bipush 10, 2) := by decide +kernel
theorem dX5_init_13 : decode cX5_init 13 = .ok (.newarray .int, 2) := by decide +kernel
theorem dX5_init_15 : decode cX5_init 15 = .ok (.dup, 1) := by decide +kernel
theorem dX5_init_16 : decode cX5_init 16 = .ok (.iconst 0, 1) := by decide +kernel
theorem dX5_init_17 : decode cX5_init 17 = .ok (.iconst 4, 1) := by decide +kernel
theorem dX5_init_18 : decode cX5_init 18 = .ok (.iastore, 1) := by decide +kernel
theorem dX5_init_19 : decode cX5_init 19 = .ok (.dup, 1) := by decide +kernel
theorem dX5_init_20 : decode cX5_init 20 = .ok (.iconst 1, 1) := by decide +kernel
theorem dX5_init_21 : decode cX5_init 21 = .ok (.iconst 4, 1) := by decide +kernel
theorem dX5_init_22 : decode cX5_init 22 = .ok (.iastore, 1) := by decide +kernel
theorem dX5_init_23 : decode cX5_init 23 = .ok (.dup, 1) := by decide +kernel
theorem dX5_init_24 : decode cX5_init 24 = .ok (.iconst 2, 1) := by decide +kernel
theorem dX5_init_25 : decode cX5_init 25 = .ok (.iconst 4, 1) := by decide +kernel
theorem dX5_init_26 : decode cX5_init 26 = .ok (.iastore, 1) := by decide +kernel
theorem dX5_init_27 : decode cX5_init 27 = .ok (.dup, 1) := by decide +kernel
theorem dX5_init_28 : decode cX5_init 28 = .ok (.iconst 3, 1) := by decide +kernel
theorem dX5_init_29 : decode cX5_init 29 = .ok (.iconst 4, 1) := by decide +kernel
theorem dX5_init_30 : decode cX5_init 30 = .ok (.iastore, 1) := by decide +kernel
theorem dX5_init_31 : decode cX5_init 31 = .ok (.dup, 1) := by decide +kernel
theorem dX5_init_32 : decode cX5_init 32 = .ok (.iconst 4, 1) := by decide +kernel
theorem dX5_init_33 : decode cX5_init 33 = .ok (.iconst 4, 1) := by decide +kernel
theorem dX5_init_34 : decode cX5_init 34 = .ok (.iastore, 1) := by decide +kernel
theorem dX5_init_35 : decode cX5_init 35 = .ok (.dup, 1) := by decide +kernel
theorem dX5_init_36 : decode cX5_init 36 = .ok (.iconst 5, 1) := by decide +kernel
theorem dX5_init_37 : decode cX5_init 37 = .ok (.iconst 4, 1) := by decide +kernel
theorem dX5_init_38 : decode cX5_init 38 = .ok (.iastore, 1) := by decide +kernel
theorem dX5_init_39 : decode cX5_init 39 = .ok (.dup, 1) := by decide +kernel
theorem dX5_init_40 : decode cX5_init 40 = .ok (.bipush 6, 2) := by decide +kernel
theorem dX5_init_42 : decode cX5_init 42 = .ok (.iconst 4, 1) := by decide +kernel
theorem dX5_init_43 : decode cX5_init 43 = .ok (.iastore, 1) := by decide +kernel
theorem dX5_init_44 : decode cX5_init 44 = .ok (.dup, 1) := by decide +kernel
theorem dX5_init_45 : decode cX5_init 45 = .ok (.bipush 7, 2) := by decide +kernel
theorem dX5_init_47 : decode cX5_init 47 = .ok (.iconst 4, 1) := by decide +kernel
theorem dX5_init_48 : decode cX5_init 48 = .ok (.iastore, 1) := by decide +kernel
theorem dX5_init_49 : decode cX5_init 49 = .ok (.dup, 1) := by decide +kernel
theorem dX5_init_50 : decode cX5_init 50 = .ok (.bipush 8, 2) := by decide +kernel
theorem dX5_init_52 : decode cX5_init 52 = .ok (.iconst 4, 1) := by decide +kernel
theorem dX5_init_53 : decode cX5_init 53 = .ok (.iastore, 1) := by decide +kernel
theorem dX5_init_54 : decode cX5_init 54 = .ok (.dup, 1) := by decide +kernel
theorem dX5_init_55 : decode cX5_init 55 = .ok (.bipush 9, 2) := by decide +kernel
theorem dX5_init_57 : decode cX5_init 57 = .ok (.iconst 4, 1) := by decide +kernel
theorem dX5_init_58 : decode cX5_init 58 = .ok (.iastore, 1) := by decide +kernel
theorem dX5_init_59 : decode cX5_init 59 = .ok (.putfield 13, 3) := by decide +kernel
theorem dX5_init_62 : decode cX5_init 62 = .ok (.aload_n 0, 1) := by decide +kernel
theorem dX5_init_63 : decode cX5_init 63 = .ok (.iconst 0, 1) := by decide +kernel
theorem dX5_init_64 : decode cX5_init 64 = .ok (.anewarray 17, 3) := by decide +kernel
theorem dX5_init_67 : decode cX5_init 67 = .ok (.putfield 19, 3) := by decide +kernel
theorem dX5_init_70 : decode cX5_init 70 = .ok (.aload_n 0, 1) := by decide +kernel
theorem dX5_init_71 : decode cX5_init 71 = .ok (.iconst 0, 1) := by decide +kernel
theorem dX5_init_72 : decode cX5_init 72 = .ok (.newarray .int, 2) := by decide +kernel
theorem dX5_init_74 : decode cX5_init 74 = .ok (.putfield 23, 3) := by decide +kernel
theorem dX5_init_77 : decode cX5_init 77 = .ok (.aload_n 0, 1) := by decide +kernel
theorem dX5_init_78 : decode cX5_init 78 = .ok (.iconst (-1), 1) := by decide +kernel
theorem dX5_init_79 : decode cX5_init 79 = .ok (.putfield 26, 3) := by decide +kernel
theorem dX5_init_82 : decode cX5_init 82 = .ok (.return_, 1) := by decide +kernel
theorem dX5_wind_0 : decode cX5_wind 0 = .ok (.aload_n 0, 1) := by decide +kernel
theorem dX5_wind_1 : decode cX5_wind 1 = .ok (.getfield 13, 3) := by decide +kernel
theorem dX5_wind_4 : decode cX5_wind 4 = .ok (.aload_n 0, 1) := by decide +kernel
theorem dX5_wind_5 : decode cX5_wind 5 = .ok (.getfield 34, 3) := by decide +kernel
theorem dX5_wind_8 : decode cX5_wind 8 = .ok (.bipush 10, 2) := by decide +kernel
theorem dX5_wind_10 : decode cX5_wind 10 = .ok (.irem, 1) := by decide +kernel
theorem dX5_wind_11 : decode cX5_wind 11 = .ok (.iaload, 1) := by decide +kernel
theorem dX5_wind_12 : decode cX5_wind 12 = .ok (.ireturn, 1) := by decide +kernel
theorem dX5_can_0 : decode cX5_can 0 = .ok (.iconst 0, 1) := by decide +kernel
theorem dX5_can_1 : decode cX5_can 1 = .ok (.istore_n 1, 1) := by decide +kernel
theorem dX5_can_2 : decode cX5_can 2 = .ok (.aload_n 0, 1) := by decide +kernel
theorem dX5_can_3 : decode cX5_can 3 = .ok (.getfield 19, 3) := by decide +kernel
theorem dX5_can_6 : decode cX5_can 6 = .ok (.astore_n 2, 1) := by decide +kernel
theorem dX5_can_7 : decode cX5_can 7 = .ok (.aload_n 2, 1) := by decide +kernel
theorem dX5_can_8 : decode cX5_can 8 = .ok (.arraylength, 1) := by decide +kernel
theorem dX5_can_9 : decode cX5_can 9 = .ok (.istore_n 3, 1) := by decide +kernel
theorem dX5_can_10 : decode cX5_can 10 = .ok (.iconst 0, 1) := by decide +kernel
theorem dX5_can_11 : decode cX5_can 11 = .ok (.istore 4, 2) := by decide +kernel
theorem dX5_can_13 : decode cX5_can 13 = .ok (.iload 4, 2) := by decide +kernel
theorem dX5_can_15 : decode cX5_can 15 = .ok (.iload_n 3, 1) := by decide +kernel
theorem dX5_can_16 : decode cX5_can 16 = .ok (.if_icmp .ge 33, 3) := by decide +kernel
theorem dX5_can_19 : decode cX5_can 19 = .ok (.aload_n 2, 1) := by decide +kernel
theorem dX5_can_20 : decode cX5_can 20 = .ok (.iload 4, 2) := by decide +kernel
theorem dX5_can_22 : decode cX5_can 22 = .ok (.aaload, 1) := by decide +kernel
theorem dX5_can_23 : decode cX5_can 23 = .ok (.astore 5, 2) := by decide +kernel
theorem dX5_can_25 : decode cX5_can 25 = .ok (.iload_n 1, 1) := by decide +kernel
theorem dX5_can_26 : decode cX5_can 26 = .ok (.aload 5, 2) := by decide +kernel
theorem dX5_can_28 : decode cX5_can 28 = .ok (.getfield 40, 3) := by decide +kernel
theorem dX5_can_31 : decode cX5_can 31 = .ok (.bipush 9, 2) := by decide +kernel
theorem dX5_can_33 : decode cX5_can 33 = .ok (.if_icmp .ge 7, 3) := by decide +kernel
theorem dX5_can_36 : decode cX5_can 36 = .ok (.iconst 1, 1) := by decide +kernel
theorem dX5_can_37 : decode cX5_can 37 = .ok (.goto 4, 3) := by decide +kernel
theorem dX5_can_40 : decode cX5_can 40 = .ok (.iconst 0, 1) := by decide +kernel
theorem dX5_can_41 : decode cX5_can 41 = .ok (.iadd, 1) := by decide +kernel
theorem dX5_can_42 : decode cX5_can 42 = .ok (.istore_n 1, 1) := by decide +kernel
theorem dX5_can_43 : decode cX5_can 43 = .ok (.iinc 4 1, 3) := by decide +kernel
theorem dX5_can_46 : decode cX5_can 46 = .ok (.goto (-33), 3) := by decide +kernel
theorem dX5_can_49 : decode cX5_can 49 = .ok (.iload_n 1, 1) := by decide +kernel
theorem dX5_can_50 : decode cX5_can 50 = .ok (.ireturn, 1) := by decide +kernel
set_option maxRecDepth 20000 in
theorem ggX5_start_X5_can : GoodIn wsX5_start wsX5_can := goodIn_r _ [13, 1, 2, 14, 15, 16, 17, 18, 19, 20, 21, 22, 23, 24, 25, 26, 27, 28, 29, 30] (by decide +kernel) (by decide +kernel)
set_option maxRecDepth 20000 in
theorem gX5_start_X5_can : GoodIn wsX5_start (wsV RX5 58 RX5 yX5_can wsX5_can) := goodIn_app (goodIn_of _ (by decide +kernel)) ggX5_start_X5_can
theorem dX5_start_0 : decode cX5_start 0 = .ok (.aload_n 0, 1) := by decide +kernel
theorem dX5_start_1 : decode cX5_start 1 = .ok (.getfield 19, 3) := by decide +kernel
theorem dX5_start_4 : decode cX5_start 4 = .ok (.astore_n 1, 1) := by decide +kernel
theorem dX5_start_5 : decode cX5_start 5 = .ok (.aload_n 1, 1) := by decide +kernel
theorem dX5_start_6 : decode cX5_start 6 = .ok (.arraylength, 1) := by decide +kernel
theorem dX5_start_7 : decode cX5_start 7 = .ok (.istore_n 2, 1) := by decide +kernel
theorem dX5_start_8 : decode cX5_start 8 = .ok (.iconst 0, 1) := by decide +kernel
theorem dX5_start_9 : decode cX5_start 9 = .ok (.istore_n 3, 1) := by decide +kernel
theorem dX5_start_10 : decode cX5_start 10 = .ok (.iload_n 3, 1) := by decide +kernel
theorem dX5_start_11 : decode cX5_start 11 = .ok (.iload_n 2, 1) := by decide +kernel
theorem dX5_start_12 : decode cX5_start 12 = .ok (.if_icmp .ge 58, 3) := by decide +kernel
theorem dX5_start_15 : decode cX5_start 15 = .ok (.aload_n 1, 1) := by decide +kernel
theorem dX5_start_16 : decode cX5_start 16 = .ok (.iload_n 3, 1) := by decide +kernel
theorem dX5_start_17 : decode cX5_start 17 = .ok (.aaload, 1) := by decide +kernel
theorem dX5_start_18 : decode cX5_start 18 = .ok (.astore 4, 2) := by decide +kernel
theorem dX5_start_20 : decode cX5_start 20 = .ok (.aload 4, 2) := by decide +kernel
theorem dX5_start_22 : decode cX5_start 22 = .ok (.aload 4, 2) := by decide +kernel
theorem dX5_start_24 : decode cX5_start 24 = .ok (.getfield 40, 3) := by decide +kernel
theorem dX5_start_27 : decode cX5_start 27 = .ok (.bipush 9, 2) := by decide +kernel
theorem dX5_start_29 : decode cX5_start 29 = .ok (.if_icmp .ge 7, 3) := by decide +kernel
theorem dX5_start_32 : decode cX5_start 32 = .ok (.iconst 1, 1) := by decide +kernel
theorem dX5_start_33 : decode cX5_start 33 = .ok (.goto 4, 3) := by decide +kernel
theorem dX5_start_36 : decode cX5_start 36 = .ok (.iconst 0, 1) := by decide +kernel
theorem dX5_start_37 : decode cX5_start 37 = .ok (.putfield 43, 3) := by decide +kernel
theorem dX5_start_40 : decode cX5_start 40 = .ok (.aload 4, 2) := by decide +kernel
theorem dX5_start_42 : decode cX5_start 42 = .ok (.iconst 0, 1) := by decide +kernel
theorem dX5_start_43 : decode cX5_start 43 = .ok (.putfield 46, 3) := by decide +kernel
theorem dX5_start_46 : decode cX5_start 46 = .ok (.aload 4, 2) := by decide +kernel
theorem dX5_start_48 : decode cX5_start 48 = .ok (.iconst (-1), 1) := by decide +kernel
theorem dX5_start_49 : decode cX5_start 49 = .ok (.putfield 49, 3) := by decide +kernel
theorem dX5_start_52 : decode cX5_start 52 = .ok (.aload 4, 2) := by decide +kernel
theorem dX5_start_54 : decode cX5_start 54 = .ok (.iconst 0, 1) := by decide +kernel
theorem dX5_start_55 : decode cX5_start 55 = .ok (.putfield 52, 3) := by decide +kernel
theorem dX5_start_58 : decode cX5_start 58 = .ok (.aload 4, 2) := by decide +kernel
theorem dX5_start_60 : decode cX5_start 60 = .ok (.iconst 0, 1) := by decide +kernel
theorem dX5_start_61 : decode cX5_start 61 = .ok (.putfield 55, 3) := by decide +kernel
theorem dX5_start_64 : decode cX5_start 64 = .ok (.iinc 3 1, 3) := by decide +kernel
theorem dX5_start_67 : decode cX5_start 67 = .ok (.goto (-57), 3) := by decide +kernel
theorem dX5_start_70 : decode cX5_start 70 = .ok (.aload_n 0, 1) := by decide +kernel
theorem dX5_start_71 : decode cX5_start 71 = .ok (.iconst 0, 1) := by decide +kernel
theorem dX5_start_72 : decode cX5_start 72 = .ok (.putfield 26, 3) := by decide +kernel
theorem dX5_start_75 : decode cX5_start 75 = .ok (.aload_n 0, 1) := by decide +kernel
theorem dX5_start_76 : decode cX5_start 76 = .ok (.invokevirtual 58, 3) := by decide +kernel
theorem dX5_start_79 : decode cX5_start 79 = .ok (.ireturn, 1) := by decide +kernel
theorem dX5_isSeen_0 : decode cX5_isSeen 0 = .ok (.aload_n 0, 1) := by decide +kernel
theorem dX5_isSeen_1 : decode cX5_isSeen 1 = .ok (.getfield 23, 3) := by decide +kernel
theorem dX5_isSeen_4 : decode cX5_isSeen 4 = .ok (.astore_n 2, 1) := by decide +kernel
theorem dX5_isSeen_5 : decode cX5_isSeen 5 = .ok (.aload_n 2, 1) := by decide +kernel
theorem dX5_isSeen_6 : decode cX5_isSeen 6 = .ok (.arraylength, 1) := by decide +kernel
theorem dX5_isSeen_7 : decode cX5_isSeen 7 = .ok (.istore_n 3, 1) := by decide +kernel
theorem dX5_isSeen_8 : decode cX5_isSeen 8 = .ok (.iconst 0, 1) := by decide +kernel
theorem dX5_isSeen_9 : decode cX5_isSeen 9 = .ok (.istore 4, 2) := by decide +kernel
theorem dX5_isSeen_11 : decode cX5_isSeen 11 = .ok (.iload 4, 2) := by decide +kernel
theorem dX5_isSeen_13 : decode cX5_isSeen 13 = .ok (.iload_n 3, 1) := by decide +kernel
theorem dX5_isSeen_14 : decode cX5_isSeen 14 = .ok (.if_icmp .ge 35, 3) := by decide +kernel
theorem dX5_isSeen_17 : decode cX5_isSeen 17 = .ok (.aload_n 2, 1) := by decide +kernel
theorem dX5_isSeen_18 : decode cX5_isSeen 18 = .ok (.iload 4, 2) := by decide +kernel
theorem dX5_isSeen_20 : decode cX5_isSeen 20 = .ok (.iaload, 1) := by decide +kernel
theorem dX5_isSeen_21 : decode cX5_isSeen 21 = .ok (.istore 5, 2) := by decide +kernel
theorem dX5_isSeen_23 : decode cX5_isSeen 23 = .ok (.iload 5, 2) := by decide +kernel
theorem dX5_isSeen_25 : decode cX5_isSeen 25 = .ok (.iload_n 1, 1) := by decide +kernel
theorem dX5_isSeen_26 : decode cX5_isSeen 26 = .ok (.bipush 10, 2) := by decide +kernel
theorem dX5_isSeen_28 : decode cX5_isSeen 28 = .ok (.isub, 1) := by decide +kernel
theorem dX5_isSeen_29 : decode cX5_isSeen 29 = .ok (.if_icmp .lt 14, 3) := by decide +kernel
theorem dX5_isSeen_32 : decode cX5_isSeen 32 = .ok (.iload 5, 2) := by decide +kernel
theorem dX5_isSeen_34 : decode cX5_isSeen 34 = .ok (.iload_n 1, 1) := by decide +kernel
theorem dX5_isSeen_35 : decode cX5_isSeen 35 = .ok (.bipush 10, 2) := by decide +kernel
theorem dX5_isSeen_37 : decode cX5_isSeen 37 = .ok (.iadd, 1) := by decide +kernel
theorem dX5_isSeen_38 : decode cX5_isSeen 38 = .ok (.if_icmp .gt 5, 3) := by decide +kernel
theorem dX5_isSeen_41 : decode cX5_isSeen 41 = .ok (.iconst 1, 1) := by decide +kernel
theorem dX5_isSeen_42 : decode cX5_isSeen 42 = .ok (.ireturn, 1) := by decide +kernel
theorem dX5_isSeen_43 : decode cX5_isSeen 43 = .ok (.iinc 4 1, 3) := by decide +kernel
theorem dX5_isSeen_46 : decode cX5_isSeen 46 = .ok (.goto (-35), 3) := by decide +kernel
theorem dX5_isSeen_49 : decode cX5_isSeen 49 = .ok (.iconst 0, 1) := by decide +kernel
theorem dX5_isSeen_50 : decode cX5_isSeen 50 = .ok (.ireturn, 1) := by decide +kernel
set_option maxRecDepth 20000 in
theorem ggX5_pass_X5_wind : GoodIn wsX5_pass wsX5_wind := goodIn_r _ [16, 17, 11, 44, 45, 46, 47, 48, 49, 50] (by decide +kernel) (by decide +kernel)
set_option maxRecDepth 20000 in
theorem gX5_pass_X5_wind : GoodIn wsX5_pass (wsV RX5 62 RX5 yX5_wind wsX5_wind) := goodIn_app (goodIn_of _ (by decide +kernel)) ggX5_pass_X5_wind
set_option maxRecDepth 20000 in
theorem ggX5_pass_X4_heel : GoodIn wsX5_pass wsX4_heel := goodIn_r _ [22, 23, 24, 25, 26, 27, 21, 28, 29, 51, 52, 53, 54, 55, 56, 57, 58, 59, 60] (by decide +kernel) (by decide +kernel)
set_option maxRecDepth 20000 in
theorem gX5_pass_X4_heel : GoodIn wsX5_pass (wsV RX5 65 RX4 yX4_heel wsX4_heel) := goodIn_app (goodIn_of _ (by decide +kernel)) ggX5_pass_X4_heel
set_option maxRecDepth 20000 in
theorem ggX5_pass_X4_speed : GoodIn wsX5_pass wsX4_speed := goodIn_r _ [33, 24, 23, 25, 26, 27, 21, 28, 29, 51, 52, 53, 54, 55, 56, 57, 58, 59, 60] (by decide +kernel) (by decide +kernel)
set_option maxRecDepth 20000 in
theorem gX5_pass_X4_speed : GoodIn wsX5_pass (wsV RX5 69 RX4 yX4_speed wsX4_speed) := goodIn_app (goodIn_of _ (by decide +kernel)) ggX5_pass_X4_speed
set_option maxRecDepth 20000 in
theorem ggX5_pass_X5_isSeen : GoodIn wsX5_pass wsX5_isSeen := goodIn_r _ [37, 38, 44, 45, 46, 47, 48, 49, 50] (by decide +kernel) (by decide +kernel)
set_option maxRecDepth 20000 in
theorem gX5_pass_X5_isSeen : GoodIn wsX5_pass (wsV RX5 72 RX5 yX5_isSeen wsX5_isSeen) := goodIn_app (goodIn_of _ (by decide +kernel)) ggX5_pass_X5_isSeen
set_option maxRecDepth 20000 in
theorem ggX5_pass_X5_finish : GoodIn wsX5_pass wsX5_finish := goodIn_r _ [42, 1, 2, 3, 4, 10, 8, 43, 44, 45, 46, 47, 48, 49, 50, 51, 52, 53, 54, 55, 56, 57, 58, 59, 60] (by decide +kernel) (by decide +kernel)
set_option maxRecDepth 20000 in
theorem gX5_pass_X5_finish : GoodIn wsX5_pass (wsV RX5 76 RX5 yX5_finish wsX5_finish) := goodIn_app (goodIn_of _ (by decide +kernel)) ggX5_pass_X5_finish
theorem dX5_pass_0 : decode cX5_pass 0 = .ok (.iconst 0, 1) := by decide +kernel
theorem dX5_pass_1 : decode cX5_pass 1 = .ok (.istore_n 1, 1) := by decide +kernel
theorem dX5_pass_2 : decode cX5_pass 2 = .ok (.aload_n 0, 1) := by decide +kernel
theorem dX5_pass_3 : decode cX5_pass 3 = .ok (.getfield 26, 3) := by decide +kernel
theorem dX5_pass_6 : decode cX5_pass 6 = .ok (.ifCond .lt 353, 3) := by decide +kernel
theorem dX5_pass_9 : decode cX5_pass 9 = .ok (.aload_n 0, 1) := by decide +kernel
theorem dX5_pass_10 : decode cX5_pass 10 = .ok (.dup, 1) := by decide +kernel
theorem dX5_pass_11 : decode cX5_pass 11 = .ok (.getfield 26, 3) := by decide +kernel
theorem dX5_pass_14 : decode cX5_pass 14 = .ok (.iconst 1, 1) := by decide +kernel
theorem dX5_pass_15 : decode cX5_pass 15 = .ok (.iadd, 1) := by decide +kernel
theorem dX5_pass_16 : decode cX5_pass 16 = .ok (.putfield 26, 3) := by decide +kernel
theorem dX5_pass_19 : decode cX5_pass 19 = .ok (.aload_n 0, 1) := by decide +kernel
theorem dX5_pass_20 : decode cX5_pass 20 = .ok (.getfield 19, 3) := by decide +kernel
theorem dX5_pass_23 : decode cX5_pass 23 = .ok (.arraylength, 1) := by decide +kernel
theorem dX5_pass_24 : decode cX5_pass 24 = .ok (.newarray .boolean, 2) := by decide +kernel
theorem dX5_pass_26 : decode cX5_pass 26 = .ok (.astore_n 2, 1) := by decide +kernel
theorem dX5_pass_27 : decode cX5_pass 27 = .ok (.iconst 0, 1) := by decide +kernel
theorem dX5_pass_28 : decode cX5_pass 28 = .ok (.istore_n 3, 1) := by decide +kernel
theorem dX5_pass_29 : decode cX5_pass 29 = .ok (.iload_n 3, 1) := by decide +kernel
theorem dX5_pass_30 : decode cX5_pass 30 = .ok (.aload_n 0, 1) := by decide +kernel
theorem dX5_pass_31 : decode cX5_pass 31 = .ok (.getfield 19, 3) := by decide +kernel
theorem dX5_pass_34 : decode cX5_pass 34 = .ok (.arraylength, 1) := by decide +kernel
theorem dX5_pass_35 : decode cX5_pass 35 = .ok (.if_icmp .ge 140, 3) := by decide +kernel
theorem dX5_pass_38 : decode cX5_pass 38 = .ok (.aload_n 0, 1) := by decide +kernel
theorem dX5_pass_39 : decode cX5_pass 39 = .ok (.getfield 19, 3) := by decide +kernel
theorem dX5_pass_42 : decode cX5_pass 42 = .ok (.iload_n 3, 1) := by decide +kernel
theorem dX5_pass_43 : decode cX5_pass 43 = .ok (.aaload, 1) := by decide +kernel
theorem dX5_pass_44 : decode cX5_pass 44 = .ok (.astore 4, 2) := by decide +kernel
theorem dX5_pass_46 : decode cX5_pass 46 = .ok (.aload 4, 2) := by decide +kernel
theorem dX5_pass_48 : decode cX5_pass 48 = .ok (.getfield 43, 3) := by decide +kernel
theorem dX5_pass_51 : decode cX5_pass 51 = .ok (.iconst 1, 1) := by decide +kernel
theorem dX5_pass_52 : decode cX5_pass 52 = .ok (.if_icmp .eq 6, 3) := by decide +kernel
theorem dX5_pass_55 : decode cX5_pass 55 = .ok (.goto 114, 3) := by decide +kernel
theorem dX5_pass_58 : decode cX5_pass 58 = .ok (.aload 4, 2) := by decide +kernel
theorem dX5_pass_60 : decode cX5_pass 60 = .ok (.getfield 55, 3) := by decide +kernel
theorem dX5_pass_63 : decode cX5_pass 63 = .ok (.ifCond .le 17, 3) := by decide +kernel
theorem dX5_pass_66 : decode cX5_pass 66 = .ok (.aload 4, 2) := by decide +kernel
theorem dX5_pass_68 : decode cX5_pass 68 = .ok (.dup, 1) := by decide +kernel
theorem dX5_pass_69 : decode cX5_pass 69 = .ok (.getfield 55, 3) := by decide +kernel
theorem dX5_pass_72 : decode cX5_pass 72 = .ok (.iconst 1, 1) := by decide +kernel
theorem dX5_pass_73 : decode cX5_pass 73 = .ok (.isub, 1) := by decide +kernel
theorem dX5_pass_74 : decode cX5_pass 74 = .ok (.putfield 55, 3) := by decide +kernel
theorem dX5_pass_77 : decode cX5_pass 77 = .ok (.goto 92, 3) := by decide +kernel
theorem dX5_pass_80 : decode cX5_pass 80 = .ok (.aload 4, 2) := by decide +kernel
theorem dX5_pass_82 : decode cX5_pass 82 = .ok (.aload_n 0, 1) := by decide +kernel
theorem dX5_pass_83 : decode cX5_pass 83 = .ok (.invokevirtual 62, 3) := by decide +kernel
theorem dX5_pass_86 : decode cX5_pass 86 = .ok (.invokevirtual 65, 3) := by decide +kernel
theorem dX5_pass_89 : decode cX5_pass 89 = .ok (.bipush 30, 2) := by decide +kernel
theorem dX5_pass_91 : decode cX5_pass 91 = .ok (.if_icmp .le 55, 3) := by decide +kernel
theorem dX5_pass_94 : decode cX5_pass 94 = .ok (.aload 4, 2) := by decide +kernel
theorem dX5_pass_96 : decode cX5_pass 96 = .ok (.iconst 2, 1) := by decide +kernel
theorem dX5_pass_97 : decode cX5_pass 97 = .ok (.putfield 55, 3) := by decide +kernel
theorem dX5_pass_100 : decode cX5_pass 100 = .ok (.aload 4, 2) := by decide +kernel
theorem dX5_pass_102 : decode cX5_pass 102 = .ok (.aload 4, 2) := by decide +kernel
theorem dX5_pass_104 : decode cX5_pass 104 = .ok (.getfield 40, 3) := by decide +kernel
theorem dX5_pass_107 : decode cX5_pass 107 = .ok (.bipush 6, 2) := by decide +kernel
theorem dX5_pass_109 : decode cX5_pass 109 = .ok (.if_icmp .le 8, 3) := by decide +kernel
theorem dX5_pass_112 : decode cX5_pass 112 = .ok (.bipush 9, 2) := by decide +kernel
theorem dX5_pass_114 : decode cX5_pass 114 = .ok (.goto 10, 3) := by decide +kernel
theorem dX5_pass_117 : decode cX5_pass 117 = .ok (.aload 4, 2) := by decide +kernel
theorem dX5_pass_119 : decode cX5_pass 119 = .ok (.getfield 40, 3) := by decide +kernel
theorem dX5_pass_122 : decode cX5_pass 122 = .ok (.iconst 2, 1) := by decide +kernel
theorem dX5_pass_123 : decode cX5_pass 123 = .ok (.iadd, 1) := by decide +kernel
theorem dX5_pass_124 : decode cX5_pass 124 = .ok (.putfield 40, 3) := by decide +kernel
theorem dX5_pass_127 : decode cX5_pass 127 = .ok (.aload 4, 2) := by decide +kernel
theorem dX5_pass_129 : decode cX5_pass 129 = .ok (.getfield 40, 3) := by decide +kernel
theorem dX5_pass_132 : decode cX5_pass 132 = .ok (.bipush 9, 2) := by decide +kernel
theorem dX5_pass_134 : decode cX5_pass 134 = .ok (.if_icmp .ne 35, 3) := by decide +kernel
theorem dX5_pass_137 : decode cX5_pass 137 = .ok (.aload 4, 2) := by decide +kernel
theorem dX5_pass_139 : decode cX5_pass 139 = .ok (.iconst 3, 1) := by decide +kernel
theorem dX5_pass_140 : decode cX5_pass 140 = .ok (.putfield 43, 3) := by decide +kernel
theorem dX5_pass_143 : decode cX5_pass 143 = .ok (.goto 26, 3) := by decide +kernel
theorem dX5_pass_146 : decode cX5_pass 146 = .ok (.aload 4, 2) := by decide +kernel
theorem dX5_pass_148 : decode cX5_pass 148 = .ok (.dup, 1) := by decide +kernel
theorem dX5_pass_149 : decode cX5_pass 149 = .ok (.getfield 46, 3) := by decide +kernel
theorem dX5_pass_152 : decode cX5_pass 152 = .ok (.aload 4, 2) := by decide +kernel
theorem dX5_pass_154 : decode cX5_pass 154 = .ok (.aload_n 0, 1) := by decide +kernel
theorem dX5_pass_155 : decode cX5_pass 155 = .ok (.invokevirtual 62, 3) := by decide +kernel
theorem dX5_pass_158 : decode cX5_pass 158 = .ok (.invokevirtual 69, 3) := by decide +kernel
theorem dX5_pass_161 : decode cX5_pass 161 = .ok (.iadd, 1) := by decide +kernel
theorem dX5_pass_162 : decode cX5_pass 162 = .ok (.putfield 46, 3) := by decide +kernel
theorem dX5_pass_165 : decode cX5_pass 165 = .ok (.aload_n 2, 1) := by decide +kernel
theorem dX5_pass_166 : decode cX5_pass 166 = .ok (.iload_n 3, 1) := by decide +kernel
theorem dX5_pass_167 : decode cX5_pass 167 = .ok (.iconst 1, 1) := by decide +kernel
theorem dX5_pass_168 : decode cX5_pass 168 = .ok (.bastore, 1) := by decide +kernel
theorem dX5_pass_169 : decode cX5_pass 169 = .ok (.iinc 3 1, 3) := by decide +kernel
theorem dX5_pass_172 : decode cX5_pass 172 = .ok (.goto (-143), 3) := by decide +kernel
theorem dX5_pass_175 : decode cX5_pass 175 = .ok (.aload_n 0, 1) := by decide +kernel
theorem dX5_pass_176 : decode cX5_pass 176 = .ok (.getfield 19, 3) := by decide +kernel
theorem dX5_pass_179 : decode cX5_pass 179 = .ok (.arraylength, 1) := by decide +kernel
theorem dX5_pass_180 : decode cX5_pass 180 = .ok (.iconst 1, 1) := by decide +kernel
theorem dX5_pass_181 : decode cX5_pass 181 = .ok (.isub, 1) := by decide +kernel
theorem dX5_pass_182 : decode cX5_pass 182 = .ok (.istore_n 3, 1) := by decide +kernel
theorem dX5_pass_183 : decode cX5_pass 183 = .ok (.iload_n 3, 1) := by decide +kernel
theorem dX5_pass_184 : decode cX5_pass 184 = .ok (.ifCond .le 102, 3) := by decide +kernel
theorem dX5_pass_187 : decode cX5_pass 187 = .ok (.aload_n 0, 1) := by decide +kernel
theorem dX5_pass_188 : decode cX5_pass 188 = .ok (.getfield 19, 3) := by decide +kernel
theorem dX5_pass_191 : decode cX5_pass 191 = .ok (.iload_n 3, 1) := by decide +kernel
theorem dX5_pass_192 : decode cX5_pass 192 = .ok (.aaload, 1) := by decide +kernel
theorem dX5_pass_193 : decode cX5_pass 193 = .ok (.getfield 46, 3) := by decide +kernel
theorem dX5_pass_196 : decode cX5_pass 196 = .ok (.istore 4, 2) := by decide +kernel
theorem dX5_pass_198 : decode cX5_pass 198 = .ok (.aload_n 2, 1) := by decide +kernel
theorem dX5_pass_199 : decode cX5_pass 199 = .ok (.iload_n 3, 1) := by decide +kernel
theorem dX5_pass_200 : decode cX5_pass 200 = .ok (.baload, 1) := by decide +kernel
theorem dX5_pass_201 : decode cX5_pass 201 = .ok (.ifCond .eq 79, 3) := by decide +kernel
theorem dX5_pass_204 : decode cX5_pass 204 = .ok (.iload 4, 2) := by decide +kernel
theorem dX5_pass_206 : decode cX5_pass 206 = .ok (.iconst 1, 1) := by decide +kernel
theorem dX5_pass_207 : decode cX5_pass 207 = .ok (.if_icmp .lt 73, 3) := by decide +kernel
theorem dX5_pass_210 : decode cX5_pass 210 = .ok (.aload_n 0, 1) := by decide +kernel
theorem dX5_pass_211 : decode cX5_pass 211 = .ok (.iload 4, 2) := by decide +kernel
theorem dX5_pass_213 : decode cX5_pass 213 = .ok (.invokevirtual 72, 3) := by decide +kernel
theorem dX5_pass_216 : decode cX5_pass 216 = .ok (.ifCond .ne 6, 3) := by decide +kernel
theorem dX5_pass_219 : decode cX5_pass 219 = .ok (.goto 61, 3) := by decide +kernel
theorem dX5_pass_222 : decode cX5_pass 222 = .ok (.iconst 0, 1) := by decide +kernel
theorem dX5_pass_223 : decode cX5_pass 223 = .ok (.istore 5, 2) := by decide +kernel
theorem dX5_pass_225 : decode cX5_pass 225 = .ok (.iload 5, 2) := by decide +kernel
theorem dX5_pass_227 : decode cX5_pass 227 = .ok (.iload_n 3, 1) := by decide +kernel
theorem dX5_pass_228 : decode cX5_pass 228 = .ok (.if_icmp .ge 52, 3) := by decide +kernel
theorem dX5_pass_231 : decode cX5_pass 231 = .ok (.aload_n 2, 1) := by decide +kernel
theorem dX5_pass_232 : decode cX5_pass 232 = .ok (.iload 5, 2) := by decide +kernel
theorem dX5_pass_234 : decode cX5_pass 234 = .ok (.baload, 1) := by decide +kernel
theorem dX5_pass_235 : decode cX5_pass 235 = .ok (.ifCond .eq 39, 3) := by decide +kernel
theorem dX5_pass_238 : decode cX5_pass 238 = .ok (.aload_n 0, 1) := by decide +kernel
theorem dX5_pass_239 : decode cX5_pass 239 = .ok (.getfield 19, 3) := by decide +kernel
theorem dX5_pass_242 : decode cX5_pass 242 = .ok (.iload 5, 2) := by decide +kernel
theorem dX5_pass_244 : decode cX5_pass 244 = .ok (.aaload, 1) := by decide +kernel
theorem dX5_pass_245 : decode cX5_pass 245 = .ok (.getfield 46, 3) := by decide +kernel
theorem dX5_pass_248 : decode cX5_pass 248 = .ok (.iload 4, 2) := by decide +kernel
theorem dX5_pass_250 : decode cX5_pass 250 = .ok (.if_icmp .eq 6, 3) := by decide +kernel
theorem dX5_pass_253 : decode cX5_pass 253 = .ok (.goto 21, 3) := by decide +kernel
theorem dX5_pass_256 : decode cX5_pass 256 = .ok (.aload_n 0, 1) := by decide +kernel
theorem dX5_pass_257 : decode cX5_pass 257 = .ok (.getfield 19, 3) := by decide +kernel
theorem dX5_pass_260 : decode cX5_pass 260 = .ok (.iload_n 3, 1) := by decide +kernel
theorem dX5_pass_261 : decode cX5_pass 261 = .ok (.aaload, 1) := by decide +kernel
theorem dX5_pass_262 : decode cX5_pass 262 = .ok (.dup, 1) := by decide +kernel
theorem dX5_pass_263 : decode cX5_pass 263 = .ok (.getfield 52, 3) := by decide +kernel
theorem dX5_pass_266 : decode cX5_pass 266 = .ok (.iconst 1, 1) := by decide +kernel
theorem dX5_pass_267 : decode cX5_pass 267 = .ok (.iadd, 1) := by decide +kernel
theorem dX5_pass_268 : decode cX5_pass 268 = .ok (.putfield 52, 3) := by decide +kernel
theorem dX5_pass_271 : decode cX5_pass 271 = .ok (.goto 9, 3) := by decide +kernel
theorem dX5_pass_274 : decode cX5_pass 274 = .ok (.iinc 5 1, 3) := by decide +kernel
theorem dX5_pass_277 : decode cX5_pass 277 = .ok (.goto (-52), 3) := by decide +kernel
theorem dX5_pass_280 : decode cX5_pass 280 = .ok (.iinc 3 (-1), 3) := by decide +kernel
theorem dX5_pass_283 : decode cX5_pass 283 = .ok (.goto (-100), 3) := by decide +kernel
theorem dX5_pass_286 : decode cX5_pass 286 = .ok (.aload_n 0, 1) := by decide +kernel
theorem dX5_pass_287 : decode cX5_pass 287 = .ok (.getfield 19, 3) := by decide +kernel
theorem dX5_pass_290 : decode cX5_pass 290 = .ok (.astore_n 3, 1) := by decide +kernel
theorem dX5_pass_291 : decode cX5_pass 291 = .ok (.aload_n 3, 1) := by decide +kernel
theorem dX5_pass_292 : decode cX5_pass 292 = .ok (.arraylength, 1) := by decide +kernel
theorem dX5_pass_293 : decode cX5_pass 293 = .ok (.istore 4, 2) := by decide +kernel
theorem dX5_pass_295 : decode cX5_pass 295 = .ok (.iconst 0, 1) := by decide +kernel
theorem dX5_pass_296 : decode cX5_pass 296 = .ok (.istore 5, 2) := by decide +kernel
theorem dX5_pass_298 : decode cX5_pass 298 = .ok (.iload 5, 2) := by decide +kernel
theorem dX5_pass_300 : decode cX5_pass 300 = .ok (.iload 4, 2) := by decide +kernel
theorem dX5_pass_302 : decode cX5_pass 302 = .ok (.if_icmp .ge 57, 3) := by decide +kernel
theorem dX5_pass_305 : decode cX5_pass 305 = .ok (.aload_n 3, 1) := by decide +kernel
theorem dX5_pass_306 : decode cX5_pass 306 = .ok (.iload 5, 2) := by decide +kernel
theorem dX5_pass_308 : decode cX5_pass 308 = .ok (.aaload, 1) := by decide +kernel
theorem dX5_pass_309 : decode cX5_pass 309 = .ok (.astore 6, 2) := by decide +kernel
theorem dX5_pass_311 : decode cX5_pass 311 = .ok (.aload 6, 2) := by decide +kernel
theorem dX5_pass_313 : decode cX5_pass 313 = .ok (.getfield 43, 3) := by decide +kernel
theorem dX5_pass_316 : decode cX5_pass 316 = .ok (.iconst 1, 1) := by decide +kernel
theorem dX5_pass_317 : decode cX5_pass 317 = .ok (.if_icmp .ne 36, 3) := by decide +kernel
theorem dX5_pass_320 : decode cX5_pass 320 = .ok (.aload 6, 2) := by decide +kernel
theorem dX5_pass_322 : decode cX5_pass 322 = .ok (.getfield 46, 3) := by decide +kernel
theorem dX5_pass_325 : decode cX5_pass 325 = .ok (.aload_n 0, 1) := by decide +kernel
theorem dX5_pass_326 : decode cX5_pass 326 = .ok (.getfield 7, 3) := by decide +kernel
theorem dX5_pass_329 : decode cX5_pass 329 = .ok (.if_icmp .ge 6, 3) := by decide +kernel
theorem dX5_pass_332 : decode cX5_pass 332 = .ok (.goto 21, 3) := by decide +kernel
theorem dX5_pass_335 : decode cX5_pass 335 = .ok (.aload 6, 2) := by decide +kernel
theorem dX5_pass_337 : decode cX5_pass 337 = .ok (.iconst 2, 1) := by decide +kernel
theorem dX5_pass_338 : decode cX5_pass 338 = .ok (.putfield 43, 3) := by decide +kernel
theorem dX5_pass_341 : decode cX5_pass 341 = .ok (.aload 6, 2) := by decide +kernel
theorem dX5_pass_343 : decode cX5_pass 343 = .ok (.aload_n 0, 1) := by decide +kernel
theorem dX5_pass_344 : decode cX5_pass 344 = .ok (.getfield 26, 3) := by decide +kernel
theorem dX5_pass_347 : decode cX5_pass 347 = .ok (.putfield 49, 3) := by decide +kernel
theorem dX5_pass_350 : decode cX5_pass 350 = .ok (.iinc 1 1, 3) := by decide +kernel
theorem dX5_pass_353 : decode cX5_pass 353 = .ok (.iinc 5 1, 3) := by decide +kernel
theorem dX5_pass_356 : decode cX5_pass 356 = .ok (.goto (-58), 3) := by decide +kernel
theorem dX5_pass_359 : decode cX5_pass 359 = .ok (.aload_n 0, 1) := by decide +kernel
theorem dX5_pass_360 : decode cX5_pass 360 = .ok (.getfield 19, 3) := by decide +kernel
theorem dX5_pass_363 : decode cX5_pass 363 = .ok (.astore_n 2, 1) := by decide +kernel
theorem dX5_pass_364 : decode cX5_pass 364 = .ok (.aload_n 2, 1) := by decide +kernel
theorem dX5_pass_365 : decode cX5_pass 365 = .ok (.arraylength, 1) := by decide +kernel
theorem dX5_pass_366 : decode cX5_pass 366 = .ok (.istore_n 3, 1) := by decide +kernel
theorem dX5_pass_367 : decode cX5_pass 367 = .ok (.iconst 0, 1) := by decide +kernel
theorem dX5_pass_368 : decode cX5_pass 368 = .ok (.istore 4, 2) := by decide +kernel
theorem dX5_pass_370 : decode cX5_pass 370 = .ok (.iload 4, 2) := by decide +kernel
theorem dX5_pass_372 : decode cX5_pass 372 = .ok (.iload_n 3, 1) := by decide +kernel
theorem dX5_pass_373 : decode cX5_pass 373 = .ok (.if_icmp .ge 58, 3) := by decide +kernel
theorem dX5_pass_376 : decode cX5_pass 376 = .ok (.aload_n 2, 1) := by decide +kernel
theorem dX5_pass_377 : decode cX5_pass 377 = .ok (.iload 4, 2) := by decide +kernel
theorem dX5_pass_379 : decode cX5_pass 379 = .ok (.aaload, 1) := by decide +kernel
theorem dX5_pass_380 : decode cX5_pass 380 = .ok (.astore 5, 2) := by decide +kernel
theorem dX5_pass_382 : decode cX5_pass 382 = .ok (.aload_n 0, 1) := by decide +kernel
theorem dX5_pass_383 : decode cX5_pass 383 = .ok (.getfield 34, 3) := by decide +kernel
theorem dX5_pass_386 : decode cX5_pass 386 = .ok (.iconst 5, 1) := by decide +kernel
theorem dX5_pass_387 : decode cX5_pass 387 = .ok (.irem, 1) := by decide +kernel
theorem dX5_pass_388 : decode cX5_pass 388 = .ok (.ifCond .ne 37, 3) := by decide +kernel
theorem dX5_pass_391 : decode cX5_pass 391 = .ok (.aload 5, 2) := by decide +kernel
theorem dX5_pass_393 : decode cX5_pass 393 = .ok (.getfield 40, 3) := by decide +kernel
theorem dX5_pass_396 : decode cX5_pass 396 = .ok (.ifCond .le 29, 3) := by decide +kernel
theorem dX5_pass_399 : decode cX5_pass 399 = .ok (.aload_n 0, 1) := by decide +kernel
theorem dX5_pass_400 : decode cX5_pass 400 = .ok (.getfield 26, 3) := by decide +kernel
theorem dX5_pass_403 : decode cX5_pass 403 = .ok (.ifCond .lt 11, 3) := by decide +kernel
theorem dX5_pass_406 : decode cX5_pass 406 = .ok (.aload 5, 2) := by decide +kernel
theorem dX5_pass_408 : decode cX5_pass 408 = .ok (.getfield 43, 3) := by decide +kernel
theorem dX5_pass_411 : decode cX5_pass 411 = .ok (.ifCond .ne 14, 3) := by decide +kernel
theorem dX5_pass_414 : decode cX5_pass 414 = .ok (.aload 5, 2) := by decide +kernel
theorem dX5_pass_416 : decode cX5_pass 416 = .ok (.dup, 1) := by decide +kernel
theorem dX5_pass_417 : decode cX5_pass 417 = .ok (.getfield 40, 3) := by decide +kernel
theorem dX5_pass_420 : decode cX5_pass 420 = .ok (.iconst 1, 1) := by decide +kernel
theorem dX5_pass_421 : decode cX5_pass 421 = .ok (.isub, 1) := by decide +kernel
theorem dX5_pass_422 : decode cX5_pass 422 = .ok (.putfield 40, 3) := by decide +kernel
theorem dX5_pass_425 : decode cX5_pass 425 = .ok (.iinc 4 1, 3) := by decide +kernel
theorem dX5_pass_428 : decode cX5_pass 428 = .ok (.goto (-58), 3) := by decide +kernel
theorem dX5_pass_431 : decode cX5_pass 431 = .ok (.aload_n 0, 1) := by decide +kernel
theorem dX5_pass_432 : decode cX5_pass 432 = .ok (.dup, 1) := by decide +kernel
theorem dX5_pass_433 : decode cX5_pass 433 = .ok (.getfield 34, 3) := by decide +kernel
theorem dX5_pass_436 : decode cX5_pass 436 = .ok (.iconst 1, 1) := by decide +kernel
theorem dX5_pass_437 : decode cX5_pass 437 = .ok (.iadd, 1) := by decide +kernel
theorem dX5_pass_438 : decode cX5_pass 438 = .ok (.putfield 34, 3) := by decide +kernel
theorem dX5_pass_441 : decode cX5_pass 441 = .ok (.aload_n 0, 1) := by decide +kernel
theorem dX5_pass_442 : decode cX5_pass 442 = .ok (.getfield 26, 3) := by decide +kernel
theorem dX5_pass_445 : decode cX5_pass 445 = .ok (.ifCond .lt 7, 3) := by decide +kernel
theorem dX5_pass_448 : decode cX5_pass 448 = .ok (.iconst 1, 1) := by decide +kernel
theorem dX5_pass_449 : decode cX5_pass 449 = .ok (.goto 4, 3) := by decide +kernel
theorem dX5_pass_452 : decode cX5_pass 452 = .ok (.iconst 0, 1) := by decide +kernel
theorem dX5_pass_453 : decode cX5_pass 453 = .ok (.istore_n 2, 1) := by decide +kernel
theorem dX5_pass_454 : decode cX5_pass 454 = .ok (.aload_n 0, 1) := by decide +kernel
theorem dX5_pass_455 : decode cX5_pass 455 = .ok (.getfield 19, 3) := by decide +kernel
theorem dX5_pass_458 : decode cX5_pass 458 = .ok (.astore_n 3, 1) := by decide +kernel
theorem dX5_pass_459 : decode cX5_pass 459 = .ok (.aload_n 3, 1) := by decide +kernel
theorem dX5_pass_460 : decode cX5_pass 460 = .ok (.arraylength, 1) := by decide +kernel
theorem dX5_pass_461 : decode cX5_pass 461 = .ok (.istore 4, 2) := by decide +kernel
theorem dX5_pass_463 : decode cX5_pass 463 = .ok (.iconst 0, 1) := by decide +kernel
theorem dX5_pass_464 : decode cX5_pass 464 = .ok (.istore 5, 2) := by decide +kernel
theorem dX5_pass_466 : decode cX5_pass 466 = .ok (.iload 5, 2) := by decide +kernel
theorem dX5_pass_468 : decode cX5_pass 468 = .ok (.iload 4, 2) := by decide +kernel
theorem dX5_pass_470 : decode cX5_pass 470 = .ok (.if_icmp .ge 43, 3) := by decide +kernel
theorem dX5_pass_473 : decode cX5_pass 473 = .ok (.aload_n 3, 1) := by decide +kernel
theorem dX5_pass_474 : decode cX5_pass 474 = .ok (.iload 5, 2) := by decide +kernel
theorem dX5_pass_476 : decode cX5_pass 476 = .ok (.aaload, 1) := by decide +kernel
theorem dX5_pass_477 : decode cX5_pass 477 = .ok (.astore 6, 2) := by decide +kernel
theorem dX5_pass_479 : decode cX5_pass 479 = .ok (.iload_n 2, 1) := by decide +kernel
theorem dX5_pass_480 : decode cX5_pass 480 = .ok (.ifCond .eq 25, 3) := by decide +kernel
theorem dX5_pass_483 : decode cX5_pass 483 = .ok (.aload 6, 2) := by decide +kernel
theorem dX5_pass_485 : decode cX5_pass 485 = .ok (.getfield 43, 3) := by decide +kernel
theorem dX5_pass_488 : decode cX5_pass 488 = .ok (.iconst 1, 1) := by decide +kernel
theorem dX5_pass_489 : decode cX5_pass 489 = .ok (.if_icmp .ne 12, 3) := by decide +kernel
theorem dX5_pass_492 : decode cX5_pass 492 = .ok (.aload_n 0, 1) := by decide +kernel
theorem dX5_pass_493 : decode cX5_pass 493 = .ok (.getfield 26, 3) := by decide +kernel
theorem dX5_pass_496 : decode cX5_pass 496 = .ok (.bipush 60, 2) := by decide +kernel
theorem dX5_pass_498 : decode cX5_pass 498 = .ok (.if_icmp .ne 7, 3) := by decide +kernel
theorem dX5_pass_501 : decode cX5_pass 501 = .ok (.iconst 1, 1) := by decide +kernel
theorem dX5_pass_502 : decode cX5_pass 502 = .ok (.goto 4, 3) := by decide +kernel
theorem dX5_pass_505 : decode cX5_pass 505 = .ok (.iconst 0, 1) := by decide +kernel
theorem dX5_pass_506 : decode cX5_pass 506 = .ok (.istore_n 2, 1) := by decide +kernel
theorem dX5_pass_507 : decode cX5_pass 507 = .ok (.iinc 5 1, 3) := by decide +kernel
theorem dX5_pass_510 : decode cX5_pass 510 = .ok (.goto (-44), 3) := by decide +kernel
theorem dX5_pass_513 : decode cX5_pass 513 = .ok (.iload_n 2, 1) := by decide +kernel
theorem dX5_pass_514 : decode cX5_pass 514 = .ok (.ifCond .eq 8, 3) := by decide +kernel
theorem dX5_pass_517 : decode cX5_pass 517 = .ok (.aload_n 0, 1) := by decide +kernel
theorem dX5_pass_518 : decode cX5_pass 518 = .ok (.invokevirtual 76, 3) := by decide +kernel
theorem dX5_pass_521 : decode cX5_pass 521 = .ok (.pop, 1) := by decide +kernel
theorem dX5_pass_522 : decode cX5_pass 522 = .ok (.iload_n 1, 1) := by decide +kernel
theorem dX5_pass_523 : decode cX5_pass 523 = .ok (.ireturn, 1) := by decide +kernel
theorem dX5_finish_0 : decode cX5_finish 0 = .ok (.aload_n 0, 1) := by decide +kernel
theorem dX5_finish_1 : decode cX5_finish 1 = .ok (.iconst (-1), 1) := by decide +kernel
theorem dX5_finish_2 : decode cX5_finish 2 = .ok (.putfield 26, 3) := by decide +kernel
theorem dX5_finish_5 : decode cX5_finish 5 = .ok (.iconst (-1), 1) := by decide +kernel
theorem dX5_finish_6 : decode cX5_finish 6 = .ok (.istore_n 1, 1) := by decide +kernel
theorem dX5_finish_7 : decode cX5_finish 7 = .ok (.aload_n 0, 1) := by decide +kernel
theorem dX5_finish_8 : decode cX5_finish 8 = .ok (.getfield 19, 3) := by decide +kernel
theorem dX5_finish_11 : decode cX5_finish 11 = .ok (.arraylength, 1) := by decide +kernel
theorem dX5_finish_12 : decode cX5_finish 12 = .ok (.newarray .boolean, 2) := by decide +kernel
theorem dX5_finish_14 : decode cX5_finish 14 = .ok (.astore_n 2, 1) := by decide +kernel
theorem dX5_finish_15 : decode cX5_finish 15 = .ok (.iconst 0, 1) := by decide +kernel
theorem dX5_finish_16 : decode cX5_finish 16 = .ok (.istore_n 3, 1) := by decide +kernel
theorem dX5_finish_17 : decode cX5_finish 17 = .ok (.iload_n 3, 1) := by decide +kernel
theorem dX5_finish_18 : decode cX5_finish 18 = .ok (.aload_n 0, 1) := by decide +kernel
theorem dX5_finish_19 : decode cX5_finish 19 = .ok (.getfield 19, 3) := by decide +kernel
theorem dX5_finish_22 : decode cX5_finish 22 = .ok (.arraylength, 1) := by decide +kernel
theorem dX5_finish_23 : decode cX5_finish 23 = .ok (.if_icmp .ge 176, 3) := by decide +kernel
theorem dX5_finish_26 : decode cX5_finish 26 = .ok (.iconst (-1), 1) := by decide +kernel
theorem dX5_finish_27 : decode cX5_finish 27 = .ok (.istore 4, 2) := by decide +kernel
theorem dX5_finish_29 : decode cX5_finish 29 = .ok (.iconst 0, 1) := by decide +kernel
theorem dX5_finish_30 : decode cX5_finish 30 = .ok (.istore 5, 2) := by decide +kernel
theorem dX5_finish_32 : decode cX5_finish 32 = .ok (.iload 5, 2) := by decide +kernel
theorem dX5_finish_34 : decode cX5_finish 34 = .ok (.aload_n 0, 1) := by decide +kernel
theorem dX5_finish_35 : decode cX5_finish 35 = .ok (.getfield 19, 3) := by decide +kernel
theorem dX5_finish_38 : decode cX5_finish 38 = .ok (.arraylength, 1) := by decide +kernel
theorem dX5_finish_39 : decode cX5_finish 39 = .ok (.if_icmp .ge 91, 3) := by decide +kernel
theorem dX5_finish_42 : decode cX5_finish 42 = .ok (.aload_n 2, 1) := by decide +kernel
theorem dX5_finish_43 : decode cX5_finish 43 = .ok (.iload 5, 2) := by decide +kernel
theorem dX5_finish_45 : decode cX5_finish 45 = .ok (.baload, 1) := by decide +kernel
theorem dX5_finish_46 : decode cX5_finish 46 = .ok (.ifCond .ne 78, 3) := by decide +kernel
theorem dX5_finish_49 : decode cX5_finish 49 = .ok (.aload_n 0, 1) := by decide +kernel
theorem dX5_finish_50 : decode cX5_finish 50 = .ok (.getfield 19, 3) := by decide +kernel
theorem dX5_finish_53 : decode cX5_finish 53 = .ok (.iload 5, 2) := by decide +kernel
theorem dX5_finish_55 : decode cX5_finish 55 = .ok (.aaload, 1) := by decide +kernel
theorem dX5_finish_56 : decode cX5_finish 56 = .ok (.getfield 43, 3) := by decide +kernel
theorem dX5_finish_59 : decode cX5_finish 59 = .ok (.iconst 2, 1) := by decide +kernel
theorem dX5_finish_60 : decode cX5_finish 60 = .ok (.if_icmp .eq 6, 3) := by decide +kernel
theorem dX5_finish_63 : decode cX5_finish 63 = .ok (.goto 61, 3) := by decide +kernel
theorem dX5_finish_66 : decode cX5_finish 66 = .ok (.iload 4, 2) := by decide +kernel
theorem dX5_finish_68 : decode cX5_finish 68 = .ok (.ifCond .lt 52, 3) := by decide +kernel
theorem dX5_finish_71 : decode cX5_finish 71 = .ok (.aload_n 0, 1) := by decide +kernel
theorem dX5_finish_72 : decode cX5_finish 72 = .ok (.getfield 19, 3) := by decide +kernel
theorem dX5_finish_75 : decode cX5_finish 75 = .ok (.iload 5, 2) := by decide +kernel
theorem dX5_finish_77 : decode cX5_finish 77 = .ok (.aaload, 1) := by decide +kernel
theorem dX5_finish_78 : decode cX5_finish 78 = .ok (.getfield 49, 3) := by decide +kernel
theorem dX5_finish_81 : decode cX5_finish 81 = .ok (.iconst 3, 1) := by decide +kernel
theorem dX5_finish_82 : decode cX5_finish 82 = .ok (.aload_n 0, 1) := by decide +kernel
theorem dX5_finish_83 : decode cX5_finish 83 = .ok (.getfield 19, 3) := by decide +kernel
theorem dX5_finish_86 : decode cX5_finish 86 = .ok (.iload 5, 2) := by decide +kernel
theorem dX5_finish_88 : decode cX5_finish 88 = .ok (.aaload, 1) := by decide +kernel
theorem dX5_finish_89 : decode cX5_finish 89 = .ok (.getfield 52, 3) := by decide +kernel
theorem dX5_finish_92 : decode cX5_finish 92 = .ok (.imul, 1) := by decide +kernel
theorem dX5_finish_93 : decode cX5_finish 93 = .ok (.iadd, 1) := by decide +kernel
theorem dX5_finish_94 : decode cX5_finish 94 = .ok (.aload_n 0, 1) := by decide +kernel
theorem dX5_finish_95 : decode cX5_finish 95 = .ok (.getfield 19, 3) := by decide +kernel
theorem dX5_finish_98 : decode cX5_finish 98 = .ok (.iload 4, 2) := by decide +kernel
theorem dX5_finish_100 : decode cX5_finish 100 = .ok (.aaload, 1) := by decide +kernel
theorem dX5_finish_101 : decode cX5_finish 101 = .ok (.getfield 49, 3) := by decide +kernel
theorem dX5_finish_104 : decode cX5_finish 104 = .ok (.iconst 3, 1) := by decide +kernel
theorem dX5_finish_105 : decode cX5_finish 105 = .ok (.aload_n 0, 1) := by decide +kernel
theorem dX5_finish_106 : decode cX5_finish 106 = .ok (.getfield 19, 3) := by decide +kernel
theorem dX5_finish_109 : decode cX5_finish 109 = .ok (.iload 4, 2) := by decide +kernel
theorem dX5_finish_111 : decode cX5_finish 111 = .ok (.aaload, 1) := by decide +kernel
theorem dX5_finish_112 : decode cX5_finish 112 = .ok (.getfield 52, 3) := by decide +kernel
theorem dX5_finish_115 : decode cX5_finish 115 = .ok (.imul, 1) := by decide +kernel
theorem dX5_finish_116 : decode cX5_finish 116 = .ok (.iadd, 1) := by decide +kernel
theorem dX5_finish_117 : decode cX5_finish 117 = .ok (.if_icmp .ge 7, 3) := by decide +kernel
theorem dX5_finish_120 : decode cX5_finish 120 = .ok (.iload 5, 2) := by decide +kernel
theorem dX5_finish_122 : decode cX5_finish 122 = .ok (.istore 4, 2) := by decide +kernel
theorem dX5_finish_124 : decode cX5_finish 124 = .ok (.iinc 5 1, 3) := by decide +kernel
theorem dX5_finish_127 : decode cX5_finish 127 = .ok (.goto (-95), 3) := by decide +kernel
theorem dX5_finish_130 : decode cX5_finish 130 = .ok (.iload 4, 2) := by decide +kernel
theorem dX5_finish_132 : decode cX5_finish 132 = .ok (.ifCond .ge 6, 3) := by decide +kernel
theorem dX5_finish_135 : decode cX5_finish 135 = .ok (.goto 64, 3) := by decide +kernel
theorem dX5_finish_138 : decode cX5_finish 138 = .ok (.aload_n 2, 1) := by decide +kernel
theorem dX5_finish_139 : decode cX5_finish 139 = .ok (.iload 4, 2) := by decide +kernel
theorem dX5_finish_141 : decode cX5_finish 141 = .ok (.iconst 1, 1) := by decide +kernel
theorem dX5_finish_142 : decode cX5_finish 142 = .ok (.bastore, 1) := by decide +kernel
theorem dX5_finish_143 : decode cX5_finish 143 = .ok (.iload_n 3, 1) := by decide +kernel
theorem dX5_finish_144 : decode cX5_finish 144 = .ok (.ifCond .ne 6, 3) := by decide +kernel
theorem dX5_finish_147 : decode cX5_finish 147 = .ok (.iload 4, 2) := by decide +kernel
theorem dX5_finish_149 : decode cX5_finish 149 = .ok (.istore_n 1, 1) := by decide +kernel
theorem dX5_finish_150 : decode cX5_finish 150 = .ok (.aload_n 0, 1) := by decide +kernel
theorem dX5_finish_151 : decode cX5_finish 151 = .ok (.getfield 19, 3) := by decide +kernel
theorem dX5_finish_154 : decode cX5_finish 154 = .ok (.iload 4, 2) := by decide +kernel
theorem dX5_finish_156 : decode cX5_finish 156 = .ok (.aaload, 1) := by decide +kernel
theorem dX5_finish_157 : decode cX5_finish 157 = .ok (.dup, 1) := by decide +kernel
theorem dX5_finish_158 : decode cX5_finish 158 = .ok (.getfield 79, 3) := by decide +kernel
theorem dX5_finish_161 : decode cX5_finish 161 = .ok (.iload_n 3, 1) := by decide +kernel
theorem dX5_finish_162 : decode cX5_finish 162 = .ok (.ifCond .ne 8, 3) := by decide +kernel
theorem dX5_finish_165 : decode cX5_finish 165 = .ok (.bipush 8, 2) := by decide +kernel
theorem dX5_finish_167 : decode cX5_finish 167 = .ok (.goto 22, 3) := by decide +kernel
theorem dX5_finish_170 : decode cX5_finish 170 = .ok (.iload_n 3, 1) := by decide +kernel
theorem dX5_finish_171 : decode cX5_finish 171 = .ok (.iconst 1, 1) := by decide +kernel
theorem dX5_finish_172 : decode cX5_finish 172 = .ok (.if_icmp .ne 7, 3) := by decide +kernel
theorem dX5_finish_175 : decode cX5_finish 175 = .ok (.iconst 5, 1) := by decide +kernel
theorem dX5_finish_176 : decode cX5_finish 176 = .ok (.goto 13, 3) := by decide +kernel
theorem dX5_finish_179 : decode cX5_finish 179 = .ok (.iload_n 3, 1) := by decide +kernel
theorem dX5_finish_180 : decode cX5_finish 180 = .ok (.iconst 2, 1) := by decide +kernel
theorem dX5_finish_181 : decode cX5_finish 181 = .ok (.if_icmp .ne 7, 3) := by decide +kernel
theorem dX5_finish_184 : decode cX5_finish 184 = .ok (.iconst 3, 1) := by decide +kernel
theorem dX5_finish_185 : decode cX5_finish 185 = .ok (.goto 4, 3) := by decide +kernel
theorem dX5_finish_188 : decode cX5_finish 188 = .ok (.iconst 1, 1) := by decide +kernel
theorem dX5_finish_189 : decode cX5_finish 189 = .ok (.iadd, 1) := by decide +kernel
theorem dX5_finish_190 : decode cX5_finish 190 = .ok (.putfield 79, 3) := by decide +kernel
theorem dX5_finish_193 : decode cX5_finish 193 = .ok (.iinc 3 1, 3) := by decide +kernel
theorem dX5_finish_196 : decode cX5_finish 196 = .ok (.goto (-179), 3) := by decide +kernel
theorem dX5_finish_199 : decode cX5_finish 199 = .ok (.iload_n 1, 1) := by decide +kernel
theorem dX5_finish_200 : decode cX5_finish 200 = .ok (.ireturn, 1) := by decide +kernel
set_option maxRecDepth 20000 in
theorem ggX5_isSame_X5_wind : GoodIn wsX5_isSame wsX5_wind := goodIn_r _ [21, 22, 15, 200, 201, 202, 203, 204, 205, 206] (by decide +kernel) (by decide +kernel)
set_option maxRecDepth 20000 in
theorem gX5_isSame_X5_wind : GoodIn wsX5_isSame (wsV RX5 62 RX5 yX5_wind wsX5_wind) := goodIn_app (goodIn_of _ (by decide +kernel)) ggX5_isSame_X5_wind
set_option maxRecDepth 20000 in
theorem ggX5_isSame_X4_heel : GoodIn wsX5_isSame wsX4_heel := goodIn_r _ [27, 28, 29, 30, 31, 32, 26, 33, 34, 207, 208, 209, 210, 211, 212, 213, 214, 215, 216] (by decide +kernel) (by decide +kernel)
set_option maxRecDepth 20000 in
theorem gX5_isSame_X4_heel : GoodIn wsX5_isSame (wsV RX5 65 RX4 yX4_heel wsX4_heel) := goodIn_app (goodIn_of _ (by decide +kernel)) ggX5_isSame_X4_heel
set_option maxRecDepth 20000 in
theorem ggX5_isSame_X4_speed : GoodIn wsX5_isSame wsX4_speed := goodIn_r _ [38, 29, 28, 30, 31, 32, 26, 33, 34, 207, 208, 209, 210, 211, 212, 213, 214, 215, 216] (by decide +kernel) (by decide +kernel)
set_option maxRecDepth 20000 in
theorem gX5_isSame_X4_speed : GoodIn wsX5_isSame (wsV RX5 69 RX4 yX4_speed wsX4_speed) := goodIn_app (goodIn_of _ (by decide +kernel)) ggX5_isSame_X4_speed
set_option maxRecDepth 20000 in
theorem ggX5_isSame_X3_told : GoodIn wsX5_isSame wsX3_told := goodIn_ca (goodIn_r _ [43, 44, 45, 46, 47, 48, 49, 50, 51, 42, 52, 53, 54, 55, 56, 57, 58, 59, 60, 61, 62, 63, 64, 65, 66, 67, 68, 69, 70, 71, 72, 73, 74, 75, 76, 77, 78, 79, 80, 81, 82, 83, 84, 85, 86, 87, 88, 89, 90, 91, 92, 93, 94, 95, 96, 97, 98, 99, 100, 101, 102, 103, 104, 105, 106, 107, 108, 109, 110, 111, 112, 113, 114, 115, 116, 117, 118, 119, 120, 121, 122, 123, 124, 125, 126, 127, 217, 218, 219, 220, 221, 222, 223, 224, 225, 226, 227, 228, 229, 230, 231, 232, 233, 234, 235, 236, 237, 238, 239, 240, 241, 242] (by decide +kernel) (by decide +kernel)) (goodIn_sub (fun _ h => List.mem_cons_of_mem _ (List.mem_append_left _ (List.mem_append_right _ h))) (by decide +kernel))
set_option maxRecDepth 20000 in
theorem gX5_isSame_X3_told : GoodIn wsX5_isSame (wsV RX5 91 RX3 yX3_told wsX3_told) := goodIn_app (goodIn_of _ (by decide +kernel)) ggX5_isSame_X3_told
set_option maxRecDepth 20000 in
theorem ggX5_isSame_X3_about : GoodIn wsX5_isSame wsX3_about := goodIn_ca (goodIn_r _ [131, 53, 132, 133, 134, 135, 136, 137, 49, 50, 51, 42, 52, 54, 55, 56, 57, 58, 59, 60, 61, 62, 63, 64, 65, 66, 67, 68, 69, 70, 71, 72, 73, 74, 75, 76, 77, 78, 79, 80, 81, 82, 83, 84, 85, 86, 87, 88, 228, 229, 230, 231, 232, 233, 234, 235, 236, 217, 218, 219, 220, 221, 222, 223, 224, 225, 226, 227, 237, 238, 239] (by decide +kernel) (by decide +kernel)) (goodIn_sub (fun _ h => List.mem_cons_of_mem _ (List.mem_append_left _ (List.mem_append_right _ h))) (by decide +kernel))
set_option maxRecDepth 20000 in
theorem gX5_isSame_X3_about : GoodIn wsX5_isSame (wsV RX5 97 RX3 yX3_about wsX3_about) := goodIn_app (goodIn_of _ (by decide +kernel)) ggX5_isSame_X3_about
set_option maxRecDepth 20000 in
theorem ggX5_isSame_X3_falls : GoodIn wsX5_isSame wsX3_falls := goodIn_ca (goodIn_ca (goodIn_r _ [141, 49, 50, 51, 42, 52, 53, 54, 55, 56, 57, 58, 59, 60, 61, 62, 63, 64, 65, 66, 67, 68, 69, 70, 71, 72, 73, 74, 75, 76, 77, 78, 79, 80, 81, 82, 83, 84, 142, 143, 144, 145, 146, 147, 105, 106, 107, 108, 109, 110, 111, 112, 113, 114, 115, 116, 117, 118, 119, 120, 228, 229, 230, 231, 232, 233, 234, 235, 236, 237, 238, 239, 217, 218, 219, 220, 221, 222, 223, 224, 225, 226, 227] (by decide +kernel) (by decide +kernel)) (goodIn_sub (fun _ h => List.mem_cons_of_mem _ (List.mem_append_left _ (List.mem_append_right _ h))) (by decide +kernel))) (goodIn_sub (fun _ h => List.mem_cons_of_mem _ (List.mem_append_right _ h)) (by decide +kernel))
set_option maxRecDepth 20000 in
theorem gX5_isSame_X3_falls : GoodIn wsX5_isSame (wsV RX5 100 RX3 yX3_falls wsX3_falls) := goodIn_app (goodIn_of _ (by decide +kernel)) ggX5_isSame_X3_falls
set_option maxRecDepth 20000 in
theorem ggX5_isSame_X3_count : GoodIn wsX5_isSame wsX3_count := goodIn_ca (goodIn_r _ [151, 53, 94, 54, 93, 152, 132, 153, 85, 86, 87, 42, 88, 60, 61, 89, 90, 91, 92, 95, 96, 97, 98, 99, 100, 101, 102, 103, 104, 62, 63, 64, 65, 66, 67, 154, 155, 156, 157, 158, 159, 160, 161, 162, 163, 69, 70, 71, 72, 73, 74, 75, 76, 77, 78, 79, 80, 81, 82, 83, 84, 164, 165, 166, 167, 168, 169, 170, 171, 172, 173, 228, 229, 230, 231, 232, 233, 234, 235, 236, 240, 241, 242, 237, 238, 239, 217, 218, 219, 220, 221, 222, 223, 224, 225, 226, 227] (by decide +kernel) (by decide +kernel)) (goodIn_sub (fun _ h => List.mem_cons_of_mem _ (List.mem_append_left _ (List.mem_append_right _ h))) (by decide +kernel))
set_option maxRecDepth 20000 in
theorem gX5_isSame_X3_count : GoodIn wsX5_isSame (wsV RX5 104 RX3 yX3_count wsX3_count) := goodIn_app (goodIn_of _ (by decide +kernel)) ggX5_isSame_X3_count
set_option maxRecDepth 20000 in
theorem ggX5_isSame_X3_ahead : GoodIn wsX5_isSame wsX3_ahead := goodIn_r _ [177, 53, 153, 178, 179, 180, 157, 181, 159, 160, 161, 182, 162, 63, 64, 65, 66, 67, 163, 69, 70, 71, 72, 73, 74, 75, 76, 77, 78, 79, 80, 81, 82, 83, 84, 228, 229, 230, 231, 232, 233, 234, 235, 236, 217, 218, 219, 220, 221, 222, 223, 224, 225, 226, 227, 237, 238, 239] (by decide +kernel) (by decide +kernel)
set_option maxRecDepth 20000 in
theorem gX5_isSame_X3_ahead : GoodIn wsX5_isSame (wsV RX5 107 RX3 yX3_ahead wsX3_ahead) := goodIn_app (goodIn_of _ (by decide +kernel)) ggX5_isSame_X3_ahead
set_option maxRecDepth 20000 in
theorem ggX5_isSame_X3_champion : GoodIn wsX5_isSame wsX3_champion := goodIn_r _ [186, 53, 187, 188, 189, 157, 190, 159, 160, 168, 173, 162, 63, 64, 65, 66, 67, 163, 69, 70, 71, 72, 73, 74, 75, 76, 77, 78, 79, 80, 81, 82, 83, 84, 228, 229, 230, 231, 232, 233, 234, 235, 236, 217, 218, 219, 220, 221, 222, 223, 224, 225, 226, 227, 237, 238, 239] (by decide +kernel) (by decide +kernel)
set_option maxRecDepth 20000 in
theorem gX5_isSame_X3_champion : GoodIn wsX5_isSame (wsV RX5 110 RX3 yX3_champion wsX3_champion) := goodIn_app (goodIn_of _ (by decide +kernel)) ggX5_isSame_X3_champion
set_option maxRecDepth 20000 in
theorem ggX5_isSame_X3_mean : GoodIn wsX5_isSame wsX3_mean := goodIn_r _ [194, 53, 54, 62, 63, 64, 65, 66, 67, 195, 196, 197, 157, 198, 159, 160, 199, 162, 163, 69, 70, 71, 72, 73, 74, 75, 76, 77, 78, 79, 80, 81, 82, 83, 84, 228, 229, 230, 231, 232, 233, 234, 235, 236, 237, 238, 239, 217, 218, 219, 220, 221, 222, 223, 224, 225, 226, 227] (by decide +kernel) (by decide +kernel)
set_option maxRecDepth 20000 in
theorem gX5_isSame_X3_mean : GoodIn wsX5_isSame (wsV RX5 113 RX3 yX3_mean wsX3_mean) := goodIn_app (goodIn_of _ (by decide +kernel)) ggX5_isSame_X3_mean
theorem dX5_isSame_0 : decode cX5_isSame 0 = .ok (.iconst 0, 1) := by decide +kernel
theorem dX5_isSame_1 : decode cX5_isSame 1 = .ok (.istore_n 2, 1) := by decide +kernel
theorem dX5_isSame_2 : decode cX5_isSame 2 = .ok (.iconst 0, 1) := by decide +kernel
theorem dX5_isSame_3 : decode cX5_isSame 3 = .ok (.istore_n 3, 1) := by decide +kernel
theorem dX5_isSame_4 : decode cX5_isSame 4 = .ok (.iconst 0, 1) := by decide +kernel
theorem dX5_isSame_5 : decode cX5_isSame 5 = .ok (.istore 4, 2) := by decide +kernel
theorem dX5_isSame_7 : decode cX5_isSame 7 = .ok (.iconst 0, 1) := by decide +kernel
theorem dX5_isSame_8 : decode cX5_isSame 8 = .ok (.istore 5, 2) := by decide +kernel
theorem dX5_isSame_10 : decode cX5_isSame 10 = .ok (.iconst (-1), 1) := by decide +kernel
theorem dX5_isSame_11 : decode cX5_isSame 11 = .ok (.istore 6, 2) := by decide +kernel
theorem dX5_isSame_13 : decode cX5_isSame 13 = .ok (.iconst (-1), 1) := by decide +kernel
theorem dX5_isSame_14 : decode cX5_isSame 14 = .ok (.istore 7, 2) := by decide +kernel
theorem dX5_isSame_16 : decode cX5_isSame 16 = .ok (.iconst 0, 1) := by decide +kernel
theorem dX5_isSame_17 : decode cX5_isSame 17 = .ok (.istore 8, 2) := by decide +kernel
theorem dX5_isSame_19 : decode cX5_isSame 19 = .ok (.iload 8, 2) := by decide +kernel
theorem dX5_isSame_21 : decode cX5_isSame 21 = .ok (.aload_n 0, 1) := by decide +kernel
theorem dX5_isSame_22 : decode cX5_isSame 22 = .ok (.getfield 19, 3) := by decide +kernel
theorem dX5_isSame_25 : decode cX5_isSame 25 = .ok (.arraylength, 1) := by decide +kernel
theorem dX5_isSame_26 : decode cX5_isSame 26 = .ok (.if_icmp .ge 425, 3) := by decide +kernel
theorem dX5_isSame_29 : decode cX5_isSame 29 = .ok (.aload_n 0, 1) := by decide +kernel
theorem dX5_isSame_30 : decode cX5_isSame 30 = .ok (.getfield 19, 3) := by decide +kernel
theorem dX5_isSame_33 : decode cX5_isSame 33 = .ok (.iload 8, 2) := by decide +kernel
theorem dX5_isSame_35 : decode cX5_isSame 35 = .ok (.aaload, 1) := by decide +kernel
theorem dX5_isSame_36 : decode cX5_isSame 36 = .ok (.astore 9, 2) := by decide +kernel
theorem dX5_isSame_38 : decode cX5_isSame 38 = .ok (.bipush 7, 2) := by decide +kernel
theorem dX5_isSame_40 : decode cX5_isSame 40 = .ok (.newarray .int, 2) := by decide +kernel
theorem dX5_isSame_42 : decode cX5_isSame 42 = .ok (.dup, 1) := by decide +kernel
theorem dX5_isSame_43 : decode cX5_isSame 43 = .ok (.iconst 0, 1) := by decide +kernel
theorem dX5_isSame_44 : decode cX5_isSame 44 = .ok (.aload 9, 2) := by decide +kernel
theorem dX5_isSame_46 : decode cX5_isSame 46 = .ok (.getfield 82, 3) := by decide +kernel
theorem dX5_isSame_49 : decode cX5_isSame 49 = .ok (.iastore, 1) := by decide +kernel
theorem dX5_isSame_50 : decode cX5_isSame 50 = .ok (.dup, 1) := by decide +kernel
theorem dX5_isSame_51 : decode cX5_isSame 51 = .ok (.iconst 1, 1) := by decide +kernel
theorem dX5_isSame_52 : decode cX5_isSame 52 = .ok (.aload 9, 2) := by decide +kernel
theorem dX5_isSame_54 : decode cX5_isSame 54 = .ok (.getfield 85, 3) := by decide +kernel
theorem dX5_isSame_57 : decode cX5_isSame 57 = .ok (.iastore, 1) := by decide +kernel
theorem dX5_isSame_58 : decode cX5_isSame 58 = .ok (.dup, 1) := by decide +kernel
theorem dX5_isSame_59 : decode cX5_isSame 59 = .ok (.iconst 2, 1) := by decide +kernel
theorem dX5_isSame_60 : decode cX5_isSame 60 = .ok (.aload 9, 2) := by decide +kernel
theorem dX5_isSame_62 : decode cX5_isSame 62 = .ok (.getfield 88, 3) := by decide +kernel
theorem dX5_isSame_65 : decode cX5_isSame 65 = .ok (.iastore, 1) := by decide +kernel
theorem dX5_isSame_66 : decode cX5_isSame 66 = .ok (.dup, 1) := by decide +kernel
theorem dX5_isSame_67 : decode cX5_isSame 67 = .ok (.iconst 3, 1) := by decide +kernel
theorem dX5_isSame_68 : decode cX5_isSame 68 = .ok (.aload 9, 2) := by decide +kernel
theorem dX5_isSame_70 : decode cX5_isSame 70 = .ok (.getfield 79, 3) := by decide +kernel
theorem dX5_isSame_73 : decode cX5_isSame 73 = .ok (.iastore, 1) := by decide +kernel
theorem dX5_isSame_74 : decode cX5_isSame 74 = .ok (.dup, 1) := by decide +kernel
theorem dX5_isSame_75 : decode cX5_isSame 75 = .ok (.iconst 4, 1) := by decide +kernel
theorem dX5_isSame_76 : decode cX5_isSame 76 = .ok (.aload 9, 2) := by decide +kernel
theorem dX5_isSame_78 : decode cX5_isSame 78 = .ok (.getfield 40, 3) := by decide +kernel
theorem dX5_isSame_81 : decode cX5_isSame 81 = .ok (.iastore, 1) := by decide +kernel
theorem dX5_isSame_82 : decode cX5_isSame 82 = .ok (.dup, 1) := by decide +kernel
theorem dX5_isSame_83 : decode cX5_isSame 83 = .ok (.iconst 5, 1) := by decide +kernel
theorem dX5_isSame_84 : decode cX5_isSame 84 = .ok (.aload 9, 2) := by decide +kernel
theorem dX5_isSame_86 : decode cX5_isSame 86 = .ok (.aload_n 0, 1) := by decide +kernel
theorem dX5_isSame_87 : decode cX5_isSame 87 = .ok (.invokevirtual 62, 3) := by decide +kernel
theorem dX5_isSame_90 : decode cX5_isSame 90 = .ok (.invokevirtual 65, 3) := by decide +kernel
theorem dX5_isSame_93 : decode cX5_isSame 93 = .ok (.iastore, 1) := by decide +kernel
theorem dX5_isSame_94 : decode cX5_isSame 94 = .ok (.dup, 1) := by decide +kernel
theorem dX5_isSame_95 : decode cX5_isSame 95 = .ok (.bipush 6, 2) := by decide +kernel
theorem dX5_isSame_97 : decode cX5_isSame 97 = .ok (.aload 9, 2) := by decide +kernel
theorem dX5_isSame_99 : decode cX5_isSame 99 = .ok (.aload_n 0, 1) := by decide +kernel
theorem dX5_isSame_100 : decode cX5_isSame 100 = .ok (.invokevirtual 62, 3) := by decide +kernel
theorem dX5_isSame_103 : decode cX5_isSame 103 = .ok (.invokevirtual 69, 3) := by decide +kernel
theorem dX5_isSame_106 : decode cX5_isSame 106 = .ok (.iastore, 1) := by decide +kernel
theorem dX5_isSame_107 : decode cX5_isSame 107 = .ok (.astore 10, 2) := by decide +kernel
theorem dX5_isSame_109 : decode cX5_isSame 109 = .ok (.iconst 0, 1) := by decide +kernel
theorem dX5_isSame_110 : decode cX5_isSame 110 = .ok (.istore 11, 2) := by decide +kernel
theorem dX5_isSame_112 : decode cX5_isSame 112 = .ok (.iload 11, 2) := by decide +kernel
theorem dX5_isSame_114 : decode cX5_isSame 114 = .ok (.bipush 7, 2) := by decide +kernel
theorem dX5_isSame_116 : decode cX5_isSame 116 = .ok (.if_icmp .ge 27, 3) := by decide +kernel
theorem dX5_isSame_119 : decode cX5_isSame 119 = .ok (.aload_n 1, 1) := by decide +kernel
theorem dX5_isSame_120 : decode cX5_isSame 120 = .ok (.iload 8, 2) := by decide +kernel
theorem dX5_isSame_122 : decode cX5_isSame 122 = .ok (.iload 11, 2) := by decide +kernel
theorem dX5_isSame_124 : decode cX5_isSame 124 = .ok (.invokevirtual 91, 3) := by decide +kernel
theorem dX5_isSame_127 : decode cX5_isSame 127 = .ok (.aload 10, 2) := by decide +kernel
theorem dX5_isSame_129 : decode cX5_isSame 129 = .ok (.iload 11, 2) := by decide +kernel
theorem dX5_isSame_131 : decode cX5_isSame 131 = .ok (.iaload, 1) := by decide +kernel
theorem dX5_isSame_132 : decode cX5_isSame 132 = .ok (.if_icmp .eq 5, 3) := by decide +kernel
theorem dX5_isSame_135 : decode cX5_isSame 135 = .ok (.iconst 0, 1) := by decide +kernel
theorem dX5_isSame_136 : decode cX5_isSame 136 = .ok (.ireturn, 1) := by decide +kernel
theorem dX5_isSame_137 : decode cX5_isSame 137 = .ok (.iinc 11 1, 3) := by decide +kernel
theorem dX5_isSame_140 : decode cX5_isSame 140 = .ok (.goto (-28), 3) := by decide +kernel
theorem dX5_isSame_143 : decode cX5_isSame 143 = .ok (.iconst 5, 1) := by decide +kernel
theorem dX5_isSame_144 : decode cX5_isSame 144 = .ok (.newarray .int, 2) := by decide +kernel
theorem dX5_isSame_146 : decode cX5_isSame 146 = .ok (.dup, 1) := by decide +kernel
theorem dX5_isSame_147 : decode cX5_isSame 147 = .ok (.iconst 0, 1) := by decide +kernel
theorem dX5_isSame_148 : decode cX5_isSame 148 = .ok (.aload 9, 2) := by decide +kernel
theorem dX5_isSame_150 : decode cX5_isSame 150 = .ok (.getfield 46, 3) := by decide +kernel
theorem dX5_isSame_153 : decode cX5_isSame 153 = .ok (.iastore, 1) := by decide +kernel
theorem dX5_isSame_154 : decode cX5_isSame 154 = .ok (.dup, 1) := by decide +kernel
theorem dX5_isSame_155 : decode cX5_isSame 155 = .ok (.iconst 1, 1) := by decide +kernel
theorem dX5_isSame_156 : decode cX5_isSame 156 = .ok (.aload 9, 2) := by decide +kernel
theorem dX5_isSame_158 : decode cX5_isSame 158 = .ok (.getfield 49, 3) := by decide +kernel
theorem dX5_isSame_161 : decode cX5_isSame 161 = .ok (.iastore, 1) := by decide +kernel
theorem dX5_isSame_162 : decode cX5_isSame 162 = .ok (.dup, 1) := by decide +kernel
theorem dX5_isSame_163 : decode cX5_isSame 163 = .ok (.iconst 2, 1) := by decide +kernel
theorem dX5_isSame_164 : decode cX5_isSame 164 = .ok (.aload 9, 2) := by decide +kernel
theorem dX5_isSame_166 : decode cX5_isSame 166 = .ok (.getfield 52, 3) := by decide +kernel
theorem dX5_isSame_169 : decode cX5_isSame 169 = .ok (.iastore, 1) := by decide +kernel
theorem dX5_isSame_170 : decode cX5_isSame 170 = .ok (.dup, 1) := by decide +kernel
theorem dX5_isSame_171 : decode cX5_isSame 171 = .ok (.iconst 3, 1) := by decide +kernel
theorem dX5_isSame_172 : decode cX5_isSame 172 = .ok (.aload 9, 2) := by decide +kernel
theorem dX5_isSame_174 : decode cX5_isSame 174 = .ok (.getfield 43, 3) := by decide +kernel
theorem dX5_isSame_177 : decode cX5_isSame 177 = .ok (.iconst 3, 1) := by decide +kernel
theorem dX5_isSame_178 : decode cX5_isSame 178 = .ok (.if_icmp .ne 7, 3) := by decide +kernel
theorem dX5_isSame_181 : decode cX5_isSame 181 = .ok (.iconst 0, 1) := by decide +kernel
theorem dX5_isSame_182 : decode cX5_isSame 182 = .ok (.goto 8, 3) := by decide +kernel
theorem dX5_isSame_185 : decode cX5_isSame 185 = .ok (.aload 9, 2) := by decide +kernel
theorem dX5_isSame_187 : decode cX5_isSame 187 = .ok (.getfield 55, 3) := by decide +kernel
theorem dX5_isSame_190 : decode cX5_isSame 190 = .ok (.iastore, 1) := by decide +kernel
theorem dX5_isSame_191 : decode cX5_isSame 191 = .ok (.dup, 1) := by decide +kernel
theorem dX5_isSame_192 : decode cX5_isSame 192 = .ok (.iconst 4, 1) := by decide +kernel
theorem dX5_isSame_193 : decode cX5_isSame 193 = .ok (.aload 9, 2) := by decide +kernel
theorem dX5_isSame_195 : decode cX5_isSame 195 = .ok (.getfield 43, 3) := by decide +kernel
theorem dX5_isSame_198 : decode cX5_isSame 198 = .ok (.iastore, 1) := by decide +kernel
theorem dX5_isSame_199 : decode cX5_isSame 199 = .ok (.astore 11, 2) := by decide +kernel
theorem dX5_isSame_201 : decode cX5_isSame 201 = .ok (.iconst 0, 1) := by decide +kernel
theorem dX5_isSame_202 : decode cX5_isSame 202 = .ok (.istore 12, 2) := by decide +kernel
theorem dX5_isSame_204 : decode cX5_isSame 204 = .ok (.iload 12, 2) := by decide +kernel
theorem dX5_isSame_206 : decode cX5_isSame 206 = .ok (.iconst 5, 1) := by decide +kernel
theorem dX5_isSame_207 : decode cX5_isSame 207 = .ok (.if_icmp .ge 38, 3) := by decide +kernel
theorem dX5_isSame_210 : decode cX5_isSame 210 = .ok (.aload_n 1, 1) := by decide +kernel
theorem dX5_isSame_211 : decode cX5_isSame 211 = .ok (.iload 8, 2) := by decide +kernel
theorem dX5_isSame_213 : decode cX5_isSame 213 = .ok (.iload 12, 2) := by decide +kernel
theorem dX5_isSame_215 : decode cX5_isSame 215 = .ok (.invokevirtual 97, 3) := by decide +kernel
theorem dX5_isSame_218 : decode cX5_isSame 218 = .ok (.aload_n 0, 1) := by decide +kernel
theorem dX5_isSame_219 : decode cX5_isSame 219 = .ok (.getfield 37, 3) := by decide +kernel
theorem dX5_isSame_222 : decode cX5_isSame 222 = .ok (.ifCond .ne 7, 3) := by decide +kernel
theorem dX5_isSame_225 : decode cX5_isSame 225 = .ok (.iconst (-1), 1) := by decide +kernel
theorem dX5_isSame_226 : decode cX5_isSame 226 = .ok (.goto 8, 3) := by decide +kernel
theorem dX5_isSame_229 : decode cX5_isSame 229 = .ok (.aload 11, 2) := by decide +kernel
theorem dX5_isSame_231 : decode cX5_isSame 231 = .ok (.iload 12, 2) := by decide +kernel
theorem dX5_isSame_233 : decode cX5_isSame 233 = .ok (.iaload, 1) := by decide +kernel
theorem dX5_isSame_234 : decode cX5_isSame 234 = .ok (.if_icmp .eq 5, 3) := by decide +kernel
theorem dX5_isSame_237 : decode cX5_isSame 237 = .ok (.iconst 0, 1) := by decide +kernel
theorem dX5_isSame_238 : decode cX5_isSame 238 = .ok (.ireturn, 1) := by decide +kernel
theorem dX5_isSame_239 : decode cX5_isSame 239 = .ok (.iinc 12 1, 3) := by decide +kernel
theorem dX5_isSame_242 : decode cX5_isSame 242 = .ok (.goto (-38), 3) := by decide +kernel
theorem dX5_isSame_245 : decode cX5_isSame 245 = .ok (.iconst 0, 1) := by decide +kernel
theorem dX5_isSame_246 : decode cX5_isSame 246 = .ok (.istore 12, 2) := by decide +kernel
theorem dX5_isSame_248 : decode cX5_isSame 248 = .ok (.iload 12, 2) := by decide +kernel
theorem dX5_isSame_250 : decode cX5_isSame 250 = .ok (.bipush 10, 2) := by decide +kernel
theorem dX5_isSame_252 : decode cX5_isSame 252 = .ok (.if_icmp .ge 39, 3) := by decide +kernel
theorem dX5_isSame_255 : decode cX5_isSame 255 = .ok (.aload_n 1, 1) := by decide +kernel
theorem dX5_isSame_256 : decode cX5_isSame 256 = .ok (.iload 8, 2) := by decide +kernel
theorem dX5_isSame_258 : decode cX5_isSame 258 = .ok (.iload 12, 2) := by decide +kernel
theorem dX5_isSame_260 : decode cX5_isSame 260 = .ok (.invokevirtual 100, 3) := by decide +kernel
theorem dX5_isSame_263 : decode cX5_isSame 263 = .ok (.aload 9, 2) := by decide +kernel
theorem dX5_isSame_265 : decode cX5_isSame 265 = .ok (.iload 12, 2) := by decide +kernel
theorem dX5_isSame_267 : decode cX5_isSame 267 = .ok (.invokevirtual 65, 3) := by decide +kernel
theorem dX5_isSame_270 : decode cX5_isSame 270 = .ok (.bipush 30, 2) := by decide +kernel
theorem dX5_isSame_272 : decode cX5_isSame 272 = .ok (.if_icmp .le 7, 3) := by decide +kernel
theorem dX5_isSame_275 : decode cX5_isSame 275 = .ok (.iconst 1, 1) := by decide +kernel
theorem dX5_isSame_276 : decode cX5_isSame 276 = .ok (.goto 4, 3) := by decide +kernel
theorem dX5_isSame_279 : decode cX5_isSame 279 = .ok (.iconst 0, 1) := by decide +kernel
theorem dX5_isSame_280 : decode cX5_isSame 280 = .ok (.if_icmp .eq 5, 3) := by decide +kernel
theorem dX5_isSame_283 : decode cX5_isSame 283 = .ok (.iconst 0, 1) := by decide +kernel
theorem dX5_isSame_284 : decode cX5_isSame 284 = .ok (.ireturn, 1) := by decide +kernel
theorem dX5_isSame_285 : decode cX5_isSame 285 = .ok (.iinc 12 3, 3) := by decide +kernel
theorem dX5_isSame_288 : decode cX5_isSame 288 = .ok (.goto (-40), 3) := by decide +kernel
theorem dX5_isSame_291 : decode cX5_isSame 291 = .ok (.iload_n 2, 1) := by decide +kernel
theorem dX5_isSame_292 : decode cX5_isSame 292 = .ok (.aload_n 0, 1) := by decide +kernel
theorem dX5_isSame_293 : decode cX5_isSame 293 = .ok (.getfield 26, 3) := by decide +kernel
theorem dX5_isSame_296 : decode cX5_isSame 296 = .ok (.ifCond .lt 16, 3) := by decide +kernel
theorem dX5_isSame_299 : decode cX5_isSame 299 = .ok (.aload 9, 2) := by decide +kernel
theorem dX5_isSame_301 : decode cX5_isSame 301 = .ok (.getfield 43, 3) := by decide +kernel
theorem dX5_isSame_304 : decode cX5_isSame 304 = .ok (.iconst 1, 1) := by decide +kernel
theorem dX5_isSame_305 : decode cX5_isSame 305 = .ok (.if_icmp .ne 7, 3) := by decide +kernel
theorem dX5_isSame_308 : decode cX5_isSame 308 = .ok (.iconst 1, 1) := by decide +kernel
theorem dX5_isSame_309 : decode cX5_isSame 309 = .ok (.goto 4, 3) := by decide +kernel
theorem dX5_isSame_312 : decode cX5_isSame 312 = .ok (.iconst 0, 1) := by decide +kernel
theorem dX5_isSame_313 : decode cX5_isSame 313 = .ok (.iadd, 1) := by decide +kernel
theorem dX5_isSame_314 : decode cX5_isSame 314 = .ok (.istore_n 2, 1) := by decide +kernel
theorem dX5_isSame_315 : decode cX5_isSame 315 = .ok (.iload_n 3, 1) := by decide +kernel
theorem dX5_isSame_316 : decode cX5_isSame 316 = .ok (.aload 9, 2) := by decide +kernel
theorem dX5_isSame_318 : decode cX5_isSame 318 = .ok (.getfield 79, 3) := by decide +kernel
theorem dX5_isSame_321 : decode cX5_isSame 321 = .ok (.iadd, 1) := by decide +kernel
theorem dX5_isSame_322 : decode cX5_isSame 322 = .ok (.istore_n 3, 1) := by decide +kernel
theorem dX5_isSame_323 : decode cX5_isSame 323 = .ok (.iload 4, 2) := by decide +kernel
theorem dX5_isSame_325 : decode cX5_isSame 325 = .ok (.aload 9, 2) := by decide +kernel
theorem dX5_isSame_327 : decode cX5_isSame 327 = .ok (.getfield 40, 3) := by decide +kernel
theorem dX5_isSame_330 : decode cX5_isSame 330 = .ok (.iadd, 1) := by decide +kernel
theorem dX5_isSame_331 : decode cX5_isSame 331 = .ok (.istore 4, 2) := by decide +kernel
theorem dX5_isSame_333 : decode cX5_isSame 333 = .ok (.iload 5, 2) := by decide +kernel
theorem dX5_isSame_335 : decode cX5_isSame 335 = .ok (.aload 9, 2) := by decide +kernel
theorem dX5_isSame_337 : decode cX5_isSame 337 = .ok (.getfield 88, 3) := by decide +kernel
theorem dX5_isSame_340 : decode cX5_isSame 340 = .ok (.iadd, 1) := by decide +kernel
theorem dX5_isSame_341 : decode cX5_isSame 341 = .ok (.istore 5, 2) := by decide +kernel
theorem dX5_isSame_343 : decode cX5_isSame 343 = .ok (.aload_n 0, 1) := by decide +kernel
theorem dX5_isSame_344 : decode cX5_isSame 344 = .ok (.getfield 26, 3) := by decide +kernel
theorem dX5_isSame_347 : decode cX5_isSame 347 = .ok (.ifCond .lt 48, 3) := by decide +kernel
theorem dX5_isSame_350 : decode cX5_isSame 350 = .ok (.aload 9, 2) := by decide +kernel
theorem dX5_isSame_352 : decode cX5_isSame 352 = .ok (.getfield 43, 3) := by decide +kernel
theorem dX5_isSame_355 : decode cX5_isSame 355 = .ok (.iconst 1, 1) := by decide +kernel
theorem dX5_isSame_356 : decode cX5_isSame 356 = .ok (.if_icmp .eq 12, 3) := by decide +kernel
theorem dX5_isSame_359 : decode cX5_isSame 359 = .ok (.aload 9, 2) := by decide +kernel
theorem dX5_isSame_361 : decode cX5_isSame 361 = .ok (.getfield 43, 3) := by decide +kernel
theorem dX5_isSame_364 : decode cX5_isSame 364 = .ok (.iconst 2, 1) := by decide +kernel
theorem dX5_isSame_365 : decode cX5_isSame 365 = .ok (.if_icmp .ne 30, 3) := by decide +kernel
theorem dX5_isSame_368 : decode cX5_isSame 368 = .ok (.iload 6, 2) := by decide +kernel
theorem dX5_isSame_370 : decode cX5_isSame 370 = .ok (.ifCond .lt 21, 3) := by decide +kernel
theorem dX5_isSame_373 : decode cX5_isSame 373 = .ok (.aload 9, 2) := by decide +kernel
theorem dX5_isSame_375 : decode cX5_isSame 375 = .ok (.getfield 46, 3) := by decide +kernel
theorem dX5_isSame_378 : decode cX5_isSame 378 = .ok (.aload_n 0, 1) := by decide +kernel
theorem dX5_isSame_379 : decode cX5_isSame 379 = .ok (.getfield 19, 3) := by decide +kernel
theorem dX5_isSame_382 : decode cX5_isSame 382 = .ok (.iload 6, 2) := by decide +kernel
theorem dX5_isSame_384 : decode cX5_isSame 384 = .ok (.aaload, 1) := by decide +kernel
theorem dX5_isSame_385 : decode cX5_isSame 385 = .ok (.getfield 46, 3) := by decide +kernel
theorem dX5_isSame_388 : decode cX5_isSame 388 = .ok (.if_icmp .le 7, 3) := by decide +kernel
theorem dX5_isSame_391 : decode cX5_isSame 391 = .ok (.iload 8, 2) := by decide +kernel
theorem dX5_isSame_393 : decode cX5_isSame 393 = .ok (.istore 6, 2) := by decide +kernel
theorem dX5_isSame_395 : decode cX5_isSame 395 = .ok (.iload 7, 2) := by decide +kernel
theorem dX5_isSame_397 : decode cX5_isSame 397 = .ok (.ifCond .lt 44, 3) := by decide +kernel
theorem dX5_isSame_400 : decode cX5_isSame 400 = .ok (.bipush 10, 2) := by decide +kernel
theorem dX5_isSame_402 : decode cX5_isSame 402 = .ok (.aload 9, 2) := by decide +kernel
theorem dX5_isSame_404 : decode cX5_isSame 404 = .ok (.getfield 79, 3) := by decide +kernel
theorem dX5_isSame_407 : decode cX5_isSame 407 = .ok (.imul, 1) := by decide +kernel
theorem dX5_isSame_408 : decode cX5_isSame 408 = .ok (.aload 9, 2) := by decide +kernel
theorem dX5_isSame_410 : decode cX5_isSame 410 = .ok (.getfield 40, 3) := by decide +kernel
theorem dX5_isSame_413 : decode cX5_isSame 413 = .ok (.isub, 1) := by decide +kernel
theorem dX5_isSame_414 : decode cX5_isSame 414 = .ok (.bipush 10, 2) := by decide +kernel
theorem dX5_isSame_416 : decode cX5_isSame 416 = .ok (.aload_n 0, 1) := by decide +kernel
theorem dX5_isSame_417 : decode cX5_isSame 417 = .ok (.getfield 19, 3) := by decide +kernel
theorem dX5_isSame_420 : decode cX5_isSame 420 = .ok (.iload 7, 2) := by decide +kernel
theorem dX5_isSame_422 : decode cX5_isSame 422 = .ok (.aaload, 1) := by decide +kernel
theorem dX5_isSame_423 : decode cX5_isSame 423 = .ok (.getfield 79, 3) := by decide +kernel
theorem dX5_isSame_426 : decode cX5_isSame 426 = .ok (.imul, 1) := by decide +kernel
theorem dX5_isSame_427 : decode cX5_isSame 427 = .ok (.aload_n 0, 1) := by decide +kernel
theorem dX5_isSame_428 : decode cX5_isSame 428 = .ok (.getfield 19, 3) := by decide +kernel
theorem dX5_isSame_431 : decode cX5_isSame 431 = .ok (.iload 7, 2) := by decide +kernel
theorem dX5_isSame_433 : decode cX5_isSame 433 = .ok (.aaload, 1) := by decide +kernel
theorem dX5_isSame_434 : decode cX5_isSame 434 = .ok (.getfield 40, 3) := by decide +kernel
theorem dX5_isSame_437 : decode cX5_isSame 437 = .ok (.isub, 1) := by decide +kernel
theorem dX5_isSame_438 : decode cX5_isSame 438 = .ok (.if_icmp .le 7, 3) := by decide +kernel
theorem dX5_isSame_441 : decode cX5_isSame 441 = .ok (.iload 8, 2) := by decide +kernel
theorem dX5_isSame_443 : decode cX5_isSame 443 = .ok (.istore 7, 2) := by decide +kernel
theorem dX5_isSame_445 : decode cX5_isSame 445 = .ok (.iinc 8 1, 3) := by decide +kernel
theorem dX5_isSame_448 : decode cX5_isSame 448 = .ok (.goto (-429), 3) := by decide +kernel
theorem dX5_isSame_451 : decode cX5_isSame 451 = .ok (.bipush 9, 2) := by decide +kernel
theorem dX5_isSame_453 : decode cX5_isSame 453 = .ok (.newarray .int, 2) := by decide +kernel
theorem dX5_isSame_455 : decode cX5_isSame 455 = .ok (.dup, 1) := by decide +kernel
theorem dX5_isSame_456 : decode cX5_isSame 456 = .ok (.iconst 0, 1) := by decide +kernel
theorem dX5_isSame_457 : decode cX5_isSame 457 = .ok (.aload_n 0, 1) := by decide +kernel
theorem dX5_isSame_458 : decode cX5_isSame 458 = .ok (.getfield 34, 3) := by decide +kernel
theorem dX5_isSame_461 : decode cX5_isSame 461 = .ok (.iastore, 1) := by decide +kernel
theorem dX5_isSame_462 : decode cX5_isSame 462 = .ok (.dup, 1) := by decide +kernel
theorem dX5_isSame_463 : decode cX5_isSame 463 = .ok (.iconst 1, 1) := by decide +kernel
theorem dX5_isSame_464 : decode cX5_isSame 464 = .ok (.aload_n 0, 1) := by decide +kernel
theorem dX5_isSame_465 : decode cX5_isSame 465 = .ok (.invokevirtual 62, 3) := by decide +kernel
theorem dX5_isSame_468 : decode cX5_isSame 468 = .ok (.iastore, 1) := by decide +kernel
theorem dX5_isSame_469 : decode cX5_isSame 469 = .ok (.dup, 1) := by decide +kernel
theorem dX5_isSame_470 : decode cX5_isSame 470 = .ok (.iconst 2, 1) := by decide +kernel
theorem dX5_isSame_471 : decode cX5_isSame 471 = .ok (.aload_n 0, 1) := by decide +kernel
theorem dX5_isSame_472 : decode cX5_isSame 472 = .ok (.getfield 19, 3) := by decide +kernel
theorem dX5_isSame_475 : decode cX5_isSame 475 = .ok (.arraylength, 1) := by decide +kernel
theorem dX5_isSame_476 : decode cX5_isSame 476 = .ok (.iastore, 1) := by decide +kernel
theorem dX5_isSame_477 : decode cX5_isSame 477 = .ok (.dup, 1) := by decide +kernel
theorem dX5_isSame_478 : decode cX5_isSame 478 = .ok (.iconst 3, 1) := by decide +kernel
theorem dX5_isSame_479 : decode cX5_isSame 479 = .ok (.aload_n 0, 1) := by decide +kernel
theorem dX5_isSame_480 : decode cX5_isSame 480 = .ok (.getfield 23, 3) := by decide +kernel
theorem dX5_isSame_483 : decode cX5_isSame 483 = .ok (.arraylength, 1) := by decide +kernel
theorem dX5_isSame_484 : decode cX5_isSame 484 = .ok (.iastore, 1) := by decide +kernel
theorem dX5_isSame_485 : decode cX5_isSame 485 = .ok (.dup, 1) := by decide +kernel
theorem dX5_isSame_486 : decode cX5_isSame 486 = .ok (.iconst 4, 1) := by decide +kernel
theorem dX5_isSame_487 : decode cX5_isSame 487 = .ok (.aload_n 0, 1) := by decide +kernel
theorem dX5_isSame_488 : decode cX5_isSame 488 = .ok (.getfield 37, 3) := by decide +kernel
theorem dX5_isSame_491 : decode cX5_isSame 491 = .ok (.iastore, 1) := by decide +kernel
theorem dX5_isSame_492 : decode cX5_isSame 492 = .ok (.dup, 1) := by decide +kernel
theorem dX5_isSame_493 : decode cX5_isSame 493 = .ok (.iconst 5, 1) := by decide +kernel
theorem dX5_isSame_494 : decode cX5_isSame 494 = .ok (.aload_n 0, 1) := by decide +kernel
theorem dX5_isSame_495 : decode cX5_isSame 495 = .ok (.getfield 26, 3) := by decide +kernel
theorem dX5_isSame_498 : decode cX5_isSame 498 = .ok (.ifCond .lt 7, 3) := by decide +kernel
theorem dX5_isSame_501 : decode cX5_isSame 501 = .ok (.iconst 1, 1) := by decide +kernel
theorem dX5_isSame_502 : decode cX5_isSame 502 = .ok (.goto 4, 3) := by decide +kernel
theorem dX5_isSame_505 : decode cX5_isSame 505 = .ok (.iconst 0, 1) := by decide +kernel
theorem dX5_isSame_506 : decode cX5_isSame 506 = .ok (.iastore, 1) := by decide +kernel
theorem dX5_isSame_507 : decode cX5_isSame 507 = .ok (.dup, 1) := by decide +kernel
theorem dX5_isSame_508 : decode cX5_isSame 508 = .ok (.bipush 6, 2) := by decide +kernel
theorem dX5_isSame_510 : decode cX5_isSame 510 = .ok (.iload_n 2, 1) := by decide +kernel
theorem dX5_isSame_511 : decode cX5_isSame 511 = .ok (.iastore, 1) := by decide +kernel
theorem dX5_isSame_512 : decode cX5_isSame 512 = .ok (.dup, 1) := by decide +kernel
theorem dX5_isSame_513 : decode cX5_isSame 513 = .ok (.bipush 7, 2) := by decide +kernel
theorem dX5_isSame_515 : decode cX5_isSame 515 = .ok (.iload_n 3, 1) := by decide +kernel
theorem dX5_isSame_516 : decode cX5_isSame 516 = .ok (.iastore, 1) := by decide +kernel
theorem dX5_isSame_517 : decode cX5_isSame 517 = .ok (.dup, 1) := by decide +kernel
theorem dX5_isSame_518 : decode cX5_isSame 518 = .ok (.bipush 8, 2) := by decide +kernel
theorem dX5_isSame_520 : decode cX5_isSame 520 = .ok (.iload 4, 2) := by decide +kernel
theorem dX5_isSame_522 : decode cX5_isSame 522 = .ok (.iastore, 1) := by decide +kernel
theorem dX5_isSame_523 : decode cX5_isSame 523 = .ok (.astore 8, 2) := by decide +kernel
theorem dX5_isSame_525 : decode cX5_isSame 525 = .ok (.iconst 0, 1) := by decide +kernel
theorem dX5_isSame_526 : decode cX5_isSame 526 = .ok (.istore 9, 2) := by decide +kernel
theorem dX5_isSame_528 : decode cX5_isSame 528 = .ok (.iload 9, 2) := by decide +kernel
theorem dX5_isSame_530 : decode cX5_isSame 530 = .ok (.bipush 9, 2) := by decide +kernel
theorem dX5_isSame_532 : decode cX5_isSame 532 = .ok (.if_icmp .ge 25, 3) := by decide +kernel
theorem dX5_isSame_535 : decode cX5_isSame 535 = .ok (.aload_n 1, 1) := by decide +kernel
theorem dX5_isSame_536 : decode cX5_isSame 536 = .ok (.iload 9, 2) := by decide +kernel
theorem dX5_isSame_538 : decode cX5_isSame 538 = .ok (.invokevirtual 104, 3) := by decide +kernel
theorem dX5_isSame_541 : decode cX5_isSame 541 = .ok (.aload 8, 2) := by decide +kernel
theorem dX5_isSame_543 : decode cX5_isSame 543 = .ok (.iload 9, 2) := by decide +kernel
theorem dX5_isSame_545 : decode cX5_isSame 545 = .ok (.iaload, 1) := by decide +kernel
theorem dX5_isSame_546 : decode cX5_isSame 546 = .ok (.if_icmp .eq 5, 3) := by decide +kernel
theorem dX5_isSame_549 : decode cX5_isSame 549 = .ok (.iconst 0, 1) := by decide +kernel
theorem dX5_isSame_550 : decode cX5_isSame 550 = .ok (.ireturn, 1) := by decide +kernel
theorem dX5_isSame_551 : decode cX5_isSame 551 = .ok (.iinc 9 1, 3) := by decide +kernel
theorem dX5_isSame_554 : decode cX5_isSame 554 = .ok (.goto (-26), 3) := by decide +kernel
theorem dX5_isSame_557 : decode cX5_isSame 557 = .ok (.aload_n 1, 1) := by decide +kernel
theorem dX5_isSame_558 : decode cX5_isSame 558 = .ok (.invokevirtual 107, 3) := by decide +kernel
theorem dX5_isSame_561 : decode cX5_isSame 561 = .ok (.iload 6, 2) := by decide +kernel
theorem dX5_isSame_563 : decode cX5_isSame 563 = .ok (.if_icmp .ne 46, 3) := by decide +kernel
theorem dX5_isSame_566 : decode cX5_isSame 566 = .ok (.aload_n 1, 1) := by decide +kernel
theorem dX5_isSame_567 : decode cX5_isSame 567 = .ok (.invokevirtual 110, 3) := by decide +kernel
theorem dX5_isSame_570 : decode cX5_isSame 570 = .ok (.iload 7, 2) := by decide +kernel
theorem dX5_isSame_572 : decode cX5_isSame 572 = .ok (.if_icmp .ne 37, 3) := by decide +kernel
theorem dX5_isSame_575 : decode cX5_isSame 575 = .ok (.aload_n 1, 1) := by decide +kernel
theorem dX5_isSame_576 : decode cX5_isSame 576 = .ok (.invokevirtual 113, 3) := by decide +kernel
theorem dX5_isSame_579 : decode cX5_isSame 579 = .ok (.aload_n 0, 1) := by decide +kernel
theorem dX5_isSame_580 : decode cX5_isSame 580 = .ok (.getfield 19, 3) := by decide +kernel
theorem dX5_isSame_583 : decode cX5_isSame 583 = .ok (.arraylength, 1) := by decide +kernel
theorem dX5_isSame_584 : decode cX5_isSame 584 = .ok (.ifCond .ne 7, 3) := by decide +kernel
theorem dX5_isSame_587 : decode cX5_isSame 587 = .ok (.dconst 0, 1) := by decide +kernel
theorem dX5_isSame_588 : decode cX5_isSame 588 = .ok (.goto 13, 3) := by decide +kernel
theorem dX5_isSame_591 : decode cX5_isSame 591 = .ok (.iload 5, 2) := by decide +kernel
theorem dX5_isSame_593 : decode cX5_isSame 593 = .ok (.i2d, 1) := by decide +kernel
theorem dX5_isSame_594 : decode cX5_isSame 594 = .ok (.aload_n 0, 1) := by decide +kernel
theorem dX5_isSame_595 : decode cX5_isSame 595 = .ok (.getfield 19, 3) := by decide +kernel
theorem dX5_isSame_598 : decode cX5_isSame 598 = .ok (.arraylength, 1) := by decide +kernel
theorem dX5_isSame_599 : decode cX5_isSame 599 = .ok (.i2d, 1) := by decide +kernel
theorem dX5_isSame_600 : decode cX5_isSame 600 = .ok (.ddiv, 1) := by decide +kernel
theorem dX5_isSame_601 : decode cX5_isSame 601 = .ok (.dcmp .l, 1) := by decide +kernel
theorem dX5_isSame_602 : decode cX5_isSame 602 = .ok (.ifCond .ne 7, 3) := by decide +kernel
theorem dX5_isSame_605 : decode cX5_isSame 605 = .ok (.iconst 1, 1) := by decide +kernel
theorem dX5_isSame_606 : decode cX5_isSame 606 = .ok (.goto 4, 3) := by decide +kernel
theorem dX5_isSame_609 : decode cX5_isSame 609 = .ok (.iconst 0, 1) := by decide +kernel
theorem dX5_isSame_610 : decode cX5_isSame 610 = .ok (.ireturn, 1) := by decide +kernel
