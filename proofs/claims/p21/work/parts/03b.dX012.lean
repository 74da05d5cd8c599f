theorem dX0_init_0 : decode cX0_init 0 = .ok (.aload_n 0, 1) := by decide +kernel
theorem dX0_init_1 : decode cX0_init 1 = .ok (.invokespecial 1, 3) := by decide +kernel
theorem dX0_init_4 : decode cX0_init 4 = .ok (.aload_n 0, 1) := by decide +kernel
theorem dX0_init_5 : decode cX0_init 5 = .ok (.iload_n 1, 1) := by decide +kernel
theorem dX0_init_6 : decode cX0_init 6 = .ok (.putfield 7, 3) := by decide +kernel
theorem dX0_init_9 : decode cX0_init 9 = .ok (.aload_n 0, 1) := by decide +kernel
theorem dX0_init_10 : decode cX0_init 10 = .ok (.iload_n 2, 1) := by decide +kernel
theorem dX0_init_11 : decode cX0_init 11 = .ok (.putfield 13, 3) := by decide +kernel
theorem dX0_init_14 : decode cX0_init 14 = .ok (.aload_n 0, 1) := by decide +kernel
theorem dX0_init_15 : decode cX0_init 15 = .ok (.iconst (-1), 1) := by decide +kernel
theorem dX0_init_16 : decode cX0_init 16 = .ok (.putfield 16, 3) := by decide +kernel
theorem dX0_init_19 : decode cX0_init 19 = .ok (.return_, 1) := by decide +kernel
theorem dX0_copyFrom_0 : decode cX0_copyFrom 0 = .ok (.aload_n 0, 1) := by decide +kernel
theorem dX0_copyFrom_1 : decode cX0_copyFrom 1 = .ok (.aload_n 1, 1) := by decide +kernel
theorem dX0_copyFrom_2 : decode cX0_copyFrom 2 = .ok (.getfield 7, 3) := by decide +kernel
theorem dX0_copyFrom_5 : decode cX0_copyFrom 5 = .ok (.putfield 7, 3) := by decide +kernel
theorem dX0_copyFrom_8 : decode cX0_copyFrom 8 = .ok (.aload_n 0, 1) := by decide +kernel
theorem dX0_copyFrom_9 : decode cX0_copyFrom 9 = .ok (.aload_n 1, 1) := by decide +kernel
theorem dX0_copyFrom_10 : decode cX0_copyFrom 10 = .ok (.getfield 13, 3) := by decide +kernel
theorem dX0_copyFrom_13 : decode cX0_copyFrom 13 = .ok (.putfield 13, 3) := by decide +kernel
theorem dX0_copyFrom_16 : decode cX0_copyFrom 16 = .ok (.aload_n 0, 1) := by decide +kernel
theorem dX0_copyFrom_17 : decode cX0_copyFrom 17 = .ok (.aload_n 1, 1) := by decide +kernel
theorem dX0_copyFrom_18 : decode cX0_copyFrom 18 = .ok (.getfield 19, 3) := by decide +kernel
theorem dX0_copyFrom_21 : decode cX0_copyFrom 21 = .ok (.putfield 19, 3) := by decide +kernel
theorem dX0_copyFrom_24 : decode cX0_copyFrom 24 = .ok (.aload_n 0, 1) := by decide +kernel
theorem dX0_copyFrom_25 : decode cX0_copyFrom 25 = .ok (.aload_n 1, 1) := by decide +kernel
theorem dX0_copyFrom_26 : decode cX0_copyFrom 26 = .ok (.getfield 22, 3) := by decide +kernel
theorem dX0_copyFrom_29 : decode cX0_copyFrom 29 = .ok (.putfield 22, 3) := by decide +kernel
theorem dX0_copyFrom_32 : decode cX0_copyFrom 32 = .ok (.aload_n 0, 1) := by decide +kernel
theorem dX0_copyFrom_33 : decode cX0_copyFrom 33 = .ok (.aload_n 1, 1) := by decide +kernel
theorem dX0_copyFrom_34 : decode cX0_copyFrom 34 = .ok (.getfield 25, 3) := by decide +kernel
theorem dX0_copyFrom_37 : decode cX0_copyFrom 37 = .ok (.putfield 25, 3) := by decide +kernel
theorem dX0_copyFrom_40 : decode cX0_copyFrom 40 = .ok (.aload_n 0, 1) := by decide +kernel
theorem dX0_copyFrom_41 : decode cX0_copyFrom 41 = .ok (.aload_n 1, 1) := by decide +kernel
theorem dX0_copyFrom_42 : decode cX0_copyFrom 42 = .ok (.getfield 28, 3) := by decide +kernel
theorem dX0_copyFrom_45 : decode cX0_copyFrom 45 = .ok (.putfield 28, 3) := by decide +kernel
theorem dX0_copyFrom_48 : decode cX0_copyFrom 48 = .ok (.aload_n 0, 1) := by decide +kernel
theorem dX0_copyFrom_49 : decode cX0_copyFrom 49 = .ok (.aload_n 1, 1) := by decide +kernel
theorem dX0_copyFrom_50 : decode cX0_copyFrom 50 = .ok (.getfield 16, 3) := by decide +kernel
theorem dX0_copyFrom_53 : decode cX0_copyFrom 53 = .ok (.putfield 16, 3) := by decide +kernel
theorem dX0_copyFrom_56 : decode cX0_copyFrom 56 = .ok (.aload_n 0, 1) := by decide +kernel
theorem dX0_copyFrom_57 : decode cX0_copyFrom 57 = .ok (.aload_n 1, 1) := by decide +kernel
theorem dX0_copyFrom_58 : decode cX0_copyFrom 58 = .ok (.getfield 31, 3) := by decide +kernel
theorem dX0_copyFrom_61 : decode cX0_copyFrom 61 = .ok (.putfield 31, 3) := by decide +kernel
theorem dX0_copyFrom_64 : decode cX0_copyFrom 64 = .ok (.aload_n 0, 1) := by decide +kernel
theorem dX0_copyFrom_65 : decode cX0_copyFrom 65 = .ok (.aload_n 1, 1) := by decide +kernel
theorem dX0_copyFrom_66 : decode cX0_copyFrom 66 = .ok (.getfield 34, 3) := by decide +kernel
theorem dX0_copyFrom_69 : decode cX0_copyFrom 69 = .ok (.putfield 34, 3) := by decide +kernel
theorem dX0_copyFrom_72 : decode cX0_copyFrom 72 = .ok (.aload_n 0, 1) := by decide +kernel
theorem dX0_copyFrom_73 : decode cX0_copyFrom 73 = .ok (.aload_n 1, 1) := by decide +kernel
theorem dX0_copyFrom_74 : decode cX0_copyFrom 74 = .ok (.getfield 37, 3) := by decide +kernel
theorem dX0_copyFrom_77 : decode cX0_copyFrom 77 = .ok (.putfield 37, 3) := by decide +kernel
theorem dX0_copyFrom_80 : decode cX0_copyFrom 80 = .ok (.aload_n 0, 1) := by decide +kernel
theorem dX0_copyFrom_81 : decode cX0_copyFrom 81 = .ok (.aload_n 1, 1) := by decide +kernel
theorem dX0_copyFrom_82 : decode cX0_copyFrom 82 = .ok (.getfield 40, 3) := by decide +kernel
theorem dX0_copyFrom_85 : decode cX0_copyFrom 85 = .ok (.putfield 40, 3) := by decide +kernel
theorem dX0_copyFrom_88 : decode cX0_copyFrom 88 = .ok (.return_, 1) := by decide +kernel
theorem dX0_pull_0 : decode cX0_pull 0 = .ok (.aload_n 0, 1) := by decide +kernel
theorem dX0_pull_1 : decode cX0_pull 1 = .ok (.getfield 13, 3) := by decide +kernel
theorem dX0_pull_4 : decode cX0_pull 4 = .ok (.lookupswitch 38 #[(0, 28), (1, 32)], 28) := by decide +kernel
theorem dX0_pull_32 : decode cX0_pull 32 = .ok (.iconst 3, 1) := by decide +kernel
theorem dX0_pull_33 : decode cX0_pull 33 = .ok (.iload_n 1, 1) := by decide +kernel
theorem dX0_pull_34 : decode cX0_pull 34 = .ok (.imul, 1) := by decide +kernel
theorem dX0_pull_35 : decode cX0_pull 35 = .ok (.ireturn, 1) := by decide +kernel
theorem dX0_pull_36 : decode cX0_pull 36 = .ok (.iload_n 1, 1) := by decide +kernel
theorem dX0_pull_37 : decode cX0_pull 37 = .ok (.iload_n 1, 1) := by decide +kernel
theorem dX0_pull_38 : decode cX0_pull 38 = .ok (.imul, 1) := by decide +kernel
theorem dX0_pull_39 : decode cX0_pull 39 = .ok (.iconst 2, 1) := by decide +kernel
theorem dX0_pull_40 : decode cX0_pull 40 = .ok (.idiv, 1) := by decide +kernel
theorem dX0_pull_41 : decode cX0_pull 41 = .ok (.ireturn, 1) := by decide +kernel
theorem dX0_pull_42 : decode cX0_pull 42 = .ok (.iload_n 1, 1) := by decide +kernel
theorem dX0_pull_43 : decode cX0_pull 43 = .ok (.ifCond .ne 7, 3) := by decide +kernel
theorem dX0_pull_46 : decode cX0_pull 46 = .ok (.iconst 0, 1) := by decide +kernel
theorem dX0_pull_47 : decode cX0_pull 47 = .ok (.goto 6, 3) := by decide +kernel
theorem dX0_pull_50 : decode cX0_pull 50 = .ok (.iconst 5, 1) := by decide +kernel
theorem dX0_pull_51 : decode cX0_pull 51 = .ok (.iload_n 1, 1) := by decide +kernel
theorem dX0_pull_52 : decode cX0_pull 52 = .ok (.iadd, 1) := by decide +kernel
theorem dX0_pull_53 : decode cX0_pull 53 = .ok (.ireturn, 1) := by decide +kernel
set_option maxRecDepth 20000 in
theorem ggX0_heel_X0_pull : GoodIn wsX0_heel wsX0_pull := goodIn_r _ [11, 12, 13, 14, 15, 16, 17, 18, 19, 20, 21, 22, 23] (by decide +kernel) (by decide +kernel)
set_option maxRecDepth 20000 in
theorem gX0_heel_X0_pull : GoodIn wsX0_heel (wsV RX0 44 RX0 yX0_pull wsX0_pull) := goodIn_app (goodIn_of _ (by decide +kernel)) ggX0_heel_X0_pull
theorem dX0_heel_0 : decode cX0_heel 0 = .ok (.iconst 0, 1) := by decide +kernel
theorem dX0_heel_1 : decode cX0_heel 1 = .ok (.iconst 4, 1) := by decide +kernel
theorem dX0_heel_2 : decode cX0_heel 2 = .ok (.aload_n 0, 1) := by decide +kernel
theorem dX0_heel_3 : decode cX0_heel 3 = .ok (.iload_n 1, 1) := by decide +kernel
theorem dX0_heel_4 : decode cX0_heel 4 = .ok (.invokevirtual 44, 3) := by decide +kernel
theorem dX0_heel_7 : decode cX0_heel 7 = .ok (.imul, 1) := by decide +kernel
theorem dX0_heel_8 : decode cX0_heel 8 = .ok (.iconst 5, 1) := by decide +kernel
theorem dX0_heel_9 : decode cX0_heel 9 = .ok (.aload_n 0, 1) := by decide +kernel
theorem dX0_heel_10 : decode cX0_heel 10 = .ok (.getfield 19, 3) := by decide +kernel
theorem dX0_heel_13 : decode cX0_heel 13 = .ok (.imul, 1) := by decide +kernel
theorem dX0_heel_14 : decode cX0_heel 14 = .ok (.isub, 1) := by decide +kernel
theorem dX0_heel_15 : decode cX0_heel 15 = .ok (.iconst 2, 1) := by decide +kernel
theorem dX0_heel_16 : decode cX0_heel 16 = .ok (.aload_n 0, 1) := by decide +kernel
theorem dX0_heel_17 : decode cX0_heel 17 = .ok (.getfield 7, 3) := by decide +kernel
theorem dX0_heel_20 : decode cX0_heel 20 = .ok (.imul, 1) := by decide +kernel
theorem dX0_heel_21 : decode cX0_heel 21 = .ok (.isub, 1) := by decide +kernel
theorem dX0_heel_22 : decode cX0_heel 22 = .ok (.invokestatic 48, 3) := by decide +kernel
theorem dX0_heel_25 : decode cX0_heel 25 = .ok (.ireturn, 1) := by decide +kernel
set_option maxRecDepth 20000 in
theorem ggX0_speed_X0_pull : GoodIn wsX0_speed wsX0_pull := goodIn_r _ [11, 12, 13, 14, 15, 16, 17, 18, 19, 20, 21, 22, 23] (by decide +kernel) (by decide +kernel)
set_option maxRecDepth 20000 in
theorem gX0_speed_X0_pull : GoodIn wsX0_speed (wsV RX0 44 RX0 yX0_pull wsX0_pull) := goodIn_app (goodIn_of _ (by decide +kernel)) ggX0_speed_X0_pull
theorem dX0_speed_0 : decode cX0_speed 0 = .ok (.iconst 2, 1) := by decide +kernel
theorem dX0_speed_1 : decode cX0_speed 1 = .ok (.aload_n 0, 1) := by decide +kernel
theorem dX0_speed_2 : decode cX0_speed 2 = .ok (.getfield 7, 3) := by decide +kernel
theorem dX0_speed_5 : decode cX0_speed 5 = .ok (.iadd, 1) := by decide +kernel
theorem dX0_speed_6 : decode cX0_speed 6 = .ok (.aload_n 0, 1) := by decide +kernel
theorem dX0_speed_7 : decode cX0_speed 7 = .ok (.getfield 19, 3) := by decide +kernel
theorem dX0_speed_10 : decode cX0_speed 10 = .ok (.iconst 2, 1) := by decide +kernel
theorem dX0_speed_11 : decode cX0_speed 11 = .ok (.idiv, 1) := by decide +kernel
theorem dX0_speed_12 : decode cX0_speed 12 = .ok (.iadd, 1) := by decide +kernel
theorem dX0_speed_13 : decode cX0_speed 13 = .ok (.istore_n 2, 1) := by decide +kernel
theorem dX0_speed_14 : decode cX0_speed 14 = .ok (.iload_n 2, 1) := by decide +kernel
theorem dX0_speed_15 : decode cX0_speed 15 = .ok (.ifCond .gt 5, 3) := by decide +kernel
theorem dX0_speed_18 : decode cX0_speed 18 = .ok (.iconst 0, 1) := by decide +kernel
theorem dX0_speed_19 : decode cX0_speed 19 = .ok (.ireturn, 1) := by decide +kernel
theorem dX0_speed_20 : decode cX0_speed 20 = .ok (.bipush 20, 2) := by decide +kernel
theorem dX0_speed_22 : decode cX0_speed 22 = .ok (.iconst 4, 1) := by decide +kernel
theorem dX0_speed_23 : decode cX0_speed 23 = .ok (.aload_n 0, 1) := by decide +kernel
theorem dX0_speed_24 : decode cX0_speed 24 = .ok (.iload_n 1, 1) := by decide +kernel
theorem dX0_speed_25 : decode cX0_speed 25 = .ok (.invokevirtual 44, 3) := by decide +kernel
theorem dX0_speed_28 : decode cX0_speed 28 = .ok (.imul, 1) := by decide +kernel
theorem dX0_speed_29 : decode cX0_speed 29 = .ok (.iload_n 2, 1) := by decide +kernel
theorem dX0_speed_30 : decode cX0_speed 30 = .ok (.idiv, 1) := by decide +kernel
theorem dX0_speed_31 : decode cX0_speed 31 = .ok (.invokestatic 54, 3) := by decide +kernel
theorem dX0_speed_34 : decode cX0_speed 34 = .ok (.ireturn, 1) := by decide +kernel
theorem dX0_canRace_0 : decode cX0_canRace 0 = .ok (.aload_n 0, 1) := by decide +kernel
theorem dX0_canRace_1 : decode cX0_canRace 1 = .ok (.getfield 25, 3) := by decide +kernel
theorem dX0_canRace_4 : decode cX0_canRace 4 = .ok (.bipush 9, 2) := by decide +kernel
theorem dX0_canRace_6 : decode cX0_canRace 6 = .ok (.if_icmp .ge 7, 3) := by decide +kernel
theorem dX0_canRace_9 : decode cX0_canRace 9 = .ok (.iconst 1, 1) := by decide +kernel
theorem dX0_canRace_10 : decode cX0_canRace 10 = .ok (.goto 4, 3) := by decide +kernel
theorem dX0_canRace_13 : decode cX0_canRace 13 = .ok (.iconst 0, 1) := by decide +kernel
theorem dX0_canRace_14 : decode cX0_canRace 14 = .ok (.ireturn, 1) := by decide +kernel
set_option maxRecDepth 20000 in
theorem ggX0_enterRace_X0_canRace : GoodIn wsX0_enterRace wsX0_canRace := goodIn_r _ [10, 11, 12, 13, 14, 15, 16, 17, 18, 19, 20, 21, 22] (by decide +kernel) (by decide +kernel)
set_option maxRecDepth 20000 in
theorem gX0_enterRace_X0_canRace : GoodIn wsX0_enterRace (wsV RX0 57 RX0 yX0_canRace wsX0_canRace) := goodIn_app (goodIn_of _ (by decide +kernel)) ggX0_enterRace_X0_canRace
theorem dX0_enterRace_0 : decode cX0_enterRace 0 = .ok (.aload_n 0, 1) := by decide +kernel
theorem dX0_enterRace_1 : decode cX0_enterRace 1 = .ok (.iconst 0, 1) := by decide +kernel
theorem dX0_enterRace_2 : decode cX0_enterRace 2 = .ok (.putfield 28, 3) := by decide +kernel
theorem dX0_enterRace_5 : decode cX0_enterRace 5 = .ok (.aload_n 0, 1) := by decide +kernel
theorem dX0_enterRace_6 : decode cX0_enterRace 6 = .ok (.iconst (-1), 1) := by decide +kernel
theorem dX0_enterRace_7 : decode cX0_enterRace 7 = .ok (.putfield 16, 3) := by decide +kernel
theorem dX0_enterRace_10 : decode cX0_enterRace 10 = .ok (.aload_n 0, 1) := by decide +kernel
theorem dX0_enterRace_11 : decode cX0_enterRace 11 = .ok (.iconst 0, 1) := by decide +kernel
theorem dX0_enterRace_12 : decode cX0_enterRace 12 = .ok (.putfield 31, 3) := by decide +kernel
theorem dX0_enterRace_15 : decode cX0_enterRace 15 = .ok (.aload_n 0, 1) := by decide +kernel
theorem dX0_enterRace_16 : decode cX0_enterRace 16 = .ok (.iconst 0, 1) := by decide +kernel
theorem dX0_enterRace_17 : decode cX0_enterRace 17 = .ok (.putfield 34, 3) := by decide +kernel
theorem dX0_enterRace_20 : decode cX0_enterRace 20 = .ok (.aload_n 0, 1) := by decide +kernel
theorem dX0_enterRace_21 : decode cX0_enterRace 21 = .ok (.aload_n 0, 1) := by decide +kernel
theorem dX0_enterRace_22 : decode cX0_enterRace 22 = .ok (.invokevirtual 57, 3) := by decide +kernel
theorem dX0_enterRace_25 : decode cX0_enterRace 25 = .ok (.ifCond .eq 7, 3) := by decide +kernel
theorem dX0_enterRace_28 : decode cX0_enterRace 28 = .ok (.iconst 1, 1) := by decide +kernel
theorem dX0_enterRace_29 : decode cX0_enterRace 29 = .ok (.goto 4, 3) := by decide +kernel
theorem dX0_enterRace_32 : decode cX0_enterRace 32 = .ok (.iconst 0, 1) := by decide +kernel
theorem dX0_enterRace_33 : decode cX0_enterRace 33 = .ok (.putfield 37, 3) := by decide +kernel
theorem dX0_enterRace_36 : decode cX0_enterRace 36 = .ok (.return_, 1) := by decide +kernel
set_option maxRecDepth 20000 in
theorem ggX0_sail_X0_heel : GoodIn wsX0_sail wsX0_heel := goodIn_r _ [9, 10, 11, 12, 13, 14, 15, 16, 17, 18, 8, 19, 20, 37, 38, 39, 40, 41, 42, 43, 44, 45, 46, 47] (by decide +kernel) (by decide +kernel)
set_option maxRecDepth 20000 in
theorem gX0_sail_X0_heel : GoodIn wsX0_sail (wsV RX0 61 RX0 yX0_heel wsX0_heel) := goodIn_app (goodIn_of _ (by decide +kernel)) ggX0_sail_X0_heel
set_option maxRecDepth 20000 in
theorem ggX0_sail_X0_fallOver : GoodIn wsX0_sail wsX0_fallOver := goodIn_r _ [24, 25, 26, 27, 14, 28, 3, 2, 29, 30, 31, 8, 32, 37, 38, 39, 40, 41, 42, 43, 44, 45, 46, 47] (by decide +kernel) (by decide +kernel)
set_option maxRecDepth 20000 in
theorem gX0_sail_X0_fallOver : GoodIn wsX0_sail (wsV RX0 64 RX0 yX0_fallOver wsX0_fallOver) := goodIn_app (goodIn_of _ (by decide +kernel)) ggX0_sail_X0_fallOver
set_option maxRecDepth 20000 in
theorem ggX0_sail_X0_speed : GoodIn wsX0_sail wsX0_speed := goodIn_r _ [36, 11, 10, 26, 27, 14, 28, 16, 17, 18, 8, 19, 20, 37, 38, 39, 40, 41, 42, 43, 44, 45, 46, 47] (by decide +kernel) (by decide +kernel)
set_option maxRecDepth 20000 in
theorem gX0_sail_X0_speed : GoodIn wsX0_sail (wsV RX0 67 RX0 yX0_speed wsX0_speed) := goodIn_app (goodIn_of _ (by decide +kernel)) ggX0_sail_X0_speed
theorem dX0_sail_0 : decode cX0_sail 0 = .ok (.aload_n 0, 1) := by decide +kernel
theorem dX0_sail_1 : decode cX0_sail 1 = .ok (.iconst 0, 1) := by decide +kernel
theorem dX0_sail_2 : decode cX0_sail 2 = .ok (.putfield 40, 3) := by decide +kernel
theorem dX0_sail_5 : decode cX0_sail 5 = .ok (.aload_n 0, 1) := by decide +kernel
theorem dX0_sail_6 : decode cX0_sail 6 = .ok (.getfield 37, 3) := by decide +kernel
theorem dX0_sail_9 : decode cX0_sail 9 = .ok (.iconst 1, 1) := by decide +kernel
theorem dX0_sail_10 : decode cX0_sail 10 = .ok (.if_icmp .eq 4, 3) := by decide +kernel
theorem dX0_sail_13 : decode cX0_sail 13 = .ok (.return_, 1) := by decide +kernel
theorem dX0_sail_14 : decode cX0_sail 14 = .ok (.aload_n 0, 1) := by decide +kernel
theorem dX0_sail_15 : decode cX0_sail 15 = .ok (.getfield 34, 3) := by decide +kernel
theorem dX0_sail_18 : decode cX0_sail 18 = .ok (.ifCond .le 16, 3) := by decide +kernel
theorem dX0_sail_21 : decode cX0_sail 21 = .ok (.aload_n 0, 1) := by decide +kernel
theorem dX0_sail_22 : decode cX0_sail 22 = .ok (.dup, 1) := by decide +kernel
theorem dX0_sail_23 : decode cX0_sail 23 = .ok (.getfield 34, 3) := by decide +kernel
theorem dX0_sail_26 : decode cX0_sail 26 = .ok (.iconst 1, 1) := by decide +kernel
theorem dX0_sail_27 : decode cX0_sail 27 = .ok (.isub, 1) := by decide +kernel
theorem dX0_sail_28 : decode cX0_sail 28 = .ok (.putfield 34, 3) := by decide +kernel
theorem dX0_sail_31 : decode cX0_sail 31 = .ok (.goto 39, 3) := by decide +kernel
theorem dX0_sail_34 : decode cX0_sail 34 = .ok (.aload_n 0, 1) := by decide +kernel
theorem dX0_sail_35 : decode cX0_sail 35 = .ok (.iload_n 1, 1) := by decide +kernel
theorem dX0_sail_36 : decode cX0_sail 36 = .ok (.invokevirtual 61, 3) := by decide +kernel
theorem dX0_sail_39 : decode cX0_sail 39 = .ok (.bipush 30, 2) := by decide +kernel
theorem dX0_sail_41 : decode cX0_sail 41 = .ok (.if_icmp .le 10, 3) := by decide +kernel
theorem dX0_sail_44 : decode cX0_sail 44 = .ok (.aload_n 0, 1) := by decide +kernel
theorem dX0_sail_45 : decode cX0_sail 45 = .ok (.invokevirtual 64, 3) := by decide +kernel
theorem dX0_sail_48 : decode cX0_sail 48 = .ok (.goto 22, 3) := by decide +kernel
theorem dX0_sail_51 : decode cX0_sail 51 = .ok (.aload_n 0, 1) := by decide +kernel
theorem dX0_sail_52 : decode cX0_sail 52 = .ok (.dup, 1) := by decide +kernel
theorem dX0_sail_53 : decode cX0_sail 53 = .ok (.getfield 28, 3) := by decide +kernel
theorem dX0_sail_56 : decode cX0_sail 56 = .ok (.aload_n 0, 1) := by decide +kernel
theorem dX0_sail_57 : decode cX0_sail 57 = .ok (.iload_n 1, 1) := by decide +kernel
theorem dX0_sail_58 : decode cX0_sail 58 = .ok (.invokevirtual 67, 3) := by decide +kernel
theorem dX0_sail_61 : decode cX0_sail 61 = .ok (.iadd, 1) := by decide +kernel
theorem dX0_sail_62 : decode cX0_sail 62 = .ok (.putfield 28, 3) := by decide +kernel
theorem dX0_sail_65 : decode cX0_sail 65 = .ok (.aload_n 0, 1) := by decide +kernel
theorem dX0_sail_66 : decode cX0_sail 66 = .ok (.iconst 1, 1) := by decide +kernel
theorem dX0_sail_67 : decode cX0_sail 67 = .ok (.putfield 40, 3) := by decide +kernel
theorem dX0_sail_70 : decode cX0_sail 70 = .ok (.return_, 1) := by decide +kernel
set_option maxRecDepth 20000 in
theorem ggX0_fallOver_X0_canRace : GoodIn wsX0_fallOver wsX0_canRace := goodIn_r _ [12, 1, 13, 14, 15, 16, 17, 18, 19, 20, 21, 22, 23] (by decide +kernel) (by decide +kernel)
set_option maxRecDepth 20000 in
theorem gX0_fallOver_X0_canRace : GoodIn wsX0_fallOver (wsV RX0 57 RX0 yX0_canRace wsX0_canRace) := goodIn_app (goodIn_of _ (by decide +kernel)) ggX0_fallOver_X0_canRace
theorem dX0_fallOver_0 : decode cX0_fallOver 0 = .ok (.aload_n 0, 1) := by decide +kernel
theorem dX0_fallOver_1 : decode cX0_fallOver 1 = .ok (.bipush 9, 2) := by decide +kernel
theorem dX0_fallOver_3 : decode cX0_fallOver 3 = .ok (.aload_n 0, 1) := by decide +kernel
theorem dX0_fallOver_4 : decode cX0_fallOver 4 = .ok (.getfield 25, 3) := by decide +kernel
theorem dX0_fallOver_7 : decode cX0_fallOver 7 = .ok (.iconst 2, 1) := by decide +kernel
theorem dX0_fallOver_8 : decode cX0_fallOver 8 = .ok (.iadd, 1) := by decide +kernel
theorem dX0_fallOver_9 : decode cX0_fallOver 9 = .ok (.invokestatic 54, 3) := by decide +kernel
theorem dX0_fallOver_12 : decode cX0_fallOver 12 = .ok (.putfield 25, 3) := by decide +kernel
theorem dX0_fallOver_15 : decode cX0_fallOver 15 = .ok (.aload_n 0, 1) := by decide +kernel
theorem dX0_fallOver_16 : decode cX0_fallOver 16 = .ok (.invokevirtual 57, 3) := by decide +kernel
theorem dX0_fallOver_19 : decode cX0_fallOver 19 = .ok (.ifCond .eq 11, 3) := by decide +kernel
theorem dX0_fallOver_22 : decode cX0_fallOver 22 = .ok (.aload_n 0, 1) := by decide +kernel
theorem dX0_fallOver_23 : decode cX0_fallOver 23 = .ok (.iconst 2, 1) := by decide +kernel
theorem dX0_fallOver_24 : decode cX0_fallOver 24 = .ok (.putfield 34, 3) := by decide +kernel
theorem dX0_fallOver_27 : decode cX0_fallOver 27 = .ok (.goto 8, 3) := by decide +kernel
theorem dX0_fallOver_30 : decode cX0_fallOver 30 = .ok (.aload_n 0, 1) := by decide +kernel
theorem dX0_fallOver_31 : decode cX0_fallOver 31 = .ok (.iconst 3, 1) := by decide +kernel
theorem dX0_fallOver_32 : decode cX0_fallOver 32 = .ok (.putfield 37, 3) := by decide +kernel
theorem dX0_fallOver_35 : decode cX0_fallOver 35 = .ok (.return_, 1) := by decide +kernel
theorem dX0_touches_0 : decode cX0_touches 0 = .ok (.aload_n 0, 1) := by decide +kernel
theorem dX0_touches_1 : decode cX0_touches 1 = .ok (.getfield 40, 3) := by decide +kernel
theorem dX0_touches_4 : decode cX0_touches 4 = .ok (.ifCond .eq 33, 3) := by decide +kernel
theorem dX0_touches_7 : decode cX0_touches 7 = .ok (.aload_n 1, 1) := by decide +kernel
theorem dX0_touches_8 : decode cX0_touches 8 = .ok (.getfield 40, 3) := by decide +kernel
theorem dX0_touches_11 : decode cX0_touches 11 = .ok (.ifCond .eq 26, 3) := by decide +kernel
theorem dX0_touches_14 : decode cX0_touches 14 = .ok (.aload_n 0, 1) := by decide +kernel
theorem dX0_touches_15 : decode cX0_touches 15 = .ok (.getfield 28, 3) := by decide +kernel
theorem dX0_touches_18 : decode cX0_touches 18 = .ok (.aload_n 1, 1) := by decide +kernel
theorem dX0_touches_19 : decode cX0_touches 19 = .ok (.getfield 28, 3) := by decide +kernel
theorem dX0_touches_22 : decode cX0_touches 22 = .ok (.if_icmp .ne 15, 3) := by decide +kernel
theorem dX0_touches_25 : decode cX0_touches 25 = .ok (.aload_n 0, 1) := by decide +kernel
theorem dX0_touches_26 : decode cX0_touches 26 = .ok (.getfield 28, 3) := by decide +kernel
theorem dX0_touches_29 : decode cX0_touches 29 = .ok (.iconst 1, 1) := by decide +kernel
theorem dX0_touches_30 : decode cX0_touches 30 = .ok (.if_icmp .lt 7, 3) := by decide +kernel
theorem dX0_touches_33 : decode cX0_touches 33 = .ok (.iconst 1, 1) := by decide +kernel
theorem dX0_touches_34 : decode cX0_touches 34 = .ok (.goto 4, 3) := by decide +kernel
theorem dX0_touches_37 : decode cX0_touches 37 = .ok (.iconst 0, 1) := by decide +kernel
theorem dX0_touches_38 : decode cX0_touches 38 = .ok (.ireturn, 1) := by decide +kernel
theorem dX0_comeIn_0 : decode cX0_comeIn 0 = .ok (.aload_n 0, 1) := by decide +kernel
theorem dX0_comeIn_1 : decode cX0_comeIn 1 = .ok (.getfield 37, 3) := by decide +kernel
theorem dX0_comeIn_4 : decode cX0_comeIn 4 = .ok (.iconst 1, 1) := by decide +kernel
theorem dX0_comeIn_5 : decode cX0_comeIn 5 = .ok (.if_icmp .ne 11, 3) := by decide +kernel
theorem dX0_comeIn_8 : decode cX0_comeIn 8 = .ok (.aload_n 0, 1) := by decide +kernel
theorem dX0_comeIn_9 : decode cX0_comeIn 9 = .ok (.getfield 28, 3) := by decide +kernel
theorem dX0_comeIn_12 : decode cX0_comeIn 12 = .ok (.iload_n 1, 1) := by decide +kernel
theorem dX0_comeIn_13 : decode cX0_comeIn 13 = .ok (.if_icmp .ge 5, 3) := by decide +kernel
theorem dX0_comeIn_16 : decode cX0_comeIn 16 = .ok (.iconst 0, 1) := by decide +kernel
theorem dX0_comeIn_17 : decode cX0_comeIn 17 = .ok (.ireturn, 1) := by decide +kernel
theorem dX0_comeIn_18 : decode cX0_comeIn 18 = .ok (.aload_n 0, 1) := by decide +kernel
theorem dX0_comeIn_19 : decode cX0_comeIn 19 = .ok (.iconst 2, 1) := by decide +kernel
theorem dX0_comeIn_20 : decode cX0_comeIn 20 = .ok (.putfield 37, 3) := by decide +kernel
theorem dX0_comeIn_23 : decode cX0_comeIn 23 = .ok (.aload_n 0, 1) := by decide +kernel
theorem dX0_comeIn_24 : decode cX0_comeIn 24 = .ok (.iload_n 2, 1) := by decide +kernel
theorem dX0_comeIn_25 : decode cX0_comeIn 25 = .ok (.putfield 16, 3) := by decide +kernel
theorem dX0_comeIn_28 : decode cX0_comeIn 28 = .ok (.iconst 1, 1) := by decide +kernel
theorem dX0_comeIn_29 : decode cX0_comeIn 29 = .ok (.ireturn, 1) := by decide +kernel
theorem dX0_dry_0 : decode cX0_dry 0 = .ok (.aload_n 0, 1) := by decide +kernel
theorem dX0_dry_1 : decode cX0_dry 1 = .ok (.iconst 0, 1) := by decide +kernel
theorem dX0_dry_2 : decode cX0_dry 2 = .ok (.aload_n 0, 1) := by decide +kernel
theorem dX0_dry_3 : decode cX0_dry 3 = .ok (.getfield 25, 3) := by decide +kernel
theorem dX0_dry_6 : decode cX0_dry 6 = .ok (.iconst 1, 1) := by decide +kernel
theorem dX0_dry_7 : decode cX0_dry 7 = .ok (.isub, 1) := by decide +kernel
theorem dX0_dry_8 : decode cX0_dry 8 = .ok (.invokestatic 48, 3) := by decide +kernel
theorem dX0_dry_11 : decode cX0_dry 11 = .ok (.putfield 25, 3) := by decide +kernel
theorem dX0_dry_14 : decode cX0_dry 14 = .ok (.return_, 1) := by decide +kernel
theorem dX0_result_0 : decode cX0_result 0 = .ok (.aload_n 0, 1) := by decide +kernel
theorem dX0_result_1 : decode cX0_result 1 = .ok (.getfield 16, 3) := by decide +kernel
theorem dX0_result_4 : decode cX0_result 4 = .ok (.iconst 3, 1) := by decide +kernel
theorem dX0_result_5 : decode cX0_result 5 = .ok (.aload_n 0, 1) := by decide +kernel
theorem dX0_result_6 : decode cX0_result 6 = .ok (.getfield 31, 3) := by decide +kernel
theorem dX0_result_9 : decode cX0_result 9 = .ok (.imul, 1) := by decide +kernel
theorem dX0_result_10 : decode cX0_result 10 = .ok (.iadd, 1) := by decide +kernel
theorem dX0_result_11 : decode cX0_result 11 = .ok (.ireturn, 1) := by decide +kernel
set_option maxRecDepth 20000 in
theorem ggX1_init_Jx4a65c_init_da8c8 : GoodIn wsX1_init wsJx4a65c_init_da8c8 := goodIn_r _ [10, 11, 12, 13, 14, 15, 16, 17, 18, 19, 20, 21, 22, 2, 3, 23, 24, 25] (by decide +kernel) (by decide +kernel)
set_option maxRecDepth 20000 in
theorem gX1_init_Jx4a65c_init_da8c8 : GoodIn wsX1_init (wsJx4a65c_init_da8c8) := ggX1_init_Jx4a65c_init_da8c8
theorem dX1_init_0 : decode cX1_init 0 = .ok (.aload_n 0, 1) := by decide +kernel
theorem dX1_init_1 : decode cX1_init 1 = .ok (.invokespecial 1, 3) := by decide +kernel
theorem dX1_init_4 : decode cX1_init 4 = .ok (.aload_n 0, 1) := by decide +kernel
theorem dX1_init_5 : decode cX1_init 5 = .ok (.new 7, 3) := by decide +kernel
theorem dX1_init_8 : decode cX1_init 8 = .ok (.dup, 1) := by decide +kernel
theorem dX1_init_9 : decode cX1_init 9 = .ok (.invokespecial 9, 3) := by decide +kernel
theorem dX1_init_12 : decode cX1_init 12 = .ok (.putfield 10, 3) := by decide +kernel
theorem dX1_init_15 : decode cX1_init 15 = .ok (.return_, 1) := by decide +kernel
set_option maxRecDepth 20000 in
theorem ggX1_copyFrom_Jx4a65c_size_8abf5 : GoodIn wsX1_copyFrom wsJx4a65c_size_8abf5 := goodIn_r _ [11, 12, 51, 52, 53] (by decide +kernel) (by decide +kernel)
set_option maxRecDepth 20000 in
theorem gX1_copyFrom_Jx4a65c_size_8abf5 : GoodIn wsX1_copyFrom (wsV RX1 16 RJx4a65c yJx4a65c_size_8abf5 wsJx4a65c_size_8abf5) := goodIn_app (goodIn_of _ (by decide +kernel)) ggX1_copyFrom_Jx4a65c_size_8abf5
set_option maxRecDepth 20000 in
theorem ggX1_copyFrom_Jx4a65c_get_915e3 : GoodIn wsX1_copyFrom wsJx4a65c_get_915e3 := goodIn_r _ [16, 12, 17, 18, 19, 20, 21, 22, 23, 24, 25, 26, 27, 10, 28, 29, 51, 52, 53] (by decide +kernel) (by decide +kernel)
set_option maxRecDepth 20000 in
theorem gX1_copyFrom_Jx4a65c_get_915e3 : GoodIn wsX1_copyFrom (wsV RX1 20 RJx4a65c yJx4a65c_get_915e3 wsJx4a65c_get_915e3) := goodIn_app (goodIn_of _ (by decide +kernel)) ggX1_copyFrom_Jx4a65c_get_915e3
set_option maxRecDepth 20000 in
theorem ggX1_copyFrom_X0_copyFrom : GoodIn wsX1_copyFrom wsX0_copyFrom := goodIn_r _ [34, 35, 36, 37, 38, 39, 40, 41, 42, 43, 44, 45, 54, 55, 56, 57, 58, 59, 60, 61, 62, 63, 64] (by decide +kernel) (by decide +kernel)
set_option maxRecDepth 20000 in
theorem gX1_copyFrom_X0_copyFrom : GoodIn wsX1_copyFrom (wsV RX1 26 RX0 yX0_copyFrom wsX0_copyFrom) := goodIn_app (goodIn_of _ (by decide +kernel)) ggX1_copyFrom_X0_copyFrom
theorem dX1_copyFrom_0 : decode cX1_copyFrom 0 = .ok (.iconst 0, 1) := by decide +kernel
theorem dX1_copyFrom_1 : decode cX1_copyFrom 1 = .ok (.istore_n 2, 1) := by decide +kernel
theorem dX1_copyFrom_2 : decode cX1_copyFrom 2 = .ok (.iload_n 2, 1) := by decide +kernel
theorem dX1_copyFrom_3 : decode cX1_copyFrom 3 = .ok (.aload_n 0, 1) := by decide +kernel
theorem dX1_copyFrom_4 : decode cX1_copyFrom 4 = .ok (.getfield 10, 3) := by decide +kernel
theorem dX1_copyFrom_7 : decode cX1_copyFrom 7 = .ok (.invokevirtual 16, 3) := by decide +kernel
theorem dX1_copyFrom_10 : decode cX1_copyFrom 10 = .ok (.if_icmp .ge 45, 3) := by decide +kernel
theorem dX1_copyFrom_13 : decode cX1_copyFrom 13 = .ok (.iload_n 2, 1) := by decide +kernel
theorem dX1_copyFrom_14 : decode cX1_copyFrom 14 = .ok (.aload_n 1, 1) := by decide +kernel
theorem dX1_copyFrom_15 : decode cX1_copyFrom 15 = .ok (.getfield 10, 3) := by decide +kernel
theorem dX1_copyFrom_18 : decode cX1_copyFrom 18 = .ok (.invokevirtual 16, 3) := by decide +kernel
theorem dX1_copyFrom_21 : decode cX1_copyFrom 21 = .ok (.if_icmp .ge 34, 3) := by decide +kernel
theorem dX1_copyFrom_24 : decode cX1_copyFrom 24 = .ok (.aload_n 0, 1) := by decide +kernel
theorem dX1_copyFrom_25 : decode cX1_copyFrom 25 = .ok (.getfield 10, 3) := by decide +kernel
theorem dX1_copyFrom_28 : decode cX1_copyFrom 28 = .ok (.iload_n 2, 1) := by decide +kernel
theorem dX1_copyFrom_29 : decode cX1_copyFrom 29 = .ok (.invokevirtual 20, 3) := by decide +kernel
theorem dX1_copyFrom_32 : decode cX1_copyFrom 32 = .ok (.checkcast 24, 3) := by decide +kernel
theorem dX1_copyFrom_35 : decode cX1_copyFrom 35 = .ok (.aload_n 1, 1) := by decide +kernel
theorem dX1_copyFrom_36 : decode cX1_copyFrom 36 = .ok (.getfield 10, 3) := by decide +kernel
theorem dX1_copyFrom_39 : decode cX1_copyFrom 39 = .ok (.iload_n 2, 1) := by decide +kernel
theorem dX1_copyFrom_40 : decode cX1_copyFrom 40 = .ok (.invokevirtual 20, 3) := by decide +kernel
theorem dX1_copyFrom_43 : decode cX1_copyFrom 43 = .ok (.checkcast 24, 3) := by decide +kernel
theorem dX1_copyFrom_46 : decode cX1_copyFrom 46 = .ok (.invokevirtual 26, 3) := by decide +kernel
theorem dX1_copyFrom_49 : decode cX1_copyFrom 49 = .ok (.iinc 2 1, 3) := by decide +kernel
theorem dX1_copyFrom_52 : decode cX1_copyFrom 52 = .ok (.goto (-50), 3) := by decide +kernel
theorem dX1_copyFrom_55 : decode cX1_copyFrom 55 = .ok (.aload_n 0, 1) := by decide +kernel
theorem dX1_copyFrom_56 : decode cX1_copyFrom 56 = .ok (.aload_n 1, 1) := by decide +kernel
theorem dX1_copyFrom_57 : decode cX1_copyFrom 57 = .ok (.getfield 30, 3) := by decide +kernel
theorem dX1_copyFrom_60 : decode cX1_copyFrom 60 = .ok (.putfield 30, 3) := by decide +kernel
theorem dX1_copyFrom_63 : decode cX1_copyFrom 63 = .ok (.aload_n 0, 1) := by decide +kernel
theorem dX1_copyFrom_64 : decode cX1_copyFrom 64 = .ok (.aload_n 1, 1) := by decide +kernel
theorem dX1_copyFrom_65 : decode cX1_copyFrom 65 = .ok (.getfield 34, 3) := by decide +kernel
theorem dX1_copyFrom_68 : decode cX1_copyFrom 68 = .ok (.putfield 34, 3) := by decide +kernel
theorem dX1_copyFrom_71 : decode cX1_copyFrom 71 = .ok (.aload_n 0, 1) := by decide +kernel
theorem dX1_copyFrom_72 : decode cX1_copyFrom 72 = .ok (.aload_n 1, 1) := by decide +kernel
theorem dX1_copyFrom_73 : decode cX1_copyFrom 73 = .ok (.getfield 37, 3) := by decide +kernel
theorem dX1_copyFrom_76 : decode cX1_copyFrom 76 = .ok (.putfield 37, 3) := by decide +kernel
theorem dX1_copyFrom_79 : decode cX1_copyFrom 79 = .ok (.aload_n 0, 1) := by decide +kernel
theorem dX1_copyFrom_80 : decode cX1_copyFrom 80 = .ok (.aload_n 1, 1) := by decide +kernel
theorem dX1_copyFrom_81 : decode cX1_copyFrom 81 = .ok (.getfield 41, 3) := by decide +kernel
theorem dX1_copyFrom_84 : decode cX1_copyFrom 84 = .ok (.putfield 41, 3) := by decide +kernel
theorem dX1_copyFrom_87 : decode cX1_copyFrom 87 = .ok (.return_, 1) := by decide +kernel
set_option maxRecDepth 20000 in
theorem ggX1_starters_Jx4a65c_size_8abf5 : GoodIn wsX1_starters wsJx4a65c_size_8abf5 := goodIn_r _ [7, 8, 37, 38, 39] (by decide +kernel) (by decide +kernel)
set_option maxRecDepth 20000 in
theorem gX1_starters_Jx4a65c_size_8abf5 : GoodIn wsX1_starters (wsV RX1 16 RJx4a65c yJx4a65c_size_8abf5 wsJx4a65c_size_8abf5) := goodIn_app (goodIn_of _ (by decide +kernel)) ggX1_starters_Jx4a65c_size_8abf5
set_option maxRecDepth 20000 in
theorem ggX1_starters_Jx4a65c_get_915e3 : GoodIn wsX1_starters wsJx4a65c_get_915e3 := goodIn_r _ [12, 8, 13, 14, 15, 16, 17, 18, 19, 20, 21, 22, 23, 6, 24, 25, 37, 38, 39] (by decide +kernel) (by decide +kernel)
set_option maxRecDepth 20000 in
theorem gX1_starters_Jx4a65c_get_915e3 : GoodIn wsX1_starters (wsV RX1 20 RJx4a65c yJx4a65c_get_915e3 wsJx4a65c_get_915e3) := goodIn_app (goodIn_of _ (by decide +kernel)) ggX1_starters_Jx4a65c_get_915e3
set_option maxRecDepth 20000 in
theorem ggX1_starters_X0_canRace : GoodIn wsX1_starters wsX0_canRace := goodIn_r _ [30, 31, 40, 41, 42, 43, 44, 45, 46, 47, 48, 49, 50] (by decide +kernel) (by decide +kernel)
set_option maxRecDepth 20000 in
theorem gX1_starters_X0_canRace : GoodIn wsX1_starters (wsV RX1 44 RX0 yX0_canRace wsX0_canRace) := goodIn_app (goodIn_of _ (by decide +kernel)) ggX1_starters_X0_canRace
theorem dX1_starters_0 : decode cX1_starters 0 = .ok (.iconst 0, 1) := by decide +kernel
theorem dX1_starters_1 : decode cX1_starters 1 = .ok (.istore_n 1, 1) := by decide +kernel
theorem dX1_starters_2 : decode cX1_starters 2 = .ok (.iconst 0, 1) := by decide +kernel
theorem dX1_starters_3 : decode cX1_starters 3 = .ok (.istore_n 2, 1) := by decide +kernel
theorem dX1_starters_4 : decode cX1_starters 4 = .ok (.iload_n 2, 1) := by decide +kernel
theorem dX1_starters_5 : decode cX1_starters 5 = .ok (.aload_n 0, 1) := by decide +kernel
theorem dX1_starters_6 : decode cX1_starters 6 = .ok (.getfield 10, 3) := by decide +kernel
theorem dX1_starters_9 : decode cX1_starters 9 = .ok (.invokevirtual 16, 3) := by decide +kernel
theorem dX1_starters_12 : decode cX1_starters 12 = .ok (.if_icmp .ge 29, 3) := by decide +kernel
theorem dX1_starters_15 : decode cX1_starters 15 = .ok (.aload_n 0, 1) := by decide +kernel
theorem dX1_starters_16 : decode cX1_starters 16 = .ok (.getfield 10, 3) := by decide +kernel
theorem dX1_starters_19 : decode cX1_starters 19 = .ok (.iload_n 2, 1) := by decide +kernel
theorem dX1_starters_20 : decode cX1_starters 20 = .ok (.invokevirtual 20, 3) := by decide +kernel
theorem dX1_starters_23 : decode cX1_starters 23 = .ok (.checkcast 24, 3) := by decide +kernel
theorem dX1_starters_26 : decode cX1_starters 26 = .ok (.invokevirtual 44, 3) := by decide +kernel
theorem dX1_starters_29 : decode cX1_starters 29 = .ok (.ifCond .eq 6, 3) := by decide +kernel
theorem dX1_starters_32 : decode cX1_starters 32 = .ok (.iinc 1 1, 3) := by decide +kernel
theorem dX1_starters_35 : decode cX1_starters 35 = .ok (.iinc 2 1, 3) := by decide +kernel
theorem dX1_starters_38 : decode cX1_starters 38 = .ok (.goto (-34), 3) := by decide +kernel
theorem dX1_starters_41 : decode cX1_starters 41 = .ok (.iload_n 1, 1) := by decide +kernel
theorem dX1_starters_42 : decode cX1_starters 42 = .ok (.ireturn, 1) := by decide +kernel
set_option maxRecDepth 20000 in
theorem ggX1_inState_Jx4a65c_size_8abf5 : GoodIn wsX1_inState wsJx4a65c_size_8abf5 := goodIn_r _ [8, 9, 43, 44, 45] (by decide +kernel) (by decide +kernel)
set_option maxRecDepth 20000 in
theorem gX1_inState_Jx4a65c_size_8abf5 : GoodIn wsX1_inState (wsV RX1 16 RJx4a65c yJx4a65c_size_8abf5 wsJx4a65c_size_8abf5) := goodIn_app (goodIn_of _ (by decide +kernel)) ggX1_inState_Jx4a65c_size_8abf5
set_option maxRecDepth 20000 in
theorem ggX1_inState_Jx4a65c_get_915e3 : GoodIn wsX1_inState wsJx4a65c_get_915e3 := goodIn_r _ [13, 9, 14, 15, 16, 17, 18, 19, 20, 21, 22, 23, 24, 7, 25, 26, 43, 44, 45] (by decide +kernel) (by decide +kernel)
set_option maxRecDepth 20000 in
theorem gX1_inState_Jx4a65c_get_915e3 : GoodIn wsX1_inState (wsV RX1 20 RJx4a65c yJx4a65c_get_915e3 wsJx4a65c_get_915e3) := goodIn_app (goodIn_of _ (by decide +kernel)) ggX1_inState_Jx4a65c_get_915e3
theorem dX1_inState_0 : decode cX1_inState 0 = .ok (.iconst 0, 1) := by decide +kernel
theorem dX1_inState_1 : decode cX1_inState 1 = .ok (.istore_n 2, 1) := by decide +kernel
theorem dX1_inState_2 : decode cX1_inState 2 = .ok (.iconst 0, 1) := by decide +kernel
theorem dX1_inState_3 : decode cX1_inState 3 = .ok (.istore_n 3, 1) := by decide +kernel
theorem dX1_inState_4 : decode cX1_inState 4 = .ok (.iload_n 3, 1) := by decide +kernel
theorem dX1_inState_5 : decode cX1_inState 5 = .ok (.aload_n 0, 1) := by decide +kernel
theorem dX1_inState_6 : decode cX1_inState 6 = .ok (.getfield 10, 3) := by decide +kernel
theorem dX1_inState_9 : decode cX1_inState 9 = .ok (.invokevirtual 16, 3) := by decide +kernel
theorem dX1_inState_12 : decode cX1_inState 12 = .ok (.if_icmp .ge 30, 3) := by decide +kernel
theorem dX1_inState_15 : decode cX1_inState 15 = .ok (.aload_n 0, 1) := by decide +kernel
theorem dX1_inState_16 : decode cX1_inState 16 = .ok (.getfield 10, 3) := by decide +kernel
theorem dX1_inState_19 : decode cX1_inState 19 = .ok (.iload_n 3, 1) := by decide +kernel
theorem dX1_inState_20 : decode cX1_inState 20 = .ok (.invokevirtual 20, 3) := by decide +kernel
theorem dX1_inState_23 : decode cX1_inState 23 = .ok (.checkcast 24, 3) := by decide +kernel
theorem dX1_inState_26 : decode cX1_inState 26 = .ok (.getfield 48, 3) := by decide +kernel
theorem dX1_inState_29 : decode cX1_inState 29 = .ok (.iload_n 1, 1) := by decide +kernel
theorem dX1_inState_30 : decode cX1_inState 30 = .ok (.if_icmp .ne 6, 3) := by decide +kernel
theorem dX1_inState_33 : decode cX1_inState 33 = .ok (.iinc 2 1, 3) := by decide +kernel
theorem dX1_inState_36 : decode cX1_inState 36 = .ok (.iinc 3 1, 3) := by decide +kernel
theorem dX1_inState_39 : decode cX1_inState 39 = .ok (.goto (-35), 3) := by decide +kernel
theorem dX1_inState_42 : decode cX1_inState 42 = .ok (.iload_n 2, 1) := by decide +kernel
theorem dX1_inState_43 : decode cX1_inState 43 = .ok (.ireturn, 1) := by decide +kernel
set_option maxRecDepth 20000 in
theorem ggX1_begin_Jx4a65c_size_8abf5 : GoodIn wsX1_begin wsJx4a65c_size_8abf5 := goodIn_r _ [10, 11, 49, 50, 51] (by decide +kernel) (by decide +kernel)
set_option maxRecDepth 20000 in
theorem gX1_begin_Jx4a65c_size_8abf5 : GoodIn wsX1_begin (wsV RX1 16 RJx4a65c yJx4a65c_size_8abf5 wsJx4a65c_size_8abf5) := goodIn_app (goodIn_of _ (by decide +kernel)) ggX1_begin_Jx4a65c_size_8abf5
set_option maxRecDepth 20000 in
theorem ggX1_begin_Jx4a65c_get_915e3 : GoodIn wsX1_begin wsJx4a65c_get_915e3 := goodIn_r _ [15, 11, 16, 17, 18, 19, 20, 21, 22, 23, 24, 25, 26, 9, 27, 28, 49, 50, 51] (by decide +kernel) (by decide +kernel)
set_option maxRecDepth 20000 in
theorem gX1_begin_Jx4a65c_get_915e3 : GoodIn wsX1_begin (wsV RX1 20 RJx4a65c yJx4a65c_get_915e3 wsJx4a65c_get_915e3) := goodIn_app (goodIn_of _ (by decide +kernel)) ggX1_begin_Jx4a65c_get_915e3
set_option maxRecDepth 20000 in
theorem ggX1_begin_X0_enterRace : GoodIn wsX1_begin wsX0_enterRace := goodIn_r _ [33, 34, 35, 36, 37, 38, 39, 40, 41, 32, 42, 43, 52, 53, 54, 55, 56, 57, 58, 59, 60, 61, 62] (by decide +kernel) (by decide +kernel)
set_option maxRecDepth 20000 in
theorem gX1_begin_X0_enterRace : GoodIn wsX1_begin (wsV RX1 51 RX0 yX0_enterRace wsX0_enterRace) := goodIn_app (goodIn_of _ (by decide +kernel)) ggX1_begin_X0_enterRace
theorem dX1_begin_0 : decode cX1_begin 0 = .ok (.iconst 0, 1) := by decide +kernel
theorem dX1_begin_1 : decode cX1_begin 1 = .ok (.istore_n 1, 1) := by decide +kernel
theorem dX1_begin_2 : decode cX1_begin 2 = .ok (.iload_n 1, 1) := by decide +kernel
theorem dX1_begin_3 : decode cX1_begin 3 = .ok (.aload_n 0, 1) := by decide +kernel
theorem dX1_begin_4 : decode cX1_begin 4 = .ok (.getfield 10, 3) := by decide +kernel
theorem dX1_begin_7 : decode cX1_begin 7 = .ok (.invokevirtual 16, 3) := by decide +kernel
theorem dX1_begin_10 : decode cX1_begin 10 = .ok (.if_icmp .ge 23, 3) := by decide +kernel
theorem dX1_begin_13 : decode cX1_begin 13 = .ok (.aload_n 0, 1) := by decide +kernel
theorem dX1_begin_14 : decode cX1_begin 14 = .ok (.getfield 10, 3) := by decide +kernel
theorem dX1_begin_17 : decode cX1_begin 17 = .ok (.iload_n 1, 1) := by decide +kernel
theorem dX1_begin_18 : decode cX1_begin 18 = .ok (.invokevirtual 20, 3) := by decide +kernel
theorem dX1_begin_21 : decode cX1_begin 21 = .ok (.checkcast 24, 3) := by decide +kernel
theorem dX1_begin_24 : decode cX1_begin 24 = .ok (.invokevirtual 51, 3) := by decide +kernel
theorem dX1_begin_27 : decode cX1_begin 27 = .ok (.iinc 1 1, 3) := by decide +kernel
theorem dX1_begin_30 : decode cX1_begin 30 = .ok (.goto (-28), 3) := by decide +kernel
theorem dX1_begin_33 : decode cX1_begin 33 = .ok (.aload_n 0, 1) := by decide +kernel
theorem dX1_begin_34 : decode cX1_begin 34 = .ok (.iconst 1, 1) := by decide +kernel
theorem dX1_begin_35 : decode cX1_begin 35 = .ok (.putfield 37, 3) := by decide +kernel
theorem dX1_begin_38 : decode cX1_begin 38 = .ok (.aload_n 0, 1) := by decide +kernel
theorem dX1_begin_39 : decode cX1_begin 39 = .ok (.iconst 0, 1) := by decide +kernel
theorem dX1_begin_40 : decode cX1_begin 40 = .ok (.putfield 41, 3) := by decide +kernel
theorem dX1_begin_43 : decode cX1_begin 43 = .ok (.aload_n 0, 1) := by decide +kernel
theorem dX1_begin_44 : decode cX1_begin 44 = .ok (.dup, 1) := by decide +kernel
theorem dX1_begin_45 : decode cX1_begin 45 = .ok (.getfield 34, 3) := by decide +kernel
theorem dX1_begin_48 : decode cX1_begin 48 = .ok (.iconst 1, 1) := by decide +kernel
theorem dX1_begin_49 : decode cX1_begin 49 = .ok (.iadd, 1) := by decide +kernel
theorem dX1_begin_50 : decode cX1_begin 50 = .ok (.putfield 34, 3) := by decide +kernel
theorem dX1_begin_53 : decode cX1_begin 53 = .ok (.return_, 1) := by decide +kernel
set_option maxRecDepth 20000 in
theorem ggX1_passMinute_X1_raceMinute : GoodIn wsX1_passMinute wsX1_raceMinute := goodIn_r _ [8, 3, 2, 9, 10, 11, 12, 13, 14, 15, 16, 17, 18, 19, 20, 21, 22, 23, 24, 25, 26, 27, 28, 29, 30, 31, 32, 33, 34, 35, 36, 37, 38, 39, 40, 41, 42, 43, 44, 45, 46, 47, 48, 49, 50, 51, 52, 53, 54, 55, 56, 57, 58, 59, 60, 61, 62, 63, 64, 65, 66, 67, 68, 69, 70, 71, 72, 73, 74, 75, 76, 77, 78, 79, 80, 81, 82, 83, 84, 85, 86, 87, 7, 88, 89, 90, 91, 92, 93, 94, 95, 96, 97, 98, 99, 100, 101, 102, 103, 104, 105, 106, 107, 139, 140, 141, 142, 143, 144, 145, 146, 147, 148, 149, 150, 151, 152, 153, 154, 155, 156, 157, 158, 159, 160] (by decide +kernel) (by decide +kernel)
set_option maxRecDepth 20000 in
theorem gX1_passMinute_X1_raceMinute : GoodIn wsX1_passMinute (wsV RX1 54 RX1 yX1_raceMinute wsX1_raceMinute) := goodIn_app (goodIn_of _ (by decide +kernel)) ggX1_passMinute_X1_raceMinute
set_option maxRecDepth 20000 in
theorem ggX1_passMinute_X1_dryAshore : GoodIn wsX1_passMinute wsX1_dryAshore := goodIn_r _ [111, 9, 10, 1, 112, 22, 23, 24, 25, 26, 27, 28, 29, 30, 31, 32, 33, 34, 35, 36, 37, 38, 39, 40, 41, 42, 43, 44, 113, 114, 115, 48, 116, 73, 60, 61, 62, 63, 139, 140, 141, 142, 143, 150, 151, 152, 153, 154, 155, 156, 157, 158, 159, 160, 147, 148, 149] (by decide +kernel) (by decide +kernel)
set_option maxRecDepth 20000 in
theorem gX1_passMinute_X1_dryAshore : GoodIn wsX1_passMinute (wsV RX1 58 RX1 yX1_dryAshore wsX1_dryAshore) := goodIn_app (goodIn_of _ (by decide +kernel)) ggX1_passMinute_X1_dryAshore
set_option maxRecDepth 20000 in
theorem ggX1_passMinute_X1_inState : GoodIn wsX1_passMinute wsX1_inState := goodIn_r _ [120, 9, 10, 112, 22, 23, 24, 25, 26, 27, 28, 29, 30, 31, 32, 33, 34, 35, 36, 37, 38, 39, 40, 41, 42, 43, 44, 139, 140, 141, 142, 143, 150, 151, 152, 153, 154, 155, 156, 157, 158, 159, 160, 147, 148, 149] (by decide +kernel) (by decide +kernel)
set_option maxRecDepth 20000 in
theorem gX1_passMinute_X1_inState : GoodIn wsX1_passMinute (wsV RX1 61 RX1 yX1_inState wsX1_inState) := goodIn_app (goodIn_of _ (by decide +kernel)) ggX1_passMinute_X1_inState
set_option maxRecDepth 20000 in
theorem ggX1_passMinute_X1_endRace : GoodIn wsX1_passMinute wsX1_endRace := goodIn_r _ [124, 1, 9, 10, 112, 125, 22, 23, 24, 25, 26, 27, 28, 29, 30, 31, 32, 33, 34, 35, 36, 37, 38, 39, 40, 41, 42, 43, 44, 126, 127, 128, 7, 129, 130, 131, 132, 48, 133, 107, 134, 135, 136, 137, 138, 139, 140, 141, 142, 143, 150, 151, 152, 153, 154, 155, 156, 157, 158, 159, 160, 147, 148, 149] (by decide +kernel) (by decide +kernel)
set_option maxRecDepth 20000 in
theorem gX1_passMinute_X1_endRace : GoodIn wsX1_passMinute (wsV RX1 65 RX1 yX1_endRace wsX1_endRace) := goodIn_app (goodIn_of _ (by decide +kernel)) ggX1_passMinute_X1_endRace
theorem dX1_passMinute_0 : decode cX1_passMinute 0 = .ok (.aload_n 0, 1) := by decide +kernel
theorem dX1_passMinute_1 : decode cX1_passMinute 1 = .ok (.getfield 37, 3) := by decide +kernel
theorem dX1_passMinute_4 : decode cX1_passMinute 4 = .ok (.ifCond .eq 11, 3) := by decide +kernel
theorem dX1_passMinute_7 : decode cX1_passMinute 7 = .ok (.aload_n 0, 1) := by decide +kernel
theorem dX1_passMinute_8 : decode cX1_passMinute 8 = .ok (.aload_n 1, 1) := by decide +kernel
theorem dX1_passMinute_9 : decode cX1_passMinute 9 = .ok (.invokevirtual 54, 3) := by decide +kernel
theorem dX1_passMinute_12 : decode cX1_passMinute 12 = .ok (.goto 4, 3) := by decide +kernel
theorem dX1_passMinute_15 : decode cX1_passMinute 15 = .ok (.iconst 0, 1) := by decide +kernel
theorem dX1_passMinute_16 : decode cX1_passMinute 16 = .ok (.istore_n 2, 1) := by decide +kernel
theorem dX1_passMinute_17 : decode cX1_passMinute 17 = .ok (.aload_n 0, 1) := by decide +kernel
theorem dX1_passMinute_18 : decode cX1_passMinute 18 = .ok (.getfield 30, 3) := by decide +kernel
theorem dX1_passMinute_21 : decode cX1_passMinute 21 = .ok (.iconst 5, 1) := by decide +kernel
theorem dX1_passMinute_22 : decode cX1_passMinute 22 = .ok (.irem, 1) := by decide +kernel
theorem dX1_passMinute_23 : decode cX1_passMinute 23 = .ok (.ifCond .ne 7, 3) := by decide +kernel
theorem dX1_passMinute_26 : decode cX1_passMinute 26 = .ok (.aload_n 0, 1) := by decide +kernel
theorem dX1_passMinute_27 : decode cX1_passMinute 27 = .ok (.invokevirtual 58, 3) := by decide +kernel
theorem dX1_passMinute_30 : decode cX1_passMinute 30 = .ok (.aload_n 0, 1) := by decide +kernel
theorem dX1_passMinute_31 : decode cX1_passMinute 31 = .ok (.dup, 1) := by decide +kernel
theorem dX1_passMinute_32 : decode cX1_passMinute 32 = .ok (.getfield 30, 3) := by decide +kernel
theorem dX1_passMinute_35 : decode cX1_passMinute 35 = .ok (.iconst 1, 1) := by decide +kernel
theorem dX1_passMinute_36 : decode cX1_passMinute 36 = .ok (.iadd, 1) := by decide +kernel
theorem dX1_passMinute_37 : decode cX1_passMinute 37 = .ok (.putfield 30, 3) := by decide +kernel
theorem dX1_passMinute_40 : decode cX1_passMinute 40 = .ok (.aload_n 0, 1) := by decide +kernel
theorem dX1_passMinute_41 : decode cX1_passMinute 41 = .ok (.getfield 37, 3) := by decide +kernel
theorem dX1_passMinute_44 : decode cX1_passMinute 44 = .ok (.ifCond .eq 24, 3) := by decide +kernel
theorem dX1_passMinute_47 : decode cX1_passMinute 47 = .ok (.aload_n 0, 1) := by decide +kernel
theorem dX1_passMinute_48 : decode cX1_passMinute 48 = .ok (.getfield 41, 3) := by decide +kernel
theorem dX1_passMinute_51 : decode cX1_passMinute 51 = .ok (.bipush 60, 2) := by decide +kernel
theorem dX1_passMinute_53 : decode cX1_passMinute 53 = .ok (.if_icmp .ge 11, 3) := by decide +kernel
theorem dX1_passMinute_56 : decode cX1_passMinute 56 = .ok (.aload_n 0, 1) := by decide +kernel
theorem dX1_passMinute_57 : decode cX1_passMinute 57 = .ok (.iconst 1, 1) := by decide +kernel
theorem dX1_passMinute_58 : decode cX1_passMinute 58 = .ok (.invokevirtual 61, 3) := by decide +kernel
theorem dX1_passMinute_61 : decode cX1_passMinute 61 = .ok (.ifCond .ne 7, 3) := by decide +kernel
theorem dX1_passMinute_64 : decode cX1_passMinute 64 = .ok (.aload_n 0, 1) := by decide +kernel
theorem dX1_passMinute_65 : decode cX1_passMinute 65 = .ok (.invokevirtual 65, 3) := by decide +kernel
theorem dX1_passMinute_68 : decode cX1_passMinute 68 = .ok (.iload_n 2, 1) := by decide +kernel
theorem dX1_passMinute_69 : decode cX1_passMinute 69 = .ok (.ireturn, 1) := by decide +kernel
set_option maxRecDepth 20000 in
theorem ggX1_finish_X1_passMinute : GoodIn wsX1_finish wsX1_passMinute := goodIn_r _ [6, 1, 7, 8, 9, 10, 11, 5, 12, 13, 14, 15, 16, 17, 18, 19, 20, 21, 22, 23, 24, 25, 26, 27, 28, 29, 30, 31, 32, 33, 34, 35, 36, 37, 38, 39, 40, 41, 42, 43, 44, 45, 46, 47, 48, 49, 50, 51, 52, 53, 54, 55, 56, 57, 58, 59, 60, 61, 62, 63, 64, 65, 66, 67, 68, 69, 70, 71, 72, 73, 74, 75, 76, 77, 78, 79, 80, 81, 82, 83, 84, 85, 86, 87, 88, 89, 90, 91, 92, 93, 94, 95, 96, 97, 98, 99, 100, 101, 102, 103, 104, 105, 106, 107, 108, 109, 110, 111, 112, 113, 114, 115, 116, 117, 118, 119, 120, 121, 122, 123, 124, 125, 126, 127, 128, 129, 130, 131, 132, 133, 134, 135, 136, 137, 138, 139, 140, 141, 142, 143, 144, 145, 146, 147, 148, 149, 150, 151, 152, 153, 154, 155, 156, 157, 158, 159, 160, 161, 162, 163, 164] (by decide +kernel) (by decide +kernel)
set_option maxRecDepth 20000 in
theorem gX1_finish_X1_passMinute : GoodIn wsX1_finish (wsV RX1 68 RX1 yX1_passMinute wsX1_passMinute) := goodIn_app (goodIn_of _ (by decide +kernel)) ggX1_finish_X1_passMinute
theorem dX1_finish_0 : decode cX1_finish 0 = .ok (.iconst 0, 1) := by decide +kernel
theorem dX1_finish_1 : decode cX1_finish 1 = .ok (.istore_n 2, 1) := by decide +kernel
theorem dX1_finish_2 : decode cX1_finish 2 = .ok (.iload_n 2, 1) := by decide +kernel
theorem dX1_finish_3 : decode cX1_finish 3 = .ok (.bipush 60, 2) := by decide +kernel
theorem dX1_finish_5 : decode cX1_finish 5 = .ok (.if_icmp .ge 22, 3) := by decide +kernel
theorem dX1_finish_8 : decode cX1_finish 8 = .ok (.aload_n 0, 1) := by decide +kernel
theorem dX1_finish_9 : decode cX1_finish 9 = .ok (.getfield 37, 3) := by decide +kernel
theorem dX1_finish_12 : decode cX1_finish 12 = .ok (.ifCond .eq 15, 3) := by decide +kernel
theorem dX1_finish_15 : decode cX1_finish 15 = .ok (.aload_n 0, 1) := by decide +kernel
theorem dX1_finish_16 : decode cX1_finish 16 = .ok (.aload_n 1, 1) := by decide +kernel
theorem dX1_finish_17 : decode cX1_finish 17 = .ok (.invokevirtual 68, 3) := by decide +kernel
theorem dX1_finish_20 : decode cX1_finish 20 = .ok (.pop, 1) := by decide +kernel
theorem dX1_finish_21 : decode cX1_finish 21 = .ok (.iinc 2 1, 3) := by decide +kernel
theorem dX1_finish_24 : decode cX1_finish 24 = .ok (.goto (-22), 3) := by decide +kernel
theorem dX1_finish_27 : decode cX1_finish 27 = .ok (.return_, 1) := by decide +kernel
set_option maxRecDepth 20000 in
theorem ggX1_raceMinute_X2_windOf : GoodIn wsX1_raceMinute wsX2_windOf := goodIn_r _ [10, 11, 12, 13, 14, 15, 108, 109, 110] (by decide +kernel) (by decide +kernel)
set_option maxRecDepth 20000 in
theorem gX1_raceMinute_X2_windOf : GoodIn wsX1_raceMinute (wsV RX1 71 RX2 yX2_windOf wsX2_windOf) := goodIn_app (goodIn_of _ (by decide +kernel)) ggX1_raceMinute_X2_windOf
set_option maxRecDepth 20000 in
theorem ggX1_raceMinute_Jx4a65c_size_8abf5 : GoodIn wsX1_raceMinute wsJx4a65c_size_8abf5 := goodIn_r _ [20, 21, 111, 112, 113] (by decide +kernel) (by decide +kernel)
set_option maxRecDepth 20000 in
theorem gX1_raceMinute_Jx4a65c_size_8abf5 : GoodIn wsX1_raceMinute (wsV RX1 16 RJx4a65c yJx4a65c_size_8abf5 wsJx4a65c_size_8abf5) := goodIn_app (goodIn_of _ (by decide +kernel)) ggX1_raceMinute_Jx4a65c_size_8abf5
set_option maxRecDepth 20000 in
theorem ggX1_raceMinute_Jx4a65c_get_915e3 : GoodIn wsX1_raceMinute wsJx4a65c_get_915e3 := goodIn_r _ [25, 21, 26, 27, 28, 29, 30, 31, 32, 33, 34, 35, 36, 19, 37, 38, 111, 112, 113] (by decide +kernel) (by decide +kernel)
set_option maxRecDepth 20000 in
theorem gX1_raceMinute_Jx4a65c_get_915e3 : GoodIn wsX1_raceMinute (wsV RX1 20 RJx4a65c yJx4a65c_get_915e3 wsJx4a65c_get_915e3) := goodIn_app (goodIn_of _ (by decide +kernel)) ggX1_raceMinute_Jx4a65c_get_915e3
set_option maxRecDepth 20000 in
theorem ggX1_raceMinute_X0_sail : GoodIn wsX1_raceMinute wsX0_sail := goodIn_r _ [43, 44, 45, 46, 47, 48, 49, 50, 42, 51, 52, 53, 54, 55, 56, 57, 58, 59, 60, 61, 62, 63, 64, 65, 66, 67, 68, 69, 70, 71, 72, 73, 74, 75, 76, 77, 78, 114, 115, 116, 117, 118, 119, 120, 121, 122, 123, 124] (by decide +kernel) (by decide +kernel)
set_option maxRecDepth 20000 in
theorem gX1_raceMinute_X0_sail : GoodIn wsX1_raceMinute (wsV RX1 76 RX0 yX0_sail wsX0_sail) := goodIn_app (goodIn_of _ (by decide +kernel)) ggX1_raceMinute_X0_sail
set_option maxRecDepth 20000 in
theorem ggX1_raceMinute_X1_judgeFoul : GoodIn wsX1_raceMinute wsX1_judgeFoul := goodIn_r _ [83, 3, 4, 84, 85, 16, 17, 18, 19, 20, 21, 22, 23, 24, 25, 26, 27, 28, 29, 30, 31, 32, 33, 34, 35, 36, 37, 38, 86, 87, 88, 42, 89, 44, 47, 90, 91, 92, 9, 93, 94, 95, 96, 56, 97, 103, 104, 105, 106, 107, 114, 115, 116, 117, 118, 119, 120, 121, 122, 123, 124, 111, 112, 113, 108, 109, 110] (by decide +kernel) (by decide +kernel)
set_option maxRecDepth 20000 in
theorem gX1_raceMinute_X1_judgeFoul : GoodIn wsX1_raceMinute (wsV RX1 80 RX1 yX1_judgeFoul wsX1_judgeFoul) := goodIn_app (goodIn_of _ (by decide +kernel)) ggX1_raceMinute_X1_judgeFoul
set_option maxRecDepth 20000 in
theorem ggX1_raceMinute_X0_comeIn : GoodIn wsX1_raceMinute wsX0_comeIn := goodIn_r _ [101, 45, 47, 102, 114, 115, 116, 117, 118, 119, 120, 121, 122, 123, 124] (by decide +kernel) (by decide +kernel)
set_option maxRecDepth 20000 in
theorem gX1_raceMinute_X0_comeIn : GoodIn wsX1_raceMinute (wsV RX1 87 RX0 yX0_comeIn wsX0_comeIn) := goodIn_app (goodIn_of _ (by decide +kernel)) ggX1_raceMinute_X0_comeIn
theorem dX1_raceMinute_0 : decode cX1_raceMinute 0 = .ok (.aload_n 0, 1) := by decide +kernel
theorem dX1_raceMinute_1 : decode cX1_raceMinute 1 = .ok (.dup, 1) := by decide +kernel
theorem dX1_raceMinute_2 : decode cX1_raceMinute 2 = .ok (.getfield 41, 3) := by decide +kernel
theorem dX1_raceMinute_5 : decode cX1_raceMinute 5 = .ok (.iconst 1, 1) := by decide +kernel
theorem dX1_raceMinute_6 : decode cX1_raceMinute 6 = .ok (.iadd, 1) := by decide +kernel
theorem dX1_raceMinute_7 : decode cX1_raceMinute 7 = .ok (.putfield 41, 3) := by decide +kernel
theorem dX1_raceMinute_10 : decode cX1_raceMinute 10 = .ok (.aload_n 1, 1) := by decide +kernel
theorem dX1_raceMinute_11 : decode cX1_raceMinute 11 = .ok (.aload_n 0, 1) := by decide +kernel
theorem dX1_raceMinute_12 : decode cX1_raceMinute 12 = .ok (.getfield 30, 3) := by decide +kernel
theorem dX1_raceMinute_15 : decode cX1_raceMinute 15 = .ok (.invokevirtual 71, 3) := by decide +kernel
theorem dX1_raceMinute_18 : decode cX1_raceMinute 18 = .ok (.istore_n 2, 1) := by decide +kernel
theorem dX1_raceMinute_19 : decode cX1_raceMinute 19 = .ok (.iconst 0, 1) := by decide +kernel
theorem dX1_raceMinute_20 : decode cX1_raceMinute 20 = .ok (.istore_n 3, 1) := by decide +kernel
theorem dX1_raceMinute_21 : decode cX1_raceMinute 21 = .ok (.iload_n 3, 1) := by decide +kernel
theorem dX1_raceMinute_22 : decode cX1_raceMinute 22 = .ok (.aload_n 0, 1) := by decide +kernel
theorem dX1_raceMinute_23 : decode cX1_raceMinute 23 = .ok (.getfield 10, 3) := by decide +kernel
theorem dX1_raceMinute_26 : decode cX1_raceMinute 26 = .ok (.invokevirtual 16, 3) := by decide +kernel
theorem dX1_raceMinute_29 : decode cX1_raceMinute 29 = .ok (.if_icmp .ge 24, 3) := by decide +kernel
theorem dX1_raceMinute_32 : decode cX1_raceMinute 32 = .ok (.aload_n 0, 1) := by decide +kernel
theorem dX1_raceMinute_33 : decode cX1_raceMinute 33 = .ok (.getfield 10, 3) := by decide +kernel
theorem dX1_raceMinute_36 : decode cX1_raceMinute 36 = .ok (.iload_n 3, 1) := by decide +kernel
theorem dX1_raceMinute_37 : decode cX1_raceMinute 37 = .ok (.invokevirtual 20, 3) := by decide +kernel
theorem dX1_raceMinute_40 : decode cX1_raceMinute 40 = .ok (.checkcast 24, 3) := by decide +kernel
theorem dX1_raceMinute_43 : decode cX1_raceMinute 43 = .ok (.iload_n 2, 1) := by decide +kernel
theorem dX1_raceMinute_44 : decode cX1_raceMinute 44 = .ok (.invokevirtual 76, 3) := by decide +kernel
theorem dX1_raceMinute_47 : decode cX1_raceMinute 47 = .ok (.iinc 3 1, 3) := by decide +kernel
theorem dX1_raceMinute_50 : decode cX1_raceMinute 50 = .ok (.goto (-29), 3) := by decide +kernel
theorem dX1_raceMinute_53 : decode cX1_raceMinute 53 = .ok (.iconst 0, 1) := by decide +kernel
theorem dX1_raceMinute_54 : decode cX1_raceMinute 54 = .ok (.istore_n 3, 1) := by decide +kernel
theorem dX1_raceMinute_55 : decode cX1_raceMinute 55 = .ok (.iload_n 3, 1) := by decide +kernel
theorem dX1_raceMinute_56 : decode cX1_raceMinute 56 = .ok (.aload_n 0, 1) := by decide +kernel
theorem dX1_raceMinute_57 : decode cX1_raceMinute 57 = .ok (.getfield 10, 3) := by decide +kernel
theorem dX1_raceMinute_60 : decode cX1_raceMinute 60 = .ok (.invokevirtual 16, 3) := by decide +kernel
theorem dX1_raceMinute_63 : decode cX1_raceMinute 63 = .ok (.if_icmp .ge 15, 3) := by decide +kernel
theorem dX1_raceMinute_66 : decode cX1_raceMinute 66 = .ok (.aload_n 0, 1) := by decide +kernel
theorem dX1_raceMinute_67 : decode cX1_raceMinute 67 = .ok (.iload_n 3, 1) := by decide +kernel
theorem dX1_raceMinute_68 : decode cX1_raceMinute 68 = .ok (.aload_n 1, 1) := by decide +kernel
theorem dX1_raceMinute_69 : decode cX1_raceMinute 69 = .ok (.invokevirtual 80, 3) := by decide +kernel
theorem dX1_raceMinute_72 : decode cX1_raceMinute 72 = .ok (.iinc 3 1, 3) := by decide +kernel
theorem dX1_raceMinute_75 : decode cX1_raceMinute 75 = .ok (.goto (-20), 3) := by decide +kernel
theorem dX1_raceMinute_78 : decode cX1_raceMinute 78 = .ok (.iconst 0, 1) := by decide +kernel
theorem dX1_raceMinute_79 : decode cX1_raceMinute 79 = .ok (.istore_n 3, 1) := by decide +kernel
theorem dX1_raceMinute_80 : decode cX1_raceMinute 80 = .ok (.iconst 0, 1) := by decide +kernel
theorem dX1_raceMinute_81 : decode cX1_raceMinute 81 = .ok (.istore 4, 2) := by decide +kernel
theorem dX1_raceMinute_83 : decode cX1_raceMinute 83 = .ok (.iload 4, 2) := by decide +kernel
theorem dX1_raceMinute_85 : decode cX1_raceMinute 85 = .ok (.aload_n 0, 1) := by decide +kernel
theorem dX1_raceMinute_86 : decode cX1_raceMinute 86 = .ok (.getfield 10, 3) := by decide +kernel
theorem dX1_raceMinute_89 : decode cX1_raceMinute 89 = .ok (.invokevirtual 16, 3) := by decide +kernel
theorem dX1_raceMinute_92 : decode cX1_raceMinute 92 = .ok (.if_icmp .ge 38, 3) := by decide +kernel
theorem dX1_raceMinute_95 : decode cX1_raceMinute 95 = .ok (.aload_n 0, 1) := by decide +kernel
theorem dX1_raceMinute_96 : decode cX1_raceMinute 96 = .ok (.getfield 10, 3) := by decide +kernel
theorem dX1_raceMinute_99 : decode cX1_raceMinute 99 = .ok (.iload 4, 2) := by decide +kernel
theorem dX1_raceMinute_101 : decode cX1_raceMinute 101 = .ok (.invokevirtual 20, 3) := by decide +kernel
theorem dX1_raceMinute_104 : decode cX1_raceMinute 104 = .ok (.checkcast 24, 3) := by decide +kernel
theorem dX1_raceMinute_107 : decode cX1_raceMinute 107 = .ok (.aload_n 1, 1) := by decide +kernel
theorem dX1_raceMinute_108 : decode cX1_raceMinute 108 = .ok (.getfield 84, 3) := by decide +kernel
theorem dX1_raceMinute_111 : decode cX1_raceMinute 111 = .ok (.aload_n 0, 1) := by decide +kernel
theorem dX1_raceMinute_112 : decode cX1_raceMinute 112 = .ok (.getfield 41, 3) := by decide +kernel
theorem dX1_raceMinute_115 : decode cX1_raceMinute 115 = .ok (.invokevirtual 87, 3) := by decide +kernel
theorem dX1_raceMinute_118 : decode cX1_raceMinute 118 = .ok (.ifCond .eq 6, 3) := by decide +kernel
theorem dX1_raceMinute_121 : decode cX1_raceMinute 121 = .ok (.iinc 3 1, 3) := by decide +kernel
theorem dX1_raceMinute_124 : decode cX1_raceMinute 124 = .ok (.iinc 4 1, 3) := by decide +kernel
theorem dX1_raceMinute_127 : decode cX1_raceMinute 127 = .ok (.goto (-44), 3) := by decide +kernel
theorem dX1_raceMinute_130 : decode cX1_raceMinute 130 = .ok (.iload_n 3, 1) := by decide +kernel
theorem dX1_raceMinute_131 : decode cX1_raceMinute 131 = .ok (.ireturn, 1) := by decide +kernel
set_option maxRecDepth 20000 in
theorem ggX1_judgeFoul_Jx4a65c_size_8abf5 : GoodIn wsX1_judgeFoul wsJx4a65c_size_8abf5 := goodIn_r _ [9, 10, 61, 62, 63] (by decide +kernel) (by decide +kernel)
set_option maxRecDepth 20000 in
theorem gX1_judgeFoul_Jx4a65c_size_8abf5 : GoodIn wsX1_judgeFoul (wsV RX1 16 RJx4a65c yJx4a65c_size_8abf5 wsJx4a65c_size_8abf5) := goodIn_app (goodIn_of _ (by decide +kernel)) ggX1_judgeFoul_Jx4a65c_size_8abf5
set_option maxRecDepth 20000 in
theorem ggX1_judgeFoul_Jx4a65c_get_915e3 : GoodIn wsX1_judgeFoul wsJx4a65c_get_915e3 := goodIn_r _ [14, 10, 15, 16, 17, 18, 19, 20, 21, 22, 23, 24, 25, 8, 26, 27, 61, 62, 63] (by decide +kernel) (by decide +kernel)
set_option maxRecDepth 20000 in
theorem gX1_judgeFoul_Jx4a65c_get_915e3 : GoodIn wsX1_judgeFoul (wsV RX1 20 RJx4a65c yJx4a65c_get_915e3 wsJx4a65c_get_915e3) := goodIn_app (goodIn_of _ (by decide +kernel)) ggX1_judgeFoul_Jx4a65c_get_915e3
set_option maxRecDepth 20000 in
theorem ggX1_judgeFoul_X0_touches : GoodIn wsX1_judgeFoul wsX0_touches := goodIn_r _ [32, 33, 34, 50, 51, 52, 53, 54, 55, 56, 57, 58, 59, 60] (by decide +kernel) (by decide +kernel)
set_option maxRecDepth 20000 in
theorem gX1_judgeFoul_X0_touches : GoodIn wsX1_judgeFoul (wsV RX1 91 RX0 yX0_touches wsX0_touches) := goodIn_app (goodIn_of _ (by decide +kernel)) ggX1_judgeFoul_X0_touches
set_option maxRecDepth 20000 in
theorem ggX1_judgeFoul_X2_isSeen : GoodIn wsX1_judgeFoul wsX2_isSeen := goodIn_r _ [39, 40, 41, 42, 43, 44, 64, 65, 66] (by decide +kernel) (by decide +kernel)
set_option maxRecDepth 20000 in
theorem gX1_judgeFoul_X2_isSeen : GoodIn wsX1_judgeFoul (wsV RX1 98 RX2 yX2_isSeen wsX2_isSeen) := goodIn_app (goodIn_of _ (by decide +kernel)) ggX1_judgeFoul_X2_isSeen
theorem dX1_judgeFoul_0 : decode cX1_judgeFoul 0 = .ok (.iload_n 1, 1) := by decide +kernel
theorem dX1_judgeFoul_1 : decode cX1_judgeFoul 1 = .ok (.ifCond .lt 14, 3) := by decide +kernel
theorem dX1_judgeFoul_4 : decode cX1_judgeFoul 4 = .ok (.iload_n 1, 1) := by decide +kernel
theorem dX1_judgeFoul_5 : decode cX1_judgeFoul 5 = .ok (.aload_n 0, 1) := by decide +kernel
theorem dX1_judgeFoul_6 : decode cX1_judgeFoul 6 = .ok (.getfield 10, 3) := by decide +kernel
theorem dX1_judgeFoul_9 : decode cX1_judgeFoul 9 = .ok (.invokevirtual 16, 3) := by decide +kernel
theorem dX1_judgeFoul_12 : decode cX1_judgeFoul 12 = .ok (.if_icmp .lt 4, 3) := by decide +kernel
theorem dX1_judgeFoul_15 : decode cX1_judgeFoul 15 = .ok (.return_, 1) := by decide +kernel
theorem dX1_judgeFoul_16 : decode cX1_judgeFoul 16 = .ok (.aload_n 0, 1) := by decide +kernel
theorem dX1_judgeFoul_17 : decode cX1_judgeFoul 17 = .ok (.getfield 10, 3) := by decide +kernel
theorem dX1_judgeFoul_20 : decode cX1_judgeFoul 20 = .ok (.iload_n 1, 1) := by decide +kernel
theorem dX1_judgeFoul_21 : decode cX1_judgeFoul 21 = .ok (.invokevirtual 20, 3) := by decide +kernel
theorem dX1_judgeFoul_24 : decode cX1_judgeFoul 24 = .ok (.checkcast 24, 3) := by decide +kernel
theorem dX1_judgeFoul_27 : decode cX1_judgeFoul 27 = .ok (.astore_n 3, 1) := by decide +kernel
theorem dX1_judgeFoul_28 : decode cX1_judgeFoul 28 = .ok (.iconst 0, 1) := by decide +kernel
theorem dX1_judgeFoul_29 : decode cX1_judgeFoul 29 = .ok (.istore 4, 2) := by decide +kernel
theorem dX1_judgeFoul_31 : decode cX1_judgeFoul 31 = .ok (.iload 4, 2) := by decide +kernel
theorem dX1_judgeFoul_33 : decode cX1_judgeFoul 33 = .ok (.iload_n 1, 1) := by decide +kernel
theorem dX1_judgeFoul_34 : decode cX1_judgeFoul 34 = .ok (.if_icmp .ge 50, 3) := by decide +kernel
theorem dX1_judgeFoul_37 : decode cX1_judgeFoul 37 = .ok (.aload_n 3, 1) := by decide +kernel
theorem dX1_judgeFoul_38 : decode cX1_judgeFoul 38 = .ok (.aload_n 0, 1) := by decide +kernel
theorem dX1_judgeFoul_39 : decode cX1_judgeFoul 39 = .ok (.getfield 10, 3) := by decide +kernel
theorem dX1_judgeFoul_42 : decode cX1_judgeFoul 42 = .ok (.iload 4, 2) := by decide +kernel
theorem dX1_judgeFoul_44 : decode cX1_judgeFoul 44 = .ok (.invokevirtual 20, 3) := by decide +kernel
theorem dX1_judgeFoul_47 : decode cX1_judgeFoul 47 = .ok (.checkcast 24, 3) := by decide +kernel
theorem dX1_judgeFoul_50 : decode cX1_judgeFoul 50 = .ok (.invokevirtual 91, 3) := by decide +kernel
theorem dX1_judgeFoul_53 : decode cX1_judgeFoul 53 = .ok (.ifCond .eq 25, 3) := by decide +kernel
theorem dX1_judgeFoul_56 : decode cX1_judgeFoul 56 = .ok (.aload_n 2, 1) := by decide +kernel
theorem dX1_judgeFoul_57 : decode cX1_judgeFoul 57 = .ok (.aload_n 3, 1) := by decide +kernel
theorem dX1_judgeFoul_58 : decode cX1_judgeFoul 58 = .ok (.getfield 95, 3) := by decide +kernel
theorem dX1_judgeFoul_61 : decode cX1_judgeFoul 61 = .ok (.invokevirtual 98, 3) := by decide +kernel
theorem dX1_judgeFoul_64 : decode cX1_judgeFoul 64 = .ok (.ifCond .eq 14, 3) := by decide +kernel
theorem dX1_judgeFoul_67 : decode cX1_judgeFoul 67 = .ok (.aload_n 3, 1) := by decide +kernel
theorem dX1_judgeFoul_68 : decode cX1_judgeFoul 68 = .ok (.dup, 1) := by decide +kernel
theorem dX1_judgeFoul_69 : decode cX1_judgeFoul 69 = .ok (.getfield 102, 3) := by decide +kernel
theorem dX1_judgeFoul_72 : decode cX1_judgeFoul 72 = .ok (.iconst 1, 1) := by decide +kernel
theorem dX1_judgeFoul_73 : decode cX1_judgeFoul 73 = .ok (.iadd, 1) := by decide +kernel
theorem dX1_judgeFoul_74 : decode cX1_judgeFoul 74 = .ok (.putfield 102, 3) := by decide +kernel
theorem dX1_judgeFoul_77 : decode cX1_judgeFoul 77 = .ok (.return_, 1) := by decide +kernel
theorem dX1_judgeFoul_78 : decode cX1_judgeFoul 78 = .ok (.iinc 4 1, 3) := by decide +kernel
theorem dX1_judgeFoul_81 : decode cX1_judgeFoul 81 = .ok (.goto (-50), 3) := by decide +kernel
theorem dX1_judgeFoul_84 : decode cX1_judgeFoul 84 = .ok (.return_, 1) := by decide +kernel
set_option maxRecDepth 20000 in
theorem ggX1_dryAshore_Jx4a65c_size_8abf5 : GoodIn wsX1_dryAshore wsJx4a65c_size_8abf5 := goodIn_r _ [9, 10, 54, 55, 56] (by decide +kernel) (by decide +kernel)
set_option maxRecDepth 20000 in
theorem gX1_dryAshore_Jx4a65c_size_8abf5 : GoodIn wsX1_dryAshore (wsV RX1 16 RJx4a65c yJx4a65c_size_8abf5 wsJx4a65c_size_8abf5) := goodIn_app (goodIn_of _ (by decide +kernel)) ggX1_dryAshore_Jx4a65c_size_8abf5
set_option maxRecDepth 20000 in
theorem ggX1_dryAshore_Jx4a65c_get_915e3 : GoodIn wsX1_dryAshore wsJx4a65c_get_915e3 := goodIn_r _ [14, 10, 15, 16, 17, 18, 19, 20, 21, 22, 23, 24, 25, 8, 26, 27, 54, 55, 56] (by decide +kernel) (by decide +kernel)
set_option maxRecDepth 20000 in
theorem gX1_dryAshore_Jx4a65c_get_915e3 : GoodIn wsX1_dryAshore (wsV RX1 20 RJx4a65c yJx4a65c_get_915e3 wsJx4a65c_get_915e3) := goodIn_app (goodIn_of _ (by decide +kernel)) ggX1_dryAshore_Jx4a65c_get_915e3
set_option maxRecDepth 20000 in
theorem ggX1_dryAshore_X0_dry : GoodIn wsX1_dryAshore wsX0_dry := goodIn_r _ [32, 33, 34, 35, 36, 37, 43, 44, 45, 46, 47, 48, 49, 50, 51, 52, 53] (by decide +kernel) (by decide +kernel)
set_option maxRecDepth 20000 in
theorem gX1_dryAshore_X0_dry : GoodIn wsX1_dryAshore (wsV RX1 105 RX0 yX0_dry wsX0_dry) := goodIn_app (goodIn_of _ (by decide +kernel)) ggX1_dryAshore_X0_dry
theorem dX1_dryAshore_0 : decode cX1_dryAshore 0 = .ok (.iconst 0, 1) := by decide +kernel
theorem dX1_dryAshore_1 : decode cX1_dryAshore 1 = .ok (.istore_n 1, 1) := by decide +kernel
theorem dX1_dryAshore_2 : decode cX1_dryAshore 2 = .ok (.iload_n 1, 1) := by decide +kernel
theorem dX1_dryAshore_3 : decode cX1_dryAshore 3 = .ok (.aload_n 0, 1) := by decide +kernel
theorem dX1_dryAshore_4 : decode cX1_dryAshore 4 = .ok (.getfield 10, 3) := by decide +kernel
theorem dX1_dryAshore_7 : decode cX1_dryAshore 7 = .ok (.invokevirtual 16, 3) := by decide +kernel
theorem dX1_dryAshore_10 : decode cX1_dryAshore 10 = .ok (.if_icmp .ge 39, 3) := by decide +kernel
theorem dX1_dryAshore_13 : decode cX1_dryAshore 13 = .ok (.aload_n 0, 1) := by decide +kernel
theorem dX1_dryAshore_14 : decode cX1_dryAshore 14 = .ok (.getfield 10, 3) := by decide +kernel
theorem dX1_dryAshore_17 : decode cX1_dryAshore 17 = .ok (.iload_n 1, 1) := by decide +kernel
theorem dX1_dryAshore_18 : decode cX1_dryAshore 18 = .ok (.invokevirtual 20, 3) := by decide +kernel
theorem dX1_dryAshore_21 : decode cX1_dryAshore 21 = .ok (.checkcast 24, 3) := by decide +kernel
theorem dX1_dryAshore_24 : decode cX1_dryAshore 24 = .ok (.astore_n 2, 1) := by decide +kernel
theorem dX1_dryAshore_25 : decode cX1_dryAshore 25 = .ok (.aload_n 0, 1) := by decide +kernel
theorem dX1_dryAshore_26 : decode cX1_dryAshore 26 = .ok (.getfield 37, 3) := by decide +kernel
theorem dX1_dryAshore_29 : decode cX1_dryAshore 29 = .ok (.ifCond .eq 10, 3) := by decide +kernel
theorem dX1_dryAshore_32 : decode cX1_dryAshore 32 = .ok (.aload_n 2, 1) := by decide +kernel
theorem dX1_dryAshore_33 : decode cX1_dryAshore 33 = .ok (.getfield 48, 3) := by decide +kernel
theorem dX1_dryAshore_36 : decode cX1_dryAshore 36 = .ok (.ifCond .ne 7, 3) := by decide +kernel
theorem dX1_dryAshore_39 : decode cX1_dryAshore 39 = .ok (.aload_n 2, 1) := by decide +kernel
theorem dX1_dryAshore_40 : decode cX1_dryAshore 40 = .ok (.invokevirtual 105, 3) := by decide +kernel
theorem dX1_dryAshore_43 : decode cX1_dryAshore 43 = .ok (.iinc 1 1, 3) := by decide +kernel
theorem dX1_dryAshore_46 : decode cX1_dryAshore 46 = .ok (.goto (-44), 3) := by decide +kernel
theorem dX1_dryAshore_49 : decode cX1_dryAshore 49 = .ok (.return_, 1) := by decide +kernel
set_option maxRecDepth 20000 in
theorem ggX1_endRace_Jx4a65c_size_8abf5 : GoodIn wsX1_endRace wsJx4a65c_size_8abf5 := goodIn_r _ [10, 11, 61, 62, 63] (by decide +kernel) (by decide +kernel)
set_option maxRecDepth 20000 in
theorem gX1_endRace_Jx4a65c_size_8abf5 : GoodIn wsX1_endRace (wsV RX1 16 RJx4a65c yJx4a65c_size_8abf5 wsJx4a65c_size_8abf5) := goodIn_app (goodIn_of _ (by decide +kernel)) ggX1_endRace_Jx4a65c_size_8abf5
set_option maxRecDepth 20000 in
theorem ggX1_endRace_Jx4a65c_get_915e3 : GoodIn wsX1_endRace wsJx4a65c_get_915e3 := goodIn_r _ [15, 11, 16, 17, 18, 19, 20, 21, 22, 23, 24, 25, 26, 9, 27, 28, 61, 62, 63] (by decide +kernel) (by decide +kernel)
set_option maxRecDepth 20000 in
theorem gX1_endRace_Jx4a65c_get_915e3 : GoodIn wsX1_endRace (wsV RX1 20 RJx4a65c yJx4a65c_get_915e3 wsJx4a65c_get_915e3) := goodIn_app (goodIn_of _ (by decide +kernel)) ggX1_endRace_Jx4a65c_get_915e3
set_option maxRecDepth 20000 in
theorem ggX1_endRace_X1_boatsAheadOf : GoodIn wsX1_endRace wsX1_boatsAheadOf := goodIn_r _ [33, 2, 3, 4, 6, 7, 8, 9, 10, 11, 12, 13, 14, 15, 16, 17, 18, 19, 20, 21, 22, 23, 24, 25, 26, 27, 28, 34, 35, 36, 37, 38, 39, 40, 45, 46, 47, 48, 49, 50, 51, 52, 53, 54, 55, 56, 57, 58, 59, 60, 61, 62, 63] (by decide +kernel) (by decide +kernel)
set_option maxRecDepth 20000 in
theorem gX1_endRace_X1_boatsAheadOf : GoodIn wsX1_endRace (wsV RX1 111 RX1 yX1_boatsAheadOf wsX1_boatsAheadOf) := goodIn_app (goodIn_of _ (by decide +kernel)) ggX1_endRace_X1_boatsAheadOf
set_option maxRecDepth 20000 in
theorem ggX1_endRace_X1_pointsFor : GoodIn wsX1_endRace wsX1_pointsFor := goodIn_r _ [44] (by decide +kernel) (by decide +kernel)
set_option maxRecDepth 20000 in
theorem gX1_endRace_X1_pointsFor : GoodIn wsX1_endRace (wsV RX1 114 RX1 yX1_pointsFor wsX1_pointsFor) := goodIn_app (goodIn_of _ (by decide +kernel)) ggX1_endRace_X1_pointsFor
theorem dX1_endRace_0 : decode cX1_endRace 0 = .ok (.aload_n 0, 1) := by decide +kernel
theorem dX1_endRace_1 : decode cX1_endRace 1 = .ok (.iconst 0, 1) := by decide +kernel
theorem dX1_endRace_2 : decode cX1_endRace 2 = .ok (.putfield 37, 3) := by decide +kernel
theorem dX1_endRace_5 : decode cX1_endRace 5 = .ok (.iconst 0, 1) := by decide +kernel
theorem dX1_endRace_6 : decode cX1_endRace 6 = .ok (.istore_n 1, 1) := by decide +kernel
theorem dX1_endRace_7 : decode cX1_endRace 7 = .ok (.iload_n 1, 1) := by decide +kernel
theorem dX1_endRace_8 : decode cX1_endRace 8 = .ok (.aload_n 0, 1) := by decide +kernel
theorem dX1_endRace_9 : decode cX1_endRace 9 = .ok (.getfield 10, 3) := by decide +kernel
theorem dX1_endRace_12 : decode cX1_endRace 12 = .ok (.invokevirtual 16, 3) := by decide +kernel
theorem dX1_endRace_15 : decode cX1_endRace 15 = .ok (.if_icmp .ge 47, 3) := by decide +kernel
theorem dX1_endRace_18 : decode cX1_endRace 18 = .ok (.aload_n 0, 1) := by decide +kernel
theorem dX1_endRace_19 : decode cX1_endRace 19 = .ok (.getfield 10, 3) := by decide +kernel
theorem dX1_endRace_22 : decode cX1_endRace 22 = .ok (.iload_n 1, 1) := by decide +kernel
theorem dX1_endRace_23 : decode cX1_endRace 23 = .ok (.invokevirtual 20, 3) := by decide +kernel
theorem dX1_endRace_26 : decode cX1_endRace 26 = .ok (.checkcast 24, 3) := by decide +kernel
theorem dX1_endRace_29 : decode cX1_endRace 29 = .ok (.astore_n 2, 1) := by decide +kernel
theorem dX1_endRace_30 : decode cX1_endRace 30 = .ok (.aload_n 2, 1) := by decide +kernel
theorem dX1_endRace_31 : decode cX1_endRace 31 = .ok (.getfield 48, 3) := by decide +kernel
theorem dX1_endRace_34 : decode cX1_endRace 34 = .ok (.iconst 2, 1) := by decide +kernel
theorem dX1_endRace_35 : decode cX1_endRace 35 = .ok (.if_icmp .ne 21, 3) := by decide +kernel
theorem dX1_endRace_38 : decode cX1_endRace 38 = .ok (.aload_n 2, 1) := by decide +kernel
theorem dX1_endRace_39 : decode cX1_endRace 39 = .ok (.dup, 1) := by decide +kernel
theorem dX1_endRace_40 : decode cX1_endRace 40 = .ok (.getfield 108, 3) := by decide +kernel
theorem dX1_endRace_43 : decode cX1_endRace 43 = .ok (.aload_n 0, 1) := by decide +kernel
theorem dX1_endRace_44 : decode cX1_endRace 44 = .ok (.aload_n 0, 1) := by decide +kernel
theorem dX1_endRace_45 : decode cX1_endRace 45 = .ok (.iload_n 1, 1) := by decide +kernel
theorem dX1_endRace_46 : decode cX1_endRace 46 = .ok (.invokevirtual 111, 3) := by decide +kernel
theorem dX1_endRace_49 : decode cX1_endRace 49 = .ok (.invokevirtual 114, 3) := by decide +kernel
theorem dX1_endRace_52 : decode cX1_endRace 52 = .ok (.iadd, 1) := by decide +kernel
theorem dX1_endRace_53 : decode cX1_endRace 53 = .ok (.putfield 108, 3) := by decide +kernel
theorem dX1_endRace_56 : decode cX1_endRace 56 = .ok (.iinc 1 1, 3) := by decide +kernel
theorem dX1_endRace_59 : decode cX1_endRace 59 = .ok (.goto (-52), 3) := by decide +kernel
theorem dX1_endRace_62 : decode cX1_endRace 62 = .ok (.return_, 1) := by decide +kernel
theorem dX1_pointsFor_0 : decode cX1_pointsFor 0 = .ok (.iload_n 1, 1) := by decide +kernel
theorem dX1_pointsFor_1 : decode cX1_pointsFor 1 = .ok (.tableswitch 34 0 2 #[27, 30, 32], 27) := by decide +kernel
theorem dX1_pointsFor_28 : decode cX1_pointsFor 28 = .ok (.bipush 8, 2) := by decide +kernel
theorem dX1_pointsFor_30 : decode cX1_pointsFor 30 = .ok (.ireturn, 1) := by decide +kernel
theorem dX1_pointsFor_31 : decode cX1_pointsFor 31 = .ok (.iconst 5, 1) := by decide +kernel
theorem dX1_pointsFor_32 : decode cX1_pointsFor 32 = .ok (.ireturn, 1) := by decide +kernel
theorem dX1_pointsFor_33 : decode cX1_pointsFor 33 = .ok (.iconst 3, 1) := by decide +kernel
theorem dX1_pointsFor_34 : decode cX1_pointsFor 34 = .ok (.ireturn, 1) := by decide +kernel
theorem dX1_pointsFor_35 : decode cX1_pointsFor 35 = .ok (.iconst 1, 1) := by decide +kernel
theorem dX1_pointsFor_36 : decode cX1_pointsFor 36 = .ok (.ireturn, 1) := by decide +kernel
set_option maxRecDepth 20000 in
theorem ggX1_boatsAheadOf_Jx4a65c_size_8abf5 : GoodIn wsX1_boatsAheadOf wsJx4a65c_size_8abf5 := goodIn_r _ [8, 9, 50, 51, 52] (by decide +kernel) (by decide +kernel)
set_option maxRecDepth 20000 in
theorem gX1_boatsAheadOf_Jx4a65c_size_8abf5 : GoodIn wsX1_boatsAheadOf (wsV RX1 16 RJx4a65c yJx4a65c_size_8abf5 wsJx4a65c_size_8abf5) := goodIn_app (goodIn_of _ (by decide +kernel)) ggX1_boatsAheadOf_Jx4a65c_size_8abf5
set_option maxRecDepth 20000 in
theorem ggX1_boatsAheadOf_Jx4a65c_get_915e3 : GoodIn wsX1_boatsAheadOf wsJx4a65c_get_915e3 := goodIn_r _ [13, 9, 14, 15, 16, 17, 18, 19, 20, 21, 22, 23, 24, 7, 25, 26, 50, 51, 52] (by decide +kernel) (by decide +kernel)
set_option maxRecDepth 20000 in
theorem gX1_boatsAheadOf_Jx4a65c_get_915e3 : GoodIn wsX1_boatsAheadOf (wsV RX1 20 RJx4a65c yJx4a65c_get_915e3 wsJx4a65c_get_915e3) := goodIn_app (goodIn_of _ (by decide +kernel)) ggX1_boatsAheadOf_Jx4a65c_get_915e3
set_option maxRecDepth 20000 in
theorem ggX1_boatsAheadOf_X0_result : GoodIn wsX1_boatsAheadOf wsX0_result := goodIn_r _ [31, 32, 33, 39, 40, 41, 42, 43, 44, 45, 46, 47, 48, 49] (by decide +kernel) (by decide +kernel)
set_option maxRecDepth 20000 in
theorem gX1_boatsAheadOf_X0_result : GoodIn wsX1_boatsAheadOf (wsV RX1 117 RX0 yX0_result wsX0_result) := goodIn_app (goodIn_of _ (by decide +kernel)) ggX1_boatsAheadOf_X0_result
theorem dX1_boatsAheadOf_0 : decode cX1_boatsAheadOf 0 = .ok (.iload_n 1, 1) := by decide +kernel
theorem dX1_boatsAheadOf_1 : decode cX1_boatsAheadOf 1 = .ok (.ifCond .lt 14, 3) := by decide +kernel
theorem dX1_boatsAheadOf_4 : decode cX1_boatsAheadOf 4 = .ok (.iload_n 1, 1) := by decide +kernel
theorem dX1_boatsAheadOf_5 : decode cX1_boatsAheadOf 5 = .ok (.aload_n 0, 1) := by decide +kernel
theorem dX1_boatsAheadOf_6 : decode cX1_boatsAheadOf 6 = .ok (.getfield 10, 3) := by decide +kernel
theorem dX1_boatsAheadOf_9 : decode cX1_boatsAheadOf 9 = .ok (.invokevirtual 16, 3) := by decide +kernel
theorem dX1_boatsAheadOf_12 : decode cX1_boatsAheadOf 12 = .ok (.if_icmp .lt 5, 3) := by decide +kernel
theorem dX1_boatsAheadOf_15 : decode cX1_boatsAheadOf 15 = .ok (.iconst 0, 1) := by decide +kernel
theorem dX1_boatsAheadOf_16 : decode cX1_boatsAheadOf 16 = .ok (.ireturn, 1) := by decide +kernel
theorem dX1_boatsAheadOf_17 : decode cX1_boatsAheadOf 17 = .ok (.aload_n 0, 1) := by decide +kernel
theorem dX1_boatsAheadOf_18 : decode cX1_boatsAheadOf 18 = .ok (.getfield 10, 3) := by decide +kernel
theorem dX1_boatsAheadOf_21 : decode cX1_boatsAheadOf 21 = .ok (.iload_n 1, 1) := by decide +kernel
theorem dX1_boatsAheadOf_22 : decode cX1_boatsAheadOf 22 = .ok (.invokevirtual 20, 3) := by decide +kernel
theorem dX1_boatsAheadOf_25 : decode cX1_boatsAheadOf 25 = .ok (.checkcast 24, 3) := by decide +kernel
theorem dX1_boatsAheadOf_28 : decode cX1_boatsAheadOf 28 = .ok (.invokevirtual 117, 3) := by decide +kernel
theorem dX1_boatsAheadOf_31 : decode cX1_boatsAheadOf 31 = .ok (.istore_n 2, 1) := by decide +kernel
theorem dX1_boatsAheadOf_32 : decode cX1_boatsAheadOf 32 = .ok (.iconst 0, 1) := by decide +kernel
theorem dX1_boatsAheadOf_33 : decode cX1_boatsAheadOf 33 = .ok (.istore_n 3, 1) := by decide +kernel
theorem dX1_boatsAheadOf_34 : decode cX1_boatsAheadOf 34 = .ok (.iconst 0, 1) := by decide +kernel
theorem dX1_boatsAheadOf_35 : decode cX1_boatsAheadOf 35 = .ok (.istore 4, 2) := by decide +kernel
theorem dX1_boatsAheadOf_37 : decode cX1_boatsAheadOf 37 = .ok (.iload 4, 2) := by decide +kernel
theorem dX1_boatsAheadOf_39 : decode cX1_boatsAheadOf 39 = .ok (.aload_n 0, 1) := by decide +kernel
theorem dX1_boatsAheadOf_40 : decode cX1_boatsAheadOf 40 = .ok (.getfield 10, 3) := by decide +kernel
theorem dX1_boatsAheadOf_43 : decode cX1_boatsAheadOf 43 = .ok (.invokevirtual 16, 3) := by decide +kernel
theorem dX1_boatsAheadOf_46 : decode cX1_boatsAheadOf 46 = .ok (.if_icmp .ge 71, 3) := by decide +kernel
theorem dX1_boatsAheadOf_49 : decode cX1_boatsAheadOf 49 = .ok (.aload_n 0, 1) := by decide +kernel
theorem dX1_boatsAheadOf_50 : decode cX1_boatsAheadOf 50 = .ok (.getfield 10, 3) := by decide +kernel
theorem dX1_boatsAheadOf_53 : decode cX1_boatsAheadOf 53 = .ok (.iload 4, 2) := by decide +kernel
theorem dX1_boatsAheadOf_55 : decode cX1_boatsAheadOf 55 = .ok (.invokevirtual 20, 3) := by decide +kernel
theorem dX1_boatsAheadOf_58 : decode cX1_boatsAheadOf 58 = .ok (.checkcast 24, 3) := by decide +kernel
theorem dX1_boatsAheadOf_61 : decode cX1_boatsAheadOf 61 = .ok (.astore 5, 2) := by decide +kernel
theorem dX1_boatsAheadOf_63 : decode cX1_boatsAheadOf 63 = .ok (.aload 5, 2) := by decide +kernel
theorem dX1_boatsAheadOf_65 : decode cX1_boatsAheadOf 65 = .ok (.invokevirtual 117, 3) := by decide +kernel
theorem dX1_boatsAheadOf_68 : decode cX1_boatsAheadOf 68 = .ok (.iload_n 2, 1) := by decide +kernel
theorem dX1_boatsAheadOf_69 : decode cX1_boatsAheadOf 69 = .ok (.if_icmp .lt 18, 3) := by decide +kernel
theorem dX1_boatsAheadOf_72 : decode cX1_boatsAheadOf 72 = .ok (.aload 5, 2) := by decide +kernel
theorem dX1_boatsAheadOf_74 : decode cX1_boatsAheadOf 74 = .ok (.invokevirtual 117, 3) := by decide +kernel
theorem dX1_boatsAheadOf_77 : decode cX1_boatsAheadOf 77 = .ok (.iload_n 2, 1) := by decide +kernel
theorem dX1_boatsAheadOf_78 : decode cX1_boatsAheadOf 78 = .ok (.if_icmp .ne 13, 3) := by decide +kernel
theorem dX1_boatsAheadOf_81 : decode cX1_boatsAheadOf 81 = .ok (.iload 4, 2) := by decide +kernel
theorem dX1_boatsAheadOf_83 : decode cX1_boatsAheadOf 83 = .ok (.iload_n 1, 1) := by decide +kernel
theorem dX1_boatsAheadOf_84 : decode cX1_boatsAheadOf 84 = .ok (.if_icmp .ge 7, 3) := by decide +kernel
theorem dX1_boatsAheadOf_87 : decode cX1_boatsAheadOf 87 = .ok (.iconst 1, 1) := by decide +kernel
theorem dX1_boatsAheadOf_88 : decode cX1_boatsAheadOf 88 = .ok (.goto 4, 3) := by decide +kernel
theorem dX1_boatsAheadOf_91 : decode cX1_boatsAheadOf 91 = .ok (.iconst 0, 1) := by decide +kernel
theorem dX1_boatsAheadOf_92 : decode cX1_boatsAheadOf 92 = .ok (.istore 6, 2) := by decide +kernel
theorem dX1_boatsAheadOf_94 : decode cX1_boatsAheadOf 94 = .ok (.aload 5, 2) := by decide +kernel
theorem dX1_boatsAheadOf_96 : decode cX1_boatsAheadOf 96 = .ok (.getfield 48, 3) := by decide +kernel
theorem dX1_boatsAheadOf_99 : decode cX1_boatsAheadOf 99 = .ok (.iconst 2, 1) := by decide +kernel
theorem dX1_boatsAheadOf_100 : decode cX1_boatsAheadOf 100 = .ok (.if_icmp .ne 11, 3) := by decide +kernel
theorem dX1_boatsAheadOf_103 : decode cX1_boatsAheadOf 103 = .ok (.iload 6, 2) := by decide +kernel
theorem dX1_boatsAheadOf_105 : decode cX1_boatsAheadOf 105 = .ok (.ifCond .eq 6, 3) := by decide +kernel
theorem dX1_boatsAheadOf_108 : decode cX1_boatsAheadOf 108 = .ok (.iinc 3 1, 3) := by decide +kernel
theorem dX1_boatsAheadOf_111 : decode cX1_boatsAheadOf 111 = .ok (.iinc 4 1, 3) := by decide +kernel
theorem dX1_boatsAheadOf_114 : decode cX1_boatsAheadOf 114 = .ok (.goto (-77), 3) := by decide +kernel
theorem dX1_boatsAheadOf_117 : decode cX1_boatsAheadOf 117 = .ok (.iload_n 3, 1) := by decide +kernel
theorem dX1_boatsAheadOf_118 : decode cX1_boatsAheadOf 118 = .ok (.ireturn, 1) := by decide +kernel
set_option maxRecDepth 20000 in
theorem ggX1_timeOf_Jx4a65c_size_8abf5 : GoodIn wsX1_timeOf wsJx4a65c_size_8abf5 := goodIn_r _ [8, 9, 43, 44, 45] (by decide +kernel) (by decide +kernel)
set_option maxRecDepth 20000 in
theorem gX1_timeOf_Jx4a65c_size_8abf5 : GoodIn wsX1_timeOf (wsV RX1 16 RJx4a65c yJx4a65c_size_8abf5 wsJx4a65c_size_8abf5) := goodIn_app (goodIn_of _ (by decide +kernel)) ggX1_timeOf_Jx4a65c_size_8abf5
set_option maxRecDepth 20000 in
theorem ggX1_timeOf_Jx4a65c_get_915e3 : GoodIn wsX1_timeOf wsJx4a65c_get_915e3 := goodIn_r _ [13, 9, 14, 15, 16, 17, 18, 19, 20, 21, 22, 23, 24, 7, 25, 26, 43, 44, 45] (by decide +kernel) (by decide +kernel)
set_option maxRecDepth 20000 in
theorem gX1_timeOf_Jx4a65c_get_915e3 : GoodIn wsX1_timeOf (wsV RX1 20 RJx4a65c yJx4a65c_get_915e3 wsJx4a65c_get_915e3) := goodIn_app (goodIn_of _ (by decide +kernel)) ggX1_timeOf_Jx4a65c_get_915e3
theorem dX1_timeOf_0 : decode cX1_timeOf 0 = .ok (.iload_n 1, 1) := by decide +kernel
theorem dX1_timeOf_1 : decode cX1_timeOf 1 = .ok (.ifCond .lt 14, 3) := by decide +kernel
theorem dX1_timeOf_4 : decode cX1_timeOf 4 = .ok (.iload_n 1, 1) := by decide +kernel
theorem dX1_timeOf_5 : decode cX1_timeOf 5 = .ok (.aload_n 0, 1) := by decide +kernel
theorem dX1_timeOf_6 : decode cX1_timeOf 6 = .ok (.getfield 10, 3) := by decide +kernel
theorem dX1_timeOf_9 : decode cX1_timeOf 9 = .ok (.invokevirtual 16, 3) := by decide +kernel
theorem dX1_timeOf_12 : decode cX1_timeOf 12 = .ok (.if_icmp .lt 5, 3) := by decide +kernel
theorem dX1_timeOf_15 : decode cX1_timeOf 15 = .ok (.iconst (-1), 1) := by decide +kernel
theorem dX1_timeOf_16 : decode cX1_timeOf 16 = .ok (.ireturn, 1) := by decide +kernel
theorem dX1_timeOf_17 : decode cX1_timeOf 17 = .ok (.aload_n 0, 1) := by decide +kernel
theorem dX1_timeOf_18 : decode cX1_timeOf 18 = .ok (.getfield 10, 3) := by decide +kernel
theorem dX1_timeOf_21 : decode cX1_timeOf 21 = .ok (.iload_n 1, 1) := by decide +kernel
theorem dX1_timeOf_22 : decode cX1_timeOf 22 = .ok (.invokevirtual 20, 3) := by decide +kernel
theorem dX1_timeOf_25 : decode cX1_timeOf 25 = .ok (.checkcast 24, 3) := by decide +kernel
theorem dX1_timeOf_28 : decode cX1_timeOf 28 = .ok (.getfield 120, 3) := by decide +kernel
theorem dX1_timeOf_31 : decode cX1_timeOf 31 = .ok (.ireturn, 1) := by decide +kernel
set_option maxRecDepth 20000 in
theorem ggX1_farthest_Jx4a65c_size_8abf5 : GoodIn wsX1_farthest wsJx4a65c_size_8abf5 := goodIn_r _ [9, 10, 44, 45, 46] (by decide +kernel) (by decide +kernel)
set_option maxRecDepth 20000 in
theorem gX1_farthest_Jx4a65c_size_8abf5 : GoodIn wsX1_farthest (wsV RX1 16 RJx4a65c yJx4a65c_size_8abf5 wsJx4a65c_size_8abf5) := goodIn_app (goodIn_of _ (by decide +kernel)) ggX1_farthest_Jx4a65c_size_8abf5
set_option maxRecDepth 20000 in
theorem ggX1_farthest_Jx4a65c_get_915e3 : GoodIn wsX1_farthest wsJx4a65c_get_915e3 := goodIn_r _ [14, 10, 15, 16, 17, 18, 19, 20, 21, 22, 23, 24, 25, 8, 26, 27, 44, 45, 46] (by decide +kernel) (by decide +kernel)
set_option maxRecDepth 20000 in
theorem gX1_farthest_Jx4a65c_get_915e3 : GoodIn wsX1_farthest (wsV RX1 20 RJx4a65c yJx4a65c_get_915e3 wsJx4a65c_get_915e3) := goodIn_app (goodIn_of _ (by decide +kernel)) ggX1_farthest_Jx4a65c_get_915e3
theorem dX1_farthest_0 : decode cX1_farthest 0 = .ok (.iconst (-1), 1) := by decide +kernel
theorem dX1_farthest_1 : decode cX1_farthest 1 = .ok (.istore_n 1, 1) := by decide +kernel
theorem dX1_farthest_2 : decode cX1_farthest 2 = .ok (.iconst (-1), 1) := by decide +kernel
theorem dX1_farthest_3 : decode cX1_farthest 3 = .ok (.istore_n 2, 1) := by decide +kernel
theorem dX1_farthest_4 : decode cX1_farthest 4 = .ok (.iconst 0, 1) := by decide +kernel
theorem dX1_farthest_5 : decode cX1_farthest 5 = .ok (.istore_n 3, 1) := by decide +kernel
theorem dX1_farthest_6 : decode cX1_farthest 6 = .ok (.iload_n 3, 1) := by decide +kernel
theorem dX1_farthest_7 : decode cX1_farthest 7 = .ok (.aload_n 0, 1) := by decide +kernel
theorem dX1_farthest_8 : decode cX1_farthest 8 = .ok (.getfield 10, 3) := by decide +kernel
theorem dX1_farthest_11 : decode cX1_farthest 11 = .ok (.invokevirtual 16, 3) := by decide +kernel
theorem dX1_farthest_14 : decode cX1_farthest 14 = .ok (.if_icmp .ge 69, 3) := by decide +kernel
theorem dX1_farthest_17 : decode cX1_farthest 17 = .ok (.aload_n 0, 1) := by decide +kernel
theorem dX1_farthest_18 : decode cX1_farthest 18 = .ok (.getfield 10, 3) := by decide +kernel
theorem dX1_farthest_21 : decode cX1_farthest 21 = .ok (.iload_n 3, 1) := by decide +kernel
theorem dX1_farthest_22 : decode cX1_farthest 22 = .ok (.invokevirtual 20, 3) := by decide +kernel
theorem dX1_farthest_25 : decode cX1_farthest 25 = .ok (.checkcast 24, 3) := by decide +kernel
theorem dX1_farthest_28 : decode cX1_farthest 28 = .ok (.astore 4, 2) := by decide +kernel
theorem dX1_farthest_30 : decode cX1_farthest 30 = .ok (.aload 4, 2) := by decide +kernel
theorem dX1_farthest_32 : decode cX1_farthest 32 = .ok (.getfield 48, 3) := by decide +kernel
theorem dX1_farthest_35 : decode cX1_farthest 35 = .ok (.iconst 1, 1) := by decide +kernel
theorem dX1_farthest_36 : decode cX1_farthest 36 = .ok (.if_icmp .eq 12, 3) := by decide +kernel
theorem dX1_farthest_39 : decode cX1_farthest 39 = .ok (.aload 4, 2) := by decide +kernel
theorem dX1_farthest_41 : decode cX1_farthest 41 = .ok (.getfield 48, 3) := by decide +kernel
theorem dX1_farthest_44 : decode cX1_farthest 44 = .ok (.iconst 2, 1) := by decide +kernel
theorem dX1_farthest_45 : decode cX1_farthest 45 = .ok (.if_icmp .ne 7, 3) := by decide +kernel
theorem dX1_farthest_48 : decode cX1_farthest 48 = .ok (.iconst 1, 1) := by decide +kernel
theorem dX1_farthest_49 : decode cX1_farthest 49 = .ok (.goto 4, 3) := by decide +kernel
theorem dX1_farthest_52 : decode cX1_farthest 52 = .ok (.iconst 0, 1) := by decide +kernel
theorem dX1_farthest_53 : decode cX1_farthest 53 = .ok (.istore 5, 2) := by decide +kernel
theorem dX1_farthest_55 : decode cX1_farthest 55 = .ok (.iload 5, 2) := by decide +kernel
theorem dX1_farthest_57 : decode cX1_farthest 57 = .ok (.ifCond .eq 20, 3) := by decide +kernel
theorem dX1_farthest_60 : decode cX1_farthest 60 = .ok (.aload 4, 2) := by decide +kernel
theorem dX1_farthest_62 : decode cX1_farthest 62 = .ok (.getfield 95, 3) := by decide +kernel
theorem dX1_farthest_65 : decode cX1_farthest 65 = .ok (.iload_n 2, 1) := by decide +kernel
theorem dX1_farthest_66 : decode cX1_farthest 66 = .ok (.if_icmp .le 11, 3) := by decide +kernel
theorem dX1_farthest_69 : decode cX1_farthest 69 = .ok (.iload_n 3, 1) := by decide +kernel
theorem dX1_farthest_70 : decode cX1_farthest 70 = .ok (.istore_n 1, 1) := by decide +kernel
theorem dX1_farthest_71 : decode cX1_farthest 71 = .ok (.aload 4, 2) := by decide +kernel
theorem dX1_farthest_73 : decode cX1_farthest 73 = .ok (.getfield 95, 3) := by decide +kernel
theorem dX1_farthest_76 : decode cX1_farthest 76 = .ok (.istore_n 2, 1) := by decide +kernel
theorem dX1_farthest_77 : decode cX1_farthest 77 = .ok (.iinc 3 1, 3) := by decide +kernel
theorem dX1_farthest_80 : decode cX1_farthest 80 = .ok (.goto (-74), 3) := by decide +kernel
theorem dX1_farthest_83 : decode cX1_farthest 83 = .ok (.iload_n 1, 1) := by decide +kernel
theorem dX1_farthest_84 : decode cX1_farthest 84 = .ok (.ireturn, 1) := by decide +kernel
set_option maxRecDepth 20000 in
theorem ggX1_best_Jx4a65c_size_8abf5 : GoodIn wsX1_best wsJx4a65c_size_8abf5 := goodIn_r _ [9, 10, 44, 45, 46] (by decide +kernel) (by decide +kernel)
set_option maxRecDepth 20000 in
theorem gX1_best_Jx4a65c_size_8abf5 : GoodIn wsX1_best (wsV RX1 16 RJx4a65c yJx4a65c_size_8abf5 wsJx4a65c_size_8abf5) := goodIn_app (goodIn_of _ (by decide +kernel)) ggX1_best_Jx4a65c_size_8abf5
set_option maxRecDepth 20000 in
theorem ggX1_best_Jx4a65c_get_915e3 : GoodIn wsX1_best wsJx4a65c_get_915e3 := goodIn_r _ [14, 10, 15, 16, 17, 18, 19, 20, 21, 22, 23, 24, 25, 8, 26, 27, 44, 45, 46] (by decide +kernel) (by decide +kernel)
set_option maxRecDepth 20000 in
theorem gX1_best_Jx4a65c_get_915e3 : GoodIn wsX1_best (wsV RX1 20 RJx4a65c yJx4a65c_get_915e3 wsJx4a65c_get_915e3) := goodIn_app (goodIn_of _ (by decide +kernel)) ggX1_best_Jx4a65c_get_915e3
theorem dX1_best_0 : decode cX1_best 0 = .ok (.iconst (-1), 1) := by decide +kernel
theorem dX1_best_1 : decode cX1_best 1 = .ok (.istore_n 1, 1) := by decide +kernel
theorem dX1_best_2 : decode cX1_best 2 = .ok (.iconst 0, 1) := by decide +kernel
theorem dX1_best_3 : decode cX1_best 3 = .ok (.istore_n 2, 1) := by decide +kernel
theorem dX1_best_4 : decode cX1_best 4 = .ok (.iconst 0, 1) := by decide +kernel
theorem dX1_best_5 : decode cX1_best 5 = .ok (.istore_n 3, 1) := by decide +kernel
theorem dX1_best_6 : decode cX1_best 6 = .ok (.iconst 0, 1) := by decide +kernel
theorem dX1_best_7 : decode cX1_best 7 = .ok (.istore 4, 2) := by decide +kernel
theorem dX1_best_9 : decode cX1_best 9 = .ok (.iload 4, 2) := by decide +kernel
theorem dX1_best_11 : decode cX1_best 11 = .ok (.aload_n 0, 1) := by decide +kernel
theorem dX1_best_12 : decode cX1_best 12 = .ok (.getfield 10, 3) := by decide +kernel
theorem dX1_best_15 : decode cX1_best 15 = .ok (.invokevirtual 16, 3) := by decide +kernel
theorem dX1_best_18 : decode cX1_best 18 = .ok (.if_icmp .ge 81, 3) := by decide +kernel
theorem dX1_best_21 : decode cX1_best 21 = .ok (.aload_n 0, 1) := by decide +kernel
theorem dX1_best_22 : decode cX1_best 22 = .ok (.getfield 10, 3) := by decide +kernel
theorem dX1_best_25 : decode cX1_best 25 = .ok (.iload 4, 2) := by decide +kernel
theorem dX1_best_27 : decode cX1_best 27 = .ok (.invokevirtual 20, 3) := by decide +kernel
theorem dX1_best_30 : decode cX1_best 30 = .ok (.checkcast 24, 3) := by decide +kernel
theorem dX1_best_33 : decode cX1_best 33 = .ok (.astore 5, 2) := by decide +kernel
theorem dX1_best_35 : decode cX1_best 35 = .ok (.aload 5, 2) := by decide +kernel
theorem dX1_best_37 : decode cX1_best 37 = .ok (.getfield 108, 3) := by decide +kernel
theorem dX1_best_40 : decode cX1_best 40 = .ok (.iload_n 2, 1) := by decide +kernel
theorem dX1_best_41 : decode cX1_best 41 = .ok (.if_icmp .gt 21, 3) := by decide +kernel
theorem dX1_best_44 : decode cX1_best 44 = .ok (.aload 5, 2) := by decide +kernel
theorem dX1_best_46 : decode cX1_best 46 = .ok (.getfield 108, 3) := by decide +kernel
theorem dX1_best_49 : decode cX1_best 49 = .ok (.iload_n 2, 1) := by decide +kernel
theorem dX1_best_50 : decode cX1_best 50 = .ok (.if_icmp .ne 16, 3) := by decide +kernel
theorem dX1_best_53 : decode cX1_best 53 = .ok (.aload 5, 2) := by decide +kernel
theorem dX1_best_55 : decode cX1_best 55 = .ok (.getfield 123, 3) := by decide +kernel
theorem dX1_best_58 : decode cX1_best 58 = .ok (.iload_n 3, 1) := by decide +kernel
theorem dX1_best_59 : decode cX1_best 59 = .ok (.if_icmp .ge 7, 3) := by decide +kernel
theorem dX1_best_62 : decode cX1_best 62 = .ok (.iconst 1, 1) := by decide +kernel
theorem dX1_best_63 : decode cX1_best 63 = .ok (.goto 4, 3) := by decide +kernel
theorem dX1_best_66 : decode cX1_best 66 = .ok (.iconst 0, 1) := by decide +kernel
theorem dX1_best_67 : decode cX1_best 67 = .ok (.istore 6, 2) := by decide +kernel
theorem dX1_best_69 : decode cX1_best 69 = .ok (.iload_n 1, 1) := by decide +kernel
theorem dX1_best_70 : decode cX1_best 70 = .ok (.ifCond .lt 8, 3) := by decide +kernel
theorem dX1_best_73 : decode cX1_best 73 = .ok (.iload 6, 2) := by decide +kernel
theorem dX1_best_75 : decode cX1_best 75 = .ok (.ifCond .eq 18, 3) := by decide +kernel
theorem dX1_best_78 : decode cX1_best 78 = .ok (.iload 4, 2) := by decide +kernel
theorem dX1_best_80 : decode cX1_best 80 = .ok (.istore_n 1, 1) := by decide +kernel
theorem dX1_best_81 : decode cX1_best 81 = .ok (.aload 5, 2) := by decide +kernel
theorem dX1_best_83 : decode cX1_best 83 = .ok (.getfield 108, 3) := by decide +kernel
theorem dX1_best_86 : decode cX1_best 86 = .ok (.istore_n 2, 1) := by decide +kernel
theorem dX1_best_87 : decode cX1_best 87 = .ok (.aload 5, 2) := by decide +kernel
theorem dX1_best_89 : decode cX1_best 89 = .ok (.getfield 123, 3) := by decide +kernel
theorem dX1_best_92 : decode cX1_best 92 = .ok (.istore_n 3, 1) := by decide +kernel
theorem dX1_best_93 : decode cX1_best 93 = .ok (.iinc 4 1, 3) := by decide +kernel
theorem dX1_best_96 : decode cX1_best 96 = .ok (.goto (-87), 3) := by decide +kernel
theorem dX1_best_99 : decode cX1_best 99 = .ok (.iload_n 1, 1) := by decide +kernel
theorem dX1_best_100 : decode cX1_best 100 = .ok (.ireturn, 1) := by decide +kernel
set_option maxRecDepth 20000 in
theorem ggX1_allPoints_Jx4a65c_size_8abf5 : GoodIn wsX1_allPoints wsJx4a65c_size_8abf5 := goodIn_r _ [8, 9, 43, 44, 45] (by decide +kernel) (by decide +kernel)
set_option maxRecDepth 20000 in
theorem gX1_allPoints_Jx4a65c_size_8abf5 : GoodIn wsX1_allPoints (wsV RX1 16 RJx4a65c yJx4a65c_size_8abf5 wsJx4a65c_size_8abf5) := goodIn_app (goodIn_of _ (by decide +kernel)) ggX1_allPoints_Jx4a65c_size_8abf5
set_option maxRecDepth 20000 in
theorem ggX1_allPoints_Jx4a65c_get_915e3 : GoodIn wsX1_allPoints wsJx4a65c_get_915e3 := goodIn_r _ [13, 9, 14, 15, 16, 17, 18, 19, 20, 21, 22, 23, 24, 7, 25, 26, 43, 44, 45] (by decide +kernel) (by decide +kernel)
set_option maxRecDepth 20000 in
theorem gX1_allPoints_Jx4a65c_get_915e3 : GoodIn wsX1_allPoints (wsV RX1 20 RJx4a65c yJx4a65c_get_915e3 wsJx4a65c_get_915e3) := goodIn_app (goodIn_of _ (by decide +kernel)) ggX1_allPoints_Jx4a65c_get_915e3
theorem dX1_allPoints_0 : decode cX1_allPoints 0 = .ok (.iconst 0, 1) := by decide +kernel
theorem dX1_allPoints_1 : decode cX1_allPoints 1 = .ok (.istore_n 1, 1) := by decide +kernel
theorem dX1_allPoints_2 : decode cX1_allPoints 2 = .ok (.iconst 0, 1) := by decide +kernel
theorem dX1_allPoints_3 : decode cX1_allPoints 3 = .ok (.istore_n 2, 1) := by decide +kernel
theorem dX1_allPoints_4 : decode cX1_allPoints 4 = .ok (.iload_n 2, 1) := by decide +kernel
theorem dX1_allPoints_5 : decode cX1_allPoints 5 = .ok (.aload_n 0, 1) := by decide +kernel
theorem dX1_allPoints_6 : decode cX1_allPoints 6 = .ok (.getfield 10, 3) := by decide +kernel
theorem dX1_allPoints_9 : decode cX1_allPoints 9 = .ok (.invokevirtual 16, 3) := by decide +kernel
theorem dX1_allPoints_12 : decode cX1_allPoints 12 = .ok (.if_icmp .ge 26, 3) := by decide +kernel
theorem dX1_allPoints_15 : decode cX1_allPoints 15 = .ok (.iload_n 1, 1) := by decide +kernel
theorem dX1_allPoints_16 : decode cX1_allPoints 16 = .ok (.aload_n 0, 1) := by decide +kernel
theorem dX1_allPoints_17 : decode cX1_allPoints 17 = .ok (.getfield 10, 3) := by decide +kernel
theorem dX1_allPoints_20 : decode cX1_allPoints 20 = .ok (.iload_n 2, 1) := by decide +kernel
theorem dX1_allPoints_21 : decode cX1_allPoints 21 = .ok (.invokevirtual 20, 3) := by decide +kernel
theorem dX1_allPoints_24 : decode cX1_allPoints 24 = .ok (.checkcast 24, 3) := by decide +kernel
theorem dX1_allPoints_27 : decode cX1_allPoints 27 = .ok (.getfield 108, 3) := by decide +kernel
theorem dX1_allPoints_30 : decode cX1_allPoints 30 = .ok (.iadd, 1) := by decide +kernel
theorem dX1_allPoints_31 : decode cX1_allPoints 31 = .ok (.istore_n 1, 1) := by decide +kernel
theorem dX1_allPoints_32 : decode cX1_allPoints 32 = .ok (.iinc 2 1, 3) := by decide +kernel
theorem dX1_allPoints_35 : decode cX1_allPoints 35 = .ok (.goto (-31), 3) := by decide +kernel
theorem dX1_allPoints_38 : decode cX1_allPoints 38 = .ok (.iload_n 1, 1) := by decide +kernel
theorem dX1_allPoints_39 : decode cX1_allPoints 39 = .ok (.ireturn, 1) := by decide +kernel
set_option maxRecDepth 20000 in
theorem ggX1_allSoaked_Jx4a65c_size_8abf5 : GoodIn wsX1_allSoaked wsJx4a65c_size_8abf5 := goodIn_r _ [8, 9, 43, 44, 45] (by decide +kernel) (by decide +kernel)
set_option maxRecDepth 20000 in
theorem gX1_allSoaked_Jx4a65c_size_8abf5 : GoodIn wsX1_allSoaked (wsV RX1 16 RJx4a65c yJx4a65c_size_8abf5 wsJx4a65c_size_8abf5) := goodIn_app (goodIn_of _ (by decide +kernel)) ggX1_allSoaked_Jx4a65c_size_8abf5
set_option maxRecDepth 20000 in
theorem ggX1_allSoaked_Jx4a65c_get_915e3 : GoodIn wsX1_allSoaked wsJx4a65c_get_915e3 := goodIn_r _ [13, 9, 14, 15, 16, 17, 18, 19, 20, 21, 22, 23, 24, 7, 25, 26, 43, 44, 45] (by decide +kernel) (by decide +kernel)
set_option maxRecDepth 20000 in
theorem gX1_allSoaked_Jx4a65c_get_915e3 : GoodIn wsX1_allSoaked (wsV RX1 20 RJx4a65c yJx4a65c_get_915e3 wsJx4a65c_get_915e3) := goodIn_app (goodIn_of _ (by decide +kernel)) ggX1_allSoaked_Jx4a65c_get_915e3
theorem dX1_allSoaked_0 : decode cX1_allSoaked 0 = .ok (.iconst 0, 1) := by decide +kernel
theorem dX1_allSoaked_1 : decode cX1_allSoaked 1 = .ok (.istore_n 1, 1) := by decide +kernel
theorem dX1_allSoaked_2 : decode cX1_allSoaked 2 = .ok (.iconst 0, 1) := by decide +kernel
theorem dX1_allSoaked_3 : decode cX1_allSoaked 3 = .ok (.istore_n 2, 1) := by decide +kernel
theorem dX1_allSoaked_4 : decode cX1_allSoaked 4 = .ok (.iload_n 2, 1) := by decide +kernel
theorem dX1_allSoaked_5 : decode cX1_allSoaked 5 = .ok (.aload_n 0, 1) := by decide +kernel
theorem dX1_allSoaked_6 : decode cX1_allSoaked 6 = .ok (.getfield 10, 3) := by decide +kernel
theorem dX1_allSoaked_9 : decode cX1_allSoaked 9 = .ok (.invokevirtual 16, 3) := by decide +kernel
theorem dX1_allSoaked_12 : decode cX1_allSoaked 12 = .ok (.if_icmp .ge 26, 3) := by decide +kernel
theorem dX1_allSoaked_15 : decode cX1_allSoaked 15 = .ok (.iload_n 1, 1) := by decide +kernel
theorem dX1_allSoaked_16 : decode cX1_allSoaked 16 = .ok (.aload_n 0, 1) := by decide +kernel
theorem dX1_allSoaked_17 : decode cX1_allSoaked 17 = .ok (.getfield 10, 3) := by decide +kernel
theorem dX1_allSoaked_20 : decode cX1_allSoaked 20 = .ok (.iload_n 2, 1) := by decide +kernel
theorem dX1_allSoaked_21 : decode cX1_allSoaked 21 = .ok (.invokevirtual 20, 3) := by decide +kernel
theorem dX1_allSoaked_24 : decode cX1_allSoaked 24 = .ok (.checkcast 24, 3) := by decide +kernel
theorem dX1_allSoaked_27 : decode cX1_allSoaked 27 = .ok (.getfield 123, 3) := by decide +kernel
theorem dX1_allSoaked_30 : decode cX1_allSoaked 30 = .ok (.iadd, 1) := by decide +kernel
theorem dX1_allSoaked_31 : decode cX1_allSoaked 31 = .ok (.istore_n 1, 1) := by decide +kernel
theorem dX1_allSoaked_32 : decode cX1_allSoaked 32 = .ok (.iinc 2 1, 3) := by decide +kernel
theorem dX1_allSoaked_35 : decode cX1_allSoaked 35 = .ok (.goto (-31), 3) := by decide +kernel
theorem dX1_allSoaked_38 : decode cX1_allSoaked 38 = .ok (.iload_n 1, 1) := by decide +kernel
theorem dX1_allSoaked_39 : decode cX1_allSoaked 39 = .ok (.ireturn, 1) := by decide +kernel
set_option maxRecDepth 20000 in
theorem ggX1_allLead_Jx4a65c_size_8abf5 : GoodIn wsX1_allLead wsJx4a65c_size_8abf5 := goodIn_r _ [8, 9, 43, 44, 45] (by decide +kernel) (by decide +kernel)
set_option maxRecDepth 20000 in
theorem gX1_allLead_Jx4a65c_size_8abf5 : GoodIn wsX1_allLead (wsV RX1 16 RJx4a65c yJx4a65c_size_8abf5 wsJx4a65c_size_8abf5) := goodIn_app (goodIn_of _ (by decide +kernel)) ggX1_allLead_Jx4a65c_size_8abf5
set_option maxRecDepth 20000 in
theorem ggX1_allLead_Jx4a65c_get_915e3 : GoodIn wsX1_allLead wsJx4a65c_get_915e3 := goodIn_r _ [13, 9, 14, 15, 16, 17, 18, 19, 20, 21, 22, 23, 24, 7, 25, 26, 43, 44, 45] (by decide +kernel) (by decide +kernel)
set_option maxRecDepth 20000 in
theorem gX1_allLead_Jx4a65c_get_915e3 : GoodIn wsX1_allLead (wsV RX1 20 RJx4a65c yJx4a65c_get_915e3 wsJx4a65c_get_915e3) := goodIn_app (goodIn_of _ (by decide +kernel)) ggX1_allLead_Jx4a65c_get_915e3
theorem dX1_allLead_0 : decode cX1_allLead 0 = .ok (.iconst 0, 1) := by decide +kernel
theorem dX1_allLead_1 : decode cX1_allLead 1 = .ok (.istore_n 1, 1) := by decide +kernel
theorem dX1_allLead_2 : decode cX1_allLead 2 = .ok (.iconst 0, 1) := by decide +kernel
theorem dX1_allLead_3 : decode cX1_allLead 3 = .ok (.istore_n 2, 1) := by decide +kernel
theorem dX1_allLead_4 : decode cX1_allLead 4 = .ok (.iload_n 2, 1) := by decide +kernel
theorem dX1_allLead_5 : decode cX1_allLead 5 = .ok (.aload_n 0, 1) := by decide +kernel
theorem dX1_allLead_6 : decode cX1_allLead 6 = .ok (.getfield 10, 3) := by decide +kernel
theorem dX1_allLead_9 : decode cX1_allLead 9 = .ok (.invokevirtual 16, 3) := by decide +kernel
theorem dX1_allLead_12 : decode cX1_allLead 12 = .ok (.if_icmp .ge 26, 3) := by decide +kernel
theorem dX1_allLead_15 : decode cX1_allLead 15 = .ok (.iload_n 1, 1) := by decide +kernel
theorem dX1_allLead_16 : decode cX1_allLead 16 = .ok (.aload_n 0, 1) := by decide +kernel
theorem dX1_allLead_17 : decode cX1_allLead 17 = .ok (.getfield 10, 3) := by decide +kernel
theorem dX1_allLead_20 : decode cX1_allLead 20 = .ok (.iload_n 2, 1) := by decide +kernel
theorem dX1_allLead_21 : decode cX1_allLead 21 = .ok (.invokevirtual 20, 3) := by decide +kernel
theorem dX1_allLead_24 : decode cX1_allLead 24 = .ok (.checkcast 24, 3) := by decide +kernel
theorem dX1_allLead_27 : decode cX1_allLead 27 = .ok (.getfield 126, 3) := by decide +kernel
theorem dX1_allLead_30 : decode cX1_allLead 30 = .ok (.iadd, 1) := by decide +kernel
theorem dX1_allLead_31 : decode cX1_allLead 31 = .ok (.istore_n 1, 1) := by decide +kernel
theorem dX1_allLead_32 : decode cX1_allLead 32 = .ok (.iinc 2 1, 3) := by decide +kernel
theorem dX1_allLead_35 : decode cX1_allLead 35 = .ok (.goto (-31), 3) := by decide +kernel
theorem dX1_allLead_38 : decode cX1_allLead 38 = .ok (.iload_n 1, 1) := by decide +kernel
theorem dX1_allLead_39 : decode cX1_allLead 39 = .ok (.ireturn, 1) := by decide +kernel
set_option maxRecDepth 20000 in
theorem ggX2_init_J7_fill_53178 : GoodIn wsX2_init wsJ7_fill_53178 := goodIn_r _ [11] (by decide +kernel) (by decide +kernel)
set_option maxRecDepth 20000 in
theorem gX2_init_J7_fill_53178 : GoodIn wsX2_init (va_wsS RX2 17 yJ7_fill_53178 wsJ7_fill_53178) := goodIn_app (goodIn_of _ (by decide +kernel)) ggX2_init_J7_fill_53178
theorem dX2_init_0 : decode cX2_init 0 = .ok (.aload_n 0, 1) := by decide +kernel
theorem dX2_init_1 : decode cX2_init 1 = .ok (.invokespecial 1, 3) := by decide +kernel
theorem dX2_init_4 : decode cX2_init 4 = .ok (.aload_n 0, 1) := by decide +kernel
theorem dX2_init_5 : decode cX2_init 5 = .ok (.bipush 60, 2) := by decide +kernel
theorem dX2_init_7 : decode cX2_init 7 = .ok (.putfield 9, 3) := by decide +kernel
theorem dX2_init_10 : decode cX2_init 10 = .ok (.aload_n 0, 1) := by decide +kernel
theorem dX2_init_11 : decode cX2_init 11 = .ok (.bipush 10, 2) := by decide +kernel
theorem dX2_init_13 : decode cX2_init 13 = .ok (.newarray .int, 2) := by decide +kernel
theorem dX2_init_15 : decode cX2_init 15 = .ok (.putfield 13, 3) := by decide +kernel
theorem dX2_init_18 : decode cX2_init 18 = .ok (.aload_n 0, 1) := by decide +kernel
theorem dX2_init_19 : decode cX2_init 19 = .ok (.getfield 13, 3) := by decide +kernel
theorem dX2_init_22 : decode cX2_init 22 = .ok (.iconst 4, 1) := by decide +kernel
theorem dX2_init_23 : decode cX2_init 23 = .ok (.invokestatic 17, 3) := by decide +kernel
theorem dX2_init_26 : decode cX2_init 26 = .ok (.aload_n 0, 1) := by decide +kernel
theorem dX2_init_27 : decode cX2_init 27 = .ok (.iconst 0, 1) := by decide +kernel
theorem dX2_init_28 : decode cX2_init 28 = .ok (.newarray .int, 2) := by decide +kernel
theorem dX2_init_30 : decode cX2_init 30 = .ok (.putfield 23, 3) := by decide +kernel
theorem dX2_init_33 : decode cX2_init 33 = .ok (.return_, 1) := by decide +kernel
set_option maxRecDepth 20000 in
theorem ggX2_windOf_J9_floorMod_7cf53 : GoodIn wsX2_windOf wsJ9_floorMod_7cf53 := goodIn_r _ [5] (by decide +kernel) (by decide +kernel)
set_option maxRecDepth 20000 in
theorem gX2_windOf_J9_floorMod_7cf53 : GoodIn wsX2_windOf (va_wsS RX2 26 yJ9_floorMod_7cf53 wsJ9_floorMod_7cf53) := goodIn_app (goodIn_of _ (by decide +kernel)) ggX2_windOf_J9_floorMod_7cf53
theorem dX2_windOf_0 : decode cX2_windOf 0 = .ok (.aload_n 0, 1) := by decide +kernel
theorem dX2_windOf_1 : decode cX2_windOf 1 = .ok (.getfield 13, 3) := by decide +kernel
theorem dX2_windOf_4 : decode cX2_windOf 4 = .ok (.iload_n 1, 1) := by decide +kernel
theorem dX2_windOf_5 : decode cX2_windOf 5 = .ok (.bipush 10, 2) := by decide +kernel
theorem dX2_windOf_7 : decode cX2_windOf 7 = .ok (.invokestatic 26, 3) := by decide +kernel
theorem dX2_windOf_10 : decode cX2_windOf 10 = .ok (.iaload, 1) := by decide +kernel
theorem dX2_windOf_11 : decode cX2_windOf 11 = .ok (.ireturn, 1) := by decide +kernel
set_option maxRecDepth 20000 in
theorem ggX2_changeWind_J9_floorMod_7cf53 : GoodIn wsX2_changeWind wsJ9_floorMod_7cf53 := goodIn_r _ [5] (by decide +kernel) (by decide +kernel)
set_option maxRecDepth 20000 in
theorem gX2_changeWind_J9_floorMod_7cf53 : GoodIn wsX2_changeWind (va_wsS RX2 26 yJ9_floorMod_7cf53 wsJ9_floorMod_7cf53) := goodIn_app (goodIn_of _ (by decide +kernel)) ggX2_changeWind_J9_floorMod_7cf53
theorem dX2_changeWind_0 : decode cX2_changeWind 0 = .ok (.iload_n 1, 1) := by decide +kernel
theorem dX2_changeWind_1 : decode cX2_changeWind 1 = .ok (.bipush 10, 2) := by decide +kernel
theorem dX2_changeWind_3 : decode cX2_changeWind 3 = .ok (.invokestatic 26, 3) := by decide +kernel
theorem dX2_changeWind_6 : decode cX2_changeWind 6 = .ok (.istore_n 3, 1) := by decide +kernel
theorem dX2_changeWind_7 : decode cX2_changeWind 7 = .ok (.aload_n 0, 1) := by decide +kernel
theorem dX2_changeWind_8 : decode cX2_changeWind 8 = .ok (.getfield 13, 3) := by decide +kernel
theorem dX2_changeWind_11 : decode cX2_changeWind 11 = .ok (.iload_n 3, 1) := by decide +kernel
theorem dX2_changeWind_12 : decode cX2_changeWind 12 = .ok (.iaload, 1) := by decide +kernel
theorem dX2_changeWind_13 : decode cX2_changeWind 13 = .ok (.istore 4, 2) := by decide +kernel
theorem dX2_changeWind_15 : decode cX2_changeWind 15 = .ok (.aload_n 0, 1) := by decide +kernel
theorem dX2_changeWind_16 : decode cX2_changeWind 16 = .ok (.getfield 13, 3) := by decide +kernel
theorem dX2_changeWind_19 : decode cX2_changeWind 19 = .ok (.iload_n 3, 1) := by decide +kernel
theorem dX2_changeWind_20 : decode cX2_changeWind 20 = .ok (.iload_n 2, 1) := by decide +kernel
theorem dX2_changeWind_21 : decode cX2_changeWind 21 = .ok (.iastore, 1) := by decide +kernel
theorem dX2_changeWind_22 : decode cX2_changeWind 22 = .ok (.iload 4, 2) := by decide +kernel
theorem dX2_changeWind_24 : decode cX2_changeWind 24 = .ok (.ireturn, 1) := by decide +kernel
set_option maxRecDepth 20000 in
theorem ggX2_addJudge_J7_copyOf_59c91 : GoodIn wsX2_addJudge wsJ7_copyOf_59c91 := goodIn_r _ [5, 6, 7, 8, 9, 10, 11, 12, 13, 14, 15, 16, 17, 18, 19, 20] (by decide +kernel) (by decide +kernel)
set_option maxRecDepth 20000 in
theorem gX2_addJudge_J7_copyOf_59c91 : GoodIn wsX2_addJudge (va_wsS RX2 32 yJ7_copyOf_59c91 wsJ7_copyOf_59c91) := goodIn_app (goodIn_of _ (by decide +kernel)) ggX2_addJudge_J7_copyOf_59c91
theorem dX2_addJudge_0 : decode cX2_addJudge 0 = .ok (.aload_n 0, 1) := by decide +kernel
theorem dX2_addJudge_1 : decode cX2_addJudge 1 = .ok (.getfield 23, 3) := by decide +kernel
theorem dX2_addJudge_4 : decode cX2_addJudge 4 = .ok (.arraylength, 1) := by decide +kernel
theorem dX2_addJudge_5 : decode cX2_addJudge 5 = .ok (.istore_n 2, 1) := by decide +kernel
theorem dX2_addJudge_6 : decode cX2_addJudge 6 = .ok (.aload_n 0, 1) := by decide +kernel
theorem dX2_addJudge_7 : decode cX2_addJudge 7 = .ok (.aload_n 0, 1) := by decide +kernel
theorem dX2_addJudge_8 : decode cX2_addJudge 8 = .ok (.getfield 23, 3) := by decide +kernel
theorem dX2_addJudge_11 : decode cX2_addJudge 11 = .ok (.iload_n 2, 1) := by decide +kernel
theorem dX2_addJudge_12 : decode cX2_addJudge 12 = .ok (.iconst 1, 1) := by decide +kernel
theorem dX2_addJudge_13 : decode cX2_addJudge 13 = .ok (.iadd, 1) := by decide +kernel
theorem dX2_addJudge_14 : decode cX2_addJudge 14 = .ok (.invokestatic 32, 3) := by decide +kernel
theorem dX2_addJudge_17 : decode cX2_addJudge 17 = .ok (.putfield 23, 3) := by decide +kernel
theorem dX2_addJudge_20 : decode cX2_addJudge 20 = .ok (.aload_n 0, 1) := by decide +kernel
theorem dX2_addJudge_21 : decode cX2_addJudge 21 = .ok (.getfield 23, 3) := by decide +kernel
theorem dX2_addJudge_24 : decode cX2_addJudge 24 = .ok (.iload_n 2, 1) := by decide +kernel
theorem dX2_addJudge_25 : decode cX2_addJudge 25 = .ok (.iload_n 1, 1) := by decide +kernel
theorem dX2_addJudge_26 : decode cX2_addJudge 26 = .ok (.iastore, 1) := by decide +kernel
theorem dX2_addJudge_27 : decode cX2_addJudge 27 = .ok (.return_, 1) := by decide +kernel
theorem dX2_isSeen_0 : decode cX2_isSeen 0 = .ok (.aload_n 0, 1) := by decide +kernel
theorem dX2_isSeen_1 : decode cX2_isSeen 1 = .ok (.getfield 23, 3) := by decide +kernel
theorem dX2_isSeen_4 : decode cX2_isSeen 4 = .ok (.astore_n 2, 1) := by decide +kernel
theorem dX2_isSeen_5 : decode cX2_isSeen 5 = .ok (.aload_n 2, 1) := by decide +kernel
theorem dX2_isSeen_6 : decode cX2_isSeen 6 = .ok (.arraylength, 1) := by decide +kernel
theorem dX2_isSeen_7 : decode cX2_isSeen 7 = .ok (.istore_n 3, 1) := by decide +kernel
theorem dX2_isSeen_8 : decode cX2_isSeen 8 = .ok (.iconst 0, 1) := by decide +kernel
theorem dX2_isSeen_9 : decode cX2_isSeen 9 = .ok (.istore 4, 2) := by decide +kernel
theorem dX2_isSeen_11 : decode cX2_isSeen 11 = .ok (.iload 4, 2) := by decide +kernel
theorem dX2_isSeen_13 : decode cX2_isSeen 13 = .ok (.iload_n 3, 1) := by decide +kernel
theorem dX2_isSeen_14 : decode cX2_isSeen 14 = .ok (.if_icmp .ge 29, 3) := by decide +kernel
theorem dX2_isSeen_17 : decode cX2_isSeen 17 = .ok (.aload_n 2, 1) := by decide +kernel
theorem dX2_isSeen_18 : decode cX2_isSeen 18 = .ok (.iload 4, 2) := by decide +kernel
theorem dX2_isSeen_20 : decode cX2_isSeen 20 = .ok (.iaload, 1) := by decide +kernel
theorem dX2_isSeen_21 : decode cX2_isSeen 21 = .ok (.istore 5, 2) := by decide +kernel
theorem dX2_isSeen_23 : decode cX2_isSeen 23 = .ok (.iload_n 1, 1) := by decide +kernel
theorem dX2_isSeen_24 : decode cX2_isSeen 24 = .ok (.iload 5, 2) := by decide +kernel
theorem dX2_isSeen_26 : decode cX2_isSeen 26 = .ok (.isub, 1) := by decide +kernel
theorem dX2_isSeen_27 : decode cX2_isSeen 27 = .ok (.invokestatic 36, 3) := by decide +kernel
theorem dX2_isSeen_30 : decode cX2_isSeen 30 = .ok (.bipush 10, 2) := by decide +kernel
theorem dX2_isSeen_32 : decode cX2_isSeen 32 = .ok (.if_icmp .gt 5, 3) := by decide +kernel
theorem dX2_isSeen_35 : decode cX2_isSeen 35 = .ok (.iconst 1, 1) := by decide +kernel
theorem dX2_isSeen_36 : decode cX2_isSeen 36 = .ok (.ireturn, 1) := by decide +kernel
theorem dX2_isSeen_37 : decode cX2_isSeen 37 = .ok (.iinc 4 1, 3) := by decide +kernel
theorem dX2_isSeen_40 : decode cX2_isSeen 40 = .ok (.goto (-29), 3) := by decide +kernel
theorem dX2_isSeen_43 : decode cX2_isSeen 43 = .ok (.iconst 0, 1) := by decide +kernel
theorem dX2_isSeen_44 : decode cX2_isSeen 44 = .ok (.ireturn, 1) := by decide +kernel
