theorem dX4_init_0 : decode cX4_init 0 = .ok (.aload_n 0, 1) := by decide +kernel
theorem dX4_init_1 : decode cX4_init 1 = .ok (.invokespecial 1, 3) := by decide +kernel
theorem dX4_init_4 : decode cX4_init 4 = .ok (.aload_n 0, 1) := by decide +kernel
theorem dX4_init_5 : decode cX4_init 5 = .ok (.bipush 60, 2) := by decide +kernel
theorem dX4_init_7 : decode cX4_init 7 = .ok (.putfield 7, 3) := by decide +kernel
theorem dX4_init_10 : decode cX4_init 10 = .ok (.aload_n 0, 1) := by decide +kernel
theorem dX4_init_11 : decode cX4_init 11 = .ok (.bipush 10, 2) := by decide +kernel
theorem dX4_init_13 : decode cX4_init 13 = .ok (.newarray .int, 2) := by decide +kernel
theorem dX4_init_15 : decode cX4_init 15 = .ok (.dup, 1) := by decide +kernel
theorem dX4_init_16 : decode cX4_init 16 = .ok (.iconst 0, 1) := by decide +kernel
theorem dX4_init_17 : decode cX4_init 17 = .ok (.iconst 4, 1) := by decide +kernel
theorem dX4_init_18 : decode cX4_init 18 = .ok (.iastore, 1) := by decide +kernel
theorem dX4_init_19 : decode cX4_init 19 = .ok (.dup, 1) := by decide +kernel
theorem dX4_init_20 : decode cX4_init 20 = .ok (.iconst 1, 1) := by decide +kernel
theorem dX4_init_21 : decode cX4_init 21 = .ok (.iconst 4, 1) := by decide +kernel
theorem dX4_init_22 : decode cX4_init 22 = .ok (.iastore, 1) := by decide +kernel
theorem dX4_init_23 : decode cX4_init 23 = .ok (.dup, 1) := by decide +kernel
theorem dX4_init_24 : decode cX4_init 24 = .ok (.iconst 2, 1) := by decide +kernel
theorem dX4_init_25 : decode cX4_init 25 = .ok (.iconst 4, 1) := by decide +kernel
theorem dX4_init_26 : decode cX4_init 26 = .ok (.iastore, 1) := by decide +kernel
theorem dX4_init_27 : decode cX4_init 27 = .ok (.dup, 1) := by decide +kernel
theorem dX4_init_28 : decode cX4_init 28 = .ok (.iconst 3, 1) := by decide +kernel
theorem dX4_init_29 : decode cX4_init 29 = .ok (.iconst 4, 1) := by decide +kernel
theorem dX4_init_30 : decode cX4_init 30 = .ok (.iastore, 1) := by decide +kernel
theorem dX4_init_31 : decode cX4_init 31 = .ok (.dup, 1) := by decide +kernel
theorem dX4_init_32 : decode cX4_init 32 = .ok (.iconst 4, 1) := by decide +kernel
theorem dX4_init_33 : decode cX4_init 33 = .ok (.iconst 4, 1) := by decide +kernel
theorem dX4_init_34 : decode cX4_init 34 = .ok (.iastore, 1) := by decide +kernel
theorem dX4_init_35 : decode cX4_init 35 = .ok (.dup, 1) := by decide +kernel
theorem dX4_init_36 : decode cX4_init 36 = .ok (.iconst 5, 1) := by decide +kernel
theorem dX4_init_37 : decode cX4_init 37 = .ok (.iconst 4, 1) := by decide +kernel
theorem dX4_init_38 : decode cX4_init 38 = .ok (.iastore, 1) := by decide +kernel
theorem dX4_init_39 : decode cX4_init 39 = .ok (.dup, 1) := by decide +kernel
theorem dX4_init_40 : decode cX4_init 40 = .ok (.bipush 6, 2) := by decide +kernel
theorem dX4_init_42 : decode cX4_init 42 = .ok (.iconst 4, 1) := by decide +kernel
theorem dX4_init_43 : decode cX4_init 43 = .ok (.iastore, 1) := by decide +kernel
theorem dX4_init_44 : decode cX4_init 44 = .ok (.dup, 1) := by decide +kernel
theorem dX4_init_45 : decode cX4_init 45 = .ok (.bipush 7, 2) := by decide +kernel
theorem dX4_init_47 : decode cX4_init 47 = .ok (.iconst 4, 1) := by decide +kernel
theorem dX4_init_48 : decode cX4_init 48 = .ok (.iastore, 1) := by decide +kernel
theorem dX4_init_49 : decode cX4_init 49 = .ok (.dup, 1) := by decide +kernel
theorem dX4_init_50 : decode cX4_init 50 = .ok (.bipush 8, 2) := by decide +kernel
theorem dX4_init_52 : decode cX4_init 52 = .ok (.iconst 4, 1) := by decide +kernel
theorem dX4_init_53 : decode cX4_init 53 = .ok (.iastore, 1) := by decide +kernel
theorem dX4_init_54 : decode cX4_init 54 = .ok (.dup, 1) := by decide +kernel
theorem dX4_init_55 : decode cX4_init 55 = .ok (.bipush 9, 2) := by decide +kernel
theorem dX4_init_57 : decode cX4_init 57 = .ok (.iconst 4, 1) := by decide +kernel
theorem dX4_init_58 : decode cX4_init 58 = .ok (.iastore, 1) := by decide +kernel
theorem dX4_init_59 : decode cX4_init 59 = .ok (.putfield 13, 3) := by decide +kernel
theorem dX4_init_62 : decode cX4_init 62 = .ok (.aload_n 0, 1) := by decide +kernel
theorem dX4_init_63 : decode cX4_init 63 = .ok (.iconst 3, 1) := by decide +kernel
theorem dX4_init_64 : decode cX4_init 64 = .ok (.newarray .int, 2) := by decide +kernel
theorem dX4_init_66 : decode cX4_init 66 = .ok (.putfield 17, 3) := by decide +kernel
theorem dX4_init_69 : decode cX4_init 69 = .ok (.aload_n 0, 1) := by decide +kernel
theorem dX4_init_70 : decode cX4_init 70 = .ok (.bipush 80, 2) := by decide +kernel
theorem dX4_init_72 : decode cX4_init 72 = .ok (.newarray .int, 2) := by decide +kernel
theorem dX4_init_74 : decode cX4_init 74 = .ok (.putfield 20, 3) := by decide +kernel
theorem dX4_init_77 : decode cX4_init 77 = .ok (.aload_n 0, 1) := by decide +kernel
theorem dX4_init_78 : decode cX4_init 78 = .ok (.iconst 4, 1) := by decide +kernel
theorem dX4_init_79 : decode cX4_init 79 = .ok (.newarray .int, 2) := by decide +kernel
theorem dX4_init_81 : decode cX4_init 81 = .ok (.putfield 23, 3) := by decide +kernel
theorem dX4_init_84 : decode cX4_init 84 = .ok (.return_, 1) := by decide +kernel
theorem dX4_thrown_0 : decode cX4_thrown 0 = .ok (.aload_n 0, 1) := by decide +kernel
theorem dX4_thrown_1 : decode cX4_thrown 1 = .ok (.getfield 26, 3) := by decide +kernel
theorem dX4_thrown_4 : decode cX4_thrown 4 = .ok (.ireturn, 1) := by decide +kernel
theorem dX4_fail_0 : decode cX4_fail 0 = .ok (.aload_n 0, 1) := by decide +kernel
theorem dX4_fail_1 : decode cX4_fail 1 = .ok (.iload_n 1, 1) := by decide +kernel
theorem dX4_fail_2 : decode cX4_fail 2 = .ok (.putfield 26, 3) := by decide +kernel
theorem dX4_fail_5 : decode cX4_fail 5 = .ok (.iconst 0, 1) := by decide +kernel
theorem dX4_fail_6 : decode cX4_fail 6 = .ok (.ireturn, 1) := by decide +kernel
theorem dX4_isIn_0 : decode cX4_isIn 0 = .ok (.iload_n 0, 1) := by decide +kernel
theorem dX4_isIn_1 : decode cX4_isIn 1 = .ok (.iload_n 1, 1) := by decide +kernel
theorem dX4_isIn_2 : decode cX4_isIn 2 = .ok (.if_icmp .lt 12, 3) := by decide +kernel
theorem dX4_isIn_5 : decode cX4_isIn 5 = .ok (.iload_n 0, 1) := by decide +kernel
theorem dX4_isIn_6 : decode cX4_isIn 6 = .ok (.iload_n 2, 1) := by decide +kernel
theorem dX4_isIn_7 : decode cX4_isIn 7 = .ok (.if_icmp .gt 7, 3) := by decide +kernel
theorem dX4_isIn_10 : decode cX4_isIn 10 = .ok (.iconst 1, 1) := by decide +kernel
theorem dX4_isIn_11 : decode cX4_isIn 11 = .ok (.goto 4, 3) := by decide +kernel
theorem dX4_isIn_14 : decode cX4_isIn 14 = .ok (.iconst 0, 1) := by decide +kernel
theorem dX4_isIn_15 : decode cX4_isIn 15 = .ok (.ireturn, 1) := by decide +kernel
set_option maxRecDepth 20000 in
theorem ggX4_isBoat_X4_isIn : GoodIn wsX4_isBoat wsX4_isIn := goodIn_r _ [5] (by decide +kernel) (by decide +kernel)
set_option maxRecDepth 20000 in
theorem gX4_isBoat_X4_isIn : GoodIn wsX4_isBoat (va_wsS RX4 32 yX4_isIn wsX4_isIn) := goodIn_app (goodIn_of _ (by decide +kernel)) ggX4_isBoat_X4_isIn
theorem dX4_isBoat_0 : decode cX4_isBoat 0 = .ok (.iload_n 1, 1) := by decide +kernel
theorem dX4_isBoat_1 : decode cX4_isBoat 1 = .ok (.iconst 0, 1) := by decide +kernel
theorem dX4_isBoat_2 : decode cX4_isBoat 2 = .ok (.aload_n 0, 1) := by decide +kernel
theorem dX4_isBoat_3 : decode cX4_isBoat 3 = .ok (.getfield 29, 3) := by decide +kernel
theorem dX4_isBoat_6 : decode cX4_isBoat 6 = .ok (.iconst 1, 1) := by decide +kernel
theorem dX4_isBoat_7 : decode cX4_isBoat 7 = .ok (.isub, 1) := by decide +kernel
theorem dX4_isBoat_8 : decode cX4_isBoat 8 = .ok (.invokestatic 32, 3) := by decide +kernel
theorem dX4_isBoat_11 : decode cX4_isBoat 11 = .ok (.ireturn, 1) := by decide +kernel
theorem dX4_isRace_0 : decode cX4_isRace 0 = .ok (.aload_n 0, 1) := by decide +kernel
theorem dX4_isRace_1 : decode cX4_isRace 1 = .ok (.getfield 23, 3) := by decide +kernel
theorem dX4_isRace_4 : decode cX4_isRace 4 = .ok (.iconst 2, 1) := by decide +kernel
theorem dX4_isRace_5 : decode cX4_isRace 5 = .ok (.iaload, 1) := by decide +kernel
theorem dX4_isRace_6 : decode cX4_isRace 6 = .ok (.iconst 1, 1) := by decide +kernel
theorem dX4_isRace_7 : decode cX4_isRace 7 = .ok (.if_icmp .ne 7, 3) := by decide +kernel
theorem dX4_isRace_10 : decode cX4_isRace 10 = .ok (.iconst 1, 1) := by decide +kernel
theorem dX4_isRace_11 : decode cX4_isRace 11 = .ok (.goto 4, 3) := by decide +kernel
theorem dX4_isRace_14 : decode cX4_isRace 14 = .ok (.iconst 0, 1) := by decide +kernel
theorem dX4_isRace_15 : decode cX4_isRace 15 = .ok (.ireturn, 1) := by decide +kernel
theorem dX4_bo_0 : decode cX4_bo 0 = .ok (.aload_n 0, 1) := by decide +kernel
theorem dX4_bo_1 : decode cX4_bo 1 = .ok (.getfield 20, 3) := by decide +kernel
theorem dX4_bo_4 : decode cX4_bo 4 = .ok (.bipush 10, 2) := by decide +kernel
theorem dX4_bo_6 : decode cX4_bo 6 = .ok (.iload_n 1, 1) := by decide +kernel
theorem dX4_bo_7 : decode cX4_bo 7 = .ok (.imul, 1) := by decide +kernel
theorem dX4_bo_8 : decode cX4_bo 8 = .ok (.iload_n 2, 1) := by decide +kernel
theorem dX4_bo_9 : decode cX4_bo 9 = .ok (.iadd, 1) := by decide +kernel
theorem dX4_bo_10 : decode cX4_bo 10 = .ok (.iaload, 1) := by decide +kernel
theorem dX4_bo_11 : decode cX4_bo 11 = .ok (.ireturn, 1) := by decide +kernel
theorem dX4_put_0 : decode cX4_put 0 = .ok (.aload_n 0, 1) := by decide +kernel
theorem dX4_put_1 : decode cX4_put 1 = .ok (.getfield 20, 3) := by decide +kernel
theorem dX4_put_4 : decode cX4_put 4 = .ok (.bipush 10, 2) := by decide +kernel
theorem dX4_put_6 : decode cX4_put 6 = .ok (.iload_n 1, 1) := by decide +kernel
theorem dX4_put_7 : decode cX4_put 7 = .ok (.imul, 1) := by decide +kernel
theorem dX4_put_8 : decode cX4_put 8 = .ok (.iload_n 2, 1) := by decide +kernel
theorem dX4_put_9 : decode cX4_put 9 = .ok (.iadd, 1) := by decide +kernel
theorem dX4_put_10 : decode cX4_put 10 = .ok (.iload_n 3, 1) := by decide +kernel
theorem dX4_put_11 : decode cX4_put 11 = .ok (.iastore, 1) := by decide +kernel
theorem dX4_put_12 : decode cX4_put 12 = .ok (.return_, 1) := by decide +kernel
set_option maxRecDepth 20000 in
theorem ggX4_pond_X4_isIn : GoodIn wsX4_pond wsX4_isIn := goodIn_r _ [6] (by decide +kernel) (by decide +kernel)
set_option maxRecDepth 20000 in
theorem gX4_pond_X4_isIn : GoodIn wsX4_pond (va_wsS RX4 32 yX4_isIn wsX4_isIn) := goodIn_app (goodIn_of _ (by decide +kernel)) ggX4_pond_X4_isIn
set_option maxRecDepth 20000 in
theorem ggX4_pond_X4_fail : GoodIn wsX4_pond wsX4_fail := goodIn_r _ [10, 1, 16, 17, 18, 19, 20, 21, 22, 23] (by decide +kernel) (by decide +kernel)
set_option maxRecDepth 20000 in
theorem gX4_pond_X4_fail : GoodIn wsX4_pond (wsV RX4 36 RX4 yX4_fail wsX4_fail) := goodIn_app (goodIn_of _ (by decide +kernel)) ggX4_pond_X4_fail
set_option maxRecDepth 20000 in
theorem ggX4_pond_X4_isRace : GoodIn wsX4_pond wsX4_isRace := goodIn_r _ [14, 15, 16, 17, 18, 19, 20, 21, 22, 23] (by decide +kernel) (by decide +kernel)
set_option maxRecDepth 20000 in
theorem gX4_pond_X4_isRace : GoodIn wsX4_pond (wsV RX4 40 RX4 yX4_isRace wsX4_isRace) := goodIn_app (goodIn_of _ (by decide +kernel)) ggX4_pond_X4_isRace
theorem dX4_pond_0 : decode cX4_pond 0 = .ok (.aload_n 0, 1) := by decide +kernel
theorem dX4_pond_1 : decode cX4_pond 1 = .ok (.iconst 0, 1) := by decide +kernel
theorem dX4_pond_2 : decode cX4_pond 2 = .ok (.putfield 26, 3) := by decide +kernel
theorem dX4_pond_5 : decode cX4_pond 5 = .ok (.iload_n 1, 1) := by decide +kernel
theorem dX4_pond_6 : decode cX4_pond 6 = .ok (.bipush 20, 2) := by decide +kernel
theorem dX4_pond_8 : decode cX4_pond 8 = .ok (.sipush 200, 3) := by decide +kernel
theorem dX4_pond_11 : decode cX4_pond 11 = .ok (.invokestatic 32, 3) := by decide +kernel
theorem dX4_pond_14 : decode cX4_pond 14 = .ok (.ifCond .ne 9, 3) := by decide +kernel
theorem dX4_pond_17 : decode cX4_pond 17 = .ok (.aload_n 0, 1) := by decide +kernel
theorem dX4_pond_18 : decode cX4_pond 18 = .ok (.iconst 1, 1) := by decide +kernel
theorem dX4_pond_19 : decode cX4_pond 19 = .ok (.invokevirtual 36, 3) := by decide +kernel
theorem dX4_pond_22 : decode cX4_pond 22 = .ok (.ireturn, 1) := by decide +kernel
theorem dX4_pond_23 : decode cX4_pond 23 = .ok (.aload_n 0, 1) := by decide +kernel
theorem dX4_pond_24 : decode cX4_pond 24 = .ok (.invokevirtual 40, 3) := by decide +kernel
theorem dX4_pond_27 : decode cX4_pond 27 = .ok (.ifCond .eq 9, 3) := by decide +kernel
theorem dX4_pond_30 : decode cX4_pond 30 = .ok (.aload_n 0, 1) := by decide +kernel
theorem dX4_pond_31 : decode cX4_pond 31 = .ok (.iconst 2, 1) := by decide +kernel
theorem dX4_pond_32 : decode cX4_pond 32 = .ok (.invokevirtual 36, 3) := by decide +kernel
theorem dX4_pond_35 : decode cX4_pond 35 = .ok (.ireturn, 1) := by decide +kernel
theorem dX4_pond_36 : decode cX4_pond 36 = .ok (.aload_n 0, 1) := by decide +kernel
theorem dX4_pond_37 : decode cX4_pond 37 = .ok (.getfield 7, 3) := by decide +kernel
theorem dX4_pond_40 : decode cX4_pond 40 = .ok (.istore_n 2, 1) := by decide +kernel
theorem dX4_pond_41 : decode cX4_pond 41 = .ok (.aload_n 0, 1) := by decide +kernel
theorem dX4_pond_42 : decode cX4_pond 42 = .ok (.iload_n 1, 1) := by decide +kernel
theorem dX4_pond_43 : decode cX4_pond 43 = .ok (.putfield 7, 3) := by decide +kernel
theorem dX4_pond_46 : decode cX4_pond 46 = .ok (.iload_n 2, 1) := by decide +kernel
theorem dX4_pond_47 : decode cX4_pond 47 = .ok (.ireturn, 1) := by decide +kernel
set_option maxRecDepth 20000 in
theorem ggX4_setWind_X4_isIn : GoodIn wsX4_setWind wsX4_isIn := goodIn_r _ [6] (by decide +kernel) (by decide +kernel)
set_option maxRecDepth 20000 in
theorem gX4_setWind_X4_isIn : GoodIn wsX4_setWind (va_wsS RX4 32 yX4_isIn wsX4_isIn) := goodIn_app (goodIn_of _ (by decide +kernel)) ggX4_setWind_X4_isIn
set_option maxRecDepth 20000 in
theorem ggX4_setWind_X4_fail : GoodIn wsX4_setWind wsX4_fail := goodIn_r _ [10, 1, 11, 12, 13, 14, 15, 16, 17, 18] (by decide +kernel) (by decide +kernel)
set_option maxRecDepth 20000 in
theorem gX4_setWind_X4_fail : GoodIn wsX4_setWind (wsV RX4 36 RX4 yX4_fail wsX4_fail) := goodIn_app (goodIn_of _ (by decide +kernel)) ggX4_setWind_X4_fail
theorem dX4_setWind_0 : decode cX4_setWind 0 = .ok (.aload_n 0, 1) := by decide +kernel
theorem dX4_setWind_1 : decode cX4_setWind 1 = .ok (.iconst 0, 1) := by decide +kernel
theorem dX4_setWind_2 : decode cX4_setWind 2 = .ok (.putfield 26, 3) := by decide +kernel
theorem dX4_setWind_5 : decode cX4_setWind 5 = .ok (.iload_n 1, 1) := by decide +kernel
theorem dX4_setWind_6 : decode cX4_setWind 6 = .ok (.iconst 0, 1) := by decide +kernel
theorem dX4_setWind_7 : decode cX4_setWind 7 = .ok (.bipush 9, 2) := by decide +kernel
theorem dX4_setWind_9 : decode cX4_setWind 9 = .ok (.invokestatic 32, 3) := by decide +kernel
theorem dX4_setWind_12 : decode cX4_setWind 12 = .ok (.ifCond .ne 9, 3) := by decide +kernel
theorem dX4_setWind_15 : decode cX4_setWind 15 = .ok (.aload_n 0, 1) := by decide +kernel
theorem dX4_setWind_16 : decode cX4_setWind 16 = .ok (.iconst 1, 1) := by decide +kernel
theorem dX4_setWind_17 : decode cX4_setWind 17 = .ok (.invokevirtual 36, 3) := by decide +kernel
theorem dX4_setWind_20 : decode cX4_setWind 20 = .ok (.ireturn, 1) := by decide +kernel
theorem dX4_setWind_21 : decode cX4_setWind 21 = .ok (.iload_n 2, 1) := by decide +kernel
theorem dX4_setWind_22 : decode cX4_setWind 22 = .ok (.iconst 0, 1) := by decide +kernel
theorem dX4_setWind_23 : decode cX4_setWind 23 = .ok (.bipush 9, 2) := by decide +kernel
theorem dX4_setWind_25 : decode cX4_setWind 25 = .ok (.invokestatic 32, 3) := by decide +kernel
theorem dX4_setWind_28 : decode cX4_setWind 28 = .ok (.ifCond .ne 9, 3) := by decide +kernel
theorem dX4_setWind_31 : decode cX4_setWind 31 = .ok (.aload_n 0, 1) := by decide +kernel
theorem dX4_setWind_32 : decode cX4_setWind 32 = .ok (.iconst 2, 1) := by decide +kernel
theorem dX4_setWind_33 : decode cX4_setWind 33 = .ok (.invokevirtual 36, 3) := by decide +kernel
theorem dX4_setWind_36 : decode cX4_setWind 36 = .ok (.ireturn, 1) := by decide +kernel
theorem dX4_setWind_37 : decode cX4_setWind 37 = .ok (.aload_n 0, 1) := by decide +kernel
theorem dX4_setWind_38 : decode cX4_setWind 38 = .ok (.getfield 13, 3) := by decide +kernel
theorem dX4_setWind_41 : decode cX4_setWind 41 = .ok (.iload_n 1, 1) := by decide +kernel
theorem dX4_setWind_42 : decode cX4_setWind 42 = .ok (.iaload, 1) := by decide +kernel
theorem dX4_setWind_43 : decode cX4_setWind 43 = .ok (.istore_n 3, 1) := by decide +kernel
theorem dX4_setWind_44 : decode cX4_setWind 44 = .ok (.aload_n 0, 1) := by decide +kernel
theorem dX4_setWind_45 : decode cX4_setWind 45 = .ok (.getfield 13, 3) := by decide +kernel
theorem dX4_setWind_48 : decode cX4_setWind 48 = .ok (.iload_n 1, 1) := by decide +kernel
theorem dX4_setWind_49 : decode cX4_setWind 49 = .ok (.iload_n 2, 1) := by decide +kernel
theorem dX4_setWind_50 : decode cX4_setWind 50 = .ok (.iastore, 1) := by decide +kernel
theorem dX4_setWind_51 : decode cX4_setWind 51 = .ok (.iload_n 3, 1) := by decide +kernel
theorem dX4_setWind_52 : decode cX4_setWind 52 = .ok (.ireturn, 1) := by decide +kernel
set_option maxRecDepth 20000 in
theorem ggX4_build_X4_isIn : GoodIn wsX4_build wsX4_isIn := goodIn_r _ [12] (by decide +kernel) (by decide +kernel)
set_option maxRecDepth 20000 in
theorem gX4_build_X4_isIn : GoodIn wsX4_build (va_wsS RX4 32 yX4_isIn wsX4_isIn) := goodIn_app (goodIn_of _ (by decide +kernel)) ggX4_build_X4_isIn
set_option maxRecDepth 20000 in
theorem ggX4_build_X4_fail : GoodIn wsX4_build wsX4_fail := goodIn_r _ [16, 1, 22, 23, 24, 25, 26, 27, 28, 29] (by decide +kernel) (by decide +kernel)
set_option maxRecDepth 20000 in
theorem gX4_build_X4_fail : GoodIn wsX4_build (wsV RX4 36 RX4 yX4_fail wsX4_fail) := goodIn_app (goodIn_of _ (by decide +kernel)) ggX4_build_X4_fail
set_option maxRecDepth 20000 in
theorem ggX4_build_X4_isRace : GoodIn wsX4_build wsX4_isRace := goodIn_r _ [20, 21, 22, 23, 24, 25, 26, 27, 28, 29] (by decide +kernel) (by decide +kernel)
set_option maxRecDepth 20000 in
theorem gX4_build_X4_isRace : GoodIn wsX4_build (wsV RX4 40 RX4 yX4_isRace wsX4_isRace) := goodIn_app (goodIn_of _ (by decide +kernel)) ggX4_build_X4_isRace
theorem dX4_build_0 : decode cX4_build 0 = .ok (.aload_n 0, 1) := by decide +kernel
theorem dX4_build_1 : decode cX4_build 1 = .ok (.iconst 0, 1) := by decide +kernel
theorem dX4_build_2 : decode cX4_build 2 = .ok (.putfield 26, 3) := by decide +kernel
theorem dX4_build_5 : decode cX4_build 5 = .ok (.iload_n 2, 1) := by decide +kernel
theorem dX4_build_6 : decode cX4_build 6 = .ok (.iconst 0, 1) := by decide +kernel
theorem dX4_build_7 : decode cX4_build 7 = .ok (.iconst 2, 1) := by decide +kernel
theorem dX4_build_8 : decode cX4_build 8 = .ok (.invokestatic 32, 3) := by decide +kernel
theorem dX4_build_11 : decode cX4_build 11 = .ok (.ifCond .ne 9, 3) := by decide +kernel
theorem dX4_build_14 : decode cX4_build 14 = .ok (.aload_n 0, 1) := by decide +kernel
theorem dX4_build_15 : decode cX4_build 15 = .ok (.iconst 1, 1) := by decide +kernel
theorem dX4_build_16 : decode cX4_build 16 = .ok (.invokevirtual 36, 3) := by decide +kernel
theorem dX4_build_19 : decode cX4_build 19 = .ok (.ireturn, 1) := by decide +kernel
theorem dX4_build_20 : decode cX4_build 20 = .ok (.iload_n 1, 1) := by decide +kernel
theorem dX4_build_21 : decode cX4_build 21 = .ok (.iconst 1, 1) := by decide +kernel
theorem dX4_build_22 : decode cX4_build 22 = .ok (.bipush 9, 2) := by decide +kernel
theorem dX4_build_24 : decode cX4_build 24 = .ok (.invokestatic 32, 3) := by decide +kernel
theorem dX4_build_27 : decode cX4_build 27 = .ok (.ifCond .ne 9, 3) := by decide +kernel
theorem dX4_build_30 : decode cX4_build 30 = .ok (.aload_n 0, 1) := by decide +kernel
theorem dX4_build_31 : decode cX4_build 31 = .ok (.iconst 2, 1) := by decide +kernel
theorem dX4_build_32 : decode cX4_build 32 = .ok (.invokevirtual 36, 3) := by decide +kernel
theorem dX4_build_35 : decode cX4_build 35 = .ok (.ireturn, 1) := by decide +kernel
theorem dX4_build_36 : decode cX4_build 36 = .ok (.aload_n 0, 1) := by decide +kernel
theorem dX4_build_37 : decode cX4_build 37 = .ok (.getfield 29, 3) := by decide +kernel
theorem dX4_build_40 : decode cX4_build 40 = .ok (.bipush 8, 2) := by decide +kernel
theorem dX4_build_42 : decode cX4_build 42 = .ok (.if_icmp .eq 10, 3) := by decide +kernel
theorem dX4_build_45 : decode cX4_build 45 = .ok (.aload_n 0, 1) := by decide +kernel
theorem dX4_build_46 : decode cX4_build 46 = .ok (.invokevirtual 40, 3) := by decide +kernel
theorem dX4_build_49 : decode cX4_build 49 = .ok (.ifCond .eq 9, 3) := by decide +kernel
theorem dX4_build_52 : decode cX4_build 52 = .ok (.aload_n 0, 1) := by decide +kernel
theorem dX4_build_53 : decode cX4_build 53 = .ok (.iconst 3, 1) := by decide +kernel
theorem dX4_build_54 : decode cX4_build 54 = .ok (.invokevirtual 36, 3) := by decide +kernel
theorem dX4_build_57 : decode cX4_build 57 = .ok (.ireturn, 1) := by decide +kernel
theorem dX4_build_58 : decode cX4_build 58 = .ok (.bipush 10, 2) := by decide +kernel
theorem dX4_build_60 : decode cX4_build 60 = .ok (.newarray .int, 2) := by decide +kernel
theorem dX4_build_62 : decode cX4_build 62 = .ok (.dup, 1) := by decide +kernel
theorem dX4_build_63 : decode cX4_build 63 = .ok (.iconst 0, 1) := by decide +kernel
theorem dX4_build_64 : decode cX4_build 64 = .ok (.iload_n 1, 1) := by decide +kernel
theorem dX4_build_65 : decode cX4_build 65 = .ok (.iastore, 1) := by decide +kernel
theorem dX4_build_66 : decode cX4_build 66 = .ok (.dup, 1) := by decide +kernel
theorem dX4_build_67 : decode cX4_build 67 = .ok (.iconst 1, 1) := by decide +kernel
theorem dX4_build_68 : decode cX4_build 68 = .ok (.iload_n 2, 1) := by decide +kernel
theorem dX4_build_69 : decode cX4_build 69 = .ok (.iastore, 1) := by decide +kernel
theorem dX4_build_70 : decode cX4_build 70 = .ok (.dup, 1) := by decide +kernel
theorem dX4_build_71 : decode cX4_build 71 = .ok (.iconst 2, 1) := by decide +kernel
theorem dX4_build_72 : decode cX4_build 72 = .ok (.iconst 0, 1) := by decide +kernel
theorem dX4_build_73 : decode cX4_build 73 = .ok (.iastore, 1) := by decide +kernel
theorem dX4_build_74 : decode cX4_build 74 = .ok (.dup, 1) := by decide +kernel
theorem dX4_build_75 : decode cX4_build 75 = .ok (.iconst 3, 1) := by decide +kernel
theorem dX4_build_76 : decode cX4_build 76 = .ok (.iconst 0, 1) := by decide +kernel
theorem dX4_build_77 : decode cX4_build 77 = .ok (.iastore, 1) := by decide +kernel
theorem dX4_build_78 : decode cX4_build 78 = .ok (.dup, 1) := by decide +kernel
theorem dX4_build_79 : decode cX4_build 79 = .ok (.iconst 4, 1) := by decide +kernel
theorem dX4_build_80 : decode cX4_build 80 = .ok (.iconst 0, 1) := by decide +kernel
theorem dX4_build_81 : decode cX4_build 81 = .ok (.iastore, 1) := by decide +kernel
theorem dX4_build_82 : decode cX4_build 82 = .ok (.dup, 1) := by decide +kernel
theorem dX4_build_83 : decode cX4_build 83 = .ok (.iconst 5, 1) := by decide +kernel
theorem dX4_build_84 : decode cX4_build 84 = .ok (.iconst 0, 1) := by decide +kernel
theorem dX4_build_85 : decode cX4_build 85 = .ok (.iastore, 1) := by decide +kernel
theorem dX4_build_86 : decode cX4_build 86 = .ok (.dup, 1) := by decide +kernel
theorem dX4_build_87 : decode cX4_build 87 = .ok (.bipush 6, 2) := by decide +kernel
theorem dX4_build_89 : decode cX4_build 89 = .ok (.iconst (-1), 1) := by decide +kernel
theorem dX4_build_90 : decode cX4_build 90 = .ok (.iastore, 1) := by decide +kernel
theorem dX4_build_91 : decode cX4_build 91 = .ok (.dup, 1) := by decide +kernel
theorem dX4_build_92 : decode cX4_build 92 = .ok (.bipush 7, 2) := by decide +kernel
theorem dX4_build_94 : decode cX4_build 94 = .ok (.iconst 0, 1) := by decide +kernel
theorem dX4_build_95 : decode cX4_build 95 = .ok (.iastore, 1) := by decide +kernel
theorem dX4_build_96 : decode cX4_build 96 = .ok (.dup, 1) := by decide +kernel
theorem dX4_build_97 : decode cX4_build 97 = .ok (.bipush 8, 2) := by decide +kernel
theorem dX4_build_99 : decode cX4_build 99 = .ok (.iconst 0, 1) := by decide +kernel
theorem dX4_build_100 : decode cX4_build 100 = .ok (.iastore, 1) := by decide +kernel
theorem dX4_build_101 : decode cX4_build 101 = .ok (.dup, 1) := by decide +kernel
theorem dX4_build_102 : decode cX4_build 102 = .ok (.bipush 9, 2) := by decide +kernel
theorem dX4_build_104 : decode cX4_build 104 = .ok (.iconst 0, 1) := by decide +kernel
theorem dX4_build_105 : decode cX4_build 105 = .ok (.iastore, 1) := by decide +kernel
theorem dX4_build_106 : decode cX4_build 106 = .ok (.astore_n 3, 1) := by decide +kernel
theorem dX4_build_107 : decode cX4_build 107 = .ok (.aload_n 3, 1) := by decide +kernel
theorem dX4_build_108 : decode cX4_build 108 = .ok (.iconst 0, 1) := by decide +kernel
theorem dX4_build_109 : decode cX4_build 109 = .ok (.aload_n 0, 1) := by decide +kernel
theorem dX4_build_110 : decode cX4_build 110 = .ok (.getfield 20, 3) := by decide +kernel
theorem dX4_build_113 : decode cX4_build 113 = .ok (.bipush 10, 2) := by decide +kernel
theorem dX4_build_115 : decode cX4_build 115 = .ok (.aload_n 0, 1) := by decide +kernel
theorem dX4_build_116 : decode cX4_build 116 = .ok (.getfield 29, 3) := by decide +kernel
theorem dX4_build_119 : decode cX4_build 119 = .ok (.imul, 1) := by decide +kernel
theorem dX4_build_120 : decode cX4_build 120 = .ok (.bipush 10, 2) := by decide +kernel
theorem dX4_build_122 : decode cX4_build 122 = .ok (.invokestatic 44, 3) := by decide +kernel
theorem dX4_build_125 : decode cX4_build 125 = .ok (.aload_n 0, 1) := by decide +kernel
theorem dX4_build_126 : decode cX4_build 126 = .ok (.dup, 1) := by decide +kernel
theorem dX4_build_127 : decode cX4_build 127 = .ok (.getfield 29, 3) := by decide +kernel
theorem dX4_build_130 : decode cX4_build 130 = .ok (.iconst 1, 1) := by decide +kernel
theorem dX4_build_131 : decode cX4_build 131 = .ok (.iadd, 1) := by decide +kernel
theorem dX4_build_132 : decode cX4_build 132 = .ok (.putfield 29, 3) := by decide +kernel
theorem dX4_build_135 : decode cX4_build 135 = .ok (.aload_n 0, 1) := by decide +kernel
theorem dX4_build_136 : decode cX4_build 136 = .ok (.getfield 29, 3) := by decide +kernel
theorem dX4_build_139 : decode cX4_build 139 = .ok (.iconst 1, 1) := by decide +kernel
theorem dX4_build_140 : decode cX4_build 140 = .ok (.isub, 1) := by decide +kernel
theorem dX4_build_141 : decode cX4_build 141 = .ok (.ireturn, 1) := by decide +kernel
set_option maxRecDepth 20000 in
theorem ggX4_ballast_X4_isBoat : GoodIn wsX4_ballast wsX4_isBoat := goodIn_r _ [6, 7, 8, 9, 5, 10, 29, 30, 31, 32, 33, 34, 35, 36] (by decide +kernel) (by decide +kernel)
set_option maxRecDepth 20000 in
theorem gX4_ballast_X4_isBoat : GoodIn wsX4_ballast (wsV RX4 50 RX4 yX4_isBoat wsX4_isBoat) := goodIn_app (goodIn_of _ (by decide +kernel)) ggX4_ballast_X4_isBoat
set_option maxRecDepth 20000 in
theorem ggX4_ballast_X4_fail : GoodIn wsX4_ballast wsX4_fail := goodIn_r _ [14, 1, 29, 30, 31, 32, 33, 34, 35, 36] (by decide +kernel) (by decide +kernel)
set_option maxRecDepth 20000 in
theorem gX4_ballast_X4_fail : GoodIn wsX4_ballast (wsV RX4 36 RX4 yX4_fail wsX4_fail) := goodIn_app (goodIn_of _ (by decide +kernel)) ggX4_ballast_X4_fail
set_option maxRecDepth 20000 in
theorem ggX4_ballast_X4_isIn : GoodIn wsX4_ballast wsX4_isIn := goodIn_r _ [10] (by decide +kernel) (by decide +kernel)
set_option maxRecDepth 20000 in
theorem gX4_ballast_X4_isIn : GoodIn wsX4_ballast (va_wsS RX4 32 yX4_isIn wsX4_isIn) := goodIn_app (goodIn_of _ (by decide +kernel)) ggX4_ballast_X4_isIn
set_option maxRecDepth 20000 in
theorem ggX4_ballast_X4_isRace : GoodIn wsX4_ballast wsX4_isRace := goodIn_r _ [18, 19, 29, 30, 31, 32, 33, 34, 35, 36] (by decide +kernel) (by decide +kernel)
set_option maxRecDepth 20000 in
theorem gX4_ballast_X4_isRace : GoodIn wsX4_ballast (wsV RX4 40 RX4 yX4_isRace wsX4_isRace) := goodIn_app (goodIn_of _ (by decide +kernel)) ggX4_ballast_X4_isRace
set_option maxRecDepth 20000 in
theorem ggX4_ballast_X4_bo : GoodIn wsX4_ballast wsX4_bo := goodIn_r _ [23, 24, 29, 30, 31, 32, 33, 34, 35, 36] (by decide +kernel) (by decide +kernel)
set_option maxRecDepth 20000 in
theorem gX4_ballast_X4_bo : GoodIn wsX4_ballast (wsV RX4 54 RX4 yX4_bo wsX4_bo) := goodIn_app (goodIn_of _ (by decide +kernel)) ggX4_ballast_X4_bo
set_option maxRecDepth 20000 in
theorem ggX4_ballast_X4_put : GoodIn wsX4_ballast wsX4_put := goodIn_r _ [28, 24, 29, 30, 31, 32, 33, 34, 35, 36] (by decide +kernel) (by decide +kernel)
set_option maxRecDepth 20000 in
theorem gX4_ballast_X4_put : GoodIn wsX4_ballast (wsV RX4 58 RX4 yX4_put wsX4_put) := goodIn_app (goodIn_of _ (by decide +kernel)) ggX4_ballast_X4_put
theorem dX4_ballast_0 : decode cX4_ballast 0 = .ok (.aload_n 0, 1) := by decide +kernel
theorem dX4_ballast_1 : decode cX4_ballast 1 = .ok (.iconst 0, 1) := by decide +kernel
theorem dX4_ballast_2 : decode cX4_ballast 2 = .ok (.putfield 26, 3) := by decide +kernel
theorem dX4_ballast_5 : decode cX4_ballast 5 = .ok (.aload_n 0, 1) := by decide +kernel
theorem dX4_ballast_6 : decode cX4_ballast 6 = .ok (.iload_n 1, 1) := by decide +kernel
theorem dX4_ballast_7 : decode cX4_ballast 7 = .ok (.invokevirtual 50, 3) := by decide +kernel
theorem dX4_ballast_10 : decode cX4_ballast 10 = .ok (.ifCond .ne 9, 3) := by decide +kernel
theorem dX4_ballast_13 : decode cX4_ballast 13 = .ok (.aload_n 0, 1) := by decide +kernel
theorem dX4_ballast_14 : decode cX4_ballast 14 = .ok (.iconst 1, 1) := by decide +kernel
theorem dX4_ballast_15 : decode cX4_ballast 15 = .ok (.invokevirtual 36, 3) := by decide +kernel
theorem dX4_ballast_18 : decode cX4_ballast 18 = .ok (.ireturn, 1) := by decide +kernel
theorem dX4_ballast_19 : decode cX4_ballast 19 = .ok (.iload_n 2, 1) := by decide +kernel
theorem dX4_ballast_20 : decode cX4_ballast 20 = .ok (.iconst 0, 1) := by decide +kernel
theorem dX4_ballast_21 : decode cX4_ballast 21 = .ok (.bipush 9, 2) := by decide +kernel
theorem dX4_ballast_23 : decode cX4_ballast 23 = .ok (.invokestatic 32, 3) := by decide +kernel
theorem dX4_ballast_26 : decode cX4_ballast 26 = .ok (.ifCond .ne 9, 3) := by decide +kernel
theorem dX4_ballast_29 : decode cX4_ballast 29 = .ok (.aload_n 0, 1) := by decide +kernel
theorem dX4_ballast_30 : decode cX4_ballast 30 = .ok (.iconst 2, 1) := by decide +kernel
theorem dX4_ballast_31 : decode cX4_ballast 31 = .ok (.invokevirtual 36, 3) := by decide +kernel
theorem dX4_ballast_34 : decode cX4_ballast 34 = .ok (.ireturn, 1) := by decide +kernel
theorem dX4_ballast_35 : decode cX4_ballast 35 = .ok (.aload_n 0, 1) := by decide +kernel
theorem dX4_ballast_36 : decode cX4_ballast 36 = .ok (.invokevirtual 40, 3) := by decide +kernel
theorem dX4_ballast_39 : decode cX4_ballast 39 = .ok (.ifCond .eq 9, 3) := by decide +kernel
theorem dX4_ballast_42 : decode cX4_ballast 42 = .ok (.aload_n 0, 1) := by decide +kernel
theorem dX4_ballast_43 : decode cX4_ballast 43 = .ok (.iconst 3, 1) := by decide +kernel
theorem dX4_ballast_44 : decode cX4_ballast 44 = .ok (.invokevirtual 36, 3) := by decide +kernel
theorem dX4_ballast_47 : decode cX4_ballast 47 = .ok (.ireturn, 1) := by decide +kernel
theorem dX4_ballast_48 : decode cX4_ballast 48 = .ok (.aload_n 0, 1) := by decide +kernel
theorem dX4_ballast_49 : decode cX4_ballast 49 = .ok (.iload_n 1, 1) := by decide +kernel
theorem dX4_ballast_50 : decode cX4_ballast 50 = .ok (.iconst 2, 1) := by decide +kernel
theorem dX4_ballast_51 : decode cX4_ballast 51 = .ok (.invokevirtual 54, 3) := by decide +kernel
theorem dX4_ballast_54 : decode cX4_ballast 54 = .ok (.istore_n 3, 1) := by decide +kernel
theorem dX4_ballast_55 : decode cX4_ballast 55 = .ok (.aload_n 0, 1) := by decide +kernel
theorem dX4_ballast_56 : decode cX4_ballast 56 = .ok (.iload_n 1, 1) := by decide +kernel
theorem dX4_ballast_57 : decode cX4_ballast 57 = .ok (.iconst 2, 1) := by decide +kernel
theorem dX4_ballast_58 : decode cX4_ballast 58 = .ok (.iload_n 2, 1) := by decide +kernel
theorem dX4_ballast_59 : decode cX4_ballast 59 = .ok (.invokevirtual 58, 3) := by decide +kernel
theorem dX4_ballast_62 : decode cX4_ballast 62 = .ok (.iload_n 3, 1) := by decide +kernel
theorem dX4_ballast_63 : decode cX4_ballast 63 = .ok (.ireturn, 1) := by decide +kernel
set_option maxRecDepth 20000 in
theorem ggX4_judge_X4_isIn : GoodIn wsX4_judge wsX4_isIn := goodIn_r _ [7] (by decide +kernel) (by decide +kernel)
set_option maxRecDepth 20000 in
theorem gX4_judge_X4_isIn : GoodIn wsX4_judge (va_wsS RX4 32 yX4_isIn wsX4_isIn) := goodIn_app (goodIn_of _ (by decide +kernel)) ggX4_judge_X4_isIn
set_option maxRecDepth 20000 in
theorem ggX4_judge_X4_fail : GoodIn wsX4_judge wsX4_fail := goodIn_r _ [11, 1, 12, 13, 14, 15, 16, 17, 18, 19] (by decide +kernel) (by decide +kernel)
set_option maxRecDepth 20000 in
theorem gX4_judge_X4_fail : GoodIn wsX4_judge (wsV RX4 36 RX4 yX4_fail wsX4_fail) := goodIn_app (goodIn_of _ (by decide +kernel)) ggX4_judge_X4_fail
theorem dX4_judge_0 : decode cX4_judge 0 = .ok (.aload_n 0, 1) := by decide +kernel
theorem dX4_judge_1 : decode cX4_judge 1 = .ok (.iconst 0, 1) := by decide +kernel
theorem dX4_judge_2 : decode cX4_judge 2 = .ok (.putfield 26, 3) := by decide +kernel
theorem dX4_judge_5 : decode cX4_judge 5 = .ok (.iload_n 1, 1) := by decide +kernel
theorem dX4_judge_6 : decode cX4_judge 6 = .ok (.iconst 0, 1) := by decide +kernel
theorem dX4_judge_7 : decode cX4_judge 7 = .ok (.sipush 199, 3) := by decide +kernel
theorem dX4_judge_10 : decode cX4_judge 10 = .ok (.invokestatic 32, 3) := by decide +kernel
theorem dX4_judge_13 : decode cX4_judge 13 = .ok (.ifCond .ne 9, 3) := by decide +kernel
theorem dX4_judge_16 : decode cX4_judge 16 = .ok (.aload_n 0, 1) := by decide +kernel
theorem dX4_judge_17 : decode cX4_judge 17 = .ok (.iconst 1, 1) := by decide +kernel
theorem dX4_judge_18 : decode cX4_judge 18 = .ok (.invokevirtual 36, 3) := by decide +kernel
theorem dX4_judge_21 : decode cX4_judge 21 = .ok (.ireturn, 1) := by decide +kernel
theorem dX4_judge_22 : decode cX4_judge 22 = .ok (.aload_n 0, 1) := by decide +kernel
theorem dX4_judge_23 : decode cX4_judge 23 = .ok (.getfield 62, 3) := by decide +kernel
theorem dX4_judge_26 : decode cX4_judge 26 = .ok (.iconst 3, 1) := by decide +kernel
theorem dX4_judge_27 : decode cX4_judge 27 = .ok (.if_icmp .ne 9, 3) := by decide +kernel
theorem dX4_judge_30 : decode cX4_judge 30 = .ok (.aload_n 0, 1) := by decide +kernel
theorem dX4_judge_31 : decode cX4_judge 31 = .ok (.iconst 2, 1) := by decide +kernel
theorem dX4_judge_32 : decode cX4_judge 32 = .ok (.invokevirtual 36, 3) := by decide +kernel
theorem dX4_judge_35 : decode cX4_judge 35 = .ok (.ireturn, 1) := by decide +kernel
theorem dX4_judge_36 : decode cX4_judge 36 = .ok (.aload_n 0, 1) := by decide +kernel
theorem dX4_judge_37 : decode cX4_judge 37 = .ok (.getfield 17, 3) := by decide +kernel
theorem dX4_judge_40 : decode cX4_judge 40 = .ok (.aload_n 0, 1) := by decide +kernel
theorem dX4_judge_41 : decode cX4_judge 41 = .ok (.getfield 62, 3) := by decide +kernel
theorem dX4_judge_44 : decode cX4_judge 44 = .ok (.iload_n 1, 1) := by decide +kernel
theorem dX4_judge_45 : decode cX4_judge 45 = .ok (.iastore, 1) := by decide +kernel
theorem dX4_judge_46 : decode cX4_judge 46 = .ok (.aload_n 0, 1) := by decide +kernel
theorem dX4_judge_47 : decode cX4_judge 47 = .ok (.dup, 1) := by decide +kernel
theorem dX4_judge_48 : decode cX4_judge 48 = .ok (.getfield 62, 3) := by decide +kernel
theorem dX4_judge_51 : decode cX4_judge 51 = .ok (.iconst 1, 1) := by decide +kernel
theorem dX4_judge_52 : decode cX4_judge 52 = .ok (.iadd, 1) := by decide +kernel
theorem dX4_judge_53 : decode cX4_judge 53 = .ok (.putfield 62, 3) := by decide +kernel
theorem dX4_judge_56 : decode cX4_judge 56 = .ok (.aload_n 0, 1) := by decide +kernel
theorem dX4_judge_57 : decode cX4_judge 57 = .ok (.getfield 62, 3) := by decide +kernel
theorem dX4_judge_60 : decode cX4_judge 60 = .ok (.ireturn, 1) := by decide +kernel
theorem dX4_wind_0 : decode cX4_wind 0 = .ok (.aload_n 0, 1) := by decide +kernel
theorem dX4_wind_1 : decode cX4_wind 1 = .ok (.getfield 13, 3) := by decide +kernel
theorem dX4_wind_4 : decode cX4_wind 4 = .ok (.aload_n 0, 1) := by decide +kernel
theorem dX4_wind_5 : decode cX4_wind 5 = .ok (.getfield 23, 3) := by decide +kernel
theorem dX4_wind_8 : decode cX4_wind 8 = .ok (.iconst 0, 1) := by decide +kernel
theorem dX4_wind_9 : decode cX4_wind 9 = .ok (.iaload, 1) := by decide +kernel
theorem dX4_wind_10 : decode cX4_wind 10 = .ok (.bipush 10, 2) := by decide +kernel
theorem dX4_wind_12 : decode cX4_wind 12 = .ok (.irem, 1) := by decide +kernel
theorem dX4_wind_13 : decode cX4_wind 13 = .ok (.iaload, 1) := by decide +kernel
theorem dX4_wind_14 : decode cX4_wind 14 = .ok (.ireturn, 1) := by decide +kernel
set_option maxRecDepth 20000 in
theorem ggX4_pull_X4_bo : GoodIn wsX4_pull wsX4_bo := goodIn_r _ [5, 6, 7, 8, 9, 10, 11, 12, 13, 14] (by decide +kernel) (by decide +kernel)
set_option maxRecDepth 20000 in
theorem gX4_pull_X4_bo : GoodIn wsX4_pull (wsV RX4 54 RX4 yX4_bo wsX4_bo) := goodIn_app (goodIn_of _ (by decide +kernel)) ggX4_pull_X4_bo
theorem dX4_pull_0 : decode cX4_pull 0 = .ok (.aload_n 0, 1) := by decide +kernel
theorem dX4_pull_1 : decode cX4_pull 1 = .ok (.iload_n 1, 1) := by decide +kernel
theorem dX4_pull_2 : decode cX4_pull 2 = .ok (.iconst 1, 1) := by decide +kernel
theorem dX4_pull_3 : decode cX4_pull 3 = .ok (.invokevirtual 54, 3) := by decide +kernel
theorem dX4_pull_6 : decode cX4_pull 6 = .ok (.ifCond .ne 9, 3) := by decide +kernel
theorem dX4_pull_9 : decode cX4_pull 9 = .ok (.iconst 3, 1) := by decide +kernel
theorem dX4_pull_10 : decode cX4_pull 10 = .ok (.iload_n 2, 1) := by decide +kernel
theorem dX4_pull_11 : decode cX4_pull 11 = .ok (.imul, 1) := by decide +kernel
theorem dX4_pull_12 : decode cX4_pull 12 = .ok (.goto 32, 3) := by decide +kernel
theorem dX4_pull_15 : decode cX4_pull 15 = .ok (.aload_n 0, 1) := by decide +kernel
theorem dX4_pull_16 : decode cX4_pull 16 = .ok (.iload_n 1, 1) := by decide +kernel
theorem dX4_pull_17 : decode cX4_pull 17 = .ok (.iconst 1, 1) := by decide +kernel
theorem dX4_pull_18 : decode cX4_pull 18 = .ok (.invokevirtual 54, 3) := by decide +kernel
theorem dX4_pull_21 : decode cX4_pull 21 = .ok (.iconst 1, 1) := by decide +kernel
theorem dX4_pull_22 : decode cX4_pull 22 = .ok (.if_icmp .ne 11, 3) := by decide +kernel
theorem dX4_pull_25 : decode cX4_pull 25 = .ok (.iload_n 2, 1) := by decide +kernel
theorem dX4_pull_26 : decode cX4_pull 26 = .ok (.iload_n 2, 1) := by decide +kernel
theorem dX4_pull_27 : decode cX4_pull 27 = .ok (.imul, 1) := by decide +kernel
theorem dX4_pull_28 : decode cX4_pull 28 = .ok (.iconst 2, 1) := by decide +kernel
theorem dX4_pull_29 : decode cX4_pull 29 = .ok (.idiv, 1) := by decide +kernel
theorem dX4_pull_30 : decode cX4_pull 30 = .ok (.goto 14, 3) := by decide +kernel
theorem dX4_pull_33 : decode cX4_pull 33 = .ok (.iload_n 2, 1) := by decide +kernel
theorem dX4_pull_34 : decode cX4_pull 34 = .ok (.ifCond .ne 7, 3) := by decide +kernel
theorem dX4_pull_37 : decode cX4_pull 37 = .ok (.iconst 0, 1) := by decide +kernel
theorem dX4_pull_38 : decode cX4_pull 38 = .ok (.goto 6, 3) := by decide +kernel
theorem dX4_pull_41 : decode cX4_pull 41 = .ok (.iconst 5, 1) := by decide +kernel
theorem dX4_pull_42 : decode cX4_pull 42 = .ok (.iload_n 2, 1) := by decide +kernel
theorem dX4_pull_43 : decode cX4_pull 43 = .ok (.iadd, 1) := by decide +kernel
theorem dX4_pull_44 : decode cX4_pull 44 = .ok (.ireturn, 1) := by decide +kernel
set_option maxRecDepth 20000 in
theorem ggX4_heel_X4_pull : GoodIn wsX4_heel wsX4_pull := goodIn_r _ [9, 10, 11, 12, 8, 13, 14, 15, 16, 17, 18, 19, 20, 21, 22] (by decide +kernel) (by decide +kernel)
set_option maxRecDepth 20000 in
theorem gX4_heel_X4_pull : GoodIn wsX4_heel (wsV RX4 65 RX4 yX4_pull wsX4_pull) := goodIn_app (goodIn_of _ (by decide +kernel)) ggX4_heel_X4_pull
set_option maxRecDepth 20000 in
theorem ggX4_heel_X4_bo : GoodIn wsX4_heel wsX4_bo := goodIn_r _ [13, 14, 15, 16, 17, 18, 19, 20, 21, 22] (by decide +kernel) (by decide +kernel)
set_option maxRecDepth 20000 in
theorem gX4_heel_X4_bo : GoodIn wsX4_heel (wsV RX4 54 RX4 yX4_bo wsX4_bo) := goodIn_app (goodIn_of _ (by decide +kernel)) ggX4_heel_X4_bo
theorem dX4_heel_0 : decode cX4_heel 0 = .ok (.iconst 0, 1) := by decide +kernel
theorem dX4_heel_1 : decode cX4_heel 1 = .ok (.iconst 4, 1) := by decide +kernel
theorem dX4_heel_2 : decode cX4_heel 2 = .ok (.aload_n 0, 1) := by decide +kernel
theorem dX4_heel_3 : decode cX4_heel 3 = .ok (.iload_n 1, 1) := by decide +kernel
theorem dX4_heel_4 : decode cX4_heel 4 = .ok (.iload_n 2, 1) := by decide +kernel
theorem dX4_heel_5 : decode cX4_heel 5 = .ok (.invokevirtual 65, 3) := by decide +kernel
theorem dX4_heel_8 : decode cX4_heel 8 = .ok (.imul, 1) := by decide +kernel
theorem dX4_heel_9 : decode cX4_heel 9 = .ok (.iconst 5, 1) := by decide +kernel
theorem dX4_heel_10 : decode cX4_heel 10 = .ok (.aload_n 0, 1) := by decide +kernel
theorem dX4_heel_11 : decode cX4_heel 11 = .ok (.iload_n 1, 1) := by decide +kernel
theorem dX4_heel_12 : decode cX4_heel 12 = .ok (.iconst 2, 1) := by decide +kernel
theorem dX4_heel_13 : decode cX4_heel 13 = .ok (.invokevirtual 54, 3) := by decide +kernel
theorem dX4_heel_16 : decode cX4_heel 16 = .ok (.imul, 1) := by decide +kernel
theorem dX4_heel_17 : decode cX4_heel 17 = .ok (.isub, 1) := by decide +kernel
theorem dX4_heel_18 : decode cX4_heel 18 = .ok (.iconst 2, 1) := by decide +kernel
theorem dX4_heel_19 : decode cX4_heel 19 = .ok (.aload_n 0, 1) := by decide +kernel
theorem dX4_heel_20 : decode cX4_heel 20 = .ok (.iload_n 1, 1) := by decide +kernel
theorem dX4_heel_21 : decode cX4_heel 21 = .ok (.iconst 0, 1) := by decide +kernel
theorem dX4_heel_22 : decode cX4_heel 22 = .ok (.invokevirtual 54, 3) := by decide +kernel
theorem dX4_heel_25 : decode cX4_heel 25 = .ok (.imul, 1) := by decide +kernel
theorem dX4_heel_26 : decode cX4_heel 26 = .ok (.isub, 1) := by decide +kernel
theorem dX4_heel_27 : decode cX4_heel 27 = .ok (.invokestatic 68, 3) := by decide +kernel
theorem dX4_heel_30 : decode cX4_heel 30 = .ok (.ireturn, 1) := by decide +kernel
set_option maxRecDepth 20000 in
theorem ggX4_speed_X4_pull : GoodIn wsX4_speed wsX4_pull := goodIn_r _ [9, 10, 11, 12, 8, 13, 14, 15, 16, 17, 18, 19, 20, 21, 22] (by decide +kernel) (by decide +kernel)
set_option maxRecDepth 20000 in
theorem gX4_speed_X4_pull : GoodIn wsX4_speed (wsV RX4 65 RX4 yX4_pull wsX4_pull) := goodIn_app (goodIn_of _ (by decide +kernel)) ggX4_speed_X4_pull
set_option maxRecDepth 20000 in
theorem ggX4_speed_X4_bo : GoodIn wsX4_speed wsX4_bo := goodIn_r _ [13, 14, 15, 16, 17, 18, 19, 20, 21, 22] (by decide +kernel) (by decide +kernel)
set_option maxRecDepth 20000 in
theorem gX4_speed_X4_bo : GoodIn wsX4_speed (wsV RX4 54 RX4 yX4_bo wsX4_bo) := goodIn_app (goodIn_of _ (by decide +kernel)) ggX4_speed_X4_bo
theorem dX4_speed_0 : decode cX4_speed 0 = .ok (.bipush 20, 2) := by decide +kernel
theorem dX4_speed_2 : decode cX4_speed 2 = .ok (.iconst 4, 1) := by decide +kernel
theorem dX4_speed_3 : decode cX4_speed 3 = .ok (.aload_n 0, 1) := by decide +kernel
theorem dX4_speed_4 : decode cX4_speed 4 = .ok (.iload_n 1, 1) := by decide +kernel
theorem dX4_speed_5 : decode cX4_speed 5 = .ok (.iload_n 2, 1) := by decide +kernel
theorem dX4_speed_6 : decode cX4_speed 6 = .ok (.invokevirtual 65, 3) := by decide +kernel
theorem dX4_speed_9 : decode cX4_speed 9 = .ok (.imul, 1) := by decide +kernel
theorem dX4_speed_10 : decode cX4_speed 10 = .ok (.iconst 2, 1) := by decide +kernel
theorem dX4_speed_11 : decode cX4_speed 11 = .ok (.aload_n 0, 1) := by decide +kernel
theorem dX4_speed_12 : decode cX4_speed 12 = .ok (.iload_n 1, 1) := by decide +kernel
theorem dX4_speed_13 : decode cX4_speed 13 = .ok (.iconst 0, 1) := by decide +kernel
theorem dX4_speed_14 : decode cX4_speed 14 = .ok (.invokevirtual 54, 3) := by decide +kernel
theorem dX4_speed_17 : decode cX4_speed 17 = .ok (.iadd, 1) := by decide +kernel
theorem dX4_speed_18 : decode cX4_speed 18 = .ok (.aload_n 0, 1) := by decide +kernel
theorem dX4_speed_19 : decode cX4_speed 19 = .ok (.iload_n 1, 1) := by decide +kernel
theorem dX4_speed_20 : decode cX4_speed 20 = .ok (.iconst 2, 1) := by decide +kernel
theorem dX4_speed_21 : decode cX4_speed 21 = .ok (.invokevirtual 54, 3) := by decide +kernel
theorem dX4_speed_24 : decode cX4_speed 24 = .ok (.iconst 2, 1) := by decide +kernel
theorem dX4_speed_25 : decode cX4_speed 25 = .ok (.idiv, 1) := by decide +kernel
theorem dX4_speed_26 : decode cX4_speed 26 = .ok (.iadd, 1) := by decide +kernel
theorem dX4_speed_27 : decode cX4_speed 27 = .ok (.idiv, 1) := by decide +kernel
theorem dX4_speed_28 : decode cX4_speed 28 = .ok (.invokestatic 73, 3) := by decide +kernel
theorem dX4_speed_31 : decode cX4_speed 31 = .ok (.ireturn, 1) := by decide +kernel
set_option maxRecDepth 20000 in
theorem ggX4_sailing_X4_bo : GoodIn wsX4_sailing wsX4_bo := goodIn_r _ [6, 7, 8, 9, 10, 11, 12, 13, 14, 15] (by decide +kernel) (by decide +kernel)
set_option maxRecDepth 20000 in
theorem gX4_sailing_X4_bo : GoodIn wsX4_sailing (wsV RX4 54 RX4 yX4_bo wsX4_bo) := goodIn_app (goodIn_of _ (by decide +kernel)) ggX4_sailing_X4_bo
theorem dX4_sailing_0 : decode cX4_sailing 0 = .ok (.iconst 0, 1) := by decide +kernel
theorem dX4_sailing_1 : decode cX4_sailing 1 = .ok (.istore_n 1, 1) := by decide +kernel
theorem dX4_sailing_2 : decode cX4_sailing 2 = .ok (.iconst 0, 1) := by decide +kernel
theorem dX4_sailing_3 : decode cX4_sailing 3 = .ok (.istore_n 2, 1) := by decide +kernel
theorem dX4_sailing_4 : decode cX4_sailing 4 = .ok (.iload_n 2, 1) := by decide +kernel
theorem dX4_sailing_5 : decode cX4_sailing 5 = .ok (.aload_n 0, 1) := by decide +kernel
theorem dX4_sailing_6 : decode cX4_sailing 6 = .ok (.getfield 29, 3) := by decide +kernel
theorem dX4_sailing_9 : decode cX4_sailing 9 = .ok (.if_icmp .ge 28, 3) := by decide +kernel
theorem dX4_sailing_12 : decode cX4_sailing 12 = .ok (.iload_n 1, 1) := by decide +kernel
theorem dX4_sailing_13 : decode cX4_sailing 13 = .ok (.aload_n 0, 1) := by decide +kernel
theorem dX4_sailing_14 : decode cX4_sailing 14 = .ok (.iload_n 2, 1) := by decide +kernel
theorem dX4_sailing_15 : decode cX4_sailing 15 = .ok (.bipush 9, 2) := by decide +kernel
theorem dX4_sailing_17 : decode cX4_sailing 17 = .ok (.invokevirtual 54, 3) := by decide +kernel
theorem dX4_sailing_20 : decode cX4_sailing 20 = .ok (.iconst 1, 1) := by decide +kernel
theorem dX4_sailing_21 : decode cX4_sailing 21 = .ok (.if_icmp .ne 7, 3) := by decide +kernel
theorem dX4_sailing_24 : decode cX4_sailing 24 = .ok (.iconst 1, 1) := by decide +kernel
theorem dX4_sailing_25 : decode cX4_sailing 25 = .ok (.goto 4, 3) := by decide +kernel
theorem dX4_sailing_28 : decode cX4_sailing 28 = .ok (.iconst 0, 1) := by decide +kernel
theorem dX4_sailing_29 : decode cX4_sailing 29 = .ok (.iadd, 1) := by decide +kernel
theorem dX4_sailing_30 : decode cX4_sailing 30 = .ok (.istore_n 1, 1) := by decide +kernel
theorem dX4_sailing_31 : decode cX4_sailing 31 = .ok (.iinc 2 1, 3) := by decide +kernel
theorem dX4_sailing_34 : decode cX4_sailing 34 = .ok (.goto (-30), 3) := by decide +kernel
theorem dX4_sailing_37 : decode cX4_sailing 37 = .ok (.iload_n 1, 1) := by decide +kernel
theorem dX4_sailing_38 : decode cX4_sailing 38 = .ok (.ireturn, 1) := by decide +kernel
set_option maxRecDepth 20000 in
theorem ggX4_begin_X4_put : GoodIn wsX4_begin wsX4_put := goodIn_r _ [7, 8, 17, 18, 19, 20, 21, 22, 23, 24] (by decide +kernel) (by decide +kernel)
set_option maxRecDepth 20000 in
theorem gX4_begin_X4_put : GoodIn wsX4_begin (wsV RX4 58 RX4 yX4_put wsX4_put) := goodIn_app (goodIn_of _ (by decide +kernel)) ggX4_begin_X4_put
set_option maxRecDepth 20000 in
theorem ggX4_begin_X4_bo : GoodIn wsX4_begin wsX4_bo := goodIn_r _ [12, 8, 17, 18, 19, 20, 21, 22, 23, 24] (by decide +kernel) (by decide +kernel)
set_option maxRecDepth 20000 in
theorem gX4_begin_X4_bo : GoodIn wsX4_begin (wsV RX4 54 RX4 yX4_bo wsX4_bo) := goodIn_app (goodIn_of _ (by decide +kernel)) ggX4_begin_X4_bo
set_option maxRecDepth 20000 in
theorem ggX4_begin_X4_sailing : GoodIn wsX4_begin wsX4_sailing := goodIn_r _ [16, 1, 9, 10, 11, 6, 12, 8, 17, 18, 19, 20, 21, 22, 23, 24] (by decide +kernel) (by decide +kernel)
set_option maxRecDepth 20000 in
theorem gX4_begin_X4_sailing : GoodIn wsX4_begin (wsV RX4 76 RX4 yX4_sailing wsX4_sailing) := goodIn_app (goodIn_of _ (by decide +kernel)) ggX4_begin_X4_sailing
theorem dX4_begin_0 : decode cX4_begin 0 = .ok (.iconst 0, 1) := by decide +kernel
theorem dX4_begin_1 : decode cX4_begin 1 = .ok (.istore_n 1, 1) := by decide +kernel
theorem dX4_begin_2 : decode cX4_begin 2 = .ok (.iload_n 1, 1) := by decide +kernel
theorem dX4_begin_3 : decode cX4_begin 3 = .ok (.aload_n 0, 1) := by decide +kernel
theorem dX4_begin_4 : decode cX4_begin 4 = .ok (.getfield 29, 3) := by decide +kernel
theorem dX4_begin_7 : decode cX4_begin 7 = .ok (.if_icmp .ge 63, 3) := by decide +kernel
theorem dX4_begin_10 : decode cX4_begin 10 = .ok (.aload_n 0, 1) := by decide +kernel
theorem dX4_begin_11 : decode cX4_begin 11 = .ok (.iload_n 1, 1) := by decide +kernel
theorem dX4_begin_12 : decode cX4_begin 12 = .ok (.iconst 5, 1) := by decide +kernel
theorem dX4_begin_13 : decode cX4_begin 13 = .ok (.iconst 0, 1) := by decide +kernel
theorem dX4_begin_14 : decode cX4_begin 14 = .ok (.invokevirtual 58, 3) := by decide +kernel
theorem dX4_begin_17 : decode cX4_begin 17 = .ok (.aload_n 0, 1) := by decide +kernel
theorem dX4_begin_18 : decode cX4_begin 18 = .ok (.iload_n 1, 1) := by decide +kernel
theorem dX4_begin_19 : decode cX4_begin 19 = .ok (.bipush 6, 2) := by decide +kernel
theorem dX4_begin_21 : decode cX4_begin 21 = .ok (.iconst (-1), 1) := by decide +kernel
theorem dX4_begin_22 : decode cX4_begin 22 = .ok (.invokevirtual 58, 3) := by decide +kernel
theorem dX4_begin_25 : decode cX4_begin 25 = .ok (.aload_n 0, 1) := by decide +kernel
theorem dX4_begin_26 : decode cX4_begin 26 = .ok (.iload_n 1, 1) := by decide +kernel
theorem dX4_begin_27 : decode cX4_begin 27 = .ok (.bipush 7, 2) := by decide +kernel
theorem dX4_begin_29 : decode cX4_begin 29 = .ok (.iconst 0, 1) := by decide +kernel
theorem dX4_begin_30 : decode cX4_begin 30 = .ok (.invokevirtual 58, 3) := by decide +kernel
theorem dX4_begin_33 : decode cX4_begin 33 = .ok (.aload_n 0, 1) := by decide +kernel
theorem dX4_begin_34 : decode cX4_begin 34 = .ok (.iload_n 1, 1) := by decide +kernel
theorem dX4_begin_35 : decode cX4_begin 35 = .ok (.bipush 8, 2) := by decide +kernel
theorem dX4_begin_37 : decode cX4_begin 37 = .ok (.iconst 0, 1) := by decide +kernel
theorem dX4_begin_38 : decode cX4_begin 38 = .ok (.invokevirtual 58, 3) := by decide +kernel
theorem dX4_begin_41 : decode cX4_begin 41 = .ok (.aload_n 0, 1) := by decide +kernel
theorem dX4_begin_42 : decode cX4_begin 42 = .ok (.iload_n 1, 1) := by decide +kernel
theorem dX4_begin_43 : decode cX4_begin 43 = .ok (.bipush 9, 2) := by decide +kernel
theorem dX4_begin_45 : decode cX4_begin 45 = .ok (.aload_n 0, 1) := by decide +kernel
theorem dX4_begin_46 : decode cX4_begin 46 = .ok (.iload_n 1, 1) := by decide +kernel
theorem dX4_begin_47 : decode cX4_begin 47 = .ok (.iconst 4, 1) := by decide +kernel
theorem dX4_begin_48 : decode cX4_begin 48 = .ok (.invokevirtual 54, 3) := by decide +kernel
theorem dX4_begin_51 : decode cX4_begin 51 = .ok (.bipush 9, 2) := by decide +kernel
theorem dX4_begin_53 : decode cX4_begin 53 = .ok (.if_icmp .ge 7, 3) := by decide +kernel
theorem dX4_begin_56 : decode cX4_begin 56 = .ok (.iconst 1, 1) := by decide +kernel
theorem dX4_begin_57 : decode cX4_begin 57 = .ok (.goto 4, 3) := by decide +kernel
theorem dX4_begin_60 : decode cX4_begin 60 = .ok (.iconst 0, 1) := by decide +kernel
theorem dX4_begin_61 : decode cX4_begin 61 = .ok (.invokevirtual 58, 3) := by decide +kernel
theorem dX4_begin_64 : decode cX4_begin 64 = .ok (.iinc 1 1, 3) := by decide +kernel
theorem dX4_begin_67 : decode cX4_begin 67 = .ok (.goto (-65), 3) := by decide +kernel
theorem dX4_begin_70 : decode cX4_begin 70 = .ok (.aload_n 0, 1) := by decide +kernel
theorem dX4_begin_71 : decode cX4_begin 71 = .ok (.getfield 23, 3) := by decide +kernel
theorem dX4_begin_74 : decode cX4_begin 74 = .ok (.iconst 2, 1) := by decide +kernel
theorem dX4_begin_75 : decode cX4_begin 75 = .ok (.iconst 1, 1) := by decide +kernel
theorem dX4_begin_76 : decode cX4_begin 76 = .ok (.iastore, 1) := by decide +kernel
theorem dX4_begin_77 : decode cX4_begin 77 = .ok (.aload_n 0, 1) := by decide +kernel
theorem dX4_begin_78 : decode cX4_begin 78 = .ok (.getfield 23, 3) := by decide +kernel
theorem dX4_begin_81 : decode cX4_begin 81 = .ok (.iconst 3, 1) := by decide +kernel
theorem dX4_begin_82 : decode cX4_begin 82 = .ok (.iconst 0, 1) := by decide +kernel
theorem dX4_begin_83 : decode cX4_begin 83 = .ok (.iastore, 1) := by decide +kernel
theorem dX4_begin_84 : decode cX4_begin 84 = .ok (.aload_n 0, 1) := by decide +kernel
theorem dX4_begin_85 : decode cX4_begin 85 = .ok (.invokevirtual 76, 3) := by decide +kernel
theorem dX4_begin_88 : decode cX4_begin 88 = .ok (.ireturn, 1) := by decide +kernel
set_option maxRecDepth 20000 in
theorem ggX4_ready_X4_bo : GoodIn wsX4_ready wsX4_bo := goodIn_r _ [6, 7, 8, 9, 10, 11, 12, 13, 14, 15] (by decide +kernel) (by decide +kernel)
set_option maxRecDepth 20000 in
theorem gX4_ready_X4_bo : GoodIn wsX4_ready (wsV RX4 54 RX4 yX4_bo wsX4_bo) := goodIn_app (goodIn_of _ (by decide +kernel)) ggX4_ready_X4_bo
theorem dX4_ready_0 : decode cX4_ready 0 = .ok (.iconst 0, 1) := by decide +kernel
theorem dX4_ready_1 : decode cX4_ready 1 = .ok (.istore_n 1, 1) := by decide +kernel
theorem dX4_ready_2 : decode cX4_ready 2 = .ok (.iconst 0, 1) := by decide +kernel
theorem dX4_ready_3 : decode cX4_ready 3 = .ok (.istore_n 2, 1) := by decide +kernel
theorem dX4_ready_4 : decode cX4_ready 4 = .ok (.iload_n 2, 1) := by decide +kernel
theorem dX4_ready_5 : decode cX4_ready 5 = .ok (.aload_n 0, 1) := by decide +kernel
theorem dX4_ready_6 : decode cX4_ready 6 = .ok (.getfield 29, 3) := by decide +kernel
theorem dX4_ready_9 : decode cX4_ready 9 = .ok (.if_icmp .ge 28, 3) := by decide +kernel
theorem dX4_ready_12 : decode cX4_ready 12 = .ok (.iload_n 1, 1) := by decide +kernel
theorem dX4_ready_13 : decode cX4_ready 13 = .ok (.aload_n 0, 1) := by decide +kernel
theorem dX4_ready_14 : decode cX4_ready 14 = .ok (.iload_n 2, 1) := by decide +kernel
theorem dX4_ready_15 : decode cX4_ready 15 = .ok (.iconst 4, 1) := by decide +kernel
theorem dX4_ready_16 : decode cX4_ready 16 = .ok (.invokevirtual 54, 3) := by decide +kernel
theorem dX4_ready_19 : decode cX4_ready 19 = .ok (.bipush 9, 2) := by decide +kernel
theorem dX4_ready_21 : decode cX4_ready 21 = .ok (.if_icmp .ge 7, 3) := by decide +kernel
theorem dX4_ready_24 : decode cX4_ready 24 = .ok (.iconst 1, 1) := by decide +kernel
theorem dX4_ready_25 : decode cX4_ready 25 = .ok (.goto 4, 3) := by decide +kernel
theorem dX4_ready_28 : decode cX4_ready 28 = .ok (.iconst 0, 1) := by decide +kernel
theorem dX4_ready_29 : decode cX4_ready 29 = .ok (.iadd, 1) := by decide +kernel
theorem dX4_ready_30 : decode cX4_ready 30 = .ok (.istore_n 1, 1) := by decide +kernel
theorem dX4_ready_31 : decode cX4_ready 31 = .ok (.iinc 2 1, 3) := by decide +kernel
theorem dX4_ready_34 : decode cX4_ready 34 = .ok (.goto (-30), 3) := by decide +kernel
theorem dX4_ready_37 : decode cX4_ready 37 = .ok (.iload_n 1, 1) := by decide +kernel
theorem dX4_ready_38 : decode cX4_ready 38 = .ok (.ireturn, 1) := by decide +kernel
set_option maxRecDepth 20000 in
theorem ggX4_start_X4_isRace : GoodIn wsX4_start wsX4_isRace := goodIn_r _ [7, 2, 34, 35, 36, 37, 38, 39, 40, 41] (by decide +kernel) (by decide +kernel)
set_option maxRecDepth 20000 in
theorem gX4_start_X4_isRace : GoodIn wsX4_start (wsV RX4 40 RX4 yX4_isRace wsX4_isRace) := goodIn_app (goodIn_of _ (by decide +kernel)) ggX4_start_X4_isRace
set_option maxRecDepth 20000 in
theorem ggX4_start_X4_ready : GoodIn wsX4_start wsX4_ready := goodIn_r _ [11, 12, 13, 14, 15, 6, 16, 17, 34, 35, 36, 37, 38, 39, 40, 41] (by decide +kernel) (by decide +kernel)
set_option maxRecDepth 20000 in
theorem gX4_start_X4_ready : GoodIn wsX4_start (wsV RX4 80 RX4 yX4_ready wsX4_ready) := goodIn_app (goodIn_of _ (by decide +kernel)) ggX4_start_X4_ready
set_option maxRecDepth 20000 in
theorem ggX4_start_X4_fail : GoodIn wsX4_start wsX4_fail := goodIn_r _ [21, 1, 34, 35, 36, 37, 38, 39, 40, 41] (by decide +kernel) (by decide +kernel)
set_option maxRecDepth 20000 in
theorem gX4_start_X4_fail : GoodIn wsX4_start (wsV RX4 36 RX4 yX4_fail wsX4_fail) := goodIn_app (goodIn_of _ (by decide +kernel)) ggX4_start_X4_fail
set_option maxRecDepth 20000 in
theorem ggX4_start_X4_begin : GoodIn wsX4_start wsX4_begin := goodIn_r _ [25, 12, 2, 26, 27, 28, 6, 29, 17, 13, 14, 15, 16, 30, 31, 32, 33, 34, 35, 36, 37, 38, 39, 40, 41] (by decide +kernel) (by decide +kernel)
set_option maxRecDepth 20000 in
theorem gX4_start_X4_begin : GoodIn wsX4_start (wsV RX4 83 RX4 yX4_begin wsX4_begin) := goodIn_app (goodIn_of _ (by decide +kernel)) ggX4_start_X4_begin
theorem dX4_start_0 : decode cX4_start 0 = .ok (.aload_n 0, 1) := by decide +kernel
theorem dX4_start_1 : decode cX4_start 1 = .ok (.iconst 0, 1) := by decide +kernel
theorem dX4_start_2 : decode cX4_start 2 = .ok (.putfield 26, 3) := by decide +kernel
theorem dX4_start_5 : decode cX4_start 5 = .ok (.aload_n 0, 1) := by decide +kernel
theorem dX4_start_6 : decode cX4_start 6 = .ok (.invokevirtual 40, 3) := by decide +kernel
theorem dX4_start_9 : decode cX4_start 9 = .ok (.ifCond .ne 10, 3) := by decide +kernel
theorem dX4_start_12 : decode cX4_start 12 = .ok (.aload_n 0, 1) := by decide +kernel
theorem dX4_start_13 : decode cX4_start 13 = .ok (.invokevirtual 80, 3) := by decide +kernel
theorem dX4_start_16 : decode cX4_start 16 = .ok (.ifCond .ne 9, 3) := by decide +kernel
theorem dX4_start_19 : decode cX4_start 19 = .ok (.aload_n 0, 1) := by decide +kernel
theorem dX4_start_20 : decode cX4_start 20 = .ok (.iconst 1, 1) := by decide +kernel
theorem dX4_start_21 : decode cX4_start 21 = .ok (.invokevirtual 36, 3) := by decide +kernel
theorem dX4_start_24 : decode cX4_start 24 = .ok (.ireturn, 1) := by decide +kernel
theorem dX4_start_25 : decode cX4_start 25 = .ok (.aload_n 0, 1) := by decide +kernel
theorem dX4_start_26 : decode cX4_start 26 = .ok (.getfield 23, 3) := by decide +kernel
theorem dX4_start_29 : decode cX4_start 29 = .ok (.iconst 1, 1) := by decide +kernel
theorem dX4_start_30 : decode cX4_start 30 = .ok (.dup2, 1) := by decide +kernel
theorem dX4_start_31 : decode cX4_start 31 = .ok (.iaload, 1) := by decide +kernel
theorem dX4_start_32 : decode cX4_start 32 = .ok (.iconst 1, 1) := by decide +kernel
theorem dX4_start_33 : decode cX4_start 33 = .ok (.iadd, 1) := by decide +kernel
theorem dX4_start_34 : decode cX4_start 34 = .ok (.iastore, 1) := by decide +kernel
theorem dX4_start_35 : decode cX4_start 35 = .ok (.aload_n 0, 1) := by decide +kernel
theorem dX4_start_36 : decode cX4_start 36 = .ok (.invokevirtual 83, 3) := by decide +kernel
theorem dX4_start_39 : decode cX4_start 39 = .ok (.ireturn, 1) := by decide +kernel
set_option maxRecDepth 20000 in
theorem ggX4_sail_X4_bo : GoodIn wsX4_sail wsX4_bo := goodIn_r _ [9, 10, 36, 37, 38, 39, 40, 41, 42, 43] (by decide +kernel) (by decide +kernel)
set_option maxRecDepth 20000 in
theorem gX4_sail_X4_bo : GoodIn wsX4_sail (wsV RX4 54 RX4 yX4_bo wsX4_bo) := goodIn_app (goodIn_of _ (by decide +kernel)) ggX4_sail_X4_bo
set_option maxRecDepth 20000 in
theorem ggX4_sail_X4_put : GoodIn wsX4_sail wsX4_put := goodIn_r _ [14, 10, 36, 37, 38, 39, 40, 41, 42, 43] (by decide +kernel) (by decide +kernel)
set_option maxRecDepth 20000 in
theorem gX4_sail_X4_put : GoodIn wsX4_sail (wsV RX4 58 RX4 yX4_put wsX4_put) := goodIn_app (goodIn_of _ (by decide +kernel)) ggX4_sail_X4_put
set_option maxRecDepth 20000 in
theorem ggX4_sail_X4_wind : GoodIn wsX4_sail wsX4_wind := goodIn_r _ [18, 19, 20, 36, 37, 38, 39, 40, 41, 42, 43] (by decide +kernel) (by decide +kernel)
set_option maxRecDepth 20000 in
theorem gX4_sail_X4_wind : GoodIn wsX4_sail (wsV RX4 86 RX4 yX4_wind wsX4_wind) := goodIn_app (goodIn_of _ (by decide +kernel)) ggX4_sail_X4_wind
set_option maxRecDepth 20000 in
theorem ggX4_sail_X4_heel : GoodIn wsX4_sail wsX4_heel := goodIn_r _ [24, 25, 26, 3, 27, 28, 29, 30, 8, 31, 5, 6, 7, 9, 10, 36, 37, 38, 39, 40, 41, 42, 43] (by decide +kernel) (by decide +kernel)
set_option maxRecDepth 20000 in
theorem gX4_sail_X4_heel : GoodIn wsX4_sail (wsV RX4 89 RX4 yX4_heel wsX4_heel) := goodIn_app (goodIn_of _ (by decide +kernel)) ggX4_sail_X4_heel
set_option maxRecDepth 20000 in
theorem ggX4_sail_X4_speed : GoodIn wsX4_sail wsX4_speed := goodIn_r _ [35, 1, 2, 3, 4, 28, 29, 30, 8, 31, 5, 6, 7, 9, 10, 36, 37, 38, 39, 40, 41, 42, 43] (by decide +kernel) (by decide +kernel)
set_option maxRecDepth 20000 in
theorem gX4_sail_X4_speed : GoodIn wsX4_sail (wsV RX4 92 RX4 yX4_speed wsX4_speed) := goodIn_app (goodIn_of _ (by decide +kernel)) ggX4_sail_X4_speed
theorem dX4_sail_0 : decode cX4_sail 0 = .ok (.aload_n 0, 1) := by decide +kernel
theorem dX4_sail_1 : decode cX4_sail 1 = .ok (.iload_n 1, 1) := by decide +kernel
theorem dX4_sail_2 : decode cX4_sail 2 = .ok (.bipush 9, 2) := by decide +kernel
theorem dX4_sail_4 : decode cX4_sail 4 = .ok (.invokevirtual 54, 3) := by decide +kernel
theorem dX4_sail_7 : decode cX4_sail 7 = .ok (.iconst 1, 1) := by decide +kernel
theorem dX4_sail_8 : decode cX4_sail 8 = .ok (.if_icmp .eq 5, 3) := by decide +kernel
theorem dX4_sail_11 : decode cX4_sail 11 = .ok (.iconst 0, 1) := by decide +kernel
theorem dX4_sail_12 : decode cX4_sail 12 = .ok (.ireturn, 1) := by decide +kernel
theorem dX4_sail_13 : decode cX4_sail 13 = .ok (.aload_n 0, 1) := by decide +kernel
theorem dX4_sail_14 : decode cX4_sail 14 = .ok (.iload_n 1, 1) := by decide +kernel
theorem dX4_sail_15 : decode cX4_sail 15 = .ok (.bipush 8, 2) := by decide +kernel
theorem dX4_sail_17 : decode cX4_sail 17 = .ok (.invokevirtual 54, 3) := by decide +kernel
theorem dX4_sail_20 : decode cX4_sail 20 = .ok (.ifCond .le 21, 3) := by decide +kernel
theorem dX4_sail_23 : decode cX4_sail 23 = .ok (.aload_n 0, 1) := by decide +kernel
theorem dX4_sail_24 : decode cX4_sail 24 = .ok (.iload_n 1, 1) := by decide +kernel
theorem dX4_sail_25 : decode cX4_sail 25 = .ok (.bipush 8, 2) := by decide +kernel
theorem dX4_sail_27 : decode cX4_sail 27 = .ok (.aload_n 0, 1) := by decide +kernel
theorem dX4_sail_28 : decode cX4_sail 28 = .ok (.iload_n 1, 1) := by decide +kernel
theorem dX4_sail_29 : decode cX4_sail 29 = .ok (.bipush 8, 2) := by decide +kernel
theorem dX4_sail_31 : decode cX4_sail 31 = .ok (.invokevirtual 54, 3) := by decide +kernel
theorem dX4_sail_34 : decode cX4_sail 34 = .ok (.iconst 1, 1) := by decide +kernel
theorem dX4_sail_35 : decode cX4_sail 35 = .ok (.isub, 1) := by decide +kernel
theorem dX4_sail_36 : decode cX4_sail 36 = .ok (.invokevirtual 58, 3) := by decide +kernel
theorem dX4_sail_39 : decode cX4_sail 39 = .ok (.iconst 0, 1) := by decide +kernel
theorem dX4_sail_40 : decode cX4_sail 40 = .ok (.ireturn, 1) := by decide +kernel
theorem dX4_sail_41 : decode cX4_sail 41 = .ok (.aload_n 0, 1) := by decide +kernel
theorem dX4_sail_42 : decode cX4_sail 42 = .ok (.iload_n 1, 1) := by decide +kernel
theorem dX4_sail_43 : decode cX4_sail 43 = .ok (.aload_n 0, 1) := by decide +kernel
theorem dX4_sail_44 : decode cX4_sail 44 = .ok (.invokevirtual 86, 3) := by decide +kernel
theorem dX4_sail_47 : decode cX4_sail 47 = .ok (.invokevirtual 89, 3) := by decide +kernel
theorem dX4_sail_50 : decode cX4_sail 50 = .ok (.bipush 30, 2) := by decide +kernel
theorem dX4_sail_52 : decode cX4_sail 52 = .ok (.if_icmp .gt 27, 3) := by decide +kernel
theorem dX4_sail_55 : decode cX4_sail 55 = .ok (.aload_n 0, 1) := by decide +kernel
theorem dX4_sail_56 : decode cX4_sail 56 = .ok (.iload_n 1, 1) := by decide +kernel
theorem dX4_sail_57 : decode cX4_sail 57 = .ok (.iconst 5, 1) := by decide +kernel
theorem dX4_sail_58 : decode cX4_sail 58 = .ok (.aload_n 0, 1) := by decide +kernel
theorem dX4_sail_59 : decode cX4_sail 59 = .ok (.iload_n 1, 1) := by decide +kernel
theorem dX4_sail_60 : decode cX4_sail 60 = .ok (.iconst 5, 1) := by decide +kernel
theorem dX4_sail_61 : decode cX4_sail 61 = .ok (.invokevirtual 54, 3) := by decide +kernel
theorem dX4_sail_64 : decode cX4_sail 64 = .ok (.aload_n 0, 1) := by decide +kernel
theorem dX4_sail_65 : decode cX4_sail 65 = .ok (.iload_n 1, 1) := by decide +kernel
theorem dX4_sail_66 : decode cX4_sail 66 = .ok (.aload_n 0, 1) := by decide +kernel
theorem dX4_sail_67 : decode cX4_sail 67 = .ok (.invokevirtual 86, 3) := by decide +kernel
theorem dX4_sail_70 : decode cX4_sail 70 = .ok (.invokevirtual 92, 3) := by decide +kernel
theorem dX4_sail_73 : decode cX4_sail 73 = .ok (.iadd, 1) := by decide +kernel
theorem dX4_sail_74 : decode cX4_sail 74 = .ok (.invokevirtual 58, 3) := by decide +kernel
theorem dX4_sail_77 : decode cX4_sail 77 = .ok (.iconst 1, 1) := by decide +kernel
theorem dX4_sail_78 : decode cX4_sail 78 = .ok (.ireturn, 1) := by decide +kernel
theorem dX4_sail_79 : decode cX4_sail 79 = .ok (.aload_n 0, 1) := by decide +kernel
theorem dX4_sail_80 : decode cX4_sail 80 = .ok (.iload_n 1, 1) := by decide +kernel
theorem dX4_sail_81 : decode cX4_sail 81 = .ok (.bipush 8, 2) := by decide +kernel
theorem dX4_sail_83 : decode cX4_sail 83 = .ok (.iconst 2, 1) := by decide +kernel
theorem dX4_sail_84 : decode cX4_sail 84 = .ok (.invokevirtual 58, 3) := by decide +kernel
theorem dX4_sail_87 : decode cX4_sail 87 = .ok (.aload_n 0, 1) := by decide +kernel
theorem dX4_sail_88 : decode cX4_sail 88 = .ok (.iload_n 1, 1) := by decide +kernel
theorem dX4_sail_89 : decode cX4_sail 89 = .ok (.iconst 4, 1) := by decide +kernel
theorem dX4_sail_90 : decode cX4_sail 90 = .ok (.bipush 9, 2) := by decide +kernel
theorem dX4_sail_92 : decode cX4_sail 92 = .ok (.aload_n 0, 1) := by decide +kernel
theorem dX4_sail_93 : decode cX4_sail 93 = .ok (.iload_n 1, 1) := by decide +kernel
theorem dX4_sail_94 : decode cX4_sail 94 = .ok (.iconst 4, 1) := by decide +kernel
theorem dX4_sail_95 : decode cX4_sail 95 = .ok (.invokevirtual 54, 3) := by decide +kernel
theorem dX4_sail_98 : decode cX4_sail 98 = .ok (.iconst 2, 1) := by decide +kernel
theorem dX4_sail_99 : decode cX4_sail 99 = .ok (.iadd, 1) := by decide +kernel
theorem dX4_sail_100 : decode cX4_sail 100 = .ok (.invokestatic 73, 3) := by decide +kernel
theorem dX4_sail_103 : decode cX4_sail 103 = .ok (.invokevirtual 58, 3) := by decide +kernel
theorem dX4_sail_106 : decode cX4_sail 106 = .ok (.aload_n 0, 1) := by decide +kernel
theorem dX4_sail_107 : decode cX4_sail 107 = .ok (.iload_n 1, 1) := by decide +kernel
theorem dX4_sail_108 : decode cX4_sail 108 = .ok (.iconst 4, 1) := by decide +kernel
theorem dX4_sail_109 : decode cX4_sail 109 = .ok (.invokevirtual 54, 3) := by decide +kernel
theorem dX4_sail_112 : decode cX4_sail 112 = .ok (.bipush 9, 2) := by decide +kernel
theorem dX4_sail_114 : decode cX4_sail 114 = .ok (.if_icmp .ne 11, 3) := by decide +kernel
theorem dX4_sail_117 : decode cX4_sail 117 = .ok (.aload_n 0, 1) := by decide +kernel
theorem dX4_sail_118 : decode cX4_sail 118 = .ok (.iload_n 1, 1) := by decide +kernel
theorem dX4_sail_119 : decode cX4_sail 119 = .ok (.bipush 9, 2) := by decide +kernel
theorem dX4_sail_121 : decode cX4_sail 121 = .ok (.iconst 3, 1) := by decide +kernel
theorem dX4_sail_122 : decode cX4_sail 122 = .ok (.invokevirtual 58, 3) := by decide +kernel
theorem dX4_sail_125 : decode cX4_sail 125 = .ok (.iconst 0, 1) := by decide +kernel
theorem dX4_sail_126 : decode cX4_sail 126 = .ok (.ireturn, 1) := by decide +kernel
theorem dX4_isSeen_0 : decode cX4_isSeen 0 = .ok (.iconst 0, 1) := by decide +kernel
theorem dX4_isSeen_1 : decode cX4_isSeen 1 = .ok (.istore_n 2, 1) := by decide +kernel
theorem dX4_isSeen_2 : decode cX4_isSeen 2 = .ok (.iload_n 2, 1) := by decide +kernel
theorem dX4_isSeen_3 : decode cX4_isSeen 3 = .ok (.aload_n 0, 1) := by decide +kernel
theorem dX4_isSeen_4 : decode cX4_isSeen 4 = .ok (.getfield 62, 3) := by decide +kernel
theorem dX4_isSeen_7 : decode cX4_isSeen 7 = .ok (.if_icmp .ge 27, 3) := by decide +kernel
theorem dX4_isSeen_10 : decode cX4_isSeen 10 = .ok (.aload_n 0, 1) := by decide +kernel
theorem dX4_isSeen_11 : decode cX4_isSeen 11 = .ok (.getfield 17, 3) := by decide +kernel
theorem dX4_isSeen_14 : decode cX4_isSeen 14 = .ok (.iload_n 2, 1) := by decide +kernel
theorem dX4_isSeen_15 : decode cX4_isSeen 15 = .ok (.iaload, 1) := by decide +kernel
theorem dX4_isSeen_16 : decode cX4_isSeen 16 = .ok (.iload_n 1, 1) := by decide +kernel
theorem dX4_isSeen_17 : decode cX4_isSeen 17 = .ok (.isub, 1) := by decide +kernel
theorem dX4_isSeen_18 : decode cX4_isSeen 18 = .ok (.invokestatic 95, 3) := by decide +kernel
theorem dX4_isSeen_21 : decode cX4_isSeen 21 = .ok (.bipush 10, 2) := by decide +kernel
theorem dX4_isSeen_23 : decode cX4_isSeen 23 = .ok (.if_icmp .gt 5, 3) := by decide +kernel
theorem dX4_isSeen_26 : decode cX4_isSeen 26 = .ok (.iconst 1, 1) := by decide +kernel
theorem dX4_isSeen_27 : decode cX4_isSeen 27 = .ok (.ireturn, 1) := by decide +kernel
theorem dX4_isSeen_28 : decode cX4_isSeen 28 = .ok (.iinc 2 1, 3) := by decide +kernel
theorem dX4_isSeen_31 : decode cX4_isSeen 31 = .ok (.goto (-29), 3) := by decide +kernel
theorem dX4_isSeen_34 : decode cX4_isSeen 34 = .ok (.iconst 0, 1) := by decide +kernel
theorem dX4_isSeen_35 : decode cX4_isSeen 35 = .ok (.ireturn, 1) := by decide +kernel
set_option maxRecDepth 20000 in
theorem ggX4_raceOn_X4_sail : GoodIn wsX4_raceOn wsX4_sail := goodIn_r _ [9, 10, 11, 12, 13, 14, 15, 16, 8, 17, 18, 19, 20, 21, 22, 23, 24, 25, 26, 27, 3, 28, 29, 30, 31, 32, 33, 34, 35, 36, 37, 38, 39, 40, 41, 42, 52, 53, 54, 55, 56, 57, 58, 59] (by decide +kernel) (by decide +kernel)
set_option maxRecDepth 20000 in
theorem gX4_raceOn_X4_sail : GoodIn wsX4_raceOn (wsV RX4 98 RX4 yX4_sail wsX4_sail) := goodIn_app (goodIn_of _ (by decide +kernel)) ggX4_raceOn_X4_sail
set_option maxRecDepth 20000 in
theorem ggX4_raceOn_X4_bo : GoodIn wsX4_raceOn wsX4_bo := goodIn_r _ [17, 18, 52, 53, 54, 55, 56, 57, 58, 59] (by decide +kernel) (by decide +kernel)
set_option maxRecDepth 20000 in
theorem gX4_raceOn_X4_bo : GoodIn wsX4_raceOn (wsV RX4 54 RX4 yX4_bo wsX4_bo) := goodIn_app (goodIn_of _ (by decide +kernel)) ggX4_raceOn_X4_bo
set_option maxRecDepth 20000 in
theorem ggX4_raceOn_X4_isSeen : GoodIn wsX4_raceOn wsX4_isSeen := goodIn_r _ [46, 47, 48, 49, 50, 12, 51, 52, 53, 54, 55, 56, 57, 58, 59] (by decide +kernel) (by decide +kernel)
set_option maxRecDepth 20000 in
theorem gX4_raceOn_X4_isSeen : GoodIn wsX4_raceOn (wsV RX4 101 RX4 yX4_isSeen wsX4_isSeen) := goodIn_app (goodIn_of _ (by decide +kernel)) ggX4_raceOn_X4_isSeen
set_option maxRecDepth 20000 in
theorem ggX4_raceOn_X4_put : GoodIn wsX4_raceOn wsX4_put := goodIn_r _ [22, 18, 52, 53, 54, 55, 56, 57, 58, 59] (by decide +kernel) (by decide +kernel)
set_option maxRecDepth 20000 in
theorem gX4_raceOn_X4_put : GoodIn wsX4_raceOn (wsV RX4 58 RX4 yX4_put wsX4_put) := goodIn_app (goodIn_of _ (by decide +kernel)) ggX4_raceOn_X4_put
theorem dX4_raceOn_0 : decode cX4_raceOn 0 = .ok (.aload_n 0, 1) := by decide +kernel
theorem dX4_raceOn_1 : decode cX4_raceOn 1 = .ok (.getfield 29, 3) := by decide +kernel
theorem dX4_raceOn_4 : decode cX4_raceOn 4 = .ok (.newarray .boolean, 2) := by decide +kernel
theorem dX4_raceOn_6 : decode cX4_raceOn 6 = .ok (.astore_n 1, 1) := by decide +kernel
theorem dX4_raceOn_7 : decode cX4_raceOn 7 = .ok (.iconst 0, 1) := by decide +kernel
theorem dX4_raceOn_8 : decode cX4_raceOn 8 = .ok (.istore_n 2, 1) := by decide +kernel
theorem dX4_raceOn_9 : decode cX4_raceOn 9 = .ok (.iload_n 2, 1) := by decide +kernel
theorem dX4_raceOn_10 : decode cX4_raceOn 10 = .ok (.aload_n 0, 1) := by decide +kernel
theorem dX4_raceOn_11 : decode cX4_raceOn 11 = .ok (.getfield 29, 3) := by decide +kernel
theorem dX4_raceOn_14 : decode cX4_raceOn 14 = .ok (.if_icmp .ge 17, 3) := by decide +kernel
theorem dX4_raceOn_17 : decode cX4_raceOn 17 = .ok (.aload_n 1, 1) := by decide +kernel
theorem dX4_raceOn_18 : decode cX4_raceOn 18 = .ok (.iload_n 2, 1) := by decide +kernel
theorem dX4_raceOn_19 : decode cX4_raceOn 19 = .ok (.aload_n 0, 1) := by decide +kernel
theorem dX4_raceOn_20 : decode cX4_raceOn 20 = .ok (.iload_n 2, 1) := by decide +kernel
theorem dX4_raceOn_21 : decode cX4_raceOn 21 = .ok (.invokevirtual 98, 3) := by decide +kernel
theorem dX4_raceOn_24 : decode cX4_raceOn 24 = .ok (.bastore, 1) := by decide +kernel
theorem dX4_raceOn_25 : decode cX4_raceOn 25 = .ok (.iinc 2 1, 3) := by decide +kernel
theorem dX4_raceOn_28 : decode cX4_raceOn 28 = .ok (.goto (-19), 3) := by decide +kernel
theorem dX4_raceOn_31 : decode cX4_raceOn 31 = .ok (.iconst 0, 1) := by decide +kernel
theorem dX4_raceOn_32 : decode cX4_raceOn 32 = .ok (.istore_n 2, 1) := by decide +kernel
theorem dX4_raceOn_33 : decode cX4_raceOn 33 = .ok (.iload_n 2, 1) := by decide +kernel
theorem dX4_raceOn_34 : decode cX4_raceOn 34 = .ok (.aload_n 0, 1) := by decide +kernel
theorem dX4_raceOn_35 : decode cX4_raceOn 35 = .ok (.getfield 29, 3) := by decide +kernel
theorem dX4_raceOn_38 : decode cX4_raceOn 38 = .ok (.if_icmp .ge 107, 3) := by decide +kernel
theorem dX4_raceOn_41 : decode cX4_raceOn 41 = .ok (.iconst 0, 1) := by decide +kernel
theorem dX4_raceOn_42 : decode cX4_raceOn 42 = .ok (.istore_n 3, 1) := by decide +kernel
theorem dX4_raceOn_43 : decode cX4_raceOn 43 = .ok (.iconst 0, 1) := by decide +kernel
theorem dX4_raceOn_44 : decode cX4_raceOn 44 = .ok (.istore 4, 2) := by decide +kernel
theorem dX4_raceOn_46 : decode cX4_raceOn 46 = .ok (.iload 4, 2) := by decide +kernel
theorem dX4_raceOn_48 : decode cX4_raceOn 48 = .ok (.iload_n 2, 1) := by decide +kernel
theorem dX4_raceOn_49 : decode cX4_raceOn 49 = .ok (.if_icmp .ge 42, 3) := by decide +kernel
theorem dX4_raceOn_52 : decode cX4_raceOn 52 = .ok (.iload_n 3, 1) := by decide +kernel
theorem dX4_raceOn_53 : decode cX4_raceOn 53 = .ok (.ifCond .ne 26, 3) := by decide +kernel
theorem dX4_raceOn_56 : decode cX4_raceOn 56 = .ok (.aload_n 1, 1) := by decide +kernel
theorem dX4_raceOn_57 : decode cX4_raceOn 57 = .ok (.iload 4, 2) := by decide +kernel
theorem dX4_raceOn_59 : decode cX4_raceOn 59 = .ok (.baload, 1) := by decide +kernel
theorem dX4_raceOn_60 : decode cX4_raceOn 60 = .ok (.ifCond .eq 23, 3) := by decide +kernel
theorem dX4_raceOn_63 : decode cX4_raceOn 63 = .ok (.aload_n 0, 1) := by decide +kernel
theorem dX4_raceOn_64 : decode cX4_raceOn 64 = .ok (.iload 4, 2) := by decide +kernel
theorem dX4_raceOn_66 : decode cX4_raceOn 66 = .ok (.iconst 5, 1) := by decide +kernel
theorem dX4_raceOn_67 : decode cX4_raceOn 67 = .ok (.invokevirtual 54, 3) := by decide +kernel
theorem dX4_raceOn_70 : decode cX4_raceOn 70 = .ok (.aload_n 0, 1) := by decide +kernel
theorem dX4_raceOn_71 : decode cX4_raceOn 71 = .ok (.iload_n 2, 1) := by decide +kernel
theorem dX4_raceOn_72 : decode cX4_raceOn 72 = .ok (.iconst 5, 1) := by decide +kernel
theorem dX4_raceOn_73 : decode cX4_raceOn 73 = .ok (.invokevirtual 54, 3) := by decide +kernel
theorem dX4_raceOn_76 : decode cX4_raceOn 76 = .ok (.if_icmp .ne 7, 3) := by decide +kernel
theorem dX4_raceOn_79 : decode cX4_raceOn 79 = .ok (.iconst 1, 1) := by decide +kernel
theorem dX4_raceOn_80 : decode cX4_raceOn 80 = .ok (.goto 4, 3) := by decide +kernel
theorem dX4_raceOn_83 : decode cX4_raceOn 83 = .ok (.iconst 0, 1) := by decide +kernel
theorem dX4_raceOn_84 : decode cX4_raceOn 84 = .ok (.istore_n 3, 1) := by decide +kernel
theorem dX4_raceOn_85 : decode cX4_raceOn 85 = .ok (.iinc 4 1, 3) := by decide +kernel
theorem dX4_raceOn_88 : decode cX4_raceOn 88 = .ok (.goto (-42), 3) := by decide +kernel
theorem dX4_raceOn_91 : decode cX4_raceOn 91 = .ok (.aload_n 1, 1) := by decide +kernel
theorem dX4_raceOn_92 : decode cX4_raceOn 92 = .ok (.iload_n 2, 1) := by decide +kernel
theorem dX4_raceOn_93 : decode cX4_raceOn 93 = .ok (.baload, 1) := by decide +kernel
theorem dX4_raceOn_94 : decode cX4_raceOn 94 = .ok (.ifCond .eq 45, 3) := by decide +kernel
theorem dX4_raceOn_97 : decode cX4_raceOn 97 = .ok (.iload_n 3, 1) := by decide +kernel
theorem dX4_raceOn_98 : decode cX4_raceOn 98 = .ok (.ifCond .eq 41, 3) := by decide +kernel
theorem dX4_raceOn_101 : decode cX4_raceOn 101 = .ok (.aload_n 0, 1) := by decide +kernel
theorem dX4_raceOn_102 : decode cX4_raceOn 102 = .ok (.iload_n 2, 1) := by decide +kernel
theorem dX4_raceOn_103 : decode cX4_raceOn 103 = .ok (.iconst 5, 1) := by decide +kernel
theorem dX4_raceOn_104 : decode cX4_raceOn 104 = .ok (.invokevirtual 54, 3) := by decide +kernel
theorem dX4_raceOn_107 : decode cX4_raceOn 107 = .ok (.ifCond .le 32, 3) := by decide +kernel
theorem dX4_raceOn_110 : decode cX4_raceOn 110 = .ok (.aload_n 0, 1) := by decide +kernel
theorem dX4_raceOn_111 : decode cX4_raceOn 111 = .ok (.aload_n 0, 1) := by decide +kernel
theorem dX4_raceOn_112 : decode cX4_raceOn 112 = .ok (.iload_n 2, 1) := by decide +kernel
theorem dX4_raceOn_113 : decode cX4_raceOn 113 = .ok (.iconst 5, 1) := by decide +kernel
theorem dX4_raceOn_114 : decode cX4_raceOn 114 = .ok (.invokevirtual 54, 3) := by decide +kernel
theorem dX4_raceOn_117 : decode cX4_raceOn 117 = .ok (.invokevirtual 101, 3) := by decide +kernel
theorem dX4_raceOn_120 : decode cX4_raceOn 120 = .ok (.ifCond .eq 19, 3) := by decide +kernel
theorem dX4_raceOn_123 : decode cX4_raceOn 123 = .ok (.aload_n 0, 1) := by decide +kernel
theorem dX4_raceOn_124 : decode cX4_raceOn 124 = .ok (.iload_n 2, 1) := by decide +kernel
theorem dX4_raceOn_125 : decode cX4_raceOn 125 = .ok (.bipush 7, 2) := by decide +kernel
theorem dX4_raceOn_127 : decode cX4_raceOn 127 = .ok (.aload_n 0, 1) := by decide +kernel
theorem dX4_raceOn_128 : decode cX4_raceOn 128 = .ok (.iload_n 2, 1) := by decide +kernel
theorem dX4_raceOn_129 : decode cX4_raceOn 129 = .ok (.bipush 7, 2) := by decide +kernel
theorem dX4_raceOn_131 : decode cX4_raceOn 131 = .ok (.invokevirtual 54, 3) := by decide +kernel
theorem dX4_raceOn_134 : decode cX4_raceOn 134 = .ok (.iconst 1, 1) := by decide +kernel
theorem dX4_raceOn_135 : decode cX4_raceOn 135 = .ok (.iadd, 1) := by decide +kernel
theorem dX4_raceOn_136 : decode cX4_raceOn 136 = .ok (.invokevirtual 58, 3) := by decide +kernel
theorem dX4_raceOn_139 : decode cX4_raceOn 139 = .ok (.iinc 2 1, 3) := by decide +kernel
theorem dX4_raceOn_142 : decode cX4_raceOn 142 = .ok (.goto (-109), 3) := by decide +kernel
theorem dX4_raceOn_145 : decode cX4_raceOn 145 = .ok (.aload_n 0, 1) := by decide +kernel
theorem dX4_raceOn_146 : decode cX4_raceOn 146 = .ok (.getfield 23, 3) := by decide +kernel
theorem dX4_raceOn_149 : decode cX4_raceOn 149 = .ok (.iconst 3, 1) := by decide +kernel
theorem dX4_raceOn_150 : decode cX4_raceOn 150 = .ok (.dup2, 1) := by decide +kernel
theorem dX4_raceOn_151 : decode cX4_raceOn 151 = .ok (.iaload, 1) := by decide +kernel
theorem dX4_raceOn_152 : decode cX4_raceOn 152 = .ok (.iconst 1, 1) := by decide +kernel
theorem dX4_raceOn_153 : decode cX4_raceOn 153 = .ok (.iadd, 1) := by decide +kernel
theorem dX4_raceOn_154 : decode cX4_raceOn 154 = .ok (.iastore, 1) := by decide +kernel
theorem dX4_raceOn_155 : decode cX4_raceOn 155 = .ok (.iconst 0, 1) := by decide +kernel
theorem dX4_raceOn_156 : decode cX4_raceOn 156 = .ok (.istore_n 2, 1) := by decide +kernel
theorem dX4_raceOn_157 : decode cX4_raceOn 157 = .ok (.iload_n 2, 1) := by decide +kernel
theorem dX4_raceOn_158 : decode cX4_raceOn 158 = .ok (.aload_n 0, 1) := by decide +kernel
theorem dX4_raceOn_159 : decode cX4_raceOn 159 = .ok (.getfield 29, 3) := by decide +kernel
theorem dX4_raceOn_162 : decode cX4_raceOn 162 = .ok (.if_icmp .ge 57, 3) := by decide +kernel
theorem dX4_raceOn_165 : decode cX4_raceOn 165 = .ok (.aload_n 0, 1) := by decide +kernel
theorem dX4_raceOn_166 : decode cX4_raceOn 166 = .ok (.iload_n 2, 1) := by decide +kernel
theorem dX4_raceOn_167 : decode cX4_raceOn 167 = .ok (.bipush 9, 2) := by decide +kernel
theorem dX4_raceOn_169 : decode cX4_raceOn 169 = .ok (.invokevirtual 54, 3) := by decide +kernel
theorem dX4_raceOn_172 : decode cX4_raceOn 172 = .ok (.iconst 1, 1) := by decide +kernel
theorem dX4_raceOn_173 : decode cX4_raceOn 173 = .ok (.if_icmp .ne 40, 3) := by decide +kernel
theorem dX4_raceOn_176 : decode cX4_raceOn 176 = .ok (.aload_n 0, 1) := by decide +kernel
theorem dX4_raceOn_177 : decode cX4_raceOn 177 = .ok (.iload_n 2, 1) := by decide +kernel
theorem dX4_raceOn_178 : decode cX4_raceOn 178 = .ok (.iconst 5, 1) := by decide +kernel
theorem dX4_raceOn_179 : decode cX4_raceOn 179 = .ok (.invokevirtual 54, 3) := by decide +kernel
theorem dX4_raceOn_182 : decode cX4_raceOn 182 = .ok (.aload_n 0, 1) := by decide +kernel
theorem dX4_raceOn_183 : decode cX4_raceOn 183 = .ok (.getfield 7, 3) := by decide +kernel
theorem dX4_raceOn_186 : decode cX4_raceOn 186 = .ok (.if_icmp .ge 6, 3) := by decide +kernel
theorem dX4_raceOn_189 : decode cX4_raceOn 189 = .ok (.goto 24, 3) := by decide +kernel
theorem dX4_raceOn_192 : decode cX4_raceOn 192 = .ok (.aload_n 0, 1) := by decide +kernel
theorem dX4_raceOn_193 : decode cX4_raceOn 193 = .ok (.iload_n 2, 1) := by decide +kernel
theorem dX4_raceOn_194 : decode cX4_raceOn 194 = .ok (.bipush 9, 2) := by decide +kernel
theorem dX4_raceOn_196 : decode cX4_raceOn 196 = .ok (.iconst 2, 1) := by decide +kernel
theorem dX4_raceOn_197 : decode cX4_raceOn 197 = .ok (.invokevirtual 58, 3) := by decide +kernel
theorem dX4_raceOn_200 : decode cX4_raceOn 200 = .ok (.aload_n 0, 1) := by decide +kernel
theorem dX4_raceOn_201 : decode cX4_raceOn 201 = .ok (.iload_n 2, 1) := by decide +kernel
theorem dX4_raceOn_202 : decode cX4_raceOn 202 = .ok (.bipush 6, 2) := by decide +kernel
theorem dX4_raceOn_204 : decode cX4_raceOn 204 = .ok (.aload_n 0, 1) := by decide +kernel
theorem dX4_raceOn_205 : decode cX4_raceOn 205 = .ok (.getfield 23, 3) := by decide +kernel
theorem dX4_raceOn_208 : decode cX4_raceOn 208 = .ok (.iconst 3, 1) := by decide +kernel
theorem dX4_raceOn_209 : decode cX4_raceOn 209 = .ok (.iaload, 1) := by decide +kernel
theorem dX4_raceOn_210 : decode cX4_raceOn 210 = .ok (.invokevirtual 58, 3) := by decide +kernel
theorem dX4_raceOn_213 : decode cX4_raceOn 213 = .ok (.iinc 2 1, 3) := by decide +kernel
theorem dX4_raceOn_216 : decode cX4_raceOn 216 = .ok (.goto (-59), 3) := by decide +kernel
theorem dX4_raceOn_219 : decode cX4_raceOn 219 = .ok (.return_, 1) := by decide +kernel
set_option maxRecDepth 20000 in
theorem ggX4_ranked_X4_bo : GoodIn wsX4_ranked wsX4_bo := goodIn_r _ [5, 6, 7, 8, 9, 10, 11, 12, 13, 14] (by decide +kernel) (by decide +kernel)
set_option maxRecDepth 20000 in
theorem gX4_ranked_X4_bo : GoodIn wsX4_ranked (wsV RX4 54 RX4 yX4_bo wsX4_bo) := goodIn_app (goodIn_of _ (by decide +kernel)) ggX4_ranked_X4_bo
theorem dX4_ranked_0 : decode cX4_ranked 0 = .ok (.aload_n 0, 1) := by decide +kernel
theorem dX4_ranked_1 : decode cX4_ranked 1 = .ok (.iload_n 1, 1) := by decide +kernel
theorem dX4_ranked_2 : decode cX4_ranked 2 = .ok (.bipush 6, 2) := by decide +kernel
theorem dX4_ranked_4 : decode cX4_ranked 4 = .ok (.invokevirtual 54, 3) := by decide +kernel
theorem dX4_ranked_7 : decode cX4_ranked 7 = .ok (.iconst 3, 1) := by decide +kernel
theorem dX4_ranked_8 : decode cX4_ranked 8 = .ok (.aload_n 0, 1) := by decide +kernel
theorem dX4_ranked_9 : decode cX4_ranked 9 = .ok (.iload_n 1, 1) := by decide +kernel
theorem dX4_ranked_10 : decode cX4_ranked 10 = .ok (.bipush 7, 2) := by decide +kernel
theorem dX4_ranked_12 : decode cX4_ranked 12 = .ok (.invokevirtual 54, 3) := by decide +kernel
theorem dX4_ranked_15 : decode cX4_ranked 15 = .ok (.imul, 1) := by decide +kernel
theorem dX4_ranked_16 : decode cX4_ranked 16 = .ok (.iadd, 1) := by decide +kernel
theorem dX4_ranked_17 : decode cX4_ranked 17 = .ok (.ireturn, 1) := by decide +kernel
set_option maxRecDepth 20000 in
theorem ggX4_placeOf_X4_bo : GoodIn wsX4_placeOf wsX4_bo := goodIn_r _ [6, 7, 12, 13, 14, 15, 16, 17, 18, 19] (by decide +kernel) (by decide +kernel)
set_option maxRecDepth 20000 in
theorem gX4_placeOf_X4_bo : GoodIn wsX4_placeOf (wsV RX4 54 RX4 yX4_bo wsX4_bo) := goodIn_app (goodIn_of _ (by decide +kernel)) ggX4_placeOf_X4_bo
set_option maxRecDepth 20000 in
theorem ggX4_placeOf_X4_ranked : GoodIn wsX4_placeOf wsX4_ranked := goodIn_r _ [11, 2, 3, 4, 5, 6, 7, 12, 13, 14, 15, 16, 17, 18, 19] (by decide +kernel) (by decide +kernel)
set_option maxRecDepth 20000 in
theorem gX4_placeOf_X4_ranked : GoodIn wsX4_placeOf (wsV RX4 104 RX4 yX4_ranked wsX4_ranked) := goodIn_app (goodIn_of _ (by decide +kernel)) ggX4_placeOf_X4_ranked
theorem dX4_placeOf_0 : decode cX4_placeOf 0 = .ok (.iconst 0, 1) := by decide +kernel
theorem dX4_placeOf_1 : decode cX4_placeOf 1 = .ok (.istore_n 2, 1) := by decide +kernel
theorem dX4_placeOf_2 : decode cX4_placeOf 2 = .ok (.iconst 0, 1) := by decide +kernel
theorem dX4_placeOf_3 : decode cX4_placeOf 3 = .ok (.istore_n 3, 1) := by decide +kernel
theorem dX4_placeOf_4 : decode cX4_placeOf 4 = .ok (.iload_n 3, 1) := by decide +kernel
theorem dX4_placeOf_5 : decode cX4_placeOf 5 = .ok (.aload_n 0, 1) := by decide +kernel
theorem dX4_placeOf_6 : decode cX4_placeOf 6 = .ok (.getfield 29, 3) := by decide +kernel
theorem dX4_placeOf_9 : decode cX4_placeOf 9 = .ok (.if_icmp .ge 54, 3) := by decide +kernel
theorem dX4_placeOf_12 : decode cX4_placeOf 12 = .ok (.aload_n 0, 1) := by decide +kernel
theorem dX4_placeOf_13 : decode cX4_placeOf 13 = .ok (.iload_n 3, 1) := by decide +kernel
theorem dX4_placeOf_14 : decode cX4_placeOf 14 = .ok (.bipush 9, 2) := by decide +kernel
theorem dX4_placeOf_16 : decode cX4_placeOf 16 = .ok (.invokevirtual 54, 3) := by decide +kernel
theorem dX4_placeOf_19 : decode cX4_placeOf 19 = .ok (.iconst 2, 1) := by decide +kernel
theorem dX4_placeOf_20 : decode cX4_placeOf 20 = .ok (.if_icmp .ne 37, 3) := by decide +kernel
theorem dX4_placeOf_23 : decode cX4_placeOf 23 = .ok (.aload_n 0, 1) := by decide +kernel
theorem dX4_placeOf_24 : decode cX4_placeOf 24 = .ok (.iload_n 3, 1) := by decide +kernel
theorem dX4_placeOf_25 : decode cX4_placeOf 25 = .ok (.invokevirtual 104, 3) := by decide +kernel
theorem dX4_placeOf_28 : decode cX4_placeOf 28 = .ok (.aload_n 0, 1) := by decide +kernel
theorem dX4_placeOf_29 : decode cX4_placeOf 29 = .ok (.iload_n 1, 1) := by decide +kernel
theorem dX4_placeOf_30 : decode cX4_placeOf 30 = .ok (.invokevirtual 104, 3) := by decide +kernel
theorem dX4_placeOf_33 : decode cX4_placeOf 33 = .ok (.if_icmp .lt 21, 3) := by decide +kernel
theorem dX4_placeOf_36 : decode cX4_placeOf 36 = .ok (.aload_n 0, 1) := by decide +kernel
theorem dX4_placeOf_37 : decode cX4_placeOf 37 = .ok (.iload_n 3, 1) := by decide +kernel
theorem dX4_placeOf_38 : decode cX4_placeOf 38 = .ok (.invokevirtual 104, 3) := by decide +kernel
theorem dX4_placeOf_41 : decode cX4_placeOf 41 = .ok (.aload_n 0, 1) := by decide +kernel
theorem dX4_placeOf_42 : decode cX4_placeOf 42 = .ok (.iload_n 1, 1) := by decide +kernel
theorem dX4_placeOf_43 : decode cX4_placeOf 43 = .ok (.invokevirtual 104, 3) := by decide +kernel
theorem dX4_placeOf_46 : decode cX4_placeOf 46 = .ok (.if_icmp .ne 11, 3) := by decide +kernel
theorem dX4_placeOf_49 : decode cX4_placeOf 49 = .ok (.iload_n 3, 1) := by decide +kernel
theorem dX4_placeOf_50 : decode cX4_placeOf 50 = .ok (.iload_n 1, 1) := by decide +kernel
theorem dX4_placeOf_51 : decode cX4_placeOf 51 = .ok (.if_icmp .ge 6, 3) := by decide +kernel
theorem dX4_placeOf_54 : decode cX4_placeOf 54 = .ok (.iinc 2 1, 3) := by decide +kernel
theorem dX4_placeOf_57 : decode cX4_placeOf 57 = .ok (.iinc 3 1, 3) := by decide +kernel
theorem dX4_placeOf_60 : decode cX4_placeOf 60 = .ok (.goto (-56), 3) := by decide +kernel
theorem dX4_placeOf_63 : decode cX4_placeOf 63 = .ok (.iload_n 2, 1) := by decide +kernel
theorem dX4_placeOf_64 : decode cX4_placeOf 64 = .ok (.ireturn, 1) := by decide +kernel
set_option maxRecDepth 20000 in
theorem ggX4_finish_X4_bo : GoodIn wsX4_finish wsX4_bo := goodIn_r _ [12, 13, 26, 27, 28, 29, 30, 31, 32, 33] (by decide +kernel) (by decide +kernel)
set_option maxRecDepth 20000 in
theorem gX4_finish_X4_bo : GoodIn wsX4_finish (wsV RX4 54 RX4 yX4_bo wsX4_bo) := goodIn_app (goodIn_of _ (by decide +kernel)) ggX4_finish_X4_bo
set_option maxRecDepth 20000 in
theorem ggX4_finish_X4_placeOf : GoodIn wsX4_finish wsX4_placeOf := goodIn_r _ [17, 3, 8, 9, 10, 11, 12, 13, 18, 19, 20, 21, 26, 27, 28, 29, 30, 31, 32, 33] (by decide +kernel) (by decide +kernel)
set_option maxRecDepth 20000 in
theorem gX4_finish_X4_placeOf : GoodIn wsX4_finish (wsV RX4 107 RX4 yX4_placeOf wsX4_placeOf) := goodIn_app (goodIn_of _ (by decide +kernel)) ggX4_finish_X4_placeOf
set_option maxRecDepth 20000 in
theorem ggX4_finish_X4_put : GoodIn wsX4_finish wsX4_put := goodIn_r _ [25, 13, 26, 27, 28, 29, 30, 31, 32, 33] (by decide +kernel) (by decide +kernel)
set_option maxRecDepth 20000 in
theorem gX4_finish_X4_put : GoodIn wsX4_finish (wsV RX4 58 RX4 yX4_put wsX4_put) := goodIn_app (goodIn_of _ (by decide +kernel)) ggX4_finish_X4_put
theorem dX4_finish_0 : decode cX4_finish 0 = .ok (.aload_n 0, 1) := by decide +kernel
theorem dX4_finish_1 : decode cX4_finish 1 = .ok (.getfield 23, 3) := by decide +kernel
theorem dX4_finish_4 : decode cX4_finish 4 = .ok (.iconst 2, 1) := by decide +kernel
theorem dX4_finish_5 : decode cX4_finish 5 = .ok (.iconst 0, 1) := by decide +kernel
theorem dX4_finish_6 : decode cX4_finish 6 = .ok (.iastore, 1) := by decide +kernel
theorem dX4_finish_7 : decode cX4_finish 7 = .ok (.iconst 4, 1) := by decide +kernel
theorem dX4_finish_8 : decode cX4_finish 8 = .ok (.newarray .int, 2) := by decide +kernel
theorem dX4_finish_10 : decode cX4_finish 10 = .ok (.dup, 1) := by decide +kernel
theorem dX4_finish_11 : decode cX4_finish 11 = .ok (.iconst 0, 1) := by decide +kernel
theorem dX4_finish_12 : decode cX4_finish 12 = .ok (.bipush 8, 2) := by decide +kernel
theorem dX4_finish_14 : decode cX4_finish 14 = .ok (.iastore, 1) := by decide +kernel
theorem dX4_finish_15 : decode cX4_finish 15 = .ok (.dup, 1) := by decide +kernel
theorem dX4_finish_16 : decode cX4_finish 16 = .ok (.iconst 1, 1) := by decide +kernel
theorem dX4_finish_17 : decode cX4_finish 17 = .ok (.iconst 5, 1) := by decide +kernel
theorem dX4_finish_18 : decode cX4_finish 18 = .ok (.iastore, 1) := by decide +kernel
theorem dX4_finish_19 : decode cX4_finish 19 = .ok (.dup, 1) := by decide +kernel
theorem dX4_finish_20 : decode cX4_finish 20 = .ok (.iconst 2, 1) := by decide +kernel
theorem dX4_finish_21 : decode cX4_finish 21 = .ok (.iconst 3, 1) := by decide +kernel
theorem dX4_finish_22 : decode cX4_finish 22 = .ok (.iastore, 1) := by decide +kernel
theorem dX4_finish_23 : decode cX4_finish 23 = .ok (.dup, 1) := by decide +kernel
theorem dX4_finish_24 : decode cX4_finish 24 = .ok (.iconst 3, 1) := by decide +kernel
theorem dX4_finish_25 : decode cX4_finish 25 = .ok (.iconst 1, 1) := by decide +kernel
theorem dX4_finish_26 : decode cX4_finish 26 = .ok (.iastore, 1) := by decide +kernel
theorem dX4_finish_27 : decode cX4_finish 27 = .ok (.astore_n 1, 1) := by decide +kernel
theorem dX4_finish_28 : decode cX4_finish 28 = .ok (.iconst 0, 1) := by decide +kernel
theorem dX4_finish_29 : decode cX4_finish 29 = .ok (.istore_n 2, 1) := by decide +kernel
theorem dX4_finish_30 : decode cX4_finish 30 = .ok (.iload_n 2, 1) := by decide +kernel
theorem dX4_finish_31 : decode cX4_finish 31 = .ok (.aload_n 0, 1) := by decide +kernel
theorem dX4_finish_32 : decode cX4_finish 32 = .ok (.getfield 29, 3) := by decide +kernel
theorem dX4_finish_35 : decode cX4_finish 35 = .ok (.if_icmp .ge 44, 3) := by decide +kernel
theorem dX4_finish_38 : decode cX4_finish 38 = .ok (.aload_n 0, 1) := by decide +kernel
theorem dX4_finish_39 : decode cX4_finish 39 = .ok (.iload_n 2, 1) := by decide +kernel
theorem dX4_finish_40 : decode cX4_finish 40 = .ok (.bipush 9, 2) := by decide +kernel
theorem dX4_finish_42 : decode cX4_finish 42 = .ok (.invokevirtual 54, 3) := by decide +kernel
theorem dX4_finish_45 : decode cX4_finish 45 = .ok (.iconst 2, 1) := by decide +kernel
theorem dX4_finish_46 : decode cX4_finish 46 = .ok (.if_icmp .ne 27, 3) := by decide +kernel
theorem dX4_finish_49 : decode cX4_finish 49 = .ok (.aload_n 0, 1) := by decide +kernel
theorem dX4_finish_50 : decode cX4_finish 50 = .ok (.iload_n 2, 1) := by decide +kernel
theorem dX4_finish_51 : decode cX4_finish 51 = .ok (.iconst 3, 1) := by decide +kernel
theorem dX4_finish_52 : decode cX4_finish 52 = .ok (.aload_n 0, 1) := by decide +kernel
theorem dX4_finish_53 : decode cX4_finish 53 = .ok (.iload_n 2, 1) := by decide +kernel
theorem dX4_finish_54 : decode cX4_finish 54 = .ok (.iconst 3, 1) := by decide +kernel
theorem dX4_finish_55 : decode cX4_finish 55 = .ok (.invokevirtual 54, 3) := by decide +kernel
theorem dX4_finish_58 : decode cX4_finish 58 = .ok (.aload_n 1, 1) := by decide +kernel
theorem dX4_finish_59 : decode cX4_finish 59 = .ok (.iconst 3, 1) := by decide +kernel
theorem dX4_finish_60 : decode cX4_finish 60 = .ok (.aload_n 0, 1) := by decide +kernel
theorem dX4_finish_61 : decode cX4_finish 61 = .ok (.iload_n 2, 1) := by decide +kernel
theorem dX4_finish_62 : decode cX4_finish 62 = .ok (.invokevirtual 107, 3) := by decide +kernel
theorem dX4_finish_65 : decode cX4_finish 65 = .ok (.invokestatic 73, 3) := by decide +kernel
theorem dX4_finish_68 : decode cX4_finish 68 = .ok (.iaload, 1) := by decide +kernel
theorem dX4_finish_69 : decode cX4_finish 69 = .ok (.iadd, 1) := by decide +kernel
theorem dX4_finish_70 : decode cX4_finish 70 = .ok (.invokevirtual 58, 3) := by decide +kernel
theorem dX4_finish_73 : decode cX4_finish 73 = .ok (.iinc 2 1, 3) := by decide +kernel
theorem dX4_finish_76 : decode cX4_finish 76 = .ok (.goto (-46), 3) := by decide +kernel
theorem dX4_finish_79 : decode cX4_finish 79 = .ok (.return_, 1) := by decide +kernel
set_option maxRecDepth 20000 in
theorem ggX4_minuteOn_X4_isRace : GoodIn wsX4_minuteOn wsX4_isRace := goodIn_r _ [11, 2, 77, 78, 79, 80, 81, 82, 83, 84] (by decide +kernel) (by decide +kernel)
set_option maxRecDepth 20000 in
theorem gX4_minuteOn_X4_isRace : GoodIn wsX4_minuteOn (wsV RX4 40 RX4 yX4_isRace wsX4_isRace) := goodIn_app (goodIn_of _ (by decide +kernel)) ggX4_minuteOn_X4_isRace
set_option maxRecDepth 20000 in
theorem ggX4_minuteOn_X4_raceOn : GoodIn wsX4_minuteOn wsX4_raceOn := goodIn_r _ [15, 1, 16, 2, 17, 18, 19, 20, 10, 21, 22, 23, 5, 24, 25, 26, 27, 28, 29, 30, 31, 32, 33, 34, 35, 36, 37, 38, 39, 40, 41, 42, 3, 4, 6, 43, 44, 45, 46, 47, 48, 49, 50, 51, 52, 53, 54, 55, 56, 57, 58, 59, 77, 78, 79, 80, 81, 82, 83, 84] (by decide +kernel) (by decide +kernel)
set_option maxRecDepth 20000 in
theorem gX4_minuteOn_X4_raceOn : GoodIn wsX4_minuteOn (wsV RX4 110 RX4 yX4_raceOn wsX4_raceOn) := goodIn_app (goodIn_of _ (by decide +kernel)) ggX4_minuteOn_X4_raceOn
set_option maxRecDepth 20000 in
theorem ggX4_minuteOn_X4_bo : GoodIn wsX4_minuteOn wsX4_bo := goodIn_r _ [28, 29, 77, 78, 79, 80, 81, 82, 83, 84] (by decide +kernel) (by decide +kernel)
set_option maxRecDepth 20000 in
theorem gX4_minuteOn_X4_bo : GoodIn wsX4_minuteOn (wsV RX4 54 RX4 yX4_bo wsX4_bo) := goodIn_app (goodIn_of _ (by decide +kernel)) ggX4_minuteOn_X4_bo
set_option maxRecDepth 20000 in
theorem ggX4_minuteOn_X4_put : GoodIn wsX4_minuteOn wsX4_put := goodIn_r _ [33, 29, 77, 78, 79, 80, 81, 82, 83, 84] (by decide +kernel) (by decide +kernel)
set_option maxRecDepth 20000 in
theorem gX4_minuteOn_X4_put : GoodIn wsX4_minuteOn (wsV RX4 58 RX4 yX4_put wsX4_put) := goodIn_app (goodIn_of _ (by decide +kernel)) ggX4_minuteOn_X4_put
set_option maxRecDepth 20000 in
theorem ggX4_minuteOn_X4_sailing : GoodIn wsX4_minuteOn wsX4_sailing := goodIn_r _ [63, 1, 25, 26, 27, 10, 28, 29, 77, 78, 79, 80, 81, 82, 83, 84] (by decide +kernel) (by decide +kernel)
set_option maxRecDepth 20000 in
theorem gX4_minuteOn_X4_sailing : GoodIn wsX4_minuteOn (wsV RX4 76 RX4 yX4_sailing wsX4_sailing) := goodIn_app (goodIn_of _ (by decide +kernel)) ggX4_minuteOn_X4_sailing
set_option maxRecDepth 20000 in
theorem ggX4_minuteOn_X4_finish : GoodIn wsX4_minuteOn wsX4_finish := goodIn_r _ [67, 2, 68, 1, 22, 23, 5, 24, 25, 26, 27, 10, 28, 29, 69, 70, 71, 72, 73, 74, 75, 76, 30, 31, 32, 33, 77, 78, 79, 80, 81, 82, 83, 84] (by decide +kernel) (by decide +kernel)
set_option maxRecDepth 20000 in
theorem gX4_minuteOn_X4_finish : GoodIn wsX4_minuteOn (wsV RX4 113 RX4 yX4_finish wsX4_finish) := goodIn_app (goodIn_of _ (by decide +kernel)) ggX4_minuteOn_X4_finish
theorem dX4_minuteOn_0 : decode cX4_minuteOn 0 = .ok (.aload_n 0, 1) := by decide +kernel
theorem dX4_minuteOn_1 : decode cX4_minuteOn 1 = .ok (.invokevirtual 40, 3) := by decide +kernel
theorem dX4_minuteOn_4 : decode cX4_minuteOn 4 = .ok (.ifCond .eq 7, 3) := by decide +kernel
theorem dX4_minuteOn_7 : decode cX4_minuteOn 7 = .ok (.aload_n 0, 1) := by decide +kernel
theorem dX4_minuteOn_8 : decode cX4_minuteOn 8 = .ok (.invokevirtual 110, 3) := by decide +kernel
theorem dX4_minuteOn_11 : decode cX4_minuteOn 11 = .ok (.iconst 0, 1) := by decide +kernel
theorem dX4_minuteOn_12 : decode cX4_minuteOn 12 = .ok (.istore_n 1, 1) := by decide +kernel
theorem dX4_minuteOn_13 : decode cX4_minuteOn 13 = .ok (.iload_n 1, 1) := by decide +kernel
theorem dX4_minuteOn_14 : decode cX4_minuteOn 14 = .ok (.aload_n 0, 1) := by decide +kernel
theorem dX4_minuteOn_15 : decode cX4_minuteOn 15 = .ok (.getfield 29, 3) := by decide +kernel
theorem dX4_minuteOn_18 : decode cX4_minuteOn 18 = .ok (.if_icmp .ge 55, 3) := by decide +kernel
theorem dX4_minuteOn_21 : decode cX4_minuteOn 21 = .ok (.aload_n 0, 1) := by decide +kernel
theorem dX4_minuteOn_22 : decode cX4_minuteOn 22 = .ok (.getfield 23, 3) := by decide +kernel
theorem dX4_minuteOn_25 : decode cX4_minuteOn 25 = .ok (.iconst 0, 1) := by decide +kernel
theorem dX4_minuteOn_26 : decode cX4_minuteOn 26 = .ok (.iaload, 1) := by decide +kernel
theorem dX4_minuteOn_27 : decode cX4_minuteOn 27 = .ok (.iconst 5, 1) := by decide +kernel
theorem dX4_minuteOn_28 : decode cX4_minuteOn 28 = .ok (.irem, 1) := by decide +kernel
theorem dX4_minuteOn_29 : decode cX4_minuteOn 29 = .ok (.ifCond .ne 38, 3) := by decide +kernel
theorem dX4_minuteOn_32 : decode cX4_minuteOn 32 = .ok (.aload_n 0, 1) := by decide +kernel
theorem dX4_minuteOn_33 : decode cX4_minuteOn 33 = .ok (.invokevirtual 40, 3) := by decide +kernel
theorem dX4_minuteOn_36 : decode cX4_minuteOn 36 = .ok (.ifCond .eq 13, 3) := by decide +kernel
theorem dX4_minuteOn_39 : decode cX4_minuteOn 39 = .ok (.aload_n 0, 1) := by decide +kernel
theorem dX4_minuteOn_40 : decode cX4_minuteOn 40 = .ok (.iload_n 1, 1) := by decide +kernel
theorem dX4_minuteOn_41 : decode cX4_minuteOn 41 = .ok (.bipush 9, 2) := by decide +kernel
theorem dX4_minuteOn_43 : decode cX4_minuteOn 43 = .ok (.invokevirtual 54, 3) := by decide +kernel
theorem dX4_minuteOn_46 : decode cX4_minuteOn 46 = .ok (.ifCond .ne 21, 3) := by decide +kernel
theorem dX4_minuteOn_49 : decode cX4_minuteOn 49 = .ok (.aload_n 0, 1) := by decide +kernel
theorem dX4_minuteOn_50 : decode cX4_minuteOn 50 = .ok (.iload_n 1, 1) := by decide +kernel
theorem dX4_minuteOn_51 : decode cX4_minuteOn 51 = .ok (.iconst 4, 1) := by decide +kernel
theorem dX4_minuteOn_52 : decode cX4_minuteOn 52 = .ok (.iconst 0, 1) := by decide +kernel
theorem dX4_minuteOn_53 : decode cX4_minuteOn 53 = .ok (.aload_n 0, 1) := by decide +kernel
theorem dX4_minuteOn_54 : decode cX4_minuteOn 54 = .ok (.iload_n 1, 1) := by decide +kernel
theorem dX4_minuteOn_55 : decode cX4_minuteOn 55 = .ok (.iconst 4, 1) := by decide +kernel
theorem dX4_minuteOn_56 : decode cX4_minuteOn 56 = .ok (.invokevirtual 54, 3) := by decide +kernel
theorem dX4_minuteOn_59 : decode cX4_minuteOn 59 = .ok (.iconst 1, 1) := by decide +kernel
theorem dX4_minuteOn_60 : decode cX4_minuteOn 60 = .ok (.isub, 1) := by decide +kernel
theorem dX4_minuteOn_61 : decode cX4_minuteOn 61 = .ok (.invokestatic 68, 3) := by decide +kernel
theorem dX4_minuteOn_64 : decode cX4_minuteOn 64 = .ok (.invokevirtual 58, 3) := by decide +kernel
theorem dX4_minuteOn_67 : decode cX4_minuteOn 67 = .ok (.iinc 1 1, 3) := by decide +kernel
theorem dX4_minuteOn_70 : decode cX4_minuteOn 70 = .ok (.goto (-57), 3) := by decide +kernel
theorem dX4_minuteOn_73 : decode cX4_minuteOn 73 = .ok (.aload_n 0, 1) := by decide +kernel
theorem dX4_minuteOn_74 : decode cX4_minuteOn 74 = .ok (.getfield 23, 3) := by decide +kernel
theorem dX4_minuteOn_77 : decode cX4_minuteOn 77 = .ok (.iconst 0, 1) := by decide +kernel
theorem dX4_minuteOn_78 : decode cX4_minuteOn 78 = .ok (.dup2, 1) := by decide +kernel
theorem dX4_minuteOn_79 : decode cX4_minuteOn 79 = .ok (.iaload, 1) := by decide +kernel
theorem dX4_minuteOn_80 : decode cX4_minuteOn 80 = .ok (.iconst 1, 1) := by decide +kernel
theorem dX4_minuteOn_81 : decode cX4_minuteOn 81 = .ok (.iadd, 1) := by decide +kernel
theorem dX4_minuteOn_82 : decode cX4_minuteOn 82 = .ok (.iastore, 1) := by decide +kernel
theorem dX4_minuteOn_83 : decode cX4_minuteOn 83 = .ok (.aload_n 0, 1) := by decide +kernel
theorem dX4_minuteOn_84 : decode cX4_minuteOn 84 = .ok (.invokevirtual 40, 3) := by decide +kernel
theorem dX4_minuteOn_87 : decode cX4_minuteOn 87 = .ok (.ifCond .eq 25, 3) := by decide +kernel
theorem dX4_minuteOn_90 : decode cX4_minuteOn 90 = .ok (.aload_n 0, 1) := by decide +kernel
theorem dX4_minuteOn_91 : decode cX4_minuteOn 91 = .ok (.invokevirtual 76, 3) := by decide +kernel
theorem dX4_minuteOn_94 : decode cX4_minuteOn 94 = .ok (.ifCond .eq 14, 3) := by decide +kernel
theorem dX4_minuteOn_97 : decode cX4_minuteOn 97 = .ok (.aload_n 0, 1) := by decide +kernel
theorem dX4_minuteOn_98 : decode cX4_minuteOn 98 = .ok (.getfield 23, 3) := by decide +kernel
theorem dX4_minuteOn_101 : decode cX4_minuteOn 101 = .ok (.iconst 3, 1) := by decide +kernel
theorem dX4_minuteOn_102 : decode cX4_minuteOn 102 = .ok (.iaload, 1) := by decide +kernel
theorem dX4_minuteOn_103 : decode cX4_minuteOn 103 = .ok (.bipush 60, 2) := by decide +kernel
theorem dX4_minuteOn_105 : decode cX4_minuteOn 105 = .ok (.if_icmp .ne 7, 3) := by decide +kernel
theorem dX4_minuteOn_108 : decode cX4_minuteOn 108 = .ok (.aload_n 0, 1) := by decide +kernel
theorem dX4_minuteOn_109 : decode cX4_minuteOn 109 = .ok (.invokevirtual 113, 3) := by decide +kernel
theorem dX4_minuteOn_112 : decode cX4_minuteOn 112 = .ok (.return_, 1) := by decide +kernel
set_option maxRecDepth 20000 in
theorem ggX4_allIn_X4_bo : GoodIn wsX4_allIn wsX4_bo := goodIn_r _ [6, 7, 8, 9, 10, 11, 12, 13, 14, 15] (by decide +kernel) (by decide +kernel)
set_option maxRecDepth 20000 in
theorem gX4_allIn_X4_bo : GoodIn wsX4_allIn (wsV RX4 54 RX4 yX4_bo wsX4_bo) := goodIn_app (goodIn_of _ (by decide +kernel)) ggX4_allIn_X4_bo
theorem dX4_allIn_0 : decode cX4_allIn 0 = .ok (.iconst 0, 1) := by decide +kernel
theorem dX4_allIn_1 : decode cX4_allIn 1 = .ok (.istore_n 1, 1) := by decide +kernel
theorem dX4_allIn_2 : decode cX4_allIn 2 = .ok (.iconst 0, 1) := by decide +kernel
theorem dX4_allIn_3 : decode cX4_allIn 3 = .ok (.istore_n 2, 1) := by decide +kernel
theorem dX4_allIn_4 : decode cX4_allIn 4 = .ok (.iload_n 2, 1) := by decide +kernel
theorem dX4_allIn_5 : decode cX4_allIn 5 = .ok (.aload_n 0, 1) := by decide +kernel
theorem dX4_allIn_6 : decode cX4_allIn 6 = .ok (.getfield 29, 3) := by decide +kernel
theorem dX4_allIn_9 : decode cX4_allIn 9 = .ok (.if_icmp .ge 28, 3) := by decide +kernel
theorem dX4_allIn_12 : decode cX4_allIn 12 = .ok (.iload_n 1, 1) := by decide +kernel
theorem dX4_allIn_13 : decode cX4_allIn 13 = .ok (.aload_n 0, 1) := by decide +kernel
theorem dX4_allIn_14 : decode cX4_allIn 14 = .ok (.iload_n 2, 1) := by decide +kernel
theorem dX4_allIn_15 : decode cX4_allIn 15 = .ok (.bipush 9, 2) := by decide +kernel
theorem dX4_allIn_17 : decode cX4_allIn 17 = .ok (.invokevirtual 54, 3) := by decide +kernel
theorem dX4_allIn_20 : decode cX4_allIn 20 = .ok (.iconst 2, 1) := by decide +kernel
theorem dX4_allIn_21 : decode cX4_allIn 21 = .ok (.if_icmp .ne 7, 3) := by decide +kernel
theorem dX4_allIn_24 : decode cX4_allIn 24 = .ok (.iconst 1, 1) := by decide +kernel
theorem dX4_allIn_25 : decode cX4_allIn 25 = .ok (.goto 4, 3) := by decide +kernel
theorem dX4_allIn_28 : decode cX4_allIn 28 = .ok (.iconst 0, 1) := by decide +kernel
theorem dX4_allIn_29 : decode cX4_allIn 29 = .ok (.iadd, 1) := by decide +kernel
theorem dX4_allIn_30 : decode cX4_allIn 30 = .ok (.istore_n 1, 1) := by decide +kernel
theorem dX4_allIn_31 : decode cX4_allIn 31 = .ok (.iinc 2 1, 3) := by decide +kernel
theorem dX4_allIn_34 : decode cX4_allIn 34 = .ok (.goto (-30), 3) := by decide +kernel
theorem dX4_allIn_37 : decode cX4_allIn 37 = .ok (.iload_n 1, 1) := by decide +kernel
theorem dX4_allIn_38 : decode cX4_allIn 38 = .ok (.ireturn, 1) := by decide +kernel
set_option maxRecDepth 20000 in
theorem ggX4_pass_X4_isIn : GoodIn wsX4_pass wsX4_isIn := goodIn_r _ [5] (by decide +kernel) (by decide +kernel)
set_option maxRecDepth 20000 in
theorem gX4_pass_X4_isIn : GoodIn wsX4_pass (va_wsS RX4 32 yX4_isIn wsX4_isIn) := goodIn_app (goodIn_of _ (by decide +kernel)) ggX4_pass_X4_isIn
set_option maxRecDepth 20000 in
theorem ggX4_pass_X4_fail : GoodIn wsX4_pass wsX4_fail := goodIn_r _ [9, 1, 93, 94, 95, 96, 97, 98, 99, 100] (by decide +kernel) (by decide +kernel)
set_option maxRecDepth 20000 in
theorem gX4_pass_X4_fail : GoodIn wsX4_pass (wsV RX4 36 RX4 yX4_fail wsX4_fail) := goodIn_app (goodIn_of _ (by decide +kernel)) ggX4_pass_X4_fail
set_option maxRecDepth 20000 in
theorem ggX4_pass_X4_allIn : GoodIn wsX4_pass wsX4_allIn := goodIn_r _ [13, 14, 15, 16, 17, 4, 18, 19, 93, 94, 95, 96, 97, 98, 99, 100] (by decide +kernel) (by decide +kernel)
set_option maxRecDepth 20000 in
theorem gX4_pass_X4_allIn : GoodIn wsX4_pass (wsV RX4 116 RX4 yX4_allIn wsX4_allIn) := goodIn_app (goodIn_of _ (by decide +kernel)) ggX4_pass_X4_allIn
set_option maxRecDepth 20000 in
theorem ggX4_pass_X4_minuteOn : GoodIn wsX4_pass wsX4_minuteOn := goodIn_r _ [23, 14, 24, 25, 26, 27, 28, 29, 30, 31, 4, 32, 33, 34, 35, 36, 37, 38, 39, 40, 41, 42, 43, 44, 45, 15, 16, 17, 18, 19, 46, 47, 48, 49, 50, 51, 52, 53, 54, 55, 56, 57, 58, 59, 60, 61, 62, 63, 64, 65, 66, 67, 68, 69, 70, 71, 72, 73, 74, 75, 76, 77, 78, 79, 80, 81, 82, 83, 84, 85, 86, 87, 88, 89, 90, 91, 92, 93, 94, 95, 96, 97, 98, 99, 100] (by decide +kernel) (by decide +kernel)
set_option maxRecDepth 20000 in
theorem gX4_pass_X4_minuteOn : GoodIn wsX4_pass (wsV RX4 119 RX4 yX4_minuteOn wsX4_minuteOn) := goodIn_app (goodIn_of _ (by decide +kernel)) ggX4_pass_X4_minuteOn
theorem dX4_pass_0 : decode cX4_pass 0 = .ok (.aload_n 0, 1) := by decide +kernel
theorem dX4_pass_1 : decode cX4_pass 1 = .ok (.iconst 0, 1) := by decide +kernel
theorem dX4_pass_2 : decode cX4_pass 2 = .ok (.putfield 26, 3) := by decide +kernel
theorem dX4_pass_5 : decode cX4_pass 5 = .ok (.iload_n 1, 1) := by decide +kernel
theorem dX4_pass_6 : decode cX4_pass 6 = .ok (.iconst 1, 1) := by decide +kernel
theorem dX4_pass_7 : decode cX4_pass 7 = .ok (.bipush 90, 2) := by decide +kernel
theorem dX4_pass_9 : decode cX4_pass 9 = .ok (.invokestatic 32, 3) := by decide +kernel
theorem dX4_pass_12 : decode cX4_pass 12 = .ok (.ifCond .ne 9, 3) := by decide +kernel
theorem dX4_pass_15 : decode cX4_pass 15 = .ok (.aload_n 0, 1) := by decide +kernel
theorem dX4_pass_16 : decode cX4_pass 16 = .ok (.iconst 1, 1) := by decide +kernel
theorem dX4_pass_17 : decode cX4_pass 17 = .ok (.invokevirtual 36, 3) := by decide +kernel
theorem dX4_pass_20 : decode cX4_pass 20 = .ok (.ireturn, 1) := by decide +kernel
theorem dX4_pass_21 : decode cX4_pass 21 = .ok (.aload_n 0, 1) := by decide +kernel
theorem dX4_pass_22 : decode cX4_pass 22 = .ok (.invokevirtual 116, 3) := by decide +kernel
theorem dX4_pass_25 : decode cX4_pass 25 = .ok (.istore_n 2, 1) := by decide +kernel
theorem dX4_pass_26 : decode cX4_pass 26 = .ok (.iconst 0, 1) := by decide +kernel
theorem dX4_pass_27 : decode cX4_pass 27 = .ok (.istore_n 3, 1) := by decide +kernel
theorem dX4_pass_28 : decode cX4_pass 28 = .ok (.iload_n 3, 1) := by decide +kernel
theorem dX4_pass_29 : decode cX4_pass 29 = .ok (.iload_n 1, 1) := by decide +kernel
theorem dX4_pass_30 : decode cX4_pass 30 = .ok (.if_icmp .ge 13, 3) := by decide +kernel
theorem dX4_pass_33 : decode cX4_pass 33 = .ok (.aload_n 0, 1) := by decide +kernel
theorem dX4_pass_34 : decode cX4_pass 34 = .ok (.invokevirtual 119, 3) := by decide +kernel
theorem dX4_pass_37 : decode cX4_pass 37 = .ok (.iinc 3 1, 3) := by decide +kernel
theorem dX4_pass_40 : decode cX4_pass 40 = .ok (.goto (-12), 3) := by decide +kernel
theorem dX4_pass_43 : decode cX4_pass 43 = .ok (.aload_n 0, 1) := by decide +kernel
theorem dX4_pass_44 : decode cX4_pass 44 = .ok (.invokevirtual 116, 3) := by decide +kernel
theorem dX4_pass_47 : decode cX4_pass 47 = .ok (.iload_n 2, 1) := by decide +kernel
theorem dX4_pass_48 : decode cX4_pass 48 = .ok (.isub, 1) := by decide +kernel
theorem dX4_pass_49 : decode cX4_pass 49 = .ok (.ireturn, 1) := by decide +kernel
set_option maxRecDepth 20000 in
theorem ggX4_toldOf_X4_bo : GoodIn wsX4_toldOf wsX4_bo := goodIn_r _ [5, 6, 32, 33, 34, 35, 36, 37, 38, 39] (by decide +kernel) (by decide +kernel)
set_option maxRecDepth 20000 in
theorem gX4_toldOf_X4_bo : GoodIn wsX4_toldOf (wsV RX4 54 RX4 yX4_bo wsX4_bo) := goodIn_app (goodIn_of _ (by decide +kernel)) ggX4_toldOf_X4_bo
set_option maxRecDepth 20000 in
theorem ggX4_toldOf_X4_wind : GoodIn wsX4_toldOf wsX4_wind := goodIn_r _ [10, 11, 12, 32, 33, 34, 35, 36, 37, 38, 39] (by decide +kernel) (by decide +kernel)
set_option maxRecDepth 20000 in
theorem gX4_toldOf_X4_wind : GoodIn wsX4_toldOf (wsV RX4 86 RX4 yX4_wind wsX4_wind) := goodIn_app (goodIn_of _ (by decide +kernel)) ggX4_toldOf_X4_wind
set_option maxRecDepth 20000 in
theorem ggX4_toldOf_X4_heel : GoodIn wsX4_toldOf wsX4_heel := goodIn_r _ [16, 17, 18, 19, 20, 21, 22, 23, 4, 24, 1, 2, 3, 5, 6, 32, 33, 34, 35, 36, 37, 38, 39] (by decide +kernel) (by decide +kernel)
set_option maxRecDepth 20000 in
theorem gX4_toldOf_X4_heel : GoodIn wsX4_toldOf (wsV RX4 89 RX4 yX4_heel wsX4_heel) := goodIn_app (goodIn_of _ (by decide +kernel)) ggX4_toldOf_X4_heel
set_option maxRecDepth 20000 in
theorem ggX4_toldOf_X4_speed : GoodIn wsX4_toldOf wsX4_speed := goodIn_r _ [28, 29, 30, 19, 31, 21, 22, 23, 4, 24, 1, 2, 3, 5, 6, 32, 33, 34, 35, 36, 37, 38, 39] (by decide +kernel) (by decide +kernel)
set_option maxRecDepth 20000 in
theorem gX4_toldOf_X4_speed : GoodIn wsX4_toldOf (wsV RX4 92 RX4 yX4_speed wsX4_speed) := goodIn_app (goodIn_of _ (by decide +kernel)) ggX4_toldOf_X4_speed
theorem dX4_toldOf_0 : decode cX4_toldOf 0 = .ok (.iload_n 2, 1) := by decide +kernel
theorem dX4_toldOf_1 : decode cX4_toldOf 1 = .ok (.iconst 5, 1) := by decide +kernel
theorem dX4_toldOf_2 : decode cX4_toldOf 2 = .ok (.if_icmp .ge 12, 3) := by decide +kernel
theorem dX4_toldOf_5 : decode cX4_toldOf 5 = .ok (.aload_n 0, 1) := by decide +kernel
theorem dX4_toldOf_6 : decode cX4_toldOf 6 = .ok (.iload_n 1, 1) := by decide +kernel
theorem dX4_toldOf_7 : decode cX4_toldOf 7 = .ok (.iload_n 2, 1) := by decide +kernel
theorem dX4_toldOf_8 : decode cX4_toldOf 8 = .ok (.invokevirtual 54, 3) := by decide +kernel
theorem dX4_toldOf_11 : decode cX4_toldOf 11 = .ok (.goto 29, 3) := by decide +kernel
theorem dX4_toldOf_14 : decode cX4_toldOf 14 = .ok (.iload_n 2, 1) := by decide +kernel
theorem dX4_toldOf_15 : decode cX4_toldOf 15 = .ok (.iconst 5, 1) := by decide +kernel
theorem dX4_toldOf_16 : decode cX4_toldOf 16 = .ok (.if_icmp .ne 15, 3) := by decide +kernel
theorem dX4_toldOf_19 : decode cX4_toldOf 19 = .ok (.aload_n 0, 1) := by decide +kernel
theorem dX4_toldOf_20 : decode cX4_toldOf 20 = .ok (.iload_n 1, 1) := by decide +kernel
theorem dX4_toldOf_21 : decode cX4_toldOf 21 = .ok (.aload_n 0, 1) := by decide +kernel
theorem dX4_toldOf_22 : decode cX4_toldOf 22 = .ok (.invokevirtual 86, 3) := by decide +kernel
theorem dX4_toldOf_25 : decode cX4_toldOf 25 = .ok (.invokevirtual 89, 3) := by decide +kernel
theorem dX4_toldOf_28 : decode cX4_toldOf 28 = .ok (.goto 12, 3) := by decide +kernel
theorem dX4_toldOf_31 : decode cX4_toldOf 31 = .ok (.aload_n 0, 1) := by decide +kernel
theorem dX4_toldOf_32 : decode cX4_toldOf 32 = .ok (.iload_n 1, 1) := by decide +kernel
theorem dX4_toldOf_33 : decode cX4_toldOf 33 = .ok (.aload_n 0, 1) := by decide +kernel
theorem dX4_toldOf_34 : decode cX4_toldOf 34 = .ok (.invokevirtual 86, 3) := by decide +kernel
theorem dX4_toldOf_37 : decode cX4_toldOf 37 = .ok (.invokevirtual 92, 3) := by decide +kernel
theorem dX4_toldOf_40 : decode cX4_toldOf 40 = .ok (.ireturn, 1) := by decide +kernel
set_option maxRecDepth 20000 in
theorem ggX4_told_X4_isBoat : GoodIn wsX4_told wsX4_isBoat := goodIn_r _ [6, 7, 8, 9, 5, 10, 49, 50, 51, 52, 53, 54, 55, 56] (by decide +kernel) (by decide +kernel)
set_option maxRecDepth 20000 in
theorem gX4_told_X4_isBoat : GoodIn wsX4_told (wsV RX4 50 RX4 yX4_isBoat wsX4_isBoat) := goodIn_app (goodIn_of _ (by decide +kernel)) ggX4_told_X4_isBoat
set_option maxRecDepth 20000 in
theorem ggX4_told_X4_isIn : GoodIn wsX4_told wsX4_isIn := goodIn_r _ [10] (by decide +kernel) (by decide +kernel)
set_option maxRecDepth 20000 in
theorem gX4_told_X4_isIn : GoodIn wsX4_told (va_wsS RX4 32 yX4_isIn wsX4_isIn) := goodIn_app (goodIn_of _ (by decide +kernel)) ggX4_told_X4_isIn
set_option maxRecDepth 20000 in
theorem ggX4_told_X4_toldOf : GoodIn wsX4_told wsX4_toldOf := goodIn_r _ [14, 15, 16, 17, 5, 18, 19, 20, 21, 22, 23, 24, 25, 26, 27, 28, 29, 30, 31, 32, 33, 34, 35, 36, 37, 38, 39, 40, 41, 42, 43, 44, 49, 50, 51, 52, 53, 54, 55, 56] (by decide +kernel) (by decide +kernel)
set_option maxRecDepth 20000 in
theorem gX4_told_X4_toldOf : GoodIn wsX4_told (wsV RX4 122 RX4 yX4_toldOf wsX4_toldOf) := goodIn_app (goodIn_of _ (by decide +kernel)) ggX4_told_X4_toldOf
set_option maxRecDepth 20000 in
theorem ggX4_told_X4_fail : GoodIn wsX4_told wsX4_fail := goodIn_r _ [48, 1, 49, 50, 51, 52, 53, 54, 55, 56] (by decide +kernel) (by decide +kernel)
set_option maxRecDepth 20000 in
theorem gX4_told_X4_fail : GoodIn wsX4_told (wsV RX4 36 RX4 yX4_fail wsX4_fail) := goodIn_app (goodIn_of _ (by decide +kernel)) ggX4_told_X4_fail
theorem dX4_told_0 : decode cX4_told 0 = .ok (.aload_n 0, 1) := by decide +kernel
theorem dX4_told_1 : decode cX4_told 1 = .ok (.iconst 0, 1) := by decide +kernel
theorem dX4_told_2 : decode cX4_told 2 = .ok (.putfield 26, 3) := by decide +kernel
theorem dX4_told_5 : decode cX4_told 5 = .ok (.aload_n 0, 1) := by decide +kernel
theorem dX4_told_6 : decode cX4_told 6 = .ok (.iload_n 1, 1) := by decide +kernel
theorem dX4_told_7 : decode cX4_told 7 = .ok (.invokevirtual 50, 3) := by decide +kernel
theorem dX4_told_10 : decode cX4_told 10 = .ok (.ifCond .eq 22, 3) := by decide +kernel
theorem dX4_told_13 : decode cX4_told 13 = .ok (.iload_n 2, 1) := by decide +kernel
theorem dX4_told_14 : decode cX4_told 14 = .ok (.iconst 0, 1) := by decide +kernel
theorem dX4_told_15 : decode cX4_told 15 = .ok (.bipush 6, 2) := by decide +kernel
theorem dX4_told_17 : decode cX4_told 17 = .ok (.invokestatic 32, 3) := by decide +kernel
theorem dX4_told_20 : decode cX4_told 20 = .ok (.ifCond .eq 12, 3) := by decide +kernel
theorem dX4_told_23 : decode cX4_told 23 = .ok (.aload_n 0, 1) := by decide +kernel
theorem dX4_told_24 : decode cX4_told 24 = .ok (.iload_n 1, 1) := by decide +kernel
theorem dX4_told_25 : decode cX4_told 25 = .ok (.iload_n 2, 1) := by decide +kernel
theorem dX4_told_26 : decode cX4_told 26 = .ok (.invokevirtual 122, 3) := by decide +kernel
theorem dX4_told_29 : decode cX4_told 29 = .ok (.goto 8, 3) := by decide +kernel
theorem dX4_told_32 : decode cX4_told 32 = .ok (.aload_n 0, 1) := by decide +kernel
theorem dX4_told_33 : decode cX4_told 33 = .ok (.iconst 1, 1) := by decide +kernel
theorem dX4_told_34 : decode cX4_told 34 = .ok (.invokevirtual 36, 3) := by decide +kernel
theorem dX4_told_37 : decode cX4_told 37 = .ok (.ireturn, 1) := by decide +kernel
set_option maxRecDepth 20000 in
theorem ggX4_raceTold_X4_bo : GoodIn wsX4_raceTold wsX4_bo := goodIn_r _ [6, 7, 8, 9, 10, 11, 12, 13, 14, 15] (by decide +kernel) (by decide +kernel)
set_option maxRecDepth 20000 in
theorem gX4_raceTold_X4_bo : GoodIn wsX4_raceTold (wsV RX4 54 RX4 yX4_bo wsX4_bo) := goodIn_app (goodIn_of _ (by decide +kernel)) ggX4_raceTold_X4_bo
theorem dX4_raceTold_0 : decode cX4_raceTold 0 = .ok (.aload_n 0, 1) := by decide +kernel
theorem dX4_raceTold_1 : decode cX4_raceTold 1 = .ok (.getfield 23, 3) := by decide +kernel
theorem dX4_raceTold_4 : decode cX4_raceTold 4 = .ok (.iconst 1, 1) := by decide +kernel
theorem dX4_raceTold_5 : decode cX4_raceTold 5 = .ok (.iaload, 1) := by decide +kernel
theorem dX4_raceTold_6 : decode cX4_raceTold 6 = .ok (.ifCond .ne 7, 3) := by decide +kernel
theorem dX4_raceTold_9 : decode cX4_raceTold 9 = .ok (.iconst (-1), 1) := by decide +kernel
theorem dX4_raceTold_10 : decode cX4_raceTold 10 = .ok (.goto 31, 3) := by decide +kernel
theorem dX4_raceTold_13 : decode cX4_raceTold 13 = .ok (.iload_n 2, 1) := by decide +kernel
theorem dX4_raceTold_14 : decode cX4_raceTold 14 = .ok (.iconst 3, 1) := by decide +kernel
theorem dX4_raceTold_15 : decode cX4_raceTold 15 = .ok (.if_icmp .ne 18, 3) := by decide +kernel
theorem dX4_raceTold_18 : decode cX4_raceTold 18 = .ok (.aload_n 0, 1) := by decide +kernel
theorem dX4_raceTold_19 : decode cX4_raceTold 19 = .ok (.iload_n 1, 1) := by decide +kernel
theorem dX4_raceTold_20 : decode cX4_raceTold 20 = .ok (.bipush 9, 2) := by decide +kernel
theorem dX4_raceTold_22 : decode cX4_raceTold 22 = .ok (.invokevirtual 54, 3) := by decide +kernel
theorem dX4_raceTold_25 : decode cX4_raceTold 25 = .ok (.iconst 3, 1) := by decide +kernel
theorem dX4_raceTold_26 : decode cX4_raceTold 26 = .ok (.if_icmp .ne 7, 3) := by decide +kernel
theorem dX4_raceTold_29 : decode cX4_raceTold 29 = .ok (.iconst 0, 1) := by decide +kernel
theorem dX4_raceTold_30 : decode cX4_raceTold 30 = .ok (.goto 11, 3) := by decide +kernel
theorem dX4_raceTold_33 : decode cX4_raceTold 33 = .ok (.aload_n 0, 1) := by decide +kernel
theorem dX4_raceTold_34 : decode cX4_raceTold 34 = .ok (.iload_n 1, 1) := by decide +kernel
theorem dX4_raceTold_35 : decode cX4_raceTold 35 = .ok (.iconst 5, 1) := by decide +kernel
theorem dX4_raceTold_36 : decode cX4_raceTold 36 = .ok (.iload_n 2, 1) := by decide +kernel
theorem dX4_raceTold_37 : decode cX4_raceTold 37 = .ok (.iadd, 1) := by decide +kernel
theorem dX4_raceTold_38 : decode cX4_raceTold 38 = .ok (.invokevirtual 54, 3) := by decide +kernel
theorem dX4_raceTold_41 : decode cX4_raceTold 41 = .ok (.ireturn, 1) := by decide +kernel
set_option maxRecDepth 20000 in
theorem ggX4_about_X4_isBoat : GoodIn wsX4_about wsX4_isBoat := goodIn_r _ [6, 7, 8, 9, 5, 10, 25, 26, 27, 28, 29, 30, 31, 32] (by decide +kernel) (by decide +kernel)
set_option maxRecDepth 20000 in
theorem gX4_about_X4_isBoat : GoodIn wsX4_about (wsV RX4 50 RX4 yX4_isBoat wsX4_isBoat) := goodIn_app (goodIn_of _ (by decide +kernel)) ggX4_about_X4_isBoat
set_option maxRecDepth 20000 in
theorem ggX4_about_X4_isIn : GoodIn wsX4_about wsX4_isIn := goodIn_r _ [10] (by decide +kernel) (by decide +kernel)
set_option maxRecDepth 20000 in
theorem gX4_about_X4_isIn : GoodIn wsX4_about (va_wsS RX4 32 yX4_isIn wsX4_isIn) := goodIn_app (goodIn_of _ (by decide +kernel)) ggX4_about_X4_isIn
set_option maxRecDepth 20000 in
theorem ggX4_about_X4_raceTold : GoodIn wsX4_about wsX4_raceTold := goodIn_r _ [14, 15, 16, 17, 18, 5, 19, 20, 25, 26, 27, 28, 29, 30, 31, 32] (by decide +kernel) (by decide +kernel)
set_option maxRecDepth 20000 in
theorem gX4_about_X4_raceTold : GoodIn wsX4_about (wsV RX4 125 RX4 yX4_raceTold wsX4_raceTold) := goodIn_app (goodIn_of _ (by decide +kernel)) ggX4_about_X4_raceTold
set_option maxRecDepth 20000 in
theorem ggX4_about_X4_fail : GoodIn wsX4_about wsX4_fail := goodIn_r _ [24, 1, 25, 26, 27, 28, 29, 30, 31, 32] (by decide +kernel) (by decide +kernel)
set_option maxRecDepth 20000 in
theorem gX4_about_X4_fail : GoodIn wsX4_about (wsV RX4 36 RX4 yX4_fail wsX4_fail) := goodIn_app (goodIn_of _ (by decide +kernel)) ggX4_about_X4_fail
theorem dX4_about_0 : decode cX4_about 0 = .ok (.aload_n 0, 1) := by decide +kernel
theorem dX4_about_1 : decode cX4_about 1 = .ok (.iconst 0, 1) := by decide +kernel
theorem dX4_about_2 : decode cX4_about 2 = .ok (.putfield 26, 3) := by decide +kernel
theorem dX4_about_5 : decode cX4_about 5 = .ok (.aload_n 0, 1) := by decide +kernel
theorem dX4_about_6 : decode cX4_about 6 = .ok (.iload_n 1, 1) := by decide +kernel
theorem dX4_about_7 : decode cX4_about 7 = .ok (.invokevirtual 50, 3) := by decide +kernel
theorem dX4_about_10 : decode cX4_about 10 = .ok (.ifCond .eq 21, 3) := by decide +kernel
theorem dX4_about_13 : decode cX4_about 13 = .ok (.iload_n 2, 1) := by decide +kernel
theorem dX4_about_14 : decode cX4_about 14 = .ok (.iconst 0, 1) := by decide +kernel
theorem dX4_about_15 : decode cX4_about 15 = .ok (.iconst 4, 1) := by decide +kernel
theorem dX4_about_16 : decode cX4_about 16 = .ok (.invokestatic 32, 3) := by decide +kernel
theorem dX4_about_19 : decode cX4_about 19 = .ok (.ifCond .eq 12, 3) := by decide +kernel
theorem dX4_about_22 : decode cX4_about 22 = .ok (.aload_n 0, 1) := by decide +kernel
theorem dX4_about_23 : decode cX4_about 23 = .ok (.iload_n 1, 1) := by decide +kernel
theorem dX4_about_24 : decode cX4_about 24 = .ok (.iload_n 2, 1) := by decide +kernel
theorem dX4_about_25 : decode cX4_about 25 = .ok (.invokevirtual 125, 3) := by decide +kernel
theorem dX4_about_28 : decode cX4_about 28 = .ok (.goto 8, 3) := by decide +kernel
theorem dX4_about_31 : decode cX4_about 31 = .ok (.aload_n 0, 1) := by decide +kernel
theorem dX4_about_32 : decode cX4_about 32 = .ok (.iconst 1, 1) := by decide +kernel
theorem dX4_about_33 : decode cX4_about 33 = .ok (.invokevirtual 36, 3) := by decide +kernel
theorem dX4_about_36 : decode cX4_about 36 = .ok (.ireturn, 1) := by decide +kernel
set_option maxRecDepth 20000 in
theorem ggX4_all_X4_bo : GoodIn wsX4_all wsX4_bo := goodIn_r _ [6, 7, 8, 9, 10, 11, 12, 13, 14, 15] (by decide +kernel) (by decide +kernel)
set_option maxRecDepth 20000 in
theorem gX4_all_X4_bo : GoodIn wsX4_all (wsV RX4 54 RX4 yX4_bo wsX4_bo) := goodIn_app (goodIn_of _ (by decide +kernel)) ggX4_all_X4_bo
theorem dX4_all_0 : decode cX4_all 0 = .ok (.iconst 0, 1) := by decide +kernel
theorem dX4_all_1 : decode cX4_all 1 = .ok (.istore_n 2, 1) := by decide +kernel
theorem dX4_all_2 : decode cX4_all 2 = .ok (.iconst 0, 1) := by decide +kernel
theorem dX4_all_3 : decode cX4_all 3 = .ok (.istore_n 3, 1) := by decide +kernel
theorem dX4_all_4 : decode cX4_all 4 = .ok (.iload_n 3, 1) := by decide +kernel
theorem dX4_all_5 : decode cX4_all 5 = .ok (.aload_n 0, 1) := by decide +kernel
theorem dX4_all_6 : decode cX4_all 6 = .ok (.getfield 29, 3) := by decide +kernel
theorem dX4_all_9 : decode cX4_all 9 = .ok (.if_icmp .ge 18, 3) := by decide +kernel
theorem dX4_all_12 : decode cX4_all 12 = .ok (.iload_n 2, 1) := by decide +kernel
theorem dX4_all_13 : decode cX4_all 13 = .ok (.aload_n 0, 1) := by decide +kernel
theorem dX4_all_14 : decode cX4_all 14 = .ok (.iload_n 3, 1) := by decide +kernel
theorem dX4_all_15 : decode cX4_all 15 = .ok (.iload_n 1, 1) := by decide +kernel
theorem dX4_all_16 : decode cX4_all 16 = .ok (.invokevirtual 54, 3) := by decide +kernel
theorem dX4_all_19 : decode cX4_all 19 = .ok (.iadd, 1) := by decide +kernel
theorem dX4_all_20 : decode cX4_all 20 = .ok (.istore_n 2, 1) := by decide +kernel
theorem dX4_all_21 : decode cX4_all 21 = .ok (.iinc 3 1, 3) := by decide +kernel
theorem dX4_all_24 : decode cX4_all 24 = .ok (.goto (-20), 3) := by decide +kernel
theorem dX4_all_27 : decode cX4_all 27 = .ok (.iload_n 2, 1) := by decide +kernel
theorem dX4_all_28 : decode cX4_all 28 = .ok (.ireturn, 1) := by decide +kernel
set_option maxRecDepth 20000 in
theorem ggX4_counted_X4_wind : GoodIn wsX4_counted wsX4_wind := goodIn_r _ [8, 9, 1, 27, 28, 29, 30, 31, 32, 33, 34] (by decide +kernel) (by decide +kernel)
set_option maxRecDepth 20000 in
theorem gX4_counted_X4_wind : GoodIn wsX4_counted (wsV RX4 86 RX4 yX4_wind wsX4_wind) := goodIn_app (goodIn_of _ (by decide +kernel)) ggX4_counted_X4_wind
set_option maxRecDepth 20000 in
theorem ggX4_counted_X4_isRace : GoodIn wsX4_counted wsX4_isRace := goodIn_r _ [13, 1, 27, 28, 29, 30, 31, 32, 33, 34] (by decide +kernel) (by decide +kernel)
set_option maxRecDepth 20000 in
theorem gX4_counted_X4_isRace : GoodIn wsX4_counted (wsV RX4 40 RX4 yX4_isRace wsX4_isRace) := goodIn_app (goodIn_of _ (by decide +kernel)) ggX4_counted_X4_isRace
set_option maxRecDepth 20000 in
theorem ggX4_counted_X4_sailing : GoodIn wsX4_counted wsX4_sailing := goodIn_r _ [17, 2, 18, 19, 20, 7, 21, 22, 27, 28, 29, 30, 31, 32, 33, 34] (by decide +kernel) (by decide +kernel)
set_option maxRecDepth 20000 in
theorem gX4_counted_X4_sailing : GoodIn wsX4_counted (wsV RX4 76 RX4 yX4_sailing wsX4_sailing) := goodIn_app (goodIn_of _ (by decide +kernel)) ggX4_counted_X4_sailing
set_option maxRecDepth 20000 in
theorem ggX4_counted_X4_all : GoodIn wsX4_counted wsX4_all := goodIn_r _ [26, 2, 18, 19, 20, 7, 21, 22, 27, 28, 29, 30, 31, 32, 33, 34] (by decide +kernel) (by decide +kernel)
set_option maxRecDepth 20000 in
theorem gX4_counted_X4_all : GoodIn wsX4_counted (wsV RX4 128 RX4 yX4_all wsX4_all) := goodIn_app (goodIn_of _ (by decide +kernel)) ggX4_counted_X4_all
theorem dX4_counted_0 : decode cX4_counted 0 = .ok (.iload_n 1, 1) := by decide +kernel
theorem dX4_counted_1 : decode cX4_counted 1 = .ok (.tableswitch 105 0 7 #[47, 54, 59, 64, 69, 76, 83, 99], 47) := by decide +kernel
theorem dX4_counted_48 : decode cX4_counted 48 = .ok (.aload_n 0, 1) := by decide +kernel
theorem dX4_counted_49 : decode cX4_counted 49 = .ok (.getfield 23, 3) := by decide +kernel
theorem dX4_counted_52 : decode cX4_counted 52 = .ok (.iconst 0, 1) := by decide +kernel
theorem dX4_counted_53 : decode cX4_counted 53 = .ok (.iaload, 1) := by decide +kernel
theorem dX4_counted_54 : decode cX4_counted 54 = .ok (.ireturn, 1) := by decide +kernel
theorem dX4_counted_55 : decode cX4_counted 55 = .ok (.aload_n 0, 1) := by decide +kernel
theorem dX4_counted_56 : decode cX4_counted 56 = .ok (.invokevirtual 86, 3) := by decide +kernel
theorem dX4_counted_59 : decode cX4_counted 59 = .ok (.ireturn, 1) := by decide +kernel
theorem dX4_counted_60 : decode cX4_counted 60 = .ok (.aload_n 0, 1) := by decide +kernel
theorem dX4_counted_61 : decode cX4_counted 61 = .ok (.getfield 29, 3) := by decide +kernel
theorem dX4_counted_64 : decode cX4_counted 64 = .ok (.ireturn, 1) := by decide +kernel
theorem dX4_counted_65 : decode cX4_counted 65 = .ok (.aload_n 0, 1) := by decide +kernel
theorem dX4_counted_66 : decode cX4_counted 66 = .ok (.getfield 62, 3) := by decide +kernel
theorem dX4_counted_69 : decode cX4_counted 69 = .ok (.ireturn, 1) := by decide +kernel
theorem dX4_counted_70 : decode cX4_counted 70 = .ok (.aload_n 0, 1) := by decide +kernel
theorem dX4_counted_71 : decode cX4_counted 71 = .ok (.getfield 23, 3) := by decide +kernel
theorem dX4_counted_74 : decode cX4_counted 74 = .ok (.iconst 1, 1) := by decide +kernel
theorem dX4_counted_75 : decode cX4_counted 75 = .ok (.iaload, 1) := by decide +kernel
theorem dX4_counted_76 : decode cX4_counted 76 = .ok (.ireturn, 1) := by decide +kernel
theorem dX4_counted_77 : decode cX4_counted 77 = .ok (.aload_n 0, 1) := by decide +kernel
theorem dX4_counted_78 : decode cX4_counted 78 = .ok (.getfield 23, 3) := by decide +kernel
theorem dX4_counted_81 : decode cX4_counted 81 = .ok (.iconst 2, 1) := by decide +kernel
theorem dX4_counted_82 : decode cX4_counted 82 = .ok (.iaload, 1) := by decide +kernel
theorem dX4_counted_83 : decode cX4_counted 83 = .ok (.ireturn, 1) := by decide +kernel
theorem dX4_counted_84 : decode cX4_counted 84 = .ok (.aload_n 0, 1) := by decide +kernel
theorem dX4_counted_85 : decode cX4_counted 85 = .ok (.invokevirtual 40, 3) := by decide +kernel
theorem dX4_counted_88 : decode cX4_counted 88 = .ok (.ifCond .eq 10, 3) := by decide +kernel
theorem dX4_counted_91 : decode cX4_counted 91 = .ok (.aload_n 0, 1) := by decide +kernel
theorem dX4_counted_92 : decode cX4_counted 92 = .ok (.invokevirtual 76, 3) := by decide +kernel
theorem dX4_counted_95 : decode cX4_counted 95 = .ok (.goto 4, 3) := by decide +kernel
theorem dX4_counted_98 : decode cX4_counted 98 = .ok (.iconst 0, 1) := by decide +kernel
theorem dX4_counted_99 : decode cX4_counted 99 = .ok (.ireturn, 1) := by decide +kernel
theorem dX4_counted_100 : decode cX4_counted 100 = .ok (.aload_n 0, 1) := by decide +kernel
theorem dX4_counted_101 : decode cX4_counted 101 = .ok (.iconst 3, 1) := by decide +kernel
theorem dX4_counted_102 : decode cX4_counted 102 = .ok (.invokevirtual 128, 3) := by decide +kernel
theorem dX4_counted_105 : decode cX4_counted 105 = .ok (.ireturn, 1) := by decide +kernel
theorem dX4_counted_106 : decode cX4_counted 106 = .ok (.aload_n 0, 1) := by decide +kernel
theorem dX4_counted_107 : decode cX4_counted 107 = .ok (.iconst 4, 1) := by decide +kernel
theorem dX4_counted_108 : decode cX4_counted 108 = .ok (.invokevirtual 128, 3) := by decide +kernel
theorem dX4_counted_111 : decode cX4_counted 111 = .ok (.ireturn, 1) := by decide +kernel
set_option maxRecDepth 20000 in
theorem ggX4_count_X4_isIn : GoodIn wsX4_count wsX4_isIn := goodIn_r _ [5] (by decide +kernel) (by decide +kernel)
set_option maxRecDepth 20000 in
theorem gX4_count_X4_isIn : GoodIn wsX4_count (va_wsS RX4 32 yX4_isIn wsX4_isIn) := goodIn_app (goodIn_of _ (by decide +kernel)) ggX4_count_X4_isIn
set_option maxRecDepth 20000 in
theorem ggX4_count_X4_counted : GoodIn wsX4_count wsX4_counted := goodIn_r _ [9, 10, 11, 12, 13, 14, 15, 4, 16, 17, 18, 19, 20, 21, 22, 23, 24, 25, 26, 27, 28, 29, 30, 31, 32, 33, 34, 39, 40, 41, 42, 43, 44, 45, 46] (by decide +kernel) (by decide +kernel)
set_option maxRecDepth 20000 in
theorem gX4_count_X4_counted : GoodIn wsX4_count (wsV RX4 131 RX4 yX4_counted wsX4_counted) := goodIn_app (goodIn_of _ (by decide +kernel)) ggX4_count_X4_counted
set_option maxRecDepth 20000 in
theorem ggX4_count_X4_fail : GoodIn wsX4_count wsX4_fail := goodIn_r _ [38, 1, 39, 40, 41, 42, 43, 44, 45, 46] (by decide +kernel) (by decide +kernel)
set_option maxRecDepth 20000 in
theorem gX4_count_X4_fail : GoodIn wsX4_count (wsV RX4 36 RX4 yX4_fail wsX4_fail) := goodIn_app (goodIn_of _ (by decide +kernel)) ggX4_count_X4_fail
theorem dX4_count_0 : decode cX4_count 0 = .ok (.aload_n 0, 1) := by decide +kernel
theorem dX4_count_1 : decode cX4_count 1 = .ok (.iconst 0, 1) := by decide +kernel
theorem dX4_count_2 : decode cX4_count 2 = .ok (.putfield 26, 3) := by decide +kernel
theorem dX4_count_5 : decode cX4_count 5 = .ok (.iload_n 1, 1) := by decide +kernel
theorem dX4_count_6 : decode cX4_count 6 = .ok (.iconst 0, 1) := by decide +kernel
theorem dX4_count_7 : decode cX4_count 7 = .ok (.bipush 8, 2) := by decide +kernel
theorem dX4_count_9 : decode cX4_count 9 = .ok (.invokestatic 32, 3) := by decide +kernel
theorem dX4_count_12 : decode cX4_count 12 = .ok (.ifCond .eq 11, 3) := by decide +kernel
theorem dX4_count_15 : decode cX4_count 15 = .ok (.aload_n 0, 1) := by decide +kernel
theorem dX4_count_16 : decode cX4_count 16 = .ok (.iload_n 1, 1) := by decide +kernel
theorem dX4_count_17 : decode cX4_count 17 = .ok (.invokevirtual 131, 3) := by decide +kernel
theorem dX4_count_20 : decode cX4_count 20 = .ok (.goto 8, 3) := by decide +kernel
theorem dX4_count_23 : decode cX4_count 23 = .ok (.aload_n 0, 1) := by decide +kernel
theorem dX4_count_24 : decode cX4_count 24 = .ok (.iconst 1, 1) := by decide +kernel
theorem dX4_count_25 : decode cX4_count 25 = .ok (.invokevirtual 36, 3) := by decide +kernel
theorem dX4_count_28 : decode cX4_count 28 = .ok (.ireturn, 1) := by decide +kernel
set_option maxRecDepth 20000 in
theorem ggX4_ahead_X4_isRace : GoodIn wsX4_ahead wsX4_isRace := goodIn_r _ [7, 8, 17, 18, 19, 20, 21, 22, 23, 24] (by decide +kernel) (by decide +kernel)
set_option maxRecDepth 20000 in
theorem gX4_ahead_X4_isRace : GoodIn wsX4_ahead (wsV RX4 40 RX4 yX4_isRace wsX4_isRace) := goodIn_app (goodIn_of _ (by decide +kernel)) ggX4_ahead_X4_isRace
set_option maxRecDepth 20000 in
theorem ggX4_ahead_X4_bo : GoodIn wsX4_ahead wsX4_bo := goodIn_r _ [12, 13, 17, 18, 19, 20, 21, 22, 23, 24] (by decide +kernel) (by decide +kernel)
set_option maxRecDepth 20000 in
theorem gX4_ahead_X4_bo : GoodIn wsX4_ahead (wsV RX4 54 RX4 yX4_bo wsX4_bo) := goodIn_app (goodIn_of _ (by decide +kernel)) ggX4_ahead_X4_bo
set_option maxRecDepth 20000 in
theorem ggX4_ahead_X4_isIn : GoodIn wsX4_ahead wsX4_isIn := goodIn_r _ [16] (by decide +kernel) (by decide +kernel)
set_option maxRecDepth 20000 in
theorem gX4_ahead_X4_isIn : GoodIn wsX4_ahead (va_wsS RX4 32 yX4_isIn wsX4_isIn) := goodIn_app (goodIn_of _ (by decide +kernel)) ggX4_ahead_X4_isIn
theorem dX4_ahead_0 : decode cX4_ahead 0 = .ok (.aload_n 0, 1) := by decide +kernel
theorem dX4_ahead_1 : decode cX4_ahead 1 = .ok (.iconst 0, 1) := by decide +kernel
theorem dX4_ahead_2 : decode cX4_ahead 2 = .ok (.putfield 26, 3) := by decide +kernel
theorem dX4_ahead_5 : decode cX4_ahead 5 = .ok (.aload_n 0, 1) := by decide +kernel
theorem dX4_ahead_6 : decode cX4_ahead 6 = .ok (.invokevirtual 40, 3) := by decide +kernel
theorem dX4_ahead_9 : decode cX4_ahead 9 = .ok (.ifCond .ne 5, 3) := by decide +kernel
theorem dX4_ahead_12 : decode cX4_ahead 12 = .ok (.iconst (-1), 1) := by decide +kernel
theorem dX4_ahead_13 : decode cX4_ahead 13 = .ok (.ireturn, 1) := by decide +kernel
theorem dX4_ahead_14 : decode cX4_ahead 14 = .ok (.iconst (-1), 1) := by decide +kernel
theorem dX4_ahead_15 : decode cX4_ahead 15 = .ok (.istore_n 1, 1) := by decide +kernel
theorem dX4_ahead_16 : decode cX4_ahead 16 = .ok (.iconst 0, 1) := by decide +kernel
theorem dX4_ahead_17 : decode cX4_ahead 17 = .ok (.istore_n 2, 1) := by decide +kernel
theorem dX4_ahead_18 : decode cX4_ahead 18 = .ok (.iload_n 2, 1) := by decide +kernel
theorem dX4_ahead_19 : decode cX4_ahead 19 = .ok (.aload_n 0, 1) := by decide +kernel
theorem dX4_ahead_20 : decode cX4_ahead 20 = .ok (.getfield 29, 3) := by decide +kernel
theorem dX4_ahead_23 : decode cX4_ahead 23 = .ok (.if_icmp .ge 46, 3) := by decide +kernel
theorem dX4_ahead_26 : decode cX4_ahead 26 = .ok (.aload_n 0, 1) := by decide +kernel
theorem dX4_ahead_27 : decode cX4_ahead 27 = .ok (.iload_n 2, 1) := by decide +kernel
theorem dX4_ahead_28 : decode cX4_ahead 28 = .ok (.bipush 9, 2) := by decide +kernel
theorem dX4_ahead_30 : decode cX4_ahead 30 = .ok (.invokevirtual 54, 3) := by decide +kernel
theorem dX4_ahead_33 : decode cX4_ahead 33 = .ok (.iconst 1, 1) := by decide +kernel
theorem dX4_ahead_34 : decode cX4_ahead 34 = .ok (.iconst 2, 1) := by decide +kernel
theorem dX4_ahead_35 : decode cX4_ahead 35 = .ok (.invokestatic 32, 3) := by decide +kernel
theorem dX4_ahead_38 : decode cX4_ahead 38 = .ok (.ifCond .eq 25, 3) := by decide +kernel
theorem dX4_ahead_41 : decode cX4_ahead 41 = .ok (.iload_n 1, 1) := by decide +kernel
theorem dX4_ahead_42 : decode cX4_ahead 42 = .ok (.iconst (-1), 1) := by decide +kernel
theorem dX4_ahead_43 : decode cX4_ahead 43 = .ok (.if_icmp .eq 18, 3) := by decide +kernel
theorem dX4_ahead_46 : decode cX4_ahead 46 = .ok (.aload_n 0, 1) := by decide +kernel
theorem dX4_ahead_47 : decode cX4_ahead 47 = .ok (.iload_n 2, 1) := by decide +kernel
theorem dX4_ahead_48 : decode cX4_ahead 48 = .ok (.iconst 5, 1) := by decide +kernel
theorem dX4_ahead_49 : decode cX4_ahead 49 = .ok (.invokevirtual 54, 3) := by decide +kernel
theorem dX4_ahead_52 : decode cX4_ahead 52 = .ok (.aload_n 0, 1) := by decide +kernel
theorem dX4_ahead_53 : decode cX4_ahead 53 = .ok (.iload_n 1, 1) := by decide +kernel
theorem dX4_ahead_54 : decode cX4_ahead 54 = .ok (.iconst 5, 1) := by decide +kernel
theorem dX4_ahead_55 : decode cX4_ahead 55 = .ok (.invokevirtual 54, 3) := by decide +kernel
theorem dX4_ahead_58 : decode cX4_ahead 58 = .ok (.if_icmp .le 5, 3) := by decide +kernel
theorem dX4_ahead_61 : decode cX4_ahead 61 = .ok (.iload_n 2, 1) := by decide +kernel
theorem dX4_ahead_62 : decode cX4_ahead 62 = .ok (.istore_n 1, 1) := by decide +kernel
theorem dX4_ahead_63 : decode cX4_ahead 63 = .ok (.iinc 2 1, 3) := by decide +kernel
theorem dX4_ahead_66 : decode cX4_ahead 66 = .ok (.goto (-48), 3) := by decide +kernel
theorem dX4_ahead_69 : decode cX4_ahead 69 = .ok (.iload_n 1, 1) := by decide +kernel
theorem dX4_ahead_70 : decode cX4_ahead 70 = .ok (.ireturn, 1) := by decide +kernel
set_option maxRecDepth 20000 in
theorem ggX4_champion_X4_bo : GoodIn wsX4_champion wsX4_bo := goodIn_r _ [7, 8, 9, 10, 11, 12, 13, 14, 15, 16] (by decide +kernel) (by decide +kernel)
set_option maxRecDepth 20000 in
theorem gX4_champion_X4_bo : GoodIn wsX4_champion (wsV RX4 54 RX4 yX4_bo wsX4_bo) := goodIn_app (goodIn_of _ (by decide +kernel)) ggX4_champion_X4_bo
theorem dX4_champion_0 : decode cX4_champion 0 = .ok (.aload_n 0, 1) := by decide +kernel
theorem dX4_champion_1 : decode cX4_champion 1 = .ok (.iconst 0, 1) := by decide +kernel
theorem dX4_champion_2 : decode cX4_champion 2 = .ok (.putfield 26, 3) := by decide +kernel
theorem dX4_champion_5 : decode cX4_champion 5 = .ok (.iconst (-1), 1) := by decide +kernel
theorem dX4_champion_6 : decode cX4_champion 6 = .ok (.istore_n 1, 1) := by decide +kernel
theorem dX4_champion_7 : decode cX4_champion 7 = .ok (.iconst 0, 1) := by decide +kernel
theorem dX4_champion_8 : decode cX4_champion 8 = .ok (.istore_n 2, 1) := by decide +kernel
theorem dX4_champion_9 : decode cX4_champion 9 = .ok (.iload_n 2, 1) := by decide +kernel
theorem dX4_champion_10 : decode cX4_champion 10 = .ok (.aload_n 0, 1) := by decide +kernel
theorem dX4_champion_11 : decode cX4_champion 11 = .ok (.getfield 29, 3) := by decide +kernel
theorem dX4_champion_14 : decode cX4_champion 14 = .ok (.if_icmp .ge 61, 3) := by decide +kernel
theorem dX4_champion_17 : decode cX4_champion 17 = .ok (.iload_n 1, 1) := by decide +kernel
theorem dX4_champion_18 : decode cX4_champion 18 = .ok (.iconst (-1), 1) := by decide +kernel
theorem dX4_champion_19 : decode cX4_champion 19 = .ok (.if_icmp .eq 48, 3) := by decide +kernel
theorem dX4_champion_22 : decode cX4_champion 22 = .ok (.aload_n 0, 1) := by decide +kernel
theorem dX4_champion_23 : decode cX4_champion 23 = .ok (.iload_n 2, 1) := by decide +kernel
theorem dX4_champion_24 : decode cX4_champion 24 = .ok (.iconst 3, 1) := by decide +kernel
theorem dX4_champion_25 : decode cX4_champion 25 = .ok (.invokevirtual 54, 3) := by decide +kernel
theorem dX4_champion_28 : decode cX4_champion 28 = .ok (.aload_n 0, 1) := by decide +kernel
theorem dX4_champion_29 : decode cX4_champion 29 = .ok (.iload_n 1, 1) := by decide +kernel
theorem dX4_champion_30 : decode cX4_champion 30 = .ok (.iconst 3, 1) := by decide +kernel
theorem dX4_champion_31 : decode cX4_champion 31 = .ok (.invokevirtual 54, 3) := by decide +kernel
theorem dX4_champion_34 : decode cX4_champion 34 = .ok (.if_icmp .gt 33, 3) := by decide +kernel
theorem dX4_champion_37 : decode cX4_champion 37 = .ok (.aload_n 0, 1) := by decide +kernel
theorem dX4_champion_38 : decode cX4_champion 38 = .ok (.iload_n 2, 1) := by decide +kernel
theorem dX4_champion_39 : decode cX4_champion 39 = .ok (.iconst 3, 1) := by decide +kernel
theorem dX4_champion_40 : decode cX4_champion 40 = .ok (.invokevirtual 54, 3) := by decide +kernel
theorem dX4_champion_43 : decode cX4_champion 43 = .ok (.aload_n 0, 1) := by decide +kernel
theorem dX4_champion_44 : decode cX4_champion 44 = .ok (.iload_n 1, 1) := by decide +kernel
theorem dX4_champion_45 : decode cX4_champion 45 = .ok (.iconst 3, 1) := by decide +kernel
theorem dX4_champion_46 : decode cX4_champion 46 = .ok (.invokevirtual 54, 3) := by decide +kernel
theorem dX4_champion_49 : decode cX4_champion 49 = .ok (.if_icmp .ne 20, 3) := by decide +kernel
theorem dX4_champion_52 : decode cX4_champion 52 = .ok (.aload_n 0, 1) := by decide +kernel
theorem dX4_champion_53 : decode cX4_champion 53 = .ok (.iload_n 2, 1) := by decide +kernel
theorem dX4_champion_54 : decode cX4_champion 54 = .ok (.iconst 4, 1) := by decide +kernel
theorem dX4_champion_55 : decode cX4_champion 55 = .ok (.invokevirtual 54, 3) := by decide +kernel
theorem dX4_champion_58 : decode cX4_champion 58 = .ok (.aload_n 0, 1) := by decide +kernel
theorem dX4_champion_59 : decode cX4_champion 59 = .ok (.iload_n 1, 1) := by decide +kernel
theorem dX4_champion_60 : decode cX4_champion 60 = .ok (.iconst 4, 1) := by decide +kernel
theorem dX4_champion_61 : decode cX4_champion 61 = .ok (.invokevirtual 54, 3) := by decide +kernel
theorem dX4_champion_64 : decode cX4_champion 64 = .ok (.if_icmp .ge 5, 3) := by decide +kernel
theorem dX4_champion_67 : decode cX4_champion 67 = .ok (.iload_n 2, 1) := by decide +kernel
theorem dX4_champion_68 : decode cX4_champion 68 = .ok (.istore_n 1, 1) := by decide +kernel
theorem dX4_champion_69 : decode cX4_champion 69 = .ok (.iinc 2 1, 3) := by decide +kernel
theorem dX4_champion_72 : decode cX4_champion 72 = .ok (.goto (-63), 3) := by decide +kernel
theorem dX4_champion_75 : decode cX4_champion 75 = .ok (.iload_n 1, 1) := by decide +kernel
theorem dX4_champion_76 : decode cX4_champion 76 = .ok (.ireturn, 1) := by decide +kernel
set_option maxRecDepth 20000 in
theorem ggX4_falls_X4_isBoat : GoodIn wsX4_falls wsX4_isBoat := goodIn_r _ [6, 7, 8, 9, 5, 10, 28, 29, 30, 31, 32, 33, 34, 35] (by decide +kernel) (by decide +kernel)
set_option maxRecDepth 20000 in
theorem gX4_falls_X4_isBoat : GoodIn wsX4_falls (wsV RX4 50 RX4 yX4_isBoat wsX4_isBoat) := goodIn_app (goodIn_of _ (by decide +kernel)) ggX4_falls_X4_isBoat
set_option maxRecDepth 20000 in
theorem ggX4_falls_X4_isIn : GoodIn wsX4_falls wsX4_isIn := goodIn_r _ [10] (by decide +kernel) (by decide +kernel)
set_option maxRecDepth 20000 in
theorem gX4_falls_X4_isIn : GoodIn wsX4_falls (va_wsS RX4 32 yX4_isIn wsX4_isIn) := goodIn_app (goodIn_of _ (by decide +kernel)) ggX4_falls_X4_isIn
set_option maxRecDepth 20000 in
theorem ggX4_falls_X4_heel : GoodIn wsX4_falls wsX4_heel := goodIn_r _ [14, 15, 16, 17, 18, 19, 20, 21, 5, 22, 23, 24, 25, 26, 27, 28, 29, 30, 31, 32, 33, 34, 35] (by decide +kernel) (by decide +kernel)
set_option maxRecDepth 20000 in
theorem gX4_falls_X4_heel : GoodIn wsX4_falls (wsV RX4 89 RX4 yX4_heel wsX4_heel) := goodIn_app (goodIn_of _ (by decide +kernel)) ggX4_falls_X4_heel
theorem dX4_falls_0 : decode cX4_falls 0 = .ok (.aload_n 0, 1) := by decide +kernel
theorem dX4_falls_1 : decode cX4_falls 1 = .ok (.aload_n 0, 1) := by decide +kernel
theorem dX4_falls_2 : decode cX4_falls 2 = .ok (.iload_n 1, 1) := by decide +kernel
theorem dX4_falls_3 : decode cX4_falls 3 = .ok (.invokevirtual 50, 3) := by decide +kernel
theorem dX4_falls_6 : decode cX4_falls 6 = .ok (.ifCond .ne 7, 3) := by decide +kernel
theorem dX4_falls_9 : decode cX4_falls 9 = .ok (.iconst 1, 1) := by decide +kernel
theorem dX4_falls_10 : decode cX4_falls 10 = .ok (.goto 18, 3) := by decide +kernel
theorem dX4_falls_13 : decode cX4_falls 13 = .ok (.iload_n 2, 1) := by decide +kernel
theorem dX4_falls_14 : decode cX4_falls 14 = .ok (.iconst 0, 1) := by decide +kernel
theorem dX4_falls_15 : decode cX4_falls 15 = .ok (.bipush 9, 2) := by decide +kernel
theorem dX4_falls_17 : decode cX4_falls 17 = .ok (.invokestatic 32, 3) := by decide +kernel
theorem dX4_falls_20 : decode cX4_falls 20 = .ok (.ifCond .ne 7, 3) := by decide +kernel
theorem dX4_falls_23 : decode cX4_falls 23 = .ok (.iconst 2, 1) := by decide +kernel
theorem dX4_falls_24 : decode cX4_falls 24 = .ok (.goto 4, 3) := by decide +kernel
theorem dX4_falls_27 : decode cX4_falls 27 = .ok (.iconst 0, 1) := by decide +kernel
theorem dX4_falls_28 : decode cX4_falls 28 = .ok (.putfield 26, 3) := by decide +kernel
theorem dX4_falls_31 : decode cX4_falls 31 = .ok (.aload_n 0, 1) := by decide +kernel
theorem dX4_falls_32 : decode cX4_falls 32 = .ok (.getfield 26, 3) := by decide +kernel
theorem dX4_falls_35 : decode cX4_falls 35 = .ok (.ifCond .ne 18, 3) := by decide +kernel
theorem dX4_falls_38 : decode cX4_falls 38 = .ok (.aload_n 0, 1) := by decide +kernel
theorem dX4_falls_39 : decode cX4_falls 39 = .ok (.iload_n 1, 1) := by decide +kernel
theorem dX4_falls_40 : decode cX4_falls 40 = .ok (.iload_n 2, 1) := by decide +kernel
theorem dX4_falls_41 : decode cX4_falls 41 = .ok (.invokevirtual 89, 3) := by decide +kernel
theorem dX4_falls_44 : decode cX4_falls 44 = .ok (.bipush 30, 2) := by decide +kernel
theorem dX4_falls_46 : decode cX4_falls 46 = .ok (.if_icmp .le 7, 3) := by decide +kernel
theorem dX4_falls_49 : decode cX4_falls 49 = .ok (.iconst 1, 1) := by decide +kernel
theorem dX4_falls_50 : decode cX4_falls 50 = .ok (.goto 4, 3) := by decide +kernel
theorem dX4_falls_53 : decode cX4_falls 53 = .ok (.iconst 0, 1) := by decide +kernel
theorem dX4_falls_54 : decode cX4_falls 54 = .ok (.ireturn, 1) := by decide +kernel
theorem dX4_kept_0 : decode cX4_kept 0 = .ok (.iconst 2, 1) := by decide +kernel
theorem dX4_kept_1 : decode cX4_kept 1 = .ok (.anewarray 134, 3) := by decide +kernel
theorem dX4_kept_4 : decode cX4_kept 4 = .ok (.dup, 1) := by decide +kernel
theorem dX4_kept_5 : decode cX4_kept 5 = .ok (.iconst 0, 1) := by decide +kernel
theorem dX4_kept_6 : decode cX4_kept 6 = .ok (.aload_n 0, 1) := by decide +kernel
theorem dX4_kept_7 : decode cX4_kept 7 = .ok (.getfield 20, 3) := by decide +kernel
theorem dX4_kept_10 : decode cX4_kept 10 = .ok (.invokevirtual 135, 3) := by decide +kernel
theorem dX4_kept_13 : decode cX4_kept 13 = .ok (.checkcast 134, 3) := by decide +kernel
theorem dX4_kept_16 : decode cX4_kept 16 = .ok (.aastore, 1) := by decide +kernel
theorem dX4_kept_17 : decode cX4_kept 17 = .ok (.dup, 1) := by decide +kernel
theorem dX4_kept_18 : decode cX4_kept 18 = .ok (.iconst 1, 1) := by decide +kernel
theorem dX4_kept_19 : decode cX4_kept 19 = .ok (.aload_n 0, 1) := by decide +kernel
theorem dX4_kept_20 : decode cX4_kept 20 = .ok (.getfield 23, 3) := by decide +kernel
theorem dX4_kept_23 : decode cX4_kept 23 = .ok (.invokevirtual 135, 3) := by decide +kernel
theorem dX4_kept_26 : decode cX4_kept 26 = .ok (.checkcast 134, 3) := by decide +kernel
theorem dX4_kept_29 : decode cX4_kept 29 = .ok (.aastore, 1) := by decide +kernel
theorem dX4_kept_30 : decode cX4_kept 30 = .ok (.areturn, 1) := by decide +kernel
theorem dX4_bringBack_0 : decode cX4_bringBack 0 = .ok (.aload_n 1, 1) := by decide +kernel
theorem dX4_bringBack_1 : decode cX4_bringBack 1 = .ok (.iconst 0, 1) := by decide +kernel
theorem dX4_bringBack_2 : decode cX4_bringBack 2 = .ok (.aaload, 1) := by decide +kernel
theorem dX4_bringBack_3 : decode cX4_bringBack 3 = .ok (.iconst 0, 1) := by decide +kernel
theorem dX4_bringBack_4 : decode cX4_bringBack 4 = .ok (.aload_n 0, 1) := by decide +kernel
theorem dX4_bringBack_5 : decode cX4_bringBack 5 = .ok (.getfield 20, 3) := by decide +kernel
theorem dX4_bringBack_8 : decode cX4_bringBack 8 = .ok (.iconst 0, 1) := by decide +kernel
theorem dX4_bringBack_9 : decode cX4_bringBack 9 = .ok (.aload_n 0, 1) := by decide +kernel
theorem dX4_bringBack_10 : decode cX4_bringBack 10 = .ok (.getfield 20, 3) := by decide +kernel
theorem dX4_bringBack_13 : decode cX4_bringBack 13 = .ok (.arraylength, 1) := by decide +kernel
theorem dX4_bringBack_14 : decode cX4_bringBack 14 = .ok (.invokestatic 44, 3) := by decide +kernel
theorem dX4_bringBack_17 : decode cX4_bringBack 17 = .ok (.aload_n 1, 1) := by decide +kernel
theorem dX4_bringBack_18 : decode cX4_bringBack 18 = .ok (.iconst 1, 1) := by decide +kernel
theorem dX4_bringBack_19 : decode cX4_bringBack 19 = .ok (.aaload, 1) := by decide +kernel
theorem dX4_bringBack_20 : decode cX4_bringBack 20 = .ok (.iconst 0, 1) := by decide +kernel
theorem dX4_bringBack_21 : decode cX4_bringBack 21 = .ok (.aload_n 0, 1) := by decide +kernel
theorem dX4_bringBack_22 : decode cX4_bringBack 22 = .ok (.getfield 23, 3) := by decide +kernel
theorem dX4_bringBack_25 : decode cX4_bringBack 25 = .ok (.iconst 0, 1) := by decide +kernel
theorem dX4_bringBack_26 : decode cX4_bringBack 26 = .ok (.aload_n 0, 1) := by decide +kernel
theorem dX4_bringBack_27 : decode cX4_bringBack 27 = .ok (.getfield 23, 3) := by decide +kernel
theorem dX4_bringBack_30 : decode cX4_bringBack 30 = .ok (.arraylength, 1) := by decide +kernel
theorem dX4_bringBack_31 : decode cX4_bringBack 31 = .ok (.invokestatic 44, 3) := by decide +kernel
theorem dX4_bringBack_34 : decode cX4_bringBack 34 = .ok (.return_, 1) := by decide +kernel
set_option maxRecDepth 20000 in
theorem ggX4_sailOut_X4_isRace : GoodIn wsX4_sailOut wsX4_isRace := goodIn_r _ [5, 6, 81, 82, 83, 84, 85, 86, 87, 88] (by decide +kernel) (by decide +kernel)
set_option maxRecDepth 20000 in
theorem gX4_sailOut_X4_isRace : GoodIn wsX4_sailOut (wsV RX4 40 RX4 yX4_isRace wsX4_isRace) := goodIn_app (goodIn_of _ (by decide +kernel)) ggX4_sailOut_X4_isRace
set_option maxRecDepth 20000 in
theorem ggX4_sailOut_X4_minuteOn : GoodIn wsX4_sailOut wsX4_minuteOn := goodIn_r _ [10, 11, 6, 12, 13, 14, 15, 1, 2, 3, 4, 5, 16, 17, 18, 19, 20, 21, 22, 23, 24, 25, 26, 27, 28, 29, 30, 31, 32, 33, 34, 35, 36, 37, 38, 39, 40, 41, 42, 43, 44, 45, 46, 47, 48, 49, 50, 51, 52, 53, 54, 55, 56, 57, 58, 59, 60, 61, 62, 63, 64, 65, 66, 67, 68, 69, 70, 71, 72, 73, 74, 75, 76, 77, 78, 79, 80, 81, 82, 83, 84, 85, 86, 87, 88] (by decide +kernel) (by decide +kernel)
set_option maxRecDepth 20000 in
theorem gX4_sailOut_X4_minuteOn : GoodIn wsX4_sailOut (wsV RX4 119 RX4 yX4_minuteOn wsX4_minuteOn) := goodIn_app (goodIn_of _ (by decide +kernel)) ggX4_sailOut_X4_minuteOn
theorem dX4_sailOut_0 : decode cX4_sailOut 0 = .ok (.aload_n 0, 1) := by decide +kernel
theorem dX4_sailOut_1 : decode cX4_sailOut 1 = .ok (.invokevirtual 40, 3) := by decide +kernel
theorem dX4_sailOut_4 : decode cX4_sailOut 4 = .ok (.ifCond .eq 10, 3) := by decide +kernel
theorem dX4_sailOut_7 : decode cX4_sailOut 7 = .ok (.aload_n 0, 1) := by decide +kernel
theorem dX4_sailOut_8 : decode cX4_sailOut 8 = .ok (.invokevirtual 119, 3) := by decide +kernel
theorem dX4_sailOut_11 : decode cX4_sailOut 11 = .ok (.goto (-11), 3) := by decide +kernel
theorem dX4_sailOut_14 : decode cX4_sailOut 14 = .ok (.return_, 1) := by decide +kernel
set_option maxRecDepth 20000 in
theorem ggX4_when_X4_isBoat : GoodIn wsX4_when wsX4_isBoat := goodIn_r _ [6, 7, 8, 9, 5, 10, 115, 116, 117, 118, 119, 120, 121, 122] (by decide +kernel) (by decide +kernel)
set_option maxRecDepth 20000 in
theorem gX4_when_X4_isBoat : GoodIn wsX4_when (wsV RX4 50 RX4 yX4_isBoat wsX4_isBoat) := goodIn_app (goodIn_of _ (by decide +kernel)) ggX4_when_X4_isBoat
set_option maxRecDepth 20000 in
theorem ggX4_when_X4_fail : GoodIn wsX4_when wsX4_fail := goodIn_r _ [14, 1, 115, 116, 117, 118, 119, 120, 121, 122] (by decide +kernel) (by decide +kernel)
set_option maxRecDepth 20000 in
theorem gX4_when_X4_fail : GoodIn wsX4_when (wsV RX4 36 RX4 yX4_fail wsX4_fail) := goodIn_app (goodIn_of _ (by decide +kernel)) ggX4_when_X4_fail
set_option maxRecDepth 20000 in
theorem ggX4_when_X4_isRace : GoodIn wsX4_when wsX4_isRace := goodIn_r _ [18, 19, 115, 116, 117, 118, 119, 120, 121, 122] (by decide +kernel) (by decide +kernel)
set_option maxRecDepth 20000 in
theorem gX4_when_X4_isRace : GoodIn wsX4_when (wsV RX4 40 RX4 yX4_isRace wsX4_isRace) := goodIn_app (goodIn_of _ (by decide +kernel)) ggX4_when_X4_isRace
set_option maxRecDepth 20000 in
theorem ggX4_when_X4_kept : GoodIn wsX4_when wsX4_kept := goodIn_r _ [23, 24, 25, 26, 27, 28, 29, 30, 19, 115, 116, 117, 118, 119, 120, 121, 122] (by decide +kernel) (by decide +kernel)
set_option maxRecDepth 20000 in
theorem gX4_when_X4_kept : GoodIn wsX4_when (wsV RX4 139 RX4 yX4_kept wsX4_kept) := goodIn_app (goodIn_of _ (by decide +kernel)) ggX4_when_X4_kept
set_option maxRecDepth 20000 in
theorem ggX4_when_X4_sailOut : GoodIn wsX4_when wsX4_sailOut := goodIn_r _ [34, 15, 16, 17, 5, 18, 19, 35, 36, 37, 38, 7, 39, 40, 41, 42, 43, 44, 45, 46, 47, 48, 49, 50, 51, 52, 53, 54, 55, 56, 57, 58, 59, 25, 60, 61, 62, 63, 64, 65, 66, 67, 68, 69, 70, 71, 72, 73, 74, 75, 76, 77, 78, 79, 80, 81, 82, 83, 84, 85, 86, 87, 88, 89, 90, 91, 92, 93, 94, 95, 96, 97, 98, 99, 100, 101, 102, 103, 104, 105, 106, 115, 116, 117, 118, 119, 120, 121, 122] (by decide +kernel) (by decide +kernel)
set_option maxRecDepth 20000 in
theorem gX4_when_X4_sailOut : GoodIn wsX4_when (wsV RX4 143 RX4 yX4_sailOut wsX4_sailOut) := goodIn_app (goodIn_of _ (by decide +kernel)) ggX4_when_X4_sailOut
set_option maxRecDepth 20000 in
theorem ggX4_when_X4_bo : GoodIn wsX4_when wsX4_bo := goodIn_r _ [59, 25, 115, 116, 117, 118, 119, 120, 121, 122] (by decide +kernel) (by decide +kernel)
set_option maxRecDepth 20000 in
theorem gX4_when_X4_bo : GoodIn wsX4_when (wsV RX4 54 RX4 yX4_bo wsX4_bo) := goodIn_app (goodIn_of _ (by decide +kernel)) ggX4_when_X4_bo
set_option maxRecDepth 20000 in
theorem ggX4_when_X4_bringBack : GoodIn wsX4_when wsX4_bringBack := goodIn_r _ [110, 25, 111, 112, 113, 114, 19, 115, 116, 117, 118, 119, 120, 121, 122] (by decide +kernel) (by decide +kernel)
set_option maxRecDepth 20000 in
theorem gX4_when_X4_bringBack : GoodIn wsX4_when (wsV RX4 146 RX4 yX4_bringBack wsX4_bringBack) := goodIn_app (goodIn_of _ (by decide +kernel)) ggX4_when_X4_bringBack
theorem dX4_when_0 : decode cX4_when 0 = .ok (.aload_n 0, 1) := by decide +kernel
theorem dX4_when_1 : decode cX4_when 1 = .ok (.iconst 0, 1) := by decide +kernel
theorem dX4_when_2 : decode cX4_when 2 = .ok (.putfield 26, 3) := by decide +kernel
theorem dX4_when_5 : decode cX4_when 5 = .ok (.aload_n 0, 1) := by decide +kernel
theorem dX4_when_6 : decode cX4_when 6 = .ok (.iload_n 1, 1) := by decide +kernel
theorem dX4_when_7 : decode cX4_when 7 = .ok (.invokevirtual 50, 3) := by decide +kernel
theorem dX4_when_10 : decode cX4_when 10 = .ok (.ifCond .ne 9, 3) := by decide +kernel
theorem dX4_when_13 : decode cX4_when 13 = .ok (.aload_n 0, 1) := by decide +kernel
theorem dX4_when_14 : decode cX4_when 14 = .ok (.iconst 1, 1) := by decide +kernel
theorem dX4_when_15 : decode cX4_when 15 = .ok (.invokevirtual 36, 3) := by decide +kernel
theorem dX4_when_18 : decode cX4_when 18 = .ok (.ireturn, 1) := by decide +kernel
theorem dX4_when_19 : decode cX4_when 19 = .ok (.aload_n 0, 1) := by decide +kernel
theorem dX4_when_20 : decode cX4_when 20 = .ok (.invokevirtual 40, 3) := by decide +kernel
theorem dX4_when_23 : decode cX4_when 23 = .ok (.ifCond .ne 5, 3) := by decide +kernel
theorem dX4_when_26 : decode cX4_when 26 = .ok (.iconst (-1), 1) := by decide +kernel
theorem dX4_when_27 : decode cX4_when 27 = .ok (.ireturn, 1) := by decide +kernel
theorem dX4_when_28 : decode cX4_when 28 = .ok (.aload_n 0, 1) := by decide +kernel
theorem dX4_when_29 : decode cX4_when 29 = .ok (.invokevirtual 139, 3) := by decide +kernel
theorem dX4_when_32 : decode cX4_when 32 = .ok (.astore_n 2, 1) := by decide +kernel
theorem dX4_when_33 : decode cX4_when 33 = .ok (.aload_n 0, 1) := by decide +kernel
theorem dX4_when_34 : decode cX4_when 34 = .ok (.invokevirtual 143, 3) := by decide +kernel
theorem dX4_when_37 : decode cX4_when 37 = .ok (.aload_n 0, 1) := by decide +kernel
theorem dX4_when_38 : decode cX4_when 38 = .ok (.iload_n 1, 1) := by decide +kernel
theorem dX4_when_39 : decode cX4_when 39 = .ok (.bipush 6, 2) := by decide +kernel
theorem dX4_when_41 : decode cX4_when 41 = .ok (.invokevirtual 54, 3) := by decide +kernel
theorem dX4_when_44 : decode cX4_when 44 = .ok (.istore_n 3, 1) := by decide +kernel
theorem dX4_when_45 : decode cX4_when 45 = .ok (.aload_n 0, 1) := by decide +kernel
theorem dX4_when_46 : decode cX4_when 46 = .ok (.aload_n 2, 1) := by decide +kernel
theorem dX4_when_47 : decode cX4_when 47 = .ok (.invokevirtual 146, 3) := by decide +kernel
theorem dX4_when_50 : decode cX4_when 50 = .ok (.iload_n 3, 1) := by decide +kernel
theorem dX4_when_51 : decode cX4_when 51 = .ok (.ireturn, 1) := by decide +kernel
set_option maxRecDepth 20000 in
theorem ggX4_winner_X4_isRace : GoodIn wsX4_winner wsX4_isRace := goodIn_r _ [7, 8, 112, 113, 114, 115, 116, 117, 118, 119] (by decide +kernel) (by decide +kernel)
set_option maxRecDepth 20000 in
theorem gX4_winner_X4_isRace : GoodIn wsX4_winner (wsV RX4 40 RX4 yX4_isRace wsX4_isRace) := goodIn_app (goodIn_of _ (by decide +kernel)) ggX4_winner_X4_isRace
set_option maxRecDepth 20000 in
theorem ggX4_winner_X4_ready : GoodIn wsX4_winner wsX4_ready := goodIn_r _ [12, 2, 13, 14, 15, 6, 16, 17, 112, 113, 114, 115, 116, 117, 118, 119] (by decide +kernel) (by decide +kernel)
set_option maxRecDepth 20000 in
theorem gX4_winner_X4_ready : GoodIn wsX4_winner (wsV RX4 80 RX4 yX4_ready wsX4_ready) := goodIn_app (goodIn_of _ (by decide +kernel)) ggX4_winner_X4_ready
set_option maxRecDepth 20000 in
theorem ggX4_winner_X4_kept : GoodIn wsX4_winner wsX4_kept := goodIn_r _ [21, 22, 17, 23, 24, 25, 26, 27, 8, 112, 113, 114, 115, 116, 117, 118, 119] (by decide +kernel) (by decide +kernel)
set_option maxRecDepth 20000 in
theorem gX4_winner_X4_kept : GoodIn wsX4_winner (wsV RX4 139 RX4 yX4_kept wsX4_kept) := goodIn_app (goodIn_of _ (by decide +kernel)) ggX4_winner_X4_kept
set_option maxRecDepth 20000 in
theorem ggX4_winner_X4_begin : GoodIn wsX4_winner wsX4_begin := goodIn_r _ [31, 2, 8, 32, 33, 34, 6, 35, 17, 13, 14, 15, 16, 36, 37, 38, 39, 112, 113, 114, 115, 116, 117, 118, 119] (by decide +kernel) (by decide +kernel)
set_option maxRecDepth 20000 in
theorem gX4_winner_X4_begin : GoodIn wsX4_winner (wsV RX4 83 RX4 yX4_begin wsX4_begin) := goodIn_app (goodIn_of _ (by decide +kernel)) ggX4_winner_X4_begin
set_option maxRecDepth 20000 in
theorem ggX4_winner_X4_sailOut : GoodIn wsX4_winner wsX4_sailOut := goodIn_r _ [43, 3, 4, 5, 6, 7, 8, 44, 45, 46, 47, 2, 48, 49, 50, 51, 52, 53, 54, 55, 56, 57, 58, 59, 60, 61, 62, 63, 64, 13, 14, 15, 16, 17, 32, 33, 34, 35, 65, 66, 67, 68, 69, 70, 71, 72, 73, 74, 75, 76, 77, 78, 79, 80, 81, 82, 83, 84, 85, 86, 87, 88, 89, 90, 36, 37, 38, 39, 91, 92, 93, 94, 95, 96, 97, 98, 99, 100, 101, 102, 103, 112, 113, 114, 115, 116, 117, 118, 119] (by decide +kernel) (by decide +kernel)
set_option maxRecDepth 20000 in
theorem gX4_winner_X4_sailOut : GoodIn wsX4_winner (wsV RX4 143 RX4 yX4_sailOut wsX4_sailOut) := goodIn_app (goodIn_of _ (by decide +kernel)) ggX4_winner_X4_sailOut
set_option maxRecDepth 20000 in
theorem ggX4_winner_X4_bo : GoodIn wsX4_winner wsX4_bo := goodIn_r _ [16, 17, 112, 113, 114, 115, 116, 117, 118, 119] (by decide +kernel) (by decide +kernel)
set_option maxRecDepth 20000 in
theorem gX4_winner_X4_bo : GoodIn wsX4_winner (wsV RX4 54 RX4 yX4_bo wsX4_bo) := goodIn_app (goodIn_of _ (by decide +kernel)) ggX4_winner_X4_bo
set_option maxRecDepth 20000 in
theorem ggX4_winner_X4_placeOf : GoodIn wsX4_winner wsX4_placeOf := goodIn_r _ [99, 2, 13, 14, 15, 6, 16, 17, 100, 101, 102, 103, 112, 113, 114, 115, 116, 117, 118, 119] (by decide +kernel) (by decide +kernel)
set_option maxRecDepth 20000 in
theorem gX4_winner_X4_placeOf : GoodIn wsX4_winner (wsV RX4 107 RX4 yX4_placeOf wsX4_placeOf) := goodIn_app (goodIn_of _ (by decide +kernel)) ggX4_winner_X4_placeOf
set_option maxRecDepth 20000 in
theorem ggX4_winner_X4_bringBack : GoodIn wsX4_winner wsX4_bringBack := goodIn_r _ [107, 17, 108, 109, 110, 111, 8, 112, 113, 114, 115, 116, 117, 118, 119] (by decide +kernel) (by decide +kernel)
set_option maxRecDepth 20000 in
theorem gX4_winner_X4_bringBack : GoodIn wsX4_winner (wsV RX4 146 RX4 yX4_bringBack wsX4_bringBack) := goodIn_app (goodIn_of _ (by decide +kernel)) ggX4_winner_X4_bringBack
theorem dX4_winner_0 : decode cX4_winner 0 = .ok (.aload_n 0, 1) := by decide +kernel
theorem dX4_winner_1 : decode cX4_winner 1 = .ok (.iconst 0, 1) := by decide +kernel
theorem dX4_winner_2 : decode cX4_winner 2 = .ok (.putfield 26, 3) := by decide +kernel
theorem dX4_winner_5 : decode cX4_winner 5 = .ok (.aload_n 0, 1) := by decide +kernel
theorem dX4_winner_6 : decode cX4_winner 6 = .ok (.invokevirtual 40, 3) := by decide +kernel
theorem dX4_winner_9 : decode cX4_winner 9 = .ok (.ifCond .ne 12, 3) := by decide +kernel
theorem dX4_winner_12 : decode cX4_winner 12 = .ok (.aload_n 0, 1) := by decide +kernel
theorem dX4_winner_13 : decode cX4_winner 13 = .ok (.invokevirtual 80, 3) := by decide +kernel
theorem dX4_winner_16 : decode cX4_winner 16 = .ok (.ifCond .ne 5, 3) := by decide +kernel
theorem dX4_winner_19 : decode cX4_winner 19 = .ok (.iconst (-1), 1) := by decide +kernel
theorem dX4_winner_20 : decode cX4_winner 20 = .ok (.ireturn, 1) := by decide +kernel
theorem dX4_winner_21 : decode cX4_winner 21 = .ok (.aload_n 0, 1) := by decide +kernel
theorem dX4_winner_22 : decode cX4_winner 22 = .ok (.invokevirtual 139, 3) := by decide +kernel
theorem dX4_winner_25 : decode cX4_winner 25 = .ok (.astore_n 1, 1) := by decide +kernel
theorem dX4_winner_26 : decode cX4_winner 26 = .ok (.aload_n 0, 1) := by decide +kernel
theorem dX4_winner_27 : decode cX4_winner 27 = .ok (.invokevirtual 40, 3) := by decide +kernel
theorem dX4_winner_30 : decode cX4_winner 30 = .ok (.ifCond .ne 8, 3) := by decide +kernel
theorem dX4_winner_33 : decode cX4_winner 33 = .ok (.aload_n 0, 1) := by decide +kernel
theorem dX4_winner_34 : decode cX4_winner 34 = .ok (.invokevirtual 83, 3) := by decide +kernel
theorem dX4_winner_37 : decode cX4_winner 37 = .ok (.pop, 1) := by decide +kernel
theorem dX4_winner_38 : decode cX4_winner 38 = .ok (.aload_n 0, 1) := by decide +kernel
theorem dX4_winner_39 : decode cX4_winner 39 = .ok (.invokevirtual 143, 3) := by decide +kernel
theorem dX4_winner_42 : decode cX4_winner 42 = .ok (.iconst (-1), 1) := by decide +kernel
theorem dX4_winner_43 : decode cX4_winner 43 = .ok (.istore_n 2, 1) := by decide +kernel
theorem dX4_winner_44 : decode cX4_winner 44 = .ok (.iconst 0, 1) := by decide +kernel
theorem dX4_winner_45 : decode cX4_winner 45 = .ok (.istore_n 3, 1) := by decide +kernel
theorem dX4_winner_46 : decode cX4_winner 46 = .ok (.iload_n 3, 1) := by decide +kernel
theorem dX4_winner_47 : decode cX4_winner 47 = .ok (.aload_n 0, 1) := by decide +kernel
theorem dX4_winner_48 : decode cX4_winner 48 = .ok (.getfield 29, 3) := by decide +kernel
theorem dX4_winner_51 : decode cX4_winner 51 = .ok (.if_icmp .ge 30, 3) := by decide +kernel
theorem dX4_winner_54 : decode cX4_winner 54 = .ok (.aload_n 0, 1) := by decide +kernel
theorem dX4_winner_55 : decode cX4_winner 55 = .ok (.iload_n 3, 1) := by decide +kernel
theorem dX4_winner_56 : decode cX4_winner 56 = .ok (.bipush 9, 2) := by decide +kernel
theorem dX4_winner_58 : decode cX4_winner 58 = .ok (.invokevirtual 54, 3) := by decide +kernel
theorem dX4_winner_61 : decode cX4_winner 61 = .ok (.iconst 2, 1) := by decide +kernel
theorem dX4_winner_62 : decode cX4_winner 62 = .ok (.if_icmp .ne 13, 3) := by decide +kernel
theorem dX4_winner_65 : decode cX4_winner 65 = .ok (.aload_n 0, 1) := by decide +kernel
theorem dX4_winner_66 : decode cX4_winner 66 = .ok (.iload_n 3, 1) := by decide +kernel
theorem dX4_winner_67 : decode cX4_winner 67 = .ok (.invokevirtual 107, 3) := by decide +kernel
theorem dX4_winner_70 : decode cX4_winner 70 = .ok (.ifCond .ne 5, 3) := by decide +kernel
theorem dX4_winner_73 : decode cX4_winner 73 = .ok (.iload_n 3, 1) := by decide +kernel
theorem dX4_winner_74 : decode cX4_winner 74 = .ok (.istore_n 2, 1) := by decide +kernel
theorem dX4_winner_75 : decode cX4_winner 75 = .ok (.iinc 3 1, 3) := by decide +kernel
theorem dX4_winner_78 : decode cX4_winner 78 = .ok (.goto (-32), 3) := by decide +kernel
theorem dX4_winner_81 : decode cX4_winner 81 = .ok (.aload_n 0, 1) := by decide +kernel
theorem dX4_winner_82 : decode cX4_winner 82 = .ok (.aload_n 1, 1) := by decide +kernel
theorem dX4_winner_83 : decode cX4_winner 83 = .ok (.invokevirtual 146, 3) := by decide +kernel
theorem dX4_winner_86 : decode cX4_winner 86 = .ok (.iload_n 2, 1) := by decide +kernel
theorem dX4_winner_87 : decode cX4_winner 87 = .ok (.ireturn, 1) := by decide +kernel
set_option maxRecDepth 20000 in
theorem ggX4_advise_X4_isBoat : GoodIn wsX4_advise wsX4_isBoat := goodIn_r _ [7, 2, 8, 9, 6, 10, 119, 120, 121, 122, 123, 124, 125, 126] (by decide +kernel) (by decide +kernel)
set_option maxRecDepth 20000 in
theorem gX4_advise_X4_isBoat : GoodIn wsX4_advise (wsV RX4 50 RX4 yX4_isBoat wsX4_isBoat) := goodIn_app (goodIn_of _ (by decide +kernel)) ggX4_advise_X4_isBoat
set_option maxRecDepth 20000 in
theorem ggX4_advise_X4_fail : GoodIn wsX4_advise wsX4_fail := goodIn_r _ [14, 1, 119, 120, 121, 122, 123, 124, 125, 126] (by decide +kernel) (by decide +kernel)
set_option maxRecDepth 20000 in
theorem gX4_advise_X4_fail : GoodIn wsX4_advise (wsV RX4 36 RX4 yX4_fail wsX4_fail) := goodIn_app (goodIn_of _ (by decide +kernel)) ggX4_advise_X4_fail
set_option maxRecDepth 20000 in
theorem ggX4_advise_X4_kept : GoodIn wsX4_advise wsX4_kept := goodIn_r _ [18, 19, 20, 21, 22, 23, 24, 25, 26, 119, 120, 121, 122, 123, 124, 125, 126] (by decide +kernel) (by decide +kernel)
set_option maxRecDepth 20000 in
theorem gX4_advise_X4_kept : GoodIn wsX4_advise (wsV RX4 139 RX4 yX4_kept wsX4_kept) := goodIn_app (goodIn_of _ (by decide +kernel)) ggX4_advise_X4_kept
set_option maxRecDepth 20000 in
theorem ggX4_advise_X4_put : GoodIn wsX4_advise wsX4_put := goodIn_r _ [30, 20, 119, 120, 121, 122, 123, 124, 125, 126] (by decide +kernel) (by decide +kernel)
set_option maxRecDepth 20000 in
theorem gX4_advise_X4_put : GoodIn wsX4_advise (wsV RX4 58 RX4 yX4_put wsX4_put) := goodIn_app (goodIn_of _ (by decide +kernel)) ggX4_advise_X4_put
set_option maxRecDepth 20000 in
theorem ggX4_advise_X4_begin : GoodIn wsX4_advise wsX4_begin := goodIn_r _ [34, 2, 26, 27, 28, 29, 6, 30, 20, 35, 36, 37, 38, 39, 40, 41, 42, 119, 120, 121, 122, 123, 124, 125, 126] (by decide +kernel) (by decide +kernel)
set_option maxRecDepth 20000 in
theorem gX4_advise_X4_begin : GoodIn wsX4_advise (wsV RX4 83 RX4 yX4_begin wsX4_begin) := goodIn_app (goodIn_of _ (by decide +kernel)) ggX4_advise_X4_begin
set_option maxRecDepth 20000 in
theorem ggX4_advise_X4_sailOut : GoodIn wsX4_advise wsX4_sailOut := goodIn_r _ [46, 47, 48, 49, 6, 50, 26, 51, 52, 53, 54, 2, 55, 56, 57, 58, 59, 60, 61, 62, 63, 64, 65, 66, 67, 68, 69, 70, 71, 35, 36, 37, 38, 20, 27, 28, 29, 30, 72, 73, 74, 75, 76, 77, 78, 79, 80, 81, 82, 83, 84, 85, 86, 87, 88, 89, 90, 91, 92, 93, 94, 95, 96, 97, 39, 40, 41, 42, 98, 99, 100, 101, 102, 103, 104, 105, 106, 107, 108, 109, 110, 119, 120, 121, 122, 123, 124, 125, 126] (by decide +kernel) (by decide +kernel)
set_option maxRecDepth 20000 in
theorem gX4_advise_X4_sailOut : GoodIn wsX4_advise (wsV RX4 143 RX4 yX4_sailOut wsX4_sailOut) := goodIn_app (goodIn_of _ (by decide +kernel)) ggX4_advise_X4_sailOut
set_option maxRecDepth 20000 in
theorem ggX4_advise_X4_bo : GoodIn wsX4_advise wsX4_bo := goodIn_r _ [38, 20, 119, 120, 121, 122, 123, 124, 125, 126] (by decide +kernel) (by decide +kernel)
set_option maxRecDepth 20000 in
theorem gX4_advise_X4_bo : GoodIn wsX4_advise (wsV RX4 54 RX4 yX4_bo wsX4_bo) := goodIn_app (goodIn_of _ (by decide +kernel)) ggX4_advise_X4_bo
set_option maxRecDepth 20000 in
theorem ggX4_advise_X4_bringBack : GoodIn wsX4_advise wsX4_bringBack := goodIn_r _ [114, 20, 115, 116, 117, 118, 26, 119, 120, 121, 122, 123, 124, 125, 126] (by decide +kernel) (by decide +kernel)
set_option maxRecDepth 20000 in
theorem gX4_advise_X4_bringBack : GoodIn wsX4_advise (wsV RX4 146 RX4 yX4_bringBack wsX4_bringBack) := goodIn_app (goodIn_of _ (by decide +kernel)) ggX4_advise_X4_bringBack
theorem dX4_advise_0 : decode cX4_advise 0 = .ok (.aload_n 0, 1) := by decide +kernel
theorem dX4_advise_1 : decode cX4_advise 1 = .ok (.iconst 0, 1) := by decide +kernel
theorem dX4_advise_2 : decode cX4_advise 2 = .ok (.putfield 26, 3) := by decide +kernel
theorem dX4_advise_5 : decode cX4_advise 5 = .ok (.aload_n 0, 1) := by decide +kernel
theorem dX4_advise_6 : decode cX4_advise 6 = .ok (.iload_n 1, 1) := by decide +kernel
theorem dX4_advise_7 : decode cX4_advise 7 = .ok (.invokevirtual 50, 3) := by decide +kernel
theorem dX4_advise_10 : decode cX4_advise 10 = .ok (.ifCond .ne 9, 3) := by decide +kernel
theorem dX4_advise_13 : decode cX4_advise 13 = .ok (.aload_n 0, 1) := by decide +kernel
theorem dX4_advise_14 : decode cX4_advise 14 = .ok (.iconst 1, 1) := by decide +kernel
theorem dX4_advise_15 : decode cX4_advise 15 = .ok (.invokevirtual 36, 3) := by decide +kernel
theorem dX4_advise_18 : decode cX4_advise 18 = .ok (.ireturn, 1) := by decide +kernel
theorem dX4_advise_19 : decode cX4_advise 19 = .ok (.aload_n 0, 1) := by decide +kernel
theorem dX4_advise_20 : decode cX4_advise 20 = .ok (.invokevirtual 139, 3) := by decide +kernel
theorem dX4_advise_23 : decode cX4_advise 23 = .ok (.astore_n 2, 1) := by decide +kernel
theorem dX4_advise_24 : decode cX4_advise 24 = .ok (.iconst (-1), 1) := by decide +kernel
theorem dX4_advise_25 : decode cX4_advise 25 = .ok (.istore_n 3, 1) := by decide +kernel
theorem dX4_advise_26 : decode cX4_advise 26 = .ok (.iconst 0, 1) := by decide +kernel
theorem dX4_advise_27 : decode cX4_advise 27 = .ok (.istore 4, 2) := by decide +kernel
theorem dX4_advise_29 : decode cX4_advise 29 = .ok (.iconst 0, 1) := by decide +kernel
theorem dX4_advise_30 : decode cX4_advise 30 = .ok (.istore 5, 2) := by decide +kernel
theorem dX4_advise_32 : decode cX4_advise 32 = .ok (.iload 5, 2) := by decide +kernel
theorem dX4_advise_34 : decode cX4_advise 34 = .ok (.bipush 9, 2) := by decide +kernel
theorem dX4_advise_36 : decode cX4_advise 36 = .ok (.if_icmp .gt 105, 3) := by decide +kernel
theorem dX4_advise_39 : decode cX4_advise 39 = .ok (.iconst 0, 1) := by decide +kernel
theorem dX4_advise_40 : decode cX4_advise 40 = .ok (.istore 6, 2) := by decide +kernel
theorem dX4_advise_42 : decode cX4_advise 42 = .ok (.iload 6, 2) := by decide +kernel
theorem dX4_advise_44 : decode cX4_advise 44 = .ok (.aload_n 0, 1) := by decide +kernel
theorem dX4_advise_45 : decode cX4_advise 45 = .ok (.getfield 29, 3) := by decide +kernel
theorem dX4_advise_48 : decode cX4_advise 48 = .ok (.if_icmp .ge 28, 3) := by decide +kernel
theorem dX4_advise_51 : decode cX4_advise 51 = .ok (.aload_n 0, 1) := by decide +kernel
theorem dX4_advise_52 : decode cX4_advise 52 = .ok (.iload 6, 2) := by decide +kernel
theorem dX4_advise_54 : decode cX4_advise 54 = .ok (.iconst 4, 1) := by decide +kernel
theorem dX4_advise_55 : decode cX4_advise 55 = .ok (.iload 6, 2) := by decide +kernel
theorem dX4_advise_57 : decode cX4_advise 57 = .ok (.iload_n 1, 1) := by decide +kernel
theorem dX4_advise_58 : decode cX4_advise 58 = .ok (.if_icmp .ne 7, 3) := by decide +kernel
theorem dX4_advise_61 : decode cX4_advise 61 = .ok (.iconst 0, 1) := by decide +kernel
theorem dX4_advise_62 : decode cX4_advise 62 = .ok (.goto 5, 3) := by decide +kernel
theorem dX4_advise_65 : decode cX4_advise 65 = .ok (.bipush 9, 2) := by decide +kernel
theorem dX4_advise_67 : decode cX4_advise 67 = .ok (.invokevirtual 58, 3) := by decide +kernel
theorem dX4_advise_70 : decode cX4_advise 70 = .ok (.iinc 6 1, 3) := by decide +kernel
theorem dX4_advise_73 : decode cX4_advise 73 = .ok (.goto (-31), 3) := by decide +kernel
theorem dX4_advise_76 : decode cX4_advise 76 = .ok (.aload_n 0, 1) := by decide +kernel
theorem dX4_advise_77 : decode cX4_advise 77 = .ok (.iload_n 1, 1) := by decide +kernel
theorem dX4_advise_78 : decode cX4_advise 78 = .ok (.iconst 2, 1) := by decide +kernel
theorem dX4_advise_79 : decode cX4_advise 79 = .ok (.iload 5, 2) := by decide +kernel
theorem dX4_advise_81 : decode cX4_advise 81 = .ok (.invokevirtual 58, 3) := by decide +kernel
theorem dX4_advise_84 : decode cX4_advise 84 = .ok (.aload_n 0, 1) := by decide +kernel
theorem dX4_advise_85 : decode cX4_advise 85 = .ok (.invokevirtual 83, 3) := by decide +kernel
theorem dX4_advise_88 : decode cX4_advise 88 = .ok (.pop, 1) := by decide +kernel
theorem dX4_advise_89 : decode cX4_advise 89 = .ok (.aload_n 0, 1) := by decide +kernel
theorem dX4_advise_90 : decode cX4_advise 90 = .ok (.invokevirtual 143, 3) := by decide +kernel
theorem dX4_advise_93 : decode cX4_advise 93 = .ok (.aload_n 0, 1) := by decide +kernel
theorem dX4_advise_94 : decode cX4_advise 94 = .ok (.iload_n 1, 1) := by decide +kernel
theorem dX4_advise_95 : decode cX4_advise 95 = .ok (.bipush 6, 2) := by decide +kernel
theorem dX4_advise_97 : decode cX4_advise 97 = .ok (.invokevirtual 54, 3) := by decide +kernel
theorem dX4_advise_100 : decode cX4_advise 100 = .ok (.istore 6, 2) := by decide +kernel
theorem dX4_advise_102 : decode cX4_advise 102 = .ok (.aload_n 0, 1) := by decide +kernel
theorem dX4_advise_103 : decode cX4_advise 103 = .ok (.aload_n 2, 1) := by decide +kernel
theorem dX4_advise_104 : decode cX4_advise 104 = .ok (.invokevirtual 146, 3) := by decide +kernel
theorem dX4_advise_107 : decode cX4_advise 107 = .ok (.iload 6, 2) := by decide +kernel
theorem dX4_advise_109 : decode cX4_advise 109 = .ok (.iconst (-1), 1) := by decide +kernel
theorem dX4_advise_110 : decode cX4_advise 110 = .ok (.if_icmp .eq 25, 3) := by decide +kernel
theorem dX4_advise_113 : decode cX4_advise 113 = .ok (.iload_n 3, 1) := by decide +kernel
theorem dX4_advise_114 : decode cX4_advise 114 = .ok (.iconst (-1), 1) := by decide +kernel
theorem dX4_advise_115 : decode cX4_advise 115 = .ok (.if_icmp .eq 13, 3) := by decide +kernel
theorem dX4_advise_118 : decode cX4_advise 118 = .ok (.iload 6, 2) := by decide +kernel
theorem dX4_advise_120 : decode cX4_advise 120 = .ok (.iload 4, 2) := by decide +kernel
theorem dX4_advise_122 : decode cX4_advise 122 = .ok (.if_icmp .lt 6, 3) := by decide +kernel
theorem dX4_advise_125 : decode cX4_advise 125 = .ok (.goto 10, 3) := by decide +kernel
theorem dX4_advise_128 : decode cX4_advise 128 = .ok (.iload 5, 2) := by decide +kernel
theorem dX4_advise_130 : decode cX4_advise 130 = .ok (.istore_n 3, 1) := by decide +kernel
theorem dX4_advise_131 : decode cX4_advise 131 = .ok (.iload 6, 2) := by decide +kernel
theorem dX4_advise_133 : decode cX4_advise 133 = .ok (.istore 4, 2) := by decide +kernel
theorem dX4_advise_135 : decode cX4_advise 135 = .ok (.iinc 5 1, 3) := by decide +kernel
theorem dX4_advise_138 : decode cX4_advise 138 = .ok (.goto (-106), 3) := by decide +kernel
theorem dX4_advise_141 : decode cX4_advise 141 = .ok (.iload_n 3, 1) := by decide +kernel
theorem dX4_advise_142 : decode cX4_advise 142 = .ok (.ireturn, 1) := by decide +kernel
set_option maxRecDepth 20000 in
theorem ggX4_mean_X4_all : GoodIn wsX4_mean wsX4_all := goodIn_r _ [7, 2, 8, 9, 10, 6, 11, 12, 13, 14, 15, 16, 17, 18, 19, 20] (by decide +kernel) (by decide +kernel)
set_option maxRecDepth 20000 in
theorem gX4_mean_X4_all : GoodIn wsX4_mean (wsV RX4 128 RX4 yX4_all wsX4_all) := goodIn_app (goodIn_of _ (by decide +kernel)) ggX4_mean_X4_all
theorem dX4_mean_0 : decode cX4_mean 0 = .ok (.aload_n 0, 1) := by decide +kernel
theorem dX4_mean_1 : decode cX4_mean 1 = .ok (.iconst 0, 1) := by decide +kernel
theorem dX4_mean_2 : decode cX4_mean 2 = .ok (.putfield 26, 3) := by decide +kernel
theorem dX4_mean_5 : decode cX4_mean 5 = .ok (.aload_n 0, 1) := by decide +kernel
theorem dX4_mean_6 : decode cX4_mean 6 = .ok (.getfield 29, 3) := by decide +kernel
theorem dX4_mean_9 : decode cX4_mean 9 = .ok (.ifCond .ne 7, 3) := by decide +kernel
theorem dX4_mean_12 : decode cX4_mean 12 = .ok (.dconst 0, 1) := by decide +kernel
theorem dX4_mean_13 : decode cX4_mean 13 = .ok (.goto 15, 3) := by decide +kernel
theorem dX4_mean_16 : decode cX4_mean 16 = .ok (.aload_n 0, 1) := by decide +kernel
theorem dX4_mean_17 : decode cX4_mean 17 = .ok (.iconst 2, 1) := by decide +kernel
theorem dX4_mean_18 : decode cX4_mean 18 = .ok (.invokevirtual 128, 3) := by decide +kernel
theorem dX4_mean_21 : decode cX4_mean 21 = .ok (.i2d, 1) := by decide +kernel
theorem dX4_mean_22 : decode cX4_mean 22 = .ok (.aload_n 0, 1) := by decide +kernel
theorem dX4_mean_23 : decode cX4_mean 23 = .ok (.getfield 29, 3) := by decide +kernel
theorem dX4_mean_26 : decode cX4_mean 26 = .ok (.i2d, 1) := by decide +kernel
theorem dX4_mean_27 : decode cX4_mean 27 = .ok (.ddiv, 1) := by decide +kernel
theorem dX4_mean_28 : decode cX4_mean 28 = .ok (.dreturn, 1) := by decide +kernel
set_option maxRecDepth 20000 in
theorem ggX4_digest_X4_counted : GoodIn wsX4_digest wsX4_counted := goodIn_r _ [12, 13, 7, 5, 14, 15, 16, 11, 17, 4, 18, 19, 20, 21, 22, 23, 24, 25, 26, 27, 28, 29, 30, 31, 32, 33, 34, 62, 63, 64, 65, 66, 67, 68, 69] (by decide +kernel) (by decide +kernel)
set_option maxRecDepth 20000 in
theorem gX4_digest_X4_counted : GoodIn wsX4_digest (wsV RX4 131 RX4 yX4_counted wsX4_counted) := goodIn_app (goodIn_of _ (by decide +kernel)) ggX4_digest_X4_counted
set_option maxRecDepth 20000 in
theorem ggX4_digest_X4_toldOf : GoodIn wsX4_digest wsX4_toldOf := goodIn_r _ [38, 26, 27, 28, 11, 29, 30, 14, 15, 16, 17, 4, 13, 39, 40, 41, 42, 43, 44, 45, 46, 47, 48, 49, 50, 51, 52, 53, 54, 55, 56, 57, 62, 63, 64, 65, 66, 67, 68, 69] (by decide +kernel) (by decide +kernel)
set_option maxRecDepth 20000 in
theorem gX4_digest_X4_toldOf : GoodIn wsX4_digest (wsV RX4 122 RX4 yX4_toldOf wsX4_toldOf) := goodIn_app (goodIn_of _ (by decide +kernel)) ggX4_digest_X4_toldOf
set_option maxRecDepth 20000 in
theorem ggX4_digest_X4_raceTold : GoodIn wsX4_digest wsX4_raceTold := goodIn_r _ [61, 13, 26, 27, 28, 11, 29, 30, 62, 63, 64, 65, 66, 67, 68, 69] (by decide +kernel) (by decide +kernel)
set_option maxRecDepth 20000 in
theorem gX4_digest_X4_raceTold : GoodIn wsX4_digest (wsV RX4 125 RX4 yX4_raceTold wsX4_raceTold) := goodIn_app (goodIn_of _ (by decide +kernel)) ggX4_digest_X4_raceTold
theorem dX4_digest_0 : decode cX4_digest 0 = .ok (.aload_n 0, 1) := by decide +kernel
theorem dX4_digest_1 : decode cX4_digest 1 = .ok (.iconst 0, 1) := by decide +kernel
theorem dX4_digest_2 : decode cX4_digest 2 = .ok (.putfield 26, 3) := by decide +kernel
theorem dX4_digest_5 : decode cX4_digest 5 = .ok (.ldc2_w 150, 3) := by decide +kernel
theorem dX4_digest_8 : decode cX4_digest 8 = .ok (.lstore_n 1, 1) := by decide +kernel
theorem dX4_digest_9 : decode cX4_digest 9 = .ok (.iconst 0, 1) := by decide +kernel
theorem dX4_digest_10 : decode cX4_digest 10 = .ok (.istore_n 3, 1) := by decide +kernel
theorem dX4_digest_11 : decode cX4_digest 11 = .ok (.iload_n 3, 1) := by decide +kernel
theorem dX4_digest_12 : decode cX4_digest 12 = .ok (.bipush 9, 2) := by decide +kernel
theorem dX4_digest_14 : decode cX4_digest 14 = .ok (.if_icmp .ge 22, 3) := by decide +kernel
theorem dX4_digest_17 : decode cX4_digest 17 = .ok (.lload_n 1, 1) := by decide +kernel
theorem dX4_digest_18 : decode cX4_digest 18 = .ok (.ldc2_w 152, 3) := by decide +kernel
theorem dX4_digest_21 : decode cX4_digest 21 = .ok (.lmul, 1) := by decide +kernel
theorem dX4_digest_22 : decode cX4_digest 22 = .ok (.aload_n 0, 1) := by decide +kernel
theorem dX4_digest_23 : decode cX4_digest 23 = .ok (.iload_n 3, 1) := by decide +kernel
theorem dX4_digest_24 : decode cX4_digest 24 = .ok (.invokevirtual 131, 3) := by decide +kernel
theorem dX4_digest_27 : decode cX4_digest 27 = .ok (.i2l, 1) := by decide +kernel
theorem dX4_digest_28 : decode cX4_digest 28 = .ok (.ladd, 1) := by decide +kernel
theorem dX4_digest_29 : decode cX4_digest 29 = .ok (.lstore_n 1, 1) := by decide +kernel
theorem dX4_digest_30 : decode cX4_digest 30 = .ok (.iinc 3 1, 3) := by decide +kernel
theorem dX4_digest_33 : decode cX4_digest 33 = .ok (.goto (-22), 3) := by decide +kernel
theorem dX4_digest_36 : decode cX4_digest 36 = .ok (.aload_n 0, 1) := by decide +kernel
theorem dX4_digest_37 : decode cX4_digest 37 = .ok (.getfield 13, 3) := by decide +kernel
theorem dX4_digest_40 : decode cX4_digest 40 = .ok (.astore_n 3, 1) := by decide +kernel
theorem dX4_digest_41 : decode cX4_digest 41 = .ok (.aload_n 3, 1) := by decide +kernel
theorem dX4_digest_42 : decode cX4_digest 42 = .ok (.arraylength, 1) := by decide +kernel
theorem dX4_digest_43 : decode cX4_digest 43 = .ok (.istore 4, 2) := by decide +kernel
theorem dX4_digest_45 : decode cX4_digest 45 = .ok (.iconst 0, 1) := by decide +kernel
theorem dX4_digest_46 : decode cX4_digest 46 = .ok (.istore 5, 2) := by decide +kernel
theorem dX4_digest_48 : decode cX4_digest 48 = .ok (.iload 5, 2) := by decide +kernel
theorem dX4_digest_50 : decode cX4_digest 50 = .ok (.iload 4, 2) := by decide +kernel
theorem dX4_digest_52 : decode cX4_digest 52 = .ok (.if_icmp .ge 25, 3) := by decide +kernel
theorem dX4_digest_55 : decode cX4_digest 55 = .ok (.aload_n 3, 1) := by decide +kernel
theorem dX4_digest_56 : decode cX4_digest 56 = .ok (.iload 5, 2) := by decide +kernel
theorem dX4_digest_58 : decode cX4_digest 58 = .ok (.iaload, 1) := by decide +kernel
theorem dX4_digest_59 : decode cX4_digest 59 = .ok (.istore 6, 2) := by decide +kernel
theorem dX4_digest_61 : decode cX4_digest 61 = .ok (.lload_n 1, 1) := by decide +kernel
theorem dX4_digest_62 : decode cX4_digest 62 = .ok (.ldc2_w 152, 3) := by decide +kernel
theorem dX4_digest_65 : decode cX4_digest 65 = .ok (.lmul, 1) := by decide +kernel
theorem dX4_digest_66 : decode cX4_digest 66 = .ok (.iload 6, 2) := by decide +kernel
theorem dX4_digest_68 : decode cX4_digest 68 = .ok (.i2l, 1) := by decide +kernel
theorem dX4_digest_69 : decode cX4_digest 69 = .ok (.ladd, 1) := by decide +kernel
theorem dX4_digest_70 : decode cX4_digest 70 = .ok (.lstore_n 1, 1) := by decide +kernel
theorem dX4_digest_71 : decode cX4_digest 71 = .ok (.iinc 5 1, 3) := by decide +kernel
theorem dX4_digest_74 : decode cX4_digest 74 = .ok (.goto (-26), 3) := by decide +kernel
theorem dX4_digest_77 : decode cX4_digest 77 = .ok (.iconst 0, 1) := by decide +kernel
theorem dX4_digest_78 : decode cX4_digest 78 = .ok (.istore_n 3, 1) := by decide +kernel
theorem dX4_digest_79 : decode cX4_digest 79 = .ok (.iload_n 3, 1) := by decide +kernel
theorem dX4_digest_80 : decode cX4_digest 80 = .ok (.aload_n 0, 1) := by decide +kernel
theorem dX4_digest_81 : decode cX4_digest 81 = .ok (.getfield 62, 3) := by decide +kernel
theorem dX4_digest_84 : decode cX4_digest 84 = .ok (.if_icmp .ge 23, 3) := by decide +kernel
theorem dX4_digest_87 : decode cX4_digest 87 = .ok (.lload_n 1, 1) := by decide +kernel
theorem dX4_digest_88 : decode cX4_digest 88 = .ok (.ldc2_w 152, 3) := by decide +kernel
theorem dX4_digest_91 : decode cX4_digest 91 = .ok (.lmul, 1) := by decide +kernel
theorem dX4_digest_92 : decode cX4_digest 92 = .ok (.aload_n 0, 1) := by decide +kernel
theorem dX4_digest_93 : decode cX4_digest 93 = .ok (.getfield 17, 3) := by decide +kernel
theorem dX4_digest_96 : decode cX4_digest 96 = .ok (.iload_n 3, 1) := by decide +kernel
theorem dX4_digest_97 : decode cX4_digest 97 = .ok (.iaload, 1) := by decide +kernel
theorem dX4_digest_98 : decode cX4_digest 98 = .ok (.i2l, 1) := by decide +kernel
theorem dX4_digest_99 : decode cX4_digest 99 = .ok (.ladd, 1) := by decide +kernel
theorem dX4_digest_100 : decode cX4_digest 100 = .ok (.lstore_n 1, 1) := by decide +kernel
theorem dX4_digest_101 : decode cX4_digest 101 = .ok (.iinc 3 1, 3) := by decide +kernel
theorem dX4_digest_104 : decode cX4_digest 104 = .ok (.goto (-25), 3) := by decide +kernel
theorem dX4_digest_107 : decode cX4_digest 107 = .ok (.iconst 0, 1) := by decide +kernel
theorem dX4_digest_108 : decode cX4_digest 108 = .ok (.istore_n 3, 1) := by decide +kernel
theorem dX4_digest_109 : decode cX4_digest 109 = .ok (.iload_n 3, 1) := by decide +kernel
theorem dX4_digest_110 : decode cX4_digest 110 = .ok (.aload_n 0, 1) := by decide +kernel
theorem dX4_digest_111 : decode cX4_digest 111 = .ok (.getfield 29, 3) := by decide +kernel
theorem dX4_digest_114 : decode cX4_digest 114 = .ok (.if_icmp .ge 70, 3) := by decide +kernel
theorem dX4_digest_117 : decode cX4_digest 117 = .ok (.iconst 0, 1) := by decide +kernel
theorem dX4_digest_118 : decode cX4_digest 118 = .ok (.istore 4, 2) := by decide +kernel
theorem dX4_digest_120 : decode cX4_digest 120 = .ok (.iload 4, 2) := by decide +kernel
theorem dX4_digest_122 : decode cX4_digest 122 = .ok (.bipush 7, 2) := by decide +kernel
theorem dX4_digest_124 : decode cX4_digest 124 = .ok (.if_icmp .ge 24, 3) := by decide +kernel
theorem dX4_digest_127 : decode cX4_digest 127 = .ok (.lload_n 1, 1) := by decide +kernel
theorem dX4_digest_128 : decode cX4_digest 128 = .ok (.ldc2_w 152, 3) := by decide +kernel
theorem dX4_digest_131 : decode cX4_digest 131 = .ok (.lmul, 1) := by decide +kernel
theorem dX4_digest_132 : decode cX4_digest 132 = .ok (.aload_n 0, 1) := by decide +kernel
theorem dX4_digest_133 : decode cX4_digest 133 = .ok (.iload_n 3, 1) := by decide +kernel
theorem dX4_digest_134 : decode cX4_digest 134 = .ok (.iload 4, 2) := by decide +kernel
theorem dX4_digest_136 : decode cX4_digest 136 = .ok (.invokevirtual 122, 3) := by decide +kernel
theorem dX4_digest_139 : decode cX4_digest 139 = .ok (.i2l, 1) := by decide +kernel
theorem dX4_digest_140 : decode cX4_digest 140 = .ok (.ladd, 1) := by decide +kernel
theorem dX4_digest_141 : decode cX4_digest 141 = .ok (.lstore_n 1, 1) := by decide +kernel
theorem dX4_digest_142 : decode cX4_digest 142 = .ok (.iinc 4 1, 3) := by decide +kernel
theorem dX4_digest_145 : decode cX4_digest 145 = .ok (.goto (-25), 3) := by decide +kernel
theorem dX4_digest_148 : decode cX4_digest 148 = .ok (.iconst 0, 1) := by decide +kernel
theorem dX4_digest_149 : decode cX4_digest 149 = .ok (.istore 4, 2) := by decide +kernel
theorem dX4_digest_151 : decode cX4_digest 151 = .ok (.iload 4, 2) := by decide +kernel
theorem dX4_digest_153 : decode cX4_digest 153 = .ok (.iconst 5, 1) := by decide +kernel
theorem dX4_digest_154 : decode cX4_digest 154 = .ok (.if_icmp .ge 24, 3) := by decide +kernel
theorem dX4_digest_157 : decode cX4_digest 157 = .ok (.lload_n 1, 1) := by decide +kernel
theorem dX4_digest_158 : decode cX4_digest 158 = .ok (.ldc2_w 152, 3) := by decide +kernel
theorem dX4_digest_161 : decode cX4_digest 161 = .ok (.lmul, 1) := by decide +kernel
theorem dX4_digest_162 : decode cX4_digest 162 = .ok (.aload_n 0, 1) := by decide +kernel
theorem dX4_digest_163 : decode cX4_digest 163 = .ok (.iload_n 3, 1) := by decide +kernel
theorem dX4_digest_164 : decode cX4_digest 164 = .ok (.iload 4, 2) := by decide +kernel
theorem dX4_digest_166 : decode cX4_digest 166 = .ok (.invokevirtual 125, 3) := by decide +kernel
theorem dX4_digest_169 : decode cX4_digest 169 = .ok (.i2l, 1) := by decide +kernel
theorem dX4_digest_170 : decode cX4_digest 170 = .ok (.ladd, 1) := by decide +kernel
theorem dX4_digest_171 : decode cX4_digest 171 = .ok (.lstore_n 1, 1) := by decide +kernel
theorem dX4_digest_172 : decode cX4_digest 172 = .ok (.iinc 4 1, 3) := by decide +kernel
theorem dX4_digest_175 : decode cX4_digest 175 = .ok (.goto (-24), 3) := by decide +kernel
theorem dX4_digest_178 : decode cX4_digest 178 = .ok (.iinc 3 1, 3) := by decide +kernel
theorem dX4_digest_181 : decode cX4_digest 181 = .ok (.goto (-72), 3) := by decide +kernel
theorem dX4_digest_184 : decode cX4_digest 184 = .ok (.lload_n 1, 1) := by decide +kernel
theorem dX4_digest_185 : decode cX4_digest 185 = .ok (.lreturn, 1) := by decide +kernel
