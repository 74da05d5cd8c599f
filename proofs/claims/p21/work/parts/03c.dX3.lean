set_option maxRecDepth 20000 in
theorem ggX3_init_X2_init : GoodIn wsX3_init wsX2_init := goodIn_r _ [19, 20, 2, 3, 21, 22, 23, 24, 25, 26, 27, 28, 59, 60, 61] (by decide +kernel) (by decide +kernel)
set_option maxRecDepth 20000 in
theorem gX3_init_X2_init : GoodIn wsX3_init (wsX2_init) := ggX3_init_X2_init
set_option maxRecDepth 20000 in
theorem ggX3_init_X1_init : GoodIn wsX3_init wsX1_init := goodIn_r _ [31, 32, 2, 3, 33, 34, 35, 36, 37, 38, 39, 40, 41, 42, 43, 44, 45, 46, 47, 48, 49, 50, 51, 82, 83, 84, 66, 67, 68, 69, 70] (by decide +kernel) (by decide +kernel)
set_option maxRecDepth 20000 in
theorem gX3_init_X1_init : GoodIn wsX3_init (wsX1_init) := ggX3_init_X1_init
set_option maxRecDepth 20000 in
theorem ggX3_init_X0_init : GoodIn wsX3_init wsX0_init := goodIn_r _ [54, 55, 2, 3, 56, 57, 58, 71, 72, 73, 74, 75, 76, 77, 78, 79, 80, 81] (by decide +kernel) (by decide +kernel)
set_option maxRecDepth 20000 in
theorem gX3_init_X0_init : GoodIn wsX3_init (wsX0_init) := ggX3_init_X0_init
theorem dX3_init_0 : decode cX3_init 0 = .ok (.aload_n 0, 1) := by decide +kernel
theorem dX3_init_1 : decode cX3_init 1 = .ok (.invokespecial 1, 3) := by decide +kernel
theorem dX3_init_4 : decode cX3_init 4 = .ok (.aload_n 0, 1) := by decide +kernel
theorem dX3_init_5 : decode cX3_init 5 = .ok (.new 7, 3) := by decide +kernel
theorem dX3_init_8 : decode cX3_init 8 = .ok (.dup, 1) := by decide +kernel
theorem dX3_init_9 : decode cX3_init 9 = .ok (.invokespecial 9, 3) := by decide +kernel
theorem dX3_init_12 : decode cX3_init 12 = .ok (.putfield 10, 3) := by decide +kernel
theorem dX3_init_15 : decode cX3_init 15 = .ok (.aload_n 0, 1) := by decide +kernel
theorem dX3_init_16 : decode cX3_init 16 = .ok (.new 16, 3) := by decide +kernel
theorem dX3_init_19 : decode cX3_init 19 = .ok (.dup, 1) := by decide +kernel
theorem dX3_init_20 : decode cX3_init 20 = .ok (.invokespecial 18, 3) := by decide +kernel
theorem dX3_init_23 : decode cX3_init 23 = .ok (.putfield 19, 3) := by decide +kernel
theorem dX3_init_26 : decode cX3_init 26 = .ok (.aload_n 0, 1) := by decide +kernel
theorem dX3_init_27 : decode cX3_init 27 = .ok (.new 16, 3) := by decide +kernel
theorem dX3_init_30 : decode cX3_init 30 = .ok (.dup, 1) := by decide +kernel
theorem dX3_init_31 : decode cX3_init 31 = .ok (.invokespecial 18, 3) := by decide +kernel
theorem dX3_init_34 : decode cX3_init 34 = .ok (.putfield 23, 3) := by decide +kernel
theorem dX3_init_37 : decode cX3_init 37 = .ok (.aload_n 0, 1) := by decide +kernel
theorem dX3_init_38 : decode cX3_init 38 = .ok (.new 26, 3) := by decide +kernel
theorem dX3_init_41 : decode cX3_init 41 = .ok (.dup, 1) := by decide +kernel
theorem dX3_init_42 : decode cX3_init 42 = .ok (.iconst 1, 1) := by decide +kernel
theorem dX3_init_43 : decode cX3_init 43 = .ok (.iconst 0, 1) := by decide +kernel
theorem dX3_init_44 : decode cX3_init 44 = .ok (.invokespecial 28, 3) := by decide +kernel
theorem dX3_init_47 : decode cX3_init 47 = .ok (.putfield 31, 3) := by decide +kernel
theorem dX3_init_50 : decode cX3_init 50 = .ok (.return_, 1) := by decide +kernel
set_option maxRecDepth 20000 in
theorem ggX3_pond_X3_requireNoRace : GoodIn wsX3_pond wsX3_requireNoRace := goodIn_ca (goodIn_r _ [9, 10, 11, 12, 13, 14, 15, 16, 17, 21, 22, 23, 24, 25] (by decide +kernel) (by decide +kernel)) (goodIn_sub (fun _ h => List.mem_cons_of_mem _ (List.mem_append_right _ h)) (by decide +kernel))
set_option maxRecDepth 20000 in
theorem gX3_pond_X3_requireNoRace : GoodIn wsX3_pond (wsV RX3 42 RX3 yX3_requireNoRace wsX3_requireNoRace) := goodIn_app (goodIn_of _ (by decide +kernel)) ggX3_pond_X3_requireNoRace
theorem dX3_pond_0 : decode cX3_pond 0 = .ok (.iload_n 1, 1) := by decide +kernel
theorem dX3_pond_1 : decode cX3_pond 1 = .ok (.bipush 20, 2) := by decide +kernel
theorem dX3_pond_3 : decode cX3_pond 3 = .ok (.if_icmp .lt 10, 3) := by decide +kernel
theorem dX3_pond_6 : decode cX3_pond 6 = .ok (.iload_n 1, 1) := by decide +kernel
theorem dX3_pond_7 : decode cX3_pond 7 = .ok (.sipush 200, 3) := by decide +kernel
theorem dX3_pond_10 : decode cX3_pond 10 = .ok (.if_icmp .le 13, 3) := by decide +kernel
theorem dX3_pond_13 : decode cX3_pond 13 = .ok (.new 35, 3) := by decide +kernel
theorem dX3_pond_16 : decode cX3_pond 16 = .ok (.dup, 1) := by decide +kernel
theorem dX3_pond_17 : decode cX3_pond 17 = .ok (.ldc 37, 2) := by decide +kernel
theorem dX3_pond_19 : decode cX3_pond 19 = .ok (.invokespecial 39, 3) := by decide +kernel
theorem dX3_pond_22 : decode cX3_pond 22 = .ok (.athrow, 1) := by decide +kernel
theorem dX3_pond_23 : decode cX3_pond 23 = .ok (.aload_n 0, 1) := by decide +kernel
theorem dX3_pond_24 : decode cX3_pond 24 = .ok (.invokevirtual 42, 3) := by decide +kernel
theorem dX3_pond_27 : decode cX3_pond 27 = .ok (.aload_n 0, 1) := by decide +kernel
theorem dX3_pond_28 : decode cX3_pond 28 = .ok (.getfield 10, 3) := by decide +kernel
theorem dX3_pond_31 : decode cX3_pond 31 = .ok (.getfield 45, 3) := by decide +kernel
theorem dX3_pond_34 : decode cX3_pond 34 = .ok (.istore_n 2, 1) := by decide +kernel
theorem dX3_pond_35 : decode cX3_pond 35 = .ok (.aload_n 0, 1) := by decide +kernel
theorem dX3_pond_36 : decode cX3_pond 36 = .ok (.getfield 10, 3) := by decide +kernel
theorem dX3_pond_39 : decode cX3_pond 39 = .ok (.iload_n 1, 1) := by decide +kernel
theorem dX3_pond_40 : decode cX3_pond 40 = .ok (.putfield 45, 3) := by decide +kernel
theorem dX3_pond_43 : decode cX3_pond 43 = .ok (.iload_n 2, 1) := by decide +kernel
theorem dX3_pond_44 : decode cX3_pond 44 = .ok (.ireturn, 1) := by decide +kernel
set_option maxRecDepth 20000 in
theorem ggX3_setWind_X3_requireWind : GoodIn wsX3_setWind wsX3_requireWind := goodIn_ca (goodIn_r _ [8, 9, 10] (by decide +kernel) (by decide +kernel)) (goodIn_sub (fun _ h => List.mem_cons_of_mem _ (List.mem_append_right _ h)) (by decide +kernel))
set_option maxRecDepth 20000 in
theorem gX3_setWind_X3_requireWind : GoodIn wsX3_setWind (wsV RX3 54 RX3 yX3_requireWind wsX3_requireWind) := goodIn_app (goodIn_of _ (by decide +kernel)) ggX3_setWind_X3_requireWind
set_option maxRecDepth 20000 in
theorem ggX3_setWind_X2_changeWind : GoodIn wsX3_setWind wsX2_changeWind := goodIn_r _ [15, 16, 17, 18, 19, 20, 25, 26, 27] (by decide +kernel) (by decide +kernel)
set_option maxRecDepth 20000 in
theorem gX3_setWind_X2_changeWind : GoodIn wsX3_setWind (wsV RX3 58 RX2 yX2_changeWind wsX2_changeWind) := goodIn_app (goodIn_of _ (by decide +kernel)) ggX3_setWind_X2_changeWind
theorem dX3_setWind_0 : decode cX3_setWind 0 = .ok (.iload_n 1, 1) := by decide +kernel
theorem dX3_setWind_1 : decode cX3_setWind 1 = .ok (.ifCond .lt 9, 3) := by decide +kernel
theorem dX3_setWind_4 : decode cX3_setWind 4 = .ok (.iload_n 1, 1) := by decide +kernel
theorem dX3_setWind_5 : decode cX3_setWind 5 = .ok (.bipush 10, 2) := by decide +kernel
theorem dX3_setWind_7 : decode cX3_setWind 7 = .ok (.if_icmp .lt 13, 3) := by decide +kernel
theorem dX3_setWind_10 : decode cX3_setWind 10 = .ok (.new 49, 3) := by decide +kernel
theorem dX3_setWind_13 : decode cX3_setWind 13 = .ok (.dup, 1) := by decide +kernel
theorem dX3_setWind_14 : decode cX3_setWind 14 = .ok (.ldc 51, 2) := by decide +kernel
theorem dX3_setWind_16 : decode cX3_setWind 16 = .ok (.invokespecial 53, 3) := by decide +kernel
theorem dX3_setWind_19 : decode cX3_setWind 19 = .ok (.athrow, 1) := by decide +kernel
theorem dX3_setWind_20 : decode cX3_setWind 20 = .ok (.aload_n 0, 1) := by decide +kernel
theorem dX3_setWind_21 : decode cX3_setWind 21 = .ok (.iload_n 2, 1) := by decide +kernel
theorem dX3_setWind_22 : decode cX3_setWind 22 = .ok (.invokevirtual 54, 3) := by decide +kernel
theorem dX3_setWind_25 : decode cX3_setWind 25 = .ok (.aload_n 0, 1) := by decide +kernel
theorem dX3_setWind_26 : decode cX3_setWind 26 = .ok (.getfield 10, 3) := by decide +kernel
theorem dX3_setWind_29 : decode cX3_setWind 29 = .ok (.iload_n 1, 1) := by decide +kernel
theorem dX3_setWind_30 : decode cX3_setWind 30 = .ok (.iload_n 2, 1) := by decide +kernel
theorem dX3_setWind_31 : decode cX3_setWind 31 = .ok (.invokevirtual 58, 3) := by decide +kernel
theorem dX3_setWind_34 : decode cX3_setWind 34 = .ok (.ireturn, 1) := by decide +kernel
set_option maxRecDepth 20000 in
theorem ggX3_build_Jx4a65c_size_8abf5 : GoodIn wsX3_build wsJx4a65c_size_8abf5 := goodIn_r _ [17, 18, 108, 109, 110] (by decide +kernel) (by decide +kernel)
set_option maxRecDepth 20000 in
theorem gX3_build_Jx4a65c_size_8abf5 : GoodIn wsX3_build (wsV RX3 70 RJx4a65c yJx4a65c_size_8abf5 wsJx4a65c_size_8abf5) := goodIn_app (goodIn_of _ (by decide +kernel)) ggX3_build_Jx4a65c_size_8abf5
set_option maxRecDepth 20000 in
theorem ggX3_build_X3_requireNoRace : GoodIn wsX3_build wsX3_requireNoRace := goodIn_ca (goodIn_r _ [23, 5, 6, 7, 24, 88, 89, 90, 91, 92, 93, 94, 95, 96] (by decide +kernel) (by decide +kernel)) (goodIn_sub (fun _ h => List.mem_cons_of_mem _ (List.mem_append_right _ h)) (by decide +kernel))
set_option maxRecDepth 20000 in
theorem gX3_build_X3_requireNoRace : GoodIn wsX3_build (wsV RX3 42 RX3 yX3_requireNoRace wsX3_requireNoRace) := goodIn_app (goodIn_of _ (by decide +kernel)) ggX3_build_X3_requireNoRace
set_option maxRecDepth 20000 in
theorem ggX3_build_X0_init : GoodIn wsX3_build wsX0_init := goodIn_r _ [27, 28, 29, 30, 31, 32, 33, 97, 98, 99, 100, 101, 102, 103, 104, 105, 106, 107] (by decide +kernel) (by decide +kernel)
set_option maxRecDepth 20000 in
theorem gX3_build_X0_init : GoodIn wsX3_build (wsX0_init) := ggX3_build_X0_init
set_option maxRecDepth 20000 in
theorem ggX3_build_Jx4a65c_add_9ea2d : GoodIn wsX3_build wsJx4a65c_add_9ea2d := goodIn_r _ [37, 38, 39, 40, 18, 41, 42, 43, 16, 44, 45, 46, 47, 48, 49, 50, 51, 52, 53, 54, 55, 56, 57, 58, 59, 60, 61, 62, 63, 64, 65, 66, 67, 68, 69, 70, 71, 72, 73, 74, 75, 76, 77, 78, 79, 80, 81, 82, 83, 84, 85, 86, 87, 108, 109, 110] (by decide +kernel) (by decide +kernel)
set_option maxRecDepth 20000 in
theorem gX3_build_Jx4a65c_add_9ea2d : GoodIn wsX3_build (wsV RX3 81 RJx4a65c yJx4a65c_add_9ea2d wsJx4a65c_add_9ea2d) := goodIn_app (goodIn_of _ (by decide +kernel)) ggX3_build_Jx4a65c_add_9ea2d
theorem dX3_build_0 : decode cX3_build 0 = .ok (.iload_n 2, 1) := by decide +kernel
theorem dX3_build_1 : decode cX3_build 1 = .ok (.ifCond .lt 8, 3) := by decide +kernel
theorem dX3_build_4 : decode cX3_build 4 = .ok (.iload_n 2, 1) := by decide +kernel
theorem dX3_build_5 : decode cX3_build 5 = .ok (.iconst 2, 1) := by decide +kernel
theorem dX3_build_6 : decode cX3_build 6 = .ok (.if_icmp .le 13, 3) := by decide +kernel
theorem dX3_build_9 : decode cX3_build 9 = .ok (.new 49, 3) := by decide +kernel
theorem dX3_build_12 : decode cX3_build 12 = .ok (.dup, 1) := by decide +kernel
theorem dX3_build_13 : decode cX3_build 13 = .ok (.ldc 62, 2) := by decide +kernel
theorem dX3_build_15 : decode cX3_build 15 = .ok (.invokespecial 53, 3) := by decide +kernel
theorem dX3_build_18 : decode cX3_build 18 = .ok (.athrow, 1) := by decide +kernel
theorem dX3_build_19 : decode cX3_build 19 = .ok (.iload_n 1, 1) := by decide +kernel
theorem dX3_build_20 : decode cX3_build 20 = .ok (.iconst 1, 1) := by decide +kernel
theorem dX3_build_21 : decode cX3_build 21 = .ok (.if_icmp .lt 9, 3) := by decide +kernel
theorem dX3_build_24 : decode cX3_build 24 = .ok (.iload_n 1, 1) := by decide +kernel
theorem dX3_build_25 : decode cX3_build 25 = .ok (.bipush 9, 2) := by decide +kernel
theorem dX3_build_27 : decode cX3_build 27 = .ok (.if_icmp .le 13, 3) := by decide +kernel
theorem dX3_build_30 : decode cX3_build 30 = .ok (.new 35, 3) := by decide +kernel
theorem dX3_build_33 : decode cX3_build 33 = .ok (.dup, 1) := by decide +kernel
theorem dX3_build_34 : decode cX3_build 34 = .ok (.ldc 64, 2) := by decide +kernel
theorem dX3_build_36 : decode cX3_build 36 = .ok (.invokespecial 39, 3) := by decide +kernel
theorem dX3_build_39 : decode cX3_build 39 = .ok (.athrow, 1) := by decide +kernel
theorem dX3_build_40 : decode cX3_build 40 = .ok (.aload_n 0, 1) := by decide +kernel
theorem dX3_build_41 : decode cX3_build 41 = .ok (.getfield 19, 3) := by decide +kernel
theorem dX3_build_44 : decode cX3_build 44 = .ok (.getfield 66, 3) := by decide +kernel
theorem dX3_build_47 : decode cX3_build 47 = .ok (.invokevirtual 70, 3) := by decide +kernel
theorem dX3_build_50 : decode cX3_build 50 = .ok (.istore_n 3, 1) := by decide +kernel
theorem dX3_build_51 : decode cX3_build 51 = .ok (.iload_n 3, 1) := by decide +kernel
theorem dX3_build_52 : decode cX3_build 52 = .ok (.bipush 8, 2) := by decide +kernel
theorem dX3_build_54 : decode cX3_build 54 = .ok (.if_icmp .lt 13, 3) := by decide +kernel
theorem dX3_build_57 : decode cX3_build 57 = .ok (.new 76, 3) := by decide +kernel
theorem dX3_build_60 : decode cX3_build 60 = .ok (.dup, 1) := by decide +kernel
theorem dX3_build_61 : decode cX3_build 61 = .ok (.ldc 78, 2) := by decide +kernel
theorem dX3_build_63 : decode cX3_build 63 = .ok (.invokespecial 80, 3) := by decide +kernel
theorem dX3_build_66 : decode cX3_build 66 = .ok (.athrow, 1) := by decide +kernel
theorem dX3_build_67 : decode cX3_build 67 = .ok (.aload_n 0, 1) := by decide +kernel
theorem dX3_build_68 : decode cX3_build 68 = .ok (.invokevirtual 42, 3) := by decide +kernel
theorem dX3_build_71 : decode cX3_build 71 = .ok (.aload_n 0, 1) := by decide +kernel
theorem dX3_build_72 : decode cX3_build 72 = .ok (.getfield 19, 3) := by decide +kernel
theorem dX3_build_75 : decode cX3_build 75 = .ok (.getfield 66, 3) := by decide +kernel
theorem dX3_build_78 : decode cX3_build 78 = .ok (.new 26, 3) := by decide +kernel
theorem dX3_build_81 : decode cX3_build 81 = .ok (.dup, 1) := by decide +kernel
theorem dX3_build_82 : decode cX3_build 82 = .ok (.iload_n 1, 1) := by decide +kernel
theorem dX3_build_83 : decode cX3_build 83 = .ok (.iload_n 2, 1) := by decide +kernel
theorem dX3_build_84 : decode cX3_build 84 = .ok (.invokespecial 28, 3) := by decide +kernel
theorem dX3_build_87 : decode cX3_build 87 = .ok (.invokevirtual 81, 3) := by decide +kernel
theorem dX3_build_90 : decode cX3_build 90 = .ok (.pop, 1) := by decide +kernel
theorem dX3_build_91 : decode cX3_build 91 = .ok (.aload_n 0, 1) := by decide +kernel
theorem dX3_build_92 : decode cX3_build 92 = .ok (.getfield 23, 3) := by decide +kernel
theorem dX3_build_95 : decode cX3_build 95 = .ok (.getfield 66, 3) := by decide +kernel
theorem dX3_build_98 : decode cX3_build 98 = .ok (.new 26, 3) := by decide +kernel
theorem dX3_build_101 : decode cX3_build 101 = .ok (.dup, 1) := by decide +kernel
theorem dX3_build_102 : decode cX3_build 102 = .ok (.iload_n 1, 1) := by decide +kernel
theorem dX3_build_103 : decode cX3_build 103 = .ok (.iload_n 2, 1) := by decide +kernel
theorem dX3_build_104 : decode cX3_build 104 = .ok (.invokespecial 28, 3) := by decide +kernel
theorem dX3_build_107 : decode cX3_build 107 = .ok (.invokevirtual 81, 3) := by decide +kernel
theorem dX3_build_110 : decode cX3_build 110 = .ok (.pop, 1) := by decide +kernel
theorem dX3_build_111 : decode cX3_build 111 = .ok (.iload_n 3, 1) := by decide +kernel
theorem dX3_build_112 : decode cX3_build 112 = .ok (.ireturn, 1) := by decide +kernel
set_option maxRecDepth 20000 in
theorem ggX3_ballast_X3_boatAt : GoodIn wsX3_ballast wsX3_boatAt := goodIn_ca (goodIn_r _ [8, 9, 10, 11, 12, 13, 14, 7, 15, 16, 17, 18, 19, 20, 21, 22, 23, 24, 25, 26, 27, 28, 29, 30, 31, 32, 33, 34, 35, 36, 37, 38, 39, 40, 59, 60, 61, 62, 63, 64, 65, 66, 67, 68, 69, 70] (by decide +kernel) (by decide +kernel)) (goodIn_sub (fun _ h => List.mem_cons_of_mem _ (List.mem_append_left _ (List.mem_append_right _ h))) (by decide +kernel))
set_option maxRecDepth 20000 in
theorem gX3_ballast_X3_boatAt : GoodIn wsX3_ballast (wsV RX3 85 RX3 yX3_boatAt wsX3_boatAt) := goodIn_app (goodIn_of _ (by decide +kernel)) ggX3_ballast_X3_boatAt
set_option maxRecDepth 20000 in
theorem ggX3_ballast_X3_requireNoRace : GoodIn wsX3_ballast wsX3_requireNoRace := goodIn_ca (goodIn_r _ [44, 45, 46, 9, 47, 59, 60, 61, 62, 63, 64, 65, 66, 67] (by decide +kernel) (by decide +kernel)) (goodIn_sub (fun _ h => List.mem_cons_of_mem _ (List.mem_append_right _ h)) (by decide +kernel))
set_option maxRecDepth 20000 in
theorem gX3_ballast_X3_requireNoRace : GoodIn wsX3_ballast (wsV RX3 42 RX3 yX3_requireNoRace wsX3_requireNoRace) := goodIn_app (goodIn_of _ (by decide +kernel)) ggX3_ballast_X3_requireNoRace
theorem dX3_ballast_0 : decode cX3_ballast 0 = .ok (.aload_n 0, 1) := by decide +kernel
theorem dX3_ballast_1 : decode cX3_ballast 1 = .ok (.iload_n 1, 1) := by decide +kernel
theorem dX3_ballast_2 : decode cX3_ballast 2 = .ok (.invokevirtual 85, 3) := by decide +kernel
theorem dX3_ballast_5 : decode cX3_ballast 5 = .ok (.astore_n 3, 1) := by decide +kernel
theorem dX3_ballast_6 : decode cX3_ballast 6 = .ok (.iload_n 2, 1) := by decide +kernel
theorem dX3_ballast_7 : decode cX3_ballast 7 = .ok (.ifCond .lt 9, 3) := by decide +kernel
theorem dX3_ballast_10 : decode cX3_ballast 10 = .ok (.iload_n 2, 1) := by decide +kernel
theorem dX3_ballast_11 : decode cX3_ballast 11 = .ok (.bipush 9, 2) := by decide +kernel
theorem dX3_ballast_13 : decode cX3_ballast 13 = .ok (.if_icmp .le 13, 3) := by decide +kernel
theorem dX3_ballast_16 : decode cX3_ballast 16 = .ok (.new 35, 3) := by decide +kernel
theorem dX3_ballast_19 : decode cX3_ballast 19 = .ok (.dup, 1) := by decide +kernel
theorem dX3_ballast_20 : decode cX3_ballast 20 = .ok (.ldc 89, 2) := by decide +kernel
theorem dX3_ballast_22 : decode cX3_ballast 22 = .ok (.invokespecial 39, 3) := by decide +kernel
theorem dX3_ballast_25 : decode cX3_ballast 25 = .ok (.athrow, 1) := by decide +kernel
theorem dX3_ballast_26 : decode cX3_ballast 26 = .ok (.aload_n 0, 1) := by decide +kernel
theorem dX3_ballast_27 : decode cX3_ballast 27 = .ok (.invokevirtual 42, 3) := by decide +kernel
theorem dX3_ballast_30 : decode cX3_ballast 30 = .ok (.aload_n 3, 1) := by decide +kernel
theorem dX3_ballast_31 : decode cX3_ballast 31 = .ok (.getfield 91, 3) := by decide +kernel
theorem dX3_ballast_34 : decode cX3_ballast 34 = .ok (.istore 4, 2) := by decide +kernel
theorem dX3_ballast_36 : decode cX3_ballast 36 = .ok (.aload_n 3, 1) := by decide +kernel
theorem dX3_ballast_37 : decode cX3_ballast 37 = .ok (.iload_n 2, 1) := by decide +kernel
theorem dX3_ballast_38 : decode cX3_ballast 38 = .ok (.putfield 91, 3) := by decide +kernel
theorem dX3_ballast_41 : decode cX3_ballast 41 = .ok (.iload 4, 2) := by decide +kernel
theorem dX3_ballast_43 : decode cX3_ballast 43 = .ok (.ireturn, 1) := by decide +kernel
set_option maxRecDepth 20000 in
theorem ggX3_judge_X2_addJudge : GoodIn wsX3_judge wsX2_addJudge := goodIn_r _ [11, 12, 13, 14, 15, 16, 17, 18, 19, 20, 21, 22, 23, 24, 25, 26, 27, 28, 29, 30, 31, 36, 37, 38] (by decide +kernel) (by decide +kernel)
set_option maxRecDepth 20000 in
theorem gX3_judge_X2_addJudge : GoodIn wsX3_judge (wsV RX3 102 RX2 yX2_addJudge wsX2_addJudge) := goodIn_app (goodIn_of _ (by decide +kernel)) ggX3_judge_X2_addJudge
theorem dX3_judge_0 : decode cX3_judge 0 = .ok (.iload_n 1, 1) := by decide +kernel
theorem dX3_judge_1 : decode cX3_judge 1 = .ok (.ifCond .lt 10, 3) := by decide +kernel
theorem dX3_judge_4 : decode cX3_judge 4 = .ok (.iload_n 1, 1) := by decide +kernel
theorem dX3_judge_5 : decode cX3_judge 5 = .ok (.sipush 199, 3) := by decide +kernel
theorem dX3_judge_8 : decode cX3_judge 8 = .ok (.if_icmp .le 13, 3) := by decide +kernel
theorem dX3_judge_11 : decode cX3_judge 11 = .ok (.new 35, 3) := by decide +kernel
theorem dX3_judge_14 : decode cX3_judge 14 = .ok (.dup, 1) := by decide +kernel
theorem dX3_judge_15 : decode cX3_judge 15 = .ok (.ldc 94, 2) := by decide +kernel
theorem dX3_judge_17 : decode cX3_judge 17 = .ok (.invokespecial 39, 3) := by decide +kernel
theorem dX3_judge_20 : decode cX3_judge 20 = .ok (.athrow, 1) := by decide +kernel
theorem dX3_judge_21 : decode cX3_judge 21 = .ok (.aload_n 0, 1) := by decide +kernel
theorem dX3_judge_22 : decode cX3_judge 22 = .ok (.getfield 10, 3) := by decide +kernel
theorem dX3_judge_25 : decode cX3_judge 25 = .ok (.getfield 96, 3) := by decide +kernel
theorem dX3_judge_28 : decode cX3_judge 28 = .ok (.arraylength, 1) := by decide +kernel
theorem dX3_judge_29 : decode cX3_judge 29 = .ok (.iconst 3, 1) := by decide +kernel
theorem dX3_judge_30 : decode cX3_judge 30 = .ok (.if_icmp .lt 13, 3) := by decide +kernel
theorem dX3_judge_33 : decode cX3_judge 33 = .ok (.new 76, 3) := by decide +kernel
theorem dX3_judge_36 : decode cX3_judge 36 = .ok (.dup, 1) := by decide +kernel
theorem dX3_judge_37 : decode cX3_judge 37 = .ok (.ldc 100, 2) := by decide +kernel
theorem dX3_judge_39 : decode cX3_judge 39 = .ok (.invokespecial 80, 3) := by decide +kernel
theorem dX3_judge_42 : decode cX3_judge 42 = .ok (.athrow, 1) := by decide +kernel
theorem dX3_judge_43 : decode cX3_judge 43 = .ok (.aload_n 0, 1) := by decide +kernel
theorem dX3_judge_44 : decode cX3_judge 44 = .ok (.getfield 10, 3) := by decide +kernel
theorem dX3_judge_47 : decode cX3_judge 47 = .ok (.iload_n 1, 1) := by decide +kernel
theorem dX3_judge_48 : decode cX3_judge 48 = .ok (.invokevirtual 102, 3) := by decide +kernel
theorem dX3_judge_51 : decode cX3_judge 51 = .ok (.aload_n 0, 1) := by decide +kernel
theorem dX3_judge_52 : decode cX3_judge 52 = .ok (.getfield 10, 3) := by decide +kernel
theorem dX3_judge_55 : decode cX3_judge 55 = .ok (.getfield 96, 3) := by decide +kernel
theorem dX3_judge_58 : decode cX3_judge 58 = .ok (.arraylength, 1) := by decide +kernel
theorem dX3_judge_59 : decode cX3_judge 59 = .ok (.ireturn, 1) := by decide +kernel
set_option maxRecDepth 20000 in
theorem ggX3_start_X3_requireNoRace : GoodIn wsX3_start wsX3_requireNoRace := goodIn_ca (goodIn_r _ [8, 1, 2, 3, 9, 68, 69, 70, 71, 72, 73, 74, 75, 76] (by decide +kernel) (by decide +kernel)) (goodIn_sub (fun _ h => List.mem_cons_of_mem _ (List.mem_append_right _ h)) (by decide +kernel))
set_option maxRecDepth 20000 in
theorem gX3_start_X3_requireNoRace : GoodIn wsX3_start (wsV RX3 42 RX3 yX3_requireNoRace wsX3_requireNoRace) := goodIn_app (goodIn_of _ (by decide +kernel)) ggX3_start_X3_requireNoRace
set_option maxRecDepth 20000 in
theorem ggX3_start_X1_starters : GoodIn wsX3_start wsX1_starters := goodIn_r _ [14, 15, 16, 17, 18, 19, 20, 21, 22, 23, 24, 25, 26, 27, 28, 29, 30, 31, 32, 33, 34, 35, 36, 37, 38, 39, 40, 41, 42, 43, 44, 45, 72, 73, 74, 75, 76, 77, 78, 79, 80, 81, 82, 83, 84, 85, 86, 87, 88, 89, 90] (by decide +kernel) (by decide +kernel)
set_option maxRecDepth 20000 in
theorem gX3_start_X1_starters : GoodIn wsX3_start (wsV RX3 105 RX1 yX1_starters wsX1_starters) := goodIn_app (goodIn_of _ (by decide +kernel)) ggX3_start_X1_starters
set_option maxRecDepth 20000 in
theorem ggX3_start_X1_begin : GoodIn wsX3_start wsX1_begin := goodIn_r _ [49, 15, 16, 50, 51, 52, 17, 18, 19, 20, 21, 22, 23, 24, 25, 26, 27, 28, 29, 30, 31, 32, 33, 34, 35, 36, 37, 38, 39, 53, 54, 55, 43, 56, 57, 58, 59, 60, 61, 62, 41, 42, 44, 45, 72, 73, 74, 75, 76, 77, 78, 79, 80, 81, 82, 83, 84, 85, 86, 87, 88, 89, 90] (by decide +kernel) (by decide +kernel)
set_option maxRecDepth 20000 in
theorem gX3_start_X1_begin : GoodIn wsX3_start (wsV RX3 110 RX1 yX1_begin wsX1_begin) := goodIn_app (goodIn_of _ (by decide +kernel)) ggX3_start_X1_begin
set_option maxRecDepth 20000 in
theorem ggX3_start_X1_inState : GoodIn wsX3_start wsX1_inState := goodIn_r _ [66, 15, 16, 67, 17, 18, 19, 20, 21, 22, 23, 24, 25, 26, 27, 28, 29, 30, 31, 32, 33, 34, 35, 36, 37, 38, 39, 72, 73, 74, 75, 76, 80, 81, 82, 83, 84, 85, 86, 87, 88, 89, 90, 77, 78, 79] (by decide +kernel) (by decide +kernel)
set_option maxRecDepth 20000 in
theorem gX3_start_X1_inState : GoodIn wsX3_start (wsV RX3 113 RX1 yX1_inState wsX1_inState) := goodIn_app (goodIn_of _ (by decide +kernel)) ggX3_start_X1_inState
theorem dX3_start_0 : decode cX3_start 0 = .ok (.aload_n 0, 1) := by decide +kernel
theorem dX3_start_1 : decode cX3_start 1 = .ok (.invokevirtual 42, 3) := by decide +kernel
theorem dX3_start_4 : decode cX3_start 4 = .ok (.aload_n 0, 1) := by decide +kernel
theorem dX3_start_5 : decode cX3_start 5 = .ok (.getfield 19, 3) := by decide +kernel
theorem dX3_start_8 : decode cX3_start 8 = .ok (.invokevirtual 105, 3) := by decide +kernel
theorem dX3_start_11 : decode cX3_start 11 = .ok (.ifCond .ne 13, 3) := by decide +kernel
theorem dX3_start_14 : decode cX3_start 14 = .ok (.new 76, 3) := by decide +kernel
theorem dX3_start_17 : decode cX3_start 17 = .ok (.dup, 1) := by decide +kernel
theorem dX3_start_18 : decode cX3_start 18 = .ok (.ldc 108, 2) := by decide +kernel
theorem dX3_start_20 : decode cX3_start 20 = .ok (.invokespecial 80, 3) := by decide +kernel
theorem dX3_start_23 : decode cX3_start 23 = .ok (.athrow, 1) := by decide +kernel
theorem dX3_start_24 : decode cX3_start 24 = .ok (.aload_n 0, 1) := by decide +kernel
theorem dX3_start_25 : decode cX3_start 25 = .ok (.getfield 19, 3) := by decide +kernel
theorem dX3_start_28 : decode cX3_start 28 = .ok (.invokevirtual 110, 3) := by decide +kernel
theorem dX3_start_31 : decode cX3_start 31 = .ok (.aload_n 0, 1) := by decide +kernel
theorem dX3_start_32 : decode cX3_start 32 = .ok (.getfield 19, 3) := by decide +kernel
theorem dX3_start_35 : decode cX3_start 35 = .ok (.iconst 1, 1) := by decide +kernel
theorem dX3_start_36 : decode cX3_start 36 = .ok (.invokevirtual 113, 3) := by decide +kernel
theorem dX3_start_39 : decode cX3_start 39 = .ok (.ireturn, 1) := by decide +kernel
set_option maxRecDepth 20000 in
theorem ggX3_pass_X1_passMinute : GoodIn wsX3_pass wsX1_passMinute := goodIn_r _ [9, 10, 11, 12, 13, 14, 15, 8, 16, 17, 18, 19, 20, 21, 22, 23, 24, 25, 26, 27, 28, 29, 30, 31, 32, 33, 34, 35, 36, 37, 38, 39, 40, 41, 42, 43, 44, 45, 46, 47, 48, 49, 50, 51, 52, 53, 54, 55, 56, 57, 58, 59, 60, 61, 62, 63, 64, 65, 66, 67, 68, 69, 70, 71, 72, 73, 74, 75, 76, 77, 78, 79, 80, 81, 82, 83, 84, 85, 86, 87, 88, 89, 90, 91, 92, 93, 94, 95, 96, 97, 98, 99, 100, 101, 102, 103, 104, 105, 106, 107, 108, 109, 110, 111, 112, 113, 114, 115, 116, 117, 118, 119, 120, 121, 122, 123, 124, 125, 126, 127, 128, 129, 130, 131, 132, 133, 134, 135, 136, 137, 138, 139, 140, 141, 142, 143, 144, 145, 146, 151, 152, 153, 154, 155, 156, 157, 158, 159, 160, 161, 162, 163, 164, 165, 166, 167, 168, 169, 170, 171, 172] (by decide +kernel) (by decide +kernel)
set_option maxRecDepth 20000 in
theorem gX3_pass_X1_passMinute : GoodIn wsX3_pass (wsV RX3 119 RX1 yX1_passMinute wsX1_passMinute) := goodIn_app (goodIn_of _ (by decide +kernel)) ggX3_pass_X1_passMinute
theorem dX3_pass_0 : decode cX3_pass 0 = .ok (.iload_n 1, 1) := by decide +kernel
theorem dX3_pass_1 : decode cX3_pass 1 = .ok (.iconst 1, 1) := by decide +kernel
theorem dX3_pass_2 : decode cX3_pass 2 = .ok (.if_icmp .lt 9, 3) := by decide +kernel
theorem dX3_pass_5 : decode cX3_pass 5 = .ok (.iload_n 1, 1) := by decide +kernel
theorem dX3_pass_6 : decode cX3_pass 6 = .ok (.bipush 90, 2) := by decide +kernel
theorem dX3_pass_8 : decode cX3_pass 8 = .ok (.if_icmp .le 13, 3) := by decide +kernel
theorem dX3_pass_11 : decode cX3_pass 11 = .ok (.new 35, 3) := by decide +kernel
theorem dX3_pass_14 : decode cX3_pass 14 = .ok (.dup, 1) := by decide +kernel
theorem dX3_pass_15 : decode cX3_pass 15 = .ok (.ldc 117, 2) := by decide +kernel
theorem dX3_pass_17 : decode cX3_pass 17 = .ok (.invokespecial 39, 3) := by decide +kernel
theorem dX3_pass_20 : decode cX3_pass 20 = .ok (.athrow, 1) := by decide +kernel
theorem dX3_pass_21 : decode cX3_pass 21 = .ok (.iconst 0, 1) := by decide +kernel
theorem dX3_pass_22 : decode cX3_pass 22 = .ok (.istore_n 2, 1) := by decide +kernel
theorem dX3_pass_23 : decode cX3_pass 23 = .ok (.iconst 0, 1) := by decide +kernel
theorem dX3_pass_24 : decode cX3_pass 24 = .ok (.istore_n 3, 1) := by decide +kernel
theorem dX3_pass_25 : decode cX3_pass 25 = .ok (.iload_n 3, 1) := by decide +kernel
theorem dX3_pass_26 : decode cX3_pass 26 = .ok (.iload_n 1, 1) := by decide +kernel
theorem dX3_pass_27 : decode cX3_pass 27 = .ok (.if_icmp .ge 23, 3) := by decide +kernel
theorem dX3_pass_30 : decode cX3_pass 30 = .ok (.iload_n 2, 1) := by decide +kernel
theorem dX3_pass_31 : decode cX3_pass 31 = .ok (.aload_n 0, 1) := by decide +kernel
theorem dX3_pass_32 : decode cX3_pass 32 = .ok (.getfield 19, 3) := by decide +kernel
theorem dX3_pass_35 : decode cX3_pass 35 = .ok (.aload_n 0, 1) := by decide +kernel
theorem dX3_pass_36 : decode cX3_pass 36 = .ok (.getfield 10, 3) := by decide +kernel
theorem dX3_pass_39 : decode cX3_pass 39 = .ok (.invokevirtual 119, 3) := by decide +kernel
theorem dX3_pass_42 : decode cX3_pass 42 = .ok (.iadd, 1) := by decide +kernel
theorem dX3_pass_43 : decode cX3_pass 43 = .ok (.istore_n 2, 1) := by decide +kernel
theorem dX3_pass_44 : decode cX3_pass 44 = .ok (.iinc 3 1, 3) := by decide +kernel
theorem dX3_pass_47 : decode cX3_pass 47 = .ok (.goto (-22), 3) := by decide +kernel
theorem dX3_pass_50 : decode cX3_pass 50 = .ok (.iload_n 2, 1) := by decide +kernel
theorem dX3_pass_51 : decode cX3_pass 51 = .ok (.ireturn, 1) := by decide +kernel
set_option maxRecDepth 20000 in
theorem ggX3_told_X3_boatAt : GoodIn wsX3_told wsX3_boatAt := goodIn_ca (goodIn_r _ [10, 11, 12, 13, 14, 15, 16, 9, 17, 18, 19, 20, 21, 22, 23, 24, 25, 26, 27, 28, 29, 30, 31, 32, 33, 34, 35, 36, 37, 38, 39, 40, 41, 42, 97, 98, 99, 100, 101, 102, 103, 104, 105, 106, 107, 108] (by decide +kernel) (by decide +kernel)) (goodIn_sub (fun _ h => List.mem_cons_of_mem _ (List.mem_append_right _ h)) (by decide +kernel))
set_option maxRecDepth 20000 in
theorem gX3_told_X3_boatAt : GoodIn wsX3_told (wsV RX3 85 RX3 yX3_boatAt wsX3_boatAt) := goodIn_app (goodIn_of _ (by decide +kernel)) ggX3_told_X3_boatAt
set_option maxRecDepth 20000 in
theorem ggX3_told_X3_requireKind : GoodIn wsX3_told wsX3_requireKind := goodIn_ca (goodIn_r _ [46, 18, 19] (by decide +kernel) (by decide +kernel)) (goodIn_sub (fun _ h => List.mem_cons_of_mem _ (List.mem_append_right _ h)) (by decide +kernel))
set_option maxRecDepth 20000 in
theorem gX3_told_X3_requireKind : GoodIn wsX3_told (wsV RX3 123 RX3 yX3_requireKind wsX3_requireKind) := goodIn_app (goodIn_of _ (by decide +kernel)) ggX3_told_X3_requireKind
set_option maxRecDepth 20000 in
theorem ggX3_told_X3_windNow : GoodIn wsX3_told wsX3_windNow := goodIn_r _ [50, 51, 11, 52, 53, 54, 55, 56, 57, 58, 59, 60, 61, 62, 97, 98, 99, 100, 101, 102, 103, 104, 105, 109, 110, 111] (by decide +kernel) (by decide +kernel)
set_option maxRecDepth 20000 in
theorem gX3_told_X3_windNow : GoodIn wsX3_told (wsV RX3 138 RX3 yX3_windNow wsX3_windNow) := goodIn_app (goodIn_of _ (by decide +kernel)) ggX3_told_X3_windNow
set_option maxRecDepth 20000 in
theorem ggX3_told_X0_heel : GoodIn wsX3_told wsX0_heel := goodIn_r _ [67, 68, 69, 70, 71, 72, 73, 74, 75, 76, 66, 77, 78, 86, 87, 88, 89, 90, 91, 92, 93, 94, 95, 96] (by decide +kernel) (by decide +kernel)
set_option maxRecDepth 20000 in
theorem gX3_told_X0_heel : GoodIn wsX3_told (wsV RX3 141 RX0 yX0_heel wsX0_heel) := goodIn_app (goodIn_of _ (by decide +kernel)) ggX3_told_X0_heel
set_option maxRecDepth 20000 in
theorem ggX3_told_X0_speed : GoodIn wsX3_told wsX0_speed := goodIn_r _ [82, 69, 68, 83, 84, 72, 85, 74, 75, 76, 66, 77, 78, 86, 87, 88, 89, 90, 91, 92, 93, 94, 95, 96] (by decide +kernel) (by decide +kernel)
set_option maxRecDepth 20000 in
theorem gX3_told_X0_speed : GoodIn wsX3_told (wsV RX3 144 RX0 yX0_speed wsX0_speed) := goodIn_app (goodIn_of _ (by decide +kernel)) ggX3_told_X0_speed
theorem dX3_told_0 : decode cX3_told 0 = .ok (.aload_n 0, 1) := by decide +kernel
theorem dX3_told_1 : decode cX3_told 1 = .ok (.iload_n 1, 1) := by decide +kernel
theorem dX3_told_2 : decode cX3_told 2 = .ok (.invokevirtual 85, 3) := by decide +kernel
theorem dX3_told_5 : decode cX3_told 5 = .ok (.astore_n 3, 1) := by decide +kernel
theorem dX3_told_6 : decode cX3_told 6 = .ok (.aload_n 0, 1) := by decide +kernel
theorem dX3_told_7 : decode cX3_told 7 = .ok (.iload_n 2, 1) := by decide +kernel
theorem dX3_told_8 : decode cX3_told 8 = .ok (.bipush 7, 2) := by decide +kernel
theorem dX3_told_10 : decode cX3_told 10 = .ok (.invokevirtual 123, 3) := by decide +kernel
theorem dX3_told_13 : decode cX3_told 13 = .ok (.iload_n 2, 1) := by decide +kernel
theorem dX3_told_14 : decode cX3_told 14 = .ok (.tableswitch 72 0 5 #[38, 43, 48, 53, 58, 63], 38) := by decide +kernel
theorem dX3_told_52 : decode cX3_told 52 = .ok (.aload_n 3, 1) := by decide +kernel
theorem dX3_told_53 : decode cX3_told 53 = .ok (.getfield 126, 3) := by decide +kernel
theorem dX3_told_56 : decode cX3_told 56 = .ok (.ireturn, 1) := by decide +kernel
theorem dX3_told_57 : decode cX3_told 57 = .ok (.aload_n 3, 1) := by decide +kernel
theorem dX3_told_58 : decode cX3_told 58 = .ok (.getfield 129, 3) := by decide +kernel
theorem dX3_told_61 : decode cX3_told 61 = .ok (.ireturn, 1) := by decide +kernel
theorem dX3_told_62 : decode cX3_told 62 = .ok (.aload_n 3, 1) := by decide +kernel
theorem dX3_told_63 : decode cX3_told 63 = .ok (.getfield 91, 3) := by decide +kernel
theorem dX3_told_66 : decode cX3_told 66 = .ok (.ireturn, 1) := by decide +kernel
theorem dX3_told_67 : decode cX3_told 67 = .ok (.aload_n 3, 1) := by decide +kernel
theorem dX3_told_68 : decode cX3_told 68 = .ok (.getfield 132, 3) := by decide +kernel
theorem dX3_told_71 : decode cX3_told 71 = .ok (.ireturn, 1) := by decide +kernel
theorem dX3_told_72 : decode cX3_told 72 = .ok (.aload_n 3, 1) := by decide +kernel
theorem dX3_told_73 : decode cX3_told 73 = .ok (.getfield 135, 3) := by decide +kernel
theorem dX3_told_76 : decode cX3_told 76 = .ok (.ireturn, 1) := by decide +kernel
theorem dX3_told_77 : decode cX3_told 77 = .ok (.aload_n 3, 1) := by decide +kernel
theorem dX3_told_78 : decode cX3_told 78 = .ok (.aload_n 0, 1) := by decide +kernel
theorem dX3_told_79 : decode cX3_told 79 = .ok (.invokevirtual 138, 3) := by decide +kernel
theorem dX3_told_82 : decode cX3_told 82 = .ok (.invokevirtual 141, 3) := by decide +kernel
theorem dX3_told_85 : decode cX3_told 85 = .ok (.ireturn, 1) := by decide +kernel
theorem dX3_told_86 : decode cX3_told 86 = .ok (.aload_n 3, 1) := by decide +kernel
theorem dX3_told_87 : decode cX3_told 87 = .ok (.aload_n 0, 1) := by decide +kernel
theorem dX3_told_88 : decode cX3_told 88 = .ok (.invokevirtual 138, 3) := by decide +kernel
theorem dX3_told_91 : decode cX3_told 91 = .ok (.invokevirtual 144, 3) := by decide +kernel
theorem dX3_told_94 : decode cX3_told 94 = .ok (.ireturn, 1) := by decide +kernel
set_option maxRecDepth 20000 in
theorem ggX3_about_X3_boatAt : GoodIn wsX3_about wsX3_boatAt := goodIn_ca (goodIn_r _ [12, 1, 13, 14, 15, 16, 17, 11, 18, 19, 20, 21, 22, 23, 24, 25, 26, 27, 28, 29, 30, 31, 32, 33, 34, 35, 36, 37, 38, 39, 40, 41, 42, 43, 48, 49, 50, 51, 52, 53, 54, 55, 56, 68, 69, 70] (by decide +kernel) (by decide +kernel)) (goodIn_sub (fun _ h => List.mem_cons_of_mem _ (List.mem_append_right _ h)) (by decide +kernel))
set_option maxRecDepth 20000 in
theorem gX3_about_X3_boatAt : GoodIn wsX3_about (wsV RX3 85 RX3 yX3_boatAt wsX3_boatAt) := goodIn_app (goodIn_of _ (by decide +kernel)) ggX3_about_X3_boatAt
set_option maxRecDepth 20000 in
theorem ggX3_about_X3_requireKind : GoodIn wsX3_about wsX3_requireKind := goodIn_ca (goodIn_r _ [47, 19, 20] (by decide +kernel) (by decide +kernel)) (goodIn_sub (fun _ h => List.mem_cons_of_mem _ (List.mem_append_right _ h)) (by decide +kernel))
set_option maxRecDepth 20000 in
theorem gX3_about_X3_requireKind : GoodIn wsX3_about (wsV RX3 123 RX3 yX3_requireKind wsX3_requireKind) := goodIn_app (goodIn_of _ (by decide +kernel)) ggX3_about_X3_requireKind
theorem dX3_about_0 : decode cX3_about 0 = .ok (.aload_n 0, 1) := by decide +kernel
theorem dX3_about_1 : decode cX3_about 1 = .ok (.iload_n 1, 1) := by decide +kernel
theorem dX3_about_2 : decode cX3_about 2 = .ok (.invokevirtual 85, 3) := by decide +kernel
theorem dX3_about_5 : decode cX3_about 5 = .ok (.astore_n 3, 1) := by decide +kernel
theorem dX3_about_6 : decode cX3_about 6 = .ok (.aload_n 0, 1) := by decide +kernel
theorem dX3_about_7 : decode cX3_about 7 = .ok (.iload_n 2, 1) := by decide +kernel
theorem dX3_about_8 : decode cX3_about 8 = .ok (.iconst 5, 1) := by decide +kernel
theorem dX3_about_9 : decode cX3_about 9 = .ok (.invokevirtual 123, 3) := by decide +kernel
theorem dX3_about_12 : decode cX3_about 12 = .ok (.aload_n 0, 1) := by decide +kernel
theorem dX3_about_13 : decode cX3_about 13 = .ok (.getfield 19, 3) := by decide +kernel
theorem dX3_about_16 : decode cX3_about 16 = .ok (.getfield 147, 3) := by decide +kernel
theorem dX3_about_19 : decode cX3_about 19 = .ok (.ifCond .ne 5, 3) := by decide +kernel
theorem dX3_about_22 : decode cX3_about 22 = .ok (.iconst (-1), 1) := by decide +kernel
theorem dX3_about_23 : decode cX3_about 23 = .ok (.ireturn, 1) := by decide +kernel
theorem dX3_about_24 : decode cX3_about 24 = .ok (.iload_n 2, 1) := by decide +kernel
theorem dX3_about_25 : decode cX3_about 25 = .ok (.tableswitch 51 0 3 #[31, 36, 41, 46], 31) := by decide +kernel
theorem dX3_about_56 : decode cX3_about 56 = .ok (.aload_n 3, 1) := by decide +kernel
theorem dX3_about_57 : decode cX3_about 57 = .ok (.getfield 150, 3) := by decide +kernel
theorem dX3_about_60 : decode cX3_about 60 = .ok (.ireturn, 1) := by decide +kernel
theorem dX3_about_61 : decode cX3_about 61 = .ok (.aload_n 3, 1) := by decide +kernel
theorem dX3_about_62 : decode cX3_about 62 = .ok (.getfield 153, 3) := by decide +kernel
theorem dX3_about_65 : decode cX3_about 65 = .ok (.ireturn, 1) := by decide +kernel
theorem dX3_about_66 : decode cX3_about 66 = .ok (.aload_n 3, 1) := by decide +kernel
theorem dX3_about_67 : decode cX3_about 67 = .ok (.getfield 156, 3) := by decide +kernel
theorem dX3_about_70 : decode cX3_about 70 = .ok (.ireturn, 1) := by decide +kernel
theorem dX3_about_71 : decode cX3_about 71 = .ok (.aload_n 3, 1) := by decide +kernel
theorem dX3_about_72 : decode cX3_about 72 = .ok (.getfield 159, 3) := by decide +kernel
theorem dX3_about_75 : decode cX3_about 75 = .ok (.ireturn, 1) := by decide +kernel
theorem dX3_about_76 : decode cX3_about 76 = .ok (.aload_n 3, 1) := by decide +kernel
theorem dX3_about_77 : decode cX3_about 77 = .ok (.getfield 162, 3) := by decide +kernel
theorem dX3_about_80 : decode cX3_about 80 = .ok (.ireturn, 1) := by decide +kernel
set_option maxRecDepth 20000 in
theorem ggX3_count_X3_requireKind : GoodIn wsX3_count wsX3_requireKind := goodIn_ca (goodIn_r _ [12, 13, 14] (by decide +kernel) (by decide +kernel)) (goodIn_sub (fun _ h => List.mem_cons_of_mem _ (List.mem_append_right _ h)) (by decide +kernel))
set_option maxRecDepth 20000 in
theorem gX3_count_X3_requireKind : GoodIn wsX3_count (wsV RX3 123 RX3 yX3_requireKind wsX3_requireKind) := goodIn_app (goodIn_of _ (by decide +kernel)) ggX3_count_X3_requireKind
set_option maxRecDepth 20000 in
theorem ggX3_count_X3_windNow : GoodIn wsX3_count wsX3_windNow := goodIn_r _ [18, 4, 1, 2, 19, 20, 21, 22, 23, 24, 25, 26, 27, 28, 71, 72, 73, 74, 75, 76, 77, 78, 79, 80, 81, 82] (by decide +kernel) (by decide +kernel)
set_option maxRecDepth 20000 in
theorem gX3_count_X3_windNow : GoodIn wsX3_count (wsV RX3 138 RX3 yX3_windNow wsX3_windNow) := goodIn_app (goodIn_of _ (by decide +kernel)) ggX3_count_X3_windNow
set_option maxRecDepth 20000 in
theorem ggX3_count_Jx4a65c_size_8abf5 : GoodIn wsX3_count wsJx4a65c_size_8abf5 := goodIn_r _ [33, 34, 83, 84, 85] (by decide +kernel) (by decide +kernel)
set_option maxRecDepth 20000 in
theorem gX3_count_Jx4a65c_size_8abf5 : GoodIn wsX3_count (wsV RX3 70 RJx4a65c yJx4a65c_size_8abf5 wsJx4a65c_size_8abf5) := goodIn_app (goodIn_of _ (by decide +kernel)) ggX3_count_Jx4a65c_size_8abf5
set_option maxRecDepth 20000 in
theorem ggX3_count_X1_inState : GoodIn wsX3_count wsX1_inState := goodIn_r _ [39, 40, 41, 42, 43, 30, 31, 32, 33, 34, 44, 45, 46, 47, 48, 49, 50, 51, 52, 53, 54, 55, 56, 57, 58, 59, 60, 75, 76, 77, 78, 79, 86, 87, 88, 89, 90, 91, 92, 93, 94, 95, 96, 83, 84, 85] (by decide +kernel) (by decide +kernel)
set_option maxRecDepth 20000 in
theorem gX3_count_X1_inState : GoodIn wsX3_count (wsV RX3 113 RX1 yX1_inState wsX1_inState) := goodIn_app (goodIn_of _ (by decide +kernel)) ggX3_count_X1_inState
set_option maxRecDepth 20000 in
theorem ggX3_count_X1_allPoints : GoodIn wsX3_count wsX1_allPoints := goodIn_r _ [64, 40, 41, 65, 43, 30, 31, 32, 33, 34, 44, 45, 46, 47, 48, 49, 50, 51, 52, 53, 54, 55, 56, 57, 58, 59, 60, 75, 76, 77, 78, 79, 86, 87, 88, 89, 90, 91, 92, 93, 94, 95, 96, 83, 84, 85] (by decide +kernel) (by decide +kernel)
set_option maxRecDepth 20000 in
theorem gX3_count_X1_allPoints : GoodIn wsX3_count (wsV RX3 172 RX1 yX1_allPoints wsX1_allPoints) := goodIn_app (goodIn_of _ (by decide +kernel)) ggX3_count_X1_allPoints
set_option maxRecDepth 20000 in
theorem ggX3_count_X1_allSoaked : GoodIn wsX3_count wsX1_allSoaked := goodIn_r _ [69, 40, 41, 70, 43, 30, 31, 32, 33, 34, 44, 45, 46, 47, 48, 49, 50, 51, 52, 53, 54, 55, 56, 57, 58, 59, 60, 75, 76, 77, 78, 79, 86, 87, 88, 89, 90, 91, 92, 93, 94, 95, 96, 83, 84, 85] (by decide +kernel) (by decide +kernel)
set_option maxRecDepth 20000 in
theorem gX3_count_X1_allSoaked : GoodIn wsX3_count (wsV RX3 175 RX1 yX1_allSoaked wsX1_allSoaked) := goodIn_app (goodIn_of _ (by decide +kernel)) ggX3_count_X1_allSoaked
theorem dX3_count_0 : decode cX3_count 0 = .ok (.aload_n 0, 1) := by decide +kernel
theorem dX3_count_1 : decode cX3_count 1 = .ok (.iload_n 1, 1) := by decide +kernel
theorem dX3_count_2 : decode cX3_count 2 = .ok (.bipush 9, 2) := by decide +kernel
theorem dX3_count_4 : decode cX3_count 4 = .ok (.invokevirtual 123, 3) := by decide +kernel
theorem dX3_count_7 : decode cX3_count 7 = .ok (.iload_n 1, 1) := by decide +kernel
theorem dX3_count_8 : decode cX3_count 8 = .ok (.tableswitch 136 0 7 #[48, 56, 61, 72, 81, 89, 105, 128], 48) := by decide +kernel
theorem dX3_count_56 : decode cX3_count 56 = .ok (.aload_n 0, 1) := by decide +kernel
theorem dX3_count_57 : decode cX3_count 57 = .ok (.getfield 19, 3) := by decide +kernel
theorem dX3_count_60 : decode cX3_count 60 = .ok (.getfield 165, 3) := by decide +kernel
theorem dX3_count_63 : decode cX3_count 63 = .ok (.ireturn, 1) := by decide +kernel
theorem dX3_count_64 : decode cX3_count 64 = .ok (.aload_n 0, 1) := by decide +kernel
theorem dX3_count_65 : decode cX3_count 65 = .ok (.invokevirtual 138, 3) := by decide +kernel
theorem dX3_count_68 : decode cX3_count 68 = .ok (.ireturn, 1) := by decide +kernel
theorem dX3_count_69 : decode cX3_count 69 = .ok (.aload_n 0, 1) := by decide +kernel
theorem dX3_count_70 : decode cX3_count 70 = .ok (.getfield 19, 3) := by decide +kernel
theorem dX3_count_73 : decode cX3_count 73 = .ok (.getfield 66, 3) := by decide +kernel
theorem dX3_count_76 : decode cX3_count 76 = .ok (.invokevirtual 70, 3) := by decide +kernel
theorem dX3_count_79 : decode cX3_count 79 = .ok (.ireturn, 1) := by decide +kernel
theorem dX3_count_80 : decode cX3_count 80 = .ok (.aload_n 0, 1) := by decide +kernel
theorem dX3_count_81 : decode cX3_count 81 = .ok (.getfield 10, 3) := by decide +kernel
theorem dX3_count_84 : decode cX3_count 84 = .ok (.getfield 96, 3) := by decide +kernel
theorem dX3_count_87 : decode cX3_count 87 = .ok (.arraylength, 1) := by decide +kernel
theorem dX3_count_88 : decode cX3_count 88 = .ok (.ireturn, 1) := by decide +kernel
theorem dX3_count_89 : decode cX3_count 89 = .ok (.aload_n 0, 1) := by decide +kernel
theorem dX3_count_90 : decode cX3_count 90 = .ok (.getfield 19, 3) := by decide +kernel
theorem dX3_count_93 : decode cX3_count 93 = .ok (.getfield 147, 3) := by decide +kernel
theorem dX3_count_96 : decode cX3_count 96 = .ok (.ireturn, 1) := by decide +kernel
theorem dX3_count_97 : decode cX3_count 97 = .ok (.aload_n 0, 1) := by decide +kernel
theorem dX3_count_98 : decode cX3_count 98 = .ok (.getfield 19, 3) := by decide +kernel
theorem dX3_count_101 : decode cX3_count 101 = .ok (.getfield 168, 3) := by decide +kernel
theorem dX3_count_104 : decode cX3_count 104 = .ok (.ifCond .eq 7, 3) := by decide +kernel
theorem dX3_count_107 : decode cX3_count 107 = .ok (.iconst 1, 1) := by decide +kernel
theorem dX3_count_108 : decode cX3_count 108 = .ok (.goto 4, 3) := by decide +kernel
theorem dX3_count_111 : decode cX3_count 111 = .ok (.iconst 0, 1) := by decide +kernel
theorem dX3_count_112 : decode cX3_count 112 = .ok (.ireturn, 1) := by decide +kernel
theorem dX3_count_113 : decode cX3_count 113 = .ok (.aload_n 0, 1) := by decide +kernel
theorem dX3_count_114 : decode cX3_count 114 = .ok (.getfield 19, 3) := by decide +kernel
theorem dX3_count_117 : decode cX3_count 117 = .ok (.getfield 168, 3) := by decide +kernel
theorem dX3_count_120 : decode cX3_count 120 = .ok (.ifCond .eq 14, 3) := by decide +kernel
theorem dX3_count_123 : decode cX3_count 123 = .ok (.aload_n 0, 1) := by decide +kernel
theorem dX3_count_124 : decode cX3_count 124 = .ok (.getfield 19, 3) := by decide +kernel
theorem dX3_count_127 : decode cX3_count 127 = .ok (.iconst 1, 1) := by decide +kernel
theorem dX3_count_128 : decode cX3_count 128 = .ok (.invokevirtual 113, 3) := by decide +kernel
theorem dX3_count_131 : decode cX3_count 131 = .ok (.goto 4, 3) := by decide +kernel
theorem dX3_count_134 : decode cX3_count 134 = .ok (.iconst 0, 1) := by decide +kernel
theorem dX3_count_135 : decode cX3_count 135 = .ok (.ireturn, 1) := by decide +kernel
theorem dX3_count_136 : decode cX3_count 136 = .ok (.aload_n 0, 1) := by decide +kernel
theorem dX3_count_137 : decode cX3_count 137 = .ok (.getfield 19, 3) := by decide +kernel
theorem dX3_count_140 : decode cX3_count 140 = .ok (.invokevirtual 172, 3) := by decide +kernel
theorem dX3_count_143 : decode cX3_count 143 = .ok (.ireturn, 1) := by decide +kernel
theorem dX3_count_144 : decode cX3_count 144 = .ok (.aload_n 0, 1) := by decide +kernel
theorem dX3_count_145 : decode cX3_count 145 = .ok (.getfield 19, 3) := by decide +kernel
theorem dX3_count_148 : decode cX3_count 148 = .ok (.invokevirtual 175, 3) := by decide +kernel
theorem dX3_count_151 : decode cX3_count 151 = .ok (.ireturn, 1) := by decide +kernel
set_option maxRecDepth 20000 in
theorem ggX3_ahead_X1_farthest : GoodIn wsX3_ahead wsX1_farthest := goodIn_r _ [7, 8, 9, 10, 11, 12, 13, 14, 15, 16, 17, 18, 19, 20, 21, 22, 23, 24, 25, 26, 27, 28, 29, 30, 31, 32, 33, 34, 39, 40, 41, 42, 43, 44, 45, 46, 47, 48, 49, 50, 51, 52, 53, 54, 55, 56, 57] (by decide +kernel) (by decide +kernel)
set_option maxRecDepth 20000 in
theorem gX3_ahead_X1_farthest : GoodIn wsX3_ahead (wsV RX3 178 RX1 yX1_farthest wsX1_farthest) := goodIn_app (goodIn_of _ (by decide +kernel)) ggX3_ahead_X1_farthest
theorem dX3_ahead_0 : decode cX3_ahead 0 = .ok (.aload_n 0, 1) := by decide +kernel
theorem dX3_ahead_1 : decode cX3_ahead 1 = .ok (.getfield 19, 3) := by decide +kernel
theorem dX3_ahead_4 : decode cX3_ahead 4 = .ok (.getfield 168, 3) := by decide +kernel
theorem dX3_ahead_7 : decode cX3_ahead 7 = .ok (.ifCond .eq 13, 3) := by decide +kernel
theorem dX3_ahead_10 : decode cX3_ahead 10 = .ok (.aload_n 0, 1) := by decide +kernel
theorem dX3_ahead_11 : decode cX3_ahead 11 = .ok (.getfield 19, 3) := by decide +kernel
theorem dX3_ahead_14 : decode cX3_ahead 14 = .ok (.invokevirtual 178, 3) := by decide +kernel
theorem dX3_ahead_17 : decode cX3_ahead 17 = .ok (.goto 4, 3) := by decide +kernel
theorem dX3_ahead_20 : decode cX3_ahead 20 = .ok (.iconst (-1), 1) := by decide +kernel
theorem dX3_ahead_21 : decode cX3_ahead 21 = .ok (.ireturn, 1) := by decide +kernel
set_option maxRecDepth 20000 in
theorem ggX3_champion_X1_best : GoodIn wsX3_champion wsX1_best := goodIn_r _ [6, 7, 8, 9, 10, 11, 12, 13, 14, 15, 16, 17, 18, 19, 20, 21, 22, 23, 24, 25, 26, 27, 28, 29, 30, 31, 32, 33, 38, 39, 40, 41, 42, 43, 44, 45, 46, 47, 48, 49, 50, 51, 52, 53, 54, 55, 56] (by decide +kernel) (by decide +kernel)
set_option maxRecDepth 20000 in
theorem gX3_champion_X1_best : GoodIn wsX3_champion (wsV RX3 181 RX1 yX1_best wsX1_best) := goodIn_app (goodIn_of _ (by decide +kernel)) ggX3_champion_X1_best
theorem dX3_champion_0 : decode cX3_champion 0 = .ok (.aload_n 0, 1) := by decide +kernel
theorem dX3_champion_1 : decode cX3_champion 1 = .ok (.getfield 19, 3) := by decide +kernel
theorem dX3_champion_4 : decode cX3_champion 4 = .ok (.invokevirtual 181, 3) := by decide +kernel
theorem dX3_champion_7 : decode cX3_champion 7 = .ok (.ireturn, 1) := by decide +kernel
set_option maxRecDepth 20000 in
theorem ggX3_falls_X3_boatAt : GoodIn wsX3_falls wsX3_boatAt := goodIn_ca (goodIn_r _ [5, 6, 7, 8, 9, 10, 11, 4, 12, 13, 14, 15, 16, 17, 18, 19, 20, 21, 22, 23, 24, 25, 26, 27, 28, 29, 30, 31, 32, 33, 34, 35, 36, 37, 60, 61, 62, 63, 64, 65, 66, 67, 68, 69, 70, 71] (by decide +kernel) (by decide +kernel)) (goodIn_sub (fun _ h => List.mem_cons_of_mem _ (List.mem_append_left _ (List.mem_append_right _ h))) (by decide +kernel))
set_option maxRecDepth 20000 in
theorem gX3_falls_X3_boatAt : GoodIn wsX3_falls (wsV RX3 85 RX3 yX3_boatAt wsX3_boatAt) := goodIn_app (goodIn_of _ (by decide +kernel)) ggX3_falls_X3_boatAt
set_option maxRecDepth 20000 in
theorem ggX3_falls_X3_requireWind : GoodIn wsX3_falls wsX3_requireWind := goodIn_ca (goodIn_r _ [41, 42, 43] (by decide +kernel) (by decide +kernel)) (goodIn_sub (fun _ h => List.mem_cons_of_mem _ (List.mem_append_right _ h)) (by decide +kernel))
set_option maxRecDepth 20000 in
theorem gX3_falls_X3_requireWind : GoodIn wsX3_falls (wsV RX3 54 RX3 yX3_requireWind wsX3_requireWind) := goodIn_app (goodIn_of _ (by decide +kernel)) ggX3_falls_X3_requireWind
set_option maxRecDepth 20000 in
theorem ggX3_falls_X0_heel : GoodIn wsX3_falls wsX0_heel := goodIn_r _ [48, 49, 50, 51, 52, 53, 54, 55, 56, 57, 47, 58, 59, 72, 73, 74, 75, 76, 77, 78, 79, 80, 81, 82] (by decide +kernel) (by decide +kernel)
set_option maxRecDepth 20000 in
theorem gX3_falls_X0_heel : GoodIn wsX3_falls (wsV RX3 141 RX0 yX0_heel wsX0_heel) := goodIn_app (goodIn_of _ (by decide +kernel)) ggX3_falls_X0_heel
theorem dX3_falls_0 : decode cX3_falls 0 = .ok (.aload_n 0, 1) := by decide +kernel
theorem dX3_falls_1 : decode cX3_falls 1 = .ok (.iload_n 1, 1) := by decide +kernel
theorem dX3_falls_2 : decode cX3_falls 2 = .ok (.invokevirtual 85, 3) := by decide +kernel
theorem dX3_falls_5 : decode cX3_falls 5 = .ok (.astore_n 3, 1) := by decide +kernel
theorem dX3_falls_6 : decode cX3_falls 6 = .ok (.aload_n 0, 1) := by decide +kernel
theorem dX3_falls_7 : decode cX3_falls 7 = .ok (.iload_n 2, 1) := by decide +kernel
theorem dX3_falls_8 : decode cX3_falls 8 = .ok (.invokevirtual 54, 3) := by decide +kernel
theorem dX3_falls_11 : decode cX3_falls 11 = .ok (.aload_n 3, 1) := by decide +kernel
theorem dX3_falls_12 : decode cX3_falls 12 = .ok (.iload_n 2, 1) := by decide +kernel
theorem dX3_falls_13 : decode cX3_falls 13 = .ok (.invokevirtual 141, 3) := by decide +kernel
theorem dX3_falls_16 : decode cX3_falls 16 = .ok (.bipush 30, 2) := by decide +kernel
theorem dX3_falls_18 : decode cX3_falls 18 = .ok (.if_icmp .le 7, 3) := by decide +kernel
theorem dX3_falls_21 : decode cX3_falls 21 = .ok (.iconst 1, 1) := by decide +kernel
theorem dX3_falls_22 : decode cX3_falls 22 = .ok (.goto 4, 3) := by decide +kernel
theorem dX3_falls_25 : decode cX3_falls 25 = .ok (.iconst 0, 1) := by decide +kernel
theorem dX3_falls_26 : decode cX3_falls 26 = .ok (.ireturn, 1) := by decide +kernel
set_option maxRecDepth 20000 in
theorem ggX3_when_X3_requireBoat : GoodIn wsX3_when wsX3_requireBoat := goodIn_ca (goodIn_r _ [9, 10, 11, 1, 12, 13, 14, 15, 16, 17, 18, 175, 176, 177, 178, 179, 180, 181, 182, 183, 184, 185, 186] (by decide +kernel) (by decide +kernel)) (goodIn_sub (fun _ h => List.mem_cons_of_mem _ (List.mem_append_right _ h)) (by decide +kernel))
set_option maxRecDepth 20000 in
theorem gX3_when_X3_requireBoat : GoodIn wsX3_when (wsV RX3 184 RX3 yX3_requireBoat wsX3_requireBoat) := goodIn_app (goodIn_of _ (by decide +kernel)) ggX3_when_X3_requireBoat
set_option maxRecDepth 20000 in
theorem ggX3_when_X1_copyFrom : GoodIn wsX3_when wsX1_copyFrom := goodIn_r _ [23, 24, 25, 26, 27, 28, 29, 30, 14, 15, 16, 17, 18, 31, 32, 33, 34, 35, 36, 37, 38, 39, 40, 41, 42, 43, 44, 45, 46, 47, 48, 49, 50, 51, 52, 53, 54, 55, 56, 57, 58, 59, 60, 61, 62, 63, 179, 180, 181, 182, 183, 184, 185, 186, 187, 188, 189, 190, 191, 192, 193, 194, 195, 196, 197] (by decide +kernel) (by decide +kernel)
set_option maxRecDepth 20000 in
theorem gX3_when_X1_copyFrom : GoodIn wsX3_when (wsV RX3 187 RX1 yX1_copyFrom wsX1_copyFrom) := goodIn_app (goodIn_of _ (by decide +kernel)) ggX3_when_X1_copyFrom
set_option maxRecDepth 20000 in
theorem ggX3_when_X1_finish : GoodIn wsX3_when wsX1_finish := goodIn_r _ [67, 28, 68, 69, 70, 22, 71, 26, 29, 72, 73, 74, 75, 24, 25, 76, 77, 78, 79, 80, 81, 82, 83, 84, 85, 86, 30, 14, 15, 16, 17, 18, 31, 32, 33, 34, 35, 36, 37, 38, 39, 40, 41, 42, 43, 44, 45, 46, 47, 87, 88, 89, 51, 90, 63, 62, 61, 58, 91, 92, 93, 94, 55, 53, 95, 96, 97, 98, 99, 100, 101, 102, 54, 103, 104, 105, 106, 57, 107, 108, 109, 110, 111, 112, 113, 114, 115, 116, 117, 118, 119, 120, 121, 122, 123, 124, 125, 126, 127, 128, 129, 130, 131, 132, 133, 134, 135, 136, 137, 138, 139, 59, 140, 141, 142, 143, 144, 145, 146, 147, 148, 149, 150, 151, 152, 153, 154, 155, 156, 157, 158, 159, 160, 161, 162, 163, 164, 165, 60, 166, 167, 168, 169, 179, 180, 181, 182, 183, 198, 199, 200, 184, 185, 186, 187, 188, 189, 190, 191, 192, 193, 194, 195, 196, 197] (by decide +kernel) (by decide +kernel)
set_option maxRecDepth 20000 in
theorem gX3_when_X1_finish : GoodIn wsX3_when (wsV RX3 191 RX1 yX1_finish wsX1_finish) := goodIn_app (goodIn_of _ (by decide +kernel)) ggX3_when_X1_finish
set_option maxRecDepth 20000 in
theorem ggX3_when_X1_timeOf : GoodIn wsX3_when wsX1_timeOf := goodIn_r _ [173, 24, 25, 174, 30, 14, 15, 16, 17, 18, 31, 32, 33, 34, 35, 36, 37, 38, 39, 40, 41, 42, 43, 44, 45, 46, 47, 179, 180, 181, 182, 183, 187, 188, 189, 190, 191, 192, 193, 194, 195, 196, 197, 184, 185, 186] (by decide +kernel) (by decide +kernel)
set_option maxRecDepth 20000 in
theorem gX3_when_X1_timeOf : GoodIn wsX3_when (wsV RX3 195 RX1 yX1_timeOf wsX1_timeOf) := goodIn_app (goodIn_of _ (by decide +kernel)) ggX3_when_X1_timeOf
theorem dX3_when_0 : decode cX3_when 0 = .ok (.aload_n 0, 1) := by decide +kernel
theorem dX3_when_1 : decode cX3_when 1 = .ok (.iload_n 1, 1) := by decide +kernel
theorem dX3_when_2 : decode cX3_when 2 = .ok (.invokevirtual 184, 3) := by decide +kernel
theorem dX3_when_5 : decode cX3_when 5 = .ok (.aload_n 0, 1) := by decide +kernel
theorem dX3_when_6 : decode cX3_when 6 = .ok (.getfield 19, 3) := by decide +kernel
theorem dX3_when_9 : decode cX3_when 9 = .ok (.getfield 168, 3) := by decide +kernel
theorem dX3_when_12 : decode cX3_when 12 = .ok (.ifCond .ne 5, 3) := by decide +kernel
theorem dX3_when_15 : decode cX3_when 15 = .ok (.iconst (-1), 1) := by decide +kernel
theorem dX3_when_16 : decode cX3_when 16 = .ok (.ireturn, 1) := by decide +kernel
theorem dX3_when_17 : decode cX3_when 17 = .ok (.aload_n 0, 1) := by decide +kernel
theorem dX3_when_18 : decode cX3_when 18 = .ok (.getfield 23, 3) := by decide +kernel
theorem dX3_when_21 : decode cX3_when 21 = .ok (.aload_n 0, 1) := by decide +kernel
theorem dX3_when_22 : decode cX3_when 22 = .ok (.getfield 19, 3) := by decide +kernel
theorem dX3_when_25 : decode cX3_when 25 = .ok (.invokevirtual 187, 3) := by decide +kernel
theorem dX3_when_28 : decode cX3_when 28 = .ok (.aload_n 0, 1) := by decide +kernel
theorem dX3_when_29 : decode cX3_when 29 = .ok (.getfield 23, 3) := by decide +kernel
theorem dX3_when_32 : decode cX3_when 32 = .ok (.aload_n 0, 1) := by decide +kernel
theorem dX3_when_33 : decode cX3_when 33 = .ok (.getfield 10, 3) := by decide +kernel
theorem dX3_when_36 : decode cX3_when 36 = .ok (.invokevirtual 191, 3) := by decide +kernel
theorem dX3_when_39 : decode cX3_when 39 = .ok (.aload_n 0, 1) := by decide +kernel
theorem dX3_when_40 : decode cX3_when 40 = .ok (.getfield 23, 3) := by decide +kernel
theorem dX3_when_43 : decode cX3_when 43 = .ok (.iload_n 1, 1) := by decide +kernel
theorem dX3_when_44 : decode cX3_when 44 = .ok (.invokevirtual 195, 3) := by decide +kernel
theorem dX3_when_47 : decode cX3_when 47 = .ok (.ireturn, 1) := by decide +kernel
set_option maxRecDepth 20000 in
theorem ggX3_mean_Jx4a65c_size_8abf5 : GoodIn wsX3_mean wsJx4a65c_size_8abf5 := goodIn_r _ [7, 8, 44, 45, 46] (by decide +kernel) (by decide +kernel)
set_option maxRecDepth 20000 in
theorem gX3_mean_Jx4a65c_size_8abf5 : GoodIn wsX3_mean (wsV RX3 70 RJx4a65c yJx4a65c_size_8abf5 wsJx4a65c_size_8abf5) := goodIn_app (goodIn_of _ (by decide +kernel)) ggX3_mean_Jx4a65c_size_8abf5
set_option maxRecDepth 20000 in
theorem ggX3_mean_X1_allLead : GoodIn wsX3_mean wsX1_allLead := goodIn_r _ [13, 14, 15, 16, 17, 4, 5, 6, 7, 8, 18, 19, 20, 21, 22, 23, 24, 25, 26, 27, 28, 29, 30, 31, 32, 33, 34, 39, 40, 41, 42, 43, 47, 48, 49, 50, 51, 52, 53, 54, 55, 56, 57, 44, 45, 46] (by decide +kernel) (by decide +kernel)
set_option maxRecDepth 20000 in
theorem gX3_mean_X1_allLead : GoodIn wsX3_mean (wsV RX3 205 RX1 yX1_allLead wsX1_allLead) := goodIn_app (goodIn_of _ (by decide +kernel)) ggX3_mean_X1_allLead
theorem dX3_mean_0 : decode cX3_mean 0 = .ok (.aload_n 0, 1) := by decide +kernel
theorem dX3_mean_1 : decode cX3_mean 1 = .ok (.getfield 19, 3) := by decide +kernel
theorem dX3_mean_4 : decode cX3_mean 4 = .ok (.getfield 66, 3) := by decide +kernel
theorem dX3_mean_7 : decode cX3_mean 7 = .ok (.invokevirtual 70, 3) := by decide +kernel
theorem dX3_mean_10 : decode cX3_mean 10 = .ok (.istore_n 1, 1) := by decide +kernel
theorem dX3_mean_11 : decode cX3_mean 11 = .ok (.iload_n 1, 1) := by decide +kernel
theorem dX3_mean_12 : decode cX3_mean 12 = .ok (.ifCond .ne 5, 3) := by decide +kernel
theorem dX3_mean_15 : decode cX3_mean 15 = .ok (.dconst 0, 1) := by decide +kernel
theorem dX3_mean_16 : decode cX3_mean 16 = .ok (.dreturn, 1) := by decide +kernel
theorem dX3_mean_17 : decode cX3_mean 17 = .ok (.aload_n 0, 1) := by decide +kernel
theorem dX3_mean_18 : decode cX3_mean 18 = .ok (.getfield 19, 3) := by decide +kernel
theorem dX3_mean_21 : decode cX3_mean 21 = .ok (.invokevirtual 205, 3) := by decide +kernel
theorem dX3_mean_24 : decode cX3_mean 24 = .ok (.i2d, 1) := by decide +kernel
theorem dX3_mean_25 : decode cX3_mean 25 = .ok (.iload_n 1, 1) := by decide +kernel
theorem dX3_mean_26 : decode cX3_mean 26 = .ok (.i2d, 1) := by decide +kernel
theorem dX3_mean_27 : decode cX3_mean 27 = .ok (.ddiv, 1) := by decide +kernel
theorem dX3_mean_28 : decode cX3_mean 28 = .ok (.dreturn, 1) := by decide +kernel
theorem dX3_requireNoRace_0 : decode cX3_requireNoRace 0 = .ok (.aload_n 0, 1) := by decide +kernel
theorem dX3_requireNoRace_1 : decode cX3_requireNoRace 1 = .ok (.getfield 19, 3) := by decide +kernel
theorem dX3_requireNoRace_4 : decode cX3_requireNoRace 4 = .ok (.getfield 168, 3) := by decide +kernel
theorem dX3_requireNoRace_7 : decode cX3_requireNoRace 7 = .ok (.ifCond .eq 13, 3) := by decide +kernel
theorem dX3_requireNoRace_10 : decode cX3_requireNoRace 10 = .ok (.new 76, 3) := by decide +kernel
theorem dX3_requireNoRace_13 : decode cX3_requireNoRace 13 = .ok (.dup, 1) := by decide +kernel
theorem dX3_requireNoRace_14 : decode cX3_requireNoRace 14 = .ok (.ldc 224, 2) := by decide +kernel
theorem dX3_requireNoRace_16 : decode cX3_requireNoRace 16 = .ok (.invokespecial 80, 3) := by decide +kernel
theorem dX3_requireNoRace_19 : decode cX3_requireNoRace 19 = .ok (.athrow, 1) := by decide +kernel
theorem dX3_requireNoRace_20 : decode cX3_requireNoRace 20 = .ok (.return_, 1) := by decide +kernel
theorem dX3_requireWind_0 : decode cX3_requireWind 0 = .ok (.iload_n 1, 1) := by decide +kernel
theorem dX3_requireWind_1 : decode cX3_requireWind 1 = .ok (.ifCond .lt 9, 3) := by decide +kernel
theorem dX3_requireWind_4 : decode cX3_requireWind 4 = .ok (.iload_n 1, 1) := by decide +kernel
theorem dX3_requireWind_5 : decode cX3_requireWind 5 = .ok (.bipush 9, 2) := by decide +kernel
theorem dX3_requireWind_7 : decode cX3_requireWind 7 = .ok (.if_icmp .le 13, 3) := by decide +kernel
theorem dX3_requireWind_10 : decode cX3_requireWind 10 = .ok (.new 35, 3) := by decide +kernel
theorem dX3_requireWind_13 : decode cX3_requireWind 13 = .ok (.dup, 1) := by decide +kernel
theorem dX3_requireWind_14 : decode cX3_requireWind 14 = .ok (.ldc 226, 2) := by decide +kernel
theorem dX3_requireWind_16 : decode cX3_requireWind 16 = .ok (.invokespecial 39, 3) := by decide +kernel
theorem dX3_requireWind_19 : decode cX3_requireWind 19 = .ok (.athrow, 1) := by decide +kernel
theorem dX3_requireWind_20 : decode cX3_requireWind 20 = .ok (.return_, 1) := by decide +kernel
theorem dX3_requireKind_0 : decode cX3_requireKind 0 = .ok (.iload_n 1, 1) := by decide +kernel
theorem dX3_requireKind_1 : decode cX3_requireKind 1 = .ok (.ifCond .lt 8, 3) := by decide +kernel
theorem dX3_requireKind_4 : decode cX3_requireKind 4 = .ok (.iload_n 1, 1) := by decide +kernel
theorem dX3_requireKind_5 : decode cX3_requireKind 5 = .ok (.iload_n 2, 1) := by decide +kernel
theorem dX3_requireKind_6 : decode cX3_requireKind 6 = .ok (.if_icmp .lt 13, 3) := by decide +kernel
theorem dX3_requireKind_9 : decode cX3_requireKind 9 = .ok (.new 49, 3) := by decide +kernel
theorem dX3_requireKind_12 : decode cX3_requireKind 12 = .ok (.dup, 1) := by decide +kernel
theorem dX3_requireKind_13 : decode cX3_requireKind 13 = .ok (.ldc 228, 2) := by decide +kernel
theorem dX3_requireKind_15 : decode cX3_requireKind 15 = .ok (.invokespecial 53, 3) := by decide +kernel
theorem dX3_requireKind_18 : decode cX3_requireKind 18 = .ok (.athrow, 1) := by decide +kernel
theorem dX3_requireKind_19 : decode cX3_requireKind 19 = .ok (.return_, 1) := by decide +kernel
set_option maxRecDepth 20000 in
theorem ggX3_requireBoat_Jx4a65c_size_8abf5 : GoodIn wsX3_requireBoat wsJx4a65c_size_8abf5 := goodIn_r _ [9, 10, 20, 21, 22] (by decide +kernel) (by decide +kernel)
set_option maxRecDepth 20000 in
theorem gX3_requireBoat_Jx4a65c_size_8abf5 : GoodIn wsX3_requireBoat (wsV RX3 70 RJx4a65c yJx4a65c_size_8abf5 wsJx4a65c_size_8abf5) := goodIn_app (goodIn_of _ (by decide +kernel)) ggX3_requireBoat_Jx4a65c_size_8abf5
theorem dX3_requireBoat_0 : decode cX3_requireBoat 0 = .ok (.iload_n 1, 1) := by decide +kernel
theorem dX3_requireBoat_1 : decode cX3_requireBoat 1 = .ok (.ifCond .lt 17, 3) := by decide +kernel
theorem dX3_requireBoat_4 : decode cX3_requireBoat 4 = .ok (.iload_n 1, 1) := by decide +kernel
theorem dX3_requireBoat_5 : decode cX3_requireBoat 5 = .ok (.aload_n 0, 1) := by decide +kernel
theorem dX3_requireBoat_6 : decode cX3_requireBoat 6 = .ok (.getfield 19, 3) := by decide +kernel
theorem dX3_requireBoat_9 : decode cX3_requireBoat 9 = .ok (.getfield 66, 3) := by decide +kernel
theorem dX3_requireBoat_12 : decode cX3_requireBoat 12 = .ok (.invokevirtual 70, 3) := by decide +kernel
theorem dX3_requireBoat_15 : decode cX3_requireBoat 15 = .ok (.if_icmp .lt 13, 3) := by decide +kernel
theorem dX3_requireBoat_18 : decode cX3_requireBoat 18 = .ok (.new 49, 3) := by decide +kernel
theorem dX3_requireBoat_21 : decode cX3_requireBoat 21 = .ok (.dup, 1) := by decide +kernel
theorem dX3_requireBoat_22 : decode cX3_requireBoat 22 = .ok (.ldc 230, 2) := by decide +kernel
theorem dX3_requireBoat_24 : decode cX3_requireBoat 24 = .ok (.invokespecial 53, 3) := by decide +kernel
theorem dX3_requireBoat_27 : decode cX3_requireBoat 27 = .ok (.athrow, 1) := by decide +kernel
theorem dX3_requireBoat_28 : decode cX3_requireBoat 28 = .ok (.return_, 1) := by decide +kernel
set_option maxRecDepth 20000 in
theorem ggX3_boatAt_X3_requireBoat : GoodIn wsX3_boatAt wsX3_requireBoat := goodIn_ca (goodIn_r _ [8, 9, 10, 1, 2, 11, 12, 13, 14, 15, 16, 34, 35, 36, 37, 38, 39, 40, 41, 42, 43, 44, 45] (by decide +kernel) (by decide +kernel)) (goodIn_sub (fun _ h => List.mem_cons_of_mem _ (List.mem_append_right _ h)) (by decide +kernel))
set_option maxRecDepth 20000 in
theorem gX3_boatAt_X3_requireBoat : GoodIn wsX3_boatAt (wsV RX3 184 RX3 yX3_requireBoat wsX3_requireBoat) := goodIn_app (goodIn_of _ (by decide +kernel)) ggX3_boatAt_X3_requireBoat
set_option maxRecDepth 20000 in
theorem ggX3_boatAt_Jx4a65c_get_915e3 : GoodIn wsX3_boatAt wsJx4a65c_get_915e3 := goodIn_r _ [20, 16, 21, 22, 23, 24, 25, 26, 27, 28, 29, 30, 31, 14, 32, 33, 43, 44, 45] (by decide +kernel) (by decide +kernel)
set_option maxRecDepth 20000 in
theorem gX3_boatAt_Jx4a65c_get_915e3 : GoodIn wsX3_boatAt (wsV RX3 232 RJx4a65c yJx4a65c_get_915e3 wsJx4a65c_get_915e3) := goodIn_app (goodIn_of _ (by decide +kernel)) ggX3_boatAt_Jx4a65c_get_915e3
theorem dX3_boatAt_0 : decode cX3_boatAt 0 = .ok (.aload_n 0, 1) := by decide +kernel
theorem dX3_boatAt_1 : decode cX3_boatAt 1 = .ok (.iload_n 1, 1) := by decide +kernel
theorem dX3_boatAt_2 : decode cX3_boatAt 2 = .ok (.invokevirtual 184, 3) := by decide +kernel
theorem dX3_boatAt_5 : decode cX3_boatAt 5 = .ok (.aload_n 0, 1) := by decide +kernel
theorem dX3_boatAt_6 : decode cX3_boatAt 6 = .ok (.getfield 19, 3) := by decide +kernel
theorem dX3_boatAt_9 : decode cX3_boatAt 9 = .ok (.getfield 66, 3) := by decide +kernel
theorem dX3_boatAt_12 : decode cX3_boatAt 12 = .ok (.iload_n 1, 1) := by decide +kernel
theorem dX3_boatAt_13 : decode cX3_boatAt 13 = .ok (.invokevirtual 232, 3) := by decide +kernel
theorem dX3_boatAt_16 : decode cX3_boatAt 16 = .ok (.checkcast 26, 3) := by decide +kernel
theorem dX3_boatAt_19 : decode cX3_boatAt 19 = .ok (.areturn, 1) := by decide +kernel
set_option maxRecDepth 20000 in
theorem ggX3_windNow_X2_windOf : GoodIn wsX3_windNow wsX2_windOf := goodIn_r _ [8, 9, 10, 11, 12, 13, 23, 24, 25] (by decide +kernel) (by decide +kernel)
set_option maxRecDepth 20000 in
theorem gX3_windNow_X2_windOf : GoodIn wsX3_windNow (wsV RX3 236 RX2 yX2_windOf wsX2_windOf) := goodIn_app (goodIn_of _ (by decide +kernel)) ggX3_windNow_X2_windOf
theorem dX3_windNow_0 : decode cX3_windNow 0 = .ok (.aload_n 0, 1) := by decide +kernel
theorem dX3_windNow_1 : decode cX3_windNow 1 = .ok (.getfield 10, 3) := by decide +kernel
theorem dX3_windNow_4 : decode cX3_windNow 4 = .ok (.aload_n 0, 1) := by decide +kernel
theorem dX3_windNow_5 : decode cX3_windNow 5 = .ok (.getfield 19, 3) := by decide +kernel
theorem dX3_windNow_8 : decode cX3_windNow 8 = .ok (.getfield 165, 3) := by decide +kernel
theorem dX3_windNow_11 : decode cX3_windNow 11 = .ok (.invokevirtual 236, 3) := by decide +kernel
theorem dX3_windNow_14 : decode cX3_windNow 14 = .ok (.ireturn, 1) := by decide +kernel
