theorem dX6_setWater_30 : decode cX6_setWater 30 = .ok (.putfield 36, 3) := by decide +kernel
theorem dX6_setWater_33 : decode cX6_setWater 33 = .ok (.iload_n 3, 1) := by decide +kernel
theorem dX6_setWater_34 : decode cX6_setWater 34 = .ok (.ireturn, 1) := by decide +kernel
set_option maxRecDepth 20000 in
theorem ggX6_addBerth_X6_checkRange : GoodIn wsX6_addBerth wsX6_checkRange := goodIn_ca (goodIn_r _ [8, 9, 10] (by decide +kernel) (by decide +kernel)) (goodIn_sub (fun _ h => List.mem_cons_of_mem _ (List.mem_append_left _ (List.mem_append_right _ h))) (by decide +kernel))
set_option maxRecDepth 20000 in
theorem gX6_addBerth_X6_checkRange : GoodIn wsX6_addBerth (va_wsS RX6 46 yX6_checkRange wsX6_checkRange) := goodIn_app (goodIn_of _ (by decide +kernel)) ggX6_addBerth_X6_checkRange
set_option maxRecDepth 20000 in
theorem ggX6_addBerth_Jx4a65c_size_8abf5 : GoodIn wsX6_addBerth wsJx4a65c_size_8abf5 := goodIn_r _ [15, 16, 96, 97, 98] (by decide +kernel) (by decide +kernel)
set_option maxRecDepth 20000 in
theorem gX6_addBerth_Jx4a65c_size_8abf5 : GoodIn wsX6_addBerth (wsV RX6 76 RJx4a65c yJx4a65c_size_8abf5 wsJx4a65c_size_8abf5) := goodIn_app (goodIn_of _ (by decide +kernel)) ggX6_addBerth_Jx4a65c_size_8abf5
set_option maxRecDepth 20000 in
theorem ggX6_addBerth_X6_checkRoom : GoodIn wsX6_addBerth wsX6_checkRoom := goodIn_ca (goodIn_r _ [19, 20, 21] (by decide +kernel) (by decide +kernel)) (goodIn_sub (fun _ h => List.mem_cons_of_mem _ (List.mem_append_right _ h)) (by decide +kernel))
set_option maxRecDepth 20000 in
theorem gX6_addBerth_X6_checkRoom : GoodIn wsX6_addBerth (va_wsS RX6 79 yX6_checkRoom wsX6_checkRoom) := goodIn_app (goodIn_of _ (by decide +kernel)) ggX6_addBerth_X6_checkRoom
set_option maxRecDepth 20000 in
theorem ggX6_addBerth_X0_init : GoodIn wsX6_addBerth wsX0_init := goodIn_r _ [24, 25, 26, 27, 28, 29, 30, 93, 94, 95] (by decide +kernel) (by decide +kernel)
set_option maxRecDepth 20000 in
theorem gX6_addBerth_X0_init : GoodIn wsX6_addBerth (wsX0_init) := ggX6_addBerth_X0_init
set_option maxRecDepth 20000 in
theorem ggX6_addBerth_Jx4a65c_add_9ea2d : GoodIn wsX6_addBerth wsJx4a65c_add_9ea2d := goodIn_r _ [34, 35, 36, 37, 16, 38, 39, 40, 14, 41, 42, 43, 44, 45, 46, 47, 48, 49, 50, 51, 52, 53, 54, 55, 56, 57, 58, 59, 60, 61, 62, 63, 64, 65, 66, 67, 68, 69, 70, 71, 72, 73, 74, 75, 76, 77, 78, 79, 80, 81, 82, 83, 84, 96, 97, 98] (by decide +kernel) (by decide +kernel)
set_option maxRecDepth 20000 in
theorem gX6_addBerth_Jx4a65c_add_9ea2d : GoodIn wsX6_addBerth (wsV RX6 86 RJx4a65c yJx4a65c_add_9ea2d wsJx4a65c_add_9ea2d) := goodIn_app (goodIn_of _ (by decide +kernel)) ggX6_addBerth_Jx4a65c_add_9ea2d
theorem dX6_addBerth_0 : decode cX6_addBerth 0 = .ok (.iload_n 1, 1) := by decide +kernel
theorem dX6_addBerth_1 : decode cX6_addBerth 1 = .ok (.bipush 20, 2) := by decide +kernel
theorem dX6_addBerth_3 : decode cX6_addBerth 3 = .ok (.sipush 400, 3) := by decide +kernel
theorem dX6_addBerth_6 : decode cX6_addBerth 6 = .ok (.invokestatic 46, 3) := by decide +kernel
theorem dX6_addBerth_9 : decode cX6_addBerth 9 = .ok (.iload_n 2, 1) := by decide +kernel
theorem dX6_addBerth_10 : decode cX6_addBerth 10 = .ok (.sipush 300, 3) := by decide +kernel
theorem dX6_addBerth_13 : decode cX6_addBerth 13 = .ok (.sipush 2500, 3) := by decide +kernel
theorem dX6_addBerth_16 : decode cX6_addBerth 16 = .ok (.invokestatic 46, 3) := by decide +kernel
theorem dX6_addBerth_19 : decode cX6_addBerth 19 = .ok (.aload_n 0, 1) := by decide +kernel
theorem dX6_addBerth_20 : decode cX6_addBerth 20 = .ok (.getfield 19, 3) := by decide +kernel
theorem dX6_addBerth_23 : decode cX6_addBerth 23 = .ok (.invokevirtual 76, 3) := by decide +kernel
theorem dX6_addBerth_26 : decode cX6_addBerth 26 = .ok (.istore_n 3, 1) := by decide +kernel
theorem dX6_addBerth_27 : decode cX6_addBerth 27 = .ok (.iload_n 3, 1) := by decide +kernel
theorem dX6_addBerth_28 : decode cX6_addBerth 28 = .ok (.bipush 6, 2) := by decide +kernel
theorem dX6_addBerth_30 : decode cX6_addBerth 30 = .ok (.invokestatic 79, 3) := by decide +kernel
theorem dX6_addBerth_33 : decode cX6_addBerth 33 = .ok (.aload_n 0, 1) := by decide +kernel
theorem dX6_addBerth_34 : decode cX6_addBerth 34 = .ok (.getfield 19, 3) := by decide +kernel
theorem dX6_addBerth_37 : decode cX6_addBerth 37 = .ok (.new 82, 3) := by decide +kernel
theorem dX6_addBerth_40 : decode cX6_addBerth 40 = .ok (.dup, 1) := by decide +kernel
theorem dX6_addBerth_41 : decode cX6_addBerth 41 = .ok (.iload_n 3, 1) := by decide +kernel
theorem dX6_addBerth_42 : decode cX6_addBerth 42 = .ok (.iload_n 1, 1) := by decide +kernel
theorem dX6_addBerth_43 : decode cX6_addBerth 43 = .ok (.iload_n 2, 1) := by decide +kernel
theorem dX6_addBerth_44 : decode cX6_addBerth 44 = .ok (.invokespecial 84, 3) := by decide +kernel
theorem dX6_addBerth_47 : decode cX6_addBerth 47 = .ok (.invokevirtual 86, 3) := by decide +kernel
theorem dX6_addBerth_50 : decode cX6_addBerth 50 = .ok (.pop, 1) := by decide +kernel
theorem dX6_addBerth_51 : decode cX6_addBerth 51 = .ok (.iload_n 3, 1) := by decide +kernel
theorem dX6_addBerth_52 : decode cX6_addBerth 52 = .ok (.ireturn, 1) := by decide +kernel
set_option maxRecDepth 20000 in
theorem ggX6_addShip_X6_checkRange : GoodIn wsX6_addShip wsX6_checkRange := goodIn_ca (goodIn_r _ [8, 9, 10] (by decide +kernel) (by decide +kernel)) (goodIn_sub (fun _ h => List.mem_cons_of_mem _ (List.mem_append_left _ (List.mem_append_right _ h))) (by decide +kernel))
set_option maxRecDepth 20000 in
theorem gX6_addShip_X6_checkRange : GoodIn wsX6_addShip (va_wsS RX6 46 yX6_checkRange wsX6_checkRange) := goodIn_app (goodIn_of _ (by decide +kernel)) ggX6_addShip_X6_checkRange
set_option maxRecDepth 20000 in
theorem ggX6_addShip_Jx4a65c_size_8abf5 : GoodIn wsX6_addShip wsJx4a65c_size_8abf5 := goodIn_r _ [15, 16, 98, 99, 100] (by decide +kernel) (by decide +kernel)
set_option maxRecDepth 20000 in
theorem gX6_addShip_Jx4a65c_size_8abf5 : GoodIn wsX6_addShip (wsV RX6 76 RJx4a65c yJx4a65c_size_8abf5 wsJx4a65c_size_8abf5) := goodIn_app (goodIn_of _ (by decide +kernel)) ggX6_addShip_Jx4a65c_size_8abf5
set_option maxRecDepth 20000 in
theorem ggX6_addShip_X6_checkRoom : GoodIn wsX6_addShip wsX6_checkRoom := goodIn_ca (goodIn_r _ [19, 20, 21] (by decide +kernel) (by decide +kernel)) (goodIn_sub (fun _ h => List.mem_cons_of_mem _ (List.mem_append_right _ h)) (by decide +kernel))
set_option maxRecDepth 20000 in
theorem gX6_addShip_X6_checkRoom : GoodIn wsX6_addShip (va_wsS RX6 79 yX6_checkRoom wsX6_checkRoom) := goodIn_app (goodIn_of _ (by decide +kernel)) ggX6_addShip_X6_checkRoom
set_option maxRecDepth 20000 in
theorem ggX6_addShip_X4_init : GoodIn wsX6_addShip wsX4_init := goodIn_r _ [24, 25, 26, 27, 28, 29, 30, 31, 94, 95, 96, 97] (by decide +kernel) (by decide +kernel)
set_option maxRecDepth 20000 in
theorem gX6_addShip_X4_init : GoodIn wsX6_addShip (wsX4_init) := ggX6_addShip_X4_init
set_option maxRecDepth 20000 in
theorem ggX6_addShip_Jx4a65c_add_9ea2d : GoodIn wsX6_addShip wsJx4a65c_add_9ea2d := goodIn_r _ [35, 36, 37, 38, 16, 39, 40, 41, 14, 42, 43, 44, 45, 46, 47, 48, 49, 50, 51, 52, 53, 54, 55, 56, 57, 58, 59, 60, 61, 62, 63, 64, 65, 66, 67, 68, 69, 70, 71, 72, 73, 74, 75, 76, 77, 78, 79, 80, 81, 82, 83, 84, 85, 98, 99, 100] (by decide +kernel) (by decide +kernel)
set_option maxRecDepth 20000 in
theorem gX6_addShip_Jx4a65c_add_9ea2d : GoodIn wsX6_addShip (wsV RX6 86 RJx4a65c yJx4a65c_add_9ea2d wsJx4a65c_add_9ea2d) := goodIn_app (goodIn_of _ (by decide +kernel)) ggX6_addShip_Jx4a65c_add_9ea2d
theorem dX6_addShip_0 : decode cX6_addShip 0 = .ok (.iload_n 1, 1) := by decide +kernel
theorem dX6_addShip_1 : decode cX6_addShip 1 = .ok (.bipush 20, 2) := by decide +kernel
theorem dX6_addShip_3 : decode cX6_addShip 3 = .ok (.sipush 400, 3) := by decide +kernel
theorem dX6_addShip_6 : decode cX6_addShip 6 = .ok (.invokestatic 46, 3) := by decide +kernel
theorem dX6_addShip_9 : decode cX6_addShip 9 = .ok (.iload_n 2, 1) := by decide +kernel
theorem dX6_addShip_10 : decode cX6_addShip 10 = .ok (.bipush 100, 2) := by decide +kernel
theorem dX6_addShip_12 : decode cX6_addShip 12 = .ok (.sipush 2000, 3) := by decide +kernel
theorem dX6_addShip_15 : decode cX6_addShip 15 = .ok (.invokestatic 46, 3) := by decide +kernel
theorem dX6_addShip_18 : decode cX6_addShip 18 = .ok (.aload_n 0, 1) := by decide +kernel
theorem dX6_addShip_19 : decode cX6_addShip 19 = .ok (.getfield 23, 3) := by decide +kernel
theorem dX6_addShip_22 : decode cX6_addShip 22 = .ok (.invokevirtual 76, 3) := by decide +kernel
theorem dX6_addShip_25 : decode cX6_addShip 25 = .ok (.istore_n 3, 1) := by decide +kernel
theorem dX6_addShip_26 : decode cX6_addShip 26 = .ok (.iload_n 3, 1) := by decide +kernel
theorem dX6_addShip_27 : decode cX6_addShip 27 = .ok (.bipush 16, 2) := by decide +kernel
theorem dX6_addShip_29 : decode cX6_addShip 29 = .ok (.invokestatic 79, 3) := by decide +kernel
theorem dX6_addShip_32 : decode cX6_addShip 32 = .ok (.aload_n 0, 1) := by decide +kernel
theorem dX6_addShip_33 : decode cX6_addShip 33 = .ok (.getfield 23, 3) := by decide +kernel
theorem dX6_addShip_36 : decode cX6_addShip 36 = .ok (.new 90, 3) := by decide +kernel
theorem dX6_addShip_39 : decode cX6_addShip 39 = .ok (.dup, 1) := by decide +kernel
theorem dX6_addShip_40 : decode cX6_addShip 40 = .ok (.iload_n 3, 1) := by decide +kernel
theorem dX6_addShip_41 : decode cX6_addShip 41 = .ok (.iload_n 1, 1) := by decide +kernel
theorem dX6_addShip_42 : decode cX6_addShip 42 = .ok (.iload_n 2, 1) := by decide +kernel
theorem dX6_addShip_43 : decode cX6_addShip 43 = .ok (.invokespecial 92, 3) := by decide +kernel
theorem dX6_addShip_46 : decode cX6_addShip 46 = .ok (.invokevirtual 86, 3) := by decide +kernel
theorem dX6_addShip_49 : decode cX6_addShip 49 = .ok (.pop, 1) := by decide +kernel
theorem dX6_addShip_50 : decode cX6_addShip 50 = .ok (.iload_n 3, 1) := by decide +kernel
theorem dX6_addShip_51 : decode cX6_addShip 51 = .ok (.ireturn, 1) := by decide +kernel
set_option maxRecDepth 20000 in
theorem ggX6_addPilot_X6_checkRange : GoodIn wsX6_addPilot wsX6_checkRange := goodIn_ca (goodIn_r _ [8, 9, 10] (by decide +kernel) (by decide +kernel)) (goodIn_sub (fun _ h => List.mem_cons_of_mem _ (List.mem_append_left _ (List.mem_append_right _ h))) (by decide +kernel))
set_option maxRecDepth 20000 in
theorem gX6_addPilot_X6_checkRange : GoodIn wsX6_addPilot (va_wsS RX6 46 yX6_checkRange wsX6_checkRange) := goodIn_app (goodIn_of _ (by decide +kernel)) ggX6_addPilot_X6_checkRange
set_option maxRecDepth 20000 in
theorem ggX6_addPilot_Jx4a65c_size_8abf5 : GoodIn wsX6_addPilot wsJx4a65c_size_8abf5 := goodIn_r _ [15, 16, 98, 99, 100] (by decide +kernel) (by decide +kernel)
set_option maxRecDepth 20000 in
theorem gX6_addPilot_Jx4a65c_size_8abf5 : GoodIn wsX6_addPilot (wsV RX6 76 RJx4a65c yJx4a65c_size_8abf5 wsJx4a65c_size_8abf5) := goodIn_app (goodIn_of _ (by decide +kernel)) ggX6_addPilot_Jx4a65c_size_8abf5
set_option maxRecDepth 20000 in
theorem ggX6_addPilot_X6_checkRoom : GoodIn wsX6_addPilot wsX6_checkRoom := goodIn_ca (goodIn_r _ [19, 20, 21] (by decide +kernel) (by decide +kernel)) (goodIn_sub (fun _ h => List.mem_cons_of_mem _ (List.mem_append_right _ h)) (by decide +kernel))
set_option maxRecDepth 20000 in
theorem gX6_addPilot_X6_checkRoom : GoodIn wsX6_addPilot (va_wsS RX6 79 yX6_checkRoom wsX6_checkRoom) := goodIn_app (goodIn_of _ (by decide +kernel)) ggX6_addPilot_X6_checkRoom
set_option maxRecDepth 20000 in
theorem ggX6_addPilot_X2_init : GoodIn wsX6_addPilot wsX2_init := goodIn_r _ [24, 25, 26, 27, 28, 29, 30, 31, 94, 95, 96, 97] (by decide +kernel) (by decide +kernel)
set_option maxRecDepth 20000 in
theorem gX6_addPilot_X2_init : GoodIn wsX6_addPilot (wsX2_init) := ggX6_addPilot_X2_init
set_option maxRecDepth 20000 in
theorem ggX6_addPilot_Jx4a65c_add_9ea2d : GoodIn wsX6_addPilot wsJx4a65c_add_9ea2d := goodIn_r _ [35, 36, 37, 38, 16, 39, 40, 41, 14, 42, 43, 44, 45, 46, 47, 48, 49, 50, 51, 52, 53, 54, 55, 56, 57, 58, 59, 60, 61, 62, 63, 64, 65, 66, 67, 68, 69, 70, 71, 72, 73, 74, 75, 76, 77, 78, 79, 80, 81, 82, 83, 84, 85, 98, 99, 100] (by decide +kernel) (by decide +kernel)
set_option maxRecDepth 20000 in
theorem gX6_addPilot_Jx4a65c_add_9ea2d : GoodIn wsX6_addPilot (wsV RX6 86 RJx4a65c yJx4a65c_add_9ea2d wsJx4a65c_add_9ea2d) := goodIn_app (goodIn_of _ (by decide +kernel)) ggX6_addPilot_Jx4a65c_add_9ea2d
theorem dX6_addPilot_0 : decode cX6_addPilot 0 = .ok (.iload_n 1, 1) := by decide +kernel
theorem dX6_addPilot_1 : decode cX6_addPilot 1 = .ok (.bipush 20, 2) := by decide +kernel
theorem dX6_addPilot_3 : decode cX6_addPilot 3 = .ok (.sipush 400, 3) := by decide +kernel
theorem dX6_addPilot_6 : decode cX6_addPilot 6 = .ok (.invokestatic 46, 3) := by decide +kernel
theorem dX6_addPilot_9 : decode cX6_addPilot 9 = .ok (.aload_n 0, 1) := by decide +kernel
theorem dX6_addPilot_10 : decode cX6_addPilot 10 = .ok (.getfield 26, 3) := by decide +kernel
theorem dX6_addPilot_13 : decode cX6_addPilot 13 = .ok (.invokevirtual 76, 3) := by decide +kernel
theorem dX6_addPilot_16 : decode cX6_addPilot 16 = .ok (.istore_n 3, 1) := by decide +kernel
theorem dX6_addPilot_17 : decode cX6_addPilot 17 = .ok (.iload_n 3, 1) := by decide +kernel
theorem dX6_addPilot_18 : decode cX6_addPilot 18 = .ok (.bipush 6, 2) := by decide +kernel
theorem dX6_addPilot_20 : decode cX6_addPilot 20 = .ok (.invokestatic 79, 3) := by decide +kernel
theorem dX6_addPilot_23 : decode cX6_addPilot 23 = .ok (.aload_n 0, 1) := by decide +kernel
theorem dX6_addPilot_24 : decode cX6_addPilot 24 = .ok (.getfield 26, 3) := by decide +kernel
theorem dX6_addPilot_27 : decode cX6_addPilot 27 = .ok (.new 103, 3) := by decide +kernel
theorem dX6_addPilot_30 : decode cX6_addPilot 30 = .ok (.dup, 1) := by decide +kernel
theorem dX6_addPilot_31 : decode cX6_addPilot 31 = .ok (.iload_n 3, 1) := by decide +kernel
theorem dX6_addPilot_32 : decode cX6_addPilot 32 = .ok (.iload_n 1, 1) := by decide +kernel
theorem dX6_addPilot_33 : decode cX6_addPilot 33 = .ok (.iload_n 2, 1) := by decide +kernel
theorem dX6_addPilot_34 : decode cX6_addPilot 34 = .ok (.invokespecial 105, 3) := by decide +kernel
theorem dX6_addPilot_37 : decode cX6_addPilot 37 = .ok (.invokevirtual 86, 3) := by decide +kernel
theorem dX6_addPilot_40 : decode cX6_addPilot 40 = .ok (.pop, 1) := by decide +kernel
theorem dX6_addPilot_41 : decode cX6_addPilot 41 = .ok (.iload_n 3, 1) := by decide +kernel
theorem dX6_addPilot_42 : decode cX6_addPilot 42 = .ok (.ireturn, 1) := by decide +kernel
set_option maxRecDepth 20000 in
theorem ggX6_setTugs_X6_checkRange : GoodIn wsX6_setTugs wsX6_checkRange := goodIn_ca (goodIn_r _ [8, 9, 10] (by decide +kernel) (by decide +kernel)) (goodIn_sub (fun _ h => List.mem_cons_of_mem _ (List.mem_append_right _ h)) (by decide +kernel))
set_option maxRecDepth 20000 in
theorem gX6_setTugs_X6_checkRange : GoodIn wsX6_setTugs (va_wsS RX6 46 yX6_checkRange wsX6_checkRange) := goodIn_app (goodIn_of _ (by decide +kernel)) ggX6_setTugs_X6_checkRange
set_option maxRecDepth 20000 in
theorem ggX6_setTugs_Jx4a65c_isEmpty_aae02 : GoodIn wsX6_setTugs wsJx4a65c_isEmpty_aae02 := goodIn_r _ [15, 16, 25, 26, 27] (by decide +kernel) (by decide +kernel)
set_option maxRecDepth 20000 in
theorem gX6_setTugs_Jx4a65c_isEmpty_aae02 : GoodIn wsX6_setTugs (wsV RX6 50 RJx4a65c yJx4a65c_isEmpty_aae02 wsJx4a65c_isEmpty_aae02) := goodIn_app (goodIn_of _ (by decide +kernel)) ggX6_setTugs_Jx4a65c_isEmpty_aae02
theorem dX6_setTugs_0 : decode cX6_setTugs 0 = .ok (.iload_n 1, 1) := by decide +kernel
theorem dX6_setTugs_1 : decode cX6_setTugs 1 = .ok (.iconst 0, 1) := by decide +kernel
theorem dX6_setTugs_2 : decode cX6_setTugs 2 = .ok (.bipush 8, 2) := by decide +kernel
theorem dX6_setTugs_4 : decode cX6_setTugs 4 = .ok (.invokestatic 46, 3) := by decide +kernel
theorem dX6_setTugs_7 : decode cX6_setTugs 7 = .ok (.aload_n 0, 1) := by decide +kernel
theorem dX6_setTugs_8 : decode cX6_setTugs 8 = .ok (.getfield 29, 3) := by decide +kernel
theorem dX6_setTugs_11 : decode cX6_setTugs 11 = .ok (.invokevirtual 50, 3) := by decide +kernel
theorem dX6_setTugs_14 : decode cX6_setTugs 14 = .ok (.ifCond .ne 13, 3) := by decide +kernel
theorem dX6_setTugs_17 : decode cX6_setTugs 17 = .ok (.new 61, 3) := by decide +kernel
theorem dX6_setTugs_20 : decode cX6_setTugs 20 = .ok (.dup, 1) := by decide +kernel
theorem dX6_setTugs_21 : decode cX6_setTugs 21 = .ok (.ldc 108, 2) := by decide +kernel
theorem dX6_setTugs_23 : decode cX6_setTugs 23 = .ok (.invokespecial 65, 3) := by decide +kernel
theorem dX6_setTugs_26 : decode cX6_setTugs 26 = .ok (.athrow, 1) := by decide +kernel
theorem dX6_setTugs_27 : decode cX6_setTugs 27 = .ok (.aload_n 0, 1) := by decide +kernel
theorem dX6_setTugs_28 : decode cX6_setTugs 28 = .ok (.getfield 39, 3) := by decide +kernel
theorem dX6_setTugs_31 : decode cX6_setTugs 31 = .ok (.istore_n 2, 1) := by decide +kernel
theorem dX6_setTugs_32 : decode cX6_setTugs 32 = .ok (.aload_n 0, 1) := by decide +kernel
theorem dX6_setTugs_33 : decode cX6_setTugs 33 = .ok (.iload_n 1, 1) := by decide +kernel
theorem dX6_setTugs_34 : decode cX6_setTugs 34 = .ok (.putfield 39, 3) := by decide +kernel
theorem dX6_setTugs_37 : decode cX6_setTugs 37 = .ok (.iload_n 2, 1) := by decide +kernel
theorem dX6_setTugs_38 : decode cX6_setTugs 38 = .ok (.ireturn, 1) := by decide +kernel
set_option maxRecDepth 20000 in
theorem ggX6_count_Jx4a65c_size_8abf5 : GoodIn wsX6_count wsJx4a65c_size_8abf5 := goodIn_r _ [12, 13, 25, 26, 27] (by decide +kernel) (by decide +kernel)
set_option maxRecDepth 20000 in
theorem gX6_count_Jx4a65c_size_8abf5 : GoodIn wsX6_count (wsV RX6 76 RJx4a65c yJx4a65c_size_8abf5 wsJx4a65c_size_8abf5) := goodIn_app (goodIn_of _ (by decide +kernel)) ggX6_count_Jx4a65c_size_8abf5
theorem dX6_count_0 : decode cX6_count 0 = .ok (.iload_n 1, 1) := by decide +kernel
theorem dX6_count_1 : decode cX6_count 1 = .ok (.tableswitch 75 0 4 #[35, 43, 51, 59, 67], 35) := by decide +kernel
theorem dX6_count_36 : decode cX6_count 36 = .ok (.aload_n 0, 1) := by decide +kernel
theorem dX6_count_37 : decode cX6_count 37 = .ok (.getfield 12, 3) := by decide +kernel
theorem dX6_count_40 : decode cX6_count 40 = .ok (.getfield 54, 3) := by decide +kernel
theorem dX6_count_43 : decode cX6_count 43 = .ok (.ireturn, 1) := by decide +kernel
theorem dX6_count_44 : decode cX6_count 44 = .ok (.aload_n 0, 1) := by decide +kernel
theorem dX6_count_45 : decode cX6_count 45 = .ok (.getfield 19, 3) := by decide +kernel
theorem dX6_count_48 : decode cX6_count 48 = .ok (.invokevirtual 76, 3) := by decide +kernel
theorem dX6_count_51 : decode cX6_count 51 = .ok (.ireturn, 1) := by decide +kernel
theorem dX6_count_52 : decode cX6_count 52 = .ok (.aload_n 0, 1) := by decide +kernel
theorem dX6_count_53 : decode cX6_count 53 = .ok (.getfield 23, 3) := by decide +kernel
theorem dX6_count_56 : decode cX6_count 56 = .ok (.invokevirtual 76, 3) := by decide +kernel
theorem dX6_count_59 : decode cX6_count 59 = .ok (.ireturn, 1) := by decide +kernel
theorem dX6_count_60 : decode cX6_count 60 = .ok (.aload_n 0, 1) := by decide +kernel
theorem dX6_count_61 : decode cX6_count 61 = .ok (.getfield 26, 3) := by decide +kernel
theorem dX6_count_64 : decode cX6_count 64 = .ok (.invokevirtual 76, 3) := by decide +kernel
theorem dX6_count_67 : decode cX6_count 67 = .ok (.ireturn, 1) := by decide +kernel
theorem dX6_count_68 : decode cX6_count 68 = .ok (.aload_n 0, 1) := by decide +kernel
theorem dX6_count_69 : decode cX6_count 69 = .ok (.getfield 29, 3) := by decide +kernel
theorem dX6_count_72 : decode cX6_count 72 = .ok (.invokevirtual 76, 3) := by decide +kernel
theorem dX6_count_75 : decode cX6_count 75 = .ok (.ireturn, 1) := by decide +kernel
theorem dX6_count_76 : decode cX6_count 76 = .ok (.new 110, 3) := by decide +kernel
theorem dX6_count_79 : decode cX6_count 79 = .ok (.dup, 1) := by decide +kernel
theorem dX6_count_80 : decode cX6_count 80 = .ok (.ldc 112, 2) := by decide +kernel
theorem dX6_count_82 : decode cX6_count 82 = .ok (.invokespecial 114, 3) := by decide +kernel
theorem dX6_count_85 : decode cX6_count 85 = .ok (.athrow, 1) := by decide +kernel
set_option maxRecDepth 20000 in
theorem ggX6_earliest_X6_checkCall : GoodIn wsX6_earliest wsX6_checkCall := goodIn_ca (goodIn_ca (goodIn_r _ [5, 6, 7, 8, 9, 10, 11, 12, 13, 14, 15, 4, 16, 17, 18, 19, 20, 21, 22, 23, 24, 25, 26, 170, 171, 172, 173, 174, 175, 176, 177, 178, 179, 180] (by decide +kernel) (by decide +kernel)) (goodIn_sub (fun _ h => List.mem_cons_of_mem _ (List.mem_append_left _ (List.mem_append_right _ h))) (by decide +kernel))) (goodIn_sub (fun _ h => List.mem_cons_of_mem _ (List.mem_append_right _ h)) (by decide +kernel))
set_option maxRecDepth 20000 in
theorem gX6_earliest_X6_checkCall : GoodIn wsX6_earliest (wsV RX6 119 RX6 yX6_checkCall wsX6_checkCall) := goodIn_app (goodIn_of _ (by decide +kernel)) ggX6_earliest_X6_checkCall
set_option maxRecDepth 20000 in
theorem ggX6_earliest_X6_routeOf : GoodIn wsX6_earliest wsX6_routeOf := goodIn_r _ [30, 6, 31, 32, 33, 34, 7, 35, 36, 37, 38, 11, 39, 13, 40, 41, 42, 43, 44, 45, 46, 47, 48, 49, 50, 51, 52, 53, 54, 55, 56, 57, 58, 59, 60, 61, 62, 63, 64, 65, 170, 171, 172, 173, 174, 175, 176, 177, 181, 182, 183, 184, 185, 186, 187, 188, 189, 190, 191, 192, 193, 194, 195, 178, 179, 180] (by decide +kernel) (by decide +kernel)
set_option maxRecDepth 20000 in
theorem gX6_earliest_X6_routeOf : GoodIn wsX6_earliest (wsV RX6 160 RX6 yX6_routeOf wsX6_routeOf) := goodIn_app (goodIn_of _ (by decide +kernel)) ggX6_earliest_X6_routeOf
set_option maxRecDepth 20000 in
theorem ggX6_earliest_X6_firstBegin : GoodIn wsX6_earliest wsX6_firstBegin := goodIn_r _ [69, 70, 71, 72, 73, 74, 75, 76, 4, 77, 78, 79, 80, 81, 82, 83, 84, 85, 8, 9, 10, 11, 12, 13, 36, 37, 38, 39, 40, 41, 42, 43, 44, 45, 46, 47, 48, 49, 50, 51, 52, 86, 87, 88, 89, 90, 91, 92, 93, 94, 95, 96, 97, 98, 99, 100, 34, 101, 61, 102, 103, 104, 105, 106, 107, 108, 109, 110, 111, 112, 113, 114, 115, 116, 117, 118, 119, 120, 121, 122, 123, 124, 125, 126, 127, 128, 129, 130, 131, 132, 133, 134, 135, 136, 137, 138, 139, 140, 141, 142, 143, 144, 145, 146, 147, 148, 149, 150, 151, 152, 153, 154, 155, 156, 157, 158, 159, 160, 161, 162, 163, 164, 165, 166, 167, 168, 169, 192, 193, 194, 195, 181, 182, 183, 184, 196, 197, 198, 170, 171, 172, 173, 174, 175, 176, 177, 185, 186, 187, 188, 189, 190, 191, 178, 179, 180, 199, 200, 201, 202, 203, 204, 205] (by decide +kernel) (by decide +kernel)
set_option maxRecDepth 20000 in
theorem gX6_earliest_X6_firstBegin : GoodIn wsX6_earliest (wsV RX6 164 RX6 yX6_firstBegin wsX6_firstBegin) := goodIn_app (goodIn_of _ (by decide +kernel)) ggX6_earliest_X6_firstBegin
theorem dX6_earliest_0 : decode cX6_earliest 0 = .ok (.aload_n 0, 1) := by decide +kernel
theorem dX6_earliest_1 : decode cX6_earliest 1 = .ok (.iload_n 1, 1) := by decide +kernel
theorem dX6_earliest_2 : decode cX6_earliest 2 = .ok (.iload_n 2, 1) := by decide +kernel
theorem dX6_earliest_3 : decode cX6_earliest 3 = .ok (.iload_n 3, 1) := by decide +kernel
theorem dX6_earliest_4 : decode cX6_earliest 4 = .ok (.invokevirtual 119, 3) := by decide +kernel
theorem dX6_earliest_7 : decode cX6_earliest 7 = .ok (.aload_n 0, 1) := by decide +kernel
theorem dX6_earliest_8 : decode cX6_earliest 8 = .ok (.iload_n 1, 1) := by decide +kernel
theorem dX6_earliest_9 : decode cX6_earliest 9 = .ok (.iload_n 2, 1) := by decide +kernel
theorem dX6_earliest_10 : decode cX6_earliest 10 = .ok (.invokevirtual 160, 3) := by decide +kernel
theorem dX6_earliest_13 : decode cX6_earliest 13 = .ok (.astore 4, 2) := by decide +kernel
theorem dX6_earliest_15 : decode cX6_earliest 15 = .ok (.aload 4, 2) := by decide +kernel
theorem dX6_earliest_17 : decode cX6_earliest 17 = .ok (.ifnonnull 7, 3) := by decide +kernel
theorem dX6_earliest_20 : decode cX6_earliest 20 = .ok (.iconst (-1), 1) := by decide +kernel
theorem dX6_earliest_21 : decode cX6_earliest 21 = .ok (.goto 10, 3) := by decide +kernel
theorem dX6_earliest_24 : decode cX6_earliest 24 = .ok (.aload_n 0, 1) := by decide +kernel
theorem dX6_earliest_25 : decode cX6_earliest 25 = .ok (.aload 4, 2) := by decide +kernel
theorem dX6_earliest_27 : decode cX6_earliest 27 = .ok (.iload_n 3, 1) := by decide +kernel
theorem dX6_earliest_28 : decode cX6_earliest 28 = .ok (.invokevirtual 164, 3) := by decide +kernel
theorem dX6_earliest_31 : decode cX6_earliest 31 = .ok (.ireturn, 1) := by decide +kernel
set_option maxRecDepth 20000 in
theorem ggX6_book_X6_checkCall : GoodIn wsX6_book wsX6_checkCall := goodIn_ca (goodIn_ca (goodIn_r _ [11, 12, 13, 14, 15, 16, 17, 18, 19, 20, 21, 10, 22, 23, 24, 25, 26, 27, 28, 29, 30, 31, 32, 240, 241, 242, 243, 244, 245, 246, 247, 255, 256, 257] (by decide +kernel) (by decide +kernel)) (goodIn_sub (fun _ h => List.mem_cons_of_mem _ (List.mem_append_left _ (List.mem_append_right _ h))) (by decide +kernel))) (goodIn_sub (fun _ h => List.mem_cons_of_mem _ (List.mem_append_right _ h)) (by decide +kernel))
set_option maxRecDepth 20000 in
theorem gX6_book_X6_checkCall : GoodIn wsX6_book (wsV RX6 119 RX6 yX6_checkCall wsX6_checkCall) := goodIn_app (goodIn_of _ (by decide +kernel)) ggX6_book_X6_checkCall
set_option maxRecDepth 20000 in
theorem ggX6_book_Jx4a65c_size_8abf5 : GoodIn wsX6_book wsJx4a65c_size_8abf5 := goodIn_r _ [18, 19, 255, 256, 257] (by decide +kernel) (by decide +kernel)
set_option maxRecDepth 20000 in
theorem gX6_book_Jx4a65c_size_8abf5 : GoodIn wsX6_book (wsV RX6 76 RJx4a65c yJx4a65c_size_8abf5 wsJx4a65c_size_8abf5) := goodIn_app (goodIn_of _ (by decide +kernel)) ggX6_book_Jx4a65c_size_8abf5
set_option maxRecDepth 20000 in
theorem ggX6_book_X6_checkRoom : GoodIn wsX6_book wsX6_checkRoom := goodIn_ca (goodIn_r _ [35, 1, 2] (by decide +kernel) (by decide +kernel)) (goodIn_sub (fun _ h => List.mem_cons_of_mem _ (List.mem_append_left _ (List.mem_append_left _ (List.mem_append_right _ h)))) (by decide +kernel))
set_option maxRecDepth 20000 in
theorem gX6_book_X6_checkRoom : GoodIn wsX6_book (va_wsS RX6 79 yX6_checkRoom wsX6_checkRoom) := goodIn_app (goodIn_of _ (by decide +kernel)) ggX6_book_X6_checkRoom
set_option maxRecDepth 20000 in
theorem ggX6_book_X6_routeOf : GoodIn wsX6_book wsX6_routeOf := goodIn_r _ [39, 12, 40, 41, 42, 43, 13, 44, 45, 46, 47, 17, 48, 19, 49, 50, 51, 52, 53, 54, 55, 56, 57, 58, 59, 60, 61, 62, 63, 64, 65, 66, 67, 68, 69, 70, 71, 72, 73, 74, 240, 241, 242, 243, 244, 245, 246, 247, 258, 259, 260, 261, 248, 249, 250, 251, 252, 253, 254, 262, 263, 264, 265, 255, 256, 257] (by decide +kernel) (by decide +kernel)
set_option maxRecDepth 20000 in
theorem gX6_book_X6_routeOf : GoodIn wsX6_book (wsV RX6 160 RX6 yX6_routeOf wsX6_routeOf) := goodIn_app (goodIn_of _ (by decide +kernel)) ggX6_book_X6_routeOf
set_option maxRecDepth 20000 in
theorem ggX6_book_X6_firstBegin : GoodIn wsX6_book wsX6_firstBegin := goodIn_r _ [78, 79, 80, 81, 82, 83, 84, 85, 10, 86, 3, 87, 88, 89, 90, 6, 91, 92, 14, 15, 16, 17, 18, 19, 45, 46, 47, 48, 49, 50, 51, 52, 53, 54, 55, 56, 57, 58, 59, 60, 61, 93, 94, 95, 96, 97, 98, 99, 100, 101, 102, 103, 104, 105, 106, 107, 43, 108, 70, 109, 110, 111, 112, 113, 114, 115, 116, 117, 118, 119, 120, 121, 122, 123, 124, 125, 126, 127, 128, 129, 130, 131, 132, 133, 134, 135, 136, 137, 138, 139, 140, 141, 142, 143, 144, 145, 146, 147, 148, 149, 150, 151, 152, 153, 154, 155, 156, 157, 158, 159, 160, 161, 162, 163, 164, 165, 166, 167, 168, 169, 170, 171, 172, 173, 174, 175, 176, 262, 263, 264, 265, 258, 259, 260, 261, 266, 267, 268, 240, 241, 242, 243, 244, 245, 246, 247, 248, 249, 250, 251, 252, 253, 254, 255, 256, 257, 269, 270, 271, 272, 273, 274, 275] (by decide +kernel) (by decide +kernel)
set_option maxRecDepth 20000 in
theorem gX6_book_X6_firstBegin : GoodIn wsX6_book (wsV RX6 164 RX6 yX6_firstBegin wsX6_firstBegin) := goodIn_app (goodIn_of _ (by decide +kernel)) ggX6_book_X6_firstBegin
set_option maxRecDepth 20000 in
theorem ggX6_book_X6_pilotFor : GoodIn wsX6_book wsX6_pilotFor := goodIn_r _ [157, 158, 159, 14, 15, 16, 17, 18, 19, 45, 46, 47, 48, 49, 50, 51, 52, 53, 54, 55, 56, 57, 58, 59, 60, 61, 160, 161, 162, 163, 164, 165, 166, 167, 168, 169, 170, 171, 172, 89, 90, 6, 91, 92, 173, 174, 175, 176, 240, 241, 242, 243, 244, 245, 246, 247, 255, 256, 257, 272, 273, 274, 275, 262, 263, 264, 265, 258, 259, 260, 261, 248, 249, 250, 251, 252, 253, 254] (by decide +kernel) (by decide +kernel)
set_option maxRecDepth 20000 in
theorem gX6_book_X6_pilotFor : GoodIn wsX6_book (wsV RX6 170 RX6 yX6_pilotFor wsX6_pilotFor) := goodIn_app (goodIn_of _ (by decide +kernel)) ggX6_book_X6_pilotFor
set_option maxRecDepth 20000 in
theorem ggX6_book_X1_init : GoodIn wsX6_book wsX1_init := goodIn_r _ [179, 180, 66, 67, 152, 181, 92, 182, 183, 184, 185, 248, 249, 250, 251, 252, 253, 254, 262, 263, 264, 265, 258, 259, 260, 261, 272, 273, 274, 275] (by decide +kernel) (by decide +kernel)
set_option maxRecDepth 20000 in
theorem gX6_book_X1_init : GoodIn wsX6_book (wsX1_init) := ggX6_book_X1_init
set_option maxRecDepth 20000 in
theorem ggX6_book_X6_enter : GoodIn wsX6_book wsX6_enter := goodIn_r _ [189, 3, 190, 191, 192, 17, 193, 194, 195, 61, 19, 196, 197, 198, 199, 200, 201, 202, 203, 204, 205, 206, 207, 208, 209, 80, 81, 82, 210, 211, 212, 213, 214, 215, 216, 217, 218, 219, 220, 221, 222, 223, 224, 225, 226, 227, 228, 229, 230, 231, 232, 233, 234, 235, 236, 237, 238, 239, 88, 89, 90, 6, 91, 92, 240, 241, 242, 243, 244, 245, 246, 247, 248, 249, 250, 251, 252, 253, 254, 262, 263, 264, 265, 258, 259, 260, 261, 272, 273, 274, 275, 255, 256, 257] (by decide +kernel) (by decide +kernel)
set_option maxRecDepth 20000 in
theorem gX6_book_X6_enter : GoodIn wsX6_book (wsV RX6 179 RX6 yX6_enter wsX6_enter) := goodIn_app (goodIn_of _ (by decide +kernel)) ggX6_book_X6_enter
theorem dX6_book_0 : decode cX6_book 0 = .ok (.aload_n 0, 1) := by decide +kernel
theorem dX6_book_1 : decode cX6_book 1 = .ok (.iload_n 1, 1) := by decide +kernel
theorem dX6_book_2 : decode cX6_book 2 = .ok (.iload_n 2, 1) := by decide +kernel
theorem dX6_book_3 : decode cX6_book 3 = .ok (.iload_n 3, 1) := by decide +kernel
theorem dX6_book_4 : decode cX6_book 4 = .ok (.invokevirtual 119, 3) := by decide +kernel
theorem dX6_book_7 : decode cX6_book 7 = .ok (.aload_n 0, 1) := by decide +kernel
theorem dX6_book_8 : decode cX6_book 8 = .ok (.getfield 29, 3) := by decide +kernel
theorem dX6_book_11 : decode cX6_book 11 = .ok (.invokevirtual 76, 3) := by decide +kernel
theorem dX6_book_14 : decode cX6_book 14 = .ok (.istore 4, 2) := by decide +kernel
theorem dX6_book_16 : decode cX6_book 16 = .ok (.iload 4, 2) := by decide +kernel
theorem dX6_book_18 : decode cX6_book 18 = .ok (.bipush 40, 2) := by decide +kernel
theorem dX6_book_20 : decode cX6_book 20 = .ok (.invokestatic 79, 3) := by decide +kernel
theorem dX6_book_23 : decode cX6_book 23 = .ok (.aload_n 0, 1) := by decide +kernel
theorem dX6_book_24 : decode cX6_book 24 = .ok (.iload_n 1, 1) := by decide +kernel
theorem dX6_book_25 : decode cX6_book 25 = .ok (.iload_n 2, 1) := by decide +kernel
theorem dX6_book_26 : decode cX6_book 26 = .ok (.invokevirtual 160, 3) := by decide +kernel
theorem dX6_book_29 : decode cX6_book 29 = .ok (.astore 5, 2) := by decide +kernel
theorem dX6_book_31 : decode cX6_book 31 = .ok (.aload 5, 2) := by decide +kernel
theorem dX6_book_33 : decode cX6_book 33 = .ok (.ifnonnull 13, 3) := by decide +kernel
theorem dX6_book_36 : decode cX6_book 36 = .ok (.new 61, 3) := by decide +kernel
theorem dX6_book_39 : decode cX6_book 39 = .ok (.dup, 1) := by decide +kernel
theorem dX6_book_40 : decode cX6_book 40 = .ok (.ldc 168, 2) := by decide +kernel
theorem dX6_book_42 : decode cX6_book 42 = .ok (.invokespecial 65, 3) := by decide +kernel
theorem dX6_book_45 : decode cX6_book 45 = .ok (.athrow, 1) := by decide +kernel
theorem dX6_book_46 : decode cX6_book 46 = .ok (.aload_n 0, 1) := by decide +kernel
theorem dX6_book_47 : decode cX6_book 47 = .ok (.aload 5, 2) := by decide +kernel
theorem dX6_book_49 : decode cX6_book 49 = .ok (.iload_n 3, 1) := by decide +kernel
theorem dX6_book_50 : decode cX6_book 50 = .ok (.invokevirtual 164, 3) := by decide +kernel
theorem dX6_book_53 : decode cX6_book 53 = .ok (.istore 6, 2) := by decide +kernel
theorem dX6_book_55 : decode cX6_book 55 = .ok (.iload 6, 2) := by decide +kernel
theorem dX6_book_57 : decode cX6_book 57 = .ok (.iconst (-1), 1) := by decide +kernel
theorem dX6_book_58 : decode cX6_book 58 = .ok (.if_icmp .ne 7, 3) := by decide +kernel
theorem dX6_book_61 : decode cX6_book 61 = .ok (.aconst_null, 1) := by decide +kernel
theorem dX6_book_62 : decode cX6_book 62 = .ok (.goto 11, 3) := by decide +kernel
theorem dX6_book_65 : decode cX6_book 65 = .ok (.aload_n 0, 1) := by decide +kernel
theorem dX6_book_66 : decode cX6_book 66 = .ok (.aload 5, 2) := by decide +kernel
theorem dX6_book_68 : decode cX6_book 68 = .ok (.iload 6, 2) := by decide +kernel
theorem dX6_book_70 : decode cX6_book 70 = .ok (.invokevirtual 170, 3) := by decide +kernel
theorem dX6_book_73 : decode cX6_book 73 = .ok (.astore 7, 2) := by decide +kernel
theorem dX6_book_75 : decode cX6_book 75 = .ok (.aload 7, 2) := by decide +kernel
theorem dX6_book_77 : decode cX6_book 77 = .ok (.ifnonnull 13, 3) := by decide +kernel
theorem dX6_book_80 : decode cX6_book 80 = .ok (.new 61, 3) := by decide +kernel
theorem dX6_book_83 : decode cX6_book 83 = .ok (.dup, 1) := by decide +kernel
theorem dX6_book_84 : decode cX6_book 84 = .ok (.ldc 174, 2) := by decide +kernel
theorem dX6_book_86 : decode cX6_book 86 = .ok (.invokespecial 65, 3) := by decide +kernel
theorem dX6_book_89 : decode cX6_book 89 = .ok (.athrow, 1) := by decide +kernel
theorem dX6_book_90 : decode cX6_book 90 = .ok (.aload_n 0, 1) := by decide +kernel
theorem dX6_book_91 : decode cX6_book 91 = .ok (.new 134, 3) := by decide +kernel
theorem dX6_book_94 : decode cX6_book 94 = .ok (.dup, 1) := by decide +kernel
theorem dX6_book_95 : decode cX6_book 95 = .ok (.aload 5, 2) := by decide +kernel
theorem dX6_book_97 : decode cX6_book 97 = .ok (.iload_n 3, 1) := by decide +kernel
theorem dX6_book_98 : decode cX6_book 98 = .ok (.iload 6, 2) := by decide +kernel
theorem dX6_book_100 : decode cX6_book 100 = .ok (.aload 7, 2) := by decide +kernel
theorem dX6_book_102 : decode cX6_book 102 = .ok (.invokespecial 176, 3) := by decide +kernel
theorem dX6_book_105 : decode cX6_book 105 = .ok (.invokevirtual 179, 3) := by decide +kernel
theorem dX6_book_108 : decode cX6_book 108 = .ok (.iload 4, 2) := by decide +kernel
theorem dX6_book_110 : decode cX6_book 110 = .ok (.ireturn, 1) := by decide +kernel
set_option maxRecDepth 20000 in
theorem ggX6_passage_Jx4a65c_size_8abf5 : GoodIn wsX6_passage wsJx4a65c_size_8abf5 := goodIn_r _ [9, 10, 62, 63, 64] (by decide +kernel) (by decide +kernel)
set_option maxRecDepth 20000 in
theorem gX6_passage_Jx4a65c_size_8abf5 : GoodIn wsX6_passage (wsV RX6 76 RJx4a65c yJx4a65c_size_8abf5 wsJx4a65c_size_8abf5) := goodIn_app (goodIn_of _ (by decide +kernel)) ggX6_passage_Jx4a65c_size_8abf5
set_option maxRecDepth 20000 in
theorem ggX6_passage_X6_checkNumber : GoodIn wsX6_passage wsX6_checkNumber := goodIn_ca (goodIn_r _ [14, 1, 2] (by decide +kernel) (by decide +kernel)) (goodIn_sub (fun _ h => List.mem_cons_of_mem _ (List.mem_append_right _ h)) (by decide +kernel))
set_option maxRecDepth 20000 in
theorem gX6_passage_X6_checkNumber : GoodIn wsX6_passage (va_wsS RX6 93 yX6_checkNumber wsX6_checkNumber) := goodIn_app (goodIn_of _ (by decide +kernel)) ggX6_passage_X6_checkNumber
set_option maxRecDepth 20000 in
theorem ggX6_passage_Jx4a65c_get_915e3 : GoodIn wsX6_passage wsJx4a65c_get_915e3 := goodIn_r _ [18, 10, 19, 20, 21, 22, 23, 24, 25, 26, 27, 28, 29, 8, 30, 31, 62, 63, 64] (by decide +kernel) (by decide +kernel)
set_option maxRecDepth 20000 in
theorem gX6_passage_Jx4a65c_get_915e3 : GoodIn wsX6_passage (wsV RX6 96 RJx4a65c yJx4a65c_get_915e3 wsJx4a65c_get_915e3) := goodIn_app (goodIn_of _ (by decide +kernel)) ggX6_passage_Jx4a65c_get_915e3
theorem dX6_passage_0 : decode cX6_passage 0 = .ok (.iload_n 1, 1) := by decide +kernel
theorem dX6_passage_1 : decode cX6_passage 1 = .ok (.aload_n 0, 1) := by decide +kernel
theorem dX6_passage_2 : decode cX6_passage 2 = .ok (.getfield 29, 3) := by decide +kernel
theorem dX6_passage_5 : decode cX6_passage 5 = .ok (.invokevirtual 76, 3) := by decide +kernel
theorem dX6_passage_8 : decode cX6_passage 8 = .ok (.invokestatic 93, 3) := by decide +kernel
theorem dX6_passage_11 : decode cX6_passage 11 = .ok (.aload_n 0, 1) := by decide +kernel
theorem dX6_passage_12 : decode cX6_passage 12 = .ok (.getfield 29, 3) := by decide +kernel
theorem dX6_passage_15 : decode cX6_passage 15 = .ok (.iload_n 1, 1) := by decide +kernel
theorem dX6_passage_16 : decode cX6_passage 16 = .ok (.invokevirtual 96, 3) := by decide +kernel
theorem dX6_passage_19 : decode cX6_passage 19 = .ok (.checkcast 134, 3) := by decide +kernel
theorem dX6_passage_22 : decode cX6_passage 22 = .ok (.astore_n 3, 1) := by decide +kernel
theorem dX6_passage_23 : decode cX6_passage 23 = .ok (.iload_n 2, 1) := by decide +kernel
theorem dX6_passage_24 : decode cX6_passage 24 = .ok (.tableswitch 99 0 5 #[40, 51, 56, 64, 72, 83], 40) := by decide +kernel
theorem dX6_passage_64 : decode cX6_passage 64 = .ok (.aload_n 3, 1) := by decide +kernel
theorem dX6_passage_65 : decode cX6_passage 65 = .ok (.getfield 133, 3) := by decide +kernel
theorem dX6_passage_68 : decode cX6_passage 68 = .ok (.getfield 188, 3) := by decide +kernel
theorem dX6_passage_71 : decode cX6_passage 71 = .ok (.getfield 203, 3) := by decide +kernel
theorem dX6_passage_74 : decode cX6_passage 74 = .ok (.ireturn, 1) := by decide +kernel
theorem dX6_passage_75 : decode cX6_passage 75 = .ok (.aload_n 3, 1) := by decide +kernel
theorem dX6_passage_76 : decode cX6_passage 76 = .ok (.getfield 153, 3) := by decide +kernel
theorem dX6_passage_79 : decode cX6_passage 79 = .ok (.ireturn, 1) := by decide +kernel
theorem dX6_passage_80 : decode cX6_passage 80 = .ok (.aload_n 3, 1) := by decide +kernel
theorem dX6_passage_81 : decode cX6_passage 81 = .ok (.getfield 192, 3) := by decide +kernel
theorem dX6_passage_84 : decode cX6_passage 84 = .ok (.getfield 206, 3) := by decide +kernel
theorem dX6_passage_87 : decode cX6_passage 87 = .ok (.ireturn, 1) := by decide +kernel
theorem dX6_passage_88 : decode cX6_passage 88 = .ok (.aload_n 3, 1) := by decide +kernel
theorem dX6_passage_89 : decode cX6_passage 89 = .ok (.getfield 133, 3) := by decide +kernel
theorem dX6_passage_92 : decode cX6_passage 92 = .ok (.getfield 207, 3) := by decide +kernel
theorem dX6_passage_95 : decode cX6_passage 95 = .ok (.ireturn, 1) := by decide +kernel
theorem dX6_passage_96 : decode cX6_passage 96 = .ok (.aload_n 3, 1) := by decide +kernel
theorem dX6_passage_97 : decode cX6_passage 97 = .ok (.getfield 133, 3) := by decide +kernel
theorem dX6_passage_100 : decode cX6_passage 100 = .ok (.getfield 208, 3) := by decide +kernel
theorem dX6_passage_103 : decode cX6_passage 103 = .ok (.getfield 212, 3) := by decide +kernel
theorem dX6_passage_106 : decode cX6_passage 106 = .ok (.ireturn, 1) := by decide +kernel
theorem dX6_passage_107 : decode cX6_passage 107 = .ok (.aload_n 3, 1) := by decide +kernel
theorem dX6_passage_108 : decode cX6_passage 108 = .ok (.getfield 133, 3) := by decide +kernel
theorem dX6_passage_111 : decode cX6_passage 111 = .ok (.getfield 139, 3) := by decide +kernel
theorem dX6_passage_114 : decode cX6_passage 114 = .ok (.ifCond .eq 7, 3) := by decide +kernel
theorem dX6_passage_117 : decode cX6_passage 117 = .ok (.iconst 1, 1) := by decide +kernel
theorem dX6_passage_118 : decode cX6_passage 118 = .ok (.goto 4, 3) := by decide +kernel
theorem dX6_passage_121 : decode cX6_passage 121 = .ok (.iconst 0, 1) := by decide +kernel
theorem dX6_passage_122 : decode cX6_passage 122 = .ok (.ireturn, 1) := by decide +kernel
theorem dX6_passage_123 : decode cX6_passage 123 = .ok (.new 110, 3) := by decide +kernel
theorem dX6_passage_126 : decode cX6_passage 126 = .ok (.dup, 1) := by decide +kernel
theorem dX6_passage_127 : decode cX6_passage 127 = .ok (.ldc 213, 2) := by decide +kernel
theorem dX6_passage_129 : decode cX6_passage 129 = .ok (.invokespecial 114, 3) := by decide +kernel
theorem dX6_passage_132 : decode cX6_passage 132 = .ok (.athrow, 1) := by decide +kernel
set_option maxRecDepth 20000 in
theorem ggX6_occupant_Jx4a65c_size_8abf5 : GoodIn wsX6_occupant wsJx4a65c_size_8abf5 := goodIn_r _ [8, 9, 74, 75, 76] (by decide +kernel) (by decide +kernel)
set_option maxRecDepth 20000 in
theorem gX6_occupant_Jx4a65c_size_8abf5 : GoodIn wsX6_occupant (wsV RX6 76 RJx4a65c yJx4a65c_size_8abf5 wsJx4a65c_size_8abf5) := goodIn_app (goodIn_of _ (by decide +kernel)) ggX6_occupant_Jx4a65c_size_8abf5
set_option maxRecDepth 20000 in
theorem ggX6_occupant_X6_checkNumber : GoodIn wsX6_occupant wsX6_checkNumber := goodIn_ca (goodIn_r _ [13, 14, 15] (by decide +kernel) (by decide +kernel)) (goodIn_sub (fun _ h => List.mem_cons_of_mem _ (List.mem_append_left _ (List.mem_append_right _ h))) (by decide +kernel))
set_option maxRecDepth 20000 in
theorem gX6_occupant_X6_checkNumber : GoodIn wsX6_occupant (va_wsS RX6 93 yX6_checkNumber wsX6_checkNumber) := goodIn_app (goodIn_of _ (by decide +kernel)) ggX6_occupant_X6_checkNumber
set_option maxRecDepth 20000 in
theorem ggX6_occupant_X6_checkTime : GoodIn wsX6_occupant wsX6_checkTime := goodIn_ca (goodIn_r _ [18, 19, 20, 12, 21, 22, 23] (by decide +kernel) (by decide +kernel)) (goodIn_sub (fun _ h => List.mem_cons_of_mem _ (List.mem_append_right _ h)) (by decide +kernel))
set_option maxRecDepth 20000 in
theorem gX6_occupant_X6_checkTime : GoodIn wsX6_occupant (va_wsS RX6 42 yX6_checkTime wsX6_checkTime) := goodIn_app (goodIn_of _ (by decide +kernel)) ggX6_occupant_X6_checkTime
set_option maxRecDepth 20000 in
theorem ggX6_occupant_Jx4a65c_get_915e3 : GoodIn wsX6_occupant wsJx4a65c_get_915e3 := goodIn_r _ [27, 9, 28, 29, 30, 31, 32, 33, 34, 35, 36, 37, 38, 7, 39, 40, 74, 75, 76] (by decide +kernel) (by decide +kernel)
set_option maxRecDepth 20000 in
theorem gX6_occupant_Jx4a65c_get_915e3 : GoodIn wsX6_occupant (wsV RX6 96 RJx4a65c yJx4a65c_get_915e3 wsJx4a65c_get_915e3) := goodIn_app (goodIn_of _ (by decide +kernel)) ggX6_occupant_Jx4a65c_get_915e3
set_option maxRecDepth 20000 in
theorem ggX6_occupant_X1_holdsBerthAt : GoodIn wsX6_occupant wsX1_holdsBerthAt := goodIn_r _ [45, 46, 47, 56, 57, 58, 59, 60, 61, 62] (by decide +kernel) (by decide +kernel)
set_option maxRecDepth 20000 in
theorem gX6_occupant_X1_holdsBerthAt : GoodIn wsX6_occupant (wsV RX6 215 RX1 yX1_holdsBerthAt wsX1_holdsBerthAt) := goodIn_app (goodIn_of _ (by decide +kernel)) ggX6_occupant_X1_holdsBerthAt
theorem dX6_occupant_0 : decode cX6_occupant 0 = .ok (.iload_n 1, 1) := by decide +kernel
theorem dX6_occupant_1 : decode cX6_occupant 1 = .ok (.aload_n 0, 1) := by decide +kernel
theorem dX6_occupant_2 : decode cX6_occupant 2 = .ok (.getfield 19, 3) := by decide +kernel
theorem dX6_occupant_5 : decode cX6_occupant 5 = .ok (.invokevirtual 76, 3) := by decide +kernel
theorem dX6_occupant_8 : decode cX6_occupant 8 = .ok (.invokestatic 93, 3) := by decide +kernel
theorem dX6_occupant_11 : decode cX6_occupant 11 = .ok (.iload_n 2, 1) := by decide +kernel
theorem dX6_occupant_12 : decode cX6_occupant 12 = .ok (.invokestatic 42, 3) := by decide +kernel
theorem dX6_occupant_15 : decode cX6_occupant 15 = .ok (.iconst 0, 1) := by decide +kernel
theorem dX6_occupant_16 : decode cX6_occupant 16 = .ok (.istore_n 3, 1) := by decide +kernel
theorem dX6_occupant_17 : decode cX6_occupant 17 = .ok (.iload_n 3, 1) := by decide +kernel
theorem dX6_occupant_18 : decode cX6_occupant 18 = .ok (.aload_n 0, 1) := by decide +kernel
theorem dX6_occupant_19 : decode cX6_occupant 19 = .ok (.getfield 29, 3) := by decide +kernel
theorem dX6_occupant_22 : decode cX6_occupant 22 = .ok (.invokevirtual 76, 3) := by decide +kernel
theorem dX6_occupant_25 : decode cX6_occupant 25 = .ok (.if_icmp .ge 58, 3) := by decide +kernel
theorem dX6_occupant_28 : decode cX6_occupant 28 = .ok (.aload_n 0, 1) := by decide +kernel
theorem dX6_occupant_29 : decode cX6_occupant 29 = .ok (.getfield 29, 3) := by decide +kernel
theorem dX6_occupant_32 : decode cX6_occupant 32 = .ok (.iload_n 3, 1) := by decide +kernel
theorem dX6_occupant_33 : decode cX6_occupant 33 = .ok (.invokevirtual 96, 3) := by decide +kernel
theorem dX6_occupant_36 : decode cX6_occupant 36 = .ok (.checkcast 134, 3) := by decide +kernel
theorem dX6_occupant_39 : decode cX6_occupant 39 = .ok (.astore 4, 2) := by decide +kernel
theorem dX6_occupant_41 : decode cX6_occupant 41 = .ok (.aload 4, 2) := by decide +kernel
theorem dX6_occupant_43 : decode cX6_occupant 43 = .ok (.getfield 133, 3) := by decide +kernel
theorem dX6_occupant_46 : decode cX6_occupant 46 = .ok (.getfield 208, 3) := by decide +kernel
theorem dX6_occupant_49 : decode cX6_occupant 49 = .ok (.getfield 212, 3) := by decide +kernel
theorem dX6_occupant_52 : decode cX6_occupant 52 = .ok (.iload_n 1, 1) := by decide +kernel
theorem dX6_occupant_53 : decode cX6_occupant 53 = .ok (.if_icmp .ne 24, 3) := by decide +kernel
theorem dX6_occupant_56 : decode cX6_occupant 56 = .ok (.aload 4, 2) := by decide +kernel
theorem dX6_occupant_58 : decode cX6_occupant 58 = .ok (.iload_n 2, 1) := by decide +kernel
theorem dX6_occupant_59 : decode cX6_occupant 59 = .ok (.invokevirtual 215, 3) := by decide +kernel
theorem dX6_occupant_62 : decode cX6_occupant 62 = .ok (.ifCond .eq 15, 3) := by decide +kernel
theorem dX6_occupant_65 : decode cX6_occupant 65 = .ok (.aload 4, 2) := by decide +kernel
theorem dX6_occupant_67 : decode cX6_occupant 67 = .ok (.getfield 133, 3) := by decide +kernel
theorem dX6_occupant_70 : decode cX6_occupant 70 = .ok (.getfield 188, 3) := by decide +kernel
theorem dX6_occupant_73 : decode cX6_occupant 73 = .ok (.getfield 203, 3) := by decide +kernel
theorem dX6_occupant_76 : decode cX6_occupant 76 = .ok (.ireturn, 1) := by decide +kernel
theorem dX6_occupant_77 : decode cX6_occupant 77 = .ok (.iinc 3 1, 3) := by decide +kernel
theorem dX6_occupant_80 : decode cX6_occupant 80 = .ok (.goto (-63), 3) := by decide +kernel
theorem dX6_occupant_83 : decode cX6_occupant 83 = .ok (.iconst (-1), 1) := by decide +kernel
theorem dX6_occupant_84 : decode cX6_occupant 84 = .ok (.ireturn, 1) := by decide +kernel
theorem dX6_checkRange_0 : decode cX6_checkRange 0 = .ok (.iload_n 0, 1) := by decide +kernel
theorem dX6_checkRange_1 : decode cX6_checkRange 1 = .ok (.iload_n 1, 1) := by decide +kernel
theorem dX6_checkRange_2 : decode cX6_checkRange 2 = .ok (.if_icmp .lt 8, 3) := by decide +kernel
theorem dX6_checkRange_5 : decode cX6_checkRange 5 = .ok (.iload_n 0, 1) := by decide +kernel
theorem dX6_checkRange_6 : decode cX6_checkRange 6 = .ok (.iload_n 2, 1) := by decide +kernel
theorem dX6_checkRange_7 : decode cX6_checkRange 7 = .ok (.if_icmp .le 13, 3) := by decide +kernel
theorem dX6_checkRange_10 : decode cX6_checkRange 10 = .ok (.new 238, 3) := by decide +kernel
theorem dX6_checkRange_13 : decode cX6_checkRange 13 = .ok (.dup, 1) := by decide +kernel
theorem dX6_checkRange_14 : decode cX6_checkRange 14 = .ok (.ldc 240, 2) := by decide +kernel
theorem dX6_checkRange_16 : decode cX6_checkRange 16 = .ok (.invokespecial 242, 3) := by decide +kernel
theorem dX6_checkRange_19 : decode cX6_checkRange 19 = .ok (.athrow, 1) := by decide +kernel
theorem dX6_checkRange_20 : decode cX6_checkRange 20 = .ok (.return_, 1) := by decide +kernel
set_option maxRecDepth 20000 in
theorem ggX6_checkTime_X6_checkRange : GoodIn wsX6_checkTime wsX6_checkRange := goodIn_ca (goodIn_r _ [4, 5, 6] (by decide +kernel) (by decide +kernel)) (goodIn_sub (fun _ h => List.mem_cons_of_mem _ (List.mem_append_right _ h)) (by decide +kernel))
set_option maxRecDepth 20000 in
theorem gX6_checkTime_X6_checkRange : GoodIn wsX6_checkTime (va_wsS RX6 46 yX6_checkRange wsX6_checkRange) := goodIn_app (goodIn_of _ (by decide +kernel)) ggX6_checkTime_X6_checkRange
theorem dX6_checkTime_0 : decode cX6_checkTime 0 = .ok (.iload_n 0, 1) := by decide +kernel
theorem dX6_checkTime_1 : decode cX6_checkTime 1 = .ok (.iconst 0, 1) := by decide +kernel
theorem dX6_checkTime_2 : decode cX6_checkTime 2 = .ok (.sipush 2879, 3) := by decide +kernel
theorem dX6_checkTime_5 : decode cX6_checkTime 5 = .ok (.invokestatic 46, 3) := by decide +kernel
theorem dX6_checkTime_8 : decode cX6_checkTime 8 = .ok (.return_, 1) := by decide +kernel
theorem dX6_checkNumber_0 : decode cX6_checkNumber 0 = .ok (.iload_n 0, 1) := by decide +kernel
theorem dX6_checkNumber_1 : decode cX6_checkNumber 1 = .ok (.ifCond .lt 8, 3) := by decide +kernel
theorem dX6_checkNumber_4 : decode cX6_checkNumber 4 = .ok (.iload_n 0, 1) := by decide +kernel
theorem dX6_checkNumber_5 : decode cX6_checkNumber 5 = .ok (.iload_n 1, 1) := by decide +kernel
theorem dX6_checkNumber_6 : decode cX6_checkNumber 6 = .ok (.if_icmp .lt 13, 3) := by decide +kernel
theorem dX6_checkNumber_9 : decode cX6_checkNumber 9 = .ok (.new 110, 3) := by decide +kernel
theorem dX6_checkNumber_12 : decode cX6_checkNumber 12 = .ok (.dup, 1) := by decide +kernel
theorem dX6_checkNumber_13 : decode cX6_checkNumber 13 = .ok (.ldc 243, 2) := by decide +kernel
theorem dX6_checkNumber_15 : decode cX6_checkNumber 15 = .ok (.invokespecial 114, 3) := by decide +kernel
theorem dX6_checkNumber_18 : decode cX6_checkNumber 18 = .ok (.athrow, 1) := by decide +kernel
theorem dX6_checkNumber_19 : decode cX6_checkNumber 19 = .ok (.return_, 1) := by decide +kernel
theorem dX6_checkRoom_0 : decode cX6_checkRoom 0 = .ok (.iload_n 0, 1) := by decide +kernel
theorem dX6_checkRoom_1 : decode cX6_checkRoom 1 = .ok (.iload_n 1, 1) := by decide +kernel
theorem dX6_checkRoom_2 : decode cX6_checkRoom 2 = .ok (.if_icmp .lt 13, 3) := by decide +kernel
theorem dX6_checkRoom_5 : decode cX6_checkRoom 5 = .ok (.new 61, 3) := by decide +kernel
theorem dX6_checkRoom_8 : decode cX6_checkRoom 8 = .ok (.dup, 1) := by decide +kernel
theorem dX6_checkRoom_9 : decode cX6_checkRoom 9 = .ok (.ldc 245, 2) := by decide +kernel
theorem dX6_checkRoom_11 : decode cX6_checkRoom 11 = .ok (.invokespecial 65, 3) := by decide +kernel
theorem dX6_checkRoom_14 : decode cX6_checkRoom 14 = .ok (.athrow, 1) := by decide +kernel
theorem dX6_checkRoom_15 : decode cX6_checkRoom 15 = .ok (.return_, 1) := by decide +kernel
set_option maxRecDepth 20000 in
theorem ggX6_checkCall_Jx4a65c_size_8abf5 : GoodIn wsX6_checkCall wsJx4a65c_size_8abf5 := goodIn_r _ [7, 8, 31, 32, 33] (by decide +kernel) (by decide +kernel)
set_option maxRecDepth 20000 in
theorem gX6_checkCall_Jx4a65c_size_8abf5 : GoodIn wsX6_checkCall (wsV RX6 76 RJx4a65c yJx4a65c_size_8abf5 wsJx4a65c_size_8abf5) := goodIn_app (goodIn_of _ (by decide +kernel)) ggX6_checkCall_Jx4a65c_size_8abf5
set_option maxRecDepth 20000 in
theorem ggX6_checkCall_X6_checkNumber : GoodIn wsX6_checkCall wsX6_checkNumber := goodIn_ca (goodIn_r _ [12, 13, 14] (by decide +kernel) (by decide +kernel)) (goodIn_sub (fun _ h => List.mem_cons_of_mem _ (List.mem_append_left _ (List.mem_append_right _ h))) (by decide +kernel))
set_option maxRecDepth 20000 in
theorem gX6_checkCall_X6_checkNumber : GoodIn wsX6_checkCall (va_wsS RX6 93 yX6_checkNumber wsX6_checkNumber) := goodIn_app (goodIn_of _ (by decide +kernel)) ggX6_checkCall_X6_checkNumber
set_option maxRecDepth 20000 in
theorem ggX6_checkCall_X6_checkTime : GoodIn wsX6_checkCall wsX6_checkTime := goodIn_ca (goodIn_r _ [17, 18, 19, 11, 20, 21, 22] (by decide +kernel) (by decide +kernel)) (goodIn_sub (fun _ h => List.mem_cons_of_mem _ (List.mem_append_right _ h)) (by decide +kernel))
set_option maxRecDepth 20000 in
theorem gX6_checkCall_X6_checkTime : GoodIn wsX6_checkCall (va_wsS RX6 42 yX6_checkTime wsX6_checkTime) := goodIn_app (goodIn_of _ (by decide +kernel)) ggX6_checkCall_X6_checkTime
theorem dX6_checkCall_0 : decode cX6_checkCall 0 = .ok (.iload_n 1, 1) := by decide +kernel
theorem dX6_checkCall_1 : decode cX6_checkCall 1 = .ok (.aload_n 0, 1) := by decide +kernel
theorem dX6_checkCall_2 : decode cX6_checkCall 2 = .ok (.getfield 23, 3) := by decide +kernel
theorem dX6_checkCall_5 : decode cX6_checkCall 5 = .ok (.invokevirtual 76, 3) := by decide +kernel
theorem dX6_checkCall_8 : decode cX6_checkCall 8 = .ok (.invokestatic 93, 3) := by decide +kernel
theorem dX6_checkCall_11 : decode cX6_checkCall 11 = .ok (.iload_n 2, 1) := by decide +kernel
theorem dX6_checkCall_12 : decode cX6_checkCall 12 = .ok (.iconst (-1), 1) := by decide +kernel
theorem dX6_checkCall_13 : decode cX6_checkCall 13 = .ok (.if_icmp .eq 14, 3) := by decide +kernel
theorem dX6_checkCall_16 : decode cX6_checkCall 16 = .ok (.iload_n 2, 1) := by decide +kernel
theorem dX6_checkCall_17 : decode cX6_checkCall 17 = .ok (.aload_n 0, 1) := by decide +kernel
theorem dX6_checkCall_18 : decode cX6_checkCall 18 = .ok (.getfield 19, 3) := by decide +kernel
theorem dX6_checkCall_21 : decode cX6_checkCall 21 = .ok (.invokevirtual 76, 3) := by decide +kernel
theorem dX6_checkCall_24 : decode cX6_checkCall 24 = .ok (.invokestatic 93, 3) := by decide +kernel
theorem dX6_checkCall_27 : decode cX6_checkCall 27 = .ok (.iload_n 3, 1) := by decide +kernel
theorem dX6_checkCall_28 : decode cX6_checkCall 28 = .ok (.invokestatic 42, 3) := by decide +kernel
theorem dX6_checkCall_31 : decode cX6_checkCall 31 = .ok (.return_, 1) := by decide +kernel
theorem dX6_waterNeed_0 : decode cX6_waterNeed 0 = .ok (.aload_n 1, 1) := by decide +kernel
theorem dX6_waterNeed_1 : decode cX6_waterNeed 1 = .ok (.getfield 100, 3) := by decide +kernel
theorem dX6_waterNeed_4 : decode cX6_waterNeed 4 = .ok (.aload_n 1, 1) := by decide +kernel
theorem dX6_waterNeed_5 : decode cX6_waterNeed 5 = .ok (.getfield 100, 3) := by decide +kernel
theorem dX6_waterNeed_8 : decode cX6_waterNeed 8 = .ok (.bipush 10, 2) := by decide +kernel
theorem dX6_waterNeed_10 : decode cX6_waterNeed 10 = .ok (.idiv, 1) := by decide +kernel
theorem dX6_waterNeed_11 : decode cX6_waterNeed 11 = .ok (.iadd, 1) := by decide +kernel
theorem dX6_waterNeed_12 : decode cX6_waterNeed 12 = .ok (.aload_n 0, 1) := by decide +kernel
theorem dX6_waterNeed_13 : decode cX6_waterNeed 13 = .ok (.getfield 36, 3) := by decide +kernel
theorem dX6_waterNeed_16 : decode cX6_waterNeed 16 = .ok (.iadd, 1) := by decide +kernel
theorem dX6_waterNeed_17 : decode cX6_waterNeed 17 = .ok (.ireturn, 1) := by decide +kernel
set_option maxRecDepth 20000 in
theorem ggX6_hasWater_X5_heightAt : GoodIn wsX6_hasWater wsX5_heightAt := goodIn_r _ [6, 7, 8, 9, 10, 11, 12, 5, 13, 28, 29, 30] (by decide +kernel) (by decide +kernel)
set_option maxRecDepth 20000 in
theorem gX6_hasWater_X5_heightAt : GoodIn wsX6_hasWater (wsV RX6 72 RX5 yX5_heightAt wsX5_heightAt) := goodIn_app (goodIn_of _ (by decide +kernel)) ggX6_hasWater_X5_heightAt
set_option maxRecDepth 20000 in
theorem ggX6_hasWater_X6_waterNeed : GoodIn wsX6_hasWater wsX6_waterNeed := goodIn_r _ [18, 19, 31, 32, 33, 34, 20, 21, 22, 23, 24, 25, 26, 27] (by decide +kernel) (by decide +kernel)
set_option maxRecDepth 20000 in
theorem gX6_hasWater_X6_waterNeed : GoodIn wsX6_hasWater (wsV RX6 115 RX6 yX6_waterNeed wsX6_waterNeed) := goodIn_app (goodIn_of _ (by decide +kernel)) ggX6_hasWater_X6_waterNeed
theorem dX6_hasWater_0 : decode cX6_hasWater 0 = .ok (.iload_n 2, 1) := by decide +kernel
theorem dX6_hasWater_1 : decode cX6_hasWater 1 = .ok (.aload_n 0, 1) := by decide +kernel
theorem dX6_hasWater_2 : decode cX6_hasWater 2 = .ok (.getfield 12, 3) := by decide +kernel
theorem dX6_hasWater_5 : decode cX6_hasWater 5 = .ok (.iload_n 3, 1) := by decide +kernel
theorem dX6_hasWater_6 : decode cX6_hasWater 6 = .ok (.invokevirtual 72, 3) := by decide +kernel
theorem dX6_hasWater_9 : decode cX6_hasWater 9 = .ok (.iadd, 1) := by decide +kernel
theorem dX6_hasWater_10 : decode cX6_hasWater 10 = .ok (.aload_n 0, 1) := by decide +kernel
theorem dX6_hasWater_11 : decode cX6_hasWater 11 = .ok (.aload_n 1, 1) := by decide +kernel
theorem dX6_hasWater_12 : decode cX6_hasWater 12 = .ok (.invokevirtual 115, 3) := by decide +kernel
theorem dX6_hasWater_15 : decode cX6_hasWater 15 = .ok (.if_icmp .lt 7, 3) := by decide +kernel
theorem dX6_hasWater_18 : decode cX6_hasWater 18 = .ok (.iconst 1, 1) := by decide +kernel
theorem dX6_hasWater_19 : decode cX6_hasWater 19 = .ok (.goto 4, 3) := by decide +kernel
theorem dX6_hasWater_22 : decode cX6_hasWater 22 = .ok (.iconst 0, 1) := by decide +kernel
theorem dX6_hasWater_23 : decode cX6_hasWater 23 = .ok (.ireturn, 1) := by decide +kernel
set_option maxRecDepth 20000 in
theorem ggX6_routeOf_Jx4a65c_get_915e3 : GoodIn wsX6_routeOf wsJx4a65c_get_915e3 := goodIn_r _ [12, 13, 14, 15, 16, 17, 18, 19, 20, 21, 22, 23, 24, 11, 25, 26, 63, 64, 65] (by decide +kernel) (by decide +kernel)
set_option maxRecDepth 20000 in
theorem gX6_routeOf_Jx4a65c_get_915e3 : GoodIn wsX6_routeOf (wsV RX6 96 RJx4a65c yJx4a65c_get_915e3 wsJx4a65c_get_915e3) := goodIn_app (goodIn_of _ (by decide +kernel)) ggX6_routeOf_Jx4a65c_get_915e3
set_option maxRecDepth 20000 in
theorem ggX6_routeOf_X3_init : GoodIn wsX6_routeOf wsX3_init := goodIn_r _ [29, 30, 31, 32, 33, 34, 35, 36, 37, 38, 5, 39, 59, 60, 61, 62, 48, 49, 50, 51] (by decide +kernel) (by decide +kernel)
set_option maxRecDepth 20000 in
theorem gX6_routeOf_X3_init : GoodIn wsX6_routeOf (wsX3_init) := ggX6_routeOf_X3_init
theorem dX6_routeOf_0 : decode cX6_routeOf 0 = .ok (.aload_n 0, 1) := by decide +kernel
theorem dX6_routeOf_1 : decode cX6_routeOf 1 = .ok (.getfield 23, 3) := by decide +kernel
